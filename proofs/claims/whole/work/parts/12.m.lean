theorem dX3_kindOf_0 : decode cX3_kindOf 0 = .ok (.iload_n 0, 1) := by decide +kernel
theorem dX3_kindOf_1 : decode cX3_kindOf 1 = .ok (.tableswitch 103 98 116 #[101, 95, 103, 103, 103, 103, 103, 103, 103, 103, 103, 99, 103, 103, 97, 103, 103, 91, 93], 91) := by decide +kernel
theorem dX3_kindOf_92 : decode cX3_kindOf 92 = .ok (.iconst 0, 1) := by decide +kernel
theorem dX3_kindOf_93 : decode cX3_kindOf 93 = .ok (.ireturn, 1) := by decide +kernel
theorem dX3_kindOf_94 : decode cX3_kindOf 94 = .ok (.iconst 1, 1) := by decide +kernel
theorem dX3_kindOf_95 : decode cX3_kindOf 95 = .ok (.ireturn, 1) := by decide +kernel
theorem dX3_kindOf_96 : decode cX3_kindOf 96 = .ok (.iconst 2, 1) := by decide +kernel
theorem dX3_kindOf_97 : decode cX3_kindOf 97 = .ok (.ireturn, 1) := by decide +kernel
theorem dX3_kindOf_98 : decode cX3_kindOf 98 = .ok (.iconst 3, 1) := by decide +kernel
theorem dX3_kindOf_99 : decode cX3_kindOf 99 = .ok (.ireturn, 1) := by decide +kernel
theorem dX3_kindOf_100 : decode cX3_kindOf 100 = .ok (.iconst 4, 1) := by decide +kernel
theorem dX3_kindOf_101 : decode cX3_kindOf 101 = .ok (.ireturn, 1) := by decide +kernel
theorem dX3_kindOf_102 : decode cX3_kindOf 102 = .ok (.iconst 5, 1) := by decide +kernel
theorem dX3_kindOf_103 : decode cX3_kindOf 103 = .ok (.ireturn, 1) := by decide +kernel
theorem dX3_kindOf_104 : decode cX3_kindOf 104 = .ok (.iconst (-1), 1) := by decide +kernel
theorem dX3_kindOf_105 : decode cX3_kindOf 105 = .ok (.ireturn, 1) := by decide +kernel
def j_X3_kindOf (F : Nat) (a1 : Int32) (st : sw_St) : Option Int32 :=
(if a1 = 98 then (
 some (5 : Int32))
else (
 (if a1 = 99 then (
  some (2 : Int32))
 else (
  (if a1 = 100 then (
   some ((-1) : Int32))
  else (
   (if a1 = 101 then (
    some ((-1) : Int32))
   else (
    (if a1 = 102 then (
     some ((-1) : Int32))
    else (
     (if a1 = 103 then (
      some ((-1) : Int32))
     else (
      (if a1 = 104 then (
       some ((-1) : Int32))
      else (
       (if a1 = 105 then (
        some ((-1) : Int32))
       else (
        (if a1 = 106 then (
         some ((-1) : Int32))
        else (
         (if a1 = 107 then (
          some ((-1) : Int32))
         else (
          (if a1 = 108 then (
           some ((-1) : Int32))
          else (
           (if a1 = 109 then (
            some (4 : Int32))
           else (
            (if a1 = 110 then (
             some ((-1) : Int32))
            else (
             (if a1 = 111 then (
              some ((-1) : Int32))
             else (
              (if a1 = 112 then (
               some (3 : Int32))
              else (
               (if a1 = 113 then (
                some ((-1) : Int32))
               else (
                (if a1 = 114 then (
                 some ((-1) : Int32))
                else (
                 (if a1 = 115 then (
                  some (0 : Int32))
                 else (
                  (if a1 = 116 then (
                   some (1 : Int32))
                  else (
                   some ((-1) : Int32)))))))))))))))))))))))))))))))))))))))
set_option maxHeartbeats 4000000 in
set_option maxRecDepth 100000 in
theorem c_X3_kindOf (F : Nat) (a1 : Int32) (st : sw_St) {r : Int32} (h : j_X3_kindOf F a1 st = some r) : sw_CI yX3_kindOf (.code yX3_kindOf cX3_kindOf 1 (some .int)) 1 (fun g => [.int a1]) st r st := by
  refine sw_entI RX3 (fun g => [(0, .int a1)]) (by decide) rfl (fun _ => Nat.le_of_ble_eq_true rfl) (fun _ => rfl) ?_
  intro p l e s m args below meth c g X hr hlk
  unfold j_X3_kindOf at h
  refine sw_iload_n X 0 rfl rfl dX3_kindOf_0 ?_
  by_cases q1 : a1 = 98
  · have h := ite_T h q1
    refine sw_tabIn X (k := 98) (off := 101) 102 q1 (by decide) (by decide) (by decide) (by decide) dX3_kindOf_1 ?_
    refine sw_iconst X (v := 5) (by decide) dX3_kindOf_102 ?_
    exact sw_iret X hr hlk dX3_kindOf_103 (by cases h; rfl)
  · have h := ite_F h q1
    by_cases q2 : a1 = 99
    · have h := ite_T h q2
      refine sw_tabIn X (k := 99) (off := 95) 96 q2 (by decide) (by decide) (by decide) (by decide) dX3_kindOf_1 ?_
      refine sw_iconst X (v := 2) (by decide) dX3_kindOf_96 ?_
      exact sw_iret X hr hlk dX3_kindOf_97 (by cases h; rfl)
    · have h := ite_F h q2
      by_cases q3 : a1 = 100
      · have h := ite_T h q3
        refine sw_tabIn X (k := 100) (off := 103) 104 q3 (by decide) (by decide) (by decide) (by decide) dX3_kindOf_1 ?_
        refine sw_iconst X (v := (-1)) (by decide) dX3_kindOf_104 ?_
        exact sw_iret X hr hlk dX3_kindOf_105 (by cases h; rfl)
      · have h := ite_F h q3
        by_cases q4 : a1 = 101
        · have h := ite_T h q4
          refine sw_tabIn X (k := 101) (off := 103) 104 q4 (by decide) (by decide) (by decide) (by decide) dX3_kindOf_1 ?_
          refine sw_iconst X (v := (-1)) (by decide) dX3_kindOf_104 ?_
          exact sw_iret X hr hlk dX3_kindOf_105 (by cases h; rfl)
        · have h := ite_F h q4
          by_cases q5 : a1 = 102
          · have h := ite_T h q5
            refine sw_tabIn X (k := 102) (off := 103) 104 q5 (by decide) (by decide) (by decide) (by decide) dX3_kindOf_1 ?_
            refine sw_iconst X (v := (-1)) (by decide) dX3_kindOf_104 ?_
            exact sw_iret X hr hlk dX3_kindOf_105 (by cases h; rfl)
          · have h := ite_F h q5
            by_cases q6 : a1 = 103
            · have h := ite_T h q6
              refine sw_tabIn X (k := 103) (off := 103) 104 q6 (by decide) (by decide) (by decide) (by decide) dX3_kindOf_1 ?_
              refine sw_iconst X (v := (-1)) (by decide) dX3_kindOf_104 ?_
              exact sw_iret X hr hlk dX3_kindOf_105 (by cases h; rfl)
            · have h := ite_F h q6
              by_cases q7 : a1 = 104
              · have h := ite_T h q7
                refine sw_tabIn X (k := 104) (off := 103) 104 q7 (by decide) (by decide) (by decide) (by decide) dX3_kindOf_1 ?_
                refine sw_iconst X (v := (-1)) (by decide) dX3_kindOf_104 ?_
                exact sw_iret X hr hlk dX3_kindOf_105 (by cases h; rfl)
              · have h := ite_F h q7
                by_cases q8 : a1 = 105
                · have h := ite_T h q8
                  refine sw_tabIn X (k := 105) (off := 103) 104 q8 (by decide) (by decide) (by decide) (by decide) dX3_kindOf_1 ?_
                  refine sw_iconst X (v := (-1)) (by decide) dX3_kindOf_104 ?_
                  exact sw_iret X hr hlk dX3_kindOf_105 (by cases h; rfl)
                · have h := ite_F h q8
                  by_cases q9 : a1 = 106
                  · have h := ite_T h q9
                    refine sw_tabIn X (k := 106) (off := 103) 104 q9 (by decide) (by decide) (by decide) (by decide) dX3_kindOf_1 ?_
                    refine sw_iconst X (v := (-1)) (by decide) dX3_kindOf_104 ?_
                    exact sw_iret X hr hlk dX3_kindOf_105 (by cases h; rfl)
                  · have h := ite_F h q9
                    by_cases q10 : a1 = 107
                    · have h := ite_T h q10
                      refine sw_tabIn X (k := 107) (off := 103) 104 q10 (by decide) (by decide) (by decide) (by decide) dX3_kindOf_1 ?_
                      refine sw_iconst X (v := (-1)) (by decide) dX3_kindOf_104 ?_
                      exact sw_iret X hr hlk dX3_kindOf_105 (by cases h; rfl)
                    · have h := ite_F h q10
                      by_cases q11 : a1 = 108
                      · have h := ite_T h q11
                        refine sw_tabIn X (k := 108) (off := 103) 104 q11 (by decide) (by decide) (by decide) (by decide) dX3_kindOf_1 ?_
                        refine sw_iconst X (v := (-1)) (by decide) dX3_kindOf_104 ?_
                        exact sw_iret X hr hlk dX3_kindOf_105 (by cases h; rfl)
                      · have h := ite_F h q11
                        by_cases q12 : a1 = 109
                        · have h := ite_T h q12
                          refine sw_tabIn X (k := 109) (off := 99) 100 q12 (by decide) (by decide) (by decide) (by decide) dX3_kindOf_1 ?_
                          refine sw_iconst X (v := 4) (by decide) dX3_kindOf_100 ?_
                          exact sw_iret X hr hlk dX3_kindOf_101 (by cases h; rfl)
                        · have h := ite_F h q12
                          by_cases q13 : a1 = 110
                          · have h := ite_T h q13
                            refine sw_tabIn X (k := 110) (off := 103) 104 q13 (by decide) (by decide) (by decide) (by decide) dX3_kindOf_1 ?_
                            refine sw_iconst X (v := (-1)) (by decide) dX3_kindOf_104 ?_
                            exact sw_iret X hr hlk dX3_kindOf_105 (by cases h; rfl)
                          · have h := ite_F h q13
                            by_cases q14 : a1 = 111
                            · have h := ite_T h q14
                              refine sw_tabIn X (k := 111) (off := 103) 104 q14 (by decide) (by decide) (by decide) (by decide) dX3_kindOf_1 ?_
                              refine sw_iconst X (v := (-1)) (by decide) dX3_kindOf_104 ?_
                              exact sw_iret X hr hlk dX3_kindOf_105 (by cases h; rfl)
                            · have h := ite_F h q14
                              by_cases q15 : a1 = 112
                              · have h := ite_T h q15
                                refine sw_tabIn X (k := 112) (off := 97) 98 q15 (by decide) (by decide) (by decide) (by decide) dX3_kindOf_1 ?_
                                refine sw_iconst X (v := 3) (by decide) dX3_kindOf_98 ?_
                                exact sw_iret X hr hlk dX3_kindOf_99 (by cases h; rfl)
                              · have h := ite_F h q15
                                by_cases q16 : a1 = 113
                                · have h := ite_T h q16
                                  refine sw_tabIn X (k := 113) (off := 103) 104 q16 (by decide) (by decide) (by decide) (by decide) dX3_kindOf_1 ?_
                                  refine sw_iconst X (v := (-1)) (by decide) dX3_kindOf_104 ?_
                                  exact sw_iret X hr hlk dX3_kindOf_105 (by cases h; rfl)
                                · have h := ite_F h q16
                                  by_cases q17 : a1 = 114
                                  · have h := ite_T h q17
                                    refine sw_tabIn X (k := 114) (off := 103) 104 q17 (by decide) (by decide) (by decide) (by decide) dX3_kindOf_1 ?_
                                    refine sw_iconst X (v := (-1)) (by decide) dX3_kindOf_104 ?_
                                    exact sw_iret X hr hlk dX3_kindOf_105 (by cases h; rfl)
                                  · have h := ite_F h q17
                                    by_cases q18 : a1 = 115
                                    · have h := ite_T h q18
                                      refine sw_tabIn X (k := 115) (off := 91) 92 q18 (by decide) (by decide) (by decide) (by decide) dX3_kindOf_1 ?_
                                      refine sw_iconst X (v := 0) (by decide) dX3_kindOf_92 ?_
                                      exact sw_iret X hr hlk dX3_kindOf_93 (by cases h; rfl)
                                    · have h := ite_F h q18
                                      by_cases q19 : a1 = 116
                                      · have h := ite_T h q19
                                        refine sw_tabIn X (k := 116) (off := 93) 94 q19 (by decide) (by decide) (by decide) (by decide) dX3_kindOf_1 ?_
                                        refine sw_iconst X (v := 1) (by decide) dX3_kindOf_94 ?_
                                        exact sw_iret X hr hlk dX3_kindOf_95 (by cases h; rfl)
                                      · have h := ite_F h q19
                                        have n0 := lv_neT q1 (show (98 : Int32).toInt = 98 by decide)
                                        have n1 := lv_neT q2 (show (99 : Int32).toInt = 99 by decide)
                                        have n2 := lv_neT q3 (show (100 : Int32).toInt = 100 by decide)
                                        have n3 := lv_neT q4 (show (101 : Int32).toInt = 101 by decide)
                                        have n4 := lv_neT q5 (show (102 : Int32).toInt = 102 by decide)
                                        have n5 := lv_neT q6 (show (103 : Int32).toInt = 103 by decide)
                                        have n6 := lv_neT q7 (show (104 : Int32).toInt = 104 by decide)
                                        have n7 := lv_neT q8 (show (105 : Int32).toInt = 105 by decide)
                                        have n8 := lv_neT q9 (show (106 : Int32).toInt = 106 by decide)
                                        have n9 := lv_neT q10 (show (107 : Int32).toInt = 107 by decide)
                                        have n10 := lv_neT q11 (show (108 : Int32).toInt = 108 by decide)
                                        have n11 := lv_neT q12 (show (109 : Int32).toInt = 109 by decide)
                                        have n12 := lv_neT q13 (show (110 : Int32).toInt = 110 by decide)
                                        have n13 := lv_neT q14 (show (111 : Int32).toInt = 111 by decide)
                                        have n14 := lv_neT q15 (show (112 : Int32).toInt = 112 by decide)
                                        have n15 := lv_neT q16 (show (113 : Int32).toInt = 113 by decide)
                                        have n16 := lv_neT q17 (show (114 : Int32).toInt = 114 by decide)
                                        have n17 := lv_neT q18 (show (115 : Int32).toInt = 115 by decide)
                                        have n18 := lv_neT q19 (show (116 : Int32).toInt = 116 by decide)
                                        refine sw_tabOut X 104 (by omega) (by decide) dX3_kindOf_1 ?_
                                        refine sw_iconst X (v := (-1)) (by decide) dX3_kindOf_104 ?_
                                        exact sw_iret X hr hlk dX3_kindOf_105 (by cases h; rfl)
theorem dX3_readKind_0 : decode cX3_readKind 0 = .ok (.aload_n 0, 1) := by decide +kernel
theorem dX3_readKind_1 : decode cX3_readKind 1 = .ok (.getfield 19, 3) := by decide +kernel
theorem dX3_readKind_4 : decode cX3_readKind 4 = .ok (.aload_n 0, 1) := by decide +kernel
theorem dX3_readKind_5 : decode cX3_readKind 5 = .ok (.getfield 15, 3) := by decide +kernel
theorem dX3_readKind_8 : decode cX3_readKind 8 = .ok (.if_icmp .lt 5, 3) := by decide +kernel
theorem dX3_readKind_11 : decode cX3_readKind 11 = .ok (.iconst (-1), 1) := by decide +kernel
theorem dX3_readKind_12 : decode cX3_readKind 12 = .ok (.ireturn, 1) := by decide +kernel
theorem dX3_readKind_13 : decode cX3_readKind 13 = .ok (.aload_n 0, 1) := by decide +kernel
theorem dX3_readKind_14 : decode cX3_readKind 14 = .ok (.getfield 9, 3) := by decide +kernel
theorem dX3_readKind_17 : decode cX3_readKind 17 = .ok (.aload_n 0, 1) := by decide +kernel
theorem dX3_readKind_18 : decode cX3_readKind 18 = .ok (.getfield 19, 3) := by decide +kernel
theorem dX3_readKind_21 : decode cX3_readKind 21 = .ok (.baload, 1) := by decide +kernel
theorem dX3_readKind_22 : decode cX3_readKind 22 = .ok (.invokestatic 63, 3) := by decide +kernel
theorem dX3_readKind_25 : decode cX3_readKind 25 = .ok (.istore_n 1, 1) := by decide +kernel
theorem dX3_readKind_26 : decode cX3_readKind 26 = .ok (.iload_n 1, 1) := by decide +kernel
theorem dX3_readKind_27 : decode cX3_readKind 27 = .ok (.ifCond .lt 13, 3) := by decide +kernel
theorem dX3_readKind_30 : decode cX3_readKind 30 = .ok (.aload_n 0, 1) := by decide +kernel
theorem dX3_readKind_31 : decode cX3_readKind 31 = .ok (.dup, 1) := by decide +kernel
theorem dX3_readKind_32 : decode cX3_readKind 32 = .ok (.getfield 19, 3) := by decide +kernel
theorem dX3_readKind_35 : decode cX3_readKind 35 = .ok (.iconst 1, 1) := by decide +kernel
theorem dX3_readKind_36 : decode cX3_readKind 36 = .ok (.iadd, 1) := by decide +kernel
theorem dX3_readKind_37 : decode cX3_readKind 37 = .ok (.putfield 19, 3) := by decide +kernel
theorem dX3_readKind_40 : decode cX3_readKind 40 = .ok (.iload_n 1, 1) := by decide +kernel
theorem dX3_readKind_41 : decode cX3_readKind 41 = .ok (.ireturn, 1) := by decide +kernel
def j_X3_readKind (F : Nat) (st : sw_St) : Option (Int32 × sw_St) :=
(if (st.1 52 2) < (st.1 52 1) then (
 grd (sw_kd st.2.2 = 7) (bnd (st.1 52 2) (sw_ln st.2.2) (
 bo (j_X3_kindOf F (st.1 st.2.2 ((st.1 52 2) : Int32).toNatClampNeg) st) (fun (r5 : Int32) =>
 jn (fun (s6 : sw_St) => 
   some ((r5 : Int32), s6)) (fun k7 =>
  (if r5 < 0 then (
   k7 st)
  else (
   nm (sw_setC st 52 2 ((st.1 52 2) + 1)) (fun (s10 : sw_St) =>
   k7 s10))))))))
else (
 some (((-1) : Int32), st)))
set_option maxHeartbeats 4000000 in
set_option maxRecDepth 100000 in
theorem c_X3_readKind (F : Nat) (st : sw_St) {r : Int32} {st1 : sw_St} (h : j_X3_readKind F  st = some (r, st1)) : sw_CI yX3_readKind (.code yX3_readKind cX3_readKind 2 (some .int)) 2 (fun g => [.ref (g.1 52)]) st r st1 := by
  refine sw_entI RX3 (fun g => [(0, .ref (g.1 52))]) (by decide) rfl (fun _ => Nat.le_of_ble_eq_true rfl) (fun _ => rfl) ?_
  intro p l e s m args below meth c g X hr hlk
  unfold j_X3_readKind at h
  refine sw_aload_n X 0 rfl rfl dX3_readKind_0 ?_
  refine sw_getI X sw_cl3 (show sw_kd 52 = 3 from rfl) (k := 2) rfl (by decide) wf_X3_19 dX3_readKind_1 ?_
  refine sw_aload_n X 0 rfl rfl dX3_readKind_4 ?_
  refine sw_getI X sw_cl3 (show sw_kd 52 = 3 from rfl) (k := 1) rfl (by decide) wf_X3_15 dX3_readKind_5 ?_
  refine sw_icmp_lt X 13 (by decide) dX3_readKind_8 (fun q1 => ?_) (fun q1 => ?_)
  · have h := ite_T h q1
    refine sw_aload_n X 0 rfl rfl dX3_readKind_13 ?_
    refine sw_getR X sw_cl3 (show sw_kd 52 = 3 from rfl) (k := 0) rfl (by decide) (o1 := st.2.2) rfl wf_X3_9 dX3_readKind_14 ?_
    refine sw_aload_n X 0 rfl rfl dX3_readKind_17 ?_
    refine sw_getI X sw_cl3 (show sw_kd 52 = 3 from rfl) (k := 2) rfl (by decide) wf_X3_19 dX3_readKind_18 ?_
    obtain ⟨q3, h⟩ := grd_E h
    obtain ⟨q2, h⟩ := bnd_E h
    refine sw_bald X q3 rfl q2 dX3_readKind_21 ?_
    obtain ⟨r5, c4, h⟩ := bo_E h
    refine sw_callSI X (As := (fun g => [.int (st.1 st.2.2 ((st.1 52 2) : Int32).toNatClampNeg)])) ws_X3_kindOf (by omega) (c_X3_kindOf F (st.1 st.2.2 ((st.1 52 2) : Int32).toNatClampNeg) st c4) rfl rfl (Nat.le_of_ble_eq_true rfl) wm_X3_63 dX3_readKind_22 ?_
    refine sw_istore_n X [(1, .int r5), (0, .ref (g.1 52))] rfl (by decide) rfl dX3_readKind_25 ?_
    refine sw_iload_n X 0 rfl rfl dX3_readKind_26 ?_
    refine jn1_E (fun (s6 : sw_St) => sw_V p l e 2 s m args below meth c g (sw_A g s.heap.size) (sw_QI below g args s r st1) 2 40 [(1, .int r5)] [] s6) h (fun s6 h => ?_) (fun k7 J8 h => ?_)
    · refine sw_iload_n X 0 rfl rfl dX3_readKind_40 ?_
      exact sw_iret X hr hlk dX3_readKind_41 h
    · refine sw_if_lt X 40 (by decide) dX3_readKind_27 (fun q9 => ?_) (fun q9 => ?_)
      · have h := ite_T h q9
        refine sw_sub [0] rfl ?_
        exact J8 _ h
      · have h := ite_F h q9
        refine sw_aload_n X 1 rfl rfl dX3_readKind_30 ?_
        refine sw_dup X rfl dX3_readKind_31 ?_
        refine sw_getI X sw_cl3 (show sw_kd 52 = 3 from rfl) (k := 2) rfl (by decide) wf_X3_19 dX3_readKind_32 ?_
        refine sw_iconst X (v := 1) (by decide) dX3_readKind_35 ?_
        refine sw_iadd X dX3_readKind_36 ?_
        refine sw_putI X sw_cl3 (show sw_kd 52 = 3 from rfl) (k := 2) rfl (by decide) rfl rfl wf_X3_19 dX3_readKind_37 (fun s10 es10 => ?_)
        have h := nm_E h es10
        refine sw_sub [0] rfl ?_
        exact J8 _ h
  · have h := ite_F h q1
    refine sw_iconst X (v := (-1)) (by decide) dX3_readKind_11 ?_
    exact sw_iret X hr hlk dX3_readKind_12 h
theorem dX3_readStranger_0 : decode cX3_readStranger 0 = .ok (.aload_n 1, 1) := by decide +kernel
theorem dX3_readStranger_1 : decode cX3_readStranger 1 = .ok (.getfield 46, 3) := by decide +kernel
theorem dX3_readStranger_4 : decode cX3_readStranger 4 = .ok (.iload_n 2, 1) := by decide +kernel
theorem dX3_readStranger_5 : decode cX3_readStranger 5 = .ok (.aload_n 0, 1) := by decide +kernel
theorem dX3_readStranger_6 : decode cX3_readStranger 6 = .ok (.invokevirtual 50, 3) := by decide +kernel
theorem dX3_readStranger_9 : decode cX3_readStranger 9 = .ok (.iastore, 1) := by decide +kernel
theorem dX3_readStranger_10 : decode cX3_readStranger 10 = .ok (.aload_n 1, 1) := by decide +kernel
theorem dX3_readStranger_11 : decode cX3_readStranger 11 = .ok (.getfield 46, 3) := by decide +kernel
theorem dX3_readStranger_14 : decode cX3_readStranger 14 = .ok (.iload_n 2, 1) := by decide +kernel
theorem dX3_readStranger_15 : decode cX3_readStranger 15 = .ok (.iaload, 1) := by decide +kernel
theorem dX3_readStranger_16 : decode cX3_readStranger 16 = .ok (.ifCond .ge 5, 3) := by decide +kernel
theorem dX3_readStranger_19 : decode cX3_readStranger 19 = .ok (.iconst 0, 1) := by decide +kernel
theorem dX3_readStranger_20 : decode cX3_readStranger 20 = .ok (.ireturn, 1) := by decide +kernel
theorem dX3_readStranger_21 : decode cX3_readStranger 21 = .ok (.aload_n 1, 1) := by decide +kernel
theorem dX3_readStranger_22 : decode cX3_readStranger 22 = .ok (.getfield 54, 3) := by decide +kernel
theorem dX3_readStranger_25 : decode cX3_readStranger 25 = .ok (.iload_n 2, 1) := by decide +kernel
theorem dX3_readStranger_26 : decode cX3_readStranger 26 = .ok (.aload_n 0, 1) := by decide +kernel
theorem dX3_readStranger_27 : decode cX3_readStranger 27 = .ok (.iconst 1, 1) := by decide +kernel
theorem dX3_readStranger_28 : decode cX3_readStranger 28 = .ok (.bipush 9, 2) := by decide +kernel
theorem dX3_readStranger_30 : decode cX3_readStranger 30 = .ok (.invokevirtual 36, 3) := by decide +kernel
theorem dX3_readStranger_33 : decode cX3_readStranger 33 = .ok (.iastore, 1) := by decide +kernel
theorem dX3_readStranger_34 : decode cX3_readStranger 34 = .ok (.aload_n 1, 1) := by decide +kernel
theorem dX3_readStranger_35 : decode cX3_readStranger 35 = .ok (.getfield 54, 3) := by decide +kernel
theorem dX3_readStranger_38 : decode cX3_readStranger 38 = .ok (.iload_n 2, 1) := by decide +kernel
theorem dX3_readStranger_39 : decode cX3_readStranger 39 = .ok (.iaload, 1) := by decide +kernel
theorem dX3_readStranger_40 : decode cX3_readStranger 40 = .ok (.ifCond .ge 5, 3) := by decide +kernel
theorem dX3_readStranger_43 : decode cX3_readStranger 43 = .ok (.iconst 0, 1) := by decide +kernel
theorem dX3_readStranger_44 : decode cX3_readStranger 44 = .ok (.ireturn, 1) := by decide +kernel
theorem dX3_readStranger_45 : decode cX3_readStranger 45 = .ok (.aload_n 1, 1) := by decide +kernel
theorem dX3_readStranger_46 : decode cX3_readStranger 46 = .ok (.getfield 57, 3) := by decide +kernel
theorem dX3_readStranger_49 : decode cX3_readStranger 49 = .ok (.iload_n 2, 1) := by decide +kernel
theorem dX3_readStranger_50 : decode cX3_readStranger 50 = .ok (.aload_n 0, 1) := by decide +kernel
theorem dX3_readStranger_51 : decode cX3_readStranger 51 = .ok (.iconst 0, 1) := by decide +kernel
theorem dX3_readStranger_52 : decode cX3_readStranger 52 = .ok (.iconst 1, 1) := by decide +kernel
theorem dX3_readStranger_53 : decode cX3_readStranger 53 = .ok (.invokevirtual 36, 3) := by decide +kernel
theorem dX3_readStranger_56 : decode cX3_readStranger 56 = .ok (.iastore, 1) := by decide +kernel
theorem dX3_readStranger_57 : decode cX3_readStranger 57 = .ok (.aload_n 1, 1) := by decide +kernel
theorem dX3_readStranger_58 : decode cX3_readStranger 58 = .ok (.getfield 57, 3) := by decide +kernel
theorem dX3_readStranger_61 : decode cX3_readStranger 61 = .ok (.iload_n 2, 1) := by decide +kernel
theorem dX3_readStranger_62 : decode cX3_readStranger 62 = .ok (.iaload, 1) := by decide +kernel
theorem dX3_readStranger_63 : decode cX3_readStranger 63 = .ok (.ifCond .ge 5, 3) := by decide +kernel
theorem dX3_readStranger_66 : decode cX3_readStranger 66 = .ok (.iconst 0, 1) := by decide +kernel
theorem dX3_readStranger_67 : decode cX3_readStranger 67 = .ok (.ireturn, 1) := by decide +kernel
theorem dX3_readStranger_68 : decode cX3_readStranger 68 = .ok (.aload_n 1, 1) := by decide +kernel
theorem dX3_readStranger_69 : decode cX3_readStranger 69 = .ok (.getfield 60, 3) := by decide +kernel
theorem dX3_readStranger_72 : decode cX3_readStranger 72 = .ok (.iload_n 2, 1) := by decide +kernel
theorem dX3_readStranger_73 : decode cX3_readStranger 73 = .ok (.aload_n 0, 1) := by decide +kernel
theorem dX3_readStranger_74 : decode cX3_readStranger 74 = .ok (.iconst 0, 1) := by decide +kernel
theorem dX3_readStranger_75 : decode cX3_readStranger 75 = .ok (.bipush 9, 2) := by decide +kernel
theorem dX3_readStranger_77 : decode cX3_readStranger 77 = .ok (.invokevirtual 36, 3) := by decide +kernel
theorem dX3_readStranger_80 : decode cX3_readStranger 80 = .ok (.iastore, 1) := by decide +kernel
theorem dX3_readStranger_81 : decode cX3_readStranger 81 = .ok (.aload_n 1, 1) := by decide +kernel
theorem dX3_readStranger_82 : decode cX3_readStranger 82 = .ok (.getfield 60, 3) := by decide +kernel
theorem dX3_readStranger_85 : decode cX3_readStranger 85 = .ok (.iload_n 2, 1) := by decide +kernel
theorem dX3_readStranger_86 : decode cX3_readStranger 86 = .ok (.iaload, 1) := by decide +kernel
theorem dX3_readStranger_87 : decode cX3_readStranger 87 = .ok (.ifCond .lt 7, 3) := by decide +kernel
theorem dX3_readStranger_90 : decode cX3_readStranger 90 = .ok (.iconst 1, 1) := by decide +kernel
theorem dX3_readStranger_91 : decode cX3_readStranger 91 = .ok (.goto 4, 3) := by decide +kernel
theorem dX3_readStranger_94 : decode cX3_readStranger 94 = .ok (.iconst 0, 1) := by decide +kernel
theorem dX3_readStranger_95 : decode cX3_readStranger 95 = .ok (.ireturn, 1) := by decide +kernel
def j_X3_readStranger (F : Nat) (a2 : Int32) (st : sw_St) : Option (Int32 × sw_St) :=
bd (j_X3_readKind F st) (fun (r2 : Int32) (s3 : sw_St) =>
bnd a2 6 (
nm (sw_setC s3 23 (a2 : Int32).toNatClampNeg r2) (fun (s5 : sw_St) =>
bnd a2 6 (
(if 0 ≤ (s5.1 23 (a2 : Int32).toNatClampNeg) then (
 bd (j_X3_readFigure F 1 9 s5) (fun (r9 : Int32) (s10 : sw_St) =>
 bnd a2 6 (
 nm (sw_setC s10 24 (a2 : Int32).toNatClampNeg r9) (fun (s12 : sw_St) =>
 bnd a2 6 (
 (if 0 ≤ (s12.1 24 (a2 : Int32).toNatClampNeg) then (
  bd (j_X3_readFigure F 0 1 s12) (fun (r16 : Int32) (s17 : sw_St) =>
  bnd a2 6 (
  nm (sw_setC s17 25 (a2 : Int32).toNatClampNeg r16) (fun (s19 : sw_St) =>
  bnd a2 6 (
  (if 0 ≤ (s19.1 25 (a2 : Int32).toNatClampNeg) then (
   bd (j_X3_readFigure F 0 9 s19) (fun (r23 : Int32) (s24 : sw_St) =>
   bnd a2 6 (
   nm (sw_setC s24 26 (a2 : Int32).toNatClampNeg r23) (fun (s26 : sw_St) =>
   bnd a2 6 (
   jn (fun (x28 : Int32) => 
     grd (x28 = 0 ∨ x28 = 1) (some ((x28 : Int32), s26))) (fun k29 =>
    (if (s26.1 26 (a2 : Int32).toNatClampNeg) < 0 then (
     k29 0)
    else (
     k29 1))))))))
  else (
   some ((0 : Int32), s19))))))))
 else (
  some ((0 : Int32), s12))))))))
else (
 some ((0 : Int32), s5)))))))
set_option maxHeartbeats 4000000 in
set_option maxRecDepth 100000 in
theorem c_X3_readStranger (F : Nat) (a2 : Int32) (st : sw_St) {r : Int32} {st1 : sw_St} (h : j_X3_readStranger F a2 st = some (r, st1)) : sw_CI yX3_readStranger (.code yX3_readStranger cX3_readStranger 3 (some .boolean)) 3 (fun g => [.ref (g.1 52), .ref (g.1 22), .int a2]) st r st1 := by
  refine sw_entI RX3 (fun g => [(0, .ref (g.1 52)), (1, .ref (g.1 22)), (2, .int a2)]) (by decide) rfl (fun _ => Nat.le_of_ble_eq_true rfl) (fun _ => rfl) ?_
  intro p l e s m args below meth c g X hr hlk
  unfold j_X3_readStranger at h
  refine sw_aload_n X 1 rfl rfl dX3_readStranger_0 ?_
  refine sw_getR X sw_cl4 (show sw_kd 22 = 4 from rfl) (k := 1) rfl (by decide) (o1 := 23) rfl wf_X3_46 dX3_readStranger_1 ?_
  refine sw_iload_n X 2 rfl rfl dX3_readStranger_4 ?_
  refine sw_aload_n X 0 rfl rfl dX3_readStranger_5 ?_
  obtain ⟨r2, s3, c1, h⟩ := bd_E h
  refine sw_callVI X (o := 52) (As := (fun g => [])) sw_cl3 (show sw_kd 52 = 3 from rfl) ws_X3_readKind (by omega) (c_X3_readKind F st c1) rfl rfl (Nat.le_of_ble_eq_true rfl) wm_X3_50 dX3_readStranger_6 ?_
  obtain ⟨q4, h⟩ := bnd_E h
  refine sw_iast X (show sw_kd 23 = 8 from rfl) (n := 6) rfl q4 dX3_readStranger_9 (fun s5 es5 => ?_)
  have h := nm_E h es5
  refine sw_aload_n X 1 rfl rfl dX3_readStranger_10 ?_
  refine sw_getR X sw_cl4 (show sw_kd 22 = 4 from rfl) (k := 1) rfl (by decide) (o1 := 23) rfl wf_X3_46 dX3_readStranger_11 ?_
  refine sw_iload_n X 2 rfl rfl dX3_readStranger_14 ?_
  obtain ⟨q6, h⟩ := bnd_E h
  refine sw_iald X (show sw_kd 23 = 8 from rfl) (n := 6) rfl q6 dX3_readStranger_15 ?_
  refine sw_if_ge X 21 (by decide) dX3_readStranger_16 (fun q7 => ?_) (fun q7 => ?_)
  · have h := ite_T h q7
    refine sw_aload_n X 1 rfl rfl dX3_readStranger_21 ?_
    refine sw_getR X sw_cl4 (show sw_kd 22 = 4 from rfl) (k := 2) rfl (by decide) (o1 := 24) rfl wf_X3_54 dX3_readStranger_22 ?_
    refine sw_iload_n X 2 rfl rfl dX3_readStranger_25 ?_
    refine sw_aload_n X 0 rfl rfl dX3_readStranger_26 ?_
    refine sw_iconst X (v := 1) (by decide) dX3_readStranger_27 ?_
    refine sw_bipush X (v := 9) (by decide) dX3_readStranger_28 ?_
    obtain ⟨r9, s10, c8, h⟩ := bd_E h
    refine sw_callVI X (o := 52) (As := (fun g => [.int 1, .int 9])) sw_cl3 (show sw_kd 52 = 3 from rfl) ws_X3_readFigure (by omega) (c_X3_readFigure F 1 9 s5 c8) rfl rfl (Nat.le_of_ble_eq_true rfl) wm_X3_36 dX3_readStranger_30 ?_
    obtain ⟨q11, h⟩ := bnd_E h
    refine sw_iast X (show sw_kd 24 = 8 from rfl) (n := 6) rfl q11 dX3_readStranger_33 (fun s12 es12 => ?_)
    have h := nm_E h es12
    refine sw_aload_n X 1 rfl rfl dX3_readStranger_34 ?_
    refine sw_getR X sw_cl4 (show sw_kd 22 = 4 from rfl) (k := 2) rfl (by decide) (o1 := 24) rfl wf_X3_54 dX3_readStranger_35 ?_
    refine sw_iload_n X 2 rfl rfl dX3_readStranger_38 ?_
    obtain ⟨q13, h⟩ := bnd_E h
    refine sw_iald X (show sw_kd 24 = 8 from rfl) (n := 6) rfl q13 dX3_readStranger_39 ?_
    refine sw_if_ge X 45 (by decide) dX3_readStranger_40 (fun q14 => ?_) (fun q14 => ?_)
    · have h := ite_T h q14
      refine sw_aload_n X 1 rfl rfl dX3_readStranger_45 ?_
      refine sw_getR X sw_cl4 (show sw_kd 22 = 4 from rfl) (k := 3) rfl (by decide) (o1 := 25) rfl wf_X3_57 dX3_readStranger_46 ?_
      refine sw_iload_n X 2 rfl rfl dX3_readStranger_49 ?_
      refine sw_aload_n X 0 rfl rfl dX3_readStranger_50 ?_
      refine sw_iconst X (v := 0) (by decide) dX3_readStranger_51 ?_
      refine sw_iconst X (v := 1) (by decide) dX3_readStranger_52 ?_
      obtain ⟨r16, s17, c15, h⟩ := bd_E h
      refine sw_callVI X (o := 52) (As := (fun g => [.int 0, .int 1])) sw_cl3 (show sw_kd 52 = 3 from rfl) ws_X3_readFigure (by omega) (c_X3_readFigure F 0 1 s12 c15) rfl rfl (Nat.le_of_ble_eq_true rfl) wm_X3_36 dX3_readStranger_53 ?_
      obtain ⟨q18, h⟩ := bnd_E h
      refine sw_iast X (show sw_kd 25 = 8 from rfl) (n := 6) rfl q18 dX3_readStranger_56 (fun s19 es19 => ?_)
      have h := nm_E h es19
      refine sw_aload_n X 1 rfl rfl dX3_readStranger_57 ?_
      refine sw_getR X sw_cl4 (show sw_kd 22 = 4 from rfl) (k := 3) rfl (by decide) (o1 := 25) rfl wf_X3_57 dX3_readStranger_58 ?_
      refine sw_iload_n X 2 rfl rfl dX3_readStranger_61 ?_
      obtain ⟨q20, h⟩ := bnd_E h
      refine sw_iald X (show sw_kd 25 = 8 from rfl) (n := 6) rfl q20 dX3_readStranger_62 ?_
      refine sw_if_ge X 68 (by decide) dX3_readStranger_63 (fun q21 => ?_) (fun q21 => ?_)
      · have h := ite_T h q21
        refine sw_aload_n X 1 rfl rfl dX3_readStranger_68 ?_
        refine sw_getR X sw_cl4 (show sw_kd 22 = 4 from rfl) (k := 4) rfl (by decide) (o1 := 26) rfl wf_X3_60 dX3_readStranger_69 ?_
        refine sw_iload_n X 2 rfl rfl dX3_readStranger_72 ?_
        refine sw_aload_n X 0 rfl rfl dX3_readStranger_73 ?_
        refine sw_iconst X (v := 0) (by decide) dX3_readStranger_74 ?_
        refine sw_bipush X (v := 9) (by decide) dX3_readStranger_75 ?_
        obtain ⟨r23, s24, c22, h⟩ := bd_E h
        refine sw_callVI X (o := 52) (As := (fun g => [.int 0, .int 9])) sw_cl3 (show sw_kd 52 = 3 from rfl) ws_X3_readFigure (by omega) (c_X3_readFigure F 0 9 s19 c22) rfl rfl (Nat.le_of_ble_eq_true rfl) wm_X3_36 dX3_readStranger_77 ?_
        obtain ⟨q25, h⟩ := bnd_E h
        refine sw_iast X (show sw_kd 26 = 8 from rfl) (n := 6) rfl q25 dX3_readStranger_80 (fun s26 es26 => ?_)
        have h := nm_E h es26
        refine sw_aload_n X 1 rfl rfl dX3_readStranger_81 ?_
        refine sw_getR X sw_cl4 (show sw_kd 22 = 4 from rfl) (k := 4) rfl (by decide) (o1 := 26) rfl wf_X3_60 dX3_readStranger_82 ?_
        refine sw_iload_n X 2 rfl rfl dX3_readStranger_85 ?_
        obtain ⟨q27, h⟩ := bnd_E h
        refine sw_iald X (show sw_kd 26 = 8 from rfl) (n := 6) rfl q27 dX3_readStranger_86 ?_
        refine jn1_E (fun (x28 : Int32) => sw_V p l e 3 s m args below meth c g (sw_A g s.heap.size) (sw_QI below g args s r st1) 3 95 [] [.int x28] s26) h (fun x28 h => ?_) (fun k29 J30 h => ?_)
        · obtain ⟨q31, h⟩ := grd_E h
          exact sw_zret X hr hlk q31 dX3_readStranger_95 h
        · refine sw_if_lt X 94 (by decide) dX3_readStranger_87 (fun q32 => ?_) (fun q32 => ?_)
          · have h := ite_T h q32
            refine sw_iconst X (v := 0) (by decide) dX3_readStranger_94 ?_
            refine sw_sub [] rfl ?_
            exact J30 _ h
          · have h := ite_F h q32
            refine sw_iconst X (v := 1) (by decide) dX3_readStranger_90 ?_
            refine sw_goto X 95 (by decide) dX3_readStranger_91 ?_
            refine sw_sub [] rfl ?_
            exact J30 _ h
      · have h := ite_F h q21
        refine sw_iconst X (v := 0) (by decide) dX3_readStranger_66 ?_
        exact sw_zret X hr hlk (Or.inl rfl) dX3_readStranger_67 h
    · have h := ite_F h q14
      refine sw_iconst X (v := 0) (by decide) dX3_readStranger_43 ?_
      exact sw_zret X hr hlk (Or.inl rfl) dX3_readStranger_44 h
  · have h := ite_F h q7
    refine sw_iconst X (v := 0) (by decide) dX3_readStranger_19 ?_
    exact sw_zret X hr hlk (Or.inl rfl) dX3_readStranger_20 h
theorem dX3_skipBlanks_0 : decode cX3_skipBlanks 0 = .ok (.aload_n 0, 1) := by decide +kernel
theorem dX3_skipBlanks_1 : decode cX3_skipBlanks 1 = .ok (.getfield 19, 3) := by decide +kernel
theorem dX3_skipBlanks_4 : decode cX3_skipBlanks 4 = .ok (.aload_n 0, 1) := by decide +kernel
theorem dX3_skipBlanks_5 : decode cX3_skipBlanks 5 = .ok (.getfield 15, 3) := by decide +kernel
theorem dX3_skipBlanks_8 : decode cX3_skipBlanks 8 = .ok (.if_icmp .ge 30, 3) := by decide +kernel
theorem dX3_skipBlanks_11 : decode cX3_skipBlanks 11 = .ok (.aload_n 0, 1) := by decide +kernel
theorem dX3_skipBlanks_12 : decode cX3_skipBlanks 12 = .ok (.getfield 9, 3) := by decide +kernel
theorem dX3_skipBlanks_15 : decode cX3_skipBlanks 15 = .ok (.aload_n 0, 1) := by decide +kernel
theorem dX3_skipBlanks_16 : decode cX3_skipBlanks 16 = .ok (.getfield 19, 3) := by decide +kernel
theorem dX3_skipBlanks_19 : decode cX3_skipBlanks 19 = .ok (.baload, 1) := by decide +kernel
theorem dX3_skipBlanks_20 : decode cX3_skipBlanks 20 = .ok (.bipush 32, 2) := by decide +kernel
theorem dX3_skipBlanks_22 : decode cX3_skipBlanks 22 = .ok (.if_icmp .ne 16, 3) := by decide +kernel
theorem dX3_skipBlanks_25 : decode cX3_skipBlanks 25 = .ok (.aload_n 0, 1) := by decide +kernel
theorem dX3_skipBlanks_26 : decode cX3_skipBlanks 26 = .ok (.dup, 1) := by decide +kernel
theorem dX3_skipBlanks_27 : decode cX3_skipBlanks 27 = .ok (.getfield 19, 3) := by decide +kernel
theorem dX3_skipBlanks_30 : decode cX3_skipBlanks 30 = .ok (.iconst 1, 1) := by decide +kernel
theorem dX3_skipBlanks_31 : decode cX3_skipBlanks 31 = .ok (.iadd, 1) := by decide +kernel
theorem dX3_skipBlanks_32 : decode cX3_skipBlanks 32 = .ok (.putfield 19, 3) := by decide +kernel
theorem dX3_skipBlanks_35 : decode cX3_skipBlanks 35 = .ok (.goto (-35), 3) := by decide +kernel
theorem dX3_skipBlanks_38 : decode cX3_skipBlanks 38 = .ok (.return_, 1) := by decide +kernel
def j_X3_skipBlanks (F : Nat) (st : sw_St) : Option (Unit × sw_St) :=
lz1 (fun f2 (s1 : sw_St) =>
 jn (
   some ((), s1)) (fun k4 =>
  (if (s1.1 52 1) ≤ (s1.1 52 2) then (
   k4)
  else (
   grd (sw_kd s1.2.2 = 7) (bnd (s1.1 52 2) (sw_ln s1.2.2) (
   (if (s1.1 s1.2.2 ((s1.1 52 2) : Int32).toNatClampNeg) = 32 then (
    nm (sw_setC s1 52 2 ((s1.1 52 2) + 1)) (fun (s10 : sw_St) =>
    f2 s10))
   else (
    k4)))))))) F st
set_option maxHeartbeats 4000000 in
set_option maxRecDepth 100000 in
theorem c_X3_skipBlanks (F : Nat) (st : sw_St) {st1 : sw_St} (h : j_X3_skipBlanks F  st = some ((), st1)) : sw_CV yX3_skipBlanks (.code yX3_skipBlanks cX3_skipBlanks 1 none) 1 (fun g => [.ref (g.1 52)]) st  st1 := by
  refine sw_entV RX3 (fun g => [(0, .ref (g.1 52))]) (by decide) rfl (fun _ => Nat.le_of_ble_eq_true rfl) (fun _ => rfl) ?_
  intro p l e s m args below meth c g X hr hlk
  unfold j_X3_skipBlanks at h
  refine lz1_E (fun (s1 : sw_St) => sw_V p l e 1 s m args below meth c g (sw_A g s.heap.size) (sw_QV below g args s  st1) 1 0 [(0, .ref (g.1 52))] [] s1) h (fun f2 ih3 s1 h => ?_)
  refine sw_aload_n X 0 rfl rfl dX3_skipBlanks_0 ?_
  refine sw_getI X sw_cl3 (show sw_kd 52 = 3 from rfl) (k := 2) rfl (by decide) wf_X3_19 dX3_skipBlanks_1 ?_
  refine sw_aload_n X 0 rfl rfl dX3_skipBlanks_4 ?_
  refine sw_getI X sw_cl3 (show sw_kd 52 = 3 from rfl) (k := 1) rfl (by decide) wf_X3_15 dX3_skipBlanks_5 ?_
  refine jn0_E (sw_V p l e 1 s m args below meth c g (sw_A g s.heap.size) (sw_QV below g args s  st1) 1 38 [] [] s1) h (fun h => ?_) (fun k4 J5 h => ?_)
  · exact sw_vret X hr hlk dX3_skipBlanks_38 h
  · refine sw_icmp_ge X 38 (by decide) dX3_skipBlanks_8 (fun q6 => ?_) (fun q6 => ?_)
    · have h := ite_T h q6
      refine sw_sub [] rfl ?_
      exact J5  h
    · have h := ite_F h q6
      refine sw_aload_n X 0 rfl rfl dX3_skipBlanks_11 ?_
      refine sw_getR X sw_cl3 (show sw_kd 52 = 3 from rfl) (k := 0) rfl (by decide) (o1 := s1.2.2) rfl wf_X3_9 dX3_skipBlanks_12 ?_
      refine sw_aload_n X 0 rfl rfl dX3_skipBlanks_15 ?_
      refine sw_getI X sw_cl3 (show sw_kd 52 = 3 from rfl) (k := 2) rfl (by decide) wf_X3_19 dX3_skipBlanks_16 ?_
      obtain ⟨q8, h⟩ := grd_E h
      obtain ⟨q7, h⟩ := bnd_E h
      refine sw_bald X q8 rfl q7 dX3_skipBlanks_19 ?_
      refine sw_bipush X (v := 32) (by decide) dX3_skipBlanks_20 ?_
      refine sw_icmp_ne X 38 (by decide) dX3_skipBlanks_22 (fun q9 => ?_) (fun q9 => ?_)
      · have h := ite_F h q9
        refine sw_sub [] rfl ?_
        exact J5  h
      · have h := ite_T h q9
        refine sw_aload_n X 0 rfl rfl dX3_skipBlanks_25 ?_
        refine sw_dup X rfl dX3_skipBlanks_26 ?_
        refine sw_getI X sw_cl3 (show sw_kd 52 = 3 from rfl) (k := 2) rfl (by decide) wf_X3_19 dX3_skipBlanks_27 ?_
        refine sw_iconst X (v := 1) (by decide) dX3_skipBlanks_30 ?_
        refine sw_iadd X dX3_skipBlanks_31 ?_
        refine sw_putI X sw_cl3 (show sw_kd 52 = 3 from rfl) (k := 2) rfl (by decide) rfl rfl wf_X3_19 dX3_skipBlanks_32 (fun s10 es10 => ?_)
        have h := nm_E h es10
        refine sw_goto X 0 (by decide) dX3_skipBlanks_35 ?_
        exact ih3 _ h
theorem dX3_readTown_0 : decode cX3_readTown 0 = .ok (.aload_n 0, 1) := by decide +kernel
theorem dX3_readTown_1 : decode cX3_readTown 1 = .ok (.aload_n 1, 1) := by decide +kernel
theorem dX3_readTown_2 : decode cX3_readTown 2 = .ok (.putfield 9, 3) := by decide +kernel
theorem dX3_readTown_5 : decode cX3_readTown 5 = .ok (.aload_n 0, 1) := by decide +kernel
theorem dX3_readTown_6 : decode cX3_readTown 6 = .ok (.iload_n 2, 1) := by decide +kernel
theorem dX3_readTown_7 : decode cX3_readTown 7 = .ok (.putfield 15, 3) := by decide +kernel
theorem dX3_readTown_10 : decode cX3_readTown 10 = .ok (.aload_n 0, 1) := by decide +kernel
theorem dX3_readTown_11 : decode cX3_readTown 11 = .ok (.iconst 0, 1) := by decide +kernel
theorem dX3_readTown_12 : decode cX3_readTown 12 = .ok (.putfield 19, 3) := by decide +kernel
theorem dX3_readTown_15 : decode cX3_readTown 15 = .ok (.aload_n 3, 1) := by decide +kernel
theorem dX3_readTown_16 : decode cX3_readTown 16 = .ok (.iconst 0, 1) := by decide +kernel
theorem dX3_readTown_17 : decode cX3_readTown 17 = .ok (.putfield 22, 3) := by decide +kernel
theorem dX3_readTown_20 : decode cX3_readTown 20 = .ok (.aload_n 0, 1) := by decide +kernel
theorem dX3_readTown_21 : decode cX3_readTown 21 = .ok (.invokevirtual 25, 3) := by decide +kernel
theorem dX3_readTown_24 : decode cX3_readTown 24 = .ok (.aload_n 0, 1) := by decide +kernel
theorem dX3_readTown_25 : decode cX3_readTown 25 = .ok (.aload_n 3, 1) := by decide +kernel
theorem dX3_readTown_26 : decode cX3_readTown 26 = .ok (.invokevirtual 28, 3) := by decide +kernel
theorem dX3_readTown_29 : decode cX3_readTown 29 = .ok (.ifCond .ne 8, 3) := by decide +kernel
theorem dX3_readTown_32 : decode cX3_readTown 32 = .ok (.aload_n 0, 1) := by decide +kernel
theorem dX3_readTown_33 : decode cX3_readTown 33 = .ok (.getfield 19, 3) := by decide +kernel
theorem dX3_readTown_36 : decode cX3_readTown 36 = .ok (.ireturn, 1) := by decide +kernel
theorem dX3_readTown_37 : decode cX3_readTown 37 = .ok (.aload_n 0, 1) := by decide +kernel
theorem dX3_readTown_38 : decode cX3_readTown 38 = .ok (.invokevirtual 25, 3) := by decide +kernel
theorem dX3_readTown_41 : decode cX3_readTown 41 = .ok (.iconst 0, 1) := by decide +kernel
theorem dX3_readTown_42 : decode cX3_readTown 42 = .ok (.istore 4, 2) := by decide +kernel
theorem dX3_readTown_44 : decode cX3_readTown 44 = .ok (.iload 4, 2) := by decide +kernel
theorem dX3_readTown_46 : decode cX3_readTown 46 = .ok (.bipush 6, 2) := by decide +kernel
theorem dX3_readTown_48 : decode cX3_readTown 48 = .ok (.if_icmp .ge 47, 3) := by decide +kernel
theorem dX3_readTown_51 : decode cX3_readTown 51 = .ok (.aload_n 0, 1) := by decide +kernel
theorem dX3_readTown_52 : decode cX3_readTown 52 = .ok (.getfield 19, 3) := by decide +kernel
theorem dX3_readTown_55 : decode cX3_readTown 55 = .ok (.aload_n 0, 1) := by decide +kernel
theorem dX3_readTown_56 : decode cX3_readTown 56 = .ok (.getfield 15, 3) := by decide +kernel
theorem dX3_readTown_59 : decode cX3_readTown 59 = .ok (.if_icmp .ge 36, 3) := by decide +kernel
theorem dX3_readTown_62 : decode cX3_readTown 62 = .ok (.aload_n 0, 1) := by decide +kernel
theorem dX3_readTown_63 : decode cX3_readTown 63 = .ok (.aload_n 3, 1) := by decide +kernel
theorem dX3_readTown_64 : decode cX3_readTown 64 = .ok (.iload 4, 2) := by decide +kernel
theorem dX3_readTown_66 : decode cX3_readTown 66 = .ok (.invokevirtual 32, 3) := by decide +kernel
theorem dX3_readTown_69 : decode cX3_readTown 69 = .ok (.ifCond .ne 8, 3) := by decide +kernel
theorem dX3_readTown_72 : decode cX3_readTown 72 = .ok (.aload_n 0, 1) := by decide +kernel
theorem dX3_readTown_73 : decode cX3_readTown 73 = .ok (.getfield 19, 3) := by decide +kernel
theorem dX3_readTown_76 : decode cX3_readTown 76 = .ok (.ireturn, 1) := by decide +kernel
theorem dX3_readTown_77 : decode cX3_readTown 77 = .ok (.aload_n 3, 1) := by decide +kernel
theorem dX3_readTown_78 : decode cX3_readTown 78 = .ok (.iload 4, 2) := by decide +kernel
theorem dX3_readTown_80 : decode cX3_readTown 80 = .ok (.iconst 1, 1) := by decide +kernel
theorem dX3_readTown_81 : decode cX3_readTown 81 = .ok (.iadd, 1) := by decide +kernel
theorem dX3_readTown_82 : decode cX3_readTown 82 = .ok (.putfield 22, 3) := by decide +kernel
theorem dX3_readTown_85 : decode cX3_readTown 85 = .ok (.aload_n 0, 1) := by decide +kernel
theorem dX3_readTown_86 : decode cX3_readTown 86 = .ok (.invokevirtual 25, 3) := by decide +kernel
theorem dX3_readTown_89 : decode cX3_readTown 89 = .ok (.iinc 4 1, 3) := by decide +kernel
theorem dX3_readTown_92 : decode cX3_readTown 92 = .ok (.goto (-48), 3) := by decide +kernel
theorem dX3_readTown_95 : decode cX3_readTown 95 = .ok (.aload_n 0, 1) := by decide +kernel
theorem dX3_readTown_96 : decode cX3_readTown 96 = .ok (.getfield 19, 3) := by decide +kernel
theorem dX3_readTown_99 : decode cX3_readTown 99 = .ok (.aload_n 0, 1) := by decide +kernel
theorem dX3_readTown_100 : decode cX3_readTown 100 = .ok (.getfield 15, 3) := by decide +kernel
theorem dX3_readTown_103 : decode cX3_readTown 103 = .ok (.if_icmp .lt 10, 3) := by decide +kernel
theorem dX3_readTown_106 : decode cX3_readTown 106 = .ok (.aload_n 3, 1) := by decide +kernel
theorem dX3_readTown_107 : decode cX3_readTown 107 = .ok (.getfield 22, 3) := by decide +kernel
theorem dX3_readTown_110 : decode cX3_readTown 110 = .ok (.ifCond .ne 10, 3) := by decide +kernel
theorem dX3_readTown_113 : decode cX3_readTown 113 = .ok (.aload_n 0, 1) := by decide +kernel
theorem dX3_readTown_114 : decode cX3_readTown 114 = .ok (.getfield 19, 3) := by decide +kernel
theorem dX3_readTown_117 : decode cX3_readTown 117 = .ok (.goto 5, 3) := by decide +kernel
theorem dX3_readTown_120 : decode cX3_readTown 120 = .ok (.bipush (-9), 2) := by decide +kernel
theorem dX3_readTown_122 : decode cX3_readTown 122 = .ok (.ireturn, 1) := by decide +kernel
def j_X3_readTown (F : Nat) (b : Nat) (a2 : Int32) (st : sw_St) : Option (Int32 × sw_St) :=
nm (sw_setB st b) (fun (s1 : sw_St) =>
nm (sw_setC s1 52 1 a2) (fun (s2 : sw_St) =>
nm (sw_setC s2 52 2 0) (fun (s3 : sw_St) =>
nm (sw_setC s3 22 0 0) (fun (s4 : sw_St) =>
bd (j_X3_skipBlanks F s4) (fun (_ : Unit) (s6 : sw_St) =>
bd (j_X3_readSpring F s6) (fun (r8 : Int32) (s9 : sw_St) =>
(if r8 = 0 then (
 some ((s9.1 52 2 : Int32), s9))
else (
 bd (j_X3_skipBlanks F s9) (fun (_ : Unit) (s12 : sw_St) =>
 lz2 (fun f15 (x13 : Int32) (s14 : sw_St) =>
  jn (
    jn (fun (x19 : Int32) => 
      some ((x19 : Int32), s14)) (fun k20 =>
     jn (
       k20 (s14.1 52 2)) (fun k22 =>
      (if (s14.1 52 2) < (s14.1 52 1) then (
       k22)
      else (
       (if (s14.1 22 0) = 0 then (
        k22)
       else (
        k20 (-9)))))))) (fun k17 =>
   (if 6 ≤ x13 then (
    k17)
   else (
    (if (s14.1 52 1) ≤ (s14.1 52 2) then (
     k17)
    else (
     bd (j_X3_readStranger F x13 s14) (fun (r29 : Int32) (s30 : sw_St) =>
     (if r29 = 0 then (
      some ((s30.1 52 2 : Int32), s30))
     else (
      nm (sw_setC s30 22 0 (x13 + 1)) (fun (s32 : sw_St) =>
      bd (j_X3_skipBlanks F s32) (fun (_ : Unit) (s34 : sw_St) =>
      nm (x13 + 1) (fun (x35 : Int32) =>
      f15 x35 s34)))))))))))) F 0 s12)))))))))
set_option maxHeartbeats 4000000 in
set_option maxRecDepth 100000 in
theorem c_X3_readTown (F : Nat) {b : Nat} (hb : sw_kd b = 7) (a2 : Int32) (st : sw_St) {r : Int32} {st1 : sw_St} (h : j_X3_readTown F b a2 st = some (r, st1)) : sw_CI yX3_readTown (.code yX3_readTown cX3_readTown 5 (some .int)) 4 (fun g => [.ref (g.1 52), .ref (g.1 b), .int a2, .ref (g.1 22)]) st r st1 := by
  refine sw_entI RX3 (fun g => [(0, .ref (g.1 52)), (1, .ref (g.1 b)), (2, .int a2), (3, .ref (g.1 22))]) (by decide) rfl (fun _ => Nat.le_of_ble_eq_true rfl) (fun _ => rfl) ?_
  intro p l e s m args below meth c g X hr hlk
  unfold j_X3_readTown at h
  refine sw_aload_n X 0 rfl rfl dX3_readTown_0 ?_
  refine sw_aload_n X 1 rfl rfl dX3_readTown_1 ?_
  refine sw_putB X wf_X3_9 dX3_readTown_2 (fun s1 es1 => ?_)
  have h := nm_E h es1
  refine sw_aload_n X 0 rfl rfl dX3_readTown_5 ?_
  refine sw_iload_n X 2 rfl rfl dX3_readTown_6 ?_
  refine sw_putI X sw_cl3 (show sw_kd 52 = 3 from rfl) (k := 1) rfl (by decide) rfl rfl wf_X3_15 dX3_readTown_7 (fun s2 es2 => ?_)
  have h := nm_E h es2
  refine sw_aload_n X 0 rfl rfl dX3_readTown_10 ?_
  refine sw_iconst X (v := 0) (by decide) dX3_readTown_11 ?_
  refine sw_putI X sw_cl3 (show sw_kd 52 = 3 from rfl) (k := 2) rfl (by decide) rfl rfl wf_X3_19 dX3_readTown_12 (fun s3 es3 => ?_)
  have h := nm_E h es3
  refine sw_aload_n X 3 rfl rfl dX3_readTown_15 ?_
  refine sw_iconst X (v := 0) (by decide) dX3_readTown_16 ?_
  refine sw_putI X sw_cl4 (show sw_kd 22 = 4 from rfl) (k := 0) rfl (by decide) rfl rfl wf_X3_22 dX3_readTown_17 (fun s4 es4 => ?_)
  have h := nm_E h es4
  refine sw_aload_n X 0 rfl rfl dX3_readTown_20 ?_
  obtain ⟨u38, s6, c5, h⟩ := bd_E h
  refine sw_callVV X (o := 52) (As := (fun g => [])) sw_cl3 (show sw_kd 52 = 3 from rfl) ws_X3_skipBlanks (by omega) (c_X3_skipBlanks F s4 c5) rfl rfl (Nat.le_of_ble_eq_true rfl) wm_X3_25 dX3_readTown_21 ?_
  refine sw_aload_n X 0 rfl rfl dX3_readTown_24 ?_
  refine sw_aload_n X 3 rfl rfl dX3_readTown_25 ?_
  obtain ⟨r8, s9, c7, h⟩ := bd_E h
  refine sw_callVI X (o := 52) (As := (fun g => [.ref (g.1 22)])) sw_cl3 (show sw_kd 52 = 3 from rfl) ws_X3_readSpring (by omega) (c_X3_readSpring F s6 c7) rfl rfl (Nat.le_of_ble_eq_true rfl) wm_X3_28 dX3_readTown_26 ?_
  refine sw_if_ne X 37 (by decide) dX3_readTown_29 (fun q10 => ?_) (fun q10 => ?_)
  · have h := ite_F h q10
    refine sw_aload_n X 0 rfl rfl dX3_readTown_37 ?_
    obtain ⟨u37, s12, c11, h⟩ := bd_E h
    refine sw_callVV X (o := 52) (As := (fun g => [])) sw_cl3 (show sw_kd 52 = 3 from rfl) ws_X3_skipBlanks (by omega) (c_X3_skipBlanks F s9 c11) rfl rfl (Nat.le_of_ble_eq_true rfl) wm_X3_25 dX3_readTown_38 ?_
    refine sw_iconst X (v := 0) (by decide) dX3_readTown_41 ?_
    refine sw_istore X [(4, .int 0), (0, .ref (g.1 52)), (1, .ref (g.1 b)), (2, .int a2), (3, .ref (g.1 22))] (by decide) rfl dX3_readTown_42 ?_
    refine sw_sub [1, 4, 0] rfl ?_
    refine lz2_E (fun (x13 : Int32) (s14 : sw_St) => sw_V p l e 4 s m args below meth c g (sw_A g s.heap.size) (sw_QI below g args s r st1) 5 44 [(0, .ref (g.1 52)), (3, .ref (g.1 22)), (4, .int x13)] [] s14) h (fun f15 ih16 x13 s14 h => ?_)
    refine sw_iload X 2 rfl dX3_readTown_44 ?_
    refine sw_bipush X (v := 6) (by decide) dX3_readTown_46 ?_
    refine jn0_E (sw_V p l e 4 s m args below meth c g (sw_A g s.heap.size) (sw_QI below g args s r st1) 5 95 [(0, .ref (g.1 52)), (3, .ref (g.1 22))] [] s14) h (fun h => ?_) (fun k17 J18 h => ?_)
    · refine sw_aload_n X 0 rfl rfl dX3_readTown_95 ?_
      refine sw_getI X sw_cl3 (show sw_kd 52 = 3 from rfl) (k := 2) rfl (by decide) wf_X3_19 dX3_readTown_96 ?_
      refine sw_aload_n X 0 rfl rfl dX3_readTown_99 ?_
      refine sw_getI X sw_cl3 (show sw_kd 52 = 3 from rfl) (k := 1) rfl (by decide) wf_X3_15 dX3_readTown_100 ?_
      refine jn1_E (fun (x19 : Int32) => sw_V p l e 4 s m args below meth c g (sw_A g s.heap.size) (sw_QI below g args s r st1) 5 122 [] [.int x19] s14) h (fun x19 h => ?_) (fun k20 J21 h => ?_)
      · exact sw_iret X hr hlk dX3_readTown_122 h
      · refine jn0_E (sw_V p l e 4 s m args below meth c g (sw_A g s.heap.size) (sw_QI below g args s r st1) 5 113 [(0, .ref (g.1 52))] [] s14) h (fun h => ?_) (fun k22 J23 h => ?_)
        · refine sw_aload_n X 0 rfl rfl dX3_readTown_113 ?_
          refine sw_getI X sw_cl3 (show sw_kd 52 = 3 from rfl) (k := 2) rfl (by decide) wf_X3_19 dX3_readTown_114 ?_
          refine sw_goto X 122 (by decide) dX3_readTown_117 ?_
          refine sw_sub [] rfl ?_
          exact J21 _ h
        · refine sw_icmp_lt X 113 (by decide) dX3_readTown_103 (fun q24 => ?_) (fun q24 => ?_)
          · have h := ite_T h q24
            refine sw_sub [0] rfl ?_
            exact J23  h
          · have h := ite_F h q24
            refine sw_aload_n X 1 rfl rfl dX3_readTown_106 ?_
            refine sw_getI X sw_cl4 (show sw_kd 22 = 4 from rfl) (k := 0) rfl (by decide) wf_X3_22 dX3_readTown_107 ?_
            refine sw_if_ne X 120 (by decide) dX3_readTown_110 (fun q25 => ?_) (fun q25 => ?_)
            · have h := ite_F h q25
              refine sw_bipush X (v := (-9)) (by decide) dX3_readTown_120 ?_
              refine sw_sub [] rfl ?_
              exact J21 _ h
            · have h := ite_T h q25
              refine sw_sub [0] rfl ?_
              exact J23  h
    · refine sw_icmp_ge X 95 (by decide) dX3_readTown_48 (fun q26 => ?_) (fun q26 => ?_)
      · have h := ite_T h q26
        refine sw_sub [0, 1] rfl ?_
        exact J18  h
      · have h := ite_F h q26
        refine sw_aload_n X 0 rfl rfl dX3_readTown_51 ?_
        refine sw_getI X sw_cl3 (show sw_kd 52 = 3 from rfl) (k := 2) rfl (by decide) wf_X3_19 dX3_readTown_52 ?_
        refine sw_aload_n X 0 rfl rfl dX3_readTown_55 ?_
        refine sw_getI X sw_cl3 (show sw_kd 52 = 3 from rfl) (k := 1) rfl (by decide) wf_X3_15 dX3_readTown_56 ?_
        refine sw_icmp_ge X 95 (by decide) dX3_readTown_59 (fun q27 => ?_) (fun q27 => ?_)
        · have h := ite_T h q27
          refine sw_sub [0, 1] rfl ?_
          exact J18  h
        · have h := ite_F h q27
          refine sw_aload_n X 0 rfl rfl dX3_readTown_62 ?_
          refine sw_aload_n X 1 rfl rfl dX3_readTown_63 ?_
          refine sw_iload X 2 rfl dX3_readTown_64 ?_
          obtain ⟨r29, s30, c28, h⟩ := bd_E h
          refine sw_callVI X (o := 52) (As := (fun g => [.ref (g.1 22), .int x13])) sw_cl3 (show sw_kd 52 = 3 from rfl) ws_X3_readStranger (by omega) (c_X3_readStranger F x13 s14 c28) rfl rfl (Nat.le_of_ble_eq_true rfl) wm_X3_32 dX3_readTown_66 ?_
          refine sw_if_ne X 77 (by decide) dX3_readTown_69 (fun q31 => ?_) (fun q31 => ?_)
          · have h := ite_F h q31
            refine sw_aload_n X 1 rfl rfl dX3_readTown_77 ?_
            refine sw_iload X 2 rfl dX3_readTown_78 ?_
            refine sw_iconst X (v := 1) (by decide) dX3_readTown_80 ?_
            refine sw_iadd X dX3_readTown_81 ?_
            refine sw_putI X sw_cl4 (show sw_kd 22 = 4 from rfl) (k := 0) rfl (by decide) rfl rfl wf_X3_22 dX3_readTown_82 (fun s32 es32 => ?_)
            have h := nm_E h es32
            refine sw_aload_n X 0 rfl rfl dX3_readTown_85 ?_
            obtain ⟨u36, s34, c33, h⟩ := bd_E h
            refine sw_callVV X (o := 52) (As := (fun g => [])) sw_cl3 (show sw_kd 52 = 3 from rfl) ws_X3_skipBlanks (by omega) (c_X3_skipBlanks F s32 c33) rfl rfl (Nat.le_of_ble_eq_true rfl) wm_X3_25 dX3_readTown_86 ?_
            obtain ⟨x35, ex35⟩ : ∃ y : Int32, y = x13 + 1 := ⟨_, rfl⟩
            have h := nm_E h ex35
            refine sw_iinc X 2 x35 [(4, .int x35), (0, .ref (g.1 52)), (3, .ref (g.1 22))] rfl (by rw [ex35]; rfl) (by decide) rfl dX3_readTown_89 ?_
            refine sw_goto X 44 (by decide) dX3_readTown_92 ?_
            refine sw_sub [1, 2, 0] rfl ?_
            exact ih16 _ _ h
          · have h := ite_T h q31
            refine sw_aload_n X 0 rfl rfl dX3_readTown_72 ?_
            refine sw_getI X sw_cl3 (show sw_kd 52 = 3 from rfl) (k := 2) rfl (by decide) wf_X3_19 dX3_readTown_73 ?_
            exact sw_iret X hr hlk dX3_readTown_76 h
  · have h := ite_T h q10
    refine sw_aload_n X 0 rfl rfl dX3_readTown_32 ?_
    refine sw_getI X sw_cl3 (show sw_kd 52 = 3 from rfl) (k := 2) rfl (by decide) wf_X3_19 dX3_readTown_33 ?_
    exact sw_iret X hr hlk dX3_readTown_36 h
theorem dX4_takeFrom_0 : decode cX4_takeFrom 0 = .ok (.aload_n 0, 1) := by decide +kernel
theorem dX4_takeFrom_1 : decode cX4_takeFrom 1 = .ok (.aload_n 1, 1) := by decide +kernel
theorem dX4_takeFrom_2 : decode cX4_takeFrom 2 = .ok (.getfield 9, 3) := by decide +kernel
theorem dX4_takeFrom_5 : decode cX4_takeFrom 5 = .ok (.putfield 9, 3) := by decide +kernel
theorem dX4_takeFrom_8 : decode cX4_takeFrom 8 = .ok (.aload_n 1, 1) := by decide +kernel
theorem dX4_takeFrom_9 : decode cX4_takeFrom 9 = .ok (.getfield 15, 3) := by decide +kernel
theorem dX4_takeFrom_12 : decode cX4_takeFrom 12 = .ok (.iconst 0, 1) := by decide +kernel
theorem dX4_takeFrom_13 : decode cX4_takeFrom 13 = .ok (.aload_n 0, 1) := by decide +kernel
theorem dX4_takeFrom_14 : decode cX4_takeFrom 14 = .ok (.getfield 15, 3) := by decide +kernel
theorem dX4_takeFrom_17 : decode cX4_takeFrom 17 = .ok (.iconst 0, 1) := by decide +kernel
theorem dX4_takeFrom_18 : decode cX4_takeFrom 18 = .ok (.bipush 6, 2) := by decide +kernel
theorem dX4_takeFrom_20 : decode cX4_takeFrom 20 = .ok (.invokestatic 58, 3) := by decide +kernel
theorem dX4_takeFrom_23 : decode cX4_takeFrom 23 = .ok (.aload_n 1, 1) := by decide +kernel
theorem dX4_takeFrom_24 : decode cX4_takeFrom 24 = .ok (.getfield 19, 3) := by decide +kernel
theorem dX4_takeFrom_27 : decode cX4_takeFrom 27 = .ok (.iconst 0, 1) := by decide +kernel
theorem dX4_takeFrom_28 : decode cX4_takeFrom 28 = .ok (.aload_n 0, 1) := by decide +kernel
theorem dX4_takeFrom_29 : decode cX4_takeFrom 29 = .ok (.getfield 19, 3) := by decide +kernel
theorem dX4_takeFrom_32 : decode cX4_takeFrom 32 = .ok (.iconst 0, 1) := by decide +kernel
theorem dX4_takeFrom_33 : decode cX4_takeFrom 33 = .ok (.bipush 6, 2) := by decide +kernel
theorem dX4_takeFrom_35 : decode cX4_takeFrom 35 = .ok (.invokestatic 58, 3) := by decide +kernel
theorem dX4_takeFrom_38 : decode cX4_takeFrom 38 = .ok (.aload_n 1, 1) := by decide +kernel
theorem dX4_takeFrom_39 : decode cX4_takeFrom 39 = .ok (.getfield 22, 3) := by decide +kernel
theorem dX4_takeFrom_42 : decode cX4_takeFrom 42 = .ok (.iconst 0, 1) := by decide +kernel
theorem dX4_takeFrom_43 : decode cX4_takeFrom 43 = .ok (.aload_n 0, 1) := by decide +kernel
theorem dX4_takeFrom_44 : decode cX4_takeFrom 44 = .ok (.getfield 22, 3) := by decide +kernel
theorem dX4_takeFrom_47 : decode cX4_takeFrom 47 = .ok (.iconst 0, 1) := by decide +kernel
theorem dX4_takeFrom_48 : decode cX4_takeFrom 48 = .ok (.bipush 6, 2) := by decide +kernel
theorem dX4_takeFrom_50 : decode cX4_takeFrom 50 = .ok (.invokestatic 58, 3) := by decide +kernel
theorem dX4_takeFrom_53 : decode cX4_takeFrom 53 = .ok (.aload_n 1, 1) := by decide +kernel
theorem dX4_takeFrom_54 : decode cX4_takeFrom 54 = .ok (.getfield 25, 3) := by decide +kernel
theorem dX4_takeFrom_57 : decode cX4_takeFrom 57 = .ok (.iconst 0, 1) := by decide +kernel
theorem dX4_takeFrom_58 : decode cX4_takeFrom 58 = .ok (.aload_n 0, 1) := by decide +kernel
theorem dX4_takeFrom_59 : decode cX4_takeFrom 59 = .ok (.getfield 25, 3) := by decide +kernel
theorem dX4_takeFrom_62 : decode cX4_takeFrom 62 = .ok (.iconst 0, 1) := by decide +kernel
theorem dX4_takeFrom_63 : decode cX4_takeFrom 63 = .ok (.bipush 6, 2) := by decide +kernel
theorem dX4_takeFrom_65 : decode cX4_takeFrom 65 = .ok (.invokestatic 58, 3) := by decide +kernel
theorem dX4_takeFrom_68 : decode cX4_takeFrom 68 = .ok (.aload_n 0, 1) := by decide +kernel
theorem dX4_takeFrom_69 : decode cX4_takeFrom 69 = .ok (.aload_n 1, 1) := by decide +kernel
theorem dX4_takeFrom_70 : decode cX4_takeFrom 70 = .ok (.getfield 28, 3) := by decide +kernel
theorem dX4_takeFrom_73 : decode cX4_takeFrom 73 = .ok (.putfield 28, 3) := by decide +kernel
theorem dX4_takeFrom_76 : decode cX4_takeFrom 76 = .ok (.aload_n 0, 1) := by decide +kernel
theorem dX4_takeFrom_77 : decode cX4_takeFrom 77 = .ok (.aload_n 1, 1) := by decide +kernel
theorem dX4_takeFrom_78 : decode cX4_takeFrom 78 = .ok (.getfield 31, 3) := by decide +kernel
theorem dX4_takeFrom_81 : decode cX4_takeFrom 81 = .ok (.putfield 31, 3) := by decide +kernel
theorem dX4_takeFrom_84 : decode cX4_takeFrom 84 = .ok (.aload_n 0, 1) := by decide +kernel
theorem dX4_takeFrom_85 : decode cX4_takeFrom 85 = .ok (.aload_n 1, 1) := by decide +kernel
theorem dX4_takeFrom_86 : decode cX4_takeFrom 86 = .ok (.getfield 34, 3) := by decide +kernel
theorem dX4_takeFrom_89 : decode cX4_takeFrom 89 = .ok (.putfield 34, 3) := by decide +kernel
theorem dX4_takeFrom_92 : decode cX4_takeFrom 92 = .ok (.aload_n 0, 1) := by decide +kernel
theorem dX4_takeFrom_93 : decode cX4_takeFrom 93 = .ok (.aload_n 1, 1) := by decide +kernel
theorem dX4_takeFrom_94 : decode cX4_takeFrom 94 = .ok (.getfield 37, 3) := by decide +kernel
theorem dX4_takeFrom_97 : decode cX4_takeFrom 97 = .ok (.putfield 37, 3) := by decide +kernel
theorem dX4_takeFrom_100 : decode cX4_takeFrom 100 = .ok (.aload_n 0, 1) := by decide +kernel
theorem dX4_takeFrom_101 : decode cX4_takeFrom 101 = .ok (.aload_n 1, 1) := by decide +kernel
theorem dX4_takeFrom_102 : decode cX4_takeFrom 102 = .ok (.getfield 40, 3) := by decide +kernel
theorem dX4_takeFrom_105 : decode cX4_takeFrom 105 = .ok (.putfield 40, 3) := by decide +kernel
theorem dX4_takeFrom_108 : decode cX4_takeFrom 108 = .ok (.aload_n 0, 1) := by decide +kernel
theorem dX4_takeFrom_109 : decode cX4_takeFrom 109 = .ok (.aload_n 1, 1) := by decide +kernel
theorem dX4_takeFrom_110 : decode cX4_takeFrom 110 = .ok (.getfield 43, 3) := by decide +kernel
theorem dX4_takeFrom_113 : decode cX4_takeFrom 113 = .ok (.putfield 43, 3) := by decide +kernel
theorem dX4_takeFrom_116 : decode cX4_takeFrom 116 = .ok (.aload_n 0, 1) := by decide +kernel
theorem dX4_takeFrom_117 : decode cX4_takeFrom 117 = .ok (.aload_n 1, 1) := by decide +kernel
theorem dX4_takeFrom_118 : decode cX4_takeFrom 118 = .ok (.getfield 46, 3) := by decide +kernel
theorem dX4_takeFrom_121 : decode cX4_takeFrom 121 = .ok (.putfield 46, 3) := by decide +kernel
theorem dX4_takeFrom_124 : decode cX4_takeFrom 124 = .ok (.aload_n 1, 1) := by decide +kernel
theorem dX4_takeFrom_125 : decode cX4_takeFrom 125 = .ok (.getfield 49, 3) := by decide +kernel
theorem dX4_takeFrom_128 : decode cX4_takeFrom 128 = .ok (.iconst 0, 1) := by decide +kernel
theorem dX4_takeFrom_129 : decode cX4_takeFrom 129 = .ok (.aload_n 0, 1) := by decide +kernel
theorem dX4_takeFrom_130 : decode cX4_takeFrom 130 = .ok (.getfield 49, 3) := by decide +kernel
theorem dX4_takeFrom_133 : decode cX4_takeFrom 133 = .ok (.iconst 0, 1) := by decide +kernel
theorem dX4_takeFrom_134 : decode cX4_takeFrom 134 = .ok (.bipush 40, 2) := by decide +kernel
theorem dX4_takeFrom_136 : decode cX4_takeFrom 136 = .ok (.invokestatic 58, 3) := by decide +kernel
theorem dX4_takeFrom_139 : decode cX4_takeFrom 139 = .ok (.aload_n 1, 1) := by decide +kernel
theorem dX4_takeFrom_140 : decode cX4_takeFrom 140 = .ok (.getfield 52, 3) := by decide +kernel
theorem dX4_takeFrom_143 : decode cX4_takeFrom 143 = .ok (.iconst 0, 1) := by decide +kernel
theorem dX4_takeFrom_144 : decode cX4_takeFrom 144 = .ok (.aload_n 0, 1) := by decide +kernel
theorem dX4_takeFrom_145 : decode cX4_takeFrom 145 = .ok (.getfield 52, 3) := by decide +kernel
theorem dX4_takeFrom_148 : decode cX4_takeFrom 148 = .ok (.iconst 0, 1) := by decide +kernel
theorem dX4_takeFrom_149 : decode cX4_takeFrom 149 = .ok (.bipush 40, 2) := by decide +kernel
theorem dX4_takeFrom_151 : decode cX4_takeFrom 151 = .ok (.invokestatic 58, 3) := by decide +kernel
theorem dX4_takeFrom_154 : decode cX4_takeFrom 154 = .ok (.aload_n 0, 1) := by decide +kernel
theorem dX4_takeFrom_155 : decode cX4_takeFrom 155 = .ok (.aload_n 1, 1) := by decide +kernel
theorem dX4_takeFrom_156 : decode cX4_takeFrom 156 = .ok (.getfield 55, 3) := by decide +kernel
theorem dX4_takeFrom_159 : decode cX4_takeFrom 159 = .ok (.putfield 55, 3) := by decide +kernel
theorem dX4_takeFrom_162 : decode cX4_takeFrom 162 = .ok (.return_, 1) := by decide +kernel
def j_X4_takeFrom (F : Nat) (t : Nat) (o : Nat) (st : sw_St) : Option (Unit × sw_St) :=
nm (sw_setC st t 0 (st.1 o 0)) (fun (s1 : sw_St) =>
nm (sw_setA s1 (t + 1) (va_cpy (s1.1 (o + 1)) (s1.1 (t + 1)) (0 : Int32).toNatClampNeg (0 : Int32).toNatClampNeg (6 : Int32).toNatClampNeg)) (fun (s2 : sw_St) =>
nm (sw_setA s2 (t + 2) (va_cpy (s2.1 (o + 2)) (s2.1 (t + 2)) (0 : Int32).toNatClampNeg (0 : Int32).toNatClampNeg (6 : Int32).toNatClampNeg)) (fun (s4 : sw_St) =>
nm (sw_setA s4 (t + 3) (va_cpy (s4.1 (o + 3)) (s4.1 (t + 3)) (0 : Int32).toNatClampNeg (0 : Int32).toNatClampNeg (6 : Int32).toNatClampNeg)) (fun (s6 : sw_St) =>
nm (sw_setA s6 (t + 4) (va_cpy (s6.1 (o + 4)) (s6.1 (t + 4)) (0 : Int32).toNatClampNeg (0 : Int32).toNatClampNeg (6 : Int32).toNatClampNeg)) (fun (s8 : sw_St) =>
nm (sw_setC s8 t 5 (s8.1 o 5)) (fun (s10 : sw_St) =>
nm (sw_setC s10 t 6 (s10.1 o 6)) (fun (s11 : sw_St) =>
nm (sw_setC s11 t 7 (s11.1 o 7)) (fun (s12 : sw_St) =>
nm (sw_setC s12 t 8 (s12.1 o 8)) (fun (s13 : sw_St) =>
nm (sw_setC s13 t 9 (s13.1 o 9)) (fun (s14 : sw_St) =>
nm (sw_setC s14 t 10 (s14.1 o 10)) (fun (s15 : sw_St) =>
nm (sw_setC s15 t 11 (s15.1 o 11)) (fun (s16 : sw_St) =>
nm (sw_setA s16 (t + 5) (va_cpy (s16.1 (o + 5)) (s16.1 (t + 5)) (0 : Int32).toNatClampNeg (0 : Int32).toNatClampNeg (40 : Int32).toNatClampNeg)) (fun (s17 : sw_St) =>
nm (sw_setA s17 (t + 6) (va_cpy (s17.1 (o + 6)) (s17.1 (t + 6)) (0 : Int32).toNatClampNeg (0 : Int32).toNatClampNeg (40 : Int32).toNatClampNeg)) (fun (s19 : sw_St) =>
nm (sw_setC s19 t 14 (s19.1 o 14)) (fun (s21 : sw_St) =>
some ((), s21))))))))))))))))
set_option maxHeartbeats 4000000 in
set_option maxRecDepth 100000 in
theorem c_X4_takeFrom (F : Nat) {t : Nat} (ht : sw_kd t = 4) {o : Nat} (ho : sw_kd o = 4) (st : sw_St) {st1 : sw_St} (h : j_X4_takeFrom F t o st = some ((), st1)) : sw_CV yX4_takeFrom (.code yX4_takeFrom cX4_takeFrom 2 none) 1 (fun g => [.ref (g.1 t), .ref (g.1 o)]) st  st1 := by
  refine sw_entV RX4 (fun g => [(0, .ref (g.1 t)), (1, .ref (g.1 o))]) (by decide) rfl (fun _ => Nat.le_of_ble_eq_true rfl) (fun _ => rfl) ?_
  intro p l e s m args below meth c g X hr hlk
  unfold j_X4_takeFrom at h
  refine sw_aload_n X 0 rfl rfl dX4_takeFrom_0 ?_
  refine sw_aload_n X 1 rfl rfl dX4_takeFrom_1 ?_
  refine sw_getI X sw_cl4 (show sw_kd o = 4 from ho) (k := 0) rfl (by decide) wf_X4_9 dX4_takeFrom_2 ?_
  refine sw_putI X sw_cl4 (show sw_kd t = 4 from ht) (k := 0) rfl (by decide) rfl rfl wf_X4_9 dX4_takeFrom_5 (fun s1 es1 => ?_)
  have h := nm_E h es1
  refine sw_aload_n X 1 rfl rfl dX4_takeFrom_8 ?_
  refine sw_getR X sw_cl4 (show sw_kd o = 4 from ho) (k := 1) rfl (by decide) (o1 := o + 1) (sw_rfT s1 ho : sw_rf s1 o 1 = o + 1) wf_X4_15 dX4_takeFrom_9 ?_
  refine sw_iconst X (v := 0) (by decide) dX4_takeFrom_12 ?_
  refine sw_aload_n X 0 rfl rfl dX4_takeFrom_13 ?_
  refine sw_getR X sw_cl4 (show sw_kd t = 4 from ht) (k := 1) rfl (by decide) (o1 := t + 1) (sw_rfT s1 ht : sw_rf s1 t 1 = t + 1) wf_X4_15 dX4_takeFrom_14 ?_
  refine sw_iconst X (v := 0) (by decide) dX4_takeFrom_17 ?_
  refine sw_bipush X (v := 6) (by decide) dX4_takeFrom_18 ?_
  refine sw_copy X (show sw_kd (o + 1) = 8 from (sw_tk1 ho)) (n0 := 6) (sw_tn1 ho) (show sw_kd (t + 1) = 8 from (sw_tk1 ht)) (n1 := 6) (sw_tn1 ht) (by decide) (by decide) (by decide) (by decide) (by decide) wm_X4_58 ws_copy.1 ws_copy.2.1 ws_copy.2.2 (by omega) (Nat.le_of_ble_eq_true rfl) dX4_takeFrom_20 (fun s2 es2 => ?_)
  have h := nm_E h es2
  refine sw_aload_n X 1 rfl rfl dX4_takeFrom_23 ?_
  refine sw_getR X sw_cl4 (show sw_kd o = 4 from ho) (k := 2) rfl (by decide) (o1 := o + 2) (sw_rfT s2 ho : sw_rf s2 o 2 = o + 2) wf_X4_19 dX4_takeFrom_24 ?_
  refine sw_iconst X (v := 0) (by decide) dX4_takeFrom_27 ?_
  refine sw_aload_n X 0 rfl rfl dX4_takeFrom_28 ?_
  refine sw_getR X sw_cl4 (show sw_kd t = 4 from ht) (k := 2) rfl (by decide) (o1 := t + 2) (sw_rfT s2 ht : sw_rf s2 t 2 = t + 2) wf_X4_19 dX4_takeFrom_29 ?_
  refine sw_iconst X (v := 0) (by decide) dX4_takeFrom_32 ?_
  refine sw_bipush X (v := 6) (by decide) dX4_takeFrom_33 ?_
  refine sw_copy X (show sw_kd (o + 2) = 8 from (sw_tk2 ho)) (n0 := 6) (sw_tn2 ho) (show sw_kd (t + 2) = 8 from (sw_tk2 ht)) (n1 := 6) (sw_tn2 ht) (by decide) (by decide) (by decide) (by decide) (by decide) wm_X4_58 ws_copy.1 ws_copy.2.1 ws_copy.2.2 (by omega) (Nat.le_of_ble_eq_true rfl) dX4_takeFrom_35 (fun s4 es4 => ?_)
  have h := nm_E h es4
  refine sw_aload_n X 1 rfl rfl dX4_takeFrom_38 ?_
  refine sw_getR X sw_cl4 (show sw_kd o = 4 from ho) (k := 3) rfl (by decide) (o1 := o + 3) (sw_rfT s4 ho : sw_rf s4 o 3 = o + 3) wf_X4_22 dX4_takeFrom_39 ?_
  refine sw_iconst X (v := 0) (by decide) dX4_takeFrom_42 ?_
  refine sw_aload_n X 0 rfl rfl dX4_takeFrom_43 ?_
  refine sw_getR X sw_cl4 (show sw_kd t = 4 from ht) (k := 3) rfl (by decide) (o1 := t + 3) (sw_rfT s4 ht : sw_rf s4 t 3 = t + 3) wf_X4_22 dX4_takeFrom_44 ?_
  refine sw_iconst X (v := 0) (by decide) dX4_takeFrom_47 ?_
  refine sw_bipush X (v := 6) (by decide) dX4_takeFrom_48 ?_
  refine sw_copy X (show sw_kd (o + 3) = 8 from (sw_tk3 ho)) (n0 := 6) (sw_tn3 ho) (show sw_kd (t + 3) = 8 from (sw_tk3 ht)) (n1 := 6) (sw_tn3 ht) (by decide) (by decide) (by decide) (by decide) (by decide) wm_X4_58 ws_copy.1 ws_copy.2.1 ws_copy.2.2 (by omega) (Nat.le_of_ble_eq_true rfl) dX4_takeFrom_50 (fun s6 es6 => ?_)
  have h := nm_E h es6
  refine sw_aload_n X 1 rfl rfl dX4_takeFrom_53 ?_
  refine sw_getR X sw_cl4 (show sw_kd o = 4 from ho) (k := 4) rfl (by decide) (o1 := o + 4) (sw_rfT s6 ho : sw_rf s6 o 4 = o + 4) wf_X4_25 dX4_takeFrom_54 ?_
  refine sw_iconst X (v := 0) (by decide) dX4_takeFrom_57 ?_
  refine sw_aload_n X 0 rfl rfl dX4_takeFrom_58 ?_
  refine sw_getR X sw_cl4 (show sw_kd t = 4 from ht) (k := 4) rfl (by decide) (o1 := t + 4) (sw_rfT s6 ht : sw_rf s6 t 4 = t + 4) wf_X4_25 dX4_takeFrom_59 ?_
  refine sw_iconst X (v := 0) (by decide) dX4_takeFrom_62 ?_
  refine sw_bipush X (v := 6) (by decide) dX4_takeFrom_63 ?_
  refine sw_copy X (show sw_kd (o + 4) = 8 from (sw_tk4 ho)) (n0 := 6) (sw_tn4 ho) (show sw_kd (t + 4) = 8 from (sw_tk4 ht)) (n1 := 6) (sw_tn4 ht) (by decide) (by decide) (by decide) (by decide) (by decide) wm_X4_58 ws_copy.1 ws_copy.2.1 ws_copy.2.2 (by omega) (Nat.le_of_ble_eq_true rfl) dX4_takeFrom_65 (fun s8 es8 => ?_)
  have h := nm_E h es8
  refine sw_aload_n X 0 rfl rfl dX4_takeFrom_68 ?_
  refine sw_aload_n X 1 rfl rfl dX4_takeFrom_69 ?_
  refine sw_getI X sw_cl4 (show sw_kd o = 4 from ho) (k := 5) rfl (by decide) wf_X4_28 dX4_takeFrom_70 ?_
  refine sw_putI X sw_cl4 (show sw_kd t = 4 from ht) (k := 5) rfl (by decide) rfl rfl wf_X4_28 dX4_takeFrom_73 (fun s10 es10 => ?_)
  have h := nm_E h es10
  refine sw_aload_n X 0 rfl rfl dX4_takeFrom_76 ?_
  refine sw_aload_n X 1 rfl rfl dX4_takeFrom_77 ?_
  refine sw_getI X sw_cl4 (show sw_kd o = 4 from ho) (k := 6) rfl (by decide) wf_X4_31 dX4_takeFrom_78 ?_
  refine sw_putI X sw_cl4 (show sw_kd t = 4 from ht) (k := 6) rfl (by decide) rfl rfl wf_X4_31 dX4_takeFrom_81 (fun s11 es11 => ?_)
  have h := nm_E h es11
  refine sw_aload_n X 0 rfl rfl dX4_takeFrom_84 ?_
  refine sw_aload_n X 1 rfl rfl dX4_takeFrom_85 ?_
  refine sw_getI X sw_cl4 (show sw_kd o = 4 from ho) (k := 7) rfl (by decide) wf_X4_34 dX4_takeFrom_86 ?_
  refine sw_putI X sw_cl4 (show sw_kd t = 4 from ht) (k := 7) rfl (by decide) rfl rfl wf_X4_34 dX4_takeFrom_89 (fun s12 es12 => ?_)
  have h := nm_E h es12
  refine sw_aload_n X 0 rfl rfl dX4_takeFrom_92 ?_
  refine sw_aload_n X 1 rfl rfl dX4_takeFrom_93 ?_
  refine sw_getI X sw_cl4 (show sw_kd o = 4 from ho) (k := 8) rfl (by decide) wf_X4_37 dX4_takeFrom_94 ?_
  refine sw_putI X sw_cl4 (show sw_kd t = 4 from ht) (k := 8) rfl (by decide) rfl rfl wf_X4_37 dX4_takeFrom_97 (fun s13 es13 => ?_)
  have h := nm_E h es13
  refine sw_aload_n X 0 rfl rfl dX4_takeFrom_100 ?_
  refine sw_aload_n X 1 rfl rfl dX4_takeFrom_101 ?_
  refine sw_getI X sw_cl4 (show sw_kd o = 4 from ho) (k := 9) rfl (by decide) wf_X4_40 dX4_takeFrom_102 ?_
  refine sw_putI X sw_cl4 (show sw_kd t = 4 from ht) (k := 9) rfl (by decide) rfl rfl wf_X4_40 dX4_takeFrom_105 (fun s14 es14 => ?_)
  have h := nm_E h es14
  refine sw_aload_n X 0 rfl rfl dX4_takeFrom_108 ?_
  refine sw_aload_n X 1 rfl rfl dX4_takeFrom_109 ?_
  refine sw_getI X sw_cl4 (show sw_kd o = 4 from ho) (k := 10) rfl (by decide) wf_X4_43 dX4_takeFrom_110 ?_
  refine sw_putI X sw_cl4 (show sw_kd t = 4 from ht) (k := 10) rfl (by decide) rfl rfl wf_X4_43 dX4_takeFrom_113 (fun s15 es15 => ?_)
  have h := nm_E h es15
  refine sw_aload_n X 0 rfl rfl dX4_takeFrom_116 ?_
  refine sw_aload_n X 1 rfl rfl dX4_takeFrom_117 ?_
  refine sw_getI X sw_cl4 (show sw_kd o = 4 from ho) (k := 11) rfl (by decide) wf_X4_46 dX4_takeFrom_118 ?_
  refine sw_putI X sw_cl4 (show sw_kd t = 4 from ht) (k := 11) rfl (by decide) rfl rfl wf_X4_46 dX4_takeFrom_121 (fun s16 es16 => ?_)
  have h := nm_E h es16
  refine sw_aload_n X 1 rfl rfl dX4_takeFrom_124 ?_
  refine sw_getR X sw_cl4 (show sw_kd o = 4 from ho) (k := 12) rfl (by decide) (o1 := o + 5) (sw_rfT s16 ho : sw_rf s16 o 12 = o + 5) wf_X4_49 dX4_takeFrom_125 ?_
  refine sw_iconst X (v := 0) (by decide) dX4_takeFrom_128 ?_
  refine sw_aload_n X 0 rfl rfl dX4_takeFrom_129 ?_
  refine sw_getR X sw_cl4 (show sw_kd t = 4 from ht) (k := 12) rfl (by decide) (o1 := t + 5) (sw_rfT s16 ht : sw_rf s16 t 12 = t + 5) wf_X4_49 dX4_takeFrom_130 ?_
  refine sw_iconst X (v := 0) (by decide) dX4_takeFrom_133 ?_
  refine sw_bipush X (v := 40) (by decide) dX4_takeFrom_134 ?_
  refine sw_copy X (show sw_kd (o + 5) = 8 from (sw_tk5 ho)) (n0 := 40) (sw_tn5 ho) (show sw_kd (t + 5) = 8 from (sw_tk5 ht)) (n1 := 40) (sw_tn5 ht) (by decide) (by decide) (by decide) (by decide) (by decide) wm_X4_58 ws_copy.1 ws_copy.2.1 ws_copy.2.2 (by omega) (Nat.le_of_ble_eq_true rfl) dX4_takeFrom_136 (fun s17 es17 => ?_)
  have h := nm_E h es17
  refine sw_aload_n X 1 rfl rfl dX4_takeFrom_139 ?_
  refine sw_getR X sw_cl4 (show sw_kd o = 4 from ho) (k := 13) rfl (by decide) (o1 := o + 6) (sw_rfT s17 ho : sw_rf s17 o 13 = o + 6) wf_X4_52 dX4_takeFrom_140 ?_
  refine sw_iconst X (v := 0) (by decide) dX4_takeFrom_143 ?_
  refine sw_aload_n X 0 rfl rfl dX4_takeFrom_144 ?_
  refine sw_getR X sw_cl4 (show sw_kd t = 4 from ht) (k := 13) rfl (by decide) (o1 := t + 6) (sw_rfT s17 ht : sw_rf s17 t 13 = t + 6) wf_X4_52 dX4_takeFrom_145 ?_
  refine sw_iconst X (v := 0) (by decide) dX4_takeFrom_148 ?_
  refine sw_bipush X (v := 40) (by decide) dX4_takeFrom_149 ?_
  refine sw_copy X (show sw_kd (o + 6) = 8 from (sw_tk6 ho)) (n0 := 40) (sw_tn6 ho) (show sw_kd (t + 6) = 8 from (sw_tk6 ht)) (n1 := 40) (sw_tn6 ht) (by decide) (by decide) (by decide) (by decide) (by decide) wm_X4_58 ws_copy.1 ws_copy.2.1 ws_copy.2.2 (by omega) (Nat.le_of_ble_eq_true rfl) dX4_takeFrom_151 (fun s19 es19 => ?_)
  have h := nm_E h es19
  refine sw_aload_n X 0 rfl rfl dX4_takeFrom_154 ?_
  refine sw_aload_n X 1 rfl rfl dX4_takeFrom_155 ?_
  refine sw_getI X sw_cl4 (show sw_kd o = 4 from ho) (k := 14) rfl (by decide) wf_X4_55 dX4_takeFrom_156 ?_
  refine sw_putI X sw_cl4 (show sw_kd t = 4 from ht) (k := 14) rfl (by decide) rfl rfl wf_X4_55 dX4_takeFrom_159 (fun s21 es21 => ?_)
  have h := nm_E h es21
  exact sw_vret X hr hlk dX4_takeFrom_162 h
theorem dX4_begin_0 : decode cX4_begin 0 = .ok (.aload_n 0, 1) := by decide +kernel
theorem dX4_begin_1 : decode cX4_begin 1 = .ok (.aload_n 0, 1) := by decide +kernel
theorem dX4_begin_2 : decode cX4_begin 2 = .ok (.getfield 28, 3) := by decide +kernel
theorem dX4_begin_5 : decode cX4_begin 5 = .ok (.putfield 34, 3) := by decide +kernel
theorem dX4_begin_8 : decode cX4_begin 8 = .ok (.aload_n 0, 1) := by decide +kernel
theorem dX4_begin_9 : decode cX4_begin 9 = .ok (.aload_n 0, 1) := by decide +kernel
theorem dX4_begin_10 : decode cX4_begin 10 = .ok (.getfield 31, 3) := by decide +kernel
theorem dX4_begin_13 : decode cX4_begin 13 = .ok (.putfield 37, 3) := by decide +kernel
theorem dX4_begin_16 : decode cX4_begin 16 = .ok (.aload_n 0, 1) := by decide +kernel
theorem dX4_begin_17 : decode cX4_begin 17 = .ok (.iconst 0, 1) := by decide +kernel
theorem dX4_begin_18 : decode cX4_begin 18 = .ok (.putfield 40, 3) := by decide +kernel
theorem dX4_begin_21 : decode cX4_begin 21 = .ok (.aload_n 0, 1) := by decide +kernel
theorem dX4_begin_22 : decode cX4_begin 22 = .ok (.iconst 0, 1) := by decide +kernel
theorem dX4_begin_23 : decode cX4_begin 23 = .ok (.putfield 43, 3) := by decide +kernel
theorem dX4_begin_26 : decode cX4_begin 26 = .ok (.aload_n 0, 1) := by decide +kernel
theorem dX4_begin_27 : decode cX4_begin 27 = .ok (.iconst 0, 1) := by decide +kernel
theorem dX4_begin_28 : decode cX4_begin 28 = .ok (.putfield 46, 3) := by decide +kernel
theorem dX4_begin_31 : decode cX4_begin 31 = .ok (.aload_n 0, 1) := by decide +kernel
theorem dX4_begin_32 : decode cX4_begin 32 = .ok (.iconst 0, 1) := by decide +kernel
theorem dX4_begin_33 : decode cX4_begin 33 = .ok (.putfield 55, 3) := by decide +kernel
theorem dX4_begin_36 : decode cX4_begin 36 = .ok (.return_, 1) := by decide +kernel
def j_X4_begin (F : Nat) (t : Nat) (st : sw_St) : Option (Unit × sw_St) :=
nm (sw_setC st t 7 (st.1 t 5)) (fun (s1 : sw_St) =>
nm (sw_setC s1 t 8 (s1.1 t 6)) (fun (s2 : sw_St) =>
nm (sw_setC s2 t 9 0) (fun (s3 : sw_St) =>
nm (sw_setC s3 t 10 0) (fun (s4 : sw_St) =>
nm (sw_setC s4 t 11 0) (fun (s5 : sw_St) =>
nm (sw_setC s5 t 14 0) (fun (s6 : sw_St) =>
some ((), s6)))))))
set_option maxHeartbeats 4000000 in
set_option maxRecDepth 100000 in
theorem c_X4_begin (F : Nat) {t : Nat} (ht : sw_kd t = 4) (st : sw_St) {st1 : sw_St} (h : j_X4_begin F t st = some ((), st1)) : sw_CV yX4_begin (.code yX4_begin cX4_begin 1 none) 1 (fun g => [.ref (g.1 t)]) st  st1 := by
  refine sw_entV RX4 (fun g => [(0, .ref (g.1 t))]) (by decide) rfl (fun _ => Nat.le_of_ble_eq_true rfl) (fun _ => rfl) ?_
  intro p l e s m args below meth c g X hr hlk
  unfold j_X4_begin at h
  refine sw_aload_n X 0 rfl rfl dX4_begin_0 ?_
  refine sw_aload_n X 0 rfl rfl dX4_begin_1 ?_
  refine sw_getI X sw_cl4 (show sw_kd t = 4 from ht) (k := 5) rfl (by decide) wf_X4_28 dX4_begin_2 ?_
  refine sw_putI X sw_cl4 (show sw_kd t = 4 from ht) (k := 7) rfl (by decide) rfl rfl wf_X4_34 dX4_begin_5 (fun s1 es1 => ?_)
  have h := nm_E h es1
  refine sw_aload_n X 0 rfl rfl dX4_begin_8 ?_
  refine sw_aload_n X 0 rfl rfl dX4_begin_9 ?_
  refine sw_getI X sw_cl4 (show sw_kd t = 4 from ht) (k := 6) rfl (by decide) wf_X4_31 dX4_begin_10 ?_
  refine sw_putI X sw_cl4 (show sw_kd t = 4 from ht) (k := 8) rfl (by decide) rfl rfl wf_X4_37 dX4_begin_13 (fun s2 es2 => ?_)
  have h := nm_E h es2
  refine sw_aload_n X 0 rfl rfl dX4_begin_16 ?_
  refine sw_iconst X (v := 0) (by decide) dX4_begin_17 ?_
  refine sw_putI X sw_cl4 (show sw_kd t = 4 from ht) (k := 9) rfl (by decide) rfl rfl wf_X4_40 dX4_begin_18 (fun s3 es3 => ?_)
  have h := nm_E h es3
  refine sw_aload_n X 0 rfl rfl dX4_begin_21 ?_
  refine sw_iconst X (v := 0) (by decide) dX4_begin_22 ?_
  refine sw_putI X sw_cl4 (show sw_kd t = 4 from ht) (k := 10) rfl (by decide) rfl rfl wf_X4_43 dX4_begin_23 (fun s4 es4 => ?_)
  have h := nm_E h es4
  refine sw_aload_n X 0 rfl rfl dX4_begin_26 ?_
  refine sw_iconst X (v := 0) (by decide) dX4_begin_27 ?_
  refine sw_putI X sw_cl4 (show sw_kd t = 4 from ht) (k := 11) rfl (by decide) rfl rfl wf_X4_46 dX4_begin_28 (fun s5 es5 => ?_)
  have h := nm_E h es5
  refine sw_aload_n X 0 rfl rfl dX4_begin_31 ?_
  refine sw_iconst X (v := 0) (by decide) dX4_begin_32 ?_
  refine sw_putI X sw_cl4 (show sw_kd t = 4 from ht) (k := 14) rfl (by decide) rfl rfl wf_X4_55 dX4_begin_33 (fun s6 es6 => ?_)
  have h := nm_E h es6
  exact sw_vret X hr hlk dX4_begin_36 h
theorem dX4_has_0 : decode cX4_has 0 = .ok (.iload_n 1, 1) := by decide +kernel
theorem dX4_has_1 : decode cX4_has 1 = .ok (.ifCond .lt 15, 3) := by decide +kernel
theorem dX4_has_4 : decode cX4_has 4 = .ok (.iload_n 1, 1) := by decide +kernel
theorem dX4_has_5 : decode cX4_has 5 = .ok (.aload_n 0, 1) := by decide +kernel
theorem dX4_has_6 : decode cX4_has 6 = .ok (.getfield 9, 3) := by decide +kernel
theorem dX4_has_9 : decode cX4_has 9 = .ok (.if_icmp .ge 7, 3) := by decide +kernel
theorem dX4_has_12 : decode cX4_has 12 = .ok (.iconst 1, 1) := by decide +kernel
theorem dX4_has_13 : decode cX4_has 13 = .ok (.goto 4, 3) := by decide +kernel
theorem dX4_has_16 : decode cX4_has 16 = .ok (.iconst 0, 1) := by decide +kernel
theorem dX4_has_17 : decode cX4_has 17 = .ok (.ireturn, 1) := by decide +kernel
def j_X4_has (F : Nat) (t : Nat) (a1 : Int32) (st : sw_St) : Option Int32 :=
jn (fun (x1 : Int32) => 
  grd (x1 = 0 ∨ x1 = 1) (some (x1 : Int32))) (fun k2 =>
 jn (
   k2 0) (fun k5 =>
  (if a1 < 0 then (
   k5)
  else (
   (if (st.1 t 0) ≤ a1 then (
    k5)
   else (
    k2 1))))))
set_option maxHeartbeats 4000000 in
set_option maxRecDepth 100000 in
theorem c_X4_has (F : Nat) {t : Nat} (ht : sw_kd t = 4) (a1 : Int32) (st : sw_St) {r : Int32} (h : j_X4_has F t a1 st = some r) : sw_CI yX4_has (.code yX4_has cX4_has 2 (some .boolean)) 1 (fun g => [.ref (g.1 t), .int a1]) st r st := by
  refine sw_entI RX4 (fun g => [(0, .ref (g.1 t)), (1, .int a1)]) (by decide) rfl (fun _ => Nat.le_of_ble_eq_true rfl) (fun _ => rfl) ?_
  intro p l e s m args below meth c g X hr hlk
  unfold j_X4_has at h
  refine sw_iload_n X 1 rfl rfl dX4_has_0 ?_
  refine jn1_E (fun (x1 : Int32) => sw_V p l e 1 s m args below meth c g (sw_A g s.heap.size) (sw_QI below g args s r st) 2 17 [] [.int x1] st) h (fun x1 h => ?_) (fun k2 J3 h => ?_)
  · obtain ⟨q4, h⟩ := grd_E h
    exact sw_zret X hr hlk q4 dX4_has_17 (by cases h; rfl)
  · refine jn0_E (sw_V p l e 1 s m args below meth c g (sw_A g s.heap.size) (sw_QI below g args s r st) 2 16 [] [] st) h (fun h => ?_) (fun k5 J6 h => ?_)
    · refine sw_iconst X (v := 0) (by decide) dX4_has_16 ?_
      exact J3 _ h
    · refine sw_if_lt X 16 (by decide) dX4_has_1 (fun q7 => ?_) (fun q7 => ?_)
      · have h := ite_T h q7
        refine sw_sub [] rfl ?_
        exact J6  h
      · have h := ite_F h q7
        refine sw_iload_n X 1 rfl rfl dX4_has_4 ?_
        refine sw_aload_n X 0 rfl rfl dX4_has_5 ?_
        refine sw_getI X sw_cl4 (show sw_kd t = 4 from ht) (k := 0) rfl (by decide) wf_X4_9 dX4_has_6 ?_
        refine sw_icmp_ge X 16 (by decide) dX4_has_9 (fun q8 => ?_) (fun q8 => ?_)
        · have h := ite_T h q8
          refine sw_sub [] rfl ?_
          exact J6  h
        · have h := ite_F h q8
          refine sw_iconst X (v := 1) (by decide) dX4_has_12 ?_
          refine sw_goto X 17 (by decide) dX4_has_13 ?_
          refine sw_sub [] rfl ?_
          exact J3 _ h
theorem dX4_isIn_0 : decode cX4_isIn 0 = .ok (.aload_n 0, 1) := by decide +kernel
theorem dX4_isIn_1 : decode cX4_isIn 1 = .ok (.getfield 46, 3) := by decide +kernel
theorem dX4_isIn_4 : decode cX4_isIn 4 = .ok (.iload_n 1, 1) := by decide +kernel
theorem dX4_isIn_5 : decode cX4_isIn 5 = .ok (.ishr, 1) := by decide +kernel
theorem dX4_isIn_6 : decode cX4_isIn 6 = .ok (.iconst 1, 1) := by decide +kernel
theorem dX4_isIn_7 : decode cX4_isIn 7 = .ok (.iand, 1) := by decide +kernel
theorem dX4_isIn_8 : decode cX4_isIn 8 = .ok (.iconst 1, 1) := by decide +kernel
theorem dX4_isIn_9 : decode cX4_isIn 9 = .ok (.if_icmp .ne 7, 3) := by decide +kernel
theorem dX4_isIn_12 : decode cX4_isIn 12 = .ok (.iconst 1, 1) := by decide +kernel
theorem dX4_isIn_13 : decode cX4_isIn 13 = .ok (.goto 4, 3) := by decide +kernel
theorem dX4_isIn_16 : decode cX4_isIn 16 = .ok (.iconst 0, 1) := by decide +kernel
theorem dX4_isIn_17 : decode cX4_isIn 17 = .ok (.ireturn, 1) := by decide +kernel
def j_X4_isIn (F : Nat) (t : Nat) (a1 : Int32) (st : sw_St) : Option Int32 :=
jn (fun (x1 : Int32) => 
  grd (x1 = 0 ∨ x1 = 1) (some (x1 : Int32))) (fun k2 =>
 (if (((st.1 t 11) >>> (a1 &&& 31)) &&& 1) = 1 then (
  k2 1)
 else (
  k2 0)))
set_option maxHeartbeats 4000000 in
set_option maxRecDepth 100000 in
theorem c_X4_isIn (F : Nat) {t : Nat} (ht : sw_kd t = 4) (a1 : Int32) (st : sw_St) {r : Int32} (h : j_X4_isIn F t a1 st = some r) : sw_CI yX4_isIn (.code yX4_isIn cX4_isIn 2 (some .boolean)) 1 (fun g => [.ref (g.1 t), .int a1]) st r st := by
  refine sw_entI RX4 (fun g => [(0, .ref (g.1 t)), (1, .int a1)]) (by decide) rfl (fun _ => Nat.le_of_ble_eq_true rfl) (fun _ => rfl) ?_
  intro p l e s m args below meth c g X hr hlk
  unfold j_X4_isIn at h
  refine sw_aload_n X 0 rfl rfl dX4_isIn_0 ?_
  refine sw_getI X sw_cl4 (show sw_kd t = 4 from ht) (k := 11) rfl (by decide) wf_X4_46 dX4_isIn_1 ?_
  refine sw_iload_n X 1 rfl rfl dX4_isIn_4 ?_
  refine sw_ishr X dX4_isIn_5 ?_
  refine sw_iconst X (v := 1) (by decide) dX4_isIn_6 ?_
  refine sw_iand X dX4_isIn_7 ?_
  refine sw_iconst X (v := 1) (by decide) dX4_isIn_8 ?_
  refine jn1_E (fun (x1 : Int32) => sw_V p l e 1 s m args below meth c g (sw_A g s.heap.size) (sw_QI below g args s r st) 2 17 [] [.int x1] st) h (fun x1 h => ?_) (fun k2 J3 h => ?_)
  · obtain ⟨q4, h⟩ := grd_E h
    exact sw_zret X hr hlk q4 dX4_isIn_17 (by cases h; rfl)
  · refine sw_icmp_ne X 16 (by decide) dX4_isIn_9 (fun q5 => ?_) (fun q5 => ?_)
    · have h := ite_F h q5
      refine sw_iconst X (v := 0) (by decide) dX4_isIn_16 ?_
      refine sw_sub [] rfl ?_
      exact J3 _ h
    · have h := ite_T h q5
      refine sw_iconst X (v := 1) (by decide) dX4_isIn_12 ?_
      refine sw_goto X 17 (by decide) dX4_isIn_13 ?_
      refine sw_sub [] rfl ?_
      exact J3 _ h
theorem dX4_isFull_0 : decode cX4_isFull 0 = .ok (.aload_n 0, 1) := by decide +kernel
theorem dX4_isFull_1 : decode cX4_isFull 1 = .ok (.getfield 55, 3) := by decide +kernel
theorem dX4_isFull_4 : decode cX4_isFull 4 = .ok (.iload_n 1, 1) := by decide +kernel
theorem dX4_isFull_5 : decode cX4_isFull 5 = .ok (.iadd, 1) := by decide +kernel
theorem dX4_isFull_6 : decode cX4_isFull 6 = .ok (.bipush 40, 2) := by decide +kernel
theorem dX4_isFull_8 : decode cX4_isFull 8 = .ok (.if_icmp .le 7, 3) := by decide +kernel
theorem dX4_isFull_11 : decode cX4_isFull 11 = .ok (.iconst 1, 1) := by decide +kernel
theorem dX4_isFull_12 : decode cX4_isFull 12 = .ok (.goto 4, 3) := by decide +kernel
theorem dX4_isFull_15 : decode cX4_isFull 15 = .ok (.iconst 0, 1) := by decide +kernel
theorem dX4_isFull_16 : decode cX4_isFull 16 = .ok (.ireturn, 1) := by decide +kernel
def j_X4_isFull (F : Nat) (t : Nat) (a1 : Int32) (st : sw_St) : Option Int32 :=
jn (fun (x1 : Int32) => 
  grd (x1 = 0 ∨ x1 = 1) (some (x1 : Int32))) (fun k2 =>
 (if ((st.1 t 14) + a1) ≤ 40 then (
  k2 0)
 else (
  k2 1)))
set_option maxHeartbeats 4000000 in
set_option maxRecDepth 100000 in
theorem c_X4_isFull (F : Nat) {t : Nat} (ht : sw_kd t = 4) (a1 : Int32) (st : sw_St) {r : Int32} (h : j_X4_isFull F t a1 st = some r) : sw_CI yX4_isFull (.code yX4_isFull cX4_isFull 2 (some .boolean)) 1 (fun g => [.ref (g.1 t), .int a1]) st r st := by
  refine sw_entI RX4 (fun g => [(0, .ref (g.1 t)), (1, .int a1)]) (by decide) rfl (fun _ => Nat.le_of_ble_eq_true rfl) (fun _ => rfl) ?_
  intro p l e s m args below meth c g X hr hlk
  unfold j_X4_isFull at h
  refine sw_aload_n X 0 rfl rfl dX4_isFull_0 ?_
  refine sw_getI X sw_cl4 (show sw_kd t = 4 from ht) (k := 14) rfl (by decide) wf_X4_55 dX4_isFull_1 ?_
  refine sw_iload_n X 1 rfl rfl dX4_isFull_4 ?_
  refine sw_iadd X dX4_isFull_5 ?_
  refine sw_bipush X (v := 40) (by decide) dX4_isFull_6 ?_
  refine jn1_E (fun (x1 : Int32) => sw_V p l e 1 s m args below meth c g (sw_A g s.heap.size) (sw_QI below g args s r st) 2 16 [] [.int x1] st) h (fun x1 h => ?_) (fun k2 J3 h => ?_)
  · obtain ⟨q4, h⟩ := grd_E h
    exact sw_zret X hr hlk q4 dX4_isFull_16 (by cases h; rfl)
  · refine sw_icmp_le X 15 (by decide) dX4_isFull_8 (fun q5 => ?_) (fun q5 => ?_)
    · have h := ite_T h q5
      refine sw_iconst X (v := 0) (by decide) dX4_isFull_15 ?_
      refine sw_sub [] rfl ?_
      exact J3 _ h
    · have h := ite_F h q5
      refine sw_iconst X (v := 1) (by decide) dX4_isFull_11 ?_
      refine sw_goto X 16 (by decide) dX4_isFull_12 ?_
      refine sw_sub [] rfl ?_
      exact J3 _ h
