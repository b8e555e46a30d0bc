set_option maxHeartbeats 16000000 in
set_option maxRecDepth 100000 in
theorem lw_loop {p : Program} {l : Launch} {e : Env} {s : State} {m : MethodId} {below : List Frame} {meth : Method} {c : Code} {g : sw_G} {b L : Nat} {xs : Nat → Int32} {I : sw_St → Prop} {F : Nat} (SM : sm_all I F) (hL : L ≤ 384) (G : lw_G p s m c b g) (hr : meth.sig.returnType = ret) (hlocks : meth.locks = false) (hX : va_X b L xs s s.heap) (hbl : b < s.heap.size) :
    ∀ (n i : Nat) (x3 : Int32) (st : sw_St) (H : Heap) (lcs : List Loc) (ls : Array Slot), i ≤ L + 6 → L + 1 ≤ i + n → x3 = nI i → I st → va_P g.2.1 vwCl (sw_W g st) H → va_S (fun q : Nat => s.heap.size ≤ q) s.heap H lcs → lv_has ls 4 [(0, .ref b), (1, .ref (g.1 0)), (2, .ref (g.1 63)), (3, .int x3)] → W p l e room_1 s m #[Value.ref b] below meth c H lcs 77 5047 (lw_Z below #[Value.ref b] s) (F0 m 18 ls []) := by
  have hx := G.1
  have hb := G.2.1
  have hbA : ¬ (fun q : Nat => s.heap.size ≤ q) b := Nat.not_le.mpr hbl
  intro n
  induction n with
  | zero =>
    intro i x3 st H lcs ls h1 h2 ex hI hP hS hl
    have hlast : ∀ (H : Heap) (lcs : List Loc), va_S (fun q : Nat => s.heap.size ≤ q) s.heap H lcs → W p l e room_1 s m #[Value.ref b] below meth c H lcs 77 5047 (lw_Z below #[Value.ref b] s) (F0 m 1399 ls []) := fun H lcs hS => by
      refine lv_iconst (v := 1) hx hb dL_law_1399 (by decide) ?_
      refine va_forget (fun q hq => hS.2.2 q hq) ?_
      refine W.widen (k := 600000) (n := 7302250) (by decide) (by decide) ?_
      exact lw_ret hx hb hr hlocks dL_law_1400
    refine lv_iload_n hx hb dL_law_18 rfl (lv_at hl 3 rfl) ?_
    refine lv_aload_n hx hb dL_law_19 rfl (lv_at hl 0 rfl) ?_
    refine va_slen hx hb hX hbl hbA hS dL_law_20 ?_
    refine lv_bipush (v := 6) hx hb dL_law_21 (by decide) ?_
    refine lv_isub hx hb dL_law_23 ?_
    refine lv_icmp_gt (tgt := 1399) hx hb dL_law_24 (by decide) (fun _ => hlast H lcs hS) (fun q => ?_)
    exfalso
    apply q
    rw [ex]
    show nI L - nI 6 < nI i
    rw [Int32.lt_iff_toInt_lt, pk_sub_toInt (by omega) (by omega), nI_toInt (by omega)]
    omega
  | succ n ih =>
    intro i x3 st H lcs ls h1 h2 ex hI hP hS hl
    refine lv_iload_n hx hb dL_law_18 rfl (lv_at hl 3 rfl) ?_
    refine lv_aload_n hx hb dL_law_19 rfl (lv_at hl 0 rfl) ?_
    refine va_slen hx hb hX hbl hbA hS dL_law_20 ?_
    refine lv_bipush (v := 6) hx hb dL_law_21 (by decide) ?_
    refine lv_isub hx hb dL_law_23 ?_
    refine lv_icmp_gt (tgt := 1399) hx hb dL_law_24 (by decide) (fun _ => ?_) (fun q => ?_)
    · refine lv_iconst (v := 1) hx hb dL_law_1399 (by decide) ?_
      refine va_forget (fun q hq => hS.2.2 q hq) ?_
      refine W.widen (k := 600000) (n := 7302250) (by decide) (by decide) ?_
      exact lw_ret hx hb hr hlocks dL_law_1400
    have hi : i + 6 ≤ L := by
      rcases Nat.lt_or_ge L (i + 6) with z | z
      · exfalso
        apply q
        rw [ex]
        show nI L - nI 6 < nI i
        rw [Int32.lt_iff_toInt_lt, pk_sub_toInt (by omega) (by omega), nI_toInt (by omega)]
        omega
      · exact z
    have hb0 : vp_in x3 L := by rw [ex]; exact vp_in_nI (by omega) (by omega)
    have hb1 : vp_in (x3 + 1) L := by rw [ex]; show vp_in (nI i + nI 1) L; rw [nI_add]; exact vp_in_nI (by omega) (by omega)
    have hb2 : vp_in (x3 + 2) L := by rw [ex]; show vp_in (nI i + nI 2) L; rw [nI_add]; exact vp_in_nI (by omega) (by omega)
    have hb3 : vp_in (x3 + 3) L := by rw [ex]; show vp_in (nI i + nI 3) L; rw [nI_add]; exact vp_in_nI (by omega) (by omega)
    have hb4 : vp_in (x3 + 4) L := by rw [ex]; show vp_in (nI i + nI 4) L; rw [nI_add]; exact vp_in_nI (by omega) (by omega)
    have hb5 : vp_in (x3 + 5) L := by rw [ex]; show vp_in (nI i + nI 5) L; rw [nI_add]; exact vp_in_nI (by omega) (by omega)
    have next : ∀ (st2 : sw_St) (H : Heap) (lcs : List Loc), I st2 → va_P g.2.1 vwCl (sw_W g st2) H → va_S (fun q : Nat => s.heap.size ≤ q) s.heap H lcs → W p l e room_1 s m #[Value.ref b] below meth c H lcs 77 5047 (lw_Z below #[Value.ref b] s) (F0 m 1393 ls []) := fun st2 H lcs hI hP hS => by
      obtain ⟨x4, ex4⟩ : ∃ y : Int32, y = x3 + 6 := ⟨_, rfl⟩
      refine lv_iinc (v := x4) (lv' := [(3, .int x4), (0, .ref b), (1, .ref (g.1 0)), (2, .ref (g.1 63))]) hx hb dL_law_1393 hl (k := 3) rfl (by rw [ex4]; rfl) (by decide) rfl (fun ls hl => ?_)
      refine lv_goto (tgt := 18) hx hb dL_law_1396 (by decide) ?_
      exact ih (i + 6) x4 st2 H lcs ls (by omega) (by omega) (by rw [ex4, ex]; exact nI_add i 6) hI hP hS (lv_sub hl [1, 2, 3, 0] rfl)
    refine lv_aload_n hx hb dL_law_27 rfl (lv_at hl 0 rfl) ?_
    refine lv_iload_n hx hb dL_law_28 rfl (lv_at hl 3 rfl) ?_
    refine va_sld hx hb hX hbl hbA hS hb0 dL_law_29 ?_
    refine lv_bipush (v := 63) hx hb dL_law_30 (by decide) ?_
    refine lv_iand hx hb dL_law_32 ?_
    by_cases q0 : xs x3.toNatClampNeg &&& 63 = 0
    · rw [q0]
      refine lv_tableIn (off := 199) (tgt := 232) hx hb dL_law_33 (by decide) (by decide) (by decide) (by decide) ?_
      exact lw_case_0 SM.1 G hX hbl hb1 hb2 hb3 hb4 hb5 hI hP hS hl next
    by_cases q1 : xs x3.toNatClampNeg &&& 63 = 1
    · rw [q1]
      refine lv_tableIn (off := 232) (tgt := 265) hx hb dL_law_33 (by decide) (by decide) (by decide) (by decide) ?_
      exact lw_case_1 SM.2.1 G hX hbl hb1 hb2 hb3 hb4 hb5 hI hP hS hl next
    by_cases q2 : xs x3.toNatClampNeg &&& 63 = 2
    · rw [q2]
      refine lv_tableIn (off := 275) (tgt := 308) hx hb dL_law_33 (by decide) (by decide) (by decide) (by decide) ?_
      exact lw_case_2 SM.2.2.1 G hX hbl hb1 hb2 hb3 hb4 hb5 hI hP hS hl next
    by_cases q3 : xs x3.toNatClampNeg &&& 63 = 3
    · rw [q3]
      refine lv_tableIn (off := 308) (tgt := 341) hx hb dL_law_33 (by decide) (by decide) (by decide) (by decide) ?_
      exact lw_case_3 SM.2.2.2.1 G hX hbl hb1 hb2 hb3 hb4 hb5 hI hP hS hl next
    by_cases q4 : xs x3.toNatClampNeg &&& 63 = 4
    · rw [q4]
      refine lv_tableIn (off := 331) (tgt := 364) hx hb dL_law_33 (by decide) (by decide) (by decide) (by decide) ?_
      exact lw_case_4 SM.2.2.2.2.1 G hX hbl hb1 hb2 hb3 hb4 hb5 hI hP hS hl next
    by_cases q5 : xs x3.toNatClampNeg &&& 63 = 5
    · rw [q5]
      refine lv_tableIn (off := 394) (tgt := 427) hx hb dL_law_33 (by decide) (by decide) (by decide) (by decide) ?_
      exact lw_case_5 SM.2.2.2.2.2.1 G hX hbl hb1 hb2 hb3 hb4 hb5 hI hP hS hl next
    by_cases q6 : xs x3.toNatClampNeg &&& 63 = 6
    · rw [q6]
      refine lv_tableIn (off := 417) (tgt := 450) hx hb dL_law_33 (by decide) (by decide) (by decide) (by decide) ?_
      exact lw_case_6 SM.2.2.2.2.2.2.1 G hX hbl hb1 hb2 hb3 hb4 hb5 hI hP hS hl next
    by_cases q7 : xs x3.toNatClampNeg &&& 63 = 7
    · rw [q7]
      refine lv_tableIn (off := 450) (tgt := 483) hx hb dL_law_33 (by decide) (by decide) (by decide) (by decide) ?_
      exact lw_case_7 SM.2.2.2.2.2.2.2.1 G hX hbl hb1 hb2 hb3 hb4 hb5 hI hP hS hl next
    by_cases q8 : xs x3.toNatClampNeg &&& 63 = 8
    · rw [q8]
      refine lv_tableIn (off := 493) (tgt := 526) hx hb dL_law_33 (by decide) (by decide) (by decide) (by decide) ?_
      exact lw_case_8 SM.2.2.2.2.2.2.2.2.1 G hX hbl hb1 hb2 hb3 hb4 hb5 hI hP hS hl next
    by_cases q9 : xs x3.toNatClampNeg &&& 63 = 9
    · rw [q9]
      refine lv_tableIn (off := 516) (tgt := 549) hx hb dL_law_33 (by decide) (by decide) (by decide) (by decide) ?_
      exact lw_case_9 SM.2.2.2.2.2.2.2.2.2.1 G hX hbl hb1 hb2 hb3 hb4 hb5 hI hP hS hl next
    by_cases q10 : xs x3.toNatClampNeg &&& 63 = 10
    · rw [q10]
      refine lv_tableIn (off := 539) (tgt := 572) hx hb dL_law_33 (by decide) (by decide) (by decide) (by decide) ?_
      exact lw_case_10 SM.2.2.2.2.2.2.2.2.2.2.1 G hX hbl hb1 hb2 hb3 hb4 hb5 hI hP hS hl next
    by_cases q11 : xs x3.toNatClampNeg &&& 63 = 11
    · rw [q11]
      refine lv_tableIn (off := 572) (tgt := 605) hx hb dL_law_33 (by decide) (by decide) (by decide) (by decide) ?_
      exact lw_case_11 SM.2.2.2.2.2.2.2.2.2.2.2.1 G hX hbl hb1 hb2 hb3 hb4 hb5 hI hP hS hl next
    by_cases q12 : xs x3.toNatClampNeg &&& 63 = 12
    · rw [q12]
      refine lv_tableIn (off := 605) (tgt := 638) hx hb dL_law_33 (by decide) (by decide) (by decide) (by decide) ?_
      exact lw_case_12 SM.2.2.2.2.2.2.2.2.2.2.2.2.1 G hX hbl hb1 hb2 hb3 hb4 hb5 hI hP hS hl next
    by_cases q13 : xs x3.toNatClampNeg &&& 63 = 13
    · rw [q13]
      refine lv_tableIn (off := 628) (tgt := 661) hx hb dL_law_33 (by decide) (by decide) (by decide) (by decide) ?_
      exact lw_case_13 SM.2.2.2.2.2.2.2.2.2.2.2.2.2.1 G hX hbl hb1 hb2 hb3 hb4 hb5 hI hP hS hl next
    by_cases q14 : xs x3.toNatClampNeg &&& 63 = 14
    · rw [q14]
      refine lv_tableIn (off := 651) (tgt := 684) hx hb dL_law_33 (by decide) (by decide) (by decide) (by decide) ?_
      exact lw_case_14 SM.2.2.2.2.2.2.2.2.2.2.2.2.2.2.1 G hX hbl hb1 hb2 hb3 hb4 hb5 hI hP hS hl next
    by_cases q15 : xs x3.toNatClampNeg &&& 63 = 15
    · rw [q15]
      refine lv_tableIn (off := 674) (tgt := 707) hx hb dL_law_33 (by decide) (by decide) (by decide) (by decide) ?_
      exact lw_case_15 SM.2.2.2.2.2.2.2.2.2.2.2.2.2.2.2.1 G hX hbl hb1 hb2 hb3 hb4 hb5 hI hP hS hl next
    by_cases q16 : xs x3.toNatClampNeg &&& 63 = 16
    · rw [q16]
      refine lv_tableIn (off := 687) (tgt := 720) hx hb dL_law_33 (by decide) (by decide) (by decide) (by decide) ?_
      exact lw_case_16 SM.2.2.2.2.2.2.2.2.2.2.2.2.2.2.2.2.1 G hX hbl hb1 hb2 hb3 hb4 hb5 hI hP hS hl next
    by_cases q17 : xs x3.toNatClampNeg &&& 63 = 17
    · rw [q17]
      refine lv_tableIn (off := 710) (tgt := 743) hx hb dL_law_33 (by decide) (by decide) (by decide) (by decide) ?_
      exact lw_case_17 SM.2.2.2.2.2.2.2.2.2.2.2.2.2.2.2.2.2.1 G hX hbl hb1 hb2 hb3 hb4 hb5 hI hP hS hl next
    by_cases q18 : xs x3.toNatClampNeg &&& 63 = 18
    · rw [q18]
      refine lv_tableIn (off := 733) (tgt := 766) hx hb dL_law_33 (by decide) (by decide) (by decide) (by decide) ?_
      exact lw_case_18 SM.2.2.2.2.2.2.2.2.2.2.2.2.2.2.2.2.2.2.1 G hX hbl hb1 hb2 hb3 hb4 hb5 hI hP hS hl next
    by_cases q19 : xs x3.toNatClampNeg &&& 63 = 19
    · rw [q19]
      refine lv_tableIn (off := 756) (tgt := 789) hx hb dL_law_33 (by decide) (by decide) (by decide) (by decide) ?_
      exact lw_case_19 SM.2.2.2.2.2.2.2.2.2.2.2.2.2.2.2.2.2.2.2.1 G hX hbl hb1 hb2 hb3 hb4 hb5 hI hP hS hl next
    by_cases q20 : xs x3.toNatClampNeg &&& 63 = 20
    · rw [q20]
      refine lv_tableIn (off := 779) (tgt := 812) hx hb dL_law_33 (by decide) (by decide) (by decide) (by decide) ?_
      exact lw_case_20 SM.2.2.2.2.2.2.2.2.2.2.2.2.2.2.2.2.2.2.2.2.1 G hX hbl hb1 hb2 hb3 hb4 hb5 hI hP hS hl next
    by_cases q21 : xs x3.toNatClampNeg &&& 63 = 21
    · rw [q21]
      refine lv_tableIn (off := 792) (tgt := 825) hx hb dL_law_33 (by decide) (by decide) (by decide) (by decide) ?_
      exact lw_case_21 SM.2.2.2.2.2.2.2.2.2.2.2.2.2.2.2.2.2.2.2.2.2.1 G hX hbl hb1 hb2 hb3 hb4 hb5 hI hP hS hl next
    by_cases q22 : xs x3.toNatClampNeg &&& 63 = 22
    · rw [q22]
      refine lv_tableIn (off := 815) (tgt := 848) hx hb dL_law_33 (by decide) (by decide) (by decide) (by decide) ?_
      exact lw_case_22 SM.2.2.2.2.2.2.2.2.2.2.2.2.2.2.2.2.2.2.2.2.2.2.1 G hX hbl hb1 hb2 hb3 hb4 hb5 hI hP hS hl next
    by_cases q23 : xs x3.toNatClampNeg &&& 63 = 23
    · rw [q23]
      refine lv_tableIn (off := 828) (tgt := 861) hx hb dL_law_33 (by decide) (by decide) (by decide) (by decide) ?_
      exact lw_case_23 SM.2.2.2.2.2.2.2.2.2.2.2.2.2.2.2.2.2.2.2.2.2.2.2.1 G hX hbl hb1 hb2 hb3 hb4 hb5 hI hP hS hl next
    by_cases q24 : xs x3.toNatClampNeg &&& 63 = 24
    · rw [q24]
      refine lv_tableIn (off := 851) (tgt := 884) hx hb dL_law_33 (by decide) (by decide) (by decide) (by decide) ?_
      exact lw_case_24 SM.2.2.2.2.2.2.2.2.2.2.2.2.2.2.2.2.2.2.2.2.2.2.2.2.1 G hX hbl hb1 hb2 hb3 hb4 hb5 hI hP hS hl next
    by_cases q25 : xs x3.toNatClampNeg &&& 63 = 25
    · rw [q25]
      refine lv_tableIn (off := 884) (tgt := 917) hx hb dL_law_33 (by decide) (by decide) (by decide) (by decide) ?_
      exact lw_case_25 SM.2.2.2.2.2.2.2.2.2.2.2.2.2.2.2.2.2.2.2.2.2.2.2.2.2.1 G hX hbl hb1 hb2 hb3 hb4 hb5 hI hP hS hl next
    by_cases q26 : xs x3.toNatClampNeg &&& 63 = 26
    · rw [q26]
      refine lv_tableIn (off := 927) (tgt := 960) hx hb dL_law_33 (by decide) (by decide) (by decide) (by decide) ?_
      exact lw_case_26 SM.2.2.2.2.2.2.2.2.2.2.2.2.2.2.2.2.2.2.2.2.2.2.2.2.2.2.1 G hX hbl hb1 hb2 hb3 hb4 hb5 hI hP hS hl next
    by_cases q27 : xs x3.toNatClampNeg &&& 63 = 27
    · rw [q27]
      refine lv_tableIn (off := 950) (tgt := 983) hx hb dL_law_33 (by decide) (by decide) (by decide) (by decide) ?_
      exact lw_case_27 SM.2.2.2.2.2.2.2.2.2.2.2.2.2.2.2.2.2.2.2.2.2.2.2.2.2.2.2.1 G hX hbl hb1 hb2 hb3 hb4 hb5 hI hP hS hl next
    by_cases q28 : xs x3.toNatClampNeg &&& 63 = 28
    · rw [q28]
      refine lv_tableIn (off := 973) (tgt := 1006) hx hb dL_law_33 (by decide) (by decide) (by decide) (by decide) ?_
      exact lw_case_28 SM.2.2.2.2.2.2.2.2.2.2.2.2.2.2.2.2.2.2.2.2.2.2.2.2.2.2.2.2.1 G hX hbl hb1 hb2 hb3 hb4 hb5 hI hP hS hl next
    by_cases q29 : xs x3.toNatClampNeg &&& 63 = 29
    · rw [q29]
      refine lv_tableIn (off := 996) (tgt := 1029) hx hb dL_law_33 (by decide) (by decide) (by decide) (by decide) ?_
      exact lw_case_29 SM.2.2.2.2.2.2.2.2.2.2.2.2.2.2.2.2.2.2.2.2.2.2.2.2.2.2.2.2.2.1 G hX hbl hb1 hb2 hb3 hb4 hb5 hI hP hS hl next
    by_cases q30 : xs x3.toNatClampNeg &&& 63 = 30
    · rw [q30]
      refine lv_tableIn (off := 1019) (tgt := 1052) hx hb dL_law_33 (by decide) (by decide) (by decide) (by decide) ?_
      exact lw_case_30 SM.2.2.2.2.2.2.2.2.2.2.2.2.2.2.2.2.2.2.2.2.2.2.2.2.2.2.2.2.2.2.1 G hX hbl hb1 hb2 hb3 hb4 hb5 hI hP hS hl next
    by_cases q31 : xs x3.toNatClampNeg &&& 63 = 31
    · rw [q31]
      refine lv_tableIn (off := 1042) (tgt := 1075) hx hb dL_law_33 (by decide) (by decide) (by decide) (by decide) ?_
      exact lw_case_31 SM.2.2.2.2.2.2.2.2.2.2.2.2.2.2.2.2.2.2.2.2.2.2.2.2.2.2.2.2.2.2.2.1 G hX hbl hb1 hb2 hb3 hb4 hb5 hI hP hS hl next
    by_cases q32 : xs x3.toNatClampNeg &&& 63 = 32
    · rw [q32]
      refine lv_tableIn (off := 1065) (tgt := 1098) hx hb dL_law_33 (by decide) (by decide) (by decide) (by decide) ?_
      exact lw_case_32 SM.2.2.2.2.2.2.2.2.2.2.2.2.2.2.2.2.2.2.2.2.2.2.2.2.2.2.2.2.2.2.2.2.1 G hX hbl hb1 hb2 hb3 hb4 hb5 hI hP hS hl next
    by_cases q33 : xs x3.toNatClampNeg &&& 63 = 33
    · rw [q33]
      refine lv_tableIn (off := 1088) (tgt := 1121) hx hb dL_law_33 (by decide) (by decide) (by decide) (by decide) ?_
      exact lw_case_33 SM.2.2.2.2.2.2.2.2.2.2.2.2.2.2.2.2.2.2.2.2.2.2.2.2.2.2.2.2.2.2.2.2.2.1 G hX hbl hb1 hb2 hb3 hb4 hb5 hI hP hS hl next
    by_cases q34 : xs x3.toNatClampNeg &&& 63 = 34
    · rw [q34]
      refine lv_tableIn (off := 1111) (tgt := 1144) hx hb dL_law_33 (by decide) (by decide) (by decide) (by decide) ?_
      exact lw_case_34 SM.2.2.2.2.2.2.2.2.2.2.2.2.2.2.2.2.2.2.2.2.2.2.2.2.2.2.2.2.2.2.2.2.2.2.1 G hX hbl hb1 hb2 hb3 hb4 hb5 hI hP hS hl next
    by_cases q35 : xs x3.toNatClampNeg &&& 63 = 35
    · rw [q35]
      refine lv_tableIn (off := 1134) (tgt := 1167) hx hb dL_law_33 (by decide) (by decide) (by decide) (by decide) ?_
      exact lw_case_35 SM.2.2.2.2.2.2.2.2.2.2.2.2.2.2.2.2.2.2.2.2.2.2.2.2.2.2.2.2.2.2.2.2.2.2.2.1 G hX hbl hb1 hb2 hb3 hb4 hb5 hI hP hS hl next
    by_cases q36 : xs x3.toNatClampNeg &&& 63 = 36
    · rw [q36]
      refine lv_tableIn (off := 1157) (tgt := 1190) hx hb dL_law_33 (by decide) (by decide) (by decide) (by decide) ?_
      exact lw_case_36 SM.2.2.2.2.2.2.2.2.2.2.2.2.2.2.2.2.2.2.2.2.2.2.2.2.2.2.2.2.2.2.2.2.2.2.2.2.1 G hX hbl hb1 hb2 hb3 hb4 hb5 hI hP hS hl next
    by_cases q37 : xs x3.toNatClampNeg &&& 63 = 37
    · rw [q37]
      refine lv_tableIn (off := 1190) (tgt := 1223) hx hb dL_law_33 (by decide) (by decide) (by decide) (by decide) ?_
      exact lw_case_37 SM.2.2.2.2.2.2.2.2.2.2.2.2.2.2.2.2.2.2.2.2.2.2.2.2.2.2.2.2.2.2.2.2.2.2.2.2.2.1 G hX hbl hb1 hb2 hb3 hb4 hb5 hI hP hS hl next
    by_cases q38 : xs x3.toNatClampNeg &&& 63 = 38
    · rw [q38]
      refine lv_tableIn (off := 1213) (tgt := 1246) hx hb dL_law_33 (by decide) (by decide) (by decide) (by decide) ?_
      exact lw_case_38 SM.2.2.2.2.2.2.2.2.2.2.2.2.2.2.2.2.2.2.2.2.2.2.2.2.2.2.2.2.2.2.2.2.2.2.2.2.2.2.1 G hX hbl hb1 hb2 hb3 hb4 hb5 hI hP hS hl next
    by_cases q39 : xs x3.toNatClampNeg &&& 63 = 39
    · rw [q39]
      refine lv_tableIn (off := 1246) (tgt := 1279) hx hb dL_law_33 (by decide) (by decide) (by decide) (by decide) ?_
      exact lw_case_39 SM.2.2.2.2.2.2.2.2.2.2.2.2.2.2.2.2.2.2.2.2.2.2.2.2.2.2.2.2.2.2.2.2.2.2.2.2.2.2.2.1 G hX hbl hb1 hb2 hb3 hb4 hb5 hI hP hS hl next
    by_cases q40 : xs x3.toNatClampNeg &&& 63 = 40
    · rw [q40]
      refine lv_tableIn (off := 1259) (tgt := 1292) hx hb dL_law_33 (by decide) (by decide) (by decide) (by decide) ?_
      exact lw_case_40 SM.2.2.2.2.2.2.2.2.2.2.2.2.2.2.2.2.2.2.2.2.2.2.2.2.2.2.2.2.2.2.2.2.2.2.2.2.2.2.2.2.1 G hX hbl hb1 hb2 hb3 hb4 hb5 hI hP hS hl next
    by_cases q41 : xs x3.toNatClampNeg &&& 63 = 41
    · rw [q41]
      refine lv_tableIn (off := 1273) (tgt := 1306) hx hb dL_law_33 (by decide) (by decide) (by decide) (by decide) ?_
      exact lw_case_41 SM.2.2.2.2.2.2.2.2.2.2.2.2.2.2.2.2.2.2.2.2.2.2.2.2.2.2.2.2.2.2.2.2.2.2.2.2.2.2.2.2.2.1 G hX hbl hb1 hb2 hb3 hb4 hb5 hI hP hS hl next
    by_cases q42 : xs x3.toNatClampNeg &&& 63 = 42
    · rw [q42]
      refine lv_tableIn (off := 1287) (tgt := 1320) hx hb dL_law_33 (by decide) (by decide) (by decide) (by decide) ?_
      exact lw_case_42 SM.2.2.2.2.2.2.2.2.2.2.2.2.2.2.2.2.2.2.2.2.2.2.2.2.2.2.2.2.2.2.2.2.2.2.2.2.2.2.2.2.2.2.1 G hX hbl hb1 hb2 hb3 hb4 hb5 hI hP hS hl next
    by_cases q43 : xs x3.toNatClampNeg &&& 63 = 43
    · rw [q43]
      refine lv_tableIn (off := 1310) (tgt := 1343) hx hb dL_law_33 (by decide) (by decide) (by decide) (by decide) ?_
      exact lw_case_43 SM.2.2.2.2.2.2.2.2.2.2.2.2.2.2.2.2.2.2.2.2.2.2.2.2.2.2.2.2.2.2.2.2.2.2.2.2.2.2.2.2.2.2.2.1 G hX hbl hb1 hb2 hb3 hb4 hb5 hI hP hS hl next
    by_cases q44 : xs x3.toNatClampNeg &&& 63 = 44
    · rw [q44]
      refine lv_tableIn (off := 1323) (tgt := 1356) hx hb dL_law_33 (by decide) (by decide) (by decide) (by decide) ?_
      exact lw_case_44 SM.2.2.2.2.2.2.2.2.2.2.2.2.2.2.2.2.2.2.2.2.2.2.2.2.2.2.2.2.2.2.2.2.2.2.2.2.2.2.2.2.2.2.2.2.1 G hX hbl hb1 hb2 hb3 hb4 hb5 hI hP hS hl next
    by_cases q45 : xs x3.toNatClampNeg &&& 63 = 45
    · rw [q45]
      refine lv_tableIn (off := 1346) (tgt := 1379) hx hb dL_law_33 (by decide) (by decide) (by decide) (by decide) ?_
      exact lw_case_45 SM.2.2.2.2.2.2.2.2.2.2.2.2.2.2.2.2.2.2.2.2.2.2.2.2.2.2.2.2.2.2.2.2.2.2.2.2.2.2.2.2.2.2.2.2.2 G hX hbl hb1 hb2 hb3 hb4 hb5 hI hP hS hl next
    have n0 := lv_neT q0 (show (0 : Int32).toInt = 0 by decide)
    have n1 := lv_neT q1 (show (1 : Int32).toInt = 1 by decide)
    have n2 := lv_neT q2 (show (2 : Int32).toInt = 2 by decide)
    have n3 := lv_neT q3 (show (3 : Int32).toInt = 3 by decide)
    have n4 := lv_neT q4 (show (4 : Int32).toInt = 4 by decide)
    have n5 := lv_neT q5 (show (5 : Int32).toInt = 5 by decide)
    have n6 := lv_neT q6 (show (6 : Int32).toInt = 6 by decide)
    have n7 := lv_neT q7 (show (7 : Int32).toInt = 7 by decide)
    have n8 := lv_neT q8 (show (8 : Int32).toInt = 8 by decide)
    have n9 := lv_neT q9 (show (9 : Int32).toInt = 9 by decide)
    have n10 := lv_neT q10 (show (10 : Int32).toInt = 10 by decide)
    have n11 := lv_neT q11 (show (11 : Int32).toInt = 11 by decide)
    have n12 := lv_neT q12 (show (12 : Int32).toInt = 12 by decide)
    have n13 := lv_neT q13 (show (13 : Int32).toInt = 13 by decide)
    have n14 := lv_neT q14 (show (14 : Int32).toInt = 14 by decide)
    have n15 := lv_neT q15 (show (15 : Int32).toInt = 15 by decide)
    have n16 := lv_neT q16 (show (16 : Int32).toInt = 16 by decide)
    have n17 := lv_neT q17 (show (17 : Int32).toInt = 17 by decide)
    have n18 := lv_neT q18 (show (18 : Int32).toInt = 18 by decide)
    have n19 := lv_neT q19 (show (19 : Int32).toInt = 19 by decide)
    have n20 := lv_neT q20 (show (20 : Int32).toInt = 20 by decide)
    have n21 := lv_neT q21 (show (21 : Int32).toInt = 21 by decide)
    have n22 := lv_neT q22 (show (22 : Int32).toInt = 22 by decide)
    have n23 := lv_neT q23 (show (23 : Int32).toInt = 23 by decide)
    have n24 := lv_neT q24 (show (24 : Int32).toInt = 24 by decide)
    have n25 := lv_neT q25 (show (25 : Int32).toInt = 25 by decide)
    have n26 := lv_neT q26 (show (26 : Int32).toInt = 26 by decide)
    have n27 := lv_neT q27 (show (27 : Int32).toInt = 27 by decide)
    have n28 := lv_neT q28 (show (28 : Int32).toInt = 28 by decide)
    have n29 := lv_neT q29 (show (29 : Int32).toInt = 29 by decide)
    have n30 := lv_neT q30 (show (30 : Int32).toInt = 30 by decide)
    have n31 := lv_neT q31 (show (31 : Int32).toInt = 31 by decide)
    have n32 := lv_neT q32 (show (32 : Int32).toInt = 32 by decide)
    have n33 := lv_neT q33 (show (33 : Int32).toInt = 33 by decide)
    have n34 := lv_neT q34 (show (34 : Int32).toInt = 34 by decide)
    have n35 := lv_neT q35 (show (35 : Int32).toInt = 35 by decide)
    have n36 := lv_neT q36 (show (36 : Int32).toInt = 36 by decide)
    have n37 := lv_neT q37 (show (37 : Int32).toInt = 37 by decide)
    have n38 := lv_neT q38 (show (38 : Int32).toInt = 38 by decide)
    have n39 := lv_neT q39 (show (39 : Int32).toInt = 39 by decide)
    have n40 := lv_neT q40 (show (40 : Int32).toInt = 40 by decide)
    have n41 := lv_neT q41 (show (41 : Int32).toInt = 41 by decide)
    have n42 := lv_neT q42 (show (42 : Int32).toInt = 42 by decide)
    have n43 := lv_neT q43 (show (43 : Int32).toInt = 43 by decide)
    have n44 := lv_neT q44 (show (44 : Int32).toInt = 44 by decide)
    have n45 := lv_neT q45 (show (45 : Int32).toInt = 45 by decide)
    refine lv_tableOut (tgt := 1393) hx hb dL_law_33 (by omega) (by decide) ?_
    exact next st H lcs hI hP hS
