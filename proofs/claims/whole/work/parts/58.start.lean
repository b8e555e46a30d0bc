theorem wm_L_9 : Cond.methodLink R_law 9 yX5_init ∈ sw_tbl := sw_mem (List.mem_append_right _ (List.mem_append_left _ (List.mem_of_getElem? (i := 14) (by decide +kernel)))) rfl
theorem wm_L_12 : Cond.methodLink R_law 12 yX6_init ∈ sw_tbl := sw_mem (List.mem_append_right _ (List.mem_append_right _ (List.mem_append_right _ (List.mem_append_right _ (List.mem_append_left _ (List.mem_of_getElem? (i := 8) (by decide +kernel))))))) rfl
theorem wx_L_7 : Cond.classLink R_law 7 RX5 ∈ sw_tbl := sw_mem (List.mem_append_right _ (List.mem_append_left _ (List.mem_of_getElem? (i := 12) (by decide +kernel)))) rfl
theorem wx_L_10 : Cond.classLink R_law 10 RX6 ∈ sw_tbl := sw_mem (List.mem_append_right _ (List.mem_append_right _ (List.mem_append_right _ (List.mem_append_right _ (List.mem_append_left _ (List.mem_of_getElem? (i := 6) (by decide +kernel))))))) rfl
theorem wn_5 : Cond.instantiable RX5 17 ∈ sw_tbl := sw_mem (List.mem_append_right _ (List.mem_append_left _ (List.mem_of_getElem? (i := 13) (by decide +kernel)))) rfl
theorem wn_6 : Cond.instantiable RX6 29 ∈ sw_tbl := sw_mem (List.mem_append_right _ (List.mem_append_right _ (List.mem_append_right _ (List.mem_append_right _ (List.mem_append_left _ (List.mem_of_getElem? (i := 7) (by decide +kernel))))))) rfl
theorem wk_X5_init : Cond.code yX5_init cX5_init 2 none ∈ sw_tbl := sw_mem (List.mem_append_right _ (List.mem_append_left _ (List.mem_of_getElem? (i := 16) rfl))) rfl
theorem wt_X5_init : Cond.instanceMethod yX5_init ∈ sw_tbl := sw_mem (List.mem_append_right _ (List.mem_append_left _ (List.mem_of_getElem? (i := 15) (by decide +kernel)))) rfl
theorem wk_X6_init : Cond.code yX6_init cX6_init 2 none ∈ sw_tbl := sw_mem (List.mem_append_right _ (List.mem_append_right _ (List.mem_append_right _ (List.mem_append_right _ (List.mem_append_left _ (List.mem_of_getElem? (i := 10) rfl)))))) rfl
theorem wt_X6_init : Cond.instanceMethod yX6_init ∈ sw_tbl := sw_mem (List.mem_append_right _ (List.mem_append_right _ (List.mem_append_right _ (List.mem_append_right _ (List.mem_append_left _ (List.mem_of_getElem? (i := 9) (by decide +kernel))))))) rfl
theorem sw_in0 : ∀ w ∈ u_ws RX0 TX0 7, w ∈ sw_tbl := sw_cl0.2.2.2.1
theorem sw_in1 : ∀ w ∈ u_ws RX1 TX1 8, w ∈ sw_tbl := sw_cl1.2.2.2.1
theorem sw_in2 : ∀ w ∈ u_ws RX2 TX2 4, w ∈ sw_tbl := sw_cl2.2.2.2.1
theorem sw_in3 : ∀ w ∈ u_ws RX3 TX3 3, w ∈ sw_tbl := sw_cl3.2.2.2.1
theorem sw_in4 : ∀ w ∈ u_ws RX4 TX4 15, w ∈ sw_tbl := sw_cl4.2.2.2.1
theorem sw_in5 : ∀ w ∈ u_ws RX5 TX5 17, w ∈ sw_tbl := sw_cl5.2.2.2.1
theorem sw_in6 : ∀ w ∈ u_ws RX6 TX6 29, w ∈ sw_tbl := sw_cl6.2.2.2.1
theorem wv_I : Cond.arrayOver (.array .int) ∈ lw_tbl := List.mem_append_right _ (List.mem_append_left _ (List.mem_of_getElem? (i := 21) (by decide +kernel)))
theorem wv_B : Cond.arrayOver (.array .byte) ∈ lw_tbl := List.mem_append_right _ (List.mem_append_left _ (List.mem_of_getElem? (i := 23) (by decide +kernel)))
theorem wv_T : Cond.arrayOver (.object "StrangersWind$Town") ∈ lw_tbl := List.mem_append_right _ (List.mem_append_left _ (List.mem_of_getElem? (i := 102) (by decide +kernel)))
theorem lw_overA {args : Array Value} {s : State} {t : FieldType} (h : (Cond.arrayOver (.array t)).before args s = true) : ∃ (comp c : ClassId) (k : Class), s.vm.findClass (FieldType.array t).toString = some comp ∧ s.vm.classes[c]? = some k ∧ k.kind = .array comp (.array t) ∧ s.vm.findClass ("[" ++ (FieldType.array t).toString) = some c := by
  unfold Cond.before at h
  simp only [Cond.holds, Cond.value, beq_iff_eq] at h
  cases hc : s.vm.findClass (FieldType.array t).toString with
  | none => rw [hc] at h; cases h
  | some comp =>
    rw [hc] at h
    simp only [Option.bind_some, Option.bind_eq_some_iff, Option.map_eq_some_iff] at h
    obtain ⟨c, hi, k, hk, hb⟩ := h
    have hp := (Array.findIdx?_eq_some_iff_getElem.mp hi).2.1
    rw [(Array.getElem?_eq_some_iff.mp hk).2] at hp
    cases hkind : k.kind with
    | array component ty =>
      rw [hkind] at hb hp
      simp only [Bool.and_eq_true, decide_eq_true_eq, beq_iff_eq] at hb hp
      exact ⟨comp, c, k, rfl, hk, by rw [hkind, hp, hb.1], hb.2⟩
    | _ => rw [hkind] at hb; cases hb
theorem lw_arr {s : State} {cA comp : ClassId} {k : Class} {ty : FieldType} (hk : s.vm.classes[cA]? = some k) (hkind : k.kind = .array comp ty) : ArrOfT s cA ty := fun n z => ⟨fun k h => (by cases h), k, hk, comp, hkind⟩
theorem lw_known {args : Array Value} {s : State} (hts0 : ∀ w ∈ lw_tbl, w.before args s = true) : ∃ (D : va_G) (cy : Nat → ClassId), su_K D cy s := by
  have hts : ∀ w ∈ sw_tbl, w.before args s = true := fun w hw => hts0 w (List.mem_filter.mp hw).1
  obtain ⟨c0, i0, hk0⟩ := u_known (C := RX0) (T := TX0) (N := 7) (n := 7) hts sw_in0 (hts _ wn_0)
  obtain ⟨c1, i1, hk1⟩ := u_known (C := RX1) (T := TX1) (N := 8) (n := 8) hts sw_in1 (hts _ wn_1)
  obtain ⟨c2, i2, hk2⟩ := u_known (C := RX2) (T := TX2) (N := 4) (n := 4) hts sw_in2 (hts _ wn_2)
  obtain ⟨c3, i3, hk3⟩ := u_known (C := RX3) (T := TX3) (N := 3) (n := 3) hts sw_in3 (hts _ wn_3)
  obtain ⟨c4, i4, hk4⟩ := u_known (C := RX4) (T := TX4) (N := 15) (n := 15) hts sw_in4 (hts _ wn_4)
  obtain ⟨c5, i5, hk5⟩ := u_known (C := RX5) (T := TX5) (N := 17) (n := 17) hts sw_in5 (hts _ wn_5)
  obtain ⟨c6, i6, hk6⟩ := u_known (C := RX6) (T := TX6) (N := 29) (n := 29) hts sw_in6 (hts _ wn_6)
  obtain ⟨cB, kB, oB, b1, b2, b3⟩ := Cond.arrayClass_spec (hts _ wA_B)
  obtain ⟨cI, kI, oI, d1, d2, d3⟩ := Cond.arrayClass_spec (hts _ wA_I)
  obtain ⟨cZ, kZ, oZ, z1, z2, z3⟩ := Cond.arrayClass_spec (hts _ wA_Z)
  obtain ⟨tT, cT, kT, t1, t2, t3, t4, t5⟩ := Cond.arrayOver_spec (hts0 _ wv_T)
  obtain ⟨cB', cBB, kBB, e1, e2, e3, e4⟩ := lw_overA (hts0 _ wv_B)
  obtain ⟨cI', cII, kII, f1, f2, f3, f4⟩ := lw_overA (hts0 _ wv_I)
  have eB : cB' = cB := Option.some.inj (e1.symm.trans b1)
  have eI : cI' = cI := Option.some.inj (f1.symm.trans d1)
  subst eB
  subst eI
  refine ⟨(fun k => if k = 0 then c0 else if k = 1 then c1 else if k = 2 then c2 else if k = 3 then c3 else if k = 4 then c4 else if k = 5 then c5 else c6, fun k => if k = 0 then i0 else if k = 1 then i1 else if k = 2 then i2 else if k = 3 then i3 else if k = 4 then i4 else if k = 5 then i5 else i6), fun k => if k = 7 then cB' else if k = 8 then cI' else if k = 9 then cZ else if k = 10 then cT else if k = 11 then cBB else cII, ⟨?_, ?_⟩, ?_, ?_⟩
  · intro k q hq
    match k, hq with
    | 0, hq => cases hq; exact hk0
    | 1, hq => cases hq; exact hk1
    | 2, hq => cases hq; exact hk2
    | 3, hq => cases hq; exact hk3
    | 4, hq => cases hq; exact hk4
    | 5, hq => cases hq; exact hk5
    | 6, hq => cases hq; exact hk6
    | k + 7, hq => simp [vwCl] at hq
  · intro k q hq
    match k, hq with
    | 0, hq => cases hq; exact ⟨lw_arr b2 b3, b1⟩
    | 1, hq => cases hq; exact ⟨lw_arr d2 d3, d1⟩
    | 2, hq => cases hq; exact ⟨lw_arr z2 z3, z1⟩
    | 3, hq => cases hq; exact ⟨lw_arr t3 t4, kT, tT, t3, t4, t1, t5⟩
    | 4, hq => cases hq; exact ⟨lw_arr e2 e3, e4⟩
    | 5, hq => cases hq; exact ⟨lw_arr f2 f3, f4⟩
    | k + 6, hq => simp [su_tys] at hq
  · exact va_AO.of (hts0 _ wv_T)
  · exact ⟨⟨kII, f2, f3⟩, kBB, e2, e3⟩
theorem lw_closed : ∀ i : Fin 77, ∀ k : Fin 29, sw_fk (sw_kd i.val) k.val = 2 → (i.val < 63 → sw_rf su_st0 i.val k.val < 63) ∧ (63 ≤ i.val → 63 ≤ sw_rf su_st0 i.val k.val ∧ sw_rf su_st0 i.val k.val < 77) := by decide +kernel
theorem lw_nf : ∀ i : Fin 77, sw_nf (sw_kd i.val) ≤ 29 := by decide +kernel
theorem lw_ra : ∀ i : Fin 77, 10 ≤ sw_kd i.val → i.val < 63 ∧ ∀ j : Fin 6, j.val < sw_ln i.val → sw_ra i.val j.val < 63 := by decide +kernel
theorem lw_ln6 : ∀ i : Fin 77, 10 ≤ sw_kd i.val → sw_ln i.val ≤ 6 := by decide +kernel
theorem lw_at {D : va_G} {D1 D2 : va_G} {cy : Nat → ClassId} {u1 u2 : Nat → Nat} {H : Heap} (i : Nat) (hi : i < 77) (he : ∀ j, j < 77 → ((i < 63 → j < 63) ∧ (63 ≤ i → 63 ≤ j)) → u1 j = u2 j) (h : va_at D vwCl (u1 i, sw_cell (u1, D1, cy) su_st0 i) H) : va_at D vwCl (u2 i, sw_cell (u2, D2, cy) su_st0 i) H := by
  have ei : u1 i = u2 i := he i hi ⟨id, id⟩
  by_cases h7 : sw_kd i < 7
  · rw [sw_cell_o _ _ rfl h7] at h ⊢
    have e2 : (List.range (sw_nf (sw_kd i))).map (sw_fv (u1, D1, cy) su_st0 i) = (List.range (sw_nf (sw_kd i))).map (sw_fv (u2, D2, cy) su_st0 i) := by
      apply List.map_congr_left
      intro k hk
      have hk1 : k < sw_nf (sw_kd i) := List.mem_range.mp hk
      have hk2 : k < 29 := Nat.lt_of_lt_of_le hk1 (lw_nf ⟨i, hi⟩)
      unfold sw_fv
      by_cases q0 : sw_fk (sw_kd i) k = 0
      · rw [if_pos q0, if_pos q0]
      by_cases q1 : sw_fk (sw_kd i) k = 1
      · rw [if_neg q0, if_neg q0, if_pos q1, if_pos q1]
      rw [if_neg q0, if_neg q0, if_neg q1, if_neg q1]
      have q2 : sw_fk (sw_kd i) k = 2 := by
        have hh : ∀ i : Fin 77, ∀ k : Fin 29, sw_kd i.val < 7 → k.val < sw_nf (sw_kd i.val) → sw_fk (sw_kd i.val) k.val ≠ 0 → sw_fk (sw_kd i.val) k.val ≠ 1 → sw_fk (sw_kd i.val) k.val = 2 := by decide +kernel
        exact hh ⟨i, hi⟩ ⟨k, hk2⟩ h7 hk1 q0 q1
      have c := lw_closed ⟨i, hi⟩ ⟨k, hk2⟩ q2
      show Value.ref (u1 _) = Value.ref (u2 _)
      rw [he (sw_rf su_st0 i k) (by rcases Nat.lt_or_ge i 63 with z | z; exact Nat.lt_of_lt_of_le (c.1 z) (by decide); exact (c.2 z).2) ⟨fun z => c.1 z, fun z => (c.2 z).1⟩]
    rw [e2, ei] at h
    exact h
  · by_cases h10 : sw_kd i < 10
    · rw [sw_cell_a _ _ rfl rfl (by omega) h10] at h ⊢
      rw [ei] at h
      exact h
    · rw [sw_cell_q _ _ rfl rfl (by omega)] at h ⊢
      rw [ei] at h
      obtain ⟨hi63, hra⟩ := lw_ra ⟨i, hi⟩ (show 10 ≤ sw_kd i by omega)
      have hln := lw_ln6 ⟨i, hi⟩ (show 10 ≤ sw_kd i by omega)
      show H[u2 i]? = some (vp_cell _ _)
      rw [show H[u2 i]? = some (vp_cell _ _) from h]
      rw [vp_cell_q, vp_cell_q]
      unfold arrV
      congr 2
      apply Array.ext
      · simp
      · intro j h1 h2
        simp at h1
        have hj := hra ⟨j, Nat.lt_of_lt_of_le h1 hln⟩ h1
        simp [he (sw_ra i j) (Nat.lt_of_lt_of_le hj (by decide)) ⟨fun _ => hj, fun z => absurd hi63 (Nat.not_lt.mpr z)⟩]
def lw_ad (u1 u2 : Nat → Nat) : Nat → Nat := fun i => if i < 63 then u1 i else u2 i
theorem lw_P0 {D : va_G} {cy : Nat → ClassId} {u1 u2 : Nat → Nat} {H : Heap} (h : va_P D vwCl (su_Wc cy u1 ++ su_Wm cy u2) H) : va_P D vwCl (sw_W (lw_ad u1 u2, D, cy) su_st0) H := by
  intro k q hq
  have hl : k < 77 := by
    have := (List.getElem?_eq_some_iff.mp hq).1
    rwa [sw_W_len] at this
  rw [sw_W_get _ _ hl] at hq
  cases hq
  rcases Nat.lt_or_ge k 63 with z | z
  · refine lw_at (u1 := u1) (D1 := su_D0) k hl (fun j _ hj => (if_pos (hj.1 z)).symm) (h k _ ?_)
    rw [List.getElem?_append_left (by show k < (List.map _ (List.range 63)).length; rw [List.length_map, List.length_range]; exact z)]
    show (List.map _ (List.range 63))[k]? = _
    rw [List.getElem?_map, List.getElem?_range z]
    rfl
  · refine lw_at (u1 := u2) (D1 := su_D0) k hl (fun j _ hj => (if_neg (Nat.not_lt.mpr (hj.2 z))).symm) (h k _ ?_)
    have hlen : (su_Wc cy u1).length = 63 := by show (List.map _ (List.range 63)).length = 63; rw [List.length_map, List.length_range]
    rw [List.getElem?_append_right (by rw [hlen]; exact z), hlen]
    show (List.map _ (List.range 14))[k - 63]? = _
    rw [List.getElem?_map, List.getElem?_range (by omega)]
    show some (u2 (63 + (k - 63)), sw_cell (u2, su_D0, cy) su_st0 (63 + (k - 63))) = _
    rw [show 63 + (k - 63) = k by omega]
theorem lw_D0 {B : Nat → Prop} {cy : Nat → ClassId} {u1 u2 : Nat → Nat} (h : va_D B (su_Wc cy u1 ++ su_Wm cy u2)) : (∀ i, i < 77 → B (lw_ad u1 u2 i)) ∧ ∀ i j, i < 77 → j < 77 → lw_ad u1 u2 i = lw_ad u1 u2 j → i = j := by
  have hlen : (su_Wc cy u1).length = 63 := by show (List.map _ (List.range 63)).length = 63; rw [List.length_map, List.length_range]
  have key : ∀ i, i < 77 → ∃ e, (su_Wc cy u1 ++ su_Wm cy u2)[i]? = some (lw_ad u1 u2 i, e) := by
    intro i hi
    rcases Nat.lt_or_ge i 63 with z | z
    · refine ⟨sw_cell (u1, su_D0, cy) su_st0 i, ?_⟩
      rw [List.getElem?_append_left (by rw [hlen]; exact z)]
      show (List.map _ (List.range 63))[i]? = _
      rw [List.getElem?_map, List.getElem?_range z]
      show some (u1 i, _) = some (lw_ad u1 u2 i, _)
      rw [show lw_ad u1 u2 i = u1 i from if_pos z]
    · refine ⟨sw_cell (u2, su_D0, cy) su_st0 i, ?_⟩
      rw [List.getElem?_append_right (by rw [hlen]; exact z), hlen]
      show (List.map _ (List.range 14))[i - 63]? = _
      rw [List.getElem?_map, List.getElem?_range (by omega)]
      show some (u2 (63 + (i - 63)), sw_cell (u2, su_D0, cy) su_st0 (63 + (i - 63))) = _
      rw [show 63 + (i - 63) = i by omega, show lw_ad u1 u2 i = u2 i from if_neg (Nat.not_lt.mpr z)]
  refine ⟨fun i hi => ?_, fun i j hi hj e => ?_⟩
  · obtain ⟨e, he⟩ := key i hi
    exact h.2 i _ he
  · obtain ⟨e1, he1⟩ := key i hi
    obtain ⟨e2, he2⟩ := key j hj
    exact h.1 i j _ _ he1 he2 e
set_option maxHeartbeats 16000000 in
set_option maxRecDepth 100000 in
theorem lw_start {p : Program} {e : Env} {s : State} {m : MethodId} {below : List Frame} {meth : Method} {c : Code} (l : Launch) {b L : Nat} {xs : Nat → Int32} (hL : L ≤ 384) (C0 : lw_At p s m meth c b L xs) {I : sw_St → Prop} {F : Nat} (SM : sm_all I F) (h0 : I su_st0) : W p l e room_1 s m #[Value.ref b] below meth c s.heap [] 0 0 (lw_Z below #[Value.ref b] s) (entryFrame m ([Value.ref b] : List Value).toArray 4) := by
  obtain ⟨hx, hb, hr, hml, hown, hts0, hX, hbl, hlocks, hgv⟩ := C0
  have hts : ∀ w ∈ sw_tbl, w.before #[Value.ref b] s = true := fun w hw => hts0 w (List.mem_filter.mp hw).1
  obtain ⟨D, cy, hK⟩ := lw_known hts0
  have X : su_Ok p s m #[Value.ref b] c code R_law 4 D cy (fun q : Nat => s.heap.size ≤ q) := ⟨hx, hb, hml, hown, hts, hK, fun _ h => h⟩
  have hl := lv_entry ([.ref b]) (n := 4) (Nat.le_of_ble_eq_true rfl)
  rw [lg_entry_eq]
  have key : su_U p l e room_1 s m #[Value.ref b] below meth c D (fun q : Nat => s.heap.size ≤ q) (lw_Z below #[Value.ref b] s) 4 0 [(0, .ref b)] [] [] 0 0 := by
    refine su_new X [.null, .null, .null, .null, .null, .null, .null, .null, .null, .null, .null, .null, .null, .int 0, .int 0, .long 0, .long 0] (fun q0 => [(q0, .inr (5, [.null, .null, .null, .null, .null, .null, .null, .null, .null, .null, .null, .null, .null, .int 0, .int 0, .long 0, .long 0]))]) sw_cl5 wx_L_7 wn_5 wi_X5 su_df5 (Nat.le_of_ble_eq_true rfl) (Nat.le_of_ble_eq_true rfl) (fun _ => rfl) dL_law_0 (fun q0 => ?_)
    refine su_dup X rfl dL_law_3 ?_
    refine su_callI X (n := 0) (As := []) [0] [] [] (fun u => su_Wc cy (va_up u 0 q0)) (c_X5_init q0) wk_X5_init wt_X5_init wi_X5 rfl ⟨by decide, by decide, by decide +kernel⟩ ⟨Nat.le_of_ble_eq_true rfl, Nat.le_of_ble_eq_true rfl⟩ rfl rfl rfl rfl (by decide) rfl rfl (Nat.le_of_ble_eq_true rfl) wm_L_9 (Nat.le_of_ble_eq_true rfl) (Nat.le_of_ble_eq_true rfl) (fun _ => rfl) dL_law_4 (fun u => ?_)
    refine su_astore_n X [(1, .ref q0), (0, .ref b)] rfl (by decide) rfl dL_law_7 ?_
    refine su_new X [.null, .int 0, .null, .null, .null, .null, .null, .null, .null, .int 0, .long 0, .long 0, .int 0, .null, .int 0, .int 0, .int 0, .int 0, .int 0, .null, .int 0, .int 0, .null, .int 0, .int 0, .int 0, .int 0, .null, .null] (fun q1 => su_Wc cy (va_up u 0 q0) ++ [(q1, .inr (6, [.null, .int 0, .null, .null, .null, .null, .null, .null, .null, .int 0, .long 0, .long 0, .int 0, .null, .int 0, .int 0, .int 0, .int 0, .int 0, .null, .int 0, .int 0, .null, .int 0, .int 0, .int 0, .int 0, .null, .null]))]) sw_cl6 wx_L_10 wn_6 wi_X6 su_df6 (Nat.le_of_ble_eq_true rfl) (Nat.le_of_ble_eq_true rfl) (fun _ => rfl) dL_law_8 (fun q1 => ?_)
    refine su_dup X rfl dL_law_11 ?_
    refine su_callI X (n := 0) (As := []) [63] [0, 1, 2, 3, 4, 5, 6, 7, 8, 9, 10, 11, 12, 13, 14, 15, 16, 17, 18, 19, 20, 21, 22, 23, 24, 25, 26, 27, 28, 29, 30, 31, 32, 33, 34, 35, 36, 37, 38, 39, 40, 41, 42, 43, 44, 45, 46, 47, 48, 49, 50, 51, 52, 53, 54, 55, 56, 57, 58, 59, 60, 61, 62] (su_Wc cy (va_up u 0 q0)) (fun u2 => su_Wc cy (va_up u 0 q0) ++ su_Wm cy (va_up u2 63 q1)) (c_X6_init q1) wk_X6_init wt_X6_init wi_X6 rfl ⟨by decide, by decide, by decide +kernel⟩ ⟨Nat.le_of_ble_eq_true rfl, Nat.le_of_ble_eq_true rfl⟩ rfl rfl rfl rfl (by decide) rfl rfl (Nat.le_of_ble_eq_true rfl) wm_L_12 (Nat.le_of_ble_eq_true rfl) (Nat.le_of_ble_eq_true rfl) (fun _ => rfl) dL_law_12 (fun u2 => ?_)
    refine su_astore_n X [(2, .ref q1), (1, .ref q0), (0, .ref b)] rfl (by decide) rfl dL_law_15 ?_
    refine su_iconst X (v := 0) (by decide) dL_law_16 ?_
    refine su_istore_n X [(3, .int 0), (2, .ref q1), (1, .ref q0), (0, .ref b)] rfl (by decide) rfl dL_law_17 ?_
    intro H lcs ls hP hD hS hl
    obtain ⟨hA, hinj⟩ := lw_D0 hD
    have hP1 := lw_P0 hP
    have G : lw_G p s m c b (lw_ad (va_up u 0 q0) (va_up u2 63 q1), D, cy) := ⟨hx, hb, hml, hown, hts, hK.1, hinj, hA⟩
    exact lw_loop SM hL G hr hlocks hX hbl (L + 1) 0 0 su_st0 H lcs ls (by omega) (by omega) rfl h0 hP1 hS (lv_sub hl [3, 2, 1, 0] rfl)
  exact key s.heap [] _ (fun k q h => by simp at h) ⟨fun i j p q h => by simp at h, fun k q h => by simp at h⟩ va_S.rf hl
