theorem nm_eq {α β : Type} (a : α) (f : α → Option β) : nm a f = f a := rfl
theorem o_38 {F : Nat} (hF : 20000 ≤ F) : sm_38 II F := by
  intro a1 a2 st hI
  obtain ⟨n, kd, sg, br, fw, ff, G, dd, dn, hh⟩ := II_here hI
  obtain ⟨hv, hst, hdyn, hct, hmt, hk⟩ := id hh
  have hn := hv.1
  have hdn := hdyn.2.1
  have o1 : (1 : Int32).toInt = 1 := by decide
  have o20 : (20 : Int32).toInt = 20 := by decide
  have oM : (2147483647 : Int64).toInt = 2147483647 := by decide
  by_cases hA : 1 ≤ a1.toInt ∧ a1.toInt ≤ 20
  case neg =>
    refine ⟨-1, st, st, ?_, ?_, hI⟩
    · unfold j_X5_lots
      simp only [jn]
      by_cases q : a1 < 1
      · rw [if_pos q]
      · rw [if_neg q, if_pos]
        rw [i_lt, o20]
        rw [i_lt, o1] at q
        omega
    · unfold j_X6_lots
      rw [in6_n (lo := 1) (hi := 20) rfl rfl (by omega)]
      rfl
  by_cases hB : 1 ≤ a2.toInt ∧ a2.toInt ≤ 2147483646
  case neg =>
    refine ⟨-1, st, st, ?_, ?_, hI⟩
    · unfold j_X5_lots
      simp only [jn]
      rw [if_neg (show ¬ a1 < 1 by rw [i_lt, o1]; omega), if_neg (show ¬ 20 < a1 by rw [i_lt, o20]; omega)]
      by_cases q : a2 < 1
      · rw [if_pos q]
      · rw [if_neg q, if_neg]
        rw [lg_lt, l_lt, i_l, oM]
        rw [i_lt, o1] at q
        have := Int32.toInt_lt a2
        omega
    · unfold j_X6_lots
      rw [in6_y (lo := 1) (hi := 20) rfl rfl hA.1 hA.2, bo_some]
      simp only [jn]
      rw [if_neg (by decide), in6_n (lo := 1) (hi := 2147483646) rfl rfl (by omega)]
      rfl
  have c5 : ∀ (α : Type) (u w : α), (if a1 < 1 then u else if 20 < a1 then u else if a2 < 1 then u else if lg_cmp a2.toInt64 2147483647 < 0 then w else u) = w := fun α u w => by
    rw [if_neg (show ¬ a1 < 1 by rw [i_lt, o1]; omega), if_neg (show ¬ 20 < a1 by rw [i_lt, o20]; omega), if_neg (show ¬ a2 < 1 by rw [i_lt, o1]; omega), if_pos (show lg_cmp a2.toInt64 2147483647 < 0 by rw [lg_lt, l_lt, i_l, oM]; omega)]
  have i6 : ∀ s, j_X6_in F a1.toInt64 1 20 s = some 1 := fun s => in6_y (lo := 1) (hi := 20) rfl rfl hA.1 hA.2
  have i6' : ∀ s, j_X6_in F a2.toInt64 1 2147483646 s = some 1 := fun s => in6_y (lo := 1) (hi := 2147483646) rfl rfl hB.1 hB.2
  obtain ⟨d, hd, rfl⟩ := (nix a1 21).resolve_left (fun z => by unfold nout at z; omega)
  obtain ⟨z, hz, rfl⟩ : ∃ z, z < 2147483647 ∧ a2 = nI z := by
    obtain ⟨z, hz, e⟩ := (nix a2 2147483647).resolve_left (fun z => by unfold nout at z; omega)
    exact ⟨z, hz, e⟩
  rw [nI_tI (by omega)] at hA
  unfold j_X5_lots j_X6_lots
  simp only [jn]
  rw [c5]
  by_cases h0 : n = 0
  · exact ⟨-4, st, st, by rw [hct.1, if_pos ((n0_iff hn).mpr h0)], by rw [i6, bo_some, if_neg (by decide), i6', bo_some, if_neg (by decide), hst.1, if_pos ((n0_iff hn).mpr h0)], hI⟩
  have n0 : ¬ nI n = 0 := fun z => h0 ((n0_iff hn).mp z)
  have hn0 : 0 < n := by omega
  rw [hct.1, if_neg n0, isFull5 (ct_dn hct) (by omega) (by omega), bo_some]
  by_cases h40 : 40 < dn + d
  · refine ⟨-2, st, st, by rw [if_pos h40, if_neg (show ¬ (1 : Int32) = 0 by decide)], ?_, hI⟩
    rw [i6, bo_some, if_neg (by decide), i6', bo_some, if_neg (by decide), hst.1, if_neg n0, hmt.1, nI_add, if_neg (show ¬ nI (dn + d) ≤ 40 from nI_ge (a := 40) h40 (by omega))]
  rw [if_neg h40, if_pos rfl, nI_L (show z < 2 ^ 31 by omega), nm_eq]
  rw [nI_L (show z < 2 ^ 31 by omega)] at i6'
  obtain ⟨D, hD⟩ : ∃ D : Nat → Nat → Nat × Nat, D = pw_lt n kd sg fw ff G dd dn z := ⟨_, rfl⟩
  have hD0 : D 0 = dd := by rw [hD]; rfl
  have hDs : ∀ k, D (k + 1) = upD (D k) (dn + k) (pw_pk n (pw_sd z (k + 1)) (pw_aft n kd sg fw ff G (D k) (dn + k))) := fun k => by rw [hD]; rfl
  have hok : ∀ k, ∀ j, j < dn + k → pw_okd n (D k j) := fun k => by
    induction k with
    | zero => rw [hD0]; exact hdyn.2.2
    | succ k ih =>
      intro j hj
      rw [hDs]
      unfold upD
      by_cases e : j = dn + k
      · rw [if_pos e]; exact pk_ok hn0
      · rw [if_neg e]; exact ih j (by omega)
  have hxk : ∀ k, k ≤ d → okx n (pw_aft n kd sg fw ff G (D k) (dn + k)) := fun k hk => (aft_ok hv (hok k) (by omega)).1
  have hst48 : ∀ k, lN (pw_sd z k) * 48271 = lN (48271 * pw_sd z k) := fun k => by rw [show (48271 : Int64) = lN 48271 from rfl, lN_mul, Nat.mul_comm]
  have hst48' : ∀ k, 48271 * lN (pw_sd z k) = lN (48271 * pw_sd z k) := fun k => by rw [show (48271 : Int64) = lN 48271 from rfl, lN_mul]
  have hsd : ∀ k, lN (48271 * pw_sd z k) - lN (48271 * pw_sd z k) / 2147483647 * 2147483647 = lN (pw_sd z (k + 1)) := fun k => sd_r hz
  -- the class's lots
  have L5 : ∃ s1, lz3 (fun f15 (x12 : Int64) (x13 : Int32) (s14 : sw_St) => (if nI d ≤ x13 then ( some ((s14.1 15 7 : Int32), s14)) else ( nm ((48271 * x12) - (48271 * x12) / 2147483647 * 2147483647) (fun (x18 : Int64) => bd (j_X5_noteLot F x18 s14) (fun (_ : Unit) (s20 : sw_St) => nm (x13 + 1) (fun (x21 : Int32) => f15 x18 x21 s20)))))) F (lN z) 0 st = some (nI (pw_aft n kd sg fw ff G (D d) (dn + d)).1, s1) ∧ pw_ct s1 15 n kd sg br fw ff G (D d) (dn + d) (pw_aft n kd sg fw ff G (D d) (dn + d)) ∧ ch [15, 20, 21] st s1 ∧ s1.2 = st.2 := by
    refine lz3_ind (Φ := fun o => ∃ s1 : sw_St, o = some (nI (pw_aft n kd sg fw ff G (D d) (dn + d)).1, s1) ∧ pw_ct s1 15 n kd sg br fw ff G (D d) (dn + d) (pw_aft n kd sg fw ff G (D d) (dn + d)) ∧ ch [15, 20, 21] st s1 ∧ s1.2 = st.2) (fun _ i _ => 100 - i.toNatClampNeg) (fun a c s => ∃ k, k ≤ d ∧ c = nI k ∧ a = lN (pw_sd z k) ∧ pw_ct s 15 n kd sg br fw ff G (D k) (dn + k) (pw_aft n kd sg fw ff G (D k) (dn + k)) ∧ ch [15, 20, 21] st s ∧ s.2 = st.2) (fun g a c s hq ih => ?_) F _ _ _ ⟨0, by omega, rfl, rfl, by rw [hD0]; exact hct, ch.rf _ st, rfl⟩ (by show 100 - 0 < F; omega)
    obtain ⟨k, hkd, rfl, rfl, hc, hch, h2⟩ := hq
    rcases Nat.lt_or_ge k d with q | q
    · obtain ⟨s1, j1, r1, r2, r3⟩ := lot5 (y := pw_sd z (k + 1)) hF hv hn0 hc (hxk k hkd) (by omega) (sd_lt hz)
      rw [if_neg (show ¬ nI d ≤ nI k from nI_ge q (by omega)), hst48', hsd, nm_eq, j1, bd_some, nm_eq, nI_1]
      refine ih _ _ _ ⟨k + 1, q, rfl, rfl, ?_, hch.tr r2, r3.trans h2⟩ (by rw [nI_clamp (by omega), nI_clamp (by omega)]; omega)
      rw [hDs, show dn + (k + 1) = dn + k + 1 by omega, aft_up1]
      exact r1
    · have e : k = d := by omega
      subst e
      rw [if_pos (show nI k ≤ nI k from nI_le (Nat.le_refl k) (by omega)), (ct_CR hc).1]
      exact ⟨s, rfl, hc, hch, h2⟩
  obtain ⟨s1, j1, r1, r2, r3⟩ := L5
  have L6 : ∃ s2, lz3 (fun f16 (x13 : Int64) (x14 : Int32) (s15 : sw_St) => (if nI d ≤ x14 then ( some ((s15.1 64 1 : Int32), s15)) else ( nm ((x13 * 48271) - (x13 * 48271) / 2147483647 * 2147483647) (fun (x20 : Int64) => grd (¬ (((s15.1 63 1) : Int32).toInt64) = 0) ( nm ((((x20 / 8) - (x20 / 8) / (((s15.1 63 1) : Int32).toInt64) * (((s15.1 63 1) : Int32).toInt64)) : Int64).toInt32) (fun (x22 : Int32) => (if (lg_cmp (x20 - x20 / 3 * 3) 0) = 0 then ( bd (j_X6_keepPast F s15) (fun (_ : Unit) (s38 : sw_St) => bd (j_X6_pass F 0 s38) (fun (r40 : Int32) (s41 : sw_St) => nm (x14 + 1) (fun (x26 : Int32) => f16 x20 x26 s41)))) else ( bo (j_X6_isIn F 0 x22 s15) (fun (r29 : Int32) => (if r29 = 0 then ( bd (j_X6_doLet F x22 s15) (fun (r32 : Int32) (s33 : sw_St) => nm (x14 + 1) (fun (x26 : Int32) => f16 x20 x26 s33))) else ( bd (j_X6_doLeave F x22 s15) (fun (r35 : Int32) (s36 : sw_St) => nm (x14 + 1) (fun (x26 : Int32) => f16 x20 x26 s36))))))))))))) F (lN z) 0 s1 = some (nI (pw_aft n kd sg fw ff G (D d) (dn + d)).1, s2) ∧ pw_mt s2 0 G (dn + d) (pw_aft n kd sg fw ff G (D d)) ∧ (∀ a, a ≠ 64 → s2.1 a = s1.1 a) ∧ (∀ i, 207 ≤ i → s2.1 64 i = s1.1 64 i) ∧ s2.2 = s1.2 := by
    refine lz3_ind (Φ := fun o => ∃ s2 : sw_St, o = some (nI (pw_aft n kd sg fw ff G (D d) (dn + d)).1, s2) ∧ pw_mt s2 0 G (dn + d) (pw_aft n kd sg fw ff G (D d)) ∧ (∀ a, a ≠ 64 → s2.1 a = s1.1 a) ∧ (∀ i, 207 ≤ i → s2.1 64 i = s1.1 64 i) ∧ s2.2 = s1.2) (fun _ i _ => 100 - i.toNatClampNeg) (fun a c s => ∃ k, k ≤ d ∧ c = nI k ∧ a = lN (pw_sd z k) ∧ pw_mt s 0 G (dn + k) (pw_aft n kd sg fw ff G (D k)) ∧ (∀ a, a ≠ 64 → s.1 a = s1.1 a) ∧ (∀ i, 207 ≤ i → s.1 64 i = s1.1 64 i) ∧ s.2 = s1.2) (fun g a c s hq ih => ?_) F _ _ _ ⟨0, by omega, rfl, rfl, by rw [hD0]; unfold pw_mt; rw [r2 64 (by decide)]; exact hmt, fun _ _ => rfl, fun _ _ => rfl, rfl⟩ (by show 100 - 0 < F; omega)
    obtain ⟨k, hkd, rfl, rfl, hm, q1, q2, q3⟩ := hq
    rcases Nat.lt_or_ge k d with q | q
    · have hst' : pw_st s n kd sg br := by
        unfold pw_st
        rw [q1 63 (by decide), q1 65 (by decide), q1 66 (by decide), q1 67 (by decide), r2 63 (by decide), r2 65 (by decide), r2 66 (by decide), r2 67 (by decide)]
        exact hst
      obtain ⟨s2, j2, m2, p1, p2, p3⟩ := lot6 (K := fun s => nm (nI k + 1) (fun (x26 : Int32) => g (lN (pw_sd z (k + 1))) x26 s)) (y := pw_sd z (k + 1)) hF hv hn0 hdyn.1 hst' hm (hxk k hkd) (by omega) (sd_lt hz)
      rw [if_neg (show ¬ nI d ≤ nI k from nI_ge q (by omega)), hst48, hsd, nm_eq, j2, nm_eq, nI_1]
      refine ih _ _ _ ⟨k + 1, q, rfl, rfl, ?_, fun a ha => (p1 a ha).trans (q1 a ha), fun i hi => (p2 i hi).trans (q2 i hi), p3.trans q3⟩ (by rw [nI_clamp (by omega), nI_clamp (by omega)]; omega)
      rw [hDs, show dn + (k + 1) = dn + k + 1 by omega]
      exact m2
    · have e : k = d := by omega
      subst e
      rw [if_pos (show nI k ≤ nI k from nI_le (Nat.le_refl k) (by omega)), show s.1 64 1 = nI _ from hm.2.1]
      exact ⟨s, rfl, hm, q1, q2, q3⟩
  obtain ⟨s2, j2, m2, q1, q2, q3⟩ := L6
  refine ⟨nI (pw_aft n kd sg fw ff G (D d) (dn + d)).1, s1, s2, j1, ?_, ?_⟩
  · rw [i6, bo_some, if_neg (by decide), i6', bo_some, if_neg (by decide), r2 63 (by decide), hst.1, if_neg n0, r2 64 (by decide), hmt.1, nI_add, if_pos (show nI (dn + d) ≤ 40 from nI_le (b := 40) (by omega) (by decide)), nm_eq]
    exact j2
  · refine II_town (G := G) (dd := D d) (dn := dn + d) hI hv hst hk (fun a ha => ?_) (by rw [q3, r3]) (fun i h1 h2 => by rw [q2 i h1, r2 64 (by decide)]) ⟨hdyn.1, by omega, hok d⟩ (ct_c (fun j hj => q1 _ (by omega)) r1) m2
    simp only [List.mem_cons, List.mem_nil_iff, or_false, not_or] at ha
    rw [q1 a ha.2.2.2.2.2.2.2, r2 a (by simp only [List.mem_cons, List.mem_nil_iff, or_false, not_or]; exact ⟨ha.1, ha.2.2.2.2.2.1, ha.2.2.2.2.2.2.1⟩)]
