theorem begin5 {F t : Nat} {st : sw_St} : j_X4_begin F t st = some ((), sw_setC (sw_setC (sw_setC (sw_setC (sw_setC (sw_setC st t 7 (st.1 t 5)) t 8 (st.1 t 6)) t 9 0) t 10 0) t 11 0) t 14 0) := by
  unfold j_X4_begin
  simp only [nm]
  rw [show (sw_setC st t 7 (st.1 t 5)).1 t 6 = st.1 t 6 by rw [gsC, if_neg (by omega)]]
def at5b (t : Nat) (st st1 : sw_St) : Prop := (∀ a, a ≠ t → st1.1 a = st.1 a) ∧ (∀ i, (i < 7 ∨ (11 < i ∧ i ≠ 14)) → st1.1 t i = st.1 t i) ∧ st1.2 = st.2
theorem redo5 {F t n G dn k : Nat} {kd sg bd : Nat → Nat} {fw ff : Nat} {dd : Nat → Nat × Nat} {x : pw_D} {st : sw_St} (hF : 20000 ≤ F) (hv : pw_stat n kd sg bd fw ff) (hd : ∀ k, k < dn → pw_okd n (dd k)) (h40 : dn ≤ 40) (hc : pw_ct st t n kd sg bd fw ff G dd dn x) (hk : k ≤ dn) : ∃ st1, j_X4_redo F t (nI k) st = some ((), st1) ∧ pw_ct st1 t n kd sg bd fw ff G dd k (pw_aft n kd sg fw ff G dd k) ∧ ch [t] st st1 ∧ st1.2 = st.2 := by
  unfold j_X4_redo
  rw [begin5, bd_some]
  obtain ⟨st0, hst0⟩ : ∃ s, s = sw_setC (sw_setC (sw_setC (sw_setC (sw_setC (sw_setC st t 7 (st.1 t 5)) t 8 (st.1 t 6)) t 9 0) t 10 0) t 11 0) t 14 0 := ⟨_, rfl⟩
  rw [← hst0]
  have g : ∀ a i, st0.1 a i = if a = t ∧ i = 14 then 0 else if a = t ∧ i = 11 then 0 else if a = t ∧ i = 10 then 0 else if a = t ∧ i = 9 then 0 else if a = t ∧ i = 8 then st.1 t 6 else if a = t ∧ i = 7 then st.1 t 5 else st.1 a i := fun a i => by rw [hst0]; simp only [gsC]
  have gn : ∀ a, a ≠ t → st0.1 a = st.1 a := fun a ha => by rw [hst0]; simp only [gsC_ne _ _ _ ha]
  obtain ⟨c1, c2, c3, c4, c5, c6, c7, c8, c9, c10, c11⟩ := id hc
  have hc0 : cS st0 t n kd sg bd G := by
    refine ⟨by rw [g]; ((try simp only [true_and, and_true, if_true]); repeat (first | rw [if_pos (by omega)] | rw [if_neg (by omega)])); exact c1, fun i hi => ?_⟩
    rw [gn _ (by omega), gn _ (by omega), gn _ (by omega), gn _ (by omega)]
    exact c10 i hi
  have hr0 : CR st0 t (pw_aft n kd sg fw ff G dd 0) := by
    refine ⟨by rw [g]; ((try simp only [true_and, and_true, if_true]); repeat (first | rw [if_pos (by omega)] | rw [if_neg (by omega)])); exact c2, by rw [g]; ((try simp only [true_and, and_true, if_true]); repeat (first | rw [if_pos (by omega)] | rw [if_neg (by omega)])); rfl, by rw [g]; ((try simp only [true_and, and_true, if_true]); repeat (first | rw [if_pos (by omega)] | rw [if_neg (by omega)])); rfl, by rw [g]; ((try simp only [true_and, and_true, if_true]); repeat (first | rw [if_pos (by omega)] | rw [if_neg (by omega)])); exact c3, by rw [g]; ((try simp only [true_and, and_true, if_true]); repeat (first | rw [if_pos (by omega)] | rw [if_neg (by omega)])); rfl⟩
  refine lz2_ind (Φ := fun o => ∃ st1 : sw_St, o = some ((), st1) ∧ pw_ct st1 t n kd sg bd fw ff G dd k (pw_aft n kd sg fw ff G dd k) ∧ ch [t] st st1 ∧ st1.2 = st.2) (fun x _ => k - x.toNatClampNeg) (fun x s => ∃ i, i ≤ k ∧ x = nI i ∧ CR s t (pw_aft n kd sg fw ff G dd i) ∧ at5 t st0 s) (fun gg x s hp ih => ?_) F 0 st0 ⟨0, by omega, rfl, hr0, at5.rf t st0⟩ (by show k - 0 < F; omega)
  obtain ⟨i, hi, rfl, r, a⟩ := hp
  rcases Nat.lt_or_ge i k with q | q
  · obtain ⟨hx, -⟩ := aft_ok (G := G) (dn := i) hv (fun j hj => hd j (by omega)) (by omega)
    obtain ⟨st2, j2, r2, a2⟩ := carry5 hF hv (cS_at a hc0) (hd i (by omega)) hx r
    rw [if_neg (show ¬ nI k ≤ nI i from nI_ge q (by omega)), bnd_nI (by omega) (by decide), bnd_nI (by omega) (by decide), nI_clamp (by omega), a.1 (t + 5) (by omega), a.1 (t + 6) (by omega), gn _ (by omega), gn _ (by omega), (c11 i (by omega)).1, (c11 i (by omega)).2, j2, bd_some]
    simp only [nm]
    rw [nI_1]
    exact ih _ _ ⟨i + 1, by omega, rfl, r2, a.tr a2⟩ (by rw [nI_clamp (by omega), nI_clamp (by omega)]; omega)
  · have e : i = k := by omega
    subst e
    rw [if_pos (show nI i ≤ nI i from nI_le (Nat.le_refl i) (by omega))]
    simp only [nm]
    obtain ⟨r1, r2, r3, r4, r5⟩ := r
    refine ⟨_, rfl, ⟨?_, ?_, ?_, ?_, ?_, ?_, ?_, ?_, ?_, fun j hj => ?_, fun j hj => ?_⟩, fun b hb => ?_, ?_⟩
    · rw [gsC, if_neg (by omega), a.2.1 _ (by omega), g]; ((try simp only [true_and, and_true, if_true]); repeat (first | rw [if_pos (by omega)] | rw [if_neg (by omega)])); exact c1
    · rw [gsC, if_neg (by omega), a.2.1 _ (by omega), g]; ((try simp only [true_and, and_true, if_true]); repeat (first | rw [if_pos (by omega)] | rw [if_neg (by omega)])); exact c2
    · rw [gsC, if_neg (by omega), a.2.1 _ (by omega), g]; ((try simp only [true_and, and_true, if_true]); repeat (first | rw [if_pos (by omega)] | rw [if_neg (by omega)])); exact c3
    · rw [gsC, if_neg (by omega)]; exact r1
    · rw [gsC, if_neg (by omega)]; exact r4
    · rw [gsC, if_neg (by omega)]; exact r2
    · rw [gsC, if_neg (by omega)]; exact r3
    · rw [gsC, if_neg (by omega)]; exact r5
    · rw [gsC, if_pos ⟨rfl, rfl⟩]
    · rw [gsC_ne _ _ _ (by omega), gsC_ne _ _ _ (by omega), gsC_ne _ _ _ (by omega), gsC_ne _ _ _ (by omega), a.1 _ (by omega), a.1 _ (by omega), a.1 _ (by omega), a.1 _ (by omega), gn _ (by omega), gn _ (by omega), gn _ (by omega), gn _ (by omega)]
      exact c10 j hj
    · rw [gsC_ne _ _ _ (by omega), gsC_ne _ _ _ (by omega), a.1 _ (by omega), a.1 _ (by omega), gn _ (by omega), gn _ (by omega)]
      exact c11 j (by omega)
    · simp only [List.mem_cons, List.mem_nil_iff, or_false] at hb
      rw [gsC_ne _ _ _ hb, a.1 b hb, gn b hb]
    · show s.2 = st.2
      rw [a.2.2, hst0]; rfl
/-- a town in place of the town here, on both sides; all else as it was -/
theorem II_town {n fw ff G dn : Nat} {kd sg bd : Nat → Nat} {dd : Nat → Nat × Nat} {st st4 : sw_St} (hI : II st) (hv : pw_stat n kd sg bd fw ff) (hst : pw_st st n kd sg bd) (hk : ∀ k, k < 3 → pw_kp st n kd sg bd fw ff k) (e : ch [15, 16, 17, 18, 19, 20, 21, 64] st st4) (e2 : st4.2.1 = st.2.1) (e64 : ∀ i, 207 ≤ i → i < 828 → st4.1 64 i = st.1 64 i) (hdyn : pw_dyn n G dd dn) (hc : pw_ct st4 15 n kd sg bd fw ff G dd dn (pw_aft n kd sg fw ff G dd dn)) (hm : pw_mt st4 0 G dn (pw_aft n kd sg fw ff G dd)) : II st4 := by
  refine ⟨IR_c (e.ag (by decide)) hI.1, IT_c (e.ag (by decide)) hI.2.1, IA_c (e.ag (by decide)) e2 hI.2.2.1, n, kd, sg, bd, fw, ff, hv, ?_, ⟨G, dd, dn, hdyn, hc, hm⟩, kp_c (e.ag (by decide)) e64 hk⟩
  unfold pw_st
  rw [e 63 (by decide), e 65 (by decide), e 66 (by decide), e 67 (by decide)]
  exact hst
theorem o_17 {F : Nat} (hF : 20000 ≤ F) : sm_17 II F := by
  intro a1 st hI
  obtain ⟨n, kd, sg, bd, fw, ff, G, dd, dn, hh⟩ := II_here hI
  obtain ⟨hv, hst, hdyn, hct, hmt, hk⟩ := id hh
  have hdn := hdyn.2.1
  unfold j_X5_undo j_X6_undo
  simp only [jn]
  rcases nix a1 (dn + 1) with h | ⟨k, hi, rfl⟩
  · refine ⟨-1, st, st, ?_, by rw [hmt.1, in6_n (lo := 0) (hi := dn) rfl (by rw [i_l, nI_tI (by omega)]) (by rcases h with h | h; exact Or.inl h; exact Or.inr (by omega))]; rfl, hI⟩
    by_cases q : a1 < 0
    · rw [if_pos q]
    · rw [if_neg q, if_neg]
      rw [ct_dn hct, i_le, nI_tI (by omega)]
      rw [i_lt] at q
      rcases h with h | h
      · exact absurd h q
      · omega
  obtain ⟨st1, j1, c1, cc, c2⟩ := redo5 hF hv hdyn.2.2 hdn hct (k := k) (by omega)
  have hm1 : st1.1 64 = st.1 64 := cc 64 (by decide)
  rw [if_neg (show ¬ nI k < 0 from nI_pos (by omega)), ct_dn hct, if_pos (show nI k ≤ nI dn from nI_le (by omega) (by omega))]
  simp only [nm]
  rw [j1, bd_some, pk_sub (by omega)]
  suffices hs : ∃ st2, lz2 (fun f9 (x7 : Int32) (s8 : sw_St) => (if 5 ≤ x7 then some (nI (dn - k), sw_setC s8 64 0 (nI k)) else if nI (dn - k) ≤ 0 then some (nI (dn - k), sw_setC s8 64 0 (nI k)) else bnd (7 + 5 * nI k + x7) 835 (bnd (1 + x7) 835 (f9 (x7 + 1) (sw_setC s8 64 (1 + x7).toNatClampNeg (s8.1 64 (7 + 5 * nI k + x7).toNatClampNeg)))))) F 0 st1 = some (nI (dn - k), st2) ∧ II st2 by
    obtain ⟨st2, j2, i2⟩ := hs
    refine ⟨nI (dn - k), st1, st2, rfl, ?_, i2⟩
    rw [hm1, hmt.1, in6_y (lo := 0) (hi := dn) rfl (by rw [i_l, nI_tI (by omega)]) (by rw [nI_tI (by omega)]; omega) (by rw [nI_tI (by omega)]; omega), bo_some, if_neg (by decide), pk_sub (by omega)]
    exact j2
  have fin : ∀ s : sw_St, (∀ a, a ≠ 64 → s.1 a = st1.1 a) → s.2 = st1.2 → (∀ i, 6 ≤ i → s.1 64 i = st.1 64 i) → TR s 0 (pw_aft n kd sg fw ff G dd k) → II (sw_setC s 64 0 (nI k)) := by
    intro s p1 p2 p3 r
    obtain ⟨m0, m1, m2, m3, m4, m5, m6, m7⟩ := hmt
    obtain ⟨r1, r2, r3, r4, r5⟩ := r
    have q : ∀ i, i ≠ 0 → (sw_setC s 64 0 (nI k)).1 64 i = s.1 64 i := fun i hi => by rw [gsC, if_neg (by omega)]
    refine II_town (G := G) (dd := dd) (dn := k) hI hv hst hk (fun a ha => ?_) (by show s.2.1 = _; rw [p2, c2]) (fun i h1 h2 => by rw [q i (by omega), p3 i (by omega)]) ⟨hdyn.1, by omega, fun j hj => hdyn.2.2 j (by omega)⟩ ?_ ⟨by rw [gsC, if_pos ⟨rfl, rfl⟩], by rw [q _ (by omega)]; exact r1, by rw [q _ (by omega)]; exact r2, by rw [q _ (by omega)]; exact r3, by rw [q _ (by omega)]; exact r4, by rw [q _ (by omega)]; exact r5, by rw [q _ (by omega), p3 _ (by omega)]; exact m6, fun j hj => ?_⟩
    · have ha' : a ≠ 64 ∧ a ∉ [15] := by
        simp only [List.mem_cons, List.mem_nil_iff, or_false, not_or] at ha ⊢
        exact ⟨ha.2.2.2.2.2.2.2, ha.1⟩
      rw [gsC_ne _ _ _ ha'.1, p1 a ha'.1, cc a ha'.2]
    · have q5 : ∀ a, a ≠ 64 → (sw_setC s 64 0 (nI k)).1 a = st1.1 a := fun a ha => by rw [gsC_ne _ _ _ ha, p1 a ha]
      unfold pw_ct
      rw [q5 15 (by decide), q5 (15 + 1) (by decide), q5 (15 + 2) (by decide), q5 (15 + 3) (by decide), q5 (15 + 4) (by decide), q5 (15 + 5) (by decide), q5 (15 + 6) (by decide)]
      exact c1
    · rw [q _ (by omega), q _ (by omega), q _ (by omega), q _ (by omega), q _ (by omega), p3 _ (by omega), p3 _ (by omega), p3 _ (by omega), p3 _ (by omega), p3 _ (by omega)]
      exact m7 j (by omega)
  by_cases hz : dn - k = 0
  · have e : k = dn := by omega
    subst e
    rw [show F = (F - 1) + 1 by omega]
    refine ⟨sw_setC st1 64 0 (nI k), ?_, fin st1 (fun _ _ => rfl) rfl (fun i _ => by rw [hm1]) ?_⟩
    · simp only [lz2]
      rw [if_neg (by decide), if_pos (by rw [Nat.sub_self]; decide)]
    · have := mt_TR hmt
      unfold TR at this ⊢
      rw [hm1]
      exact this
  · have m7 := hmt.2.2.2.2.2.2.2 k (by omega)
    refine lz2_ind (Φ := fun o => ∃ st2 : sw_St, o = some (nI (dn - k), st2) ∧ II st2) (fun x _ => 5 - x.toNatClampNeg) (fun x s => ∃ i, i ≤ 5 ∧ x = nI i ∧ (∀ j, j < i → s.1 64 (1 + j) = st.1 64 (7 + 5 * k + j)) ∧ (∀ k, 6 ≤ k → s.1 64 k = st.1 64 k) ∧ (∀ a, a ≠ 64 → s.1 a = st1.1 a) ∧ s.2 = st1.2) (fun g x s hp ih => ?_) F 0 st1 ⟨0, by omega, rfl, fun j hj => absurd hj (Nat.not_lt_zero j), fun _ _ => by rw [hm1], fun _ _ => rfl, rfl⟩ (by show 5 - 0 < F; omega)
    obtain ⟨i, hi5, rfl, p1, p2, p3, p4⟩ := hp
    rcases Nat.lt_or_ge i 5 with q | q
    · rw [if_neg (show ¬ (5 : Int32) ≤ nI i from nI_ge q (by decide)), if_neg (fun z => hz ((pos_iff (by omega)).mp z)), show (1 : Int32) + nI i = nI (1 + i) from nI_add 1 i, show (7 : Int32) + 5 * nI k + nI i = nI (7 + 5 * k + i) by rw [show (7 : Int32) = nI 7 from rfl, show (5 : Int32) = nI 5 from rfl, pk_mul, nI_add, nI_add], bnd_nI (by omega) (by decide), bnd_nI (by omega) (by decide), nI_clamp (by omega), nI_clamp (by omega), nI_1]
      refine ih _ _ ⟨i + 1, by omega, rfl, fun j hj => ?_, fun k hk => ?_, fun a ha => ?_, p4⟩ ?_
      · rw [gsC]
        by_cases e : j = i
        · subst e
          rw [if_pos ⟨rfl, rfl⟩, p2 _ (by omega)]
        · rw [if_neg (by omega)]
          exact p1 j (by omega)
      · rw [gsC, if_neg (by omega)]
        exact p2 k hk
      · rw [gsC_ne _ _ _ ha]
        exact p3 a ha
      · rw [nI_clamp (by omega), nI_clamp (by omega)]
        omega
    · have e : i = 5 := by omega
      subst e
      rw [if_pos (show (5 : Int32) ≤ nI 5 by decide)]
      refine ⟨_, rfl, fin s p3 p4 p2 ?_⟩
      have w := fun j hj => p1 j hj
      exact ⟨(w 0 (by decide)).trans (by rw [show 7 + 5 * k + 0 = 0 + 7 + 5 * k by omega]; exact m7.1), (w 1 (by decide)).trans (by rw [show 7 + 5 * k + 1 = 0 + 8 + 5 * k by omega]; exact m7.2.1), (w 2 (by decide)).trans (by rw [show 7 + 5 * k + 2 = 0 + 9 + 5 * k by omega]; exact m7.2.2.1), (w 3 (by decide)).trans (by rw [show 7 + 5 * k + 3 = 0 + 10 + 5 * k by omega]; exact m7.2.2.2.1), (w 4 (by decide)).trans (by rw [show 7 + 5 * k + 4 = 0 + 11 + 5 * k by omega]; exact m7.2.2.2.2)⟩
