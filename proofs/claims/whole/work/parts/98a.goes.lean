theorem lw0 {n : Nat} {kd sg bd : Nat → Nat} {G : Nat} {x : pw_D} (h : Nat) : ∃ y, pw_lw n kd sg bd G x h 0 = some y := by
  induction h with
  | zero => exact ⟨_, rfl⟩
  | succ h ih =>
    obtain ⟨y, hy⟩ := ih
    refine ⟨(pw_ps y.1, y.2.1, y.2.2.1, y.2.2.2 + (if y.1.1 = 0 then 0 else 1)), ?_⟩
    rw [lw_s (y := y) (by rw [Nat.zero_div]; exact hy), Nat.zero_mod]
    rfl
theorem nlt_le {a b : Int32} : ¬ a < b ↔ b ≤ a := by
  rw [i_lt, i_le]; omega
theorem o_26 {F : Nat} (hF : 20000 ≤ F) : sm_26 II F := by
  intro a1 st hI
  obtain ⟨n, kd, sg, br, fw, ff, G, x, H⟩ := II_HR hI
  have hn := H.hv.1
  rcases nix a1 6 with h | ⟨L, hL6, rfl⟩
  · refine ⟨-1, st, st, ?_, ?_, hI⟩
    · unfold j_X5_goes; rw [size5_n h]; rfl
    · unfold j_X6_goes; rw [in6_5n h]; rfl
  have hL : L ≤ 5 := by omega
  by_cases h0 : n = 0
  · refine ⟨-4, st, st, ?_, ?_, hI⟩
    · unfold j_X5_goes; rw [size5_y hL, bo_some, if_neg (by decide), H.hc.1, if_pos ((n0_iff hn).mpr h0)]
    · unfold j_X6_goes; rw [in6_5y hL, bo_some, if_neg (by decide), H.hm.1.1, if_pos ((n0_iff hn).mpr h0)]
  have n0 : ¬ nI n = 0 := fun z => h0 ((n0_iff hn).mp z)
  obtain ⟨s1, j1, ⟨c5, c6, c56, c7, c8⟩, c1, z1⟩ := searchL5 (F := F) (a := 0) hF H hL (by decide)
  have hN := pow7 hn hL
  obtain ⟨V, hVd⟩ : ∃ V, V = lfV n kd sg br G x L := ⟨_, rfl⟩
  obtain ⟨Y, hYd⟩ : ∃ Y, Y = lfY n kd sg br G x L := ⟨_, rfl⟩
  obtain ⟨N, hNd⟩ : ∃ N, N = (n + 1) ^ L := ⟨_, rfl⟩
  rw [← hNd] at hN c7 c8
  rw [← hVd, ← hYd] at c7 c8
  obtain ⟨q, hq⟩ : ∃ q : Nat → Int32 × Int32, q = lfG V (fun c => (Y c).2.2.2) (fun c => (Y c).2.2.1) := ⟨_, rfl⟩
  rw [← hq] at c7 c8
  have hqs : ∀ k, q (k + 1) = if V k then (if (q k).1 < nI (Y k).2.2.2 then (nI (Y k).2.2.2, nI (Y k).2.2.1) else if nI (Y k).2.2.2 = (q k).1 then (if (q k).2 ≤ nI (Y k).2.2.1 then q k else (nI (Y k).2.2.2, nI (Y k).2.2.1)) else q k) else q k := fun k => by rw [hq]; exact lfG_s _ _ _ _
  obtain ⟨s2, hs2⟩ : ∃ s, s = sw_setC s1 0 14 (q N).2 := ⟨_, rfl⟩
  have e2 : ∀ b, b ≠ 0 → s2.1 b = s1.1 b := fun b hb => by rw [hs2, gsC_ne _ _ _ hb]
  have H2 : HR s2 n kd sg br fw ff G x := H.c (fun b hb => by
    have := (by decide : ∀ a, a ∈ [15, 16, 17, 18, 19, 65, 66, 67] → a ≠ 0 ∧ a ∉ [54, 55, 56]) b hb
    rw [e2 b this.1, c1 b this.2]) (by rw [e2 63 (by decide), c1 63 (by decide)]) (fun i hi => by rw [e2 64 (by decide), c1 64 (by decide)])
  suffices hs : ∃ s3, j_X6_goes F (nI L) s2 = some ((q N).1, s3) ∧ s3.1 63 9 = (q N).2 ∧ (∀ a, a ≠ 63 → a ≠ 64 → s3.1 a = s2.1 a) ∧ (∀ i, i ≠ 9 → (i < 23 ∨ 26 ≤ i) → s3.1 63 i = s2.1 63 i) ∧ (∀ i, i < 828 → s3.1 64 i = s2.1 64 i) ∧ s3.2 = s2.2 by
    obtain ⟨s3, j3, b9, b1, b2, b3, b4⟩ := hs
    have e63 : ∀ i, i ≠ 9 → i < 23 → s3.1 63 i = st.1 63 i := fun i h1 h2 => by rw [b2 i h1 (by omega), e2 63 (by decide), c1 63 (by decide)]
    have e0 : s3.1 0 = s2.1 0 := b1 0 (by decide) (by decide)
    refine ⟨(q N).1, s2, s3, ?_, j3, II_scr hI (fun b hb => ?_) ?_ ?_ (e63 1 (by decide) (by decide)) (e63 12 (by decide) (by decide)) (fun i hi => ?_) ?_ ?_⟩
    · unfold j_X5_goes
      rw [size5_y hL, bo_some, if_neg (by decide), H.hc.1, if_neg n0, show j_X1_search F (nI L) 0 st = some ((), s1) from j1, bd_some, nm_eq, c8, ← hs2, hs2, gsC, if_neg (by decide), c7]
    · have ha2 : b ≠ 0 ∧ b ≠ 63 ∧ b ≠ 64 ∧ b ∉ [54, 55, 56] := by
        simp only [sN, List.mem_cons, not_or, List.mem_nil_iff, or_false] at hb ⊢
        omega
      rw [b1 b ha2.2.1 ha2.2.2.1, e2 b ha2.1, c1 b ha2.2.2.2]
    · rw [e0, hs2, gsC, if_neg (by decide), c1 0 (by decide)]
    · rw [e0, hs2, gsC, if_pos ⟨rfl, rfl⟩, b9]
    · rw [b3 i hi, e2 64 (by decide), c1 64 (by decide)]
    · rw [b4, hs2]; show s1.2.1 0 15 = s1.2.1 63 10; rw [z1]; exact hI.2.2.1.2.2.2.1
    · rw [b4, hs2]; show s1.2.1 0 16 = s1.2.1 63 11; rw [z1]; exact hI.2.2.1.2.2.2.2
  unfold j_X6_goes
  rw [in6_5y hL, bo_some, if_neg (by decide), H2.hm.1.1, if_neg n0]
  refine lz3_ind (Φ := fun o => ∃ s3 : sw_St, o = some ((q N).1, s3) ∧ s3.1 63 9 = (q N).2 ∧ (∀ a, a ≠ 63 → a ≠ 64 → s3.1 a = s2.1 a) ∧ (∀ i, i ≠ 9 → (i < 23 ∨ 26 ≤ i) → s3.1 63 i = s2.1 63 i) ∧ (∀ i, i < 828 → s3.1 64 i = s2.1 64 i) ∧ s3.2 = s2.2) (fun _ i _ => 19000 - i.toNatClampNeg) (fun u c s => ∃ k, k ≤ N ∧ c = nI k ∧ u = (q k).1 ∧ (1 ≤ k → s.1 63 9 = (q k).2) ∧ (∀ a, a ≠ 63 → a ≠ 64 → s.1 a = s2.1 a) ∧ (∀ i, i ≠ 9 → (i < 23 ∨ 26 ≤ i) → s.1 63 i = s2.1 63 i) ∧ (∀ i, i < 828 → s.1 64 i = s2.1 64 i) ∧ s.2 = s2.2) (fun g u c s hp ih => ?_) F (-1) 0 s2 ⟨0, by omega, rfl, by rw [hq]; rfl, fun h => absurd h (by omega), fun _ _ _ => rfl, fun _ _ _ => rfl, fun _ _ => rfl, rfl⟩ (by show 19000 - 0 < F; omega)
  obtain ⟨k, hk, rfl, rfl, h9, b1, b2, b3, b4⟩ := hp
  have Hs : HR s n kd sg br fw ff G x := H2.c (fun b hb => by
    have := (by decide : ∀ a, a ∈ [15, 16, 17, 18, 19, 65, 66, 67] → a ≠ 63 ∧ a ≠ 64) b hb
    exact b1 b this.1 this.2) (b2 1 (by decide) (by omega)) b3
  rw [power6 hF Hs.hm.1.1 hL, bo_some, ← hNd]
  rcases Nat.lt_or_ge k N with w | w
  · rw [if_neg (show ¬ nI N ≤ nI k from nI_ge w (by omega))]
    have hB := hqs k
    have fin : ∀ u s', u = (q (k + 1)).1 → s'.1 63 9 = (q (k + 1)).2 → (∀ a, a ≠ 63 → a ≠ 64 → s'.1 a = s2.1 a) → (∀ i, i ≠ 9 → (i < 23 ∨ 26 ≤ i) → s'.1 63 i = s2.1 63 i) → (∀ i, i < 828 → s'.1 64 i = s2.1 64 i) → s'.2 = s2.2 → ∃ s3 : sw_St, g u (nI (k + 1)) s' = some ((q N).1, s3) ∧ s3.1 63 9 = (q N).2 ∧ (∀ a, a ≠ 63 → a ≠ 64 → s3.1 a = s2.1 a) ∧ (∀ i, i ≠ 9 → (i < 23 ∨ 26 ≤ i) → s3.1 63 i = s2.1 63 i) ∧ (∀ i, i < 828 → s3.1 64 i = s2.1 64 i) ∧ s3.2 = s2.2 := fun u s' a1 a2 a3 a4 a5 a6 => ih _ _ _ ⟨k + 1, w, rfl, a1, fun _ => a2, a3, a4, a5, a6⟩ (by rw [nI_clamp (by omega), nI_clamp (by omega)]; omega)
    rcases letting6 (F := F) (c := k) hF Hs hL (by omega) (by omega) with ⟨y, s3, hy, j3, ty, y23, y24, y25, hr1⟩ | ⟨s3, hy, j3, hr1⟩
    · have hVk : V k = true := by rw [hVd]; unfold lfV; rw [hy]; rfl
      have hYk : Y k = y := by rw [hYd]; unfold lfY; rw [hy]; rfl
      rw [hVk, if_pos rfl, hYk] at hB
      obtain ⟨i1, i2, i3, i4, i5, i6, i7, i8⟩ := lw_ok H.hv H.hx H.hx3 hL _ y hy
      have e9 : s3.1 63 9 = s.1 63 9 := hr1.2.1 9 (by omega)
      have d1 : ∀ v, (∀ a, a ≠ 63 → a ≠ 64 → (sw_setC s3 63 9 v).1 a = s2.1 a) ∧ (∀ i, i ≠ 9 → (i < 23 ∨ 26 ≤ i) → (sw_setC s3 63 9 v).1 63 i = s2.1 63 i) ∧ (∀ i, i < 828 → (sw_setC s3 63 9 v).1 64 i = s2.1 64 i) ∧ (sw_setC s3 63 9 v).2 = s2.2 := fun v => ⟨fun a h1 h2 => by rw [gsC_ne _ _ _ h1, hr1.1 a h1 h2, b1 a h1 h2], fun i h1 h2 => by rw [gsC, if_neg (by omega), hr1.2.1 i (by omega), b2 i h1 h2], fun i hi => by rw [gsC_ne _ _ _ (by decide), hr1.2.2.1 i hi, b3 i hi], by show s3.2 = _; rw [hr1.2.2.2, b4]⟩
      have c25 : ∀ v, (sw_setC s3 63 9 v).1 63 25 = nI y.2.2.2 := fun v => by rw [gsC, if_neg (by decide), y25]
      rw [j3, bd_some]
      simp only [jn]
      rw [if_neg (show ¬ (1 : Int32) = 0 by decide), y25, y24, e9]
      by_cases q1 : (q k).1 < nI y.2.2.2
      · rw [if_pos q1] at hB
        rw [if_pos q1, nm_eq, c25, if_neg (show ¬ nI y.2.2.2 ≤ (q k).1 from fun z => nlt_le.mpr z q1), nm_eq, nI_1]
        obtain ⟨d2, d3, d4, d5⟩ := d1 (nI y.2.2.1)
        exact fin _ _ (by rw [hB]) (by rw [gsC, if_pos ⟨rfl, rfl⟩, hB]) d2 d3 d4 d5
      · have hk1 : 1 ≤ k := by
          refine Nat.one_le_iff_ne_zero.mpr (fun hk0 => q1 ?_)
          rw [hk0, hq, show (lfG V (fun c => (Y c).2.2.2) (fun c => (Y c).2.2.1) 0).1 = -1 from rfl, i_lt, nI_tI (by omega)]
          show (-1 : Int) < _
          omega
        rw [if_neg q1] at hB
        have hle : nI y.2.2.2 ≤ (q k).1 := nlt_le.mp q1
        rw [if_neg q1]
        by_cases q2 : nI y.2.2.2 = (q k).1
        · rw [if_pos q2] at hB
          rw [if_pos q2]
          by_cases q3 : (q k).2 ≤ nI y.2.2.1
          · rw [if_pos q3] at hB
            rw [if_pos (show s.1 63 9 ≤ nI y.2.2.1 by rw [h9 hk1]; exact q3), nm_eq, c25, if_pos hle, nm_eq, nI_1]
            obtain ⟨d2, d3, d4, d5⟩ := d1 (s.1 63 9)
            exact fin _ _ (by rw [hB]) (by rw [gsC, if_pos ⟨rfl, rfl⟩, hB, h9 hk1]) d2 d3 d4 d5
          · rw [if_neg q3] at hB
            rw [if_neg (show ¬ s.1 63 9 ≤ nI y.2.2.1 by rw [h9 hk1]; exact q3), nm_eq, c25, if_pos hle, nm_eq, nI_1]
            obtain ⟨d2, d3, d4, d5⟩ := d1 (nI y.2.2.1)
            exact fin _ _ (by rw [hB, ← q2]) (by rw [gsC, if_pos ⟨rfl, rfl⟩, hB]) d2 d3 d4 d5
        · rw [if_neg q2] at hB
          rw [if_neg q2, nm_eq, c25, if_pos hle, nm_eq, nI_1]
          obtain ⟨d2, d3, d4, d5⟩ := d1 (s.1 63 9)
          exact fin _ _ (by rw [hB]) (by rw [gsC, if_pos ⟨rfl, rfl⟩, hB, h9 hk1]) d2 d3 d4 d5
    · have hVf : V k = false := by rw [hVd]; unfold lfV; rw [hy]; rfl
      rw [hVf, if_neg (by decide)] at hB
      have hk1 : 1 ≤ k := by
        refine Nat.one_le_iff_ne_zero.mpr (fun hk0 => ?_)
        obtain ⟨y, hy0⟩ := lw0 (n := n) (kd := kd) (sg := sg) (bd := br) (G := G) (x := x) L
        rw [hk0, hy0] at hy
        exact absurd hy (by simp)
      rw [j3, bd_some]
      simp only [jn]
      rw [if_pos trivial, nm_eq, nI_1]
      exact fin _ _ (by rw [hB]) (by rw [hB, hr1.2.1 9 (by omega), h9 hk1]) (fun a h1 h2 => by rw [hr1.1 a h1 h2, b1 a h1 h2]) (fun i h1 h2 => by rw [hr1.2.1 i (by omega), b2 i h1 h2]) (fun i hi => by rw [hr1.2.2.1 i hi, b3 i hi]) (by rw [hr1.2.2.2, b4])
  · have e : k = N := by omega
    subst e
    rw [if_pos (show nI k ≤ nI k from nI_le (Nat.le_refl k) (by omega))]
    exact ⟨s, rfl, h9 (by omega), b1, b2, b3, b4⟩
