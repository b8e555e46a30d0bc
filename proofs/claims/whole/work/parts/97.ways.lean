/-- the search's scratch on the reference's side -/
def trB (st s : sw_St) : Prop := (∀ a, a ≠ 63 → a ≠ 64 → s.1 a = st.1 a) ∧ (∀ i, (i < 23 ∨ 27 ≤ i) → s.1 63 i = st.1 63 i) ∧ (∀ i, i < 828 → s.1 64 i = st.1 64 i) ∧ (∀ b i, ¬ (b = 63 ∧ (i = 10 ∨ i = 11)) → s.2.1 b i = st.2.1 b i)
theorem trB.rf (st : sw_St) : trB st st := ⟨fun _ _ _ => rfl, fun _ _ => rfl, fun _ _ => rfl, fun _ _ _ => rfl⟩
theorem trB.tr {st s s2 : sw_St} (h : trB st s) (h2 : trB s s2) : trB st s2 := ⟨fun a h63 h64 => (h2.1 a h63 h64).trans (h.1 a h63 h64), fun i hi => (h2.2.1 i hi).trans (h.2.1 i hi), fun i hi => (h2.2.2.1 i hi).trans (h.2.2.1 i hi), fun b i hi => (h2.2.2.2 b i hi).trans (h.2.2.2 b i hi)⟩
theorem trL.tB {st s : sw_St} (h : trL st s) : trB st s := ⟨h.1, fun i hi => h.2.1 i (by omega), h.2.2.1, fun b i _ => by rw [h.2.2.2]⟩
theorem trB.C {st s : sw_St} (h : trB st s) (v : Int32) : trB st (sw_setC s 63 26 v) := ⟨fun a h63 h64 => by rw [gsC_ne _ _ _ h63]; exact h.1 a h63 h64, fun i hi => by rw [gsC, if_neg (by omega)]; exact h.2.1 i hi, fun i hi => by rw [gsC_ne _ _ _ (by decide)]; exact h.2.2.1 i hi, h.2.2.2⟩
theorem trB.J {st s : sw_St} (h : trB st s) {k : Nat} (v : Int64) (hk : k = 10 ∨ k = 11) : trB st (sw_setJ s 63 k v) := ⟨h.1, h.2.1, h.2.2.1, fun b i hi => by rw [gsJ, if_neg (by omega)]; exact h.2.2.2 b i hi⟩
theorem HR.tB {st s : sw_St} {n : Nat} {kd sg bd : Nat → Nat} {fw ff G : Nat} {x : pw_D} (h : HR st n kd sg bd fw ff G x) (e : trB st s) : HR s n kd sg bd fw ff G x := h.c (fun b hb => by
    have := (by decide : ∀ a, a ∈ [15, 16, 17, 18, 19, 65, 66, 67] → a ≠ 63 ∧ a ≠ 64) b hb
    exact e.1 b this.1 this.2) (e.2.1 1 (by decide)) e.2.2.1
theorem least6 {F n L a : Nat} {kd sg br : Nat → Nat} {fw ff G : Nat} {x : pw_D} {st : sw_St} (hF : 20000 ≤ F) (H : HR st n kd sg br fw ff G x) (hL : L ≤ 5) (ha : a < 12) : ∃ s, j_X6_leastBread F (nI L) (nI a) st = some ((lfB (lfP n kd sg br G x L a) (fun c => (lfY n kd sg br G x L c).2.1) ((n + 1) ^ L)).1, s) ∧ ((lfB (lfP n kd sg br G x L a) (fun c => (lfY n kd sg br G x L c).2.1) ((n + 1) ^ L)).1 ≠ -9 → s.1 63 26 = nI (lfB (lfP n kd sg br G x L a) (fun c => (lfY n kd sg br G x L c).2.1) ((n + 1) ^ L)).2) ∧ s.2.1 63 10 = lN (foC (lfP n kd sg br G x L a) ((n + 1) ^ L)) ∧ s.2.1 63 11 = lN 1 ∧ trB st s := by
  have hn := H.hv.1
  have hN := pow7 hn hL
  obtain ⟨P, hPd⟩ : ∃ P, P = lfP n kd sg br G x L a := ⟨_, rfl⟩
  obtain ⟨V, hVd⟩ : ∃ V, V = lfV n kd sg br G x L := ⟨_, rfl⟩
  obtain ⟨Y, hYd⟩ : ∃ Y, Y = lfY n kd sg br G x L := ⟨_, rfl⟩
  obtain ⟨N, hNd⟩ : ∃ N, N = (n + 1) ^ L := ⟨_, rfl⟩
  rw [← hPd, ← hYd, ← hNd]
  rw [← hNd] at hN
  unfold j_X6_leastBread
  rw [nm_eq, nm_eq]
  refine lz3_ind (Φ := fun o => ∃ s : sw_St, o = some ((lfB P (fun c => (Y c).2.1) N).1, s) ∧ ((lfB P (fun c => (Y c).2.1) N).1 ≠ -9 → s.1 63 26 = nI (lfB P (fun c => (Y c).2.1) N).2) ∧ s.2.1 63 10 = lN (foC P N) ∧ s.2.1 63 11 = lN 1 ∧ trB st s) (fun _ i _ => 19000 - i.toNatClampNeg) (fun u c s => ∃ k, k ≤ N ∧ c = nI k ∧ u = (lfB P (fun c => (Y c).2.1) k).1 ∧ ((lfB P (fun c => (Y c).2.1) k).1 ≠ -9 → s.1 63 26 = nI (lfB P (fun c => (Y c).2.1) k).2) ∧ s.2.1 63 10 = lN (foC P k) ∧ s.2.1 63 11 = lN 1 ∧ trB st s) (fun g u c s hq ih => ?_) F (-9) 0 _ ⟨0, by omega, rfl, rfl, fun h => absurd rfl h, by rw [gsJ, if_neg (by decide), gsJ, if_pos ⟨rfl, rfl⟩]; rfl, by rw [gsJ, if_pos ⟨rfl, rfl⟩]; rfl, ((trB.rf st).J _ (Or.inl rfl)).J _ (Or.inr rfl)⟩ (by show 19000 - 0 < F; omega)
  obtain ⟨k, hk, rfl, rfl, h26, h10, h11, hr⟩ := hq
  have Hs := H.tB hr
  rw [power6 hF Hs.hm.1.1 hL, bo_some, ← hNd]
  rcases Nat.lt_or_ge k N with q | q
  · rw [if_neg (show ¬ nI N ≤ nI k from nI_ge q (by omega))]
    have hB := lfB_s P (fun c => (Y c).2.1) k
    have hC : foC P (k + 1) = if P k then foC P k + 1 else foC P k := rfl
    have fin : ∀ u s', u = (lfB P (fun c => (Y c).2.1) (k + 1)).1 → ((lfB P (fun c => (Y c).2.1) (k + 1)).1 ≠ -9 → s'.1 63 26 = nI (lfB P (fun c => (Y c).2.1) (k + 1)).2) → s'.2.1 63 10 = lN (foC P (k + 1)) → s'.2.1 63 11 = lN 1 → trB st s' → ∃ s : sw_St, g u (nI (k + 1)) s' = some ((lfB P (fun c => (Y c).2.1) N).1, s) ∧ ((lfB P (fun c => (Y c).2.1) N).1 ≠ -9 → s.1 63 26 = nI (lfB P (fun c => (Y c).2.1) N).2) ∧ s.2.1 63 10 = lN (foC P N) ∧ s.2.1 63 11 = lN 1 ∧ trB st s := fun u s' a1 a2 a3 a4 a5 => ih _ _ _ ⟨k + 1, q, rfl, a1, a2, a3, a4, a5⟩ (by rw [nI_clamp (by omega), nI_clamp (by omega)]; omega)
    rcases letting6 (F := F) (c := k) hF Hs hL (by omega) (by omega) with ⟨y, s1, hy, j1, ty, y23, y24, y25, hr1⟩ | ⟨s1, hy, j1, hr1⟩
    · have hVk : V k = true := by rw [hVd]; unfold lfV; rw [hy]; rfl
      have hYk : Y k = y := by rw [hYd]; unfold lfY; rw [hy]; rfl
      have hPk : P k = (y.1.2.1 == a) := by rw [hPd]; unfold lfP; rw [← hVd, ← hYd, hVk, hYk, Bool.true_and]
      obtain ⟨i1, i2, i3, i4, i5, i6, i7, i8⟩ := lw_ok H.hv H.hx H.hx3 hL _ y hy
      have e26 : s1.1 63 26 = s.1 63 26 := hr1.2.1 26 (by omega)
      have eJ : s1.2 = s.2 := hr1.2.2.2
      rw [j1, bd_some]
      simp only [jn]
      rw [if_neg (show ¬ (1 : Int32) = 0 by decide), show s1.1 64 830 = nI _ from ty.2.1]
      by_cases z : y.1.2.1 = a
      · have hPt : P k = true := by rw [hPk]; simp [z]
        rw [hPt, if_pos rfl] at hB hC
        rw [hYk] at hB
        have hb5 : y.2.1 ≤ 45 := by omega
        rw [if_pos (by rw [z]), nm_eq, eJ, h10, show lN (foC P k) + 1 = lN (foC P (k + 1)) by rw [hC, show (1 : Int64) = lN 1 from rfl, lN_add]]
        obtain ⟨s2, hs2⟩ : ∃ s2 : sw_St, s2 = sw_setJ s1 63 10 (lN (foC P (k + 1))) := ⟨_, rfl⟩
        rw [← hs2]
        have c23 : ∀ v, (sw_setC s2 63 26 v).1 63 23 = nI y.2.1 := fun v => by rw [gsC, if_neg (by decide), hs2, gsJ1, y23]
        have c23' : s2.1 63 23 = nI y.2.1 := by rw [hs2, gsJ1, y23]
        have c26' : s2.1 63 26 = s.1 63 26 := by rw [hs2, gsJ1, e26]
        have hr2 : trB st s2 := by rw [hs2]; exact (hr.tr hr1.tB).J _ (Or.inl rfl)
        have l10 : s2.2.1 63 10 = lN (foC P (k + 1)) := by rw [hs2, gsJ, if_pos ⟨rfl, rfl⟩]
        have l11 : s2.2.1 63 11 = lN 1 := by rw [hs2, gsJ, if_neg (by decide), eJ, h11]
        rw [c23', c26']
        by_cases q1 : (lfB P (fun c => (Y c).2.1) k).1 = -9
        · rw [if_pos q1] at hB
          rw [if_pos q1, nm_eq, if_pos q1, nm_eq, c23, nI_1]
          exact fin _ _ (by rw [hB]) (fun _ => by rw [gsC, if_pos ⟨rfl, rfl⟩, hB]) l10 l11 (hr2.C _)
        · rw [if_neg q1] at hB
          rw [if_neg q1]
          by_cases q2 : (lfB P (fun c => (Y c).2.1) k).1 ≤ nI y.2.1
          · rw [if_pos q2] at hB
            rw [if_pos q2, nm_eq, if_neg q1, c23, if_pos q2, nm_eq, nI_1]
            exact fin _ _ (by rw [hB]) (fun _ => by rw [gsC, if_pos ⟨rfl, rfl⟩, hB, h26 q1]) l10 l11 (hr2.C _)
          · rw [if_neg q2] at hB
            rw [if_neg q2, nm_eq, if_neg q1, c23, if_neg q2, nm_eq, nI_1]
            exact fin _ _ (by rw [hB]) (fun _ => by rw [gsC, if_pos ⟨rfl, rfl⟩, hB]) l10 l11 (hr2.C _)
      · have hPf : P k = false := by rw [hPk]; simp [z]
        rw [hPf, if_neg (by decide)] at hB hC
        rw [if_neg (fun w => z ((nI_eq (by have := i1.2.1; omega) (by omega)).mp w)), nm_eq, nI_1]
        exact fin _ _ (by rw [hB]) (fun h => by rw [hB] at h ⊢; rw [e26]; exact h26 h) (by rw [hC, eJ, h10]) (by rw [eJ, h11]) (hr.tr hr1.tB)
    · have hPf : P k = false := by rw [hPd]; unfold lfP lfV; rw [hy]; rfl
      have e26 : s1.1 63 26 = s.1 63 26 := hr1.2.1 26 (by omega)
      have eJ : s1.2 = s.2 := hr1.2.2.2
      rw [hPf, if_neg (by decide)] at hB hC
      rw [j1, bd_some]
      simp only [jn]
      rw [if_pos trivial, nm_eq, nI_1]
      exact fin _ _ (by rw [hB]) (fun h => by rw [hB] at h ⊢; rw [e26]; exact h26 h) (by rw [hC, eJ, h10]) (by rw [eJ, h11]) (hr.tr hr1.tB)
  · have e : k = N := by omega
    subst e
    rw [if_pos (show nI k ≤ nI k from nI_le (Nat.le_refl k) (by omega))]
    exact ⟨s, rfl, h26, h10, h11, hr⟩
theorem size5_n {F : Nat} {a : Int32} {st : sw_St} (h : nout a 6) : j_X5_isLettingSize F a st = some 0 := by
  unfold j_X5_isLettingSize
  simp only [jn, grd]
  by_cases q : a < 0
  · rw [if_pos q]; rfl
  · rw [if_neg q, if_pos]
    · rfl
    · rw [i_lt]
      rw [i_lt] at q
      rcases h with h | h
      · exact absurd h q
      · show 5 < a.toInt
        omega
theorem size5_y {F i : Nat} {st : sw_St} (h : i ≤ 5) : j_X5_isLettingSize F (nI i) st = some 1 := by
  unfold j_X5_isLettingSize
  simp only [jn, grd]
  rw [if_neg (show ¬ nI i < 0 from nI_pos (by omega)), if_neg (show ¬ (5 : Int32) < nI i by rw [i_lt, nI_tI (by omega)]; show ¬ (5 : Int) < i; omega)]
  rfl
theorem dial5_n {F : Nat} {a : Int32} {st : sw_St} (h : nout a 12) : j_X5_isDial F a st = some 0 := by
  unfold j_X5_isDial
  simp only [jn, grd]
  by_cases q : a < 0
  · rw [if_pos q]; rfl
  · rw [if_neg q, if_pos]
    · rfl
    · rw [i_le]
      rw [i_lt] at q
      rcases h with h | h
      · exact absurd h q
      · show 12 ≤ a.toInt
        omega
theorem dial5_y {F i : Nat} {st : sw_St} (h : i < 12) : j_X5_isDial F (nI i) st = some 1 := by
  unfold j_X5_isDial
  simp only [jn, grd]
  rw [if_neg (show ¬ nI i < 0 from nI_pos (by omega)), if_neg (show ¬ (12 : Int32) ≤ nI i from nI_ge (b := 12) h (by decide))]
  rfl
theorem in6_5n {F : Nat} {a : Int32} {st : sw_St} (h : nout a 6) : j_X6_in F a.toInt64 0 5 st = some 0 := in6_n (lo := 0) (hi := 5) rfl rfl (by rcases h with h | h; exact Or.inl h; exact Or.inr (by omega))
theorem in6_5y {F i : Nat} {st : sw_St} (h : i ≤ 5) : j_X6_in F (nI i).toInt64 0 5 st = some 1 := in6_y (lo := 0) (hi := 5) rfl rfl (by rw [nI_tI (by omega)]; omega) (by rw [nI_tI (by omega)]; omega)
theorem in6_11n {F : Nat} {a : Int32} {st : sw_St} (h : nout a 12) : j_X6_in F a.toInt64 0 11 st = some 0 := in6_n (lo := 0) (hi := 11) rfl rfl (by rcases h with h | h; exact Or.inl h; exact Or.inr (by omega))
theorem in6_11y {F i : Nat} {st : sw_St} (h : i < 12) : j_X6_in F (nI i).toInt64 0 11 st = some 1 := in6_y (lo := 0) (hi := 11) rfl rfl (by rw [nI_tI (by omega)]; omega) (by rw [nI_tI (by omega)]; omega)
theorem searchL5 {F n L a : Nat} {kd sg br : Nat → Nat} {fw ff G : Nat} {x : pw_D} {st : sw_St} (hF : 20000 ≤ F) (H : HR st n kd sg br fw ff G x) (hL : L ≤ 5) (ha : a < 12) : ∃ s, j_X1_search F (nI L) (nI a) st = some ((), s) ∧ lCA n L (lfP n kd sg br G x L a) (lfV n kd sg br G x L) (fun c => (lfY n kd sg br G x L c).2.1) (fun c => (lfY n kd sg br G x L c).2.2.2) (fun c => (lfY n kd sg br G x L c).2.2.1) ((n + 1) ^ L) s ∧ ch [54, 55, 56] st s ∧ s.2 = st.2 := by
  unfold j_X1_search
  rw [nm_eq, nm_eq, nm_eq, nm_eq, nm_eq, nm_eq]
  obtain ⟨s0, hs0⟩ : ∃ s0 : sw_St, s0 = sw_setC (sw_setC (sw_setC (sw_setC (sw_setC (sw_setC st 54 0 (nI L)) 54 1 (nI a)) 54 4 0) 54 5 (-9)) 54 6 (-1)) 54 7 0 := ⟨_, rfl⟩
  rw [← hs0]
  have c0 : ch [54, 55, 56] st s0 := by
    rw [hs0]
    exact ((((((ch.rf [54, 55, 56] st).C _ _ (by decide)).C _ _ (by decide)).C _ _ (by decide)).C _ _ (by decide)).C _ _ (by decide)).C _ _ (by decide)
  have g0 : ∀ i, s0.1 54 i = if i = 7 then 0 else if i = 6 then -1 else if i = 5 then -9 else if i = 4 then 0 else if i = 1 then nI a else if i = 0 then nI L else st.1 54 i := fun i => by
    rw [hs0]
    simp only [gsC, true_and]
  obtain ⟨s1, j1, r1, r2, r3, r4, r5, r6⟩ := letIn5 hF H hL ha L 7 0 0 (x, 0, 0, 0) s0 (by omega) (by omega) rfl (by
    rw [Nat.zero_mul]
    exact ⟨by rw [g0]; rfl, by rw [g0]; rfl, fun h => absurd rfl h, by rw [g0]; rfl, by rw [g0]; rfl⟩) (fun t ht => absurd ht (Nat.not_lt_zero t)) c0 (by rw [g0]; rfl) (by rw [g0]; rfl) (by rw [hs0]; rfl)
  rw [show (0 + 1) * (n + 1) ^ L = (n + 1) ^ L by omega] at r1
  refine ⟨s1, ?_, r1, r3, r6⟩
  rw [c0 15 (by decide), H.hr.1, H.hr.2.2.2.2, show j_X1_letIn F 7 0 (nI x.1) (nI x.2.2.2.2) 0 0 s0 = some ((), s1) from j1]
  rfl
theorem o_24 {F : Nat} (hF : 20000 ≤ F) : sm_24 II F := by
  intro a1 a2 st hI
  obtain ⟨n, kd, sg, br, fw, ff, G, x, H⟩ := II_HR hI
  have hn := H.hv.1
  unfold j_X5_ways j_X6_ways
  simp only [jn]
  rcases nix a1 6 with h | ⟨L, hL6, rfl⟩
  · exact ⟨-1, st, st, by rw [size5_n h]; rfl, by rw [in6_5n h]; rfl, hI⟩
  have hL : L ≤ 5 := by omega
  rcases nix a2 12 with h | ⟨a, ha, rfl⟩
  · exact ⟨-1, st, st, by rw [size5_y hL, bo_some, if_neg (by decide), dial5_n h]; rfl, by rw [in6_5y hL, bo_some, if_neg (by decide), in6_11n h]; rfl, hI⟩
  by_cases h0 : n = 0
  · exact ⟨-4, st, st, by rw [size5_y hL, bo_some, if_neg (by decide), dial5_y ha, bo_some, if_neg (by decide), H.hc.1, if_pos ((n0_iff hn).mpr h0)], by rw [in6_5y hL, bo_some, if_neg (by decide), in6_11y ha, bo_some, if_neg (by decide), H.hm.1.1, if_pos ((n0_iff hn).mpr h0)], hI⟩
  have n0 : ¬ nI n = 0 := fun z => h0 ((n0_iff hn).mp z)
  obtain ⟨s1, j1, ⟨c5, c6, c56, c7, c8⟩, c1, z1⟩ := searchL5 (F := F) hF H hL ha
  have hC : foC (lfP n kd sg br G x L a) ((n + 1) ^ L) < 2 ^ 31 := by
    have := foC_le (lfP n kd sg br G x L a) ((n + 1) ^ L)
    have := pow7 hn hL
    omega
  obtain ⟨B, hBd⟩ : ∃ B, B = (lfB (lfP n kd sg br G x L a) (fun c => (lfY n kd sg br G x L c).2.1) ((n + 1) ^ L)).1 := ⟨_, rfl⟩
  obtain ⟨C, hCd⟩ : ∃ C, C = foC (lfP n kd sg br G x L a) ((n + 1) ^ L) := ⟨_, rfl⟩
  rw [← hCd] at hC c5
  rw [← hBd] at c6
  obtain ⟨s2, hs2⟩ : ∃ s, s = sw_setC (sw_setJ (sw_setJ s1 0 15 (lN C)) 0 16 (lN 1)) 0 14 B := ⟨_, rfl⟩
  have e2 : ∀ b, b ≠ 0 → s2.1 b = s1.1 b := fun b hb => by rw [hs2, gsC_ne _ _ _ hb, gsJ1, gsJ1]
  have H2 : HR s2 n kd sg br fw ff G x := H.c (fun b hb => by
    have := (by decide : ∀ a, a ∈ [15, 16, 17, 18, 19, 65, 66, 67] → a ≠ 0 ∧ a ∉ [54, 55, 56]) b hb
    rw [e2 b this.1, c1 b this.2]) (by rw [e2 63 (by decide), c1 63 (by decide)]) (fun i hi => by rw [e2 64 (by decide), c1 64 (by decide)])
  obtain ⟨s3, j3, -, l10, l11, hr⟩ := least6 (F := F) hF H2 hL ha
  rw [← hBd] at j3
  rw [← hCd] at l10
  refine ⟨1, s2, sw_setC s3 63 9 B, ?_, ?_, ?_⟩
  · rw [size5_y hL, bo_some, if_neg (by decide), dial5_y ha, bo_some, if_neg (by decide), H.hc.1, if_neg n0, j1, bd_some, c5, nI_L hC, show (1 : Int64) = lN 1 from rfl, tell5 hF hC (by decide), bd_some, g_one, Nat.div_one, Nat.div_one, nm_eq, gsJ1, gsJ1, c6, ← hs2]
  · rw [in6_5y hL, bo_some, if_neg (by decide), in6_11y ha, bo_some, if_neg (by decide), H2.hm.1.1, if_neg n0, j3, bd_some, nm_eq]
  · have e63 : ∀ i, i ≠ 9 → i < 23 → (sw_setC s3 63 9 B).1 63 i = st.1 63 i := fun i h1 h2 => by rw [gsC, if_neg (by omega), hr.2.1 i (by omega), e2 63 (by decide), c1 63 (by decide)]
    have e0 : (sw_setC s3 63 9 B).1 0 = s2.1 0 := by rw [gsC_ne _ _ _ (by decide), hr.1 0 (by decide) (by decide)]
    refine II_scr hI (fun b hb => ?_) ?_ ?_ (e63 1 (by decide) (by decide)) (e63 12 (by decide) (by decide)) (fun i hi => ?_) ?_ ?_
    · have ha2 : b ≠ 0 ∧ b ≠ 63 ∧ b ≠ 64 ∧ b ∉ [54, 55, 56] := by
        simp only [sN, List.mem_cons, not_or, List.mem_nil_iff, or_false] at hb ⊢
        omega
      rw [gsC_ne _ _ _ ha2.2.1, hr.1 b ha2.2.1 ha2.2.2.1, e2 b ha2.1, c1 b ha2.2.2.2]
    · rw [e0, hs2, gsC, if_neg (by decide), gsJ1, gsJ1, c1 0 (by decide)]
    · rw [e0, hs2, gsC, if_pos ⟨rfl, rfl⟩, gsC, if_pos ⟨rfl, rfl⟩]
    · rw [gsC_ne _ _ _ (by decide), hr.2.2.1 i hi, e2 64 (by decide), c1 64 (by decide)]
    · show s3.2.1 0 15 = s3.2.1 63 10
      rw [hr.2.2.2 0 15 (by decide), l10, hs2]
      show (sw_setJ (sw_setJ s1 0 15 (lN C)) 0 16 (lN 1)).2.1 0 15 = _
      rw [gsJ, if_neg (by decide), gsJ, if_pos ⟨rfl, rfl⟩]
    · show s3.2.1 0 16 = s3.2.1 63 11
      rw [hr.2.2.2 0 16 (by decide), l11, hs2]
      show (sw_setJ (sw_setJ s1 0 15 (lN C)) 0 16 (lN 1)).2.1 0 16 = _
      rw [gsJ, if_pos ⟨rfl, rfl⟩]
