theorem pred1 (k : Nat) : nI k + (-1) + 1 = nI k := by
  rw [Int32.add_assoc, show (-1 : Int32) + 1 = 0 from rfl, Int32.add_zero]
theorem g_one (a : Nat) : pw_g a 1 = 1 := by
  unfold pw_g
  rw [Nat.gcd_one_right]
  rfl
theorem first_eq {P : Nat → Bool} {t : Int32} (h : (∃ S, 0 ≤ S ∧ S < 64 ∧ P S = true ∧ (∀ T, 0 ≤ T → T < S → P T = false) ∧ t = nI S) ∨ ((∀ S, 0 ≤ S → S < 64 → P S = false) ∧ t = -9)) : t = foF P 64 := by
  rcases foF_C P (Nat.le_refl 64) with ⟨-, h2, h3⟩ | ⟨-, S', h2, h3, h4, h5⟩
  · rcases h with ⟨S, -, a2, a3, -, -⟩ | ⟨-, e⟩
    · rw [h3 S a2] at a3
      exact absurd a3 (by decide)
    · rw [e, h2]
  · rcases h with ⟨S, -, a2, a3, a4, a5⟩ | ⟨a1, -⟩
    · have : S = S' := by
        rcases Nat.lt_trichotomy S S' with q | q | q
        · rw [h4 S q] at a3; exact absurd a3 (by decide)
        · exact q
        · rw [a4 S' (by omega) q] at h3; exact absurd h3 (by decide)
      rw [a5, h5, this]
    · rw [a1 S' (by omega) h2] at h3
      exact absurd h3 (by decide)
theorem o_28 {F : Nat} (hF : 20000 ≤ F) : sm_28 II F := by
  intro a1 st hI
  obtain ⟨n, kd, sg, br, fw, ff, G, x, H⟩ := II_HR hI
  have hn := H.hv.1
  unfold j_X5_fits j_X6_fits
  rcases nix a1 11 with h | ⟨a, ha, rfl⟩
  · exact ⟨-1, st, st, by rw [strike5_n h]; rfl, by rw [in6_10n h]; rfl, hI⟩
  by_cases h0 : n = 0
  · exact ⟨-4, st, st, by rw [strike5_y (by omega), bo_some, if_neg (by decide), H.hc.1, if_pos ((n0_iff hn).mpr h0)], by rw [in6_10y (by omega), bo_some, if_neg (by decide), H.hm.1.1, if_pos ((n0_iff hn).mpr h0)], hI⟩
  have n0 : ¬ nI n = 0 := fun z => h0 ((n0_iff hn).mp z)
  obtain ⟨s1, j1, t1, c1, z1⟩ := search5 (a := a) hF H.hv H.hc H.hr H.hx (by omega)
  have hC := foC_le (pw_fit n kd sg G x a) 64
  obtain ⟨s2, hs2⟩ : ∃ s, s = sw_setC (sw_setJ (sw_setJ s1 0 15 (lN (foC (pw_fit n kd sg G x a) 64))) 0 16 (lN 1)) 0 14 (foF (pw_fit n kd sg G x a) 64) := ⟨_, rfl⟩
  have e2 : ∀ b, b ≠ 0 → s2.1 b = s1.1 b := fun b hb => by rw [hs2, gsC_ne _ _ _ hb, gsJ1, gsJ1]
  have H2 : HR s2 n kd sg br fw ff G x := H.c (fun b hb => by
    have := (by decide : ∀ a, a ∈ [15, 16, 17, 18, 19, 65, 66, 67] → a ≠ 0 ∧ a ∉ [60, 61]) b hb
    rw [e2 b this.1, c1 b this.2]) (by rw [e2 63 (by decide), c1 63 (by decide)]) (fun i hi => by rw [e2 64 (by decide), c1 64 (by decide)])
  obtain ⟨s3, j3, p3, f3⟩ := layFits6 (a := a) hF H2.hv H2.hm H2.hG H2.hx (by have := H2.hx3; omega) H2.ht (by omega)
  generalize hP : pw_fit n kd sg G x a = P at *
  obtain ⟨s4, hs4⟩ : ∃ s, s = sw_setC (sw_setJ (sw_setJ s3 63 10 (lN (foC P 64))) 63 11 (lN 1)) 63 9 (-9) := ⟨_, rfl⟩
  suffices hs : ∃ s5, lz2 (fun f13 (x11 : Int32) (s12 : sw_St) => (if x11 < 0 then ( some ((1 : Int32), s12)) else ( bnd x11 64 ( jn (fun (x17 : Int32) =>  nm (sw_setC s12 63 9 x17) (fun (s20 : sw_St) => nm (x11 + (-1)) (fun (x21 : Int32) => f13 x21 s20))) (fun k18 => (if (s12.1 75 (x11 : Int32).toNatClampNeg) = 0 then ( k18 (s12.1 63 9)) else ( k18 x11))))))) F 63 s4 = some (1, s5) ∧ (∀ b, b ≠ 63 → s5.1 b = s4.1 b) ∧ (∀ i, i ≠ 9 → s5.1 63 i = s4.1 63 i) ∧ s5.2 = s4.2 ∧ s5.1 63 9 = foF P 64 by
    obtain ⟨s5, j5, q1, q2, q3, q4⟩ := hs
    refine ⟨1, s2, s5, ?_, ?_, ?_⟩
    · rw [strike5_y (by omega), bo_some, if_neg (by decide), H.hc.1, if_neg n0, j1, bd_some, t1.1, nI_L (by omega), show (1 : Int64) = lN 1 from rfl, tell5 hF (by omega) (by decide), bd_some, g_one, Nat.div_one, Nat.div_one]
      simp only [nm]
      rw [gsJ1, gsJ1, t1.2.1, ← hs2]
    · rw [in6_10y (by omega), bo_some, if_neg (by decide), H2.hm.1.1, if_neg n0, j3, bd_some, nI_L (by omega)]
      simp only [nm]
      rw [show (1 : Int64) = lN 1 from rfl, ← hs4]
      exact j5
    · have ez : ∀ b, b ≠ 63 → s4.1 b = s3.1 b := fun b hb => by rw [hs4, gsC_ne _ _ _ hb, gsJ1, gsJ1]
      have ez9 : ∀ i, i ≠ 9 → s4.1 63 i = s3.1 63 i := fun i hi => by rw [hs4, gsC, if_neg (by omega), gsJ1, gsJ1]
      have e0 : s5.1 0 = s2.1 0 := by rw [q1 0 (by decide), ez 0 (by decide), f3.1 0 (by decide) (by decide)]
      have e63 : ∀ i, i ≠ 9 → s5.1 63 i = st.1 63 i := fun i hi => by rw [q2 i hi, ez9 i hi, f3.1 63 (by decide) (by decide), e2 63 (by decide), c1 63 (by decide)]
      have ej : ∀ b i, s5.2.1 b i = if b = 63 ∧ i = 11 then lN 1 else if b = 63 ∧ i = 10 then lN (foC P 64) else if b = 0 ∧ i = 16 then lN 1 else if b = 0 ∧ i = 15 then lN (foC P 64) else st.2.1 b i := fun b i => by
        rw [q3, hs4]
        show (sw_setJ (sw_setJ s3 63 10 (lN (foC P 64))) 63 11 (lN 1)).2.1 b i = _
        rw [gsJ, gsJ, f3.2.2, hs2]
        show (if b = 63 ∧ i = 11 then lN 1 else if b = 63 ∧ i = 10 then lN (foC P 64) else (sw_setJ (sw_setJ s1 0 15 (lN (foC P 64))) 0 16 (lN 1)).2.1 b i) = _
        rw [gsJ, gsJ, z1]
      refine II_scr hI (fun b hb => ?_) ?_ ?_ (e63 1 (by decide)) (e63 12 (by decide)) (fun i hi => ?_) ?_ ?_
      · have ha2 : b ≠ 0 ∧ b ≠ 63 ∧ b ≠ 64 ∧ b ≠ 75 ∧ b ∉ [60, 61] := by
          simp only [sN, List.mem_cons, not_or, List.mem_nil_iff, or_false] at hb ⊢
          omega
        rw [q1 b ha2.2.1, ez b ha2.2.1, f3.1 b ha2.2.2.1 ha2.2.2.2.1, e2 b ha2.1, c1 b ha2.2.2.2.2]
      · rw [e0, hs2, gsC, if_neg (by decide), gsJ1, gsJ1, c1 0 (by decide)]
      · rw [e0, hs2, gsC, if_pos ⟨rfl, rfl⟩, q4]
      · rw [q1 64 (by decide), ez 64 (by decide), f3.2.1 i hi, e2 64 (by decide), c1 64 (by decide)]
      · rw [ej, ej]; ((try simp only [true_and, and_true, if_true]); repeat (first | rw [if_pos (by omega)] | rw [if_neg (by omega)]))
      · rw [ej, ej]; ((try simp only [true_and, and_true, if_true]); repeat (first | rw [if_pos (by omega)] | rw [if_neg (by omega)]))
  have e75 : ∀ S, S < 64 → s4.1 75 S = if P S then 1 else 0 := fun S hS => by
    rw [hs4, gsC_ne _ _ _ (by decide), gsJ1, gsJ1]
    exact p3 S hS
  refine lz2_ind (Φ := fun o => ∃ s5 : sw_St, o = some (1, s5) ∧ (∀ b, b ≠ 63 → s5.1 b = s4.1 b) ∧ (∀ i, i ≠ 9 → s5.1 63 i = s4.1 63 i) ∧ s5.2 = s4.2 ∧ s5.1 63 9 = foF P 64) (fun i _ => (i + 1).toNatClampNeg) (fun c s => ∃ k, k ≤ 64 ∧ c = nI k + (-1) ∧ ((∃ S, k ≤ S ∧ S < 64 ∧ P S = true ∧ (∀ T, k ≤ T → T < S → P T = false) ∧ s.1 63 9 = nI S) ∨ ((∀ S, k ≤ S → S < 64 → P S = false) ∧ s.1 63 9 = -9)) ∧ (∀ b, b ≠ 63 → s.1 b = s4.1 b) ∧ (∀ i, i ≠ 9 → s.1 63 i = s4.1 63 i) ∧ s.2 = s4.2) (fun g c s hq ih => ?_) F 63 s4 ⟨64, by omega, rfl, Or.inr ⟨fun S h1 h2 => by omega, by rw [hs4, gsC, if_pos ⟨rfl, rfl⟩]⟩, fun _ _ => rfl, fun _ _ => rfl, rfl⟩ (by show 64 < F; omega)
  obtain ⟨k, hk, rfl, hf, q1, q2, q3⟩ := hq
  cases k with
  | zero =>
    rw [if_pos (by decide)]
    exact ⟨s, rfl, q1, q2, q3, first_eq hf⟩
  | succ k =>
    rw [pk_m1, if_neg (show ¬ nI k < 0 from nI_pos (by omega)), bnd_nI (by omega) (by decide), nI_clamp (by omega), q1 75 (by decide), e75 k (by omega)]
    simp only [jn, nm]
    have fin : ∀ w, ((∃ S, k ≤ S ∧ S < 64 ∧ P S = true ∧ (∀ T, k ≤ T → T < S → P T = false) ∧ w = nI S) ∨ ((∀ S, k ≤ S → S < 64 → P S = false) ∧ w = -9)) → ∃ s5 : sw_St, g (nI k + (-1)) (sw_setC s 63 9 w) = some (1, s5) ∧ (∀ b, b ≠ 63 → s5.1 b = s4.1 b) ∧ (∀ i, i ≠ 9 → s5.1 63 i = s4.1 63 i) ∧ s5.2 = s4.2 ∧ s5.1 63 9 = foF P 64 := fun w hw => by
      refine ih _ _ ⟨k, by omega, rfl, by rw [gsC, if_pos ⟨rfl, rfl⟩]; exact hw, fun b hb => by rw [gsC_ne _ _ _ hb]; exact q1 b hb, fun i hi => by rw [gsC, if_neg (by omega)]; exact q2 i hi, q3⟩ ?_
      rw [pred1, pk_m1, nI_1, nI_clamp (by omega), nI_clamp (by omega)]
      omega
    cases hPk : P k
    · rw [if_neg (show ¬ false = true by decide), if_pos rfl]
      refine fin _ ?_
      rcases hf with ⟨S, a1, a2, a3, a4, a5⟩ | ⟨a1, a2⟩
      · refine Or.inl ⟨S, by omega, a2, a3, fun T h1 h2 => ?_, a5⟩
        by_cases e : T = k
        · rw [e, hPk]
        · exact a4 T (by omega) h2
      · refine Or.inr ⟨fun S h1 h2 => ?_, a2⟩
        by_cases e : S = k
        · rw [e, hPk]
        · exact a1 S (by omega) h2
    · rw [if_pos (show true = true from rfl), if_neg (show ¬ (1 : Int32) = 0 by decide)]
      exact fin _ (Or.inl ⟨k, by omega, by omega, hPk, fun T h1 h2 => by omega, rfl⟩)
