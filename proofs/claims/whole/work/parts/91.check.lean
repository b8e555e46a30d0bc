/-- the first false pair of a book -/
def pw_fp (n : Nat) (kd sg : Nat → Nat) (G : Nat) (it : Nat → Int32) : Nat → Nat → pw_D → Int32
  | 0, _, _ => -9
  | k + 1, i, x => if x.2.2.2.2.testBit (it (2 * i)).toNatClampNeg then nI i else if nI (pw_cm n kd sg G (it (2 * i)).toNatClampNeg x).1 = it (2 * i + 1) then pw_fp n kd sg G it k (i + 1) (pw_cm n kd sg G (it (2 * i)).toNatClampNeg x) else nI i
theorem fp_s (n : Nat) (kd sg : Nat → Nat) (G : Nat) (it : Nat → Int32) (k i : Nat) (x : pw_D) : pw_fp n kd sg G it (k + 1) i x = if x.2.2.2.2.testBit (it (2 * i)).toNatClampNeg then nI i else if nI (pw_cm n kd sg G (it (2 * i)).toNatClampNeg x).1 = it (2 * i + 1) then pw_fp n kd sg G it k (i + 1) (pw_cm n kd sg G (it (2 * i)).toNatClampNeg x) else nI i := rfl
def inR (n : Nat) (a : Int32) : Prop := 0 ≤ a.toInt ∧ a.toInt < (n : Int)
theorem o_35 {F : Nat} (hF : 20000 ≤ F) : sm_35 II F := by
  intro a1 st hI
  obtain ⟨n, kd, sg, br, fw, ff, G, x, H⟩ := II_HR hI
  have hn := H.hv.1
  rcases nix a1 6 with h | ⟨r, hr, rfl⟩
  · refine ⟨-1, st, st, ?_, ?_, hI⟩
    · unfold j_X5_check
      rw [isRow5_n h]; rfl
    · unfold j_X6_check
      rw [isRow6_n h]; rfl
  by_cases h0 : n = 0
  · refine ⟨-4, st, st, ?_, ?_, hI⟩
    · unfold j_X5_check
      rw [isRow5_y hr, bo_some, if_neg (by decide), H.hc.1, if_pos ((n0_iff hn).mpr h0)]
    · unfold j_X6_check
      rw [isRow6_y hr, bo_some, if_neg (by decide), H.hm.1.1, if_pos ((n0_iff hn).mpr h0)]
  have n0 : ¬ nI n = 0 := fun z => h0 ((n0_iff hn).mp z)
  have fdc : ∀ f a i, a ≠ 0 → a ≠ 62 → (fd5 st f).1 a i = st.1 a i := fun f a i h1 h2 => fd5_o h1 h2
  rcases IR_size hI hr with ⟨z1, z2⟩ | ⟨m, hm, z1, z2, hit⟩
  · refine ⟨-3, fd5 st 1, fd6 (fd5 st 1) 1, ?_, ?_, II_fd hI (by decide)⟩
    · unfold j_X5_check
      rw [isRow5_y hr, bo_some, if_neg (by decide), H.hc.1, if_neg n0, bnd_nI hr (by decide), nI_clamp (by omega), z1]
      simp only [nm]
      rw [if_neg (by decide), show (1 : Int32) = nI 1 from rfl, found5 (by decide)]
      rfl
    · unfold j_X6_check
      rw [isRow6_y hr, bo_some, if_neg (by decide), fdc _ _ _ (by decide) (by decide), H.hm.1.1, if_neg n0, bnd_nI hr (by decide), nI_clamp (by omega), fdc _ _ _ (by decide) (by decide), z2, if_neg (by decide), show j_X6_find F 1 (fd5 st 1) = some (-3, fd6 (fd5 st 1) 1) from find6 (by decide)]
      rfl
  have hmod : nI m - nI m / 2 * 2 = nI (m % 2) := pk_rem (by omega) (by decide) (by decide)
  have hge : (0 : Int32) ≤ nI m := nI_le (a := 0) (by omega) (by omega)
  by_cases hev : m % 2 = 0
  case neg =>
    have hne : ¬ nI (m % 2) = 0 := fun z => hev ((nI_eq (b := 0) (by omega) (by decide)).mp z)
    refine ⟨-3, fd5 st 5, fd6 (fd5 st 5) 5, ?_, ?_, II_fd hI (by decide)⟩
    · unfold j_X5_check
      rw [isRow5_y hr, bo_some, if_neg (by decide), H.hc.1, if_neg n0, bnd_nI hr (by decide), nI_clamp (by omega), z1]
      simp only [nm]
      rw [if_pos hge, hmod, if_neg hne, show (5 : Int32) = nI 5 from rfl, found5 (by decide)]
      rfl
    · unfold j_X6_check
      rw [isRow6_y hr, bo_some, if_neg (by decide), fdc _ _ _ (by decide) (by decide), H.hm.1.1, if_neg n0, bnd_nI hr (by decide), nI_clamp (by omega), fdc _ _ _ (by decide) (by decide), z2, if_pos hge, bnd_nI hr (by decide), hmod, if_neg hne, show j_X6_find F 5 (fd5 st 5) = some (-3, fd6 (fd5 st 5) 5) from find6 (by decide)]
      rfl
  obtain ⟨M, rfl⟩ : ∃ M, m = 2 * M := ⟨m / 2, by omega⟩
  obtain ⟨it, hitd⟩ : ∃ it : Nat → Int32, it = st.1 (2 + r) := ⟨_, rfl⟩
  rw [← hitd] at hit
  have heq0 : nI (2 * M % 2) = 0 := by rw [hev]; rfl
  have hdiv : nI (2 * M) / 2 = nI M := by
    rw [show (2 : Int32) = nI 2 from rfl, pk_div (by omega) (by decide) (by decide)]
    congr 1
    omega
  obtain ⟨R, hR⟩ : ∃ R, R = pw_fp n kd sg G it M 0 x := ⟨_, rfl⟩
  have C5 : ((¬ ∀ i, i < M → inR n (it (2 * i))) ∧ j_X5_check F (nI r) st = some (-3, fd5 st 3)) ∨ ((∀ i, i < M → inR n (it (2 * i))) ∧ j_X5_check F (nI r) st = some (R, st)) := by
    unfold j_X5_check
    rw [isRow5_y hr, bo_some, if_neg (by decide), H.hc.1, if_neg n0, bnd_nI hr (by decide), nI_clamp (by omega), z1]
    simp only [nm]
    rw [if_pos hge, hmod, heq0, if_pos rfl, hdiv]
    refine lz1_ind (Φ := fun o => ((¬ ∀ i, i < M → inR n (it (2 * i))) ∧ o = some (-3, fd5 st 3)) ∨ ((∀ i, i < M → inR n (it (2 * i))) ∧ o = some (R, st))) (fun i => 100 - i.toNatClampNeg) (fun c => ∃ k, k ≤ M ∧ c = nI (2 * k) ∧ ∀ i, i < k → inR n (it (2 * i))) (fun g c hq ih => ?_) F 0 ⟨0, by omega, rfl, fun i hi => absurd hi (Nat.not_lt_zero i)⟩ (by show 100 - 0 < F; omega)
    obtain ⟨k, hk, rfl, hall⟩ := hq
    rcases Nat.lt_or_ge k M with q | q
    · rw [if_neg (show ¬ nI (2 * M) ≤ nI (2 * k) from nI_ge (by omega) (by omega)), bnd_nI hr (by decide), bnd_nI (show 2 * k < 40 by omega) (by decide), nI_clamp (show 2 * k < 2 ^ 31 by omega), ← hitd, has5_if H.hc.1 hn, bo_some]
      by_cases hin : inR n (it (2 * k))
      · rw [if_pos (show 0 ≤ (it (2 * k)).toInt ∧ (it (2 * k)).toInt < (n : Int) from hin), if_neg (by decide), show nI (2 * k) + 2 = nI (2 * (k + 1)) from nI_add (2 * k) 2]
        exact ih _ ⟨k + 1, q, rfl, fun i hi => by
          by_cases e : i = k
          · rw [e]; exact hin
          · exact hall i (by omega)⟩ (by rw [nI_clamp (by omega), nI_clamp (by omega)]; omega)
      · rw [if_neg (show ¬ (0 ≤ (it (2 * k)).toInt ∧ (it (2 * k)).toInt < (n : Int)) from hin), if_pos rfl, show (3 : Int32) = nI 3 from rfl, found5 (by decide)]
        exact Or.inl ⟨fun z => hin (z k q), rfl⟩
    · have e : k = M := by omega
      subst e
      rw [if_pos (show nI (2 * k) ≤ nI (2 * k) from nI_le (Nat.le_refl _) (by omega)), bnd_nI hr (by decide)]
      refine Or.inr ⟨hall, ?_⟩
      have : j_X5_firstFalsePair F (2 + r) (nI k) st = some R := by
        unfold j_X5_firstFalsePair
        simp only [nm]
        rw [H.hr.1, H.hr.2.2.2.2, r6 hr, ← hitd]
        refine lz3_ind (Φ := fun o => o = some R) (fun _ _ i => 100 - i.toNatClampNeg) (fun a b c => ∃ i y, i ≤ k ∧ c = nI i ∧ a = nI y.1 ∧ b = nI y.2.2.2.2 ∧ okx n y ∧ pw_fp n kd sg G it (k - i) i y = R) (fun g a b c hq ih => ?_) F _ _ _ ⟨0, x, by omega, rfl, rfl, rfl, H.hx, hR.symm⟩ (by show 100 - 0 < F; omega)
        obtain ⟨i, y, hi, rfl, rfl, rfl, hy, hfp⟩ := hq
        rcases Nat.lt_or_ge i k with q | q
        · obtain ⟨j, hj, e⟩ := item_nI (hall i q) (by omega)
          have hsy := ok64 hn hy.2.2.2.2
          have e2 : (2 : Int32) * nI i = nI (2 * i) := by rw [show (2 : Int32) = nI 2 from rfl, pk_mul]
          have hs1 : pw_fp n kd sg G it (k - i) i y = if y.2.2.2.2.testBit j then nI i else if nI (pw_cm n kd sg G j y).1 = it (2 * i + 1) then pw_fp n kd sg G it (k - (i + 1)) (i + 1) (pw_cm n kd sg G j y) else nI i := by
            rw [show k - i = (k - (i + 1)) + 1 by omega]
            rw [fp_s, e, nI_clamp (by omega)]
          rw [hs1] at hfp
          rw [if_neg (show ¬ nI k ≤ nI i from nI_ge q (by omega)), e2, bnd_nI (show 2 * i < 40 by omega) (by decide), nI_clamp (show 2 * i < 2 ^ 31 by omega), e, b_get hsy (by omega), woundBy5 hF H.hv H.hc hj hy.1 hsy, bo_some, b_one (by omega), b_or hsy (by omega), nI_1, bnd_nI (show 2 * i + 1 < 40 by omega) (by decide), nI_clamp (show 2 * i + 1 < 2 ^ 31 by omega), nI_1]
          cases hb : y.2.2.2.2.testBit j
          · rw [hb, if_neg (show ¬ false = true by decide)] at hfp
            rw [if_neg (by decide)]
            by_cases z : nI (pw_cm n kd sg G j y).1 = it (2 * i + 1)
            · rw [if_pos z] at hfp
              rw [if_pos (show nI (pw_com n kd sg G j y.1 y.2.2.2.2) = it (2 * i + 1) from z)]
              exact ih _ _ _ ⟨i + 1, pw_cm n kd sg G j y, q, rfl, rfl, rfl, cm_ok H.hv hj hy, hfp⟩ (by rw [nI_clamp (by omega), nI_clamp (by omega)]; omega)
            · rw [if_neg z] at hfp
              rw [if_neg (show ¬ nI (pw_com n kd sg G j y.1 y.2.2.2.2) = it (2 * i + 1) from z), hfp]
          · rw [hb, if_pos rfl] at hfp
            rw [if_pos (by decide), hfp]
        · have e : i = k := by omega
          subst e
          rw [Nat.sub_self] at hfp
          rw [if_pos (show nI i ≤ nI i from nI_le (Nat.le_refl i) (by omega)), ← hfp]
          rfl
      rw [this]
      rfl
  have C6 : ∀ s : sw_St, HR s n kd sg br fw ff G x → s.1 68 r = nI (2 * M) → (∀ i, i < 2 * M → s.1 69 (40 * r + i) = it i) → ((¬ ∀ i, i < M → inR n (it (2 * i))) ∧ j_X6_check F (nI r) s = some (-3, fd6 s 3)) ∨ ((∀ i, i < M → inR n (it (2 * i))) ∧ ∃ s2, j_X6_check F (nI r) s = some (R, s2) ∧ tri s s2) := by
    intro s Hs z2 hit
    unfold j_X6_check
    rw [isRow6_y hr, bo_some, if_neg (by decide), Hs.hm.1.1, if_neg n0, bnd_nI hr (by decide), nI_clamp (show r < 2 ^ 31 by omega), z2, if_pos hge, bnd_nI hr (by decide), hmod, heq0, if_pos rfl]
    have e40 : (40 : Int32) * nI r = nI (40 * r) := by rw [show (40 : Int32) = nI 40 from rfl, pk_mul]
    rw [e40]
    refine lz1_ind (Φ := fun o => ((¬ ∀ i, i < M → inR n (it (2 * i))) ∧ o = some (-3, fd6 s 3)) ∨ ((∀ i, i < M → inR n (it (2 * i))) ∧ ∃ s2, o = some (R, s2) ∧ tri s s2)) (fun i => 100 - i.toNatClampNeg) (fun c => ∃ k, k ≤ M ∧ c = nI (2 * k) ∧ ∀ i, i < k → inR n (it (2 * i))) (fun g c hq ih => ?_) F 0 ⟨0, by omega, rfl, fun i hi => absurd hi (Nat.not_lt_zero i)⟩ (by show 100 - 0 < F; omega)
    obtain ⟨k, hk, rfl, hall⟩ := hq
    rw [bnd_nI hr (by decide)]
    rcases Nat.lt_or_ge k M with q | q
    · rw [if_neg (show ¬ nI (2 * M) ≤ nI (2 * k) from nI_ge (by omega) (by omega)), nI_add, bnd_nI (show 40 * r + 2 * k < 240 by omega) (by decide), nI_clamp (show 40 * r + 2 * k < 2 ^ 31 by omega), hit (2 * k) (by omega), isS6_if Hs.hm.1.1 hn, bo_some]
      by_cases hin : inR n (it (2 * k))
      · rw [if_pos (show 0 ≤ (it (2 * k)).toInt ∧ (it (2 * k)).toInt < (n : Int) from hin), if_neg (by decide)]
        simp only [nm]
        rw [show nI (2 * k) + 2 = nI (2 * (k + 1)) from nI_add (2 * k) 2]
        exact ih _ ⟨k + 1, q, rfl, fun i hi => by
          by_cases e : i = k
          · rw [e]; exact hin
          · exact hall i (by omega)⟩ (by rw [nI_clamp (by omega), nI_clamp (by omega)]; omega)
      · rw [if_neg (show ¬ (0 ≤ (it (2 * k)).toInt ∧ (it (2 * k)).toInt < (n : Int)) from hin), if_pos rfl, show (3 : Int32) = nI 3 from rfl, find6 (by decide)]
        exact Or.inl ⟨fun z => hin (z k q), rfl⟩
    · have e : k = M := by omega
      subst e
      obtain ⟨s9, j9, t9, a9⟩ := lay6 (F := F) hF Hs.ht
      rw [if_pos (show nI (2 * k) ≤ nI (2 * k) from nI_le (Nat.le_refl _) (by omega)), j9, bd_some]
      refine Or.inr ⟨hall, ?_⟩
      refine lz2_ind (Φ := fun o => ∃ s2 : sw_St, o = some (R, s2) ∧ tri s s2) (fun i _ => 100 - i.toNatClampNeg) (fun c s' => ∃ i y, i ≤ k ∧ c = nI (2 * i) ∧ TR s' 828 y ∧ okx n y ∧ pw_fp n kd sg G it (k - i) i y = R ∧ tri s s') (fun g c s' hq ih => ?_) F _ _ ⟨0, x, by omega, rfl, t9, H.hx, hR.symm, a9⟩ (by show 100 - 0 < F; omega)
      obtain ⟨i, y, hi, rfl, ty, hy, hfp, hs'⟩ := hq
      rw [bnd_nI hr (by decide), hs'.1 68 (by decide), z2]
      rcases Nat.lt_or_ge i k with q | q
      · obtain ⟨j, hj, e⟩ := item_nI (hall i q) (by omega)
        have hsy := ok64 hn hy.2.2.2.2
        have hs1 : pw_fp n kd sg G it (k - i) i y = if y.2.2.2.2.testBit j then nI i else if nI (pw_cm n kd sg G j y).1 = it (2 * i + 1) then pw_fp n kd sg G it (k - (i + 1)) (i + 1) (pw_cm n kd sg G j y) else nI i := by
          rw [show k - i = (k - (i + 1)) + 1 by omega]
          rw [fp_s, e, nI_clamp (by omega)]
        rw [hs1] at hfp
        have hdi : nI (2 * i) / 2 = nI i := by
          rw [show (2 : Int32) = nI 2 from rfl, pk_div (by omega) (by decide) (by decide)]
          congr 1
          omega
        obtain ⟨s3, j3, t3, a3⟩ := comesIn6 (b := 828) (i := j) hF H.hv (mS_tri hs' Hs.hm) H.hG (Or.inr rfl) hj hy ty
        rw [if_neg (show ¬ nI (2 * k) ≤ nI (2 * i) from nI_ge (by omega) (by omega)), nI_add, bnd_nI (show 40 * r + 2 * i < 240 by omega) (by decide), nI_clamp (show 40 * r + 2 * i < 2 ^ 31 by omega), hs'.1 69 (by decide), hit (2 * i) (by omega), e]
        simp only [nm]
        rw [show (828 : Int32) = nI 828 from rfl, isIn6 (b := 828) ty.2.2.2.2 (by omega) hsy (by omega), bo_some, j3, bd_some, nI_1, bnd_nI (show 40 * r + 2 * i + 1 < 240 by omega) (by decide), nI_clamp (show 40 * r + 2 * i + 1 < 2 ^ 31 by omega), a3.1 69 (by decide), hs'.1 69 (by decide), Nat.add_assoc, hit (2 * i + 1) (by omega), show s3.1 64 829 = nI _ from t3.1, hdi]
        cases hb : y.2.2.2.2.testBit j
        · rw [hb, if_neg (show ¬ false = true by decide)] at hfp
          rw [if_neg (show ¬ false = true by decide), if_pos rfl]
          by_cases z : nI (pw_cm n kd sg G j y).1 = it (2 * i + 1)
          · rw [if_pos z] at hfp
            rw [if_pos z, show nI (2 * i) + 2 = nI (2 * (i + 1)) from nI_add (2 * i) 2]
            exact ih _ _ ⟨i + 1, pw_cm n kd sg G j y, q, rfl, t3, cm_ok H.hv hj hy, hfp, hs'.tr a3.tri⟩ (by rw [nI_clamp (by omega), nI_clamp (by omega)]; omega)
          · rw [if_neg z] at hfp
            rw [if_neg z, hfp]
            exact ⟨s3, rfl, hs'.tr a3.tri⟩
        · rw [hb, if_pos rfl] at hfp
          rw [if_pos (show true = true from rfl), if_neg (show ¬ (1 : Int32) = 0 by decide), hfp]
          exact ⟨s', rfl, hs'⟩
      · have e : i = k := by omega
        subst e
        rw [Nat.sub_self] at hfp
        rw [if_pos (show nI (2 * i) ≤ nI (2 * i) from nI_le (Nat.le_refl _) (by omega)), ← hfp]
        exact ⟨s', rfl, hs'⟩
  rcases C5 with ⟨hno, e5⟩ | ⟨hyes, e5⟩
  · have Hf : HR (fd5 st 3) n kd sg br fw ff G x := H.c (fun b hb => by
      have := (by decide : ∀ a, a ∈ [15, 16, 17, 18, 19, 65, 66, 67] → a ≠ 0 ∧ a ≠ 62) b hb
      funext i
      exact fdc _ _ _ this.1 this.2) (fdc _ _ _ (by decide) (by decide)) (fun i hi => fdc _ _ _ (by decide) (by decide))
    rcases C6 (fd5 st 3) Hf (by rw [fdc _ _ _ (by decide) (by decide)]; exact z2) (fun i hi => by rw [fdc _ _ _ (by decide) (by decide)]; exact (hit i hi).symm) with ⟨-, e6⟩ | ⟨hy, -⟩
    · exact ⟨-3, fd5 st 3, fd6 (fd5 st 3) 3, e5, e6, II_fd hI (by decide)⟩
    · exact absurd hy hno
  · rcases C6 st H z2 (fun i hi => (hit i hi).symm) with ⟨hno, -⟩ | ⟨-, s2, e6, a6⟩
    · exact absurd hyes hno
    · exact ⟨R, st, s2, e5, e6, II_tri hI a6⟩
