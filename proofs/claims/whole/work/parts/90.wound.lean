theorem gk_item {n s0 : Nat} {al : Bool} {it : Nat → Int32} {k m s : Nat} (hn : n ≤ 6) (h : pw_gk n s0 al it m = some s) (hk : k < m) : (al = true ∧ it k = -9) ∨ ∃ j, j < n ∧ it k = nI j := by
  obtain ⟨s1, h1⟩ := gk_some h (show k + 1 ≤ m by omega)
  obtain ⟨s2, h2⟩ := gk_some h (show k ≤ m by omega)
  have h3 : (if al = true ∧ it k = -9 then some s2 else if (0 ≤ (it k).toInt ∧ (it k).toInt < (n : Int)) ∧ s2.testBit (it k).toNatClampNeg = false then some (pw_set s2 (it k).toNatClampNeg) else none) = some s1 := by
    have : pw_gk n s0 al it (k + 1) = some s1 := h1
    unfold pw_gk at this
    rw [h2] at this
    exact this
  split at h3
  · rename_i h4
    exact Or.inl h4
  · split at h3
    · rename_i h4
      exact Or.inr (item_nI h4.1 (by omega))
    · exact absurd h3 (by simp)
def pw_md (n : Nat) (kd sg : Nat → Nat) (G : Nat) (a : Int32) (x : pw_D) : pw_D := if a = -9 then x else pw_cm n kd sg G a.toNatClampNeg x
theorem md_9 {n G : Nat} {kd sg : Nat → Nat} {x : pw_D} : pw_md n kd sg G (-9) x = x := if_pos rfl
theorem nI_ne9 {j : Nat} (h : j < 1000) : ¬ nI j = -9 := by
  rw [i_eq, nI_tI (by omega)]
  show ¬ ((j : Nat) : Int) = -9
  omega
theorem md_j {n G j : Nat} {kd sg : Nat → Nat} {x : pw_D} (h : j < 1000) : pw_md n kd sg G (nI j) x = pw_cm n kd sg G j x := by
  unfold pw_md
  rw [if_neg (nI_ne9 h), nI_clamp (by omega)]
def pw_wk (n : Nat) (kd sg : Nat → Nat) (G : Nat) (it : Nat → Int32) (x : pw_D) : Nat → pw_D
  | 0 => x
  | k + 1 => pw_md n kd sg G (it k) (pw_wk n kd sg G it x k)
def pw_bs (bd : Nat → Nat) (it : Nat → Int32) : Nat → Nat
  | 0 => 0
  | k + 1 => pw_bs bd it k + bd (it k).toNatClampNeg
theorem o_21 {F : Nat} (hF : 20000 ≤ F) : sm_21 II F := by
  intro a1 st hI
  unfold j_X5_wound j_X6_wound
  rcases guests_pre (mx := 6) (al := false) (a1 := a1) hF (by decide) hI with ⟨r, s1, s2, hr0, j1, j2, h2⟩ | ⟨n, kd, sg, br, fw, ff, G, x, r, m, s, H, hn0, hr, rfl, hm, z1, z2, hit, hg, j1, hp⟩
  · exact ⟨r, s1, s2, by rw [show j_X5_refusedGuests F a1 6 0 st = some (r, s1) from j1, bd_some, if_neg hr0], j2 _, h2⟩
  have hn := H.hv.1
  obtain ⟨it, hitd⟩ : ∃ it : Nat → Int32, it = st.1 (2 + r) := ⟨_, rfl⟩
  rw [← hitd] at hg hit
  have hitem : ∀ k, k < m → ∃ j, j < n ∧ it k = nI j := fun k hk => by
    rcases gk_item hn hg hk with h | h
    · exact absurd h.1 (by decide)
    · exact h
  have hok : ∀ k, k ≤ m → okx n (pw_wk n kd sg G it x k) := fun k => by
    induction k with
    | zero => intro _; exact H.hx
    | succ k ih =>
      intro hk
      obtain ⟨j, hj, e⟩ := hitem k (by omega)
      show okx n (pw_md n kd sg G (it k) _)
      rw [e, md_j (by omega)]
      exact cm_ok H.hv hj (ih (by omega))
  have hfr : ∀ k, k ≤ m → (pw_wk n kd sg G it x k).2.2.2.1 = x.2.2.2.1 := fun k => by
    induction k with
    | zero => intro _; rfl
    | succ k ih =>
      intro hk
      obtain ⟨j, hj, e⟩ := hitem k (by omega)
      show (pw_md n kd sg G (it k) _).2.2.2.1 = _
      rw [e, md_j (by omega)]
      exact ih (by omega)
  obtain ⟨v, hv⟩ : ∃ v : Int32, v = nI (pw_bs br it m) := ⟨_, rfl⟩
  refine ⟨nI (pw_wk n kd sg G it x m).1, sw_setC st 0 14 v, ?_⟩
  suffices hsf : ∃ s2, bo (j_X6_isRow F (nI r) (sw_setC st 0 14 v)) (fun (r2 : Int32) => (if r2 = 0 then ( some (((-1) : Int32), (sw_setC st 0 14 v))) else ( bd (j_X6_noRow F (nI r) 6 0 (sw_setC st 0 14 v)) (fun (r5 : Int32) (s6 : sw_St) => (if r5 = 0 then ( bd (j_X6_layTried F s6) (fun (_ : Unit) (s9 : sw_St) => nm (sw_setC s9 63 9 0) (fun (s10 : sw_St) => nm (40 * nI r) (fun (x11 : Int32) => lz2 (fun f14 (x12 : Int32) (s13 : sw_St) => bnd (nI r) 6 ( (if ((40 * nI r) + (s13.1 68 (nI r).toNatClampNeg)) ≤ x12 then ( some ((s13.1 64 829 : Int32), s13)) else ( bnd x12 240 ( bd (j_X6_comesIn F 828 (s13.1 69 (x12 : Int32).toNatClampNeg) s13) (fun (_ : Unit) (s21 : sw_St) => bnd x12 240 ( bnd (s21.1 69 (x12 : Int32).toNatClampNeg) 6 ( nm (sw_setC s21 63 9 ((s21.1 63 9) + (s21.1 67 ((s21.1 69 (x12 : Int32).toNatClampNeg) : Int32).toNatClampNeg))) (fun (s24 : sw_St) => nm (x12 + 1) (fun (x25 : Int32) => f14 x25 s24)))))))))) F x11 s10)))) else ( some ((r5 : Int32), s6))))))) = some (nI (pw_wk n kd sg G it x m).1, s2) ∧ II s2 by
    obtain ⟨s2, k2, i2⟩ := hsf
    refine ⟨s2, ?_, k2, i2⟩
    rw [show j_X5_refusedGuests F (nI r) 6 0 st = some (0, st) from j1, bd_some, if_pos rfl]
    simp only [nm]
    rw [H.hr.1, H.hr.2.2.2.2]
    refine lz4_ind (Φ := fun o => o = some (nI (pw_wk n kd sg G it x m).1, sw_setC st 0 14 v)) (fun _ _ _ i => 100 - i.toNatClampNeg) (fun a b c i => ∃ k, k ≤ m ∧ i = nI k ∧ a = nI (pw_wk n kd sg G it x k).1 ∧ b = nI (pw_wk n kd sg G it x k).2.2.2.2 ∧ c = nI (pw_bs br it k)) (fun g a b c i hq ih => ?_) F _ _ _ _ ⟨0, by omega, rfl, rfl, rfl, rfl⟩ (by show 100 - 0 < F; omega)
    obtain ⟨k, hk, rfl, rfl, rfl, rfl⟩ := hq
    rw [bnd_nI hr (by decide), nI_clamp (show r < 2 ^ 31 by omega), z1]
    rcases Nat.lt_or_ge k m with q | q
    · obtain ⟨j, hj, e⟩ := hitem k q
      have hk1 := hok k hk
      have hsk := ok64 hn hk1.2.2.2.2
      rw [if_neg (show ¬ nI m ≤ nI k from nI_ge q (by omega)), bnd_nI hr (by decide), bnd_nI (by omega) (by decide), nI_clamp (show k < 2 ^ 31 by omega), ← hitd, e, woundBy5 hF H.hv H.hc hj hk1.1 hsk, bo_some, b_one (by omega), b_or hsk (by omega), bnd_nI (by omega) (by decide), nI_clamp (show j < 2 ^ 31 by omega), show st.1 19 j = nI (br j) from (H.hc.2 j hj).2.2.2, nI_add, nI_1]
      refine ih _ _ _ _ ⟨k + 1, q, rfl, ?_, ?_, ?_⟩ (by rw [nI_clamp (by omega), nI_clamp (by omega)]; omega)
      · show _ = nI (pw_md n kd sg G (it k) _).1
        rw [e, md_j (by omega)]; rfl
      · show _ = nI (pw_md n kd sg G (it k) _).2.2.2.2
        rw [e, md_j (by omega)]; rfl
      · show _ = nI (pw_bs br it k + br (it k).toNatClampNeg)
        rw [e, nI_clamp (by omega)]
    · have e : k = m := by omega
      subst e
      rw [if_pos (show nI k ≤ nI k from nI_le (Nat.le_refl k) (by omega)), hv]
  have hp' := hp v
  simp only [show (nI 6 : Int32) = 6 from rfl, show ((if false = true then 1 else 0) : Int32) = 0 from rfl] at hp'
  have H1 : HR (sw_setC st 0 14 v) n kd sg br fw ff G x := H.c (fun b hb => gsC_ne _ _ _ ((by decide : ∀ a, a ∈ [15, 16, 17, 18, 19, 65, 66, 67] → a ≠ 0) b hb)) (by rw [gsC_ne _ _ _ (by decide)]) (fun i hi => by rw [gsC_ne _ _ _ (by decide)])
  obtain ⟨s9, j9, t9, a9⟩ := lay6 (F := F) hF H1.ht
  refine Exists.imp (fun s2 h => ⟨(hp' _).trans h.1, h.2⟩) (?_ : ∃ s2, _ = some (nI (pw_wk n kd sg G it x m).1, s2) ∧ II s2)
  rw [j9, bd_some]
  simp only [nm]
  have e40 : (40 : Int32) * nI r = nI (40 * r) := by rw [show (40 : Int32) = nI 40 from rfl, pk_mul]
  rw [e40]
  refine lz2_ind (Φ := fun o => ∃ s2 : sw_St, o = some (nI (pw_wk n kd sg G it x m).1, s2) ∧ II s2) (fun i _ => 1000 - i.toNatClampNeg) (fun c s => ∃ k, k ≤ m ∧ c = nI (40 * r + k) ∧ TR s 828 (pw_wk n kd sg G it x k) ∧ tr9 (sw_setC st 0 14 v) s ∧ s.1 63 9 = nI (pw_bs br it k)) (fun g c s hq ih => ?_) F _ _ ⟨0, by omega, rfl, ?_, a9.t9.C _, by rw [gsC, if_pos ⟨rfl, rfl⟩]; rfl⟩ (by show 1000 - _ < F; omega)
  · obtain ⟨k, hk, rfl, ht, hr9, hb⟩ := hq
    have hc : ∀ b i, b ≠ 0 → b ≠ 63 → b ≠ 64 → s.1 b i = st.1 b i := fun b i h1 h2 h3 => by rw [hr9.1 b h2 h3, gsC_ne _ _ _ h1]
    rw [bnd_nI hr (by decide), nI_clamp (show r < 2 ^ 31 by omega), hc 68 r (by decide) (by decide) (by decide), z2, nI_add]
    rcases Nat.lt_or_ge k m with q | q
    · obtain ⟨j, hj, e⟩ := hitem k q
      obtain ⟨s3, j3, t3, a3⟩ := comesIn6 (b := 828) (i := j) hF H.hv (mS_t9 hr9 H1.hm) H.hG (Or.inr rfl) hj (hok k hk) ht
      have e69 : s.1 69 (40 * r + k) = nI j := by rw [hc 69 _ (by decide) (by decide) (by decide), hit k q, e]
      have e69' : s3.1 69 (40 * r + k) = nI j := by rw [a3.1 69 (by decide), e69]
      rw [if_neg (show ¬ nI (40 * r + m) ≤ nI (40 * r + k) from nI_ge (by omega) (by omega)), bnd_nI (show 40 * r + k < 240 by omega) (by decide), nI_clamp (show 40 * r + k < 2 ^ 31 by omega), e69, show (828 : Int32) = nI 828 from rfl, j3, bd_some, bnd_nI (show 40 * r + k < 240 by omega) (by decide), e69', bnd_nI (show j < 6 by omega) (by decide), nI_clamp (show j < 2 ^ 31 by omega), a3.1 63 (by decide), hb, a3.1 67 (by decide), hc 67 j (by decide) (by decide) (by decide), (H.hm.1.2 j hj).2.2, nI_add, nI_1]
      refine ih _ _ ⟨k + 1, q, by rw [Nat.add_assoc], ?_, (hr9.tr a3.tri.t9).C _, ?_⟩ (by rw [nI_clamp (by omega), nI_clamp (by omega)]; omega)
      · unfold TR
        rw [gsC_ne _ _ _ (by decide)]
        show TR s3 828 (pw_md n kd sg G (it k) _)
        rw [e, md_j (by omega)]
        exact t3
      · rw [gsC, if_pos ⟨rfl, rfl⟩]
        show _ = nI (pw_bs br it k + br (it k).toNatClampNeg)
        rw [e, nI_clamp (by omega)]
    · have e : k = m := by omega
      subst e
      rw [if_pos (show nI (40 * r + k) ≤ nI (40 * r + k) from nI_le (Nat.le_refl _) (by omega)), show s.1 64 829 = nI _ from ht.1]
      exact ⟨s, rfl, II_tr9 hI hr9 (by rw [hb, hv])⟩
  · unfold TR
    rw [gsC_ne _ _ _ (by decide)]
    exact t9
def pw_bh (n : Nat) (kd sg : Nat → Nat) (G : Nat) (it : Nat → Int32) (x : pw_D) : Nat → pw_D
  | 0 => x
  | k + 1 => pw_ps (pw_md n kd sg G (it k) (pw_bh n kd sg G it x k))
def pw_bc (n : Nat) (kd sg : Nat → Nat) (G : Nat) (it : Nat → Int32) (x : pw_D) : Nat → Nat
  | 0 => 0
  | k + 1 => pw_bc n kd sg G it x k + (if (pw_md n kd sg G (it k) (pw_bh n kd sg G it x k)).1 = 0 then 0 else 1)
theorem o_27 {F : Nat} (hF : 20000 ≤ F) : sm_27 II F := by
  intro a1 st hI
  unfold j_X5_behind j_X6_behind
  rcases guests_pre (mx := 5) (al := true) (a1 := a1) hF (by decide) hI with ⟨r, s1, s2, hr0, j1, j2, h2⟩ | ⟨n, kd, sg, br, fw, ff, G, x, r, m, s, H, hn0, hr, rfl, hm, z1, z2, hit, hg, j1, hp⟩
  · exact ⟨r, s1, s2, by rw [show j_X5_refusedGuests F a1 5 1 st = some (r, s1) from j1, bd_some, if_neg hr0], j2 _, h2⟩
  have hn := H.hv.1
  obtain ⟨it, hitd⟩ : ∃ it : Nat → Int32, it = st.1 (2 + r) := ⟨_, rfl⟩
  rw [← hitd] at hg hit
  have hitem : ∀ k, k < m → it k = -9 ∨ ∃ j, j < n ∧ it k = nI j := fun k hk => by
    rcases gk_item hn hg hk with h | h
    · exact Or.inl h.2
    · exact Or.inr h
  have hmd : ∀ k, k < m → ∀ y : pw_D, okx n y → okx n (pw_md n kd sg G (it k) y) ∧ (pw_md n kd sg G (it k) y).2.1 = y.2.1 ∧ (pw_md n kd sg G (it k) y).2.2.1 = y.2.2.1 ∧ (pw_md n kd sg G (it k) y).2.2.2.1 = y.2.2.2.1 := fun k hk y hy => by
    rcases hitem k hk with e | ⟨j, hj, e⟩
    · rw [e, md_9]
      exact ⟨hy, rfl, rfl, rfl⟩
    · rw [e, md_j (by omega)]
      exact ⟨cm_ok H.hv hj hy, rfl, rfl, rfl⟩
  have hok : ∀ k, k ≤ m → okx n (pw_bh n kd sg G it x k) ∧ (pw_bh n kd sg G it x k).2.1 = (x.2.1 + pw_bc n kd sg G it x k) % 12 ∧ (pw_bh n kd sg G it x k).2.2.1 = x.2.2.1 + k ∧ (pw_bh n kd sg G it x k).2.2.2.1 = x.2.2.2.1 ∧ pw_bc n kd sg G it x k ≤ k := fun k => by
    induction k with
    | zero => intro _; exact ⟨H.hx, (Nat.mod_eq_of_lt H.hx.2.1).symm, rfl, rfl, Nat.le_refl 0⟩
    | succ k ih =>
      intro hk
      obtain ⟨i1, i2, i3, i4, i5⟩ := ih (by omega)
      obtain ⟨d1, d2, d3, d4⟩ := hmd k (by omega) _ i1
      have hx3 := H.hx3
      refine ⟨ps_ok d1 (by rw [d3, i3]; omega), ?_, ?_, ?_, ?_⟩
      · show (if 0 < (pw_md n kd sg G (it k) (pw_bh n kd sg G it x k)).1 then ((pw_md n kd sg G (it k) (pw_bh n kd sg G it x k)).2.1 + 1) % 12 else (pw_md n kd sg G (it k) (pw_bh n kd sg G it x k)).2.1) = (x.2.1 + (pw_bc n kd sg G it x k + (if (pw_md n kd sg G (it k) (pw_bh n kd sg G it x k)).1 = 0 then 0 else 1))) % 12
        rw [d2, i2]
        by_cases z : (pw_md n kd sg G (it k) (pw_bh n kd sg G it x k)).1 = 0
        · rw [if_neg (by omega), if_pos z]; rfl
        · rw [if_pos (by omega), if_neg z]; omega
      · show (pw_md n kd sg G (it k) (pw_bh n kd sg G it x k)).2.2.1 + 1 = _
        rw [d3, i3]; omega
      · show (pw_md n kd sg G (it k) (pw_bh n kd sg G it x k)).2.2.2.1 = _
        rw [d4, i4]
      · show pw_bc n kd sg G it x k + (if _ then 0 else 1) ≤ k + 1
        split <;> omega
  obtain ⟨v, hv⟩ : ∃ v : Int32, v = nI (pw_bh n kd sg G it x m).2.1 := ⟨_, rfl⟩
  refine ⟨nI (pw_bh n kd sg G it x m).1, sw_setC st 0 14 v, ?_⟩
  suffices hsf : ∃ s2, bo (j_X6_isRow F (nI r) (sw_setC st 0 14 v)) (fun (r2 : Int32) => (if r2 = 0 then ( some (((-1) : Int32), (sw_setC st 0 14 v))) else ( bd (j_X6_noRow F (nI r) 5 1 (sw_setC st 0 14 v)) (fun (r5 : Int32) (s6 : sw_St) => (if r5 = 0 then ( bd (j_X6_layTried F s6) (fun (_ : Unit) (s9 : sw_St) => nm (40 * nI r) (fun (x10 : Int32) => lz2 (fun f13 (x11 : Int32) (s12 : sw_St) => bnd (nI r) 6 ( (if ((40 * nI r) + (s12.1 68 (nI r).toNatClampNeg)) ≤ x11 then ( nm (sw_setC s12 63 9 (s12.1 64 830)) (fun (s18 : sw_St) => some ((s18.1 64 829 : Int32), s18))) else ( bnd x11 240 ( jn (fun (s21 : sw_St) =>  bd (j_X6_pass F 828 s21) (fun (r25 : Int32) (s26 : sw_St) => nm (x11 + 1) (fun (x27 : Int32) => f13 x27 s26))) (fun k22 => (if (s12.1 69 (x11 : Int32).toNatClampNeg) = (-9) then ( k22 s12) else ( bnd x11 240 ( bd (j_X6_comesIn F 828 (s12.1 69 (x11 : Int32).toNatClampNeg) s12) (fun (_ : Unit) (s31 : sw_St) => k22 s31)))))))))) F x10 s9))) else ( some ((r5 : Int32), s6))))))) = some (nI (pw_bh n kd sg G it x m).1, s2) ∧ II s2 by
    obtain ⟨s2, k2, i2⟩ := hsf
    refine ⟨s2, ?_, k2, i2⟩
    rw [show j_X5_refusedGuests F (nI r) 5 1 st = some (0, st) from j1, bd_some, if_pos rfl]
    simp only [nm]
    rw [H.hr.1, H.hr.2.2.2.2]
    refine lz4_ind (Φ := fun o => o = some (nI (pw_bh n kd sg G it x m).1, sw_setC st 0 14 v)) (fun _ _ _ i => 100 - i.toNatClampNeg) (fun a b c i => ∃ k, k ≤ m ∧ i = nI k ∧ a = nI (pw_bh n kd sg G it x k).1 ∧ b = nI (pw_bh n kd sg G it x k).2.2.2.2 ∧ c = nI (pw_bc n kd sg G it x k)) (fun g a b c i hq ih => ?_) F _ _ _ _ ⟨0, by omega, rfl, rfl, rfl, rfl⟩ (by show 100 - 0 < F; omega)
    obtain ⟨k, hk, rfl, rfl, rfl, rfl⟩ := hq
    obtain ⟨i1, i2, i3, i4, i5⟩ := hok k hk
    rw [bnd_nI hr (by decide), nI_clamp (show r < 2 ^ 31 by omega), z1]
    rcases Nat.lt_or_ge k m with q | q
    · have hsk := ok64 hn i1.2.2.2.2
      obtain ⟨d1, d2, d3, d4⟩ := hmd k q _ i1
      rw [if_neg (show ¬ nI m ≤ nI k from nI_ge q (by omega)), bnd_nI hr (by decide), bnd_nI (by omega) (by decide), nI_clamp (show k < 2 ^ 31 by omega), ← hitd]
      simp only [jn]
      -- one hour, after whoever came
      have one : ∀ y : pw_D, y = pw_md n kd sg G (it k) (pw_bh n kd sg G it x k) → (if nI y.1 ≤ 0 then bo (j_X4_woundNext F 15 (nI y.1) st) (fun r30 => g r30 (nI y.2.2.2.2) (nI (pw_bc n kd sg G it x k) + 0) (nI k + 1)) else bo (j_X4_woundNext F 15 (nI y.1) st) (fun r30 => g r30 (nI y.2.2.2.2) (nI (pw_bc n kd sg G it x k) + 1) (nI k + 1))) = some (nI (pw_bh n kd sg G it x m).1, sw_setC st 0 14 v) := fun y hy => by
        have hy1 : y.1 ≤ 99 := by rw [hy]; exact d1.1
        rw [woundNext5 H.hr.2.2.2.1 hy1 H.hx.2.2.2.1, bo_some, bo_some, nI_1]
        have e1 : pw_nxt x.2.2.2.1 y.1 = (pw_bh n kd sg G it x (k + 1)).1 := by
          show _ = pw_nxt (pw_md n kd sg G (it k) (pw_bh n kd sg G it x k)).2.2.2.1 (pw_md n kd sg G (it k) (pw_bh n kd sg G it x k)).1
          rw [d4, i4, hy]
        have e2 : y.2.2.2.2 = (pw_bh n kd sg G it x (k + 1)).2.2.2.2 := by rw [hy]; rfl
        have e3 : pw_bc n kd sg G it x (k + 1) = pw_bc n kd sg G it x k + (if y.1 = 0 then 0 else 1) := by rw [hy]; rfl
        by_cases z : y.1 = 0
        · rw [if_pos ((pos_iff (by omega)).mpr z), e1, e2]
          rw [if_pos z] at e3
          exact ih _ _ _ _ ⟨k + 1, q, rfl, rfl, rfl, by rw [e3]; exact nI_add _ 0⟩ (by rw [nI_clamp (by omega), nI_clamp (by omega)]; omega)
        · rw [if_neg (fun u => z ((pos_iff (by omega)).mp u)), e1, e2]
          rw [if_neg z] at e3
          exact ih _ _ _ _ ⟨k + 1, q, rfl, rfl, rfl, by rw [e3]; exact nI_add _ 1⟩ (by rw [nI_clamp (by omega), nI_clamp (by omega)]; omega)
      rcases hitem k q with e | ⟨j, hj, e⟩
      · rw [e, if_pos rfl]
        exact one _ (by rw [e, md_9])
      · rw [e, if_neg (nI_ne9 (by omega)), woundBy5 hF H.hv H.hc hj i1.1 hsk, bo_some, b_one (by omega), b_or hsk (by omega)]
        exact one (pw_cm n kd sg G j (pw_bh n kd sg G it x k)) (by rw [e, md_j (by omega)])
    · have e : k = m := by omega
      subst e
      rw [if_pos (show nI k ≤ nI k from nI_le (Nat.le_refl k) (by omega)), clockAfter5 H.hr.2.1 H.hx.2.1 (by omega), bo_some, hv, i2]
  have hp' := hp v
  simp only [show (nI 5 : Int32) = 5 from rfl, show ((if true = true then 1 else 0) : Int32) = 1 from rfl] at hp'
  have H1 : HR (sw_setC st 0 14 v) n kd sg br fw ff G x := H.c (fun b hb => gsC_ne _ _ _ ((by decide : ∀ a, a ∈ [15, 16, 17, 18, 19, 65, 66, 67] → a ≠ 0) b hb)) (by rw [gsC_ne _ _ _ (by decide)]) (fun i hi => by rw [gsC_ne _ _ _ (by decide)])
  obtain ⟨s9, j9, t9, a9⟩ := lay6 (F := F) hF H1.ht
  refine Exists.imp (fun s2 h => ⟨(hp' _).trans h.1, h.2⟩) (?_ : ∃ s2, _ = some (nI (pw_bh n kd sg G it x m).1, s2) ∧ II s2)
  rw [j9, bd_some]
  simp only [nm]
  have e40 : (40 : Int32) * nI r = nI (40 * r) := by rw [show (40 : Int32) = nI 40 from rfl, pk_mul]
  rw [e40]
  refine lz2_ind (Φ := fun o => ∃ s2 : sw_St, o = some (nI (pw_bh n kd sg G it x m).1, s2) ∧ II s2) (fun i _ => 1000 - i.toNatClampNeg) (fun c s => ∃ k, k ≤ m ∧ c = nI (40 * r + k) ∧ TR s 828 (pw_bh n kd sg G it x k) ∧ tri (sw_setC st 0 14 v) s) (fun g c s hq ih => ?_) F _ _ ⟨0, by omega, rfl, t9, a9⟩ (by show 1000 - _ < F; omega)
  obtain ⟨k, hk, rfl, ht, hr9⟩ := hq
  obtain ⟨i1, i2, i3, i4, i5⟩ := hok k hk
  have hc : ∀ b i, b ≠ 0 → b ≠ 64 → s.1 b i = st.1 b i := fun b i h1 h3 => by rw [hr9.1 b h3, gsC_ne _ _ _ h1]
  rw [bnd_nI hr (by decide), nI_clamp (show r < 2 ^ 31 by omega), hc 68 r (by decide) (by decide), z2, nI_add]
  rcases Nat.lt_or_ge k m with q | q
  · obtain ⟨d1, d2, d3, d4⟩ := hmd k q _ i1
    have e69 : s.1 69 (40 * r + k) = it k := by rw [hc 69 _ (by decide) (by decide), hit k q]
    rw [if_neg (show ¬ nI (40 * r + m) ≤ nI (40 * r + k) from nI_ge (by omega) (by omega)), bnd_nI (show 40 * r + k < 240 by omega) (by decide), nI_clamp (show 40 * r + k < 2 ^ 31 by omega), e69]
    simp only [jn]
    have one : ∀ s' : sw_St, TR s' 828 (pw_md n kd sg G (it k) (pw_bh n kd sg G it x k)) → tri (sw_setC st 0 14 v) s' → ∃ s2 : sw_St, bd (j_X6_pass F 828 s') (fun (r25 : Int32) (s26 : sw_St) => g (nI (40 * r + k) + 1) s26) = some (nI (pw_bh n kd sg G it x m).1, s2) ∧ II s2 := fun s' ht' hr' => by
      obtain ⟨s3, j3, t3, a3⟩ := pass6 (F := F) (b := 828) (Or.inr rfl) d1 ht'
      rw [show (828 : Int32) = nI 828 from rfl, j3, bd_some, nI_1]
      exact ih _ _ ⟨k + 1, q, by rw [Nat.add_assoc], t3, hr'.tr a3.tri⟩ (by rw [nI_clamp (by omega), nI_clamp (by omega)]; omega)
    rcases hitem k q with e | ⟨j, hj, e⟩
    · rw [e, if_pos rfl]
      exact one s (by rw [e, md_9]; exact ht) hr9
    · obtain ⟨s3, j3, t3, a3⟩ := comesIn6 (b := 828) (i := j) hF H.hv (mS_tri hr9 H1.hm) H.hG (Or.inr rfl) hj i1 ht
      rw [e, if_neg (nI_ne9 (by omega)), bnd_nI (show 40 * r + k < 240 by omega) (by decide), show j_X6_comesIn F 828 (nI j) s = some ((), s3) from j3, bd_some]
      exact one s3 (by rw [e, md_j (by omega)]; exact t3) (hr9.tr a3.tri)
  · have e : k = m := by omega
    subst e
    rw [if_pos (show nI (40 * r + k) ≤ nI (40 * r + k) from nI_le (Nat.le_refl _) (by omega)), show s.1 64 830 = nI _ from ht.2.1, gsC_ne _ _ _ (by decide), show s.1 64 829 = nI _ from ht.1, ← hv]
    exact ⟨_, rfl, II_tell3 hI hr9⟩
