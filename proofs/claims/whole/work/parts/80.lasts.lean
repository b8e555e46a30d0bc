/-- scratch of both sides -/
def sN : List Nat := [22, 23, 24, 25, 26, 27, 28, 52, 53, 54, 55, 56, 57, 58, 59, 60, 61, 73, 74, 75, 76]
theorem II_scr {st st1 : sw_St} (hI : II st) (h : ch (0 :: 63 :: 64 :: sN) st st1) (h13 : st1.1 0 13 = st.1 0 13) (h14 : st1.1 0 14 = st1.1 63 9) (h1 : st1.1 63 1 = st.1 63 1) (h12 : st1.1 63 12 = st.1 63 12) (h64 : ∀ i, i < 828 → st1.1 64 i = st.1 64 i) (hu : st1.2.1 0 15 = st1.2.1 63 10) (hl : st1.2.1 0 16 = st1.2.1 63 11) : II st1 := by
  refine ⟨IR_c (h.ag (by decide)) hI.1, IT_c (h.ag (by decide)) hI.2.1, ⟨h14, ?_, fun f hf => ?_, hu, hl⟩, IW_c (h.ag (by decide)) h1 h64 hI.2.2.2⟩
  · rw [h13, h12]
    exact hI.2.2.1.2.1
  · rw [h 62 (by decide), h 72 (by decide)]
    exact hI.2.2.1.2.2.1 f hf
/-- told on the class's side, told on the reference's; a trial between -/
theorem II_tell3 {st s2 : sw_St} {v : Int32} (hI : II st) (h : tri (sw_setC st 0 14 v) s2) : II (sw_setC s2 63 9 v) := by
  have e : tri (sw_setC (sw_setC st 0 14 v) 63 9 v) (sw_setC s2 63 9 v) := by
    refine ⟨fun a ha => ?_, fun i hi => ?_, h.2.2⟩
    · by_cases q : a = 63
      · subst q
        funext i
        rw [gsC, gsC (sw_setC st 0 14 v), h.1 63 (by decide)]
      · rw [gsC_ne _ _ _ q, gsC_ne _ _ _ q, h.1 a ha]
    · rw [gsC_ne _ _ _ (by decide), gsC_ne (sw_setC st 0 14 v) _ _ (by decide), h.2.1 i hi]
  exact II_tri (II_told hI v) e
theorem o_20 {F : Nat} (hF : 20000 ≤ F) : sm_20 II F := by
  intro st hI
  obtain ⟨n, kd, sg, bd, fw, ff, G, dd, dn, hh⟩ := II_here hI
  obtain ⟨hv, hst, hdyn, hct, hmt, hk⟩ := id hh
  have hn := hv.1
  have hdn := hdyn.2.1
  obtain ⟨hx, hx2⟩ := aft_ok (G := G) hv hdyn.2.2 (by omega)
  unfold j_X5_lasts j_X6_lasts
  by_cases h0 : n = 0
  · exact ⟨-4, st, st, by rw [hct.1, if_pos ((n0_iff hn).mpr h0)], by rw [hst.1, if_pos ((n0_iff hn).mpr h0)], hI⟩
  have n0 : ¬ nI n = 0 := fun z => h0 ((n0_iff hn).mp z)
  generalize hxe : pw_aft n kd sg fw ff G dd dn = x at *
  obtain ⟨L, hL⟩ : ∃ L, L = pw_lft x.2.2.2.1 x.1 := ⟨_, rfl⟩
  have hL99 : L ≤ 99 := by rw [hL]; exact lft_le hx.1
  obtain ⟨v, hv'⟩ : ∃ v : Int32, v = if L = 0 then 0 else 1 := ⟨_, rfl⟩
  obtain ⟨st1, e1⟩ : ∃ s, s = sw_setC st 0 14 v := ⟨_, rfl⟩
  have htr : TR st1 0 x := by
    rw [e1]
    unfold TR
    rw [gsC_ne _ _ _ (by decide)]
    have := mt_TR hmt
    rw [hxe] at this
    exact this
  obtain ⟨s2, j2, t2, a2⟩ := lay6 (F := F) hF htr
  suffices hs : ∃ s3, j_X6_lastsTried F s2 = some (nI L, s3) ∧ s3.1 63 21 = v ∧ (∀ a, a ≠ 63 → a ≠ 64 → s3.1 a = s2.1 a) ∧ (∀ i, i ≠ 21 → s3.1 63 i = s2.1 63 i) ∧ (∀ i, i < 828 → s3.1 64 i = s2.1 64 i) ∧ s3.2 = s2.2 by
    obtain ⟨s3, j3, b1, b2, b3, b4, b5⟩ := hs
    have z : ∀ i, i ≠ 9 → (sw_setC s3 63 9 v).1 63 i = s3.1 63 i := fun i hi => by rw [gsC, if_neg (by omega)]
    refine ⟨nI L, st1, sw_setC s3 63 9 v, ?_, ?_, ?_⟩
    · rw [hct.1, if_neg n0, (ct_CR hct).1, left5 (ct_CR hct).2.2.2.1 hx.1 hx.2.2.2.1, bo_some]
      simp only [jn, nm]
      rw [← hL, e1, hv']
      by_cases q : L = 0
      · rw [if_pos ((pos_iff (by omega)).mpr q), if_pos q]
      · rw [if_neg (fun z => q ((pos_iff (by omega)).mp z)), if_neg q]
    · rw [show st1.1 63 = st.1 63 by rw [e1, gsC_ne _ _ _ (by decide)], hst.1, if_neg n0, j2, bd_some, j3, bd_some, b1]
      rfl
    · refine II_scr hI (fun a ha => ?_) ?_ ?_ ?_ ?_ (fun i hi => ?_) ?_ ?_
      · simp only [List.mem_cons, not_or] at ha
        rw [gsC_ne _ _ _ ha.2.1, b2 a ha.2.1 ha.2.2.1, a2.1 a ha.2.2.1, e1, gsC_ne _ _ _ ha.1]
      · rw [gsC_ne _ _ _ (by decide), b2 0 (by decide) (by decide), a2.1 0 (by decide), e1, gsC, if_neg (by decide)]
      · rw [gsC_ne _ _ _ (by decide), b2 0 (by decide) (by decide), a2.1 0 (by decide), e1, gsC, if_pos ⟨rfl, rfl⟩, gsC, if_pos ⟨rfl, rfl⟩]
      · rw [z 1 (by decide), b3 1 (by decide), a2.1 63 (by decide), e1, gsC_ne _ _ _ (by decide)]
      · rw [z 12 (by decide), b3 12 (by decide), a2.1 63 (by decide), e1, gsC_ne _ _ _ (by decide)]
      · rw [gsC_ne _ _ _ (by decide), b4 i hi, a2.2.1 i hi, e1, gsC_ne _ _ _ (by decide)]
      · show s3.2.1 0 15 = s3.2.1 63 10
        rw [b5, a2.2.2, e1]
        exact hI.2.2.1.2.2.2.1
      · show s3.2.1 0 16 = s3.2.1 63 11
        rw [b5, a2.2.2, e1]
        exact hI.2.2.1.2.2.2.2
  unfold j_X6_lastsTried
  simp only [nm]
  refine lz2_ind (Φ := fun o => ∃ s3 : sw_St, o = some (nI L, s3) ∧ s3.1 63 21 = v ∧ (∀ a, a ≠ 63 → a ≠ 64 → s3.1 a = s2.1 a) ∧ (∀ i, i ≠ 21 → s3.1 63 i = s2.1 63 i) ∧ (∀ i, i < 828 → s3.1 64 i = s2.1 64 i) ∧ s3.2 = s2.2) (fun i _ => 100 - i.toNatClampNeg) (fun c s => ∃ i, i ≤ L ∧ c = nI i ∧ TR s 828 (pw_psk i x) ∧ (i = L → s.1 63 21 = v) ∧ (∀ a, a ≠ 63 → a ≠ 64 → s.1 a = s2.1 a) ∧ (∀ i, i ≠ 21 → s.1 63 i = s2.1 63 i) ∧ (∀ i, i < 828 → s.1 64 i = s2.1 64 i) ∧ s.2 = s2.2) (fun g c s hp ih => ?_) F 0 _ ⟨0, by omega, rfl, ?_, ?_, ?_, ?_, ?_, rfl⟩ (by show 100 - 0 < F; omega)
  · obtain ⟨i, hi, rfl, ht1, w1, w2, w3, w4, w5⟩ := hp
    rw [show s.1 64 829 = nI _ from ht1.1]
    have hlt := lft_lt (f := x.2.2.2.1) (w := x.1) (k := i)
    rw [← hL] at hlt
    have hx99 := hx.1
    have e1' : (pw_psk i x).1 = x.1 - i * (1 + x.2.2.2.1) := rfl
    rcases Nat.lt_or_ge i L with q | q
    · rw [if_neg (fun z => by have := (pos_iff (w := (pw_psk i x).1) (by omega)).mp z; have := hlt.mp q; omega)]
      obtain ⟨s3, j3, r3, a3⟩ := pass6 (F := F) (b := 828) (Or.inr rfl) (psk_ok (k := i) hx (by have := hx.2.2.1; omega)) ht1
      rw [show (828 : Int32) = nI 828 from rfl, j3, bd_some, nI_1]
      refine ih _ _ ⟨i + 1, q, rfl, ?_, fun hiL => ?_, fun a h1 h2 => ?_, fun j hj => ?_, fun j hj => ?_, ?_⟩ (by rw [nI_clamp (by omega), nI_clamp (by omega)]; omega)
      · unfold TR
        rw [gsC_ne _ _ _ (by decide), ← psk_s]
        exact r3
      · rw [gsC, if_pos ⟨rfl, rfl⟩, hv', if_neg (by omega)]
        have p1 := hlt.mp q
        have p2 : ¬ (i + 1) * (1 + x.2.2.2.1) < x.1 := fun z => by
          have := (lft_lt (f := x.2.2.2.1) (w := x.1) (k := i + 1)).mpr z
          rw [← hL] at this
          omega
        have p3 : (i + 1) * (1 + x.2.2.2.1) = i * (1 + x.2.2.2.1) + (1 + x.2.2.2.1) := Nat.succ_mul _ _
        have p4 : pw_sk (pw_psk i x).2.2.2.1 (pw_psk i x).1 = 1 := by
          show pw_sk x.2.2.2.1 (x.1 - i * (1 + x.2.2.2.1)) = 1
          unfold pw_sk pw_nxt
          rw [if_neg (by omega), show x.1 - i * (1 + x.2.2.2.1) - (1 + x.2.2.2.1) = 0 by omega]
        rw [p4]
        rfl
      · rw [gsC_ne _ _ _ h1, a3.1 a h2]
        exact w2 a h1 h2
      · rw [gsC, if_neg (by omega), a3.1 63 (by decide)]
        exact w3 j hj
      · rw [gsC_ne _ _ _ (by decide), a3.2.1 j (by omega)]
        exact w4 j hj
      · show s3.2 = _
        rw [a3.2.2]
        exact w5
    · have e : i = L := by omega
      subst e
      rw [if_pos ((pos_iff (by omega)).mpr (by rw [e1']; have : ¬ i * (1 + x.2.2.2.1) < x.1 := fun z => by have := hlt.mpr z; omega
                                               omega))]
      exact ⟨s, rfl, w1 rfl, w2, w3, w4, w5⟩
  · unfold TR
    rw [gsC_ne _ _ _ (by decide), psk_0 hx]
    exact t2
  · intro h
    rw [gsC, if_pos ⟨rfl, rfl⟩, hv', if_pos h.symm]
  · intro a h1 h2
    rw [gsC_ne _ _ _ h1]
  · intro i hi
    rw [gsC, if_neg (by omega)]
  · intro i hi
    rw [gsC_ne _ _ _ (by decide)]
theorem mod12 {a k : Nat} (ha : a < 12) (hk : k ≤ 1000) : nI a + nI k - (nI a + nI k) / 12 * 12 = nI ((a + k) % 12) := by
  rw [nI_add, show (12 : Int32) = nI 12 from rfl, pk_div (by omega) (by decide) (by decide), pk_mul, pk_sub (Nat.div_mul_le_self _ _)]
  congr 1
  omega
theorem o_34 {F : Nat} (hF : 20000 ≤ F) : sm_34 II F := by
  intro a1 st hI
  obtain ⟨n, kd, sg, br, fw, ff, G, dd, dn, hh⟩ := II_here hI
  obtain ⟨hv, hst, hdyn, hct, hmt, hk⟩ := id hh
  have hn := hv.1
  have hdn := hdyn.2.1
  obtain ⟨hx, hx2⟩ := aft_ok (G := G) hv hdyn.2.2 (by omega)
  generalize hxe : pw_aft n kd sg fw ff G dd dn = x at *
  unfold j_X5_meets j_X6_meets
  rcases nix a1 12 with h | ⟨a, ha, rfl⟩
  · refine ⟨-1, st, st, ?_, by rw [in6_n (lo := 0) (hi := 11) rfl rfl (by rcases h with h | h; exact Or.inl h; exact Or.inr (by omega))]; rfl, hI⟩
    have : j_X5_isDial F a1 st = some 0 := by
      unfold j_X5_isDial
      simp only [jn, grd]
      by_cases q : a1 < 0
      · rw [if_pos q]; rfl
      · rw [if_neg q, if_pos]
        · rfl
        · rw [i_le]
          rw [i_lt] at q
          rcases h with h | h
          · exact absurd h q
          · show 12 ≤ a1.toInt
            omega
    rw [this]
    rfl
  have hd5 : j_X5_isDial F (nI a) st = some 1 := by
    unfold j_X5_isDial
    simp only [jn, grd]
    rw [if_neg (show ¬ nI a < 0 from nI_pos (by omega)), if_neg (show ¬ (12 : Int32) ≤ nI a from nI_ge ha (by decide))]
    rfl
  have i6 : ∀ s, j_X6_in F (nI a).toInt64 0 11 s = some 1 := fun s => in6_y (lo := 0) (hi := 11) rfl rfl (by rw [nI_tI (by omega)]; omega) (by rw [nI_tI (by omega)]; omega)
  rw [hd5, bo_some, if_neg (by decide), hct.1]
  by_cases h0 : n = 0
  · exact ⟨-4, st, st, by rw [if_pos ((n0_iff hn).mpr h0)], by rw [i6, bo_some, if_neg (by decide), hst.1, if_pos ((n0_iff hn).mpr h0)], hI⟩
  have n0 : ¬ nI n = 0 := fun z => h0 ((n0_iff hn).mp z)
  rw [if_neg n0, (ct_CR hct).1, left5 (ct_CR hct).2.2.2.1 hx.1 hx.2.2.2.1, bo_some]
  have htr : TR st 0 x := by
    have := mt_TR hmt
    rw [hxe] at this
    exact this
  obtain ⟨L, hL⟩ : ∃ L, L = pw_lft x.2.2.2.1 x.1 := ⟨_, rfl⟩
  have hL99 : L ≤ 99 := by rw [hL]; exact lft_le hx.1
  rw [← hL]
  have hlt : TR st 0 x := htr
  -- the class's side and the reference's side, hour by hour
  have ref : ∀ s1 : sw_St, TR s1 0 x → s1.1 63 1 = nI n → ∀ (m : Nat), (m ≤ 40 ∧ (∀ k, k < m → ¬ (x.2.1 + min k L) % 12 = (a + k) % 12) ∧ (x.2.1 + min m L) % 12 = (a + m) % 12 → ∃ s2, j_X6_meets F (nI a) s1 = some (nI m, sw_setC s2 63 9 (nI ((x.2.1 + min m L) % 12))) ∧ tri s1 s2) ∧ (m = 41 ∧ (∀ k, k < m → ¬ (x.2.1 + min k L) % 12 = (a + k) % 12) → ∃ s2, j_X6_meets F (nI a) s1 = some (-9, s2) ∧ tri s1 s2) := by
    intro s1 ht1 h63 m
    obtain ⟨s2, j2, t2, a2⟩ := lay6 (F := F) hF ht1
    have hbody : ∀ Φ : Option (Int32 × sw_St) → Prop, m ≤ 41 → (∀ k, k < m → ¬ (x.2.1 + min k L) % 12 = (a + k) % 12) → (∀ g s, TR s 828 (pw_psk m x) → tri s1 s → Φ ((fun (f9 : Int32 → sw_St → Option (Int32 × sw_St)) (x7 : Int32) (s8 : sw_St) => (if 41 ≤ x7 then ( some (((-9) : Int32), s8)) else ( (if (s8.1 64 830) = ((nI a + x7) - (nI a + x7) / 12 * 12) then ( nm (sw_setC s8 63 9 (s8.1 64 830)) (fun (s19 : sw_St) => some ((x7 : Int32), s19))) else ( bd (j_X6_pass F 828 s8) (fun (r15 : Int32) (s16 : sw_St) => nm (x7 + 1) (fun (x17 : Int32) => f9 x17 s16))))))) g (nI m) s)) → Φ (j_X6_meets F (nI a) s1) := by
      intro Φ hm41 hne hfin
      unfold j_X6_meets
      rw [i6, bo_some, if_neg (by decide), h63, if_neg n0, j2, bd_some]
      refine lz2_ind (Φ := Φ) (fun i _ => 100 - i.toNatClampNeg) (fun c s => ∃ i, i ≤ m ∧ c = nI i ∧ TR s 828 (pw_psk i x) ∧ tri s1 s) (fun g c s hp ih => ?_) F 0 s2 ⟨0, by omega, rfl, by rw [psk_0 hx]; exact t2, a2⟩ (by show 100 - 0 < F; omega)
      obtain ⟨i, hi, rfl, ti, ai⟩ := hp
      by_cases e : i = m
      · subst e
        exact hfin g s ti ai
      · rw [if_neg (show ¬ (41 : Int32) ≤ nI i from nI_ge (b := 41) (by omega) (by decide)), show s.1 64 830 = nI _ from ti.2.1, mod12 ha (by omega), if_neg (fun z => hne i (by omega) (by have := (nI_eq (by have := Nat.mod_lt (x.2.1 + min i (pw_lft x.2.2.2.1 x.1)) (show 0 < 12 by decide); show (x.2.1 + min i (pw_lft x.2.2.2.1 x.1)) % 12 < 2 ^ 31; omega) (by omega)).mp z; rw [hL]; exact this))]
        obtain ⟨s3, j3, r3, a3⟩ := pass6 (F := F) (b := 828) (Or.inr rfl) (psk_ok (k := i) hx (by have := hx.2.2.1; omega)) ti
        rw [show (828 : Int32) = nI 828 from rfl, j3, bd_some]
        simp only [nm]
        rw [nI_1]
        exact ih _ _ ⟨i + 1, by omega, rfl, by rw [← psk_s]; exact r3, ai.tr a3.tri⟩ (by rw [nI_clamp (by omega), nI_clamp (by omega)]; omega)
    refine ⟨fun ⟨h1, h2, h3⟩ => hbody (fun o => ∃ s2, o = some (nI m, sw_setC s2 63 9 (nI ((x.2.1 + min m L) % 12))) ∧ tri s1 s2) (by omega) h2 (fun g s ti ai => ?_), fun ⟨h1, h2⟩ => hbody (fun o => ∃ s2, o = some (-9, s2) ∧ tri s1 s2) (by omega) h2 (fun g s ti ai => ?_)⟩
    · have e : s.1 64 830 = nI ((x.2.1 + min m L) % 12) := by rw [hL]; exact ti.2.1
      refine ⟨s, ?_, ai⟩
      show (if (41 : Int32) ≤ nI m then _ else _) = _
      rw [if_neg (show ¬ (41 : Int32) ≤ nI m from nI_ge (b := 41) (by omega) (by decide)), e, mod12 ha (by omega), if_pos (by rw [h3])]
      rfl
    · subst h1
      exact ⟨s, rfl, ai⟩
  have cls : ∀ Φ : Option (Int32 × sw_St) → Prop, (∀ m, m ≤ 40 → (∀ k, k < m → ¬ (x.2.1 + min k L) % 12 = (a + k) % 12) → (x.2.1 + min m L) % 12 = (a + m) % 12 → Φ (some (nI m, sw_setC st 0 14 (nI ((x.2.1 + min m L) % 12))))) → ((∀ k, k < 41 → ¬ (x.2.1 + min k L) % 12 = (a + k) % 12) → Φ (some (-9, st))) → Φ (lz1 (fun f8 (x7 : Int32) => (if 40 < x7 then ( some (((-9) : Int32), st)) else ( bo (j_X4_clockAfter F 15 (if nI L < x7 then nI L else x7) st) (fun (r12 : Int32) => (if r12 = ((nI a + x7) - (nI a + x7) / 12 * 12) then ( nm (sw_setC st 0 14 r12) (fun (s15 : sw_St) => some ((x7 : Int32), s15))) else ( nm (x7 + 1) (fun (x14 : Int32) => f8 x14))))))) F 0) := by
    intro Φ h1 h2
    refine lz1_ind (Φ := Φ) (fun i => 100 - i.toNatClampNeg) (fun c => ∃ i, i ≤ 41 ∧ c = nI i ∧ ∀ k, k < i → ¬ (x.2.1 + min k L) % 12 = (a + k) % 12) (fun g c hp ih => ?_) F 0 ⟨0, by omega, rfl, fun k hk => absurd hk (Nat.not_lt_zero k)⟩ (by show 100 - 0 < F; omega)
    obtain ⟨i, hi, rfl, hne⟩ := hp
    by_cases e : i = 41
    · subst e
      rw [if_pos (by decide)]
      exact h2 hne
    · have hmin : (if nI L < nI i then nI L else nI i) = nI (min i L) := by
        by_cases q : L < i
        · rw [if_pos (show nI L < nI i from nI_lt q (by omega)), Nat.min_eq_right (by omega)]
        · rw [if_neg (show ¬ nI L < nI i by rw [i_lt, nI_tI (by omega), nI_tI (by omega)]; omega), Nat.min_eq_left (by omega)]
      rw [if_neg (show ¬ (40 : Int32) < nI i by rw [i_lt, nI_tI (by omega)]; show ¬ (40 : Int) < i; omega), hmin, clockAfter5 (ct_CR hct).2.1 hx.2.1 (by omega), bo_some, mod12 ha (by omega)]
      by_cases z : (x.2.1 + min i L) % 12 = (a + i) % 12
      · rw [if_pos (by rw [z])]
        exact h1 i (by omega) hne z
      · rw [if_neg (fun y => z ((nI_eq (by omega) (by omega)).mp y))]
        simp only [nm]
        rw [nI_1]
        exact ih _ ⟨i + 1, by omega, rfl, fun k hk => by
          by_cases y : k = i
          · rw [y]; exact z
          · exact hne k (by omega)⟩ (by rw [nI_clamp (by omega), nI_clamp (by omega)]; omega)
  refine cls (fun o => ∃ (r : Int32) (st1 st2 : sw_St), o = some (r, st1) ∧ j_X6_meets F (nI a) st1 = some (r, st2) ∧ II st2) (fun m hm hne he => ?_) (fun hne => ?_)
  · obtain ⟨s2, j2, a2⟩ := (ref (sw_setC st 0 14 (nI ((x.2.1 + min m L) % 12))) (by unfold TR; rw [gsC_ne _ _ _ (by decide)]; exact htr) (by rw [gsC_ne _ _ _ (by decide)]; exact hst.1) m).1 ⟨hm, hne, he⟩
    exact ⟨_, _, _, rfl, j2, II_tell3 hI a2⟩
  · obtain ⟨s2, j2, a2⟩ := (ref st htr hst.1 41).2 ⟨rfl, hne⟩
    exact ⟨_, _, _, rfl, j2, II_tri hI a2⟩
