/-- trial, and the number told aside, on the reference's side -/
def tr9 (st s : sw_St) : Prop := (∀ a, a ≠ 63 → a ≠ 64 → s.1 a = st.1 a) ∧ (∀ i, i ≠ 9 → s.1 63 i = st.1 63 i) ∧ (∀ i, i < 828 → s.1 64 i = st.1 64 i) ∧ s.2 = st.2
theorem tr9.rf (st : sw_St) : tr9 st st := ⟨fun _ _ _ => rfl, fun _ _ => rfl, fun _ _ => rfl, rfl⟩
theorem tr9.tr {st s s2 : sw_St} (h : tr9 st s) (h2 : tr9 s s2) : tr9 st s2 := ⟨fun a h63 h64 => (h2.1 a h63 h64).trans (h.1 a h63 h64), fun i hi => (h2.2.1 i hi).trans (h.2.1 i hi), fun i hi => (h2.2.2.1 i hi).trans (h.2.2.1 i hi), h2.2.2.2.trans h.2.2.2⟩
theorem tri.t9 {st s : sw_St} (h : tri st s) : tr9 st s := ⟨fun a _ h64 => h.1 a h64, fun i _ => by rw [h.1 63 (by decide)], h.2.1, h.2.2⟩
theorem tr9.C {st s : sw_St} (h : tr9 st s) (v : Int32) : tr9 st (sw_setC s 63 9 v) := ⟨fun a h63 h64 => by rw [gsC_ne _ _ _ h63]; exact h.1 a h63 h64, fun i hi => by rw [gsC, if_neg (by omega)]; exact h.2.1 i hi, fun i hi => by rw [gsC_ne _ _ _ (by decide)]; exact h.2.2.1 i hi, h.2.2.2⟩
theorem mS_t9 {st st1 : sw_St} {n G : Nat} {kd sg bd : Nat → Nat} (h : tr9 st st1) (hm : mS st n kd sg bd G) : mS st1 n kd sg bd G := by
  unfold mS pw_st
  rw [h.2.1 1 (by decide), h.1 65 (by decide) (by decide), h.1 66 (by decide) (by decide), h.1 67 (by decide) (by decide), h.2.2.1 6 (by decide)]
  exact hm
theorem TR_t9 {st st1 : sw_St} {x : pw_D} (h : tr9 st st1) (ht : TR st 0 x) : TR st1 0 x := by
  unfold TR
  rw [h.2.2.1 _ (by decide), h.2.2.1 _ (by decide), h.2.2.1 _ (by decide), h.2.2.1 _ (by decide), h.2.2.1 _ (by decide)]
  exact ht
theorem II_tr9 {st s : sw_St} {v : Int32} (hI : II st) (h : tr9 (sw_setC st 0 14 v) s) (h9 : s.1 63 9 = v) : II s := by
  refine II_scr hI (fun a ha => ?_) ?_ ?_ ?_ ?_ (fun i hi => ?_) ?_ ?_
  · simp only [List.mem_cons, not_or] at ha
    rw [h.1 a ha.2.1 ha.2.2.1, gsC_ne _ _ _ ha.1]
  · rw [h.1 0 (by decide) (by decide), gsC, if_neg (by decide)]
  · rw [h.1 0 (by decide) (by decide), gsC, if_pos ⟨rfl, rfl⟩, h9]
  · rw [h.2.1 1 (by decide), gsC, if_neg (by decide)]
  · rw [h.2.1 12 (by decide), gsC, if_neg (by decide)]
  · rw [h.2.2.1 i hi, gsC, if_neg (by omega)]
  · rw [h.2.2.2]; exact hI.2.2.1.2.2.2.1
  · rw [h.2.2.2]; exact hI.2.2.1.2.2.2.2
def pw_bst (v : Nat → Nat) (p : Nat → Bool) : Nat → Nat × Nat
  | 0 => (v 0, 0)
  | k + 1 => if p k = true ∧ (pw_bst v p k).1 < v k then (v k, k) else pw_bst v p k
theorem bst_ext {v : Nat → Nat} {p : Nat → Bool} {n m : Nat} (h : n ≤ m) (hz : ∀ i, n ≤ i → i < m → p i = false) : pw_bst v p m = pw_bst v p n := by
  induction m with
  | zero => rw [show n = 0 by omega]
  | succ m ih =>
    by_cases q : n = m + 1
    · rw [q]
    · have := ih (by omega) (fun i h1 h2 => hz i h1 (by omega))
      show (if p m = true ∧ (pw_bst v p m).1 < v m then (v m, m) else pw_bst v p m) = _
      rw [if_neg (fun z => by rw [hz m (by omega) (by omega)] at z; exact absurd z.1 (by decide)), this]
theorem bst_b {v : Nat → Nat} {p : Nat → Bool} {k : Nat} {c : Nat} (hv : ∀ i, v i ≤ c) : (pw_bst v p k).1 ≤ c ∧ (pw_bst v p k).2 ≤ k := by
  induction k with
  | zero => exact ⟨hv 0, Nat.le_refl 0⟩
  | succ k ih =>
    show (if p k = true ∧ (pw_bst v p k).1 < v k then (v k, k) else pw_bst v p k).1 ≤ c ∧ (if p k = true ∧ (pw_bst v p k).1 < v k then (v k, k) else pw_bst v p k).2 ≤ k + 1
    split
    · exact ⟨hv k, by show k ≤ k + 1; omega⟩
    · exact ⟨ih.1, by omega⟩
theorem cms_0 {n G k : Nat} {kd sg : Nat → Nat} {x : pw_D} : pw_cms n kd sg G 0 k x = x := by
  induction k with
  | zero => rfl
  | succ k ih =>
    show (if (0 : Nat).testBit k then _ else pw_cms n kd sg G 0 k x) = x
    rw [Nat.zero_testBit, if_neg (by decide), ih]
theorem free_0 {n s : Nat} : pw_free n s 0 = true := by
  unfold pw_free
  rw [Nat.zero_and, decide_eq_true (Nat.two_pow_pos n)]
  rfl
theorem o_22 {F : Nat} (hF : 20000 ≤ F) : sm_22 II F := by
  intro st hI
  obtain ⟨n, kd, sg, br, fw, ff, G, dd, dn, hh⟩ := II_here hI
  obtain ⟨hv, hst, hdyn, hct, hmt, hk⟩ := id hh
  have hn := hv.1
  have hdn := hdyn.2.1
  have hG := hdyn.1
  obtain ⟨hx, hx2⟩ := aft_ok (G := G) hv hdyn.2.2 (by omega)
  have htr := mt_TR hmt
  have hcr := ct_CR hct
  have hcs := ct_cS hct
  have hms := mt_mS hst hmt
  generalize hxe : pw_aft n kd sg fw ff G dd dn = x at *
  have hs := ok64 hn hx.2.2.2.2
  by_cases h0 : n = 0
  · unfold j_X5_most j_X6_most
    exact ⟨-4, st, st, by rw [hct.1, if_pos ((n0_iff hn).mpr h0)], by rw [hst.1, if_pos ((n0_iff hn).mpr h0)], hI⟩
  have n0 : ¬ nI n = 0 := fun z => h0 ((n0_iff hn).mp z)
  have h2n : 2 ^ n ≤ 64 := pow_n hn
  have h1n : 1 ≤ 2 ^ n := Nat.one_le_two_pow
  obtain ⟨v, hvd⟩ : ∃ v : Nat → Nat, v = fun S => (pw_cms n kd sg G S n x).1 := ⟨_, rfl⟩
  have hv99 : ∀ S, v S ≤ 99 := fun S => by rw [hvd]; exact (cms_ok hv (Nat.le_refl n) hx).1
  have hv0 : v 0 = x.1 := by rw [hvd]; show (pw_cms n kd sg G 0 n x).1 = _; rw [cms_0]
  obtain ⟨p, hp⟩ : ∃ p : Nat → Bool, p = pw_free n x.2.2.2.2 := ⟨_, rfl⟩
  have hB := fun k => bst_b (p := p) (k := k) hv99
  have hext : pw_bst v p 64 = pw_bst v p (2 ^ n) := bst_ext h2n (fun i h1 _ => by rw [hp]; unfold pw_free; rw [decide_eq_false (by omega)]; rfl)
  have hst1 : ∀ k, pw_bst v p (k + 1) = if p k = true ∧ (pw_bst v p k).1 < v k then (v k, k) else pw_bst v p k := fun k => rfl
  have b1 : pw_bst v p 1 = (v 0, 0) := by
    rw [hst1 0, if_neg (fun z => by have : v 0 < v 0 := z.2; omega)]
    rfl
  obtain ⟨st1, e1⟩ : ∃ s, s = sw_setC st 0 14 (nI (pw_bst v p 64).2) := ⟨_, rfl⟩
  have hm1 : mS st1 n kd sg br G := by
    rw [e1]
    unfold mS pw_st
    rw [gsC_ne _ _ _ (by decide), gsC_ne _ _ _ (by decide), gsC_ne _ _ _ (by decide), gsC_ne _ _ _ (by decide), gsC_ne _ _ _ (by decide)]
    exact hms
  have ht1 : TR st1 0 x := by
    rw [e1]
    unfold TR
    rw [gsC_ne _ _ _ (by decide)]
    exact htr
  suffices hs : ∃ s2, j_X6_most F st1 = some (nI (pw_bst v p 64).1, s2) ∧ tr9 st1 s2 ∧ s2.1 63 9 = nI (pw_bst v p 64).2 by
    obtain ⟨s2, j2, a2, h9⟩ := hs
    refine ⟨nI (pw_bst v p 64).1, st1, s2, ?_, j2, II_tr9 hI (by rw [← e1]; exact a2) h9⟩
    unfold j_X5_most
    rw [hct.1, if_neg n0]
    simp only [nm]
    rw [hcr.1]
    refine lz3_ind (Φ := fun o => o = some (nI (pw_bst v p 64).1, st1)) (fun _ _ i => 100 - i.toNatClampNeg) (fun a b c => ∃ k, 1 ≤ k ∧ k ≤ 2 ^ n ∧ c = nI k ∧ a = nI (pw_bst v p k).1 ∧ b = nI (pw_bst v p k).2) (fun g a b c hq ih => ?_) F _ _ _ ⟨1, by omega, by omega, rfl, by rw [b1, hv0], by rw [b1]; rfl⟩ (by show 100 - 1 < F; omega)
    obtain ⟨k, hk1, hk2, rfl, rfl, rfl⟩ := hq
    rw [sets5 hn hct.1, bo_some]
    by_cases q : k = 2 ^ n
    · rw [if_pos (show nI (2 ^ n) ≤ nI k from nI_le (by omega) (by omega)), e1, hext, ← q]
    · rw [if_neg (show ¬ nI (2 ^ n) ≤ nI k from nI_ge (by omega) (by omega)), wbs5 hF hv hcs hx hcr.1 hcr.2.2.2.2 (by omega), bo_some, hcr.2.2.2.2, show nI k &&& nI x.2.2.2.2 = nI (k &&& x.2.2.2.2) from b_and0 ⟨k, by omega⟩ ⟨_, hs⟩]
      simp only [jn]
      rw [nI_1, show (pw_cms n kd sg G k n x).1 = v k by rw [hvd]]
      have fin : ∀ B, B = pw_bst v p (k + 1) → g (nI B.1) (nI B.2) (nI (k + 1)) = some (nI (pw_bst v p 64).1, st1) := fun B hB => ih _ _ _ ⟨k + 1, by omega, by omega, rfl, by rw [hB], by rw [hB]⟩ (by rw [nI_clamp (by omega), nI_clamp (by omega)]; omega)
      have hkl : k &&& x.2.2.2.2 < 64 := Nat.lt_of_le_of_lt Nat.and_le_left (by omega)
      by_cases hz : k &&& x.2.2.2.2 = 0
      · have hpk : p k = true := by rw [hp]; unfold pw_free; rw [hz, decide_eq_true (by omega)]; rfl
        rw [if_pos (by rw [hz]; rfl)]
        by_cases hl : (pw_bst v p k).1 < v k
        · rw [if_neg (show ¬ nI (v k) ≤ nI (pw_bst v p k).1 from nI_ge hl (by have := hv99 k; omega))]
          exact fin (v k, k) (by rw [hst1, if_pos ⟨hpk, hl⟩])
        · rw [if_pos (show nI (v k) ≤ nI (pw_bst v p k).1 from nI_le (by omega) (by have := (hB k).1; omega))]
          exact fin _ (by rw [hst1, if_neg (fun z => hl z.2)])
      · have hpk : p k = false := by rw [hp]; unfold pw_free; simp [hz]
        rw [if_neg (show ¬ nI (k &&& x.2.2.2.2) = 0 from fun z => hz ((nI_eq (b := 0) (by omega) (by decide)).mp z))]
        exact fin _ (by rw [hst1, if_neg (fun z => by rw [hpk] at z; exact absurd z.1 (by decide))])
  unfold j_X6_most
  rw [hm1.1.1, if_neg n0]
  refine lz3_ind (Φ := fun o => ∃ s2 : sw_St, o = some (nI (pw_bst v p 64).1, s2) ∧ tr9 st1 s2 ∧ s2.1 63 9 = nI (pw_bst v p 64).2) (fun _ i _ => 100 - i.toNatClampNeg) (fun a c s => ∃ k, k ≤ 64 ∧ c = nI k ∧ ((k = 0 ∧ a = -1) ∨ (1 ≤ k ∧ a = nI (pw_bst v p k).1 ∧ s.1 63 9 = nI (pw_bst v p k).2)) ∧ tr9 st1 s) (fun g a c s hq ih => ?_) F _ _ _ ⟨0, by omega, rfl, Or.inl ⟨rfl, rfl⟩, tr9.rf st1⟩ (by show 100 - 0 < F; omega)
  obtain ⟨k, hk64, rfl, ha, a9⟩ := hq
  by_cases q : k = 64
  · subst q
    rw [if_pos (by decide)]
    rcases ha with ⟨hk0, -⟩ | ⟨-, h2, h3⟩
    · exact absurd hk0 (by decide)
    · exact ⟨s, by rw [h2], a9, h3⟩
  have hmk := mS_t9 a9 hm1
  have htk := TR_t9 a9 ht1
  rw [if_neg (show ¬ (64 : Int32) ≤ nI k from nI_ge (b := 64) (by omega) (by decide)), isOut6 hn hs hmk.1.1 htk.2.2.2.2 (by omega), bo_some]
  simp only [jn, nm]
  rw [nI_1]
  have fin : ∀ (B : Nat × Nat) (s3 : sw_St), B = pw_bst v p (k + 1) → tr9 st1 s3 → ∃ s2 : sw_St, g (nI B.1) (nI (k + 1)) (sw_setC s3 63 9 (nI B.2)) = some (nI (pw_bst v p 64).1, s2) ∧ tr9 st1 s2 ∧ s2.1 63 9 = nI (pw_bst v p 64).2 := fun B s3 hB h3 => ih _ _ _ ⟨k + 1, by omega, rfl, Or.inr ⟨by omega, by rw [hB], by rw [gsC, if_pos ⟨rfl, rfl⟩, hB]⟩, h3.C _⟩ (by rw [nI_clamp (by omega), nI_clamp (by omega)]; omega)
  by_cases hpk : p k = true
  · have hpk' : pw_free n x.2.2.2.2 k = true := by rw [← hp]; exact hpk
    obtain ⟨s3, j3, a3⟩ := wb6 (F := F) (S := k) hF hv hmk hG hx htk (by omega)
    have a39 := a9.tr a3.t9
    rw [if_pos hpk', if_neg (by decide), j3, bd_some, show (pw_cms n kd sg G k n x).1 = v k by rw [hvd]]
    rcases ha with ⟨hk0, h2⟩ | ⟨hk1, h2, h3⟩
    · subst hk0
      rw [h2, if_neg (show ¬ nI (v 0) ≤ -1 by rw [i_le, nI_tI (by have := hv99 0; omega)]; show ¬ ((v 0 : Nat) : Int) ≤ -1; omega), if_neg (show ¬ nI (v 0) ≤ -1 by rw [i_le, nI_tI (by have := hv99 0; omega)]; show ¬ ((v 0 : Nat) : Int) ≤ -1; omega)]
      exact fin (v 0, 0) s3 (by rw [show 0 + 1 = 1 from rfl, b1]) a39
    · rw [h2]
      by_cases hl : (pw_bst v p k).1 < v k
      · have hng : ¬ nI (v k) ≤ nI (pw_bst v p k).1 := nI_ge hl (by have := hv99 k; omega)
        rw [if_neg hng, if_neg hng]
        exact fin (v k, k) s3 (by rw [hst1, if_pos ⟨hpk, hl⟩]) a39
      · have hng : nI (v k) ≤ nI (pw_bst v p k).1 := nI_le (by omega) (by have := (hB k).1; omega)
        rw [if_pos hng, if_pos hng, show s3.1 63 9 = nI (pw_bst v p k).2 by rw [a3.1 63 (by decide), h3]]
        exact fin _ s3 (by rw [hst1, if_neg (fun z => hl z.2)]) a39
  · have hpk' : ¬ pw_free n x.2.2.2.2 k = true := by rw [← hp]; exact hpk
    rw [if_neg hpk', if_pos rfl]
    rcases ha with ⟨hk0, h2⟩ | ⟨hk1, h2, h3⟩
    · subst hk0
      exact absurd (by rw [hp]; exact free_0) hpk
    · have hng : (-1 : Int32) ≤ nI (pw_bst v p k).1 := by
        rw [i_le, nI_tI (by have := (hB k).1; omega)]
        show (-1 : Int) ≤ _
        omega
      rw [h2, if_pos hng, if_pos hng, h3]
      exact fin _ s (by rw [hst1, if_neg (fun z => hpk z.1)]) a9
