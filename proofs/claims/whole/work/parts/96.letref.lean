theorem power6 {F n k : Nat} {st : sw_St} (hF : 20000 ≤ F) (h1 : st.1 63 1 = nI n) (hk : k ≤ 5) : j_X6_power F (nI k) st = some (nI ((n + 1) ^ k)) := by
  unfold j_X6_power
  refine lz2_ind (Φ := fun o => o = some (nI ((n + 1) ^ k))) (fun _ i => 100 - i.toNatClampNeg) (fun u c => ∃ i, i ≤ k ∧ c = nI i ∧ u = nI ((n + 1) ^ i)) (fun g u c hp ih => ?_) F 1 0 ⟨0, by omega, rfl, rfl⟩ (by show 100 - 0 < F; omega)
  obtain ⟨i, hi, rfl, rfl⟩ := hp
  rcases Nat.lt_or_ge i k with q | q
  · rw [if_neg (show ¬ nI k ≤ nI i from nI_ge q (by omega)), h1, nI_1, pk_mul, nm_eq, nm_eq, nI_1]
    exact ih _ _ ⟨i + 1, q, rfl, by rw [Nat.pow_succ]⟩ (by rw [nI_clamp (by omega), nI_clamp (by omega)]; omega)
  · have e : i = k := by omega
    subst e
    rw [if_pos (show nI i ≤ nI i from nI_le (Nat.le_refl i) (by omega))]
theorem pow7 {n k : Nat} (hn : n ≤ 6) (hk : k ≤ 5) : (n + 1) ^ k ≤ 16807 ∧ 0 < (n + 1) ^ k := by
  refine ⟨?_, Nat.pow_pos (by omega)⟩
  have h1 : (n + 1) ^ k ≤ 7 ^ k := Nat.pow_le_pow_left (by omega) k
  have h2 : 7 ^ k ≤ 7 ^ 5 := Nat.pow_le_pow_right (by decide) hk
  have : (7 : Nat) ^ 5 = 16807 := by decide
  omega
theorem who6 {F n L c t : Nat} {st : sw_St} (hF : 20000 ≤ F) (hn : n ≤ 6) (h1 : st.1 63 1 = nI n) (hL : L ≤ 5) (ht : t < L) (hc : c < 20000) : j_X6_whoOf F (nI c) (nI L) (nI t) st = some (pw_wh n L c t) := by
  have hp := pow7 hn (show L - 1 - t ≤ 5 by omega)
  have hd : c / (n + 1) ^ (L - 1 - t) ≤ c := Nat.div_le_self _ _
  unfold j_X6_whoOf pw_wh
  rw [show (1 : Int32) = nI 1 from rfl, pk_sub (show 1 ≤ L by omega), pk_sub (show t ≤ L - 1 by omega), power6 hF h1 (by omega), bo_some, h1, nI_add, grd_y (show ¬ nI ((n + 1) ^ (L - 1 - t)) = 0 from fun z => by have := (nI_eq (b := 0) (by omega) (by decide)).mp z; omega), grd_y (show ¬ nI (n + 1) = 0 from fun z => by have := (nI_eq (b := 0) (by omega) (by decide)).mp z; omega), pk_div (by omega) hp.2 (by omega), pk_rem (by omega) (by omega) (by omega), nm_eq]
  simp only [jn]
  have hm := Nat.mod_lt (c / (n + 1) ^ (L - 1 - t)) (show 0 < n + 1 by omega)
  by_cases z : c / (n + 1) ^ (L - 1 - t) % (n + 1) = 0
  · rw [if_pos (by rw [z]; rfl), if_pos z]
  · rw [if_neg (show ¬ nI _ = 0 from fun y => z ((nI_eq (b := 0) (by omega) (by decide)).mp y)), if_neg z, pk_sub (by omega)]
/-- trial, and what is counted of a letting -/
def trL (st s : sw_St) : Prop := (∀ a, a ≠ 63 → a ≠ 64 → s.1 a = st.1 a) ∧ (∀ i, (i < 23 ∨ 26 ≤ i) → s.1 63 i = st.1 63 i) ∧ (∀ i, i < 828 → s.1 64 i = st.1 64 i) ∧ s.2 = st.2
theorem trL.rf (st : sw_St) : trL st st := ⟨fun _ _ _ => rfl, fun _ _ => rfl, fun _ _ => rfl, rfl⟩
theorem trL.tr {st s s2 : sw_St} (h : trL st s) (h2 : trL s s2) : trL st s2 := ⟨fun a h63 h64 => (h2.1 a h63 h64).trans (h.1 a h63 h64), fun i hi => (h2.2.1 i hi).trans (h.2.1 i hi), fun i hi => (h2.2.2.1 i hi).trans (h.2.2.1 i hi), h2.2.2.2.trans h.2.2.2⟩
theorem tri.tL {st s : sw_St} (h : tri st s) : trL st s := ⟨fun a _ h64 => h.1 a h64, fun i _ => by rw [h.1 63 (by decide)], h.2.1, h.2.2⟩
theorem trL.C {st s : sw_St} (h : trL st s) {k : Nat} (v : Int32) (hk : 23 ≤ k ∧ k < 26) : trL st (sw_setC s 63 k v) := ⟨fun a h63 h64 => by rw [gsC_ne _ _ _ h63]; exact h.1 a h63 h64, fun i hi => by rw [gsC, if_neg (by omega)]; exact h.2.1 i hi, fun i hi => by rw [gsC_ne _ _ _ (by decide)]; exact h.2.2.1 i hi, h.2.2.2⟩
theorem mS_tL {st st1 : sw_St} {n G : Nat} {kd sg bd : Nat → Nat} (h : trL st st1) (hm : mS st n kd sg bd G) : mS st1 n kd sg bd G := by
  unfold mS pw_st
  rw [h.2.1 1 (by decide), h.1 65 (by decide) (by decide), h.1 66 (by decide) (by decide), h.1 67 (by decide) (by decide), h.2.2.1 6 (by decide)]
  exact hm
theorem sk_0 {f w : Nat} (h : w ≤ 99) : (nI (pw_sk f w) ≤ 0) ↔ w = 0 := by
  have := sk_le (f := f) h
  rw [pos_iff (by omega)]
  unfold pw_sk
  by_cases z : w = 0
  · rw [if_pos z]; exact ⟨fun _ => z, fun _ => rfl⟩
  · rw [if_neg z]; exact ⟨fun y => by omega, fun y => absurd y z⟩
/-- one letting on the reference's side -/
theorem letting6 {F n L c : Nat} {kd sg br : Nat → Nat} {fw ff G : Nat} {x : pw_D} {st : sw_St} (hF : 20000 ≤ F) (H : HR st n kd sg br fw ff G x) (hL : L ≤ 5) (hc : c < 20000) (hcL : c < (n + 1) ^ L) : (∃ y s, pw_lw n kd sg br G x L c = some y ∧ j_X6_isLetting F (nI c) (nI L) st = some (1, s) ∧ TR s 828 y.1 ∧ s.1 63 23 = nI y.2.1 ∧ s.1 63 24 = nI y.2.2.1 ∧ s.1 63 25 = nI y.2.2.2 ∧ trL st s) ∨ (∃ s, pw_lw n kd sg br G x L c = none ∧ j_X6_isLetting F (nI c) (nI L) st = some (0, s) ∧ trL st s) := by
  have hn := H.hv.1
  obtain ⟨s2, j2, t2, a2⟩ := lay6 (F := F) hF H.ht
  unfold j_X6_isLetting
  rw [j2, bd_some, nm_eq, nm_eq, nm_eq]
  refine lz2_ind (Φ := fun o => (∃ y s, pw_lw n kd sg br G x L c = some y ∧ o = some (1, s) ∧ TR s 828 y.1 ∧ s.1 63 23 = nI y.2.1 ∧ s.1 63 24 = nI y.2.2.1 ∧ s.1 63 25 = nI y.2.2.2 ∧ trL st s) ∨ (∃ s, pw_lw n kd sg br G x L c = none ∧ o = some (0, s) ∧ trL st s)) (fun i _ => 100 - i.toNatClampNeg) (fun u s => ∃ t y, t ≤ L ∧ u = nI t ∧ pw_lw n kd sg br G x t (c / (n + 1) ^ (L - t)) = some y ∧ TR s 828 y.1 ∧ s.1 63 23 = nI y.2.1 ∧ s.1 63 24 = nI y.2.2.1 ∧ s.1 63 25 = nI y.2.2.2 ∧ trL st s) (fun g u s hp ih => ?_) F 0 _ ⟨0, (x, 0, 0, 0), by omega, rfl, rfl, ?_, ?_, ?_, ?_, ((a2.tL.C 0 (by decide)).C 0 (by decide)).C 0 (by decide)⟩ (by show 100 - 0 < F; omega)
  · obtain ⟨t, y, ht, rfl, hy, ty, y23, y24, y25, hr⟩ := hp
    obtain ⟨i1, i2, i3, i4, i5, i6, i7, i8⟩ := lw_ok H.hv H.hx H.hx3 (show t ≤ 5 by omega) _ y hy
    have hs := ok64 hn i1.2.2.2.2
    have hm := mS_tL hr H.hm
    rcases Nat.lt_or_ge t L with q | q
    · have hq : c / (n + 1) ^ (L - (t + 1)) / (n + 1) = c / (n + 1) ^ (L - t) := by
        rw [Nat.div_div_eq_div_mul, ← Nat.pow_succ, show (L - (t + 1)).succ = L - t by omega]
      have hlw := lw_s (q := c / (n + 1) ^ (L - (t + 1))) (by rw [hq]; exact hy)
      obtain ⟨d, hd⟩ : ∃ d, d = c / (n + 1) ^ (L - (t + 1)) % (n + 1) := ⟨_, rfl⟩
      have hdl : d < n + 1 := by rw [hd]; exact Nat.mod_lt _ (by omega)
      rw [← hd] at hlw
      have hwh : pw_wh n L c t = if d = 0 then -9 else nI (d - 1) := by
        unfold pw_wh
        rw [show L - 1 - t = L - (t + 1) by omega, ← hd]
      rw [if_neg (show ¬ nI L ≤ nI t from nI_ge q (by omega)), who6 hF hn hm.1.1 hL q hc, bo_some, hwh]
      simp only [jn]
      -- the hour
      have hour : ∀ (D : pw_D) (b m : Nat) (s' : sw_St), okx n D → D.2.2.1 + 1 ≤ 1000 → TR s' 828 D → s'.1 63 23 = nI b → s'.1 63 24 = nI m → s'.1 63 25 = nI y.2.2.2 → trL st s' → pw_lw n kd sg br G x (t + 1) (c / (n + 1) ^ (L - (t + 1))) = some (pw_ps D, b, m, y.2.2.2 + (if D.1 = 0 then 0 else 1)) → (∃ y s, pw_lw n kd sg br G x L c = some y ∧ (bd (j_X6_pass F 828 s') (fun (r17 : Int32) (s18 : sw_St) => (if r17 ≤ 0 then (nm (sw_setC s18 63 25 ((s'.1 63 25) + 0)) (fun (s22 : sw_St) => nm (nI t + 1) (fun (x23 : Int32) => g x23 s22))) else (nm (sw_setC s18 63 25 ((s'.1 63 25) + 1)) (fun (s22 : sw_St) => nm (nI t + 1) (fun (x23 : Int32) => g x23 s22)))))) = some (1, s) ∧ TR s 828 y.1 ∧ s.1 63 23 = nI y.2.1 ∧ s.1 63 24 = nI y.2.2.1 ∧ s.1 63 25 = nI y.2.2.2 ∧ trL st s) ∨ (∃ s, pw_lw n kd sg br G x L c = none ∧ (bd (j_X6_pass F 828 s') (fun (r17 : Int32) (s18 : sw_St) => (if r17 ≤ 0 then (nm (sw_setC s18 63 25 ((s'.1 63 25) + 0)) (fun (s22 : sw_St) => nm (nI t + 1) (fun (x23 : Int32) => g x23 s22))) else (nm (sw_setC s18 63 25 ((s'.1 63 25) + 1)) (fun (s22 : sw_St) => nm (nI t + 1) (fun (x23 : Int32) => g x23 s22)))))) = some (0, s) ∧ trL st s) := by
        intro D b m s' hD hD3 hT h23 h24 h25 hr' hl
        obtain ⟨s3, j3, t3, a3⟩ := pass6 (F := F) (b := 828) (Or.inr rfl) hD hT
        have hr3 := hr'.tr a3.tri.tL
        have e63 : ∀ i, s3.1 63 i = s'.1 63 i := fun i => by rw [a3.1 63 (by decide)]
        rw [show (828 : Int32) = nI 828 from rfl, j3, bd_some, h25, nm_eq, nm_eq, nm_eq, nm_eq, nI_1]
        have fin : ∀ v, v = nI (y.2.2.2 + (if D.1 = 0 then 0 else 1)) → (∃ y s, pw_lw n kd sg br G x L c = some y ∧ g (nI (t + 1)) (sw_setC s3 63 25 v) = some (1, s) ∧ TR s 828 y.1 ∧ s.1 63 23 = nI y.2.1 ∧ s.1 63 24 = nI y.2.2.1 ∧ s.1 63 25 = nI y.2.2.2 ∧ trL st s) ∨ (∃ s, pw_lw n kd sg br G x L c = none ∧ g (nI (t + 1)) (sw_setC s3 63 25 v) = some (0, s) ∧ trL st s) := fun v hv => by
          refine ih _ _ ⟨t + 1, _, q, rfl, hl, ?_, ?_, ?_, ?_, hr3.C _ (by decide)⟩ (by rw [nI_clamp (by omega), nI_clamp (by omega)]; omega)
          · unfold TR
            rw [gsC_ne _ _ _ (by decide)]
            exact t3
          · rw [gsC, if_neg (by decide), e63, h23]
          · rw [gsC, if_neg (by decide), e63, h24]
          · rw [gsC, if_pos ⟨rfl, rfl⟩, hv]
        by_cases z : D.1 = 0
        · rw [if_pos ((sk_0 hD.1).mpr z)]
          exact fin _ (by rw [if_pos z]; exact nI_add _ 0)
        · rw [if_neg (fun w => z ((sk_0 hD.1).mp w))]
          exact fin _ (by rw [if_neg z]; exact nI_add _ 1)
      have hx3 := H.hx3
      by_cases d0 : d = 0
      · rw [if_pos d0, if_pos rfl]
        refine hour y.1 y.2.1 y.2.2.1 s i1 (by omega) ty y23 y24 y25 hr ?_
        rw [hlw, d0]
        rfl
      · have hj : d - 1 < n := by omega
        rw [if_neg d0, if_neg (nI_ne9 (by omega)), show (828 : Int32) = nI 828 from rfl, isIn6 (b := 828) ty.2.2.2.2 (by omega) hs (by omega), bo_some]
        cases hb : y.1.2.2.2.2.testBit (d - 1)
        · obtain ⟨s3, j3, t3, a3⟩ := comesIn6 (b := 828) (i := d - 1) hF H.hv hm H.hG (Or.inr rfl) hj i1 ty
          have e63 : ∀ i, s3.1 63 i = s.1 63 i := fun i => by rw [a3.1 63 (by decide)]
          rw [if_neg (show ¬ false = true by decide), if_pos rfl, j3, bd_some, bnd_nI (show d - 1 < 6 by omega) (by decide), nI_clamp (show d - 1 < 2 ^ 31 by omega), nm_eq, nm_eq, gsC, if_neg (by decide), e63, e63, y23, y24, a3.1 67 (by decide), (hm.1.2 _ hj).2.2, nI_add, nI_1]
          have hcm := cm_ok (G := G) H.hv hj i1
          refine hour (pw_cm n kd sg G (d - 1) y.1) (y.2.1 + br (d - 1)) (y.2.2.1 + 1) _ hcm (by show y.1.2.2.1 + 1 ≤ 1000; omega) ?_ ?_ ?_ ?_ (((hr.tr a3.tri.tL).C _ (by decide)).C _ (by decide)) ?_
          · unfold TR
            rw [gsC_ne _ _ _ (by decide), gsC_ne _ _ _ (by decide)]
            exact t3
          · rw [gsC, if_neg (by decide), gsC, if_pos ⟨rfl, rfl⟩]
          · rw [gsC, if_pos ⟨rfl, rfl⟩]
          · rw [gsC, if_neg (by decide), gsC, if_neg (by decide), e63, y25]
          · rw [hlw]
            unfold pw_stp
            rw [if_neg d0, hb]
            rfl
        · rw [if_pos (show true = true from rfl), if_neg (show ¬ (1 : Int32) = 0 by decide)]
          refine Or.inr ⟨s, ?_, rfl, hr⟩
          have hnone : pw_lw n kd sg br G x (t + 1) (c / (n + 1) ^ (L - (t + 1))) = none := by
            rw [hlw]
            unfold pw_stp
            rw [if_neg d0, hb]
            rfl
          have := lw_none hnone (L - (t + 1)) c rfl
          rw [show t + 1 + (L - (t + 1)) = L by omega] at this
          exact this
    · have e : t = L := by omega
      subst e
      rw [Nat.sub_self, Nat.pow_zero, Nat.div_one] at hy
      rw [if_pos (show nI t ≤ nI t from nI_le (Nat.le_refl t) (by omega))]
      exact Or.inl ⟨y, s, hy, rfl, ty, y23, y24, y25, hr⟩
  · unfold TR
    rw [gsC_ne _ _ _ (by decide), gsC_ne _ _ _ (by decide), gsC_ne _ _ _ (by decide)]
    exact t2
  · rw [gsC, if_neg (by decide), gsC, if_neg (by decide), gsC, if_pos ⟨rfl, rfl⟩]; rfl
  · rw [gsC, if_neg (by decide), gsC, if_pos ⟨rfl, rfl⟩]; rfl
  · rw [gsC, if_pos ⟨rfl, rfl⟩]; rfl
