/-- strangers of a set come in, one after another -/
def pw_cms (n : Nat) (kd sg : Nat → Nat) (G S : Nat) : Nat → pw_D → pw_D
  | 0, x => x
  | k + 1, x => if S.testBit k then pw_cm n kd sg G k (pw_cms n kd sg G S k x) else pw_cms n kd sg G S k x
theorem cms_ok {n G S k : Nat} {kd sg bd : Nat → Nat} {fw ff : Nat} {x : pw_D} (hv : pw_stat n kd sg bd fw ff) (hk : k ≤ n) (h : okx n x) : okx n (pw_cms n kd sg G S k x) := by
  induction k with
  | zero => exact h
  | succ k ih =>
    show okx n (if S.testBit k then _ else _)
    split
    · exact cm_ok hv (by omega) (ih (by omega))
    · exact ih (by omega)
theorem cms_h {n G S k : Nat} {kd sg : Nat → Nat} {x : pw_D} : (pw_cms n kd sg G S k x).2.1 = x.2.1 ∧ (pw_cms n kd sg G S k x).2.2.1 = x.2.2.1 ∧ (pw_cms n kd sg G S k x).2.2.2.1 = x.2.2.2.1 := by
  induction k with
  | zero => exact ⟨rfl, rfl, rfl⟩
  | succ k ih =>
    show (if S.testBit k then pw_cm n kd sg G k (pw_cms n kd sg G S k x) else _).2.1 = _ ∧ (if S.testBit k then pw_cm n kd sg G k (pw_cms n kd sg G S k x) else _).2.2.1 = _ ∧ (if S.testBit k then pw_cm n kd sg G k (pw_cms n kd sg G S k x) else _).2.2.2.1 = _
    split
    · exact ih
    · exact ih
theorem wbs5 {F t n G S : Nat} {kd sg bd : Nat → Nat} {fw ff : Nat} {x : pw_D} {st : sw_St} (hF : 20000 ≤ F) (hv : pw_stat n kd sg bd fw ff) (hc : cS st t n kd sg bd G) (hx : okx n x) (h7 : st.1 t 7 = nI x.1) (h11 : st.1 t 11 = nI x.2.2.2.2) (hS : S < 64) : j_X4_woundBySet F t (nI S) st = some (nI (pw_cms n kd sg G S n x).1) := by
  have hn := hv.1
  unfold j_X4_woundBySet
  simp only [nm]
  rw [h7, h11]
  refine lz3_ind (Φ := fun o => o = some (nI (pw_cms n kd sg G S n x).1)) (fun _ _ i => n - i.toNatClampNeg) (fun a b c => ∃ i, i ≤ n ∧ c = nI i ∧ a = nI (pw_cms n kd sg G S i x).1 ∧ b = nI (pw_cms n kd sg G S i x).2.2.2.2) (fun g a b c hp ih => ?_) F _ _ _ ⟨0, by omega, rfl, rfl, rfl⟩ (by show n - 0 < F; omega)
  obtain ⟨i, hi, rfl, rfl, rfl⟩ := hp
  rw [hc.1]
  have hx1 := cms_ok (G := G) (S := S) (k := i) hv (by omega) hx
  rcases Nat.lt_or_ge i n with q | q
  · rw [if_neg (show ¬ nI n ≤ nI i from nI_ge q (by omega)), b_get hS (by omega), woundBy5 hF hv hc q hx1.1 (ok64 hn hx1.2.2.2.2), b_one (by omega)]
    simp only [jn, bo_some]
    rw [b_or (ok64 hn hx1.2.2.2.2) (by omega), nI_1]
    have hs : pw_cms n kd sg G S (i + 1) x = if S.testBit i then pw_cm n kd sg G i (pw_cms n kd sg G S i x) else pw_cms n kd sg G S i x := rfl
    by_cases z : S.testBit i = true
    · rw [if_pos (one_eq.mpr z)]
      rw [if_pos z] at hs
      exact ih _ _ _ ⟨i + 1, q, rfl, by rw [hs]; rfl, by rw [hs]; rfl⟩ (by rw [nI_clamp (by omega), nI_clamp (by omega)]; omega)
    · rw [if_neg (fun w => z (one_eq.mp w))]
      rw [if_neg z] at hs
      exact ih _ _ _ ⟨i + 1, q, rfl, by rw [hs], by rw [hs]⟩ (by rw [nI_clamp (by omega), nI_clamp (by omega)]; omega)
  · have e : i = n := by omega
    subst e
    rw [if_pos (show nI i ≤ nI i from nI_le (Nat.le_refl i) (by omega))]
theorem come6 {F n G S : Nat} {kd sg bd : Nat → Nat} {fw ff : Nat} {x : pw_D} {st : sw_St} (hF : 20000 ≤ F) (hv : pw_stat n kd sg bd fw ff) (hm : mS st n kd sg bd G) (hG : G < 64) (hx : okx n x) (ht : TR st 828 x) (hS : S < 64) : ∃ st1, j_X6_comeTried F (nI S) st = some ((), st1) ∧ TR st1 828 (pw_cms n kd sg G S n x) ∧ at6 828 st st1 := by
  have hn := hv.1
  unfold j_X6_comeTried
  refine lz2_ind (Φ := fun o => ∃ st1, o = some ((), st1) ∧ TR st1 828 (pw_cms n kd sg G S n x) ∧ at6 828 st st1) (fun i _ => n - i.toNatClampNeg) (fun c s => ∃ i, i ≤ n ∧ c = nI i ∧ TR s 828 (pw_cms n kd sg G S i x) ∧ at6 828 st s) (fun g c s hp ih => ?_) F _ _ ⟨0, by omega, rfl, ht, at6.rf 828 st⟩ (by show n - 0 < F; omega)
  obtain ⟨i, hi, rfl, ht1, a1⟩ := hp
  have hms := mS_at a1 (Or.inr rfl) hm
  rw [hms.1.1]
  have hx1 := cms_ok (G := G) (S := S) (k := i) hv (by omega) hx
  rcases Nat.lt_or_ge i n with q | q
  · have hs : pw_cms n kd sg G S (i + 1) x = if S.testBit i then pw_cm n kd sg G i (pw_cms n kd sg G S i x) else pw_cms n kd sg G S i x := rfl
    rw [if_neg (show ¬ nI n ≤ nI i from nI_ge q (by omega)), has6 hS (by omega), bo_some]
    simp only [jn, nm]
    rw [nI_1]
    by_cases z : S.testBit i = true
    · rw [if_pos z] at hs ⊢
      obtain ⟨s1, j1, r1, b1⟩ := comesIn6 (b := 828) hF hv hms hG (Or.inr rfl) q hx1 ht1
      rw [if_neg (by decide), show (828 : Int32) = nI 828 from rfl, j1, bd_some]
      exact ih _ _ ⟨i + 1, q, rfl, by rw [hs]; exact r1, a1.tr b1⟩ (by rw [nI_clamp (by omega), nI_clamp (by omega)]; omega)
    · rw [if_neg z] at hs ⊢
      rw [if_pos rfl]
      exact ih _ _ ⟨i + 1, q, rfl, by rw [hs]; exact ht1, a1⟩ (by rw [nI_clamp (by omega), nI_clamp (by omega)]; omega)
  · have e : i = n := by omega
    subst e
    rw [if_pos (show nI i ≤ nI i from nI_le (Nat.le_refl i) (by omega))]
    exact ⟨s, rfl, ht1, a1⟩
/-- only the trial's places of the reference's row changed -/
def tri (st st1 : sw_St) : Prop := (∀ a, a ≠ 64 → st1.1 a = st.1 a) ∧ (∀ i, i < 828 → st1.1 64 i = st.1 64 i) ∧ st1.2 = st.2
theorem tri.rf (st : sw_St) : tri st st := ⟨fun _ _ => rfl, fun _ _ => rfl, rfl⟩
theorem tri.tr {st st1 st2 : sw_St} (h : tri st st1) (h2 : tri st1 st2) : tri st st2 := ⟨fun a ha => (h2.1 a ha).trans (h.1 a ha), fun i hi => (h2.2.1 i hi).trans (h.2.1 i hi), h2.2.2.trans h.2.2⟩
theorem at6.tri {st st1 : sw_St} (h : at6 828 st st1) : tri st st1 := ⟨h.1, fun i hi => h.2.1 i (by omega), h.2.2⟩
theorem mS_tri {st st1 : sw_St} {n G : Nat} {kd sg bd : Nat → Nat} (h : tri st st1) (hm : mS st n kd sg bd G) : mS st1 n kd sg bd G := by
  unfold mS pw_st
  rw [h.1 63 (by decide), h.1 65 (by decide), h.1 66 (by decide), h.1 67 (by decide), h.2.1 6 (by decide)]
  exact hm
theorem II_tri {st st1 : sw_St} (hI : II st) (h : tri st st1) : II st1 := by
  refine ⟨IR_c (fun a ha => h.1 a ((by decide : ∀ a, a ∈ [2, 3, 4, 5, 6, 7, 8, 68, 69] → a ≠ 64) a ha)) hI.1, IT_c (fun a ha => h.1 a ((by decide : ∀ a, a ∈ [10, 11, 12, 13, 14, 70, 71] → a ≠ 64) a ha)) hI.2.1, IA_c (fun a ha => h.1 a ((by decide : ∀ a, a ∈ [0, 62, 63, 72] → a ≠ 64) a ha)) (by rw [h.2.2]) hI.2.2.1, IW_c (fun a ha => h.1 a ((by decide : ∀ a, a ∈ cW → a ≠ 64) a ha)) (by rw [h.1 63 (by decide)]) h.2.1 hI.2.2.2⟩
theorem lay6 {F : Nat} {x : pw_D} {st : sw_St} (hF : 20000 ≤ F) (ht : TR st 0 x) : ∃ st1, j_X6_layTried F st = some ((), st1) ∧ TR st1 828 x ∧ tri st st1 := by
  unfold j_X6_layTried
  refine lz2_ind (Φ := fun o => ∃ st1 : sw_St, o = some ((), st1) ∧ TR st1 828 x ∧ tri st st1) (fun x _ => 7 - x.toNatClampNeg) (fun x s => ∃ i, i ≤ 7 ∧ x = nI i ∧ (∀ j, j < i → s.1 64 (828 + j) = st.1 64 j) ∧ tri st s) (fun g x s hp ih => ?_) F 0 st ⟨0, by omega, rfl, fun j hj => absurd hj (Nat.not_lt_zero j), tri.rf st⟩ (by show 7 - 0 < F; omega)
  obtain ⟨i, hi, rfl, p1, p2⟩ := hp
  rcases Nat.lt_or_ge i 7 with q | q
  · rw [if_neg (show ¬ (7 : Int32) ≤ nI i from nI_ge q (by decide)), show (828 : Int32) + nI i = nI (828 + i) from nI_add 828 i, bnd_nI (by omega) (by decide), bnd_nI (by omega) (by decide), nI_clamp (by omega), nI_clamp (by omega)]
    simp only [nm]
    rw [nI_1]
    refine ih _ _ ⟨i + 1, by omega, rfl, fun j hj => ?_, fun a ha => ?_, fun k hk => ?_, p2.2.2⟩ ?_
    · rw [gsC]
      by_cases e : j = i
      · subst e
        rw [if_pos ⟨rfl, rfl⟩, p2.2.1 _ (by omega)]
      · rw [if_neg (by omega)]
        exact p1 j (by omega)
    · rw [gsC_ne _ _ _ ha]
      exact p2.1 a ha
    · rw [gsC, if_neg (by omega)]
      exact p2.2.1 k hk
    · rw [nI_clamp (by omega), nI_clamp (by omega)]
      omega
  · have e : i = 7 := by omega
    subst e
    rw [if_pos (show (7 : Int32) ≤ nI 7 by decide)]
    obtain ⟨t1, t2, t3, t4, t5⟩ := ht
    exact ⟨s, rfl, ⟨(p1 1 (by decide)).trans t1, (p1 2 (by decide)).trans t2, (p1 3 (by decide)).trans t3, (p1 4 (by decide)).trans t4, (p1 5 (by decide)).trans t5⟩, p2⟩
theorem TR_tri {st st1 : sw_St} {x : pw_D} (h : tri st st1) (ht : TR st 0 x) : TR st1 0 x := by
  unfold TR
  rw [h.2.1 _ (by decide), h.2.1 _ (by decide), h.2.1 _ (by decide), h.2.1 _ (by decide), h.2.1 _ (by decide)]
  exact ht
/-- what a set would wind, on the reference's side -/
theorem wb6 {F n G S : Nat} {kd sg bd : Nat → Nat} {fw ff : Nat} {x : pw_D} {st : sw_St} (hF : 20000 ≤ F) (hv : pw_stat n kd sg bd fw ff) (hm : mS st n kd sg bd G) (hG : G < 64) (hx : okx n x) (ht : TR st 0 x) (hS : S < 64) : ∃ st1, j_X6_woundBy F (nI S) st = some (nI (pw_cms n kd sg G S n x).1, st1) ∧ tri st st1 := by
  obtain ⟨s1, j1, t1, a1⟩ := lay6 hF ht
  obtain ⟨s2, j2, t2, a2⟩ := come6 hF hv (mS_tri a1 hm) hG hx t1 hS
  refine ⟨s2, ?_, a1.tr a2.tri⟩
  unfold j_X6_woundBy
  rw [j1, bd_some, j2, bd_some, show s2.1 64 829 = nI _ from t2.1]
/-- hours passed one after another -/
def pw_lft (f w : Nat) : Nat := (w + f) / (1 + f)
def pw_psk (k : Nat) (x : pw_D) : pw_D := (x.1 - k * (1 + x.2.2.2.1), (x.2.1 + min k (pw_lft x.2.2.2.1 x.1)) % 12, x.2.2.1 + k, x.2.2.2.1, x.2.2.2.2)
theorem lft_lt {f w k : Nat} : k < pw_lft f w ↔ k * (1 + f) < w := by
  unfold pw_lft
  rw [Nat.lt_iff_add_one_le, Nat.le_div_iff_mul_le (by omega), Nat.add_mul]
  omega
theorem psk_0 {n : Nat} {x : pw_D} (h : okx n x) : pw_psk 0 x = x := by
  unfold pw_psk
  rw [Nat.zero_mul, Nat.zero_min, Nat.add_zero, Nat.add_zero, Nat.mod_eq_of_lt h.2.1]
  rfl
theorem psk_s {k : Nat} {x : pw_D} : pw_ps (pw_psk k x) = pw_psk (k + 1) x := by
  obtain ⟨w, c, h, f, s⟩ := x
  show (w - k * (1 + f) - (1 + f), (if 0 < w - k * (1 + f) then ((c + min k (pw_lft f w)) % 12 + 1) % 12 else (c + min k (pw_lft f w)) % 12), h + k + 1, f, s) = (w - (k + 1) * (1 + f), (c + min (k + 1) (pw_lft f w)) % 12, h + (k + 1), f, s)
  have e : (k + 1) * (1 + f) = k * (1 + f) + (1 + f) := Nat.succ_mul k (1 + f)
  have q := lft_lt (f := f) (w := w) (k := k)
  refine Prod.ext (by show _ = w - (k + 1) * (1 + f); omega) (Prod.ext ?_ rfl)
  show (if 0 < w - k * (1 + f) then ((c + min k (pw_lft f w)) % 12 + 1) % 12 else (c + min k (pw_lft f w)) % 12) = (c + min (k + 1) (pw_lft f w)) % 12
  by_cases z : k * (1 + f) < w
  · rw [if_pos (by omega)]
    have := q.mpr z
    rw [Nat.min_eq_left (by omega), Nat.min_eq_left (by omega)]
    omega
  · rw [if_neg (by omega)]
    have : ¬ k < pw_lft f w := fun y => z (q.mp y)
    rw [Nat.min_eq_right (by omega), Nat.min_eq_right (by omega)]
theorem psk_ok {n k : Nat} {x : pw_D} (h : okx n x) (hk : x.2.2.1 + k ≤ 1000) : okx n (pw_psk k x) := ⟨Nat.le_trans (Nat.sub_le _ _) h.1, Nat.mod_lt _ (by decide), hk, h.2.2.2.1, h.2.2.2.2⟩
theorem lft_le {f w : Nat} (h : w ≤ 99) : pw_lft f w ≤ 99 := by
  unfold pw_lft
  apply Nat.le_of_lt_succ
  rw [Nat.div_lt_iff_lt_mul (by omega)]
  have : 100 * (1 + f) = 100 + 100 * f := by omega
  show w + f < 100 * (1 + f)
  omega
theorem left5 {F t w f : Nat} {st : sw_St} (hf : st.1 t 8 = nI f) (hw : w ≤ 99) (hf3 : f ≤ 3) : j_X4_hoursLeft F t (nI w) st = some (nI (pw_lft f w)) := by
  unfold j_X4_hoursLeft
  rw [hf, show (1 : Int32) + nI f = nI (1 + f) from nI_add 1 f, nI_add, grd_y (show ¬ nI (1 + f) = 0 from fun z => by have := (nI_eq (b := 0) (show 1 + f < 2 ^ 31 by omega) (by decide)).mp z; omega), pk_div (by omega) (by omega) (by omega)]
  rfl
