theorem pk_r32 {a d : Nat} (ha : a < 2 ^ 31) (h0 : 0 < d) (hd : d < 2 ^ 31) : nI a - nI a / nI d * nI d = nI (a % d) := pk_rem ha h0 hd
/-- folding over the sets that P takes -/
def pw_fo {α : Type} (P : Nat → Bool) (f : Nat → α → α) (z : α) : Nat → α
  | 0 => z
  | k + 1 => if P k then f k (pw_fo P f z k) else pw_fo P f z k
theorem fo_s {α : Type} (P : Nat → Bool) (f : Nat → α → α) (z : α) (k : Nat) : pw_fo P f z (k + 1) = if P k then f k (pw_fo P f z k) else pw_fo P f z k := rfl
theorem fo_ext {α : Type} {P : Nat → Bool} {f : Nat → α → α} {z : α} {n m : Nat} (h : n ≤ m) (hz : ∀ i, n ≤ i → i < m → P i = false) : pw_fo P f z m = pw_fo P f z n := by
  induction m with
  | zero => rw [show n = 0 by omega]
  | succ m ih =>
    by_cases q : n = m + 1
    · rw [q]
    · rw [fo_s, hz m (by omega) (by omega), if_neg (by decide)]
      exact ih (by omega) (fun i h1 h2 => hz i h1 (by omega))
theorem fo_inv {α : Type} {P : Nat → Bool} {f : Nat → α → α} {z : α} (Q : Nat → α → Prop) (h0 : Q 0 z) (h1 : ∀ k a, Q k a → P k = true → Q (k + 1) (f k a)) (h2 : ∀ k a, Q k a → P k = false → Q (k + 1) a) (k : Nat) : Q k (pw_fo P f z k) := by
  induction k with
  | zero => exact h0
  | succ k ih =>
    rw [fo_s]
    cases hp : P k
    · exact h2 k _ ih hp
    · exact h1 k _ ih hp
abbrev foC (P : Nat → Bool) (k : Nat) : Nat := pw_fo P (fun _ c => c + 1) 0 k
def foF (P : Nat → Bool) (k : Nat) : Int32 := pw_fo P (fun S (c : Int32) => if c = -9 then nI S else c) (-9) k
def foA (P : Nat → Bool) (o k : Nat) : Nat := pw_fo P (fun S c => c &&& S) o k
def foO (P : Nat → Bool) (k : Nat) : Nat := pw_fo P (fun S c => c ||| S) 0 k
def foM (P : Nat → Bool) (z k : Nat) : Nat := pw_fo P (fun S c => min (pw_pop S) c) z k
def foX (P : Nat → Bool) (k : Nat) : Nat := pw_fo P (fun S c => max c (pw_pop S)) 0 k
def foI (P : Nat → Bool) (i k : Nat) : Nat := pw_fo P (fun S c => c + (if S.testBit i then 1 else 0)) 0 k
theorem foC_le (P : Nat → Bool) (k : Nat) : foC P k ≤ k := fo_inv (fun k c => c ≤ k) (Nat.le_refl 0) (fun k a h _ => by omega) (fun k a h _ => by omega) k
theorem foI_le (P : Nat → Bool) (i k : Nat) : foI P i k ≤ foC P k := by
  induction k with
  | zero => exact Nat.le_refl 0
  | succ k ih =>
    show (if P k then foI P i k + (if k.testBit i then 1 else 0) else foI P i k) ≤ if P k then foC P k + 1 else foC P k
    cases P k
    · exact ih
    · rw [if_pos rfl, if_pos rfl]
      split <;> omega
theorem foF_C (P : Nat → Bool) {k : Nat} (hk : k ≤ 64) : (foC P k = 0 ∧ foF P k = -9 ∧ ∀ S, S < k → P S = false) ∨ (foC P k ≠ 0 ∧ ∃ S, S < k ∧ P S = true ∧ (∀ T, T < S → P T = false) ∧ foF P k = nI S) := by
  induction k with
  | zero => exact Or.inl ⟨rfl, rfl, fun S hS => absurd hS (Nat.not_lt_zero S)⟩
  | succ k ih =>
    have e1 : foC P (k + 1) = if P k then foC P k + 1 else foC P k := rfl
    have e2 : foF P (k + 1) = if P k then (if foF P k = -9 then nI k else foF P k) else foF P k := rfl
    rcases ih (by omega) with ⟨h1, h2, h3⟩ | ⟨h1, S, h2, h3, h4, h5⟩
    · cases hp : P k
      · rw [hp, if_neg (by decide)] at e1 e2
        refine Or.inl ⟨by rw [e1, h1], by rw [e2, h2], fun S hS => ?_⟩
        by_cases q : S = k
        · rw [q, hp]
        · exact h3 S (by omega)
      · rw [hp, if_pos rfl] at e1 e2
        exact Or.inr ⟨by rw [e1]; omega, k, by omega, hp, h3, by rw [e2, if_pos h2]⟩
    · refine Or.inr ⟨?_, S, by omega, h3, h4, ?_⟩
      · rw [e1]
        split <;> omega
      · rw [e2]
        have : ¬ foF P k = -9 := by
          rw [h5, i_eq, nI_tI (by omega)]
          show ¬ ((S : Nat) : Int) = -9
          omega
        rw [if_neg this, h5, ite_self]
theorem foA_lt {P : Nat → Bool} {o : Nat} (ho : o < 64) (k : Nat) : foA P o k < 64 := fo_inv (fun _ c => c < 64) ho (fun k a h _ => Nat.lt_of_le_of_lt Nat.and_le_left h) (fun k a h _ => h) k
theorem foO_lt {P : Nat → Bool} {k : Nat} (hk : k ≤ 64) : foO P k < 64 := by
  induction k with
  | zero => show 0 < 64; decide
  | succ k ih =>
    show (if P k then foO P k ||| k else foO P k) < 64
    split
    · exact Nat.or_lt_two_pow (n := 6) (ih (by omega)) (by omega)
    · exact ih (by omega)
theorem foM_le {P : Nat → Bool} {z : Nat} (k : Nat) : foM P z k ≤ z := fo_inv (fun _ c => c ≤ z) (Nat.le_refl z) (fun k a h _ => Nat.le_trans (Nat.min_le_right _ _) h) (fun k a h _ => h) k
theorem foX_le {P : Nat → Bool} (k : Nat) : foX P k ≤ 6 := fo_inv (fun _ c => c ≤ 6) (by decide) (fun k a h _ => Nat.max_le.mpr ⟨h, pop_le k⟩) (fun k a h _ => h) k
theorem b_orn0 : ∀ s o : Fin 64, nI s.val ||| nI o.val = nI (s.val ||| o.val) := by decide +kernel
/-- what the class has tallied of the sets below k -/
def tly (P : Nat → Bool) (o k : Nat) (s : sw_St) : Prop := s.1 60 0 = nI (foC P k) ∧ s.1 60 1 = foF P k ∧ s.1 60 2 = nI (foA P o k) ∧ s.1 60 3 = nI (foO P k) ∧ s.1 60 4 = nI (foM P 6 k) ∧ s.1 60 5 = nI (foX P k) ∧ ∀ i, i < 6 → s.1 61 i = nI (foI P i k)
theorem tally5 {F k o : Nat} {P : Nat → Bool} {st : sw_St} (hF : 20000 ≤ F) (ho : o < 64) (hk : k < 64) (hP : P k = true) (h : tly P o k st) : ∃ s, j_X0_tally F (nI k) st = some ((), s) ∧ tly P o (k + 1) s ∧ ch [60, 61] st s ∧ s.2 = st.2 := by
  obtain ⟨t1, t2, t3, t4, t5, t6, t7⟩ := h
  have hC := foC_le P k
  have e1 : (if st.1 60 0 = 0 then sw_setC st 60 1 (nI k) else st) = sw_setC st 60 1 (foF P (k + 1)) := by
    have hs : foF P (k + 1) = if P k then (if foF P k = -9 then nI k else foF P k) else foF P k := rfl
    rw [hP, if_pos rfl] at hs
    rcases foF_C P (show k ≤ 64 by omega) with ⟨h1, h2, h3⟩ | ⟨h1, S, h2, h3, h4, h5⟩
    · rw [t1, h1, if_pos (by decide), hs, if_pos h2]
    · rw [t1, if_neg (show ¬ nI (foC P k) = 0 from fun z => h1 ((nI_eq (b := 0) (by omega) (by decide)).mp z)), hs, if_neg (by rw [h5, i_eq, nI_tI (by omega)]; show ¬ ((S : Nat) : Int) = -9; omega), ← t2]
      have : sw_setC st 60 1 (st.1 60 1) = st := by
        have := setA_self st 60
        refine Eq.trans ?_ this
        show sw_setA st 60 (upd (st.1 60) 1 (st.1 60 1)) = _
        congr 1
        funext i
        show (if i = 1 then st.1 60 1 else st.1 60 i) = st.1 60 i
        by_cases q : i = 1
        · rw [if_pos q, q]
        · rw [if_neg q]
      exact this.symm
  have hj : ∀ (K : sw_St → Option (Unit × sw_St)), (jn K fun k2 => if st.1 60 0 = 0 then nm (sw_setC st 60 1 (nI k)) (fun s23 => k2 s23) else k2 st) = K (sw_setC st 60 1 (foF P (k + 1))) := fun K => by
    rw [← e1]
    unfold jn nm
    split <;> rfl
  unfold j_X0_tally
  rw [hj]
  simp only [nm]
  have c1 : foC P (k + 1) = foC P k + 1 := by rw [foC, fo_s, hP]; rfl
  have c3 : foA P o (k + 1) = foA P o k &&& k := by rw [foA, fo_s, hP]; rfl
  have c4 : foO P (k + 1) = foO P k ||| k := by rw [foO, fo_s, hP]; rfl
  have c5 : foM P 6 (k + 1) = min (pw_pop k) (foM P 6 k) := by rw [foM, fo_s, hP]; rfl
  have c6 : foX P (k + 1) = max (foX P k) (pw_pop k) := by rw [foX, fo_s, hP]; rfl
  have c7 : ∀ i, foI P i (k + 1) = foI P i k + (if k.testBit i then 1 else 0) := fun i => by rw [foI, fo_s, hP]; rfl
  obtain ⟨s0, hs0⟩ : ∃ s, s = sw_setC st 60 1 (foF P (k + 1)) := ⟨_, rfl⟩
  rw [← hs0, show s0.1 60 0 + 1 = nI (foC P (k + 1)) by rw [hs0, gsC, if_neg (by decide), t1, nI_1, c1]]
  obtain ⟨s1, hs1⟩ : ∃ s, s = sw_setC s0 60 0 (nI (foC P (k + 1))) := ⟨_, rfl⟩
  rw [← hs1, show s1.1 60 2 &&& nI k = nI (foA P o (k + 1)) by rw [hs1, gsC, if_neg (by decide), hs0, gsC, if_neg (by decide), t3, c3]; exact b_and0 ⟨_, foA_lt ho k⟩ ⟨k, hk⟩]
  obtain ⟨s2, hs2⟩ : ∃ s, s = sw_setC s1 60 2 (nI (foA P o (k + 1))) := ⟨_, rfl⟩
  rw [← hs2, show s2.1 60 3 ||| nI k = nI (foO P (k + 1)) by rw [hs2, gsC, if_neg (by decide), hs1, gsC, if_neg (by decide), hs0, gsC, if_neg (by decide), t4, c4]; exact b_orn0 ⟨_, foO_lt (by omega)⟩ ⟨k, hk⟩]
  obtain ⟨s3, hs3⟩ : ∃ s, s = sw_setC s2 60 3 (nI (foO P (k + 1))) := ⟨_, rfl⟩
  have hp6 := pop_le k
  have hm6 := foM_le (P := P) (z := 6) k
  have hx6 := foX_le (P := P) k
  rw [← hs3, bitC hk, bo_some, show s3.1 60 4 = nI (foM P 6 k) by rw [hs3, gsC, if_neg (by decide), hs2, gsC, if_neg (by decide), hs1, gsC, if_neg (by decide), hs0, gsC, if_neg (by decide), t5]]
  rw [show (if nI (pw_pop k) < nI (foM P 6 k) then nI (pw_pop k) else nI (foM P 6 k)) = nI (foM P 6 (k + 1)) by
    rw [c5]
    by_cases q : pw_pop k < foM P 6 k
    · rw [if_pos (nI_lt q (by omega)), Nat.min_eq_left (by omega)]
    · rw [if_neg (show ¬ nI (pw_pop k) < nI (foM P 6 k) by rw [i_lt, nI_tI (by omega), nI_tI (by omega)]; omega), Nat.min_eq_right (by omega)]]
  obtain ⟨s4, hs4⟩ : ∃ s, s = sw_setC s3 60 4 (nI (foM P 6 (k + 1))) := ⟨_, rfl⟩
  rw [← hs4, bitC hk, bo_some, show s4.1 60 5 = nI (foX P k) by rw [hs4, gsC, if_neg (by decide), hs3, gsC, if_neg (by decide), hs2, gsC, if_neg (by decide), hs1, gsC, if_neg (by decide), hs0, gsC, if_neg (by decide), t6]]
  rw [show (if nI (foX P k) < nI (pw_pop k) then nI (pw_pop k) else nI (foX P k)) = nI (foX P (k + 1)) by
    rw [c6]
    by_cases q : foX P k < pw_pop k
    · rw [if_pos (nI_lt q (by omega)), Nat.max_eq_right (by omega)]
    · rw [if_neg (show ¬ nI (foX P k) < nI (pw_pop k) by rw [i_lt, nI_tI (by omega), nI_tI (by omega)]; omega), Nat.max_eq_left (by omega)]]
  obtain ⟨s5, hs5⟩ : ∃ s, s = sw_setC s4 60 5 (nI (foX P (k + 1))) := ⟨_, rfl⟩
  rw [← hs5]
  have g5 : ∀ a i, s5.1 a i = if a = 60 ∧ i = 5 then nI (foX P (k + 1)) else if a = 60 ∧ i = 4 then nI (foM P 6 (k + 1)) else if a = 60 ∧ i = 3 then nI (foO P (k + 1)) else if a = 60 ∧ i = 2 then nI (foA P o (k + 1)) else if a = 60 ∧ i = 0 then nI (foC P (k + 1)) else if a = 60 ∧ i = 1 then foF P (k + 1) else st.1 a i := fun a i => by rw [hs5, gsC, hs4, gsC, hs3, gsC, hs2, gsC, hs1, gsC, hs0, gsC]
  have z5 : s5.2 = st.2 := by rw [hs5, hs4, hs3, hs2, hs1, hs0]; rfl
  refine lz2_ind (Φ := fun o' => ∃ s : sw_St, o' = some ((), s) ∧ tly P o (k + 1) s ∧ ch [60, 61] st s ∧ s.2 = st.2) (fun i _ => 6 - i.toNatClampNeg) (fun c s => ∃ i, i ≤ 6 ∧ c = nI i ∧ (∀ j, j < i → s.1 61 j = nI (foI P j (k + 1))) ∧ (∀ j, i ≤ j → s.1 61 j = st.1 61 j) ∧ (∀ a, a ≠ 61 → s.1 a = s5.1 a) ∧ s.2 = st.2) (fun g c s hp ih => ?_) F 0 s5 ⟨0, by omega, rfl, fun j hj => absurd hj (Nat.not_lt_zero j), fun j _ => by rw [g5]; ((try simp only [true_and, and_true, if_true]); repeat (first | rw [if_pos (by omega)] | rw [if_neg (by omega)])), fun _ _ => rfl, z5⟩ (by show 6 - 0 < F; omega)
  obtain ⟨i, hi, rfl, p1, p2, p3, p4⟩ := hp
  rcases Nat.lt_or_ge i 6 with q | q
  · rw [if_neg (show ¬ (6 : Int32) ≤ nI i from nI_ge q (by decide)), bnd_nI q (by decide), bnd_nI q (by decide), nI_clamp (by omega), b_get hk (by omega), p2 i (Nat.le_refl i), t7 i q, nI_add, ← c7, nI_1]
    refine ih _ _ ⟨i + 1, q, rfl, fun j hj => ?_, fun j hj => ?_, fun a ha => ?_, p4⟩ (by rw [nI_clamp (by omega), nI_clamp (by omega)]; omega)
    · rw [gsC]
      by_cases e : j = i
      · rw [if_pos ⟨rfl, e⟩, e]
      · rw [if_neg (by omega)]
        exact p1 j (by omega)
    · rw [gsC, if_neg (by omega)]
      exact p2 j (by omega)
    · rw [gsC_ne _ _ _ ha]
      exact p3 a ha
  · have e : i = 6 := by omega
    subst e
    rw [if_pos (by decide)]
    refine ⟨s, rfl, ⟨?_, ?_, ?_, ?_, ?_, ?_, p1⟩, fun a ha => ?_, p4⟩
    · rw [p3 60 (by decide), g5]; ((try simp only [true_and, and_true, if_true]); repeat (first | rw [if_pos (by omega)] | rw [if_neg (by omega)]))
    · rw [p3 60 (by decide), g5]; ((try simp only [true_and, and_true, if_true]); repeat (first | rw [if_pos (by omega)] | rw [if_neg (by omega)]))
    · rw [p3 60 (by decide), g5]; ((try simp only [true_and, and_true, if_true]); repeat (first | rw [if_pos (by omega)] | rw [if_neg (by omega)]))
    · rw [p3 60 (by decide), g5]; ((try simp only [true_and, and_true, if_true]); repeat (first | rw [if_pos (by omega)] | rw [if_neg (by omega)]))
    · rw [p3 60 (by decide), g5]; ((try simp only [true_and, and_true, if_true]); repeat (first | rw [if_pos (by omega)] | rw [if_neg (by omega)]))
    · rw [p3 60 (by decide), g5]; ((try simp only [true_and, and_true, if_true]); repeat (first | rw [if_pos (by omega)] | rw [if_neg (by omega)]))
    · simp only [List.mem_cons, List.mem_nil_iff, or_false, not_or] at ha
      rw [p3 a ha.2]
      funext i
      rw [g5]
      have := ha.1
      ((try simp only [true_and, and_true, if_true]); repeat (first | rw [if_pos (by omega)] | rw [if_neg (by omega)]))
/-- the sets that would make it strike a -/
def pw_fit (n : Nat) (kd sg : Nat → Nat) (G : Nat) (x : pw_D) (a S : Nat) : Bool := pw_free n x.2.2.2.2 S && (pw_sk x.2.2.2.1 (pw_cms n kd sg G S n x).1 == a)
theorem fit_hi {n G a S : Nat} {kd sg : Nat → Nat} {x : pw_D} (h : 2 ^ n ≤ S) : pw_fit n kd sg G x a S = false := by
  unfold pw_fit pw_free
  rw [decide_eq_false (by omega)]
  rfl
theorem cS_c {st s : sw_St} {t n G : Nat} {kd sg bd : Nat → Nat} (h : ∀ j, j < 5 → s.1 (t + j) = st.1 (t + j)) (hc : cS st t n kd sg bd G) : cS s t n kd sg bd G := by
  unfold cS
  rw [show s.1 t = st.1 t from h 0 (by decide), h 1 (by decide), h 2 (by decide), h 3 (by decide), h 4 (by decide)]
  exact hc
theorem CR_c {st s : sw_St} {t : Nat} {x : pw_D} (h : s.1 t = st.1 t) (hc : CR st t x) : CR s t x := by
  unfold CR
  rw [h]
  exact hc
theorem sk_le {f w : Nat} (h : w ≤ 99) : pw_sk f w ≤ 10 := by
  unfold pw_sk pw_nxt
  split <;> omega
theorem search5 {F n G a : Nat} {kd sg bd : Nat → Nat} {fw ff : Nat} {x : pw_D} {st : sw_St} (hF : 20000 ≤ F) (hv : pw_stat n kd sg bd fw ff) (hc : cS st 15 n kd sg bd G) (hr : CR st 15 x) (hx : okx n x) (ha : a ≤ 10) : ∃ s, j_X0_search F (nI a) st = some ((), s) ∧ tly (pw_fit n kd sg G x a) (pw_out n x.2.2.2.2) 64 s ∧ ch [60, 61] st s ∧ s.2 = st.2 := by
  have hn := hv.1
  have hs := ok64 hn hx.2.2.2.2
  have h2n := pow_n hn
  have ho := out_lt n x.2.2.2.2 hn
  unfold j_X0_search
  simp only [nm]
  rw [notIn5 hn hs (by rw [gsC_ne _ _ _ (by decide), gsC_ne _ _ _ (by decide)]; exact hc.1) (by rw [gsC_ne _ _ _ (by decide), gsC_ne _ _ _ (by decide)]; exact hr.2.2.2.2), bo_some, fillI hF (by decide), bd_some, show sw_ln 61 = 6 from rfl]
  obtain ⟨s0, hs0⟩ : ∃ s, s = flS (sw_setC (sw_setC (sw_setC (sw_setC (sw_setC (sw_setC st 60 0 0) 60 1 (-9)) 60 2 (nI (pw_out n x.2.2.2.2))) 60 3 0) 60 4 6) 60 5 0) 61 0 6 0 := ⟨_, rfl⟩
  rw [← hs0]
  have c0 : ch [60, 61] st s0 := by
    rw [hs0]
    exact (((((((ch.rf [60, 61] st).C _ _ (by decide)).C _ _ (by decide)).C _ _ (by decide)).C _ _ (by decide)).C _ _ (by decide)).C _ _ (by decide)).fl _ _ _ (by decide)
  have t0 : tly (pw_fit n kd sg G x a) (pw_out n x.2.2.2.2) 0 s0 := by
    unfold tly
    rw [hs0]
    simp only [flS_at, gsC]
    refine ⟨?_, ?_, ?_, ?_, ?_, ?_, fun i hi => ?_⟩ <;> ((try simp only [true_and, and_true, if_true]); repeat (first | rw [if_pos (by omega)] | rw [if_neg (by omega)])) <;> rfl
  refine lz2_ind (Φ := fun o => ∃ s : sw_St, o = some ((), s) ∧ tly (pw_fit n kd sg G x a) (pw_out n x.2.2.2.2) 64 s ∧ ch [60, 61] st s ∧ s.2 = st.2) (fun i _ => 100 - i.toNatClampNeg) (fun c s => ∃ k, k ≤ 2 ^ n ∧ c = nI k ∧ tly (pw_fit n kd sg G x a) (pw_out n x.2.2.2.2) k s ∧ ch [60, 61] st s ∧ s.2 = st.2) (fun g c s hp ih => ?_) F 0 s0 ⟨0, Nat.zero_le _, rfl, t0, c0, by rw [hs0]; rfl⟩ (by show 100 - 0 < F; omega)
  obtain ⟨k, hk, rfl, tk, ck, zk⟩ := hp
  have hc' : cS s 15 n kd sg bd G := cS_c (fun j hj => ck _ (by
    rcases (show j = 0 ∨ j = 1 ∨ j = 2 ∨ j = 3 ∨ j = 4 by omega) with rfl | rfl | rfl | rfl | rfl <;> decide)) hc
  have hr' : CR s 15 x := CR_c (ck 15 (by decide)) hr
  rw [sets5 hn hc'.1, bo_some]
  by_cases q : k = 2 ^ n
  · rw [if_pos (show nI (2 ^ n) ≤ nI k from nI_le (by omega) (by omega))]
    refine ⟨s, rfl, ?_, ck, zk⟩
    have hz : ∀ i, k ≤ i → i < 64 → pw_fit n kd sg G x a i = false := fun i h1 h2 => fit_hi (by omega)
    have hk64 : k ≤ 64 := by omega
    unfold tly foC foF foA foO foM foX foI at tk ⊢
    rw [fo_ext hk64 hz, fo_ext hk64 hz, fo_ext hk64 hz, fo_ext hk64 hz, fo_ext hk64 hz, fo_ext hk64 hz]
    refine ⟨tk.1, tk.2.1, tk.2.2.1, tk.2.2.2.1, tk.2.2.2.2.1, tk.2.2.2.2.2.1, fun i hi => ?_⟩
    rw [fo_ext hk64 hz]
    exact tk.2.2.2.2.2.2 i hi
  · have hcm := cms_ok (G := G) (S := k) hv (Nat.le_refl n) hx
    have hsk := sk_le (f := x.2.2.2.1) hcm.1
    have hkl : k &&& x.2.2.2.2 < 64 := Nat.lt_of_le_of_lt Nat.and_le_left (by omega)
    rw [if_neg (show ¬ nI (2 ^ n) ≤ nI k from nI_ge (by omega) (by omega)), hr'.2.2.2.2, show nI k &&& nI x.2.2.2.2 = nI (k &&& x.2.2.2.2) from b_and0 ⟨k, by omega⟩ ⟨_, hs⟩, wbs5 hF hv hc' hx hr'.1 hr'.2.2.2.2 (by omega)]
    simp only [jn, bo_some]
    rw [strikes5 hr'.2.2.2.1 hcm.1 hx.2.2.2.1, nI_1]
    simp only [bo_some]
    have skip : pw_fit n kd sg G x a k = false → ∃ s' : sw_St, g (nI (k + 1)) s = some ((), s') ∧ tly (pw_fit n kd sg G x a) (pw_out n x.2.2.2.2) 64 s' ∧ ch [60, 61] st s' ∧ s'.2 = st.2 := fun hf => by
      refine ih _ _ ⟨k + 1, by omega, rfl, ?_, ck, zk⟩ (by rw [nI_clamp (by omega), nI_clamp (by omega)]; omega)
      unfold tly foC foF foA foO foM foX foI at tk ⊢
      simp only [fo_s, hf]
      exact tk
    by_cases hz : k &&& x.2.2.2.2 = 0
    · rw [if_pos (by rw [hz]; rfl)]
      by_cases hq : pw_sk x.2.2.2.1 (pw_cms n kd sg G k n x).1 = a
      · rw [if_pos (by rw [hq])]
        have hf : pw_fit n kd sg G x a k = true := by
          unfold pw_fit pw_free
          rw [hz, hq, decide_eq_true (by omega)]
          simp
        obtain ⟨s', j', t', c', z'⟩ := tally5 (P := pw_fit n kd sg G x a) hF ho (by omega) hf tk
        rw [j', bd_some]
        exact ih _ _ ⟨k + 1, by omega, rfl, t', ck.tr c', z'.trans zk⟩ (by rw [nI_clamp (by omega), nI_clamp (by omega)]; omega)
      · rw [if_neg (fun z => hq ((nI_eq (by omega) (by omega)).mp z))]
        refine skip ?_
        unfold pw_fit
        simp [hq]
    · rw [if_neg (show ¬ nI (k &&& x.2.2.2.2) = 0 from fun z => hz ((nI_eq (b := 0) (by omega) (by decide)).mp z))]
      refine skip ?_
      unfold pw_fit pw_free
      simp [hz]
/-- only the trial and the fitting sets changed -/
def trf (st s : sw_St) : Prop := (∀ a, a ≠ 64 → a ≠ 75 → s.1 a = st.1 a) ∧ (∀ i, i < 828 → s.1 64 i = st.1 64 i) ∧ s.2 = st.2
theorem trf.rf (st : sw_St) : trf st st := ⟨fun _ _ _ => rfl, fun _ _ => rfl, rfl⟩
theorem trf.tr {st s s2 : sw_St} (h : trf st s) (h2 : trf s s2) : trf st s2 := ⟨fun a h1 h3 => (h2.1 a h1 h3).trans (h.1 a h1 h3), fun i hi => (h2.2.1 i hi).trans (h.2.1 i hi), h2.2.2.trans h.2.2⟩
theorem tri.tf {st s : sw_St} (h : tri st s) : trf st s := ⟨fun a h64 _ => h.1 a h64, h.2.1, h.2.2⟩
theorem trf.C {st s : sw_St} (h : trf st s) (k : Nat) (v : Int32) : trf st (sw_setC s 75 k v) := ⟨fun a h1 h2 => by rw [gsC_ne _ _ _ h2]; exact h.1 a h1 h2, fun i hi => by rw [gsC_ne _ _ _ (by decide)]; exact h.2.1 i hi, h.2.2⟩
theorem mS_tf {st st1 : sw_St} {n G : Nat} {kd sg bd : Nat → Nat} (h : trf st st1) (hm : mS st n kd sg bd G) : mS st1 n kd sg bd G := by
  unfold mS pw_st
  rw [h.1 63 (by decide) (by decide), h.1 65 (by decide) (by decide), h.1 66 (by decide) (by decide), h.1 67 (by decide) (by decide), h.2.1 6 (by decide)]
  exact hm
theorem TR_tf {st st1 : sw_St} {x : pw_D} (h : trf st st1) (ht : TR st 0 x) : TR st1 0 x := by
  unfold TR
  rw [h.2.1 _ (by decide), h.2.1 _ (by decide), h.2.1 _ (by decide), h.2.1 _ (by decide), h.2.1 _ (by decide)]
  exact ht
theorem layFits6 {F n G a : Nat} {kd sg br : Nat → Nat} {fw ff : Nat} {x : pw_D} {st : sw_St} (hF : 20000 ≤ F) (hv : pw_stat n kd sg br fw ff) (hm : mS st n kd sg br G) (hG : G < 64) (hx : okx n x) (hx3 : x.2.2.1 + 1 ≤ 1000) (ht : TR st 0 x) (ha : a ≤ 10) : ∃ s, j_X6_layFits F (nI a) st = some (nI (foC (pw_fit n kd sg G x a) 64), s) ∧ (∀ S, S < 64 → s.1 75 S = if pw_fit n kd sg G x a S then 1 else 0) ∧ trf st s := by
  have hn := hv.1
  have hs := ok64 hn hx.2.2.2.2
  unfold j_X6_layFits
  refine lz3_ind (Φ := fun o => ∃ s : sw_St, o = some (nI (foC (pw_fit n kd sg G x a) 64), s) ∧ (∀ S, S < 64 → s.1 75 S = if pw_fit n kd sg G x a S then 1 else 0) ∧ trf st s) (fun _ i _ => 100 - i.toNatClampNeg) (fun c i' s => ∃ k, k ≤ 64 ∧ i' = nI k ∧ c = nI (foC (pw_fit n kd sg G x a) k) ∧ (∀ S, S < k → s.1 75 S = if pw_fit n kd sg G x a S then 1 else 0) ∧ trf st s) (fun g c i' s hp ih => ?_) F 0 0 st ⟨0, by omega, rfl, rfl, fun j hj => absurd hj (Nat.not_lt_zero j), trf.rf st⟩ (by show 100 - 0 < F; omega)
  obtain ⟨k, hk, rfl, rfl, p1, p2⟩ := hp
  by_cases q : k = 64
  · subst q
    rw [if_pos (by decide)]
    exact ⟨s, rfl, p1, p2⟩
  have f1 := p2.C k 0
  have hm1 := mS_tf f1 hm
  have ht1 := TR_tf f1 ht
  rw [if_neg (show ¬ (64 : Int32) ≤ nI k from nI_ge (b := 64) (by omega) (by decide)), bnd_nI (by omega) (by decide), nI_clamp (by omega)]
  simp only [nm]
  rw [show vp_nar .boolean 0 = 0 from rfl, isOut6 hn hs hm1.1.1 ht1.2.2.2.2 (by omega), bo_some]
  simp only [jn]
  rw [bnd_nI (by omega) (by decide), nI_1]
  have fs : ∀ b : Bool, pw_fit n kd sg G x a k = b → foC (pw_fit n kd sg G x a) (k + 1) = foC (pw_fit n kd sg G x a) k + (if b then 1 else 0) := fun b hb => by
    rw [foC, fo_s, hb]
    cases b <;> rfl
  have fin : ∀ s' : sw_St, trf st s' → (∀ S, S < k → s'.1 75 S = if pw_fit n kd sg G x a S then 1 else 0) → s'.1 75 k = (if pw_fit n kd sg G x a k then 1 else 0) → ∃ s : sw_St, (if s'.1 75 k = 0 then g (nI (foC (pw_fit n kd sg G x a) k) + 0) (nI (k + 1)) s' else g (nI (foC (pw_fit n kd sg G x a) k) + 1) (nI (k + 1)) s') = some (nI (foC (pw_fit n kd sg G x a) 64), s) ∧ (∀ S, S < 64 → s.1 75 S = if pw_fit n kd sg G x a S then 1 else 0) ∧ trf st s := fun s' h1 h2 h3 => by
    have hall : ∀ S, S < k + 1 → s'.1 75 S = if pw_fit n kd sg G x a S then 1 else 0 := fun S hS => by
      by_cases e : S = k
      · rw [e, h3]
      · exact h2 S (by omega)
    cases hb : pw_fit n kd sg G x a k
    · rw [hb, if_neg (by decide)] at h3
      rw [h3, if_pos rfl]
      exact ih _ _ _ ⟨k + 1, by omega, rfl, by rw [fs false hb]; exact nI_add _ 0, hall, h1⟩ (by rw [nI_clamp (by omega), nI_clamp (by omega)]; omega)
    · rw [hb, if_pos rfl] at h3
      rw [h3, if_neg (by decide)]
      exact ih _ _ _ ⟨k + 1, by omega, rfl, by rw [fs true hb]; exact nI_add _ 1, hall, h1⟩ (by rw [nI_clamp (by omega), nI_clamp (by omega)]; omega)
  cases hf : pw_free n x.2.2.2.2 k
  · rw [if_neg (show ¬ false = true by decide), if_pos rfl]
    refine fin _ f1 (fun S hS => by rw [gsC, if_neg (by omega)]; exact p1 S hS) ?_
    rw [gsC, if_pos ⟨rfl, rfl⟩]
    unfold pw_fit
    rw [hf]
    rfl
  · rw [if_pos (show true = true from rfl), if_neg (show ¬ (1 : Int32) = 0 by decide)]
    obtain ⟨s1, j1, t1, a1⟩ := lay6 (F := F) hF ht1
    obtain ⟨s2, j2, t2, a2⟩ := come6 (F := F) (S := k) hF hv (mS_tri a1 hm1) hG hx t1 (by omega)
    have hcm := cms_ok (G := G) (S := k) hv (Nat.le_refl n) hx
    obtain ⟨s3, j3, t3, a3⟩ := pass6 (F := F) (b := 828) (Or.inr rfl) hcm t2
    rw [j1, bd_some, j2, bd_some, show (828 : Int32) = nI 828 from rfl, j3, bd_some]
    have hsk := sk_le (f := x.2.2.2.1) hcm.1
    rw [show (pw_cms n kd sg G k n x).2.2.2.1 = x.2.2.2.1 from cms_h.2.2]
    have f3 : trf st s3 := f1.tr ((a1.tr (a2.tri.tr a3.tri)).tf)
    have e75 : ∀ S, S ≠ k → s3.1 75 S = s.1 75 S := fun S hS => by
      rw [a3.1 75 (by decide), a2.1 75 (by decide), a1.1 75 (by decide), gsC, if_neg (by omega)]
    by_cases hq : pw_sk x.2.2.2.1 (pw_cms n kd sg G k n x).1 = a
    · rw [if_pos (by rw [hq]), bnd_nI (by omega) (by decide), bnd_nI (by omega) (by decide), show vp_nar .boolean 1 = 1 from rfl]
      refine fin _ (f3.C k 1) (fun S hS => by rw [gsC, if_neg (by omega), e75 S (by omega)]; exact p1 S hS) ?_
      rw [gsC, if_pos ⟨rfl, rfl⟩]
      unfold pw_fit
      rw [hf, hq]
      simp
    · rw [if_neg (fun z => hq ((nI_eq (by omega) (by omega)).mp z)), bnd_nI (by omega) (by decide), bnd_nI (by omega) (by decide), show vp_nar .boolean 0 = 0 from rfl]
      refine fin _ (f3.C k 0) (fun S hS => by rw [gsC, if_neg (by omega), e75 S (by omega)]; exact p1 S hS) ?_
      rw [gsC, if_pos ⟨rfl, rfl⟩]
      unfold pw_fit
      simp [hq]
