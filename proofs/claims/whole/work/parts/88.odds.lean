def pw_fc (s a S i : Nat) : Nat := if s.testBit i then (if S.testBit i then 0 else 1) else (if S.testBit i then a else 12 - a)
def pw_q (s a S : Nat) : Nat → Nat
  | 0 => 1
  | k + 1 => pw_q s a S k * pw_fc s a S k
def pw_ws (s : Nat) : Nat → Nat
  | 0 => 1
  | k + 1 => pw_ws s k * (if s.testBit k then 1 else 12)
def pw_sm (w : Nat → Nat) : Nat → Nat
  | 0 => 0
  | k + 1 => pw_sm w k + w k
theorem sm_a (w : Nat → Nat) (m j : Nat) : pw_sm w (m + j) = pw_sm w m + pw_sm (fun t => w (m + t)) j := by
  induction j with
  | zero => rfl
  | succ j ih =>
    show pw_sm w (m + j) + w (m + j) = pw_sm w m + (pw_sm (fun t => w (m + t)) j + w (m + j))
    rw [ih]; omega
theorem sm_c {u w : Nat → Nat} {k : Nat} (h : ∀ i, i < k → u i = w i) : pw_sm u k = pw_sm w k := by
  induction k with
  | zero => rfl
  | succ k ih =>
    show pw_sm u k + u k = pw_sm w k + w k
    rw [ih (fun i hi => h i (by omega)), h k (by omega)]
theorem sm_m (w : Nat → Nat) (c k : Nat) : pw_sm (fun i => w i * c) k = pw_sm w k * c := by
  induction k with
  | zero => show 0 = 0 * c; omega
  | succ k ih =>
    show pw_sm (fun i => w i * c) k + w k * c = (pw_sm w k + w k) * c
    rw [ih, Nat.add_mul]
theorem sm_le {u w : Nat → Nat} {c k : Nat} (h : ∀ i, u i ≤ w i * c) : pw_sm u k ≤ pw_sm w k * c := by
  rw [← sm_m]
  induction k with
  | zero => exact Nat.le_refl 0
  | succ k ih => exact Nat.add_le_add ih (h k)
theorem sm_z {w : Nat → Nat} {m k : Nat} (h : m ≤ k) (hz : ∀ i, m ≤ i → i < k → w i = 0) : pw_sm w k = pw_sm w m := by
  obtain ⟨j, rfl⟩ : ∃ j, k = m + j := ⟨k - m, by omega⟩
  rw [sm_a, sm_c (w := fun _ => 0) (fun i hi => hz (m + i) (by omega) (by omega))]
  have : ∀ j, pw_sm (fun _ => 0) j = 0 := fun j => by
    induction j with
    | zero => rfl
    | succ j ih => show pw_sm (fun _ => 0) j + 0 = 0; rw [ih]
  rw [this, Nat.add_zero]
theorem q_c {s a S T k : Nat} (h : ∀ i, i < k → S.testBit i = T.testBit i) : pw_q s a S k = pw_q s a T k := by
  induction k with
  | zero => rfl
  | succ k ih =>
    show pw_q s a S k * pw_fc s a S k = pw_q s a T k * pw_fc s a T k
    unfold pw_fc
    rw [ih (fun i hi => h i (by omega)), h k (by omega)]
theorem den_eq {s a : Nat} (ha : a ≤ 12) (k : Nat) : pw_sm (fun S => pw_q s a S k) (2 ^ k) = pw_ws s k := by
  induction k with
  | zero => rfl
  | succ k ih =>
    rw [Nat.pow_succ, Nat.mul_two, sm_a]
    have e1 : pw_sm (fun S => pw_q s a S (k + 1)) (2 ^ k) = pw_ws s k * (if s.testBit k then 1 else 12 - a) := by
      rw [← ih, ← sm_m]
      refine sm_c (fun S hS => ?_)
      show pw_q s a S k * pw_fc s a S k = _
      unfold pw_fc
      rw [Nat.testBit_lt_two_pow hS]
      rfl
    have e2 : pw_sm (fun t => pw_q s a (2 ^ k + t) (k + 1)) (2 ^ k) = pw_ws s k * (if s.testBit k then 0 else a) := by
      rw [← ih, ← sm_m]
      refine sm_c (fun S hS => ?_)
      show pw_q s a (2 ^ k + S) k * pw_fc s a (2 ^ k + S) k = _
      unfold pw_fc
      rw [q_c (T := S) (fun i hi => Nat.testBit_two_pow_add_gt hi S), Nat.testBit_two_pow_add_eq, Nat.testBit_lt_two_pow hS]
      rfl
    rw [e1, e2, ← Nat.mul_add]
    show _ = pw_ws s k * (if s.testBit k then 1 else 12)
    congr 1
    split <;> omega
theorem ws_le {s k : Nat} (h : k ≤ 6) : pw_ws s k ≤ 2985984 ∧ 0 < pw_ws s k := by
  have : ∀ k, pw_ws s k ≤ 12 ^ k ∧ 0 < pw_ws s k := fun k => by
    induction k with
    | zero => exact ⟨Nat.le_refl 1, Nat.one_pos⟩
    | succ k ih =>
      have e : pw_ws s (k + 1) = pw_ws s k * (if s.testBit k then 1 else 12) := rfl
      rw [e, Nat.pow_succ]
      split
      · exact ⟨by omega, by omega⟩
      · exact ⟨by omega, by omega⟩
  have h2 : 12 ^ k ≤ 12 ^ 6 := Nat.pow_le_pow_right (by decide) h
  have := this k
  exact ⟨by omega, this.2⟩
theorem q_zero {s a S n : Nat} (hS : S < 2 ^ n) (h : ¬ S &&& s = 0) : pw_q s a S n = 0 := by
  have hex : ∃ i, i < n ∧ S.testBit i = true ∧ s.testBit i = true := by
    refine Classical.byContradiction (fun hne => h ?_)
    refine Nat.eq_of_testBit_eq (fun i => ?_)
    rw [Nat.testBit_and, Nat.zero_testBit]
    cases h1 : S.testBit i
    · rfl
    · cases h2 : s.testBit i
      · rfl
      · exact absurd ⟨i, by
          refine Nat.lt_of_not_le (fun h6 => ?_)
          rw [Nat.testBit_lt_two_pow (Nat.lt_of_lt_of_le hS (Nat.pow_le_pow_right (by decide) h6))] at h1
          exact absurd h1 (by decide), h1, h2⟩ hne
  obtain ⟨i, hi, h1, h2⟩ := hex
  have : ∀ k, i < k → pw_q s a S k = 0 := fun k => by
    induction k with
    | zero => intro hk; exact absurd hk (Nat.not_lt_zero i)
    | succ k ih =>
      intro hk
      show pw_q s a S k * pw_fc s a S k = 0
      by_cases e : i = k
      · subst e
        unfold pw_fc
        rw [h1, h2]
        exact Nat.mul_zero _
      · rw [ih (by omega), Nat.zero_mul]
  exact this n hi
theorem q_le {s a S n : Nat} (ha : a ≤ 12) (hS : S < 2 ^ n) : pw_q s a S n ≤ pw_ws s n := by
  have h1 : pw_q s a S n ≤ pw_sm (fun S => pw_q s a S n) (S + 1) := by
    show _ ≤ pw_sm (fun S => pw_q s a S n) S + pw_q s a S n
    omega
  have h2 : pw_sm (fun S => pw_q s a S n) (S + 1) ≤ pw_sm (fun S => pw_q s a S n) (2 ^ n) := by
    obtain ⟨j, hj⟩ : ∃ j, 2 ^ n = S + 1 + j := ⟨2 ^ n - (S + 1), by omega⟩
    rw [hj, sm_a (fun S => pw_q s a S n) (S + 1) j]
    omega
  rw [den_eq ha] at h2
  omega
theorem sub12 {a : Nat} (ha : a ≤ 12) : (12 - nI a).toInt64 = lN (12 - a) := by
  rw [show (12 : Int32) = nI 12 from rfl, pk_sub ha, nI_L (by omega)]
theorem weight5 {F n s S a : Nat} {st : sw_St} (hF : 20000 ≤ F) (hn : n ≤ 6) (hs : s < 64) (h0 : st.1 15 0 = nI n) (h11 : st.1 15 11 = nI s) (hS : S < 64) (ha : a ≤ 12) (hz : S &&& s = 0) : j_X4_weight F 15 (nI S) (nI a) st = some (lN (pw_q s a S n)) := by
  unfold j_X4_weight
  refine lz2_ind (Φ := fun o => o = some (lN (pw_q s a S n))) (fun _ i => 100 - i.toNatClampNeg) (fun u c => ∃ k, k ≤ n ∧ c = nI k ∧ u = lN (pw_q s a S k)) (fun g u c hp ih => ?_) F 1 0 ⟨0, by omega, rfl, rfl⟩ (by show 100 - 0 < F; omega)
  obtain ⟨k, hk, rfl, rfl⟩ := hp
  rw [h0]
  rcases Nat.lt_or_ge k n with q | q
  · rw [if_neg (show ¬ nI n ≤ nI k from nI_ge q (by omega)), isIn5 h11 hs (by omega), bo_some]
    simp only [jn, nm]
    rw [b_get hS (by omega), nI_L (show a < 2 ^ 31 by omega), sub12 ha, lN_mul, lN_mul, nI_1]
    have e : pw_q s a S (k + 1) = pw_q s a S k * pw_fc s a S k := rfl
    have fin : ∀ u, u = pw_q s a S (k + 1) → g (lN u) (nI (k + 1)) = some (lN (pw_q s a S n)) := fun u hu => ih _ _ ⟨k + 1, by omega, rfl, by rw [hu]⟩ (by rw [nI_clamp (by omega), nI_clamp (by omega)]; omega)
    unfold pw_fc at e
    cases h1 : s.testBit k
    · rw [if_neg (show ¬ false = true by decide), if_pos rfl]
      rw [h1] at e
      cases h2 : S.testBit k
      · rw [h2] at e
        rw [if_neg (by decide)]
        exact fin _ e.symm
      · rw [h2] at e
        rw [if_pos (by decide)]
        exact fin _ e.symm
    · rw [if_pos (show true = true from rfl), if_neg (show ¬ (1 : Int32) = 0 by decide)]
      have h2 : S.testBit k = false := by
        have := Nat.testBit_and S s k
        rw [hz, Nat.zero_testBit, h1, Bool.and_true] at this
        exact this.symm
      rw [h1, h2] at e
      exact fin _ (by rw [e]; exact (Nat.mul_one _).symm)
  · have e : k = n := by omega
    subst e
    rw [if_pos (show nI k ≤ nI k from nI_le (Nat.le_refl k) (by omega))]
theorem weights5 {F n s : Nat} {st : sw_St} (hF : 20000 ≤ F) (hn : n ≤ 6) (hs : s < 64) (h0 : st.1 15 0 = nI n) (h11 : st.1 15 11 = nI s) : j_X4_weights F 15 st = some (lN (pw_ws s n)) := by
  unfold j_X4_weights
  refine lz2_ind (Φ := fun o => o = some (lN (pw_ws s n))) (fun _ i => 100 - i.toNatClampNeg) (fun u c => ∃ k, k ≤ n ∧ c = nI k ∧ u = lN (pw_ws s k)) (fun g u c hp ih => ?_) F 1 0 ⟨0, by omega, rfl, rfl⟩ (by show 100 - 0 < F; omega)
  obtain ⟨k, hk, rfl, rfl⟩ := hp
  rw [h0]
  rcases Nat.lt_or_ge k n with q | q
  · rw [if_neg (show ¬ nI n ≤ nI k from nI_ge q (by omega)), isIn5 h11 hs (by omega), bo_some]
    simp only [jn, nm]
    rw [show (12 : Int64) = lN 12 from rfl, show (1 : Int64) = lN 1 from rfl, lN_mul, lN_mul, nI_1]
    have e : pw_ws s (k + 1) = pw_ws s k * (if s.testBit k then 1 else 12) := rfl
    have fin : ∀ u, u = pw_ws s (k + 1) → g (lN u) (nI (k + 1)) = some (lN (pw_ws s n)) := fun u hu => ih _ _ ⟨k + 1, by omega, rfl, by rw [hu]⟩ (by rw [nI_clamp (by omega), nI_clamp (by omega)]; omega)
    cases h1 : s.testBit k
    · rw [if_neg (show ¬ false = true by decide), if_pos rfl]
      rw [h1] at e
      exact fin _ e.symm
    · rw [if_pos (show true = true from rfl), if_neg (show ¬ (1 : Int32) = 0 by decide)]
      rw [h1] at e
      exact fin _ e.symm
  · have e : k = n := by omega
    subst e
    rw [if_pos (show nI k ≤ nI k from nI_le (Nat.le_refl k) (by omega))]
/-- the reference's ways of a set -/
def pw_w (n s a S : Nat) : Nat := if pw_free n s S then pw_q s a S n else 0
theorem ways6 {F n s S a : Nat} {st : sw_St} (hF : 20000 ≤ F) (hn : n ≤ 6) (hs : s < 64) (h1 : st.1 63 1 = nI n) (h5 : st.1 64 5 = nI s) (hS : S < 64) (ha : a ≤ 12) : j_X6_waysOf F (nI S) (nI a) st = some (lN (pw_w n s a S)) := by
  unfold j_X6_waysOf
  rw [isOut6 hn hs h1 h5 hS, bo_some]
  have L : ∀ z : Nat, (z = 1 → S &&& s = 0) → (z = 0 ∨ z = 1) → lz2 (fun f8 (x6 : Int64) (x7 : Int32) => (if (st.1 63 1) ≤ x7 then ( some (x6 : Int64)) else ( bo (j_X6_out F st) (fun (r12 : Int32) => bo (j_X6_has F r12 x7 st) (fun (r14 : Int32) => jn (fun (x15 : Int64) =>  nm (x6 * x15) (fun (x18 : Int64) => nm (x7 + 1) (fun (x19 : Int32) => f8 x18 x19))) (fun k16 => (if r14 = 0 then ( k16 1) else ( bo (j_X6_has F (nI S) x7 st) (fun (r22 : Int32) => (if r22 = 0 then ( k16 (((12 - nI a) : Int32).toInt64)) else ( k16 ((nI a : Int32).toInt64)))))))))))) F (lN z) 0 = some (lN (z * pw_q s a S n)) := by
    intro z hz hz1
    refine lz2_ind (Φ := fun o => o = some (lN (z * pw_q s a S n))) (fun _ i => 100 - i.toNatClampNeg) (fun u c => ∃ k, k ≤ n ∧ c = nI k ∧ u = lN (z * pw_q s a S k)) (fun g u c hp ih => ?_) F (lN z) 0 ⟨0, by omega, rfl, congrArg lN (Nat.mul_one z).symm⟩ (by show 100 - 0 < F; omega)
    obtain ⟨k, hk, rfl, rfl⟩ := hp
    rw [h1]
    rcases Nat.lt_or_ge k n with q | q
    · rw [if_neg (show ¬ nI n ≤ nI k from nI_ge q (by omega)), out6 hn hs h1 h5, bo_some, has6 (out_lt n s hn) (by omega), bo_some, has6 hS (by omega), out_b, decide_eq_true q, Bool.true_and]
      simp only [jn, nm, bo_some]
      rw [nI_L (show a < 2 ^ 31 by omega), sub12 ha, show (1 : Int64) = lN 1 from rfl, lN_mul, lN_mul, lN_mul, nI_1]
      have e : pw_q s a S (k + 1) = pw_q s a S k * pw_fc s a S k := rfl
      have fin : ∀ u, u = z * pw_q s a S (k + 1) → g (lN u) (nI (k + 1)) = some (lN (z * pw_q s a S n)) := fun u hu => ih _ _ ⟨k + 1, by omega, rfl, by rw [hu]⟩ (by rw [nI_clamp (by omega), nI_clamp (by omega)]; omega)
      unfold pw_fc at e
      cases h1 : s.testBit k
      · rw [if_pos (show (!false) = true from rfl), if_neg (show ¬ (1 : Int32) = 0 by decide)]
        rw [h1] at e
        cases h2 : S.testBit k
        · rw [h2] at e
          rw [if_neg (show ¬ false = true by decide), if_pos rfl]
          exact fin _ (by rw [e, ← Nat.mul_assoc]; rfl)
        · rw [h2] at e
          rw [if_pos (show true = true from rfl), if_neg (show ¬ (1 : Int32) = 0 by decide)]
          exact fin _ (by rw [e, ← Nat.mul_assoc]; rfl)
      · rw [if_neg (show ¬ (!true) = true by decide), if_pos rfl]
        rcases hz1 with rfl | rfl
        · exact fin _ (by rw [Nat.zero_mul, Nat.zero_mul, Nat.zero_mul])
        · have h2 : S.testBit k = false := by
            have := Nat.testBit_and S s k
            rw [hz rfl, Nat.zero_testBit, h1, Bool.and_true] at this
            exact this.symm
          rw [h1, h2] at e
          exact fin _ (by rw [e, if_pos rfl, if_neg (show ¬ false = true by decide), Nat.mul_assoc])
    · have e : k = n := by omega
      subst e
      rw [if_pos (show nI k ≤ nI k from nI_le (Nat.le_refl k) (by omega))]
  simp only [jn]
  simp only [jn] at L
  unfold pw_w
  cases hf : pw_free n s S
  · rw [if_neg (show ¬ false = true by decide), if_pos rfl]
    have := L 0 (fun h => absurd h (by decide)) (Or.inl rfl)
    rw [Nat.zero_mul] at this
    exact this
  · rw [if_pos (show true = true from rfl), if_neg (show ¬ (1 : Int32) = 0 by decide)]
    have := L 1 (fun _ => by
      unfold pw_free at hf
      simp at hf
      exact hf.2) (Or.inr rfl)
    rw [Nat.one_mul] at this
    exact this
theorem w_den {n s a : Nat} (hn : n ≤ 6) (ha : a ≤ 12) : pw_sm (pw_w n s a) 64 = pw_ws s n := by
  rw [sm_z (m := 2 ^ n) (pow_n hn) (fun i h1 h2 => by unfold pw_w pw_free; rw [decide_eq_false (by omega)]; rfl), ← den_eq (s := s) ha n]
  refine sm_c (fun S hS => ?_)
  unfold pw_w pw_free
  rw [decide_eq_true hS]
  by_cases z : S &&& s = 0
  · rw [z]; rfl
  · rw [q_zero hS z, ite_self]
theorem w_le {n s a S : Nat} (ha : a ≤ 12) : pw_w n s a S ≤ pw_ws s n := by
  unfold pw_w
  split
  · rename_i h
    unfold pw_free at h
    simp at h
    exact q_le ha h.1
  · omega
theorem lg_le0 {q : Nat} (h : q < 2 ^ 63) : lg_cmp (lN q) 0 ≤ 0 ↔ q = 0 := by
  have h1 := lg_gt (lN q) 0
  have h2 : (0 : Int64) < lN q ↔ 0 < q := pk_lLT (a := 0) (by decide) h
  rw [h2, i_lt] at h1
  rw [i_le]
  constructor
  · intro z
    refine Nat.eq_zero_of_not_pos (fun hp => ?_)
    have := h1.mpr hp
    omega
  · intro z
    refine Int.not_lt.mp (fun w => ?_)
    have := h1.mp w
    omega
/-- trial and strikes -/
def t21 (st s : sw_St) : Prop := (∀ a, a ≠ 63 → a ≠ 64 → s.1 a = st.1 a) ∧ (∀ i, i ≠ 21 → s.1 63 i = st.1 63 i) ∧ (∀ i, i < 828 → s.1 64 i = st.1 64 i) ∧ s.2 = st.2
theorem t21.rf (st : sw_St) : t21 st st := ⟨fun _ _ _ => rfl, fun _ _ => rfl, fun _ _ => rfl, rfl⟩
theorem t21.tr {st s s2 : sw_St} (h : t21 st s) (h2 : t21 s s2) : t21 st s2 := ⟨fun a h63 h64 => (h2.1 a h63 h64).trans (h.1 a h63 h64), fun i hi => (h2.2.1 i hi).trans (h.2.1 i hi), fun i hi => (h2.2.2.1 i hi).trans (h.2.2.1 i hi), h2.2.2.2.trans h.2.2.2⟩
theorem tri.t21 {st s : sw_St} (h : tri st s) : t21 st s := ⟨fun a _ h64 => h.1 a h64, fun i _ => by rw [h.1 63 (by decide)], h.2.1, h.2.2⟩
theorem t21.C {st s : sw_St} (h : t21 st s) (v : Int32) : t21 st (sw_setC s 63 21 v) := ⟨fun a h63 h64 => by rw [gsC_ne _ _ _ h63]; exact h.1 a h63 h64, fun i hi => by rw [gsC, if_neg (by omega)]; exact h.2.1 i hi, fun i hi => by rw [gsC_ne _ _ _ (by decide)]; exact h.2.2.1 i hi, h.2.2.2⟩
theorem mS_t21 {st st1 : sw_St} {n G : Nat} {kd sg bd : Nat → Nat} (h : t21 st st1) (hm : mS st n kd sg bd G) : mS st1 n kd sg bd G := by
  unfold mS pw_st
  rw [h.2.1 1 (by decide), h.1 65 (by decide) (by decide), h.1 66 (by decide) (by decide), h.1 67 (by decide) (by decide), h.2.2.1 6 (by decide)]
  exact hm
theorem TR_t21 {st st1 : sw_St} {x : pw_D} (h : t21 st st1) (ht : TR st 0 x) : TR st1 0 x := by
  unfold TR
  rw [h.2.2.1 _ (by decide), h.2.2.1 _ (by decide), h.2.2.1 _ (by decide), h.2.2.1 _ (by decide), h.2.2.1 _ (by decide)]
  exact ht
theorem lastsT6 {F n : Nat} {x : pw_D} {s2 : sw_St} (hF : 20000 ≤ F) (hx : okx n x) (hx3 : x.2.2.1 ≤ 900) (t2 : TR s2 828 x) : ∃ s3, j_X6_lastsTried F s2 = some (nI (pw_lft x.2.2.2.1 x.1), s3) ∧ t21 s2 s3 := by
  obtain ⟨L, hL⟩ : ∃ L, L = pw_lft x.2.2.2.1 x.1 := ⟨_, rfl⟩
  have hL99 : L ≤ 99 := by rw [hL]; exact lft_le hx.1
  rw [← hL]
  unfold j_X6_lastsTried
  simp only [nm]
  refine lz2_ind (Φ := fun o => ∃ s3 : sw_St, o = some (nI L, s3) ∧ t21 s2 s3) (fun i _ => 100 - i.toNatClampNeg) (fun c s => ∃ i, i ≤ L ∧ c = nI i ∧ TR s 828 (pw_psk i x) ∧ t21 s2 s) (fun g c s hp ih => ?_) F 0 _ ⟨0, by omega, rfl, ?_, (t21.rf s2).C 0⟩ (by show 100 - 0 < F; omega)
  · obtain ⟨i, hi, rfl, ht1, w1⟩ := hp
    rw [show s.1 64 829 = nI _ from ht1.1]
    have hlt := lft_lt (f := x.2.2.2.1) (w := x.1) (k := i)
    rw [← hL] at hlt
    have hx99 := hx.1
    have e1' : (pw_psk i x).1 = x.1 - i * (1 + x.2.2.2.1) := rfl
    rcases Nat.lt_or_ge i L with q | q
    · rw [if_neg (fun z => by have := (pos_iff (w := (pw_psk i x).1) (by omega)).mp z; have := hlt.mp q; omega)]
      obtain ⟨s3, j3, r3, a3⟩ := pass6 (F := F) (b := 828) (Or.inr rfl) (psk_ok (k := i) hx (by omega)) ht1
      rw [show (828 : Int32) = nI 828 from rfl, j3, bd_some, nI_1]
      refine ih _ _ ⟨i + 1, q, rfl, ?_, (w1.tr a3.tri.t21).C _⟩ (by rw [nI_clamp (by omega), nI_clamp (by omega)]; omega)
      unfold TR
      rw [gsC_ne _ _ _ (by decide), ← psk_s]
      exact r3
    · have e : i = L := by omega
      subst e
      rw [if_pos ((pos_iff (by omega)).mpr (by rw [e1']; have : ¬ i * (1 + x.2.2.2.1) < x.1 := fun z => by have := hlt.mpr z; omega
                                               omega))]
      exact ⟨s, rfl, w1⟩
  · unfold TR
    rw [gsC_ne _ _ _ (by decide), psk_0 hx]
    exact t2
theorem II_parts {st s : sw_St} {u w : Int64} (hI : II st) (h : t21 (sw_setJ (sw_setJ st 0 15 u) 0 16 w) s) : II (sw_setJ (sw_setJ s 63 10 u) 63 11 w) := by
  refine II_scr hI (fun b hb => ?_) ?_ ?_ ?_ ?_ (fun i hi => ?_) ?_ ?_
  · simp only [List.mem_cons, not_or] at hb
    rw [gsJ1, gsJ1, h.1 b hb.2.1 hb.2.2.1, gsJ1, gsJ1]
  · rw [gsJ1, gsJ1, h.1 0 (by decide) (by decide), gsJ1, gsJ1]
  · rw [gsJ1, gsJ1, h.1 0 (by decide) (by decide), gsJ1, gsJ1, h.2.1 9 (by decide), gsJ1, gsJ1]
    exact hI.2.2.1.1
  · rw [gsJ1, gsJ1, h.2.1 1 (by decide), gsJ1, gsJ1]
  · rw [gsJ1, gsJ1, h.2.1 12 (by decide), gsJ1, gsJ1]
  · rw [gsJ1, gsJ1, h.2.2.1 i hi, gsJ1, gsJ1]
  · rw [gsJ, gsJ, gsJ, gsJ, h.2.2.2, gsJ, gsJ]; ((try simp only [true_and, and_true, if_true]); repeat (first | rw [if_pos (by omega)] | rw [if_neg (by omega)]))
  · rw [gsJ, gsJ, gsJ, gsJ, h.2.2.2, gsJ, gsJ]; ((try simp only [true_and, and_true, if_true]); repeat (first | rw [if_pos (by omega)] | rw [if_neg (by omega)]))
theorem twelfth_n {F : Nat} {a : Int32} {st : sw_St} (h : nout a 13) : j_X5_isTwelfth F a st = some 0 := by
  unfold j_X5_isTwelfth
  simp only [jn, grd]
  by_cases q : a < 0
  · rw [if_pos q]; rfl
  · rw [if_neg q, if_pos]
    · rfl
    · rw [i_lt]
      rw [i_lt] at q
      rcases h with h | h
      · exact absurd h q
      · show 12 < a.toInt
        omega
theorem twelfth_y {F i : Nat} {st : sw_St} (h : i ≤ 12) : j_X5_isTwelfth F (nI i) st = some 1 := by
  unfold j_X5_isTwelfth
  simp only [jn, grd]
  rw [if_neg (show ¬ nI i < 0 from nI_pos (by omega)), if_neg (show ¬ (12 : Int32) < nI i by rw [i_lt, nI_tI (by omega)]; show ¬ (12 : Int) < i; omega)]
  rfl
theorem in6_12n {F : Nat} {a : Int32} {st : sw_St} (h : nout a 13) : j_X6_in F a.toInt64 0 12 st = some 0 := in6_n (lo := 0) (hi := 12) rfl rfl (by rcases h with h | h; exact Or.inl h; exact Or.inr (by omega))
theorem in6_12y {F i : Nat} {st : sw_St} (h : i ≤ 12) : j_X6_in F (nI i).toInt64 0 12 st = some 1 := in6_y (lo := 0) (hi := 12) rfl rfl (by rw [nI_tI (by omega)]; omega) (by rw [nI_tI (by omega)]; omega)
theorem HR.t21 {st s : sw_St} {n : Nat} {kd sg bd : Nat → Nat} {fw ff G : Nat} {x : pw_D} (h : HR st n kd sg bd fw ff G x) (e : t21 st s) : HR s n kd sg bd fw ff G x := h.c (fun b hb => by
    have := (by decide : ∀ a, a ∈ [15, 16, 17, 18, 19, 65, 66, 67] → a ≠ 63 ∧ a ≠ 64) b hb
    exact e.1 b this.1 this.2) (e.2.1 1 (by decide)) e.2.2.1
theorem free_iff {n s S : Nat} (hS : S < 2 ^ n) : pw_free n s S = decide (S &&& s = 0) := by
  unfold pw_free
  rw [decide_eq_true hS, Bool.true_and]
  rfl
theorem o_37 {F : Nat} (hF : 20000 ≤ F) : sm_37 II F := by
  intro a1 st hI
  obtain ⟨n, kd, sg, br, fw, ff, G, x, H⟩ := II_HR hI
  have hn := H.hv.1
  have hs := ok64 hn H.hx.2.2.2.2
  have h2n := pow_n hn
  unfold j_X5_mid j_X6_mid
  rcases nix a1 13 with h | ⟨a, ha, rfl⟩
  · exact ⟨-1, st, st, by rw [twelfth_n h]; rfl, by rw [in6_12n h]; rfl, hI⟩
  have ha12 : a ≤ 12 := by omega
  by_cases h0 : n = 0
  · exact ⟨-4, st, st, by rw [twelfth_y ha12, bo_some, if_neg (by decide), H.hc.1, if_pos ((n0_iff hn).mpr h0)], by rw [in6_12y ha12, bo_some, if_neg (by decide), H.hm.1.1, if_pos ((n0_iff hn).mpr h0)], hI⟩
  have n0 : ¬ nI n = 0 := fun z => h0 ((n0_iff hn).mp z)
  obtain ⟨v, hvd⟩ : ∃ v : Nat → Nat, v = fun S => (pw_cms n kd sg G S n x).1 := ⟨_, rfl⟩
  have hv99 : ∀ S, v S ≤ 99 := fun S => by rw [hvd]; exact (cms_ok H.hv (Nat.le_refl n) H.hx).1
  obtain ⟨w, hw⟩ : ∃ w : Nat → Nat, w = pw_w n x.2.2.2.2 a := ⟨_, rfl⟩
  have hden : pw_sm w 64 = pw_ws x.2.2.2.2 n := by rw [hw]; exact w_den hn ha12
  have hws := ws_le (s := x.2.2.2.2) hn
  have hwl : ∀ S, w S ≤ 2985984 := fun S => Nat.le_trans (by rw [hw]; exact w_le ha12) hws.1
  have hnum : pw_sm (fun S => w S * v S) 64 < 2 ^ 31 := by
    have := sm_le (u := fun S => w S * v S) (w := w) (c := 99) (k := 64) (fun i => Nat.mul_le_mul_left _ (hv99 i))
    rw [hden] at this
    have := hws.1
    omega
  have hwz : ∀ S, 2 ^ n ≤ S → w S = 0 := fun S h1 => by rw [hw]; unfold pw_w pw_free; rw [decide_eq_false (by omega)]; rfl
  obtain ⟨st1, e1⟩ : ∃ s, s = sw_setJ (sw_setJ st 0 15 (lN (pw_sm (fun S => w S * v S) 64 / pw_g (pw_sm (fun S => w S * v S) 64) (pw_ws x.2.2.2.2 n)))) 0 16 (lN (pw_ws x.2.2.2.2 n / pw_g (pw_sm (fun S => w S * v S) 64) (pw_ws x.2.2.2.2 n))) := ⟨_, rfl⟩
  have H1 : HR st1 n kd sg br fw ff G x := H.c (fun b hb => by rw [e1, gsJ1, gsJ1]) (by rw [e1, gsJ1, gsJ1]) (fun i hi => by rw [e1, gsJ1, gsJ1])
  suffices hsf : ∃ s, t21 st1 s ∧ lz4 (fun f9 (x5 : Int64) (x6 : Int64) (x7 : Int32) (s8 : sw_St) => (if 64 ≤ x7 then ( bd (j_X6_tellParts F x5 x6 s8) (fun (r13 : Int32) (s14 : sw_St) => some ((r13 : Int32), s14))) else ( bo (j_X6_waysOf F x7 (nI a) s8) (fun (r16 : Int64) => jn (fun (x17 : Int64) (x18 : Int64) (s19 : sw_St) =>  nm (x7 + 1) (fun (x22 : Int32) => f9 x17 x18 x22 s19)) (fun k20 => (if (lg_cmp r16 0) ≤ 0 then ( k20 x5 x6 s8) else ( bd (j_X6_woundBy F x7 s8) (fun (r25 : Int32) (s26 : sw_St) => nm (x5 + (r16 * ((r25 : Int32).toInt64))) (fun (x27 : Int64) => nm (x6 + r16) (fun (x28 : Int64) => k20 x27 x28 s26)))))))))) F 0 0 0 st1 = some (1, sw_setJ (sw_setJ s 63 10 (lN (pw_sm (fun S => w S * v S) 64 / pw_g (pw_sm (fun S => w S * v S) 64) (pw_ws x.2.2.2.2 n)))) 63 11 (lN (pw_ws x.2.2.2.2 n / pw_g (pw_sm (fun S => w S * v S) 64) (pw_ws x.2.2.2.2 n)))) by
    obtain ⟨s, hts, hl⟩ := hsf
    rw [e1] at hts
    refine ⟨1, st1, _, ?_, ?_, II_parts hI hts⟩
    · rw [twelfth_y ha12, bo_some, if_neg (by decide), H.hc.1, if_neg n0]
      refine lz2_ind (Φ := fun o => o = some (1, st1)) (fun _ i => 100 - i.toNatClampNeg) (fun u c => ∃ k, k ≤ 2 ^ n ∧ c = nI k ∧ u = lN (pw_sm (fun S => w S * v S) k)) (fun g u c hp ih => ?_) F 0 0 ⟨0, Nat.zero_le _, rfl, rfl⟩ (by show 100 - 0 < F; omega)
      obtain ⟨k, hk, rfl, rfl⟩ := hp
      rw [sets5 hn H.hc.1, bo_some]
      by_cases q : k = 2 ^ n
      · rw [if_pos (show nI (2 ^ n) ≤ nI k from nI_le (by omega) (by omega)), weights5 hF hn hs H.hc.1 H.hr.2.2.2.2, bo_some, ← sm_z (w := fun S => w S * v S) (k := 64) (m := k) (by omega) (fun i h1 h2 => by show w i * v i = 0; rw [hwz i (by omega), Nat.zero_mul]), tell5 hF hnum (by have := hws.1; omega), bd_some, ← e1]
      · have hkl : k &&& x.2.2.2.2 < 64 := Nat.lt_of_le_of_lt Nat.and_le_left (by omega)
        rw [if_neg (show ¬ nI (2 ^ n) ≤ nI k from nI_ge (by omega) (by omega)), H.hr.2.2.2.2, show nI k &&& nI x.2.2.2.2 = nI (k &&& x.2.2.2.2) from b_and0 ⟨k, by omega⟩ ⟨_, hs⟩]
        simp only [jn, nm]
        rw [nI_1]
        have e : pw_sm (fun S => w S * v S) (k + 1) = pw_sm (fun S => w S * v S) k + w k * v k := rfl
        have fin : ∀ u, u = lN (pw_sm (fun S => w S * v S) (k + 1)) → g u (nI (k + 1)) = some (1, st1) := fun u hu => ih _ _ ⟨k + 1, by omega, rfl, hu⟩ (by rw [nI_clamp (by omega), nI_clamp (by omega)]; omega)
        have hf := free_iff (n := n) (s := x.2.2.2.2) (S := k) (by omega)
        by_cases z : k &&& x.2.2.2.2 = 0
        · have hwk : w k = pw_q x.2.2.2.2 a k n := by rw [hw]; unfold pw_w; rw [hf, decide_eq_true z]; rfl
          rw [if_pos (by rw [z]; rfl), weight5 hF hn hs H.hc.1 H.hr.2.2.2.2 (by omega) ha12 z, bo_some, wbs5 hF H.hv H.hc H.hx H.hr.1 H.hr.2.2.2.2 (by omega), bo_some, show (pw_cms n kd sg G k n x).1 = v k by rw [hvd], nI_L (by have := hv99 k; omega), ← hwk, lN_mul, lN_add]
          exact fin _ (by rw [e])
        · have hwk : w k = 0 := by rw [hw]; unfold pw_w; rw [hf, decide_eq_false z]; rfl
          rw [if_neg (show ¬ nI (k &&& x.2.2.2.2) = 0 from fun y => z ((nI_eq (b := 0) (by omega) (by decide)).mp y))]
          exact fin _ (by rw [e, hwk, Nat.zero_mul, Nat.add_zero])
    · rw [in6_12y ha12, bo_some, if_neg (by decide), H1.hm.1.1, if_neg n0]
      exact hl
  refine lz4_ind (Φ := fun o => ∃ s, t21 st1 s ∧ o = some (1, sw_setJ (sw_setJ s 63 10 (lN (pw_sm (fun S => w S * v S) 64 / pw_g (pw_sm (fun S => w S * v S) 64) (pw_ws x.2.2.2.2 n)))) 63 11 (lN (pw_ws x.2.2.2.2 n / pw_g (pw_sm (fun S => w S * v S) 64) (pw_ws x.2.2.2.2 n))))) (fun _ _ i _ => 100 - i.toNatClampNeg) (fun u t c s => ∃ k, k ≤ 64 ∧ c = nI k ∧ u = lN (pw_sm (fun S => w S * v S) k) ∧ t = lN (pw_sm w k) ∧ t21 st1 s) (fun g u t c s hp ih => ?_) F 0 0 0 st1 ⟨0, by omega, rfl, rfl, rfl, t21.rf st1⟩ (by show 100 - 0 < F; omega)
  obtain ⟨k, hk, rfl, rfl, rfl, a9⟩ := hp
  by_cases q : k = 64
  · subst q
    rw [if_pos (by decide), hden, parts6 hF hnum (by have := hws.1; omega) hws.2, bd_some]
    exact ⟨s, a9, rfl⟩
  have Hk := H1.t21 a9
  rw [if_neg (show ¬ (64 : Int32) ≤ nI k from nI_ge (b := 64) (by omega) (by decide)), ways6 hF hn hs Hk.hm.1.1 Hk.ht.2.2.2.2 (by omega) ha12, bo_some, show pw_w n x.2.2.2.2 a k = w k by rw [hw]]
  simp only [jn, nm]
  rw [nI_1]
  have e : pw_sm (fun S => w S * v S) (k + 1) = pw_sm (fun S => w S * v S) k + w k * v k := rfl
  have e' : pw_sm w (k + 1) = pw_sm w k + w k := rfl
  by_cases z : w k = 0
  · rw [if_pos ((lg_le0 (by have := hwl k; omega)).mpr z)]
    exact ih _ _ _ _ ⟨k + 1, by omega, rfl, by rw [e, z, Nat.zero_mul, Nat.add_zero], by rw [e', z, Nat.add_zero], a9⟩ (by rw [nI_clamp (by omega), nI_clamp (by omega)]; omega)
  · obtain ⟨s3, j3, a3⟩ := wb6 (F := F) (S := k) hF Hk.hv Hk.hm Hk.hG Hk.hx Hk.ht (by omega)
    rw [if_neg (fun y => z ((lg_le0 (by have := hwl k; omega)).mp y)), j3, bd_some, show (pw_cms n kd sg G k n x).1 = v k by rw [hvd], nI_L (by have := hv99 k; omega), lN_mul, lN_add, lN_add]
    exact ih _ _ _ _ ⟨k + 1, by omega, rfl, by rw [e], by rw [e'], a9.tr a3.t21⟩ (by rw [nI_clamp (by omega), nI_clamp (by omega)]; omega)
theorem o_36 {F : Nat} (hF : 20000 ≤ F) : sm_36 II F := by
  intro a1 a2 st hI
  obtain ⟨n, kd, sg, br, fw, ff, G, x, H⟩ := II_HR hI
  have hn := H.hv.1
  have hs := ok64 hn H.hx.2.2.2.2
  have h2n := pow_n hn
  unfold j_X5_odds j_X6_odds
  simp only [jn]
  rcases nix a1 13 with h | ⟨d, hd, rfl⟩
  · refine ⟨-1, st, st, ?_, by rw [in6_12n h]; rfl, hI⟩
    by_cases q : a1 < 0
    · rw [if_pos q]
    · rw [if_neg q, if_pos]
      rw [i_lt]
      rw [i_lt] at q
      rcases h with h | h
      · exact absurd h q
      · show 12 < a1.toInt
        omega
  rw [if_neg (show ¬ nI d < 0 from nI_pos (by omega)), if_neg (show ¬ (12 : Int32) < nI d by rw [i_lt, nI_tI (by omega)]; show ¬ (12 : Int) < d; omega)]
  rcases nix a2 13 with h | ⟨a, ha, rfl⟩
  · exact ⟨-1, st, st, by rw [twelfth_n h]; rfl, by rw [in6_12y (by omega), bo_some, if_neg (by decide), in6_12n h]; rfl, hI⟩
  have ha12 : a ≤ 12 := by omega
  rw [twelfth_y ha12, bo_some, if_neg (show ¬ (1 : Int32) = 0 by decide)]
  by_cases h0 : n = 0
  · exact ⟨-4, st, st, by rw [H.hc.1, if_pos ((n0_iff hn).mpr h0)], by rw [in6_12y (by omega), bo_some, if_neg (by decide), in6_12y ha12, bo_some, if_neg (by decide), H.hm.1.1, if_pos ((n0_iff hn).mpr h0)], hI⟩
  have n0 : ¬ nI n = 0 := fun z => h0 ((n0_iff hn).mp z)
  obtain ⟨v, hvd⟩ : ∃ v : Nat → Nat, v = fun S => if pw_lft x.2.2.2.1 (pw_cms n kd sg G S n x).1 < d then 0 else 1 := ⟨_, rfl⟩
  have hv1 : ∀ S, v S ≤ 1 := fun S => by rw [hvd]; show (if _ then 0 else 1) ≤ 1; split <;> omega
  have hcm := fun S => cms_ok (G := G) (S := S) H.hv (Nat.le_refl n) H.hx
  have hlf := fun S => lft_le (f := x.2.2.2.1) (hcm S).1
  obtain ⟨w, hw⟩ : ∃ w : Nat → Nat, w = pw_w n x.2.2.2.2 a := ⟨_, rfl⟩
  have hden : pw_sm w 64 = pw_ws x.2.2.2.2 n := by rw [hw]; exact w_den hn ha12
  have hws := ws_le (s := x.2.2.2.2) hn
  have hwl : ∀ S, w S ≤ 2985984 := fun S => Nat.le_trans (by rw [hw]; exact w_le ha12) hws.1
  have hnum : pw_sm (fun S => w S * v S) 64 < 2 ^ 31 := by
    have := sm_le (u := fun S => w S * v S) (w := w) (c := 1) (k := 64) (fun i => Nat.mul_le_mul_left _ (hv1 i))
    rw [hden] at this
    have := hws.1
    omega
  have hwz : ∀ S, 2 ^ n ≤ S → w S = 0 := fun S h1 => by rw [hw]; unfold pw_w pw_free; rw [decide_eq_false (by omega)]; rfl
  obtain ⟨st1, e1⟩ : ∃ s, s = sw_setJ (sw_setJ st 0 15 (lN (pw_sm (fun S => w S * v S) 64 / pw_g (pw_sm (fun S => w S * v S) 64) (pw_ws x.2.2.2.2 n)))) 0 16 (lN (pw_ws x.2.2.2.2 n / pw_g (pw_sm (fun S => w S * v S) 64) (pw_ws x.2.2.2.2 n))) := ⟨_, rfl⟩
  have H1 : HR st1 n kd sg br fw ff G x := H.c (fun b hb => by rw [e1, gsJ1, gsJ1]) (by rw [e1, gsJ1, gsJ1]) (fun i hi => by rw [e1, gsJ1, gsJ1])
  have hlt : ∀ S, (nI (pw_lft x.2.2.2.1 (pw_cms n kd sg G S n x).1) < nI d) ↔ v S = 0 := fun S => by
    rw [nI_ltI (by have := hlf S; omega) (by omega), hvd]
    show _ ↔ (if _ then 0 else 1) = 0
    split
    · exact ⟨fun _ => rfl, fun _ => by assumption⟩
    · exact ⟨fun h => absurd h (by assumption), fun h => absurd h (by decide)⟩
  suffices hsf : ∃ s, t21 st1 s ∧ lz4 (fun f14 (x10 : Int64) (x11 : Int64) (x12 : Int32) (s13 : sw_St) => (if 64 ≤ x12 then ( bd (j_X6_tellParts F x10 x11 s13) (fun (r18 : Int32) (s19 : sw_St) => some ((r18 : Int32), s19))) else ( bo (j_X6_waysOf F x12 (nI a) s13) (fun (r21 : Int64) => (if (lg_cmp r21 0) ≤ 0 then ( nm (x12 + 1) (fun (x27 : Int32) => f14 x10 x11 x27 s13)) else ( bd (j_X6_layTried F s13) (fun (_ : Unit) (s30 : sw_St) => bd (j_X6_comeTried F x12 s30) (fun (_ : Unit) (s32 : sw_St) => bd (j_X6_lastsTried F s32) (fun (r34 : Int32) (s35 : sw_St) => (if r34 < nI d then ( nm (x10 + 0) (fun (x39 : Int64) => nm (x11 + r21) (fun (x40 : Int64) => nm (x12 + 1) (fun (x27 : Int32) => f14 x39 x40 x27 s35)))) else ( nm (x10 + r21) (fun (x39 : Int64) => nm (x11 + r21) (fun (x40 : Int64) => nm (x12 + 1) (fun (x27 : Int32) => f14 x39 x40 x27 s35)))))))))))))) F 0 0 0 st1 = some (1, sw_setJ (sw_setJ s 63 10 (lN (pw_sm (fun S => w S * v S) 64 / pw_g (pw_sm (fun S => w S * v S) 64) (pw_ws x.2.2.2.2 n)))) 63 11 (lN (pw_ws x.2.2.2.2 n / pw_g (pw_sm (fun S => w S * v S) 64) (pw_ws x.2.2.2.2 n)))) by
    obtain ⟨s, hts, hl⟩ := hsf
    rw [e1] at hts
    refine ⟨1, st1, _, ?_, ?_, II_parts hI hts⟩
    · rw [H.hc.1, if_neg n0]
      refine lz2_ind (Φ := fun o => o = some (1, st1)) (fun _ i => 100 - i.toNatClampNeg) (fun u c => ∃ k, k ≤ 2 ^ n ∧ c = nI k ∧ u = lN (pw_sm (fun S => w S * v S) k)) (fun g u c hp ih => ?_) F 0 0 ⟨0, Nat.zero_le _, rfl, rfl⟩ (by show 100 - 0 < F; omega)
      obtain ⟨k, hk, rfl, rfl⟩ := hp
      rw [sets5 hn H.hc.1, bo_some]
      by_cases q : k = 2 ^ n
      · rw [if_pos (show nI (2 ^ n) ≤ nI k from nI_le (by omega) (by omega)), weights5 hF hn hs H.hc.1 H.hr.2.2.2.2, bo_some, ← sm_z (w := fun S => w S * v S) (k := 64) (m := k) (by omega) (fun i h1 h2 => by show w i * v i = 0; rw [hwz i (by omega), Nat.zero_mul]), tell5 hF hnum (by have := hws.1; omega), bd_some, ← e1]
      · have hkl : k &&& x.2.2.2.2 < 64 := Nat.lt_of_le_of_lt Nat.and_le_left (by omega)
        rw [if_neg (show ¬ nI (2 ^ n) ≤ nI k from nI_ge (by omega) (by omega)), H.hr.2.2.2.2, show nI k &&& nI x.2.2.2.2 = nI (k &&& x.2.2.2.2) from b_and0 ⟨k, by omega⟩ ⟨_, hs⟩]
        simp only [nm]
        rw [nI_1]
        have e : pw_sm (fun S => w S * v S) (k + 1) = pw_sm (fun S => w S * v S) k + w k * v k := rfl
        have fin : ∀ u, u = lN (pw_sm (fun S => w S * v S) (k + 1)) → g u (nI (k + 1)) = some (1, st1) := fun u hu => ih _ _ ⟨k + 1, by omega, rfl, hu⟩ (by rw [nI_clamp (by omega), nI_clamp (by omega)]; omega)
        have hf := free_iff (n := n) (s := x.2.2.2.2) (S := k) (by omega)
        by_cases z : k &&& x.2.2.2.2 = 0
        · have hwk : w k = pw_q x.2.2.2.2 a k n := by rw [hw]; unfold pw_w; rw [hf, decide_eq_true z]; rfl
          rw [if_pos (by rw [z]; rfl), wbs5 hF H.hv H.hc H.hx H.hr.1 H.hr.2.2.2.2 (by omega), bo_some, left5 H.hr.2.2.2.1 (hcm k).1 H.hx.2.2.2.1, bo_some]
          by_cases y : v k = 0
          · rw [if_pos ((hlt k).mpr y)]
            exact fin _ (by rw [e, y, Nat.mul_zero, Nat.add_zero])
          · rw [if_neg (fun u => y ((hlt k).mp u)), weight5 hF hn hs H.hc.1 H.hr.2.2.2.2 (by omega) ha12 z, bo_some, ← hwk, lN_add]
            exact fin _ (by rw [e, show v k = 1 by have := hv1 k; omega, Nat.mul_one])
        · have hwk : w k = 0 := by rw [hw]; unfold pw_w; rw [hf, decide_eq_false z]; rfl
          rw [if_neg (show ¬ nI (k &&& x.2.2.2.2) = 0 from fun y => z ((nI_eq (b := 0) (by omega) (by decide)).mp y))]
          exact fin _ (by rw [e, hwk, Nat.zero_mul, Nat.add_zero])
    · rw [in6_12y (by omega), bo_some, if_neg (by decide), in6_12y ha12, bo_some, if_neg (by decide), H1.hm.1.1, if_neg n0]
      exact hl
  refine lz4_ind (Φ := fun o => ∃ s, t21 st1 s ∧ o = some (1, sw_setJ (sw_setJ s 63 10 (lN (pw_sm (fun S => w S * v S) 64 / pw_g (pw_sm (fun S => w S * v S) 64) (pw_ws x.2.2.2.2 n)))) 63 11 (lN (pw_ws x.2.2.2.2 n / pw_g (pw_sm (fun S => w S * v S) 64) (pw_ws x.2.2.2.2 n))))) (fun _ _ i _ => 100 - i.toNatClampNeg) (fun u t c s => ∃ k, k ≤ 64 ∧ c = nI k ∧ u = lN (pw_sm (fun S => w S * v S) k) ∧ t = lN (pw_sm w k) ∧ t21 st1 s) (fun g u t c s hp ih => ?_) F 0 0 0 st1 ⟨0, by omega, rfl, rfl, rfl, t21.rf st1⟩ (by show 100 - 0 < F; omega)
  obtain ⟨k, hk, rfl, rfl, rfl, a9⟩ := hp
  by_cases q : k = 64
  · subst q
    rw [if_pos (by decide), hden, parts6 hF hnum (by have := hws.1; omega) hws.2, bd_some]
    exact ⟨s, a9, rfl⟩
  have Hk := H1.t21 a9
  rw [if_neg (show ¬ (64 : Int32) ≤ nI k from nI_ge (b := 64) (by omega) (by decide)), ways6 hF hn hs Hk.hm.1.1 Hk.ht.2.2.2.2 (by omega) ha12, bo_some, show pw_w n x.2.2.2.2 a k = w k by rw [hw]]
  simp only [nm]
  rw [nI_1]
  have e : pw_sm (fun S => w S * v S) (k + 1) = pw_sm (fun S => w S * v S) k + w k * v k := rfl
  have e' : pw_sm w (k + 1) = pw_sm w k + w k := rfl
  by_cases z : w k = 0
  · rw [if_pos ((lg_le0 (by have := hwl k; omega)).mpr z)]
    exact ih _ _ _ _ ⟨k + 1, by omega, rfl, by rw [e, z, Nat.zero_mul, Nat.add_zero], by rw [e', z, Nat.add_zero], a9⟩ (by rw [nI_clamp (by omega), nI_clamp (by omega)]; omega)
  · obtain ⟨s3, j3, t3, a3⟩ := lay6 (F := F) hF Hk.ht
    obtain ⟨s4, j4, t4, a4⟩ := come6 (F := F) (S := k) hF Hk.hv (mS_tri a3 Hk.hm) Hk.hG Hk.hx t3 (by omega)
    obtain ⟨s5, j5, a5⟩ := lastsT6 (F := F) hF (hcm k) (by rw [cms_h.2.1]; have := Hk.hx3; omega) t4
    rw [if_neg (fun y => z ((lg_le0 (by have := hwl k; omega)).mp y)), j3, bd_some, j4, bd_some, j5, bd_some, show (pw_cms n kd sg G k n x).2.2.2.1 = x.2.2.2.1 from cms_h.2.2]
    have a9' := a9.tr (a3.t21.tr (a4.tri.t21.tr a5))
    by_cases y : v k = 0
    · rw [if_pos ((hlt k).mpr y), show (0 : Int64) = lN 0 from rfl, lN_add, lN_add]
      exact ih _ _ _ _ ⟨k + 1, by omega, rfl, by rw [e, y, Nat.mul_zero], by rw [e'], a9'⟩ (by rw [nI_clamp (by omega), nI_clamp (by omega)]; omega)
    · rw [if_neg (fun u => y ((hlt k).mp u)), lN_add, lN_add]
      exact ih _ _ _ _ ⟨k + 1, by omega, rfl, by rw [e, show v k = 1 by have := hv1 k; omega, Nat.mul_one], by rw [e'], a9'⟩ (by rw [nI_clamp (by omega), nI_clamp (by omega)]; omega)
