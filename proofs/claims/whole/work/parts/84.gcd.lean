theorem lg_eq (x : Int64) : lg_cmp x 0 = 0 ↔ x = 0 := by
  unfold lg_cmp
  by_cases h : x > 0
  · rw [if_pos h]
    refine ⟨fun q => absurd q (by decide), fun q => ?_⟩
    rw [q] at h
    exact absurd h (by decide)
  · rw [if_neg h]
    by_cases e : x = 0
    · rw [if_pos e]
      exact ⟨fun _ => e, fun _ => rfl⟩
    · rw [if_neg e]
      exact ⟨fun q => absurd q (by decide), fun q => absurd q e⟩
theorem lN0 {b : Nat} (h : b < 2 ^ 63) : lN b = 0 ↔ b = 0 := pk_lEQ (b := 0) h (by decide)
def pw_g (a b : Nat) : Nat := if Nat.gcd a b = 0 then 1 else Nat.gcd a b
theorem gcd_st {a b : Nat} : Nat.gcd b (a % b) = Nat.gcd a b := by
  rw [Nat.gcd_comm a b, Nat.gcd_rec b a, Nat.gcd_comm]
theorem half_p {a b k : Nat} (h : b ≤ a) (hb : 0 < b) (hp : a * b < 2 ^ k) : 1 ≤ k ∧ b * (a % b) < 2 ^ (k - 1) := by
  have hk : 1 ≤ k := by
    refine Nat.one_le_iff_ne_zero.mpr (fun hk => ?_)
    subst hk
    have : 1 * 1 ≤ a * b := Nat.mul_le_mul (by omega) hb
    omega
  refine ⟨hk, ?_⟩
  have hr := Nat.mod_lt a hb
  have hd : b * (a / b) + a % b = a := Nat.div_add_mod a b
  have hq : 1 ≤ a / b := (Nat.one_le_div_iff hb).mpr h
  have h2 : b * 1 ≤ b * (a / b) := Nat.mul_le_mul_left b hq
  have h3 : 2 * (a % b) ≤ a := by omega
  have h4 : b * (2 * (a % b)) ≤ b * a := Nat.mul_le_mul_left b h3
  have h5 : b * (2 * (a % b)) = 2 * (b * (a % b)) := by rw [Nat.mul_left_comm]
  have h6 : b * a = a * b := Nat.mul_comm b a
  have h7 : 2 ^ k = 2 * 2 ^ (k - 1) := by
    rw [show k = (k - 1) + 1 by omega, Nat.pow_succ, Nat.mul_comm]
    rfl
  omega
theorem prod62 {a b : Nat} (ha : a < 2 ^ 31) (hb : b < 2 ^ 31) : a * b < 2 ^ 62 := by
  have : a * b < 2 ^ 31 * 2 ^ 31 := Nat.mul_lt_mul'' ha hb
  exact this
theorem gcd5 {F a b : Nat} {st : sw_St} (hF : 20000 ≤ F) (ha : a < 2 ^ 31) (hb : b < 2 ^ 31) : j_X5_commonDivisor F (lN a) (lN b) st = some (lN (pw_g a b)) := by
  unfold j_X5_commonDivisor
  refine lz3_ind (Φ := fun o => o = some (lN (pw_g a b))) (fun _ _ i => 100 - i.toNatClampNeg) (fun x y z => ∃ a' b' i, x = lN a' ∧ y = lN b' ∧ z = nI i ∧ a' < 2 ^ 31 ∧ b' < 2 ^ 31 ∧ Nat.gcd a' b' = Nat.gcd a b ∧ (i = 0 ∨ (b' ≤ a' ∧ ∃ k, i + k ≤ 64 ∧ a' * b' < 2 ^ k))) (fun g x y z hp ih => ?_) F _ _ _ ⟨a, b, 0, rfl, rfl, rfl, ha, hb, rfl, Or.inl rfl⟩ (by show 100 - 0 < F; omega)
  obtain ⟨a', b', i, rfl, rfl, rfl, ha', hb', hg, hi⟩ := hp
  have hi64 : i ≤ 64 := by
    rcases hi with hi | ⟨-, k, hk, -⟩ <;> omega
  simp only [jn, nm]
  rw [if_neg (show ¬ (100 : Int32) ≤ nI i from nI_ge (b := 100) (by omega) (by decide))]
  by_cases q : b' = 0
  · subst q
    rw [if_pos ((lg_eq (lN 0)).mpr rfl)]
    rw [Nat.gcd_zero_right] at hg
    unfold pw_g
    rw [← hg]
    by_cases z : a' = 0
    · subst z
      rw [if_pos ((lg_eq (lN 0)).mpr rfl), if_pos rfl]
      rfl
    · rw [if_neg (fun w => z ((lN0 (by omega)).mp ((lg_eq _).mp w))), if_neg z]
  · have hne : ¬ lN b' = 0 := fun w => q ((lN0 (by omega)).mp w)
    rw [if_neg (fun w => hne ((lg_eq _).mp w)), grd_y hne, pk_lRem (by omega) (by omega) (by omega), nI_1]
    have hr := Nat.mod_lt a' (show 0 < b' by omega)
    refine ih _ _ _ ⟨b', a' % b', i + 1, rfl, rfl, rfl, hb', by omega, by rw [gcd_st, hg], Or.inr ⟨by omega, ?_⟩⟩ (by rw [nI_clamp (by omega), nI_clamp (by omega)]; omega)
    rcases hi with hi | ⟨h1, k, hk, h2⟩
    · exact ⟨62, by omega, prod62 hb' (by omega)⟩
    · have := half_p h1 (by omega) h2
      exact ⟨k - 1, by omega, this.2⟩
theorem pw_g_pos (a b : Nat) : 0 < pw_g a b := by
  unfold pw_g
  split <;> omega
theorem pw_g_le {a b : Nat} (ha : a < 2 ^ 31) (hb : b < 2 ^ 31) : pw_g a b < 2 ^ 63 := by
  unfold pw_g
  split
  · decide
  · rename_i h
    by_cases q : b = 0
    · subst q
      rw [Nat.gcd_zero_right]
      omega
    · have := Nat.gcd_le_right a (show 0 < b by omega)
      omega
theorem tell5 {F a b : Nat} {st : sw_St} (hF : 20000 ≤ F) (ha : a < 2 ^ 31) (hb : b < 2 ^ 31) : j_X5_tell F (lN a) (lN b) st = some ((), sw_setJ (sw_setJ st 0 15 (lN (a / pw_g a b))) 0 16 (lN (b / pw_g a b))) := by
  unfold j_X5_tell
  have hp := pw_g_pos a b
  have hl := pw_g_le ha hb
  have hne : ¬ lN (pw_g a b) = 0 := fun w => by have := (lN0 hl).mp w; omega
  rw [gcd5 hF ha hb, bo_some, grd_y hne]
  simp only [nm]
  rw [grd_y hne, pk_lDiv (by omega) hp hl, pk_lDiv (by omega) hp hl]
theorem parts6' {a b : Nat} {st : sw_St} (ha : a < 2 ^ 31) (hb : b < 2 ^ 31) (h0 : 0 < b) : ∀ (k F a' b' : Nat), b' ≤ a' → a' < 2 ^ 31 → a' * b' < 2 ^ k → k < F → Nat.gcd a' b' = Nat.gcd a b → lz2 (fun f3 (x1 : Int64) (x2 : Int64) => (if (lg_cmp x2 0) = 0 then ( grd (¬ x1 = 0) ( nm (sw_setJ st 63 10 (lN a / x1)) (fun (s7 : sw_St) => grd (¬ x1 = 0) ( nm (sw_setJ s7 63 11 (lN b / x1)) (fun (s9 : sw_St) => some ((1 : Int32), s9)))))) else ( grd (¬ x2 = 0) ( nm (x1 - x1 / x2 * x2) (fun (x11 : Int64) => f3 x2 x11))))) F (lN a') (lN b') = some (1, sw_setJ (sw_setJ st 63 10 (lN (a / pw_g a b))) 63 11 (lN (b / pw_g a b))) := by
  intro k
  induction k with
  | zero =>
    intro F a' b' h1 h2 h3 h4 h5
    obtain ⟨F, rfl⟩ : ∃ f, F = f + 1 := ⟨F - 1, by omega⟩
    have hb0 : b' = 0 := by
      refine Nat.eq_zero_of_not_pos (fun hpos => ?_)
      have : 1 * 1 ≤ a' * b' := Nat.mul_le_mul (by omega) hpos
      omega
    subst hb0
    rw [Nat.gcd_zero_right] at h5
    have hgp : pw_g a b = a' := by
      unfold pw_g
      rw [← h5, if_neg]
      have := Nat.gcd_pos_of_pos_right a h0
      omega
    have ha0 : 0 < a' := by rw [h5]; exact Nat.gcd_pos_of_pos_right a h0
    have hne : ¬ lN a' = 0 := fun w => by have := (lN0 (show a' < 2 ^ 63 by omega)).mp w; omega
    simp only [lz2]
    rw [if_pos ((lg_eq (lN 0)).mpr rfl), grd_y hne]
    simp only [nm]
    rw [grd_y hne, pk_lDiv (by omega) ha0 (by omega), pk_lDiv (by omega) ha0 (by omega), hgp]
  | succ k ihk =>
    intro F a' b' h1 h2 h3 h4 h5
    obtain ⟨F, rfl⟩ : ∃ f, F = f + 1 := ⟨F - 1, by omega⟩
    by_cases hb0 : b' = 0
    · subst hb0
      rw [Nat.gcd_zero_right] at h5
      have hgp : pw_g a b = a' := by
        unfold pw_g
        rw [← h5, if_neg]
        have := Nat.gcd_pos_of_pos_right a h0
        omega
      have ha0 : 0 < a' := by rw [h5]; exact Nat.gcd_pos_of_pos_right a h0
      have hne : ¬ lN a' = 0 := fun w => by have := (lN0 (show a' < 2 ^ 63 by omega)).mp w; omega
      simp only [lz2]
      rw [if_pos ((lg_eq (lN 0)).mpr rfl), grd_y hne]
      simp only [nm]
      rw [grd_y hne, pk_lDiv (by omega) ha0 (by omega), pk_lDiv (by omega) ha0 (by omega), hgp]
    · have hne : ¬ lN b' = 0 := fun w => hb0 ((lN0 (by omega)).mp w)
      have hr := Nat.mod_lt a' (show 0 < b' by omega)
      have hh := half_p h1 (by omega) h3
      have := ihk F b' (a' % b') (by omega) (by omega) hh.2 (by omega) (by rw [gcd_st, h5])
      rw [← this]
      simp only [lz2]
      rw [if_neg (fun w => hne ((lg_eq _).mp w)), grd_y hne, pk_lRem (by omega) (by omega) (by omega)]
      rfl
theorem parts6 {F a b : Nat} {st : sw_St} (hF : 20000 ≤ F) (ha : a < 2 ^ 31) (hb : b < 2 ^ 31) (h0 : 0 < b) : j_X6_tellParts F (lN a) (lN b) st = some (1, sw_setJ (sw_setJ st 63 10 (lN (a / pw_g a b))) 63 11 (lN (b / pw_g a b))) := by
  unfold j_X6_tellParts
  obtain ⟨F, rfl⟩ : ∃ f, F = f + 1 := ⟨F - 1, by omega⟩
  have hr := Nat.mod_lt a h0
  have hne : ¬ lN b = 0 := fun w => by have := (lN0 (show b < 2 ^ 63 by omega)).mp w; omega
  have := parts6' (st := st) ha hb h0 62 F b (a % b) (by omega) hb (prod62 hb (by omega)) (by omega) gcd_st
  rw [← this]
  simp only [lz2]
  rw [if_neg (fun w => hne ((lg_eq _).mp w)), grd_y hne, pk_lRem (by omega) (by omega) (by omega)]
  rfl
theorem nI_L {n : Nat} (h : n < 2 ^ 31) : (nI n).toInt64 = lN n := by
  rw [l_eq, i_l, nI_toInt h, pk_lT (by omega)]
