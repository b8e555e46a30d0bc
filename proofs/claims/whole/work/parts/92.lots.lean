theorem lN_I {a : Nat} (h : a < 2 ^ 31) : (lN a).toInt32 = nI a := by
  rw [← nI_L h]
  exact Int32.toInt32_toInt64 _
/-- the seed after k lots -/
def pw_sd (z : Nat) : Nat → Nat
  | 0 => z
  | k + 1 => 48271 * pw_sd z k % 2147483647
theorem sd_s (z k : Nat) : pw_sd z (k + 1) = 48271 * pw_sd z k % 2147483647 := rfl
theorem sd_lt {z k : Nat} (hz : z < 2147483647) : pw_sd z k < 2147483647 := by
  cases k with
  | zero => exact hz
  | succ k => rw [sd_s]; exact Nat.mod_lt _ (by decide)
def pw_pk (n y : Nat) (x : pw_D) : Nat × Nat := if y % 3 = 0 then (2, 0) else if x.2.2.2.2.testBit (y / 8 % n) then (1, y / 8 % n) else (0, y / 8 % n)
def pw_lt (n : Nat) (kd sg : Nat → Nat) (fw ff G : Nat) (dd : Nat → Nat × Nat) (dn z : Nat) : Nat → Nat → Nat × Nat
  | 0 => dd
  | k + 1 => upD (pw_lt n kd sg fw ff G dd dn z k) (dn + k) (pw_pk n (pw_sd z (k + 1)) (pw_aft n kd sg fw ff G (pw_lt n kd sg fw ff G dd dn z k) (dn + k)))
theorem pk_ok {n y : Nat} {x : pw_D} (hn : 0 < n) : pw_okd n (pw_pk n y x) := by
  unfold pw_pk pw_okd
  have := Nat.mod_lt (y / 8) hn
  split
  · exact Or.inr (Or.inr (Or.inl ⟨rfl, rfl⟩))
  · split
    · exact Or.inr (Or.inl ⟨rfl, this⟩)
    · exact Or.inl ⟨rfl, this⟩
theorem lot5 {F n G y dn : Nat} {kd sg bd : Nat → Nat} {fw ff : Nat} {dd : Nat → Nat × Nat} {x : pw_D} {st : sw_St} (hF : 20000 ≤ F) (hv : pw_stat n kd sg bd fw ff) (hn0 : 0 < n) (hc : pw_ct st 15 n kd sg bd fw ff G dd dn x) (hx : okx n x) (hdn : dn < 40) (hy : y < 2147483647) : ∃ st1, j_X5_noteLot F (lN y) st = some ((), st1) ∧ pw_ct st1 15 n kd sg bd fw ff G (upD dd dn (pw_pk n y x)) (dn + 1) (pw_dst n kd sg G (pw_pk n y x) x) ∧ ch [15, 20, 21] st st1 ∧ st1.2 = st.2 := by
  obtain ⟨s1, j1, r1⟩ := note5 (d := pw_pk n y x) hF hv hc hx (pk_ok hn0) hdn
  refine ⟨s1, ?_, r1⟩
  have hn := hv.1
  unfold j_X5_noteLot
  rw [show (3 : Int64) = lN 3 from rfl, show (8 : Int64) = lN 8 from rfl, pk_lRem (by omega) (by decide) (by decide), hc.1, nI_L (by omega), pk_lDiv (by omega) (by decide) (by decide), pk_lRem (by omega) hn0 (by omega), lN_I (by have := Nat.mod_lt (y / 8) hn0; omega)]
  by_cases z : y % 3 = 0
  · have e : pw_pk n y x = (2, 0) := if_pos z
    rw [e] at j1
    rw [if_pos ((lg_eq _).mpr (by rw [z]; rfl)), show j_X4_note F 15 2 0 st = some ((), s1) from j1]
    rfl
  · have hj := Nat.mod_lt (y / 8) hn0
    rw [if_neg (fun w => z ((lN0 (by omega)).mp ((lg_eq _).mp w))), grd_y (show ¬ lN n = 0 from fun w => by have := (lN0 (show n < 2 ^ 63 by omega)).mp w; omega)]
    simp only [nm]
    rw [isIn5 (ct_CR hc).2.2.2.2 (ok64 hn hx.2.2.2.2) (by omega), bo_some]
    simp only [jn]
    cases hb : x.2.2.2.2.testBit (y / 8 % n)
    · have e : pw_pk n y x = (0, y / 8 % n) := by unfold pw_pk; rw [if_neg z, hb]; rfl
      rw [e] at j1
      rw [if_neg (show ¬ false = true by decide), if_pos rfl, show j_X4_note F 15 0 (nI (y / 8 % n)) st = some ((), s1) from j1]
      rfl
    · have e : pw_pk n y x = (1, y / 8 % n) := by unfold pw_pk; rw [if_neg z, hb]; rfl
      rw [e] at j1
      rw [if_pos (show true = true from rfl), if_neg (show ¬ (1 : Int32) = 0 by decide), show j_X4_note F 15 1 (nI (y / 8 % n)) st = some ((), s1) from j1]
      rfl
/-- one lot on the reference's side -/
theorem lot6 {F n G y dn : Nat} {kd sg br : Nat → Nat} {fw ff : Nat} {dd : Nat → Nat × Nat} {st : sw_St} {K : sw_St → Option (Int32 × sw_St)} (hF : 20000 ≤ F) (hv : pw_stat n kd sg br fw ff) (hn0 : 0 < n) (hG : G < 64) (hst : pw_st st n kd sg br) (hm : pw_mt st 0 G dn (pw_aft n kd sg fw ff G dd)) (hx : okx n (pw_aft n kd sg fw ff G dd dn)) (hdn : dn < 40) (hy : y < 2147483647) :
    ∃ st2, (grd (¬ (((st.1 63 1) : Int32).toInt64) = 0) ( nm ((((lN y / 8) - (lN y / 8) / (((st.1 63 1) : Int32).toInt64) * (((st.1 63 1) : Int32).toInt64)) : Int64).toInt32) (fun (x22 : Int32) => (if (lg_cmp (lN y - lN y / 3 * 3) 0) = 0 then ( bd (j_X6_keepPast F st) (fun (_ : Unit) (s38 : sw_St) => bd (j_X6_pass F 0 s38) (fun (r40 : Int32) (s41 : sw_St) => K s41))) else ( bo (j_X6_isIn F 0 x22 st) (fun (r29 : Int32) => (if r29 = 0 then ( bd (j_X6_doLet F x22 st) (fun (r32 : Int32) (s33 : sw_St) => K s33)) else ( bd (j_X6_doLeave F x22 st) (fun (r35 : Int32) (s36 : sw_St) => K s36))))))))) = K st2 ∧ pw_mt st2 0 G (dn + 1) (pw_aft n kd sg fw ff G (upD dd dn (pw_pk n y (pw_aft n kd sg fw ff G dd dn)))) ∧ (∀ a, a ≠ 64 → st2.1 a = st.1 a) ∧ (∀ i, 207 ≤ i → st2.1 64 i = st.1 64 i) ∧ st2.2 = st.2 := by
  have hn := hv.1
  obtain ⟨st1, j1, k0, k1, k2, k3, k4⟩ := keep6 hF hm.1 hdn
  have hms : mS st1 n kd sg br G := by
    unfold mS pw_st
    rw [k3 63 (by decide), k3 65 (by decide), k3 66 (by decide), k3 67 (by decide), k2 6 (by omega) (by omega)]
    exact mt_mS hst hm
  have htr : TR st1 0 (pw_aft n kd sg fw ff G dd dn) := by
    unfold TR
    rw [k2 (0 + 1) (by omega) (by omega), k2 (0 + 2) (by omega) (by omega), k2 (0 + 3) (by omega) (by omega), k2 (0 + 4) (by omega) (by omega), k2 (0 + 5) (by omega) (by omega)]
    exact mt_TR hm
  have fin : ∀ st2, at6 0 st1 st2 → TR st2 0 (pw_dst n kd sg G (pw_pk n y (pw_aft n kd sg fw ff G dd dn)) (pw_aft n kd sg fw ff G dd dn)) → pw_mt st2 0 G (dn + 1) (pw_aft n kd sg fw ff G (upD dd dn (pw_pk n y (pw_aft n kd sg fw ff G dd dn)))) ∧ (∀ a, a ≠ 64 → st2.1 a = st.1 a) ∧ (∀ i, 207 ≤ i → st2.1 64 i = st.1 64 i) ∧ st2.2 = st.2 := fun st2 a r => ⟨mt_deed hm k0 k1 k2 a r, fun b hb => by rw [a.1 b hb, k3 b hb], fun i hi => by rw [a.2.1 i (by omega), k2 i (by omega) (by omega)], by rw [a.2.2, k4]⟩
  rw [show (3 : Int64) = lN 3 from rfl, show (8 : Int64) = lN 8 from rfl, pk_lRem (by omega) (by decide) (by decide), hst.1, nI_L (by omega), pk_lDiv (by omega) (by decide) (by decide), pk_lRem (by omega) hn0 (by omega), lN_I (by have := Nat.mod_lt (y / 8) hn0; omega), grd_y (show ¬ lN n = 0 from fun w => by have := (lN0 (show n < 2 ^ 63 by omega)).mp w; omega)]
  simp only [nm]
  have hs := ok64 hn hx.2.2.2.2
  have hj := Nat.mod_lt (y / 8) hn0
  by_cases z : y % 3 = 0
  · have e : pw_pk n y (pw_aft n kd sg fw ff G dd dn) = (2, 0) := if_pos z
    obtain ⟨s3, j3, r3, a3⟩ := pass6 (F := F) (b := 0) (Or.inl rfl) hx htr
    rw [if_pos ((lg_eq _).mpr (by rw [z]; rfl)), j1, bd_some, show j_X6_pass F 0 st1 = some _ from j3, bd_some]
    exact ⟨s3, rfl, fin s3 a3 (by rw [e]; exact r3)⟩
  · rw [if_neg (fun w => z ((lN0 (by omega)).mp ((lg_eq _).mp w))), show (0 : Int32) = nI 0 from rfl, isIn6 (b := 0) (mt_TR hm).2.2.2.2 (by omega) hs (by omega), bo_some]
    cases hb : (pw_aft n kd sg fw ff G dd dn).2.2.2.2.testBit (y / 8 % n)
    · have e : pw_pk n y (pw_aft n kd sg fw ff G dd dn) = (0, y / 8 % n) := by unfold pw_pk; rw [if_neg z, hb]; rfl
      obtain ⟨s3, j3, r3, a3⟩ := comesIn6 (b := 0) (i := y / 8 % n) hF hv hms hG (Or.inl rfl) hj hx htr
      rw [if_neg (show ¬ false = true by decide), if_pos (show (0 : Int32) = nI 0 from rfl)]
      unfold j_X6_doLet
      rw [j1, bd_some, show j_X6_comesIn F 0 (nI (y / 8 % n)) st1 = some _ from j3, bd_some, bd_some]
      exact ⟨s3, rfl, fin s3 a3 (by rw [e]; exact r3)⟩
    · have e : pw_pk n y (pw_aft n kd sg fw ff G dd dn) = (1, y / 8 % n) := by unfold pw_pk; rw [if_neg z, hb]; rfl
      obtain ⟨t1, t2, t3, t4, t5⟩ := id htr
      rw [if_pos (show true = true from rfl), if_neg (show ¬ (1 : Int32) = nI 0 by decide)]
      unfold j_X6_doLeave
      rw [j1, bd_some]
      simp only [nm]
      rw [show st1.1 64 5 = nI _ from t5, b_one (by omega), b_clr hs (by omega), gsC, if_pos ⟨rfl, rfl⟩, bits6 hF (clr64 hs (by omega)), bo_some, bd_some]
      refine ⟨_, rfl, fin _ ((at6.rf 0 st1).C _ (by decide) (by decide)) ?_⟩
      rw [e]
      unfold TR
      simp only [gsC]
      exact ⟨by ((try simp only [true_and, and_true, if_true]); repeat (first | rw [if_pos (by omega)] | rw [if_neg (by omega)])); exact t1, by ((try simp only [true_and, and_true, if_true]); repeat (first | rw [if_pos (by omega)] | rw [if_neg (by omega)])); exact t2, by ((try simp only [true_and, and_true, if_true]); repeat (first | rw [if_pos (by omega)] | rw [if_neg (by omega)])); exact t3, by ((try simp only [true_and, and_true, if_true]); repeat (first | rw [if_pos (by omega)] | rw [if_neg (by omega)])); exact t4, by ((try simp only [true_and, and_true, if_true]); repeat (first | rw [if_pos (by omega)] | rw [if_neg (by omega)])); rfl⟩
theorem sd_r {z k : Nat} (hz : z < 2147483647) : lN (48271 * pw_sd z k) - lN (48271 * pw_sd z k) / 2147483647 * 2147483647 = lN (pw_sd z (k + 1)) := by
  have := sd_lt (k := k) hz
  rw [sd_s, ← pk_lRem (b := 2147483647) (show 48271 * pw_sd z k < 2 ^ 63 by omega) (by decide) (by decide)]
  rfl
