def pw_out (n s : Nat) : Nat := pw_all (fun i => !s.testBit i) n
theorem eq64 {s t : Nat} (hs : s < 64) (ht : t < 64) (h : ∀ i, i < 6 → s.testBit i = t.testBit i) : s = t := by
  refine Nat.eq_of_testBit_eq (fun i => ?_)
  by_cases q : i < 6
  · exact h i q
  · rw [Nat.testBit_lt_two_pow (Nat.lt_of_lt_of_le hs (show 2 ^ 6 ≤ 2 ^ i from Nat.pow_le_pow_right (by decide) (by omega))), Nat.testBit_lt_two_pow (Nat.lt_of_lt_of_le ht (show 2 ^ 6 ≤ 2 ^ i from Nat.pow_le_pow_right (by decide) (by omega)))]
theorem out_lt (n s : Nat) (hn : n ≤ 6) : pw_out n s < 64 := Nat.lt_of_lt_of_le (all_lt _ n) (pow_n hn)
theorem out_b (n s i : Nat) : (pw_out n s).testBit i = (decide (i < n) && !s.testBit i) := all_b _ n i
theorem b_out0 : ∀ n : Fin 7, ∀ s : Fin 64, nI (2 ^ n.val - 1) &&& (nI s.val ^^^ (-1)) = nI (pw_out n.val s.val) := by decide +kernel
theorem b_sub0 : ∀ s o : Fin 64, (nI s.val &&& (nI o.val ^^^ (-1))) = nI (s.val &&& (63 - o.val)) := by decide +kernel
theorem b_and0 : ∀ s o : Fin 64, nI s.val &&& nI o.val = nI (s.val &&& o.val) := by decide +kernel
theorem two_n' {n : Nat} (hn : n ≤ 6) : (1 : Int32) <<< (nI n &&& 31) = nI (2 ^ n) := b_one (by omega)
theorem out6 {F n s : Nat} {st : sw_St} (hn : n ≤ 6) (hs : s < 64) (h1 : st.1 63 1 = nI n) (h5 : st.1 64 5 = nI s) : j_X6_out F st = some (nI (pw_out n s)) := by
  unfold j_X6_out
  rw [h1, h5, two_n hn]
  exact congrArg some (b_out0 ⟨n, by omega⟩ ⟨s, hs⟩)
theorem sub_iff {S n s : Nat} (hS : S < 64) (hn : n ≤ 6) (hs : s < 64) : (S &&& (63 - pw_out n s) = 0) ↔ (S < 2 ^ n ∧ S &&& s = 0) := by
  have h63 : ∀ o : Fin 64, ∀ i : Fin 6, (63 - o.val).testBit i.val = !o.val.testBit i.val := by decide +kernel
  have ho := out_lt n s hn
  have hb : ∀ i, i < 6 → (S &&& (63 - pw_out n s)).testBit i = (S.testBit i && !(decide (i < n) && !s.testBit i)) := fun i hi => by
    have := h63 ⟨_, ho⟩ ⟨i, hi⟩
    rw [Nat.testBit_and, show (63 - pw_out n s).testBit i = !(pw_out n s).testBit i from this, out_b]
  constructor
  · intro h
    have hz : ∀ i, i < 6 → S.testBit i = true → i < n ∧ s.testBit i = false := fun i hi hSi => by
      have := hb i hi
      rw [h, Nat.zero_testBit, hSi] at this
      by_cases q : i < n
      · refine ⟨q, ?_⟩
        cases hq : s.testBit i
        · rfl
        · rw [hq, decide_eq_true q] at this; exact absurd this (by decide)
      · rw [decide_eq_false q] at this; exact absurd this (by simp)
    refine ⟨?_, ?_⟩
    · refine Nat.lt_of_not_le (fun hge => ?_)
      obtain ⟨i, hi, hib⟩ := Nat.exists_ge_and_testBit_of_ge_two_pow hge
      have hi6 : i < 6 := by
        refine Nat.lt_of_not_le (fun h6 => ?_)
        rw [Nat.testBit_lt_two_pow (Nat.lt_of_lt_of_le hS (show 2 ^ 6 ≤ 2 ^ i from Nat.pow_le_pow_right (by decide) h6))] at hib
        exact absurd hib (by decide)
      have := (hz i hi6 hib).1
      omega
    · refine eq64 (Nat.lt_of_le_of_lt Nat.and_le_left hS) (by decide) (fun i hi => ?_)
      rw [Nat.testBit_and, Nat.zero_testBit]
      cases hq : S.testBit i
      · rfl
      · rw [(hz i hi hq).2]; rfl
  · intro ⟨h1, h2⟩
    refine eq64 (Nat.lt_of_le_of_lt Nat.and_le_left hS) (by decide) (fun i hi => ?_)
    rw [hb i hi, Nat.zero_testBit]
    cases hq : S.testBit i
    · rfl
    · have hin : i < n := by
        refine Nat.lt_of_not_le (fun h6 => ?_)
        rw [Nat.testBit_lt_two_pow (Nat.lt_of_lt_of_le h1 (Nat.pow_le_pow_right (by decide) h6))] at hq
        exact absurd hq (by decide)
      have hs' : (S &&& s).testBit i = false := by rw [h2, Nat.zero_testBit]
      rw [Nat.testBit_and, hq, Bool.true_and] at hs'
      rw [hs', decide_eq_true hin]
      rfl
/-- a set of strangers who are out -/
def pw_free (n s S : Nat) : Bool := decide (S < 2 ^ n) && (S &&& s == 0)
theorem isOut6 {F n s S : Nat} {st : sw_St} (hn : n ≤ 6) (hs : s < 64) (h1 : st.1 63 1 = nI n) (h5 : st.1 64 5 = nI s) (hS : S < 64) : j_X6_isOut F (nI S) st = some (if pw_free n s S then 1 else 0) := by
  unfold j_X6_isOut
  rw [out6 hn hs h1 h5, bo_some]
  simp only [jn, grd]
  rw [show nI S &&& (nI (pw_out n s) ^^^ (-1)) = nI (S &&& (63 - pw_out n s)) from b_sub0 ⟨S, hS⟩ ⟨_, out_lt n s hn⟩]
  have hlt : S &&& (63 - pw_out n s) < 64 := Nat.lt_of_le_of_lt Nat.and_le_left hS
  unfold pw_free
  by_cases q : S &&& (63 - pw_out n s) = 0
  · rw [if_pos (by rw [q]; rfl)]
    have := (sub_iff hS hn hs).mp q
    simp [this.1, this.2]
  · rw [if_neg (show ¬ nI (S &&& 63 - pw_out n s) = 0 from fun z => q ((nI_eq (b := 0) (by omega) (by decide)).mp z))]
    have h3 : ¬ (S < 2 ^ n ∧ S &&& s = 0) := fun z => q ((sub_iff hS hn hs).mpr z)
    by_cases z : S < 2 ^ n
    · have : ¬ S &&& s = 0 := fun y => h3 ⟨z, y⟩
      simp [z, this]
    · simp [z]
theorem sets5 {F t n : Nat} {st : sw_St} (hn : n ≤ 6) (h : st.1 t 0 = nI n) : j_X4_sets F t st = some (nI (2 ^ n)) := by
  unfold j_X4_sets
  rw [h, two_n' hn]
theorem notIn5 {F t n s : Nat} {st : sw_St} (hn : n ≤ 6) (hs : s < 64) (h : st.1 t 0 = nI n) (h11 : st.1 t 11 = nI s) : j_X4_notIn F t st = some (nI (pw_out n s)) := by
  unfold j_X4_notIn
  rw [sets5 hn h, bo_some, h11, show (1 : Int32) = nI 1 from rfl, pk_sub Nat.one_le_two_pow]
  exact congrArg some (b_out0 ⟨n, by omega⟩ ⟨s, hs⟩)
theorem o_33 {F : Nat} (hF : 20000 ≤ F) : sm_33 II F := by
  intro a1 st hI
  obtain ⟨n, kd, sg, br, fw, ff, G, dd, dn, hh⟩ := II_here hI
  obtain ⟨hv, hst, hdyn, hct, hmt, hk⟩ := id hh
  have hn := hv.1
  have hdn := hdyn.2.1
  have hG := hdyn.1
  obtain ⟨hx, hx2⟩ := aft_ok (G := G) hv hdyn.2.2 (by omega)
  have htr := mt_TR hmt
  have hcr := ct_CR hct
  have hcs := ct_cS hct
  have hms := mt_mS hst hmt
  generalize hxe : pw_aft n kd sg fw ff G dd dn = x at *
  have hs := ok64 hn hx.2.2.2.2
  unfold j_X5_shut j_X6_shut
  simp only [jn]
  rcases nix a1 2 with h | ⟨a, ha, rfl⟩
  · refine ⟨-1, st, ?_, by rw [in6_n (lo := 0) (hi := 1) rfl rfl (by rcases h with h | h; exact Or.inl h; exact Or.inr (by omega))]; rfl, hI⟩
    have hne : ∀ m : Nat, m < 2 → ¬ a1 = nI m := fun m hm e => by
      rw [e, nout, nI_tI (by omega)] at h
      omega
    rw [if_neg (show ¬ a1 = 0 from hne 0 (by decide)), if_neg (show ¬ a1 = 1 from hne 1 (by decide))]
  have i6 : j_X6_in F (nI a).toInt64 0 1 st = some 1 := in6_y (lo := 0) (hi := 1) rfl rfl (by rw [nI_tI (by omega)]; omega) (by rw [nI_tI (by omega)]; omega)
  have a01 : ∀ (α : Type) (u w : α), (if nI a = 0 then u else if nI a = 1 then u else w) = u := fun α u w => by
    rcases (show a = 0 ∨ a = 1 by omega) with rfl | rfl <;> rfl
  rw [a01, i6, bo_some, if_neg (show ¬ (1 : Int32) = 0 by decide), hst.1, hct.1]
  by_cases h0 : n = 0
  · exact ⟨-4, st, by rw [if_pos ((n0_iff hn).mpr h0)], by rw [if_pos ((n0_iff hn).mpr h0)], hI⟩
  have n0 : ¬ nI n = 0 := fun z => h0 ((n0_iff hn).mp z)
  rw [if_neg n0, if_neg n0, out6 hn hs hst.1 htr.2.2.2.2, bo_some]
  let S : Nat := pw_all (fun i => !x.2.2.2.2.testBit i && decide ((if G.testBit i then 1 else 0) ≠ a)) n
  have hS : S < 64 := Nat.lt_of_lt_of_le (all_lt _ n) (pow_n hn)
  obtain ⟨s2, j2, a2⟩ := wb6 (F := F) hF hv hms hG hx htr hS
  have hg1 : ∀ i, (nI (if G.testBit i then 1 else 0) = nI a) ↔ (if G.testBit i then 1 else 0) = a := fun i => nI_eq (by split <;> decide) (by omega)
  refine ⟨nI (pw_cms n kd sg G S n x).1, s2, ?_, ?_, II_tri hI a2⟩
  · refine lz2_ind (Φ := fun o => o = some (nI (pw_cms n kd sg G S n x).1)) (fun _ i => 100 - i.toNatClampNeg) (fun c i' => ∃ i, i ≤ n ∧ i' = nI i ∧ c = nI (pw_all (fun i => !x.2.2.2.2.testBit i && decide ((if G.testBit i then 1 else 0) ≠ a)) i)) (fun g c i' hp ih => ?_) F 0 0 ⟨0, by omega, rfl, rfl⟩ (by show 100 - 0 < F; omega)
    obtain ⟨i, hi, rfl, rfl⟩ := hp
    rcases Nat.lt_or_ge i n with q | q
    · have hA : pw_all (fun i => !x.2.2.2.2.testBit i && decide ((if G.testBit i then 1 else 0) ≠ a)) i < 64 := Nat.lt_of_lt_of_le (all_lt _ i) (pow_n (by omega))
      have hAb : (pw_all (fun i => !x.2.2.2.2.testBit i && decide ((if G.testBit i then 1 else 0) ≠ a)) i).testBit i = false := by rw [all_b]; simp
      have hstep : nI (pw_all (fun i => !x.2.2.2.2.testBit i && decide ((if G.testBit i then 1 else 0) ≠ a)) i) = nI (pw_all (fun i => !x.2.2.2.2.testBit i && decide ((if G.testBit i then 1 else 0) ≠ a)) i) := rfl
      rw [if_neg (show ¬ nI n ≤ nI i from nI_ge q (by omega)), isIn5 hcr.2.2.2.2 hs (by omega), bo_some, bnd_nI (by omega) (by decide), nI_clamp (by omega), (hcs.2 i q).2.2.1, b_one (by omega), b_or hA (by omega)]
      simp only [nm]
      rw [nI_1]
      have hsucc : ∀ b : Bool, (!x.2.2.2.2.testBit i && decide ((if G.testBit i then 1 else 0) ≠ a)) = b → pw_all (fun i => !x.2.2.2.2.testBit i && decide ((if G.testBit i then 1 else 0) ≠ a)) (i + 1) = if b then pw_set (pw_all (fun i => !x.2.2.2.2.testBit i && decide ((if G.testBit i then 1 else 0) ≠ a)) i) i else pw_all (fun i => !x.2.2.2.2.testBit i && decide ((if G.testBit i then 1 else 0) ≠ a)) i := fun b hb => by
        refine eq64 (Nat.lt_of_lt_of_le (all_lt _ _) (pow_n (by omega))) ?_ (fun j hj => ?_)
        · split
          · exact set64 hA (by omega)
          · exact hA
        · rw [all_b]
          by_cases e : j = i
          · subst e
            rw [hb]
            cases b
            · rw [if_neg (by decide), hAb]; simp
            · rw [if_pos rfl, set_b hA hj hj]; simp
          · have : decide (j < i + 1) = decide (j < i) := by
              by_cases z : j < i
              · rw [decide_eq_true z, decide_eq_true (by omega)]
              · rw [decide_eq_false z, decide_eq_false (by omega)]
            rw [this]
            cases b
            · rw [if_neg (show ¬ (false = true) by decide), all_b]
            · rw [if_pos rfl, set_b hA (by omega) hj, all_b, decide_eq_false e, Bool.or_false]
      have fin : ∀ c, c = pw_all (fun i => !x.2.2.2.2.testBit i && decide ((if G.testBit i then 1 else 0) ≠ a)) (i + 1) → g (nI c) (nI (i + 1)) = some (nI (pw_cms n kd sg G S n x).1) := fun c hc => ih _ _ ⟨i + 1, q, rfl, by rw [hc]⟩ (by rw [nI_clamp (by omega), nI_clamp (by omega)]; omega)
      by_cases hin : x.2.2.2.2.testBit i = true
      · rw [if_pos hin, if_neg (by decide)]
        exact fin _ (by rw [hsucc false (by rw [hin]; rfl)]; rfl)
      · rw [if_neg hin, if_pos rfl]
        by_cases hg : (if G.testBit i then 1 else 0) = a
        · rw [if_pos ((hg1 i).mpr hg)]
          exact fin _ (by rw [hsucc false (by simp [hg])]; rfl)
        · rw [if_neg (fun z => hg ((hg1 i).mp z))]
          exact fin _ (by rw [hsucc true (by simp [hg, hin])]; rfl)
    · have e : i = n := by omega
      subst e
      rw [if_pos (show nI i ≤ nI i from nI_le (Nat.le_refl i) (by omega)), wbs5 hF hv hcs hx hcr.1 hcr.2.2.2.2 hS]
      rfl
  · have tw : ∀ k i : Nat, (pw_out n x.2.2.2.2).testBit i = (decide (i < n) && !x.2.2.2.2.testBit i) := fun _ i => out_b _ _ i
    refine lz2_ind (Φ := fun o => o = some (nI (pw_cms n kd sg G S n x).1, s2)) (fun _ i => 100 - i.toNatClampNeg) (fun c i' => ∃ i T, i ≤ n ∧ i' = nI i ∧ c = nI T ∧ T < 64 ∧ ∀ j, j < 6 → T.testBit j = (decide (j < n) && !x.2.2.2.2.testBit j && !(decide (j < i) && decide ((if G.testBit j then 1 else 0) = a)))) (fun g c i' hp ih => ?_) F _ 0 ⟨0, pw_out n x.2.2.2.2, by omega, rfl, rfl, out_lt _ _ hn, fun j hj => by rw [out_b]; simp⟩ (by show 100 - 0 < F; omega)
    obtain ⟨i, T, hi, rfl, rfl, hT, hTb⟩ := hp
    rcases Nat.lt_or_ge i n with q | q
    · rw [if_neg (show ¬ nI n ≤ nI i from nI_ge q (by omega)), hms.2, b_get hG (by omega), b_one (by omega), b_clr hT (by omega), show nI T &&& 63 = nI (T &&& 63) from b_and0 ⟨T, hT⟩ ⟨63, by decide⟩, show T &&& 63 = T from by rw [show 63 = 2 ^ 6 - 1 from rfl, Nat.and_two_pow_sub_one_eq_mod]; exact Nat.mod_eq_of_lt hT]
      simp only [nm]
      rw [nI_1]
      by_cases hg : (if G.testBit i then 1 else 0) = a
      · rw [if_pos ((hg1 i).mpr hg)]
        refine ih _ _ ⟨i + 1, _, q, rfl, rfl, clr64 hT (by omega), fun j hj => ?_⟩ (by rw [nI_clamp (by omega), nI_clamp (by omega)]; omega)
        rw [clr_b hT (by omega) hj, hTb j hj]
        by_cases e : j = i
        · subst e
          simp [hg]
        · have : decide (j < i + 1) = decide (j < i) := by
            by_cases z : j < i
            · rw [decide_eq_true z, decide_eq_true (by omega)]
            · rw [decide_eq_false z, decide_eq_false (by omega)]
          rw [this, decide_eq_false e]
          simp
      · rw [if_neg (fun z => hg ((hg1 i).mp z))]
        refine ih _ _ ⟨i + 1, _, q, rfl, rfl, hT, fun j hj => ?_⟩ (by rw [nI_clamp (by omega), nI_clamp (by omega)]; omega)
        rw [hTb j hj]
        by_cases e : j = i
        · subst e
          simp [hg]
        · have : decide (j < i + 1) = decide (j < i) := by
            by_cases z : j < i
            · rw [decide_eq_true z, decide_eq_true (by omega)]
            · rw [decide_eq_false z, decide_eq_false (by omega)]
          rw [this]
    · have e : i = n := by omega
      subst e
      have hTS : T = S := by
        refine eq64 hT hS (fun j hj => ?_)
        rw [hTb j hj]
        show _ = (pw_all _ i).testBit j
        rw [all_b]
        by_cases z : j < i
        · by_cases y : (if G.testBit j then 1 else 0) = a
          · simp [z, y]
          · simp [z, y]
        · simp [z]
      rw [if_pos (show nI i ≤ nI i from nI_le (Nat.le_refl i) (by omega)), hTS, j2]
      rfl
