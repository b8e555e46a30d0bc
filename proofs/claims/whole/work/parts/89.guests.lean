/-- strangers of a row, one after another: who is then in; none if one of them can't come -/
def pw_gk (n s0 : Nat) (al : Bool) (it : Nat → Int32) : Nat → Option Nat
  | 0 => some s0
  | k + 1 => match pw_gk n s0 al it k with
    | none => none
    | some s => if al = true ∧ it k = -9 then some s else if (0 ≤ (it k).toInt ∧ (it k).toInt < (n : Int)) ∧ s.testBit (it k).toNatClampNeg = false then some (pw_set s (it k).toNatClampNeg) else none
theorem gk_none {n s0 : Nat} {al : Bool} {it : Nat → Int32} {k m : Nat} (h : pw_gk n s0 al it k = none) (hk : k ≤ m) : pw_gk n s0 al it m = none := by
  induction m with
  | zero => rw [show k = 0 by omega] at h; exact h
  | succ m ih =>
    by_cases e : k = m + 1
    · rw [← e]; exact h
    · unfold pw_gk
      rw [ih (by omega)]
theorem gk_some {n s0 : Nat} {al : Bool} {it : Nat → Int32} {k m s : Nat} (h : pw_gk n s0 al it m = some s) (hk : k ≤ m) : ∃ s', pw_gk n s0 al it k = some s' := by
  cases hq : pw_gk n s0 al it k with
  | none => rw [gk_none hq hk] at h; exact absurd h (by simp)
  | some s' => exact ⟨s', rfl⟩
theorem gk_lt {n s0 : Nat} {al : Bool} {it : Nat → Int32} {k s : Nat} (hn : n ≤ 6) (h0 : s0 < 2 ^ n) (h : pw_gk n s0 al it k = some s) : s < 2 ^ n := by
  induction k generalizing s with
  | zero =>
    injection h with h
    rw [← h]; exact h0
  | succ k ih =>
    unfold pw_gk at h
    cases hq : pw_gk n s0 al it k with
    | none => rw [hq] at h; exact absurd h (by simp)
    | some s' =>
      rw [hq] at h
      have h2 : (if al = true ∧ it k = -9 then some s' else if (0 ≤ (it k).toInt ∧ (it k).toInt < (n : Int)) ∧ s'.testBit (it k).toNatClampNeg = false then some (pw_set s' (it k).toNatClampNeg) else none) = some s := h
      split at h2
      · injection h2 with h2
        rw [← h2]; exact ih hq
      · split at h2
        · rename_i h3
          injection h2 with h2
          rw [← h2]
          refine set_lt hn (ih hq) ?_
          have := h3.1
          have e : (it k).toNatClampNeg = (it k).toInt.toNat := rfl
          omega
        · exact absurd h2 (by simp)
theorem item_nI {a : Int32} {n : Nat} (h : 0 ≤ a.toInt ∧ a.toInt < (n : Int)) (hn : n ≤ 1000) : ∃ j, j < n ∧ a = nI j := by
  rcases nix a n with h1 | h1
  · unfold nout at h1; omega
  · exact h1
theorem has5_if {F n : Nat} {a : Int32} {st : sw_St} (h : st.1 15 0 = nI n) (hn : n ≤ 6) : j_X4_has F 15 a st = some (if 0 ≤ a.toInt ∧ a.toInt < (n : Int) then 1 else 0) := by
  rcases nix a n with h1 | ⟨j, hj, rfl⟩
  · rw [has5_n h hn h1, if_neg]
    unfold nout at h1; omega
  · rw [has5_y h hn hj, if_pos]
    rw [nI_tI (by omega)]; omega
theorem isS6_if {F n : Nat} {a : Int32} {st : sw_St} (h : st.1 63 1 = nI n) (hn : n ≤ 6) : j_X6_isStranger F a st = some (if 0 ≤ a.toInt ∧ a.toInt < (n : Int) then 1 else 0) := by
  rcases nix a n with h1 | ⟨j, hj, rfl⟩
  · rw [isS6_n h hn h1, if_neg]
    unfold nout at h1; omega
  · rw [isS6_y h hn hj, if_pos]
    rw [nI_tI (by omega)]; omega
theorem canCome5 {F n s0 r m : Nat} {al : Bool} {st : sw_St} (hF : 20000 ≤ F) (hn : n ≤ 6) (h0 : st.1 15 0 = nI n) (h11 : st.1 15 11 = nI s0) (hs0 : s0 < 2 ^ n) (hr : r < 6) (hz : st.1 8 r = nI m) (hm : m ≤ 40) : j_X5_canAllCome F (nI r) (if al then 1 else 0) st = some (if (pw_gk n s0 al (st.1 (2 + r)) m).isSome then 1 else 0) := by
  unfold j_X5_canAllCome
  simp only [nm]
  rw [h11]
  refine lz2_ind (Φ := fun o => o = some (if (pw_gk n s0 al (st.1 (2 + r)) m).isSome then 1 else 0)) (fun _ i => 100 - i.toNatClampNeg) (fun u c => ∃ k s, k ≤ m ∧ c = nI k ∧ u = nI s ∧ pw_gk n s0 al (st.1 (2 + r)) k = some s) (fun g u c hp ih => ?_) F _ _ ⟨0, s0, by omega, rfl, rfl, rfl⟩ (by show 100 - 0 < F; omega)
  obtain ⟨k, s, hk, rfl, rfl, hg⟩ := hp
  rw [bnd_nI hr (by decide), nI_clamp (show r < 2 ^ 31 by omega), hz]
  rcases Nat.lt_or_ge k m with q | q
  · rw [if_neg (show ¬ nI m ≤ nI k from nI_ge q (by omega)), bnd_nI hr (by decide), bnd_nI (by omega) (by decide), nI_clamp (by omega)]
    simp only [jn]
    rw [has5_if h0 hn, nI_1]
    have hstep : pw_gk n s0 al (st.1 (2 + r)) (k + 1) = if al = true ∧ st.1 (2 + r) k = -9 then some s else if (0 ≤ (st.1 (2 + r) k).toInt ∧ (st.1 (2 + r) k).toInt < (n : Int)) ∧ s.testBit (st.1 (2 + r) k).toNatClampNeg = false then some (pw_set s (st.1 (2 + r) k).toNatClampNeg) else none := by
      show (match pw_gk n s0 al (st.1 (2 + r)) k with | none => none | some s => _) = _
      rw [hg]
    have fin : ∀ s', pw_gk n s0 al (st.1 (2 + r)) (k + 1) = some s' → g (nI s') (nI (k + 1)) = some (if (pw_gk n s0 al (st.1 (2 + r)) m).isSome then 1 else 0) := fun s' h' => ih _ _ ⟨k + 1, s', by omega, rfl, rfl, h'⟩ (by rw [nI_clamp (by omega), nI_clamp (by omega)]; omega)
    have non : pw_gk n s0 al (st.1 (2 + r)) (k + 1) = none → some (0 : Int32) = some (if (pw_gk n s0 al (st.1 (2 + r)) m).isSome then 1 else 0) := fun h' => by
      rw [gk_none h' (by omega)]
      rfl
    generalize hit : st.1 (2 + r) k = it at *
    have hs := ok64 hn (gk_lt hn hs0 hg)
    have main : ¬ (al = true ∧ it = -9) → (bo (some (if 0 ≤ it.toInt ∧ it.toInt < (n : Int) then (1 : Int32) else 0)) fun r18 => if r18 = 0 then some (0 : Int32) else if ((nI s >>> (it &&& 31)) &&& 1) = 1 then some 0 else nm (nI s ||| (1 <<< (it &&& 31))) fun x23 => nm (nI k + 1) fun x14 => g x23 x14) = some (if (pw_gk n s0 al (st.1 (2 + r)) m).isSome then 1 else 0) := fun hno => by
      rw [bo_some]
      rw [if_neg hno] at hstep
      by_cases hin : 0 ≤ it.toInt ∧ it.toInt < (n : Int)
      · obtain ⟨j, hj, rfl⟩ := item_nI hin (by omega)
        rw [nI_clamp (by omega)] at hstep
        rw [if_pos hin, if_neg (show ¬ (1 : Int32) = 0 by decide), b_get hs (by omega), b_one (by omega), b_or hs (by omega)]
        simp only [nm]
        rw [nI_1]
        cases hb : s.testBit j
        · rw [if_pos ⟨hin, hb⟩] at hstep
          rw [if_neg (by decide)]
          exact fin _ hstep
        · rw [if_neg (fun z => by rw [hb] at z; exact absurd z.2 (by decide))] at hstep
          rw [if_pos (by decide)]
          exact non hstep
      · rw [if_neg (fun z => hin z.1)] at hstep
        rw [if_neg hin, if_pos rfl]
        exact non hstep
    cases al
    · rw [if_neg (show ¬ false = true by decide), if_pos rfl]
      have := main (fun z => absurd z.1 (by decide))
      simp only [nm] at this
      rw [nI_1] at this
      exact this
    · rw [if_pos (show true = true from rfl), if_neg (show ¬ (1 : Int32) = 0 by decide)]
      by_cases h9 : it = -9
      · rw [if_pos ⟨rfl, h9⟩] at hstep
        rw [if_pos h9]
        exact fin _ hstep
      · rw [if_neg h9]
        have := main (fun z => h9 z.2)
        simp only [nm] at this
        rw [nI_1] at this
        exact this
  · have e : k = m := by omega
    subst e
    rw [if_pos (show nI k ≤ nI k from nI_le (Nat.le_refl k) (by omega)), hg]
    rfl
theorem noRow6 {F n s0 r m mx : Nat} {al : Bool} {it : Nat → Int32} {st : sw_St} (hF : 20000 ≤ F) (hn : n ≤ 6) (hn0 : ¬ n = 0) (h0 : st.1 63 1 = nI n) (h5 : st.1 64 5 = nI s0) (hs0 : s0 < 2 ^ n) (hr : r < 6) (hz : st.1 68 r = nI m) (hm : m ≤ mx) (hmx : mx ≤ 6) (hit : ∀ i, i < m → st.1 69 (40 * r + i) = it i) : j_X6_noRow F (nI r) (nI mx) (if al then 1 else 0) st = if (pw_gk n s0 al it m).isSome then some (0, st) else some (-3, fd6 st 3) := by
  unfold j_X6_noRow
  rw [h0, if_neg (fun z => hn0 ((n0_iff hn).mp z)), bnd_nI hr (by decide), nI_clamp (show r < 2 ^ 31 by omega), hz, if_pos (show (0 : Int32) ≤ nI m from nI_le (a := 0) (by omega) (by omega)), bnd_nI hr (by decide), if_pos (show nI m ≤ nI mx from nI_le hm (by omega))]
  simp only [nm]
  rw [h5]
  have e40 : (40 : Int32) * nI r = nI (40 * r) := by rw [show (40 : Int32) = nI 40 from rfl, pk_mul]
  rw [e40, nI_add]
  refine lz2_ind (Φ := fun o => o = if (pw_gk n s0 al it m).isSome then some (0, st) else some (-3, fd6 st 3)) (fun _ i => 1000 - i.toNatClampNeg) (fun u c => ∃ k s, k ≤ m ∧ c = nI (40 * r + k) ∧ u = nI s ∧ pw_gk n s0 al it k = some s) (fun g u c hp ih => ?_) F _ _ ⟨0, s0, by omega, rfl, rfl, rfl⟩ (by show 1000 - _ < F; omega)
  obtain ⟨k, s, hk, rfl, rfl, hg⟩ := hp
  rw [bnd_nI hr (by decide)]
  rcases Nat.lt_or_ge k m with q | q
  · have hB : ∀ (z : Option (Int32 × sw_St)), bnd (nI (40 * r + k)) 240 z = z := fun z => bnd_nI (by omega) (by decide) z
    rw [if_neg (show ¬ nI (40 * r + m) ≤ nI (40 * r + k) from nI_ge (by omega) (by omega))]
    simp only [jn, hB]
    rw [nI_clamp (show 40 * r + k < 2 ^ 31 by omega), hit k q, isS6_if h0 hn, show (3 : Int32) = nI 3 from rfl, find6 (by decide), nI_1]
    have hstep : pw_gk n s0 al it (k + 1) = if al = true ∧ it k = -9 then some s else if (0 ≤ (it k).toInt ∧ (it k).toInt < (n : Int)) ∧ s.testBit (it k).toNatClampNeg = false then some (pw_set s (it k).toNatClampNeg) else none := by
      show (match pw_gk n s0 al it k with | none => none | some s => _) = _
      rw [hg]
    have fin : ∀ s', pw_gk n s0 al it (k + 1) = some s' → g (nI s') (nI (40 * r + k + 1)) = if (pw_gk n s0 al it m).isSome then some (0, st) else some (-3, fd6 st 3) := fun s' h' => ih _ _ ⟨k + 1, s', by omega, by rw [Nat.add_assoc], rfl, h'⟩ (by rw [nI_clamp (by omega), nI_clamp (by omega)]; omega)
    have non : pw_gk n s0 al it (k + 1) = none → some ((-3 : Int32), fd6 st 3) = if (pw_gk n s0 al it m).isSome then some (0, st) else some (-3, fd6 st 3) := fun h' => by
      rw [gk_none h' (by omega)]
      rfl
    generalize it k = itk at *
    have hs := ok64 hn (gk_lt hn hs0 hg)
    have main : ¬ (al = true ∧ itk = -9) → (bo (some (if 0 ≤ itk.toInt ∧ itk.toInt < (n : Int) then (1 : Int32) else 0)) fun r23 => if r23 = 0 then bd (some (-3, fd6 st 3)) (fun (r27 : Int32) (s28 : sw_St) => some (r27, s28)) else bo (j_X6_has F (nI s) itk st) fun r32 => if r32 = 0 then g (nI s ||| (1 <<< (itk &&& 31))) (nI (40 * r + k + 1)) else bd (some (-3, fd6 st 3)) (fun (r27 : Int32) (s28 : sw_St) => some (r27, s28))) = if (pw_gk n s0 al it m).isSome then some (0, st) else some (-3, fd6 st 3) := fun hno => by
      rw [bo_some]
      rw [if_neg hno] at hstep
      by_cases hin : 0 ≤ itk.toInt ∧ itk.toInt < (n : Int)
      · obtain ⟨j, hj, rfl⟩ := item_nI hin (by omega)
        rw [nI_clamp (by omega)] at hstep
        rw [if_pos hin, if_neg (show ¬ (1 : Int32) = 0 by decide), has6 hs (by omega), bo_some, b_one (by omega), b_or hs (by omega)]
        cases hb : s.testBit j
        · rw [if_pos ⟨hin, hb⟩] at hstep
          rw [if_pos (by decide)]
          exact fin _ hstep
        · rw [if_neg (fun z => by rw [hb] at z; exact absurd z.2 (by decide))] at hstep
          rw [if_neg (by decide)]
          exact non hstep
      · rw [if_neg (fun z => hin z.1)] at hstep
        rw [if_neg hin, if_pos rfl]
        exact non hstep
    cases al
    · rw [if_neg (show ¬ false = true by decide), if_pos rfl]
      exact main (fun z => absurd z.1 (by decide))
    · rw [if_pos (show true = true from rfl), if_neg (show ¬ (1 : Int32) = 0 by decide)]
      by_cases h9 : itk = -9
      · rw [if_pos ⟨rfl, h9⟩] at hstep
        rw [if_pos h9]
        exact fin _ hstep
      · rw [if_neg h9]
        exact main (fun z => h9 z.2)
  · have e : k = m := by omega
    subst e
    rw [if_pos (show nI (40 * r + k) ≤ nI (40 * r + k) from nI_le (Nat.le_refl _) (by omega)), hg]
    rfl
/-- before wound and behind -/
theorem guests_pre {F mx : Nat} {al : Bool} {a1 : Int32} {st : sw_St} (hF : 20000 ≤ F) (hmx : mx ≤ 6) (hI : II st) :
    (∃ (r : Int32) (s1 s2 : sw_St), ¬ r = 0 ∧ j_X5_refusedGuests F a1 (nI mx) (if al then 1 else 0) st = some (r, s1) ∧ (∀ K : Int32 → sw_St → Option (Int32 × sw_St), bo (j_X6_isRow F a1 s1) (fun r2 => if r2 = 0 then some (-1, s1) else bd (j_X6_noRow F a1 (nI mx) (if al then 1 else 0) s1) (fun r5 s6 => if r5 = 0 then K r5 s6 else some (r5, s6))) = some (r, s2)) ∧ II s2) ∨
    ∃ n kd sg br fw ff G x r m s, HR st n kd sg br fw ff G x ∧ n ≠ 0 ∧ r < 6 ∧ a1 = nI r ∧ m ≤ mx ∧ st.1 8 r = nI m ∧ st.1 68 r = nI m ∧ (∀ i, i < m → st.1 69 (40 * r + i) = st.1 (2 + r) i) ∧ pw_gk n x.2.2.2.2 al (st.1 (2 + r)) m = some s ∧ j_X5_refusedGuests F a1 (nI mx) (if al then 1 else 0) st = some (0, st) ∧
      ∀ (v : Int32) (K : Int32 → sw_St → Option (Int32 × sw_St)), bo (j_X6_isRow F a1 (sw_setC st 0 14 v)) (fun r2 => if r2 = 0 then some (-1, sw_setC st 0 14 v) else bd (j_X6_noRow F a1 (nI mx) (if al then 1 else 0) (sw_setC st 0 14 v)) (fun r5 s6 => if r5 = 0 then K r5 s6 else some (r5, s6))) = K 0 (sw_setC st 0 14 v) := by
  obtain ⟨n, kd, sg, br, fw, ff, G, x, H⟩ := II_HR hI
  have hn := H.hv.1
  rcases nix a1 6 with h | ⟨r, hr, rfl⟩
  · refine Or.inl ⟨-1, st, st, by decide, ?_, fun K => ?_, hI⟩
    · unfold j_X5_refusedGuests
      rw [isRow5_n h]
      rfl
    · rw [isRow6_n h]
      rfl
  by_cases h0 : n = 0
  · refine Or.inl ⟨-4, st, st, by decide, ?_, fun K => ?_, hI⟩
    · unfold j_X5_refusedGuests
      rw [isRow5_y hr, bo_some, if_neg (by decide), H.hc.1, if_pos ((n0_iff hn).mpr h0)]
    · rw [isRow6_y hr, bo_some, if_neg (by decide)]
      unfold j_X6_noRow
      rw [H.hm.1.1, if_pos ((n0_iff hn).mpr h0)]
      rfl
  have n0 : ¬ nI n = 0 := fun z => h0 ((n0_iff hn).mp z)
  have fdc : ∀ f a i, a ≠ 0 → a ≠ 62 → (fd5 st f).1 a i = st.1 a i := fun f a i h1 h2 => fd5_o h1 h2
  rcases IR_size hI hr with ⟨z1, z2⟩ | ⟨m, hm, z1, z2, hit⟩
  · refine Or.inl ⟨-3, fd5 st 1, fd6 (fd5 st 1) 1, by decide, ?_, fun K => ?_, II_fd hI (by decide)⟩
    · unfold j_X5_refusedGuests
      rw [isRow5_y hr, bo_some, if_neg (by decide), H.hc.1, if_neg n0, bnd_nI hr (by decide), nI_clamp (by omega), z1, if_neg (by decide), show (1 : Int32) = nI 1 from rfl, found5 (by decide)]
      rfl
    · rw [isRow6_y hr, bo_some, if_neg (by decide)]
      unfold j_X6_noRow
      rw [fdc _ _ _ (by decide) (by decide), H.hm.1.1, if_neg n0, bnd_nI hr (by decide), nI_clamp (by omega), fdc _ _ _ (by decide) (by decide), z2, if_neg (by decide), show j_X6_find F 1 (fd5 st 1) = some (-3, fd6 (fd5 st 1) 1) from find6 (by decide)]
      rfl
  by_cases hmm : m ≤ mx
  case neg =>
    refine Or.inl ⟨-3, fd5 st 5, fd6 (fd5 st 5) 5, by decide, ?_, fun K => ?_, II_fd hI (by decide)⟩
    · unfold j_X5_refusedGuests
      rw [isRow5_y hr, bo_some, if_neg (by decide), H.hc.1, if_neg n0, bnd_nI hr (by decide), nI_clamp (by omega), z1, if_pos (show (0 : Int32) ≤ nI m from nI_le (a := 0) (by omega) (by omega)), bnd_nI hr (by decide), if_neg (show ¬ nI m ≤ nI mx from nI_ge (by omega) (by omega)), show (5 : Int32) = nI 5 from rfl, found5 (by decide)]
      rfl
    · rw [isRow6_y hr, bo_some, if_neg (by decide)]
      unfold j_X6_noRow
      rw [fdc _ _ _ (by decide) (by decide), H.hm.1.1, if_neg n0, bnd_nI hr (by decide), nI_clamp (by omega), fdc _ _ _ (by decide) (by decide), z2, if_pos (show (0 : Int32) ≤ nI m from nI_le (a := 0) (by omega) (by omega)), bnd_nI hr (by decide), if_neg (show ¬ nI m ≤ nI mx from nI_ge (by omega) (by omega)), show j_X6_find F 5 (fd5 st 5) = some (-3, fd6 (fd5 st 5) 5) from find6 (by decide)]
      rfl
  have r5 : j_X5_refusedGuests F (nI r) (nI mx) (if al then 1 else 0) st = if (pw_gk n x.2.2.2.2 al (st.1 (2 + r)) m).isSome then some (0, st) else some (-3, fd5 st 3) := by
    unfold j_X5_refusedGuests
    rw [isRow5_y hr, bo_some, if_neg (by decide), H.hc.1, if_neg n0, bnd_nI hr (by decide), nI_clamp (show r < 2 ^ 31 by omega), z1, if_pos (show (0 : Int32) ≤ nI m from nI_le (a := 0) (by omega) (by omega)), bnd_nI hr (by decide), if_pos (show nI m ≤ nI mx from nI_le hmm (by omega)), canCome5 hF hn H.hc.1 H.hr.2.2.2.2 H.hx.2.2.2.2 hr z1 hm, bo_some]
    simp only [jn]
    cases (pw_gk n x.2.2.2.2 al (st.1 (2 + r)) m).isSome
    · rw [if_neg (show ¬ false = true by decide), if_pos rfl, if_neg (show ¬ false = true by decide), show (3 : Int32) = nI 3 from rfl, found5 (by decide)]
      rfl
    · rw [if_pos (show true = true from rfl), if_neg (show ¬ (1 : Int32) = 0 by decide), if_pos (show true = true from rfl)]
  cases hgk : pw_gk n x.2.2.2.2 al (st.1 (2 + r)) m with
  | none =>
    rw [hgk, if_neg (show ¬ (none : Option Nat).isSome = true by decide)] at r5
    refine Or.inl ⟨-3, fd5 st 3, fd6 (fd5 st 3) 3, by decide, r5, fun K => ?_, II_fd hI (by decide)⟩
    rw [isRow6_y hr, bo_some, if_neg (by decide), noRow6 (it := st.1 (2 + r)) hF hn h0 (by rw [fdc _ _ _ (by decide) (by decide)]; exact H.hm.1.1) (by rw [fdc _ _ _ (by decide) (by decide)]; exact H.ht.2.2.2.2) H.hx.2.2.2.2 hr (by rw [fdc _ _ _ (by decide) (by decide)]; exact z2) hmm hmx (fun i hi => by rw [fdc _ _ _ (by decide) (by decide)]; exact (hit i hi).symm), hgk, if_neg (show ¬ (none : Option Nat).isSome = true by decide), bd_some, if_neg (by decide)]
  | some s =>
    rw [hgk, if_pos (show (some s).isSome = true from rfl)] at r5
    refine Or.inr ⟨n, kd, sg, br, fw, ff, G, x, r, m, s, H, h0, hr, rfl, hmm, z1, z2, fun i hi => (hit i hi).symm, hgk, r5, fun v K => ?_⟩
    rw [isRow6_y hr, bo_some, if_neg (by decide), noRow6 (it := st.1 (2 + r)) hF hn h0 (by rw [gsC_ne _ _ _ (by decide)]; exact H.hm.1.1) (by rw [gsC_ne _ _ _ (by decide)]; exact H.ht.2.2.2.2) H.hx.2.2.2.2 hr (by rw [gsC_ne _ _ _ (by decide)]; exact z2) hmm hmx (fun i hi => by rw [gsC_ne _ _ _ (by decide)]; exact (hit i hi).symm), hgk, if_pos (show (some s).isSome = true from rfl), bd_some, if_pos rfl]
