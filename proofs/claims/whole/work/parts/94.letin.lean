/-- what a letting has come to: the town, bread, who came, hours gone on -/
abbrev pw_Y : Type := pw_D × Nat × Nat × Nat
def pw_stp (n : Nat) (kd sg bd : Nat → Nat) (G d : Nat) (y : pw_Y) : Option pw_Y :=
  if d = 0 then some (pw_ps y.1, y.2.1, y.2.2.1, y.2.2.2 + (if y.1.1 = 0 then 0 else 1))
  else if y.1.2.2.2.2.testBit (d - 1) then none
  else some (pw_ps (pw_cm n kd sg G (d - 1) y.1), y.2.1 + bd (d - 1), y.2.2.1 + 1, y.2.2.2 + (if (pw_cm n kd sg G (d - 1) y.1).1 = 0 then 0 else 1))
def pw_lw (n : Nat) (kd sg bd : Nat → Nat) (G : Nat) (x : pw_D) : Nat → Nat → Option pw_Y
  | 0, _ => some (x, 0, 0, 0)
  | h + 1, q => match pw_lw n kd sg bd G x h (q / (n + 1)) with
    | none => none
    | some y => pw_stp n kd sg bd G (q % (n + 1)) y
theorem lw_s {n : Nat} {kd sg bd : Nat → Nat} {G : Nat} {x : pw_D} {h q : Nat} {y : pw_Y} (hy : pw_lw n kd sg bd G x h (q / (n + 1)) = some y) : pw_lw n kd sg bd G x (h + 1) q = pw_stp n kd sg bd G (q % (n + 1)) y := by
  show (match pw_lw n kd sg bd G x h (q / (n + 1)) with | none => none | some y => _) = _
  rw [hy]
theorem lw_n {n : Nat} {kd sg bd : Nat → Nat} {G : Nat} {x : pw_D} {h q : Nat} (hy : pw_lw n kd sg bd G x h (q / (n + 1)) = none) : pw_lw n kd sg bd G x (h + 1) q = none := by
  show (match pw_lw n kd sg bd G x h (q / (n + 1)) with | none => none | some y => _) = _
  rw [hy]
theorem lw_c {n : Nat} {kd sg bd : Nat → Nat} {G : Nat} {x : pw_D} {h q d : Nat} {y : pw_Y} (hd : d < n + 1) (hy : pw_lw n kd sg bd G x h q = some y) : pw_lw n kd sg bd G x (h + 1) (q * (n + 1) + d) = pw_stp n kd sg bd G d y := by
  have e1 : (q * (n + 1) + d) / (n + 1) = q := by
    rw [Nat.mul_comm, Nat.mul_add_div (by omega), Nat.div_eq_of_lt hd, Nat.add_zero]
  have e2 : (q * (n + 1) + d) % (n + 1) = d := by
    rw [Nat.mul_comm, Nat.mul_add_mod, Nat.mod_eq_of_lt hd]
  rw [lw_s (y := y) (by rw [e1]; exact hy), e2]
theorem lw_none {n : Nat} {kd sg bd : Nat → Nat} {G : Nat} {x : pw_D} {h q : Nat} (hy : pw_lw n kd sg bd G x h q = none) (r c : Nat) (hc : c / (n + 1) ^ r = q) : pw_lw n kd sg bd G x (h + r) c = none := by
  induction r generalizing c with
  | zero =>
    rw [Nat.pow_zero, Nat.div_one] at hc
    rw [hc]; exact hy
  | succ r ih =>
    refine lw_n (h := h + r) (ih (c / (n + 1)) ?_)
    rw [Nat.div_div_eq_div_mul, ← hc, Nat.pow_succ, Nat.mul_comm]
theorem pop_set0 : ∀ s : Fin 64, ∀ i : Fin 6, s.val.testBit i.val = false → pw_pop (pw_set s.val i.val) = pw_pop s.val + 1 := by decide +kernel
theorem lw_ok {n : Nat} {kd sg bd : Nat → Nat} {fw ff G : Nat} {x : pw_D} (hv : pw_stat n kd sg bd fw ff) (hx : okx n x) (hx3 : x.2.2.1 ≤ 40) {h : Nat} (hh : h ≤ 5) : ∀ (q : Nat) (y : pw_Y), pw_lw n kd sg bd G x h q = some y → okx n y.1 ∧ pw_pop y.1.2.2.2.2 = pw_pop x.2.2.2.2 + y.2.2.1 ∧ y.1.2.2.2.1 = x.2.2.2.1 ∧ y.1.2.1 = (x.2.1 + y.2.2.2) % 12 ∧ y.2.2.2 ≤ h ∧ y.2.2.1 ≤ h ∧ y.2.1 ≤ 9 * h ∧ y.1.2.2.1 = x.2.2.1 + h := by
  have hn := hv.1
  induction h with
  | zero =>
    intro q y hy
    injection hy with hy
    rw [← hy]
    exact ⟨hx, rfl, rfl, (Nat.mod_eq_of_lt hx.2.1).symm, Nat.le_refl 0, Nat.le_refl 0, Nat.le_refl 0, rfl⟩
  | succ h ih =>
    intro q y hy
    cases hp : pw_lw n kd sg bd G x h (q / (n + 1)) with
    | none => rw [lw_n hp] at hy; exact absurd hy (by simp)
    | some z =>
      rw [lw_s hp] at hy
      obtain ⟨i1, i2, i3, i4, i5, i6, i7, i8⟩ := ih (by omega) _ z hp
      unfold pw_stp at hy
      have hm := Nat.mod_lt q (show 0 < n + 1 by omega)
      split at hy
      · injection hy with hy
        rw [← hy]
        refine ⟨ps_ok i1 (by omega), i2, i3, ?_, ?_, by show z.2.2.1 ≤ h + 1; omega, by show z.2.1 ≤ 9 * (h + 1); omega, by show z.1.2.2.1 + 1 = _; omega⟩
        · show (if 0 < z.1.1 then (z.1.2.1 + 1) % 12 else z.1.2.1) = (x.2.1 + (z.2.2.2 + (if z.1.1 = 0 then 0 else 1))) % 12
          by_cases w : z.1.1 = 0
          · rw [if_neg (by omega), if_pos w]; exact i4
          · rw [if_pos (by omega), if_neg w, i4]; omega
        · show z.2.2.2 + (if z.1.1 = 0 then 0 else 1) ≤ h + 1
          split <;> omega
      · rename_i hd0
        split at hy
        · exact absurd hy (by simp)
        · rename_i hb
          injection hy with hy
          rw [← hy]
          have hj : q % (n + 1) - 1 < n := by omega
          have hbd := (hv.2.1 _ hj).2.2.2
          have hcm := cm_ok (G := G) hv hj i1
          refine ⟨ps_ok hcm (by show z.1.2.2.1 + 1 ≤ 1000; omega), ?_, i3, ?_, ?_, by show z.2.2.1 + 1 ≤ h + 1; omega, by show z.2.1 + bd (q % (n + 1) - 1) ≤ 9 * (h + 1); omega, by show z.1.2.2.1 + 1 = _; omega⟩
          · show pw_pop (pw_set z.1.2.2.2.2 (q % (n + 1) - 1)) = _
            have := pop_set0 ⟨z.1.2.2.2.2, ok64 hn i1.2.2.2.2⟩ ⟨q % (n + 1) - 1, by omega⟩ (by simpa using hb)
            rw [show pw_pop (pw_set z.1.2.2.2.2 (q % (n + 1) - 1)) = pw_pop z.1.2.2.2.2 + 1 from this, i2]
            rfl
          · show (if 0 < (pw_cm n kd sg G (q % (n + 1) - 1) z.1).1 then (z.1.2.1 + 1) % 12 else z.1.2.1) = (x.2.1 + (z.2.2.2 + (if (pw_cm n kd sg G (q % (n + 1) - 1) z.1).1 = 0 then 0 else 1))) % 12
            by_cases w : (pw_cm n kd sg G (q % (n + 1) - 1) z.1).1 = 0
            · rw [if_neg (by omega), if_pos w]; exact i4
            · rw [if_pos (by omega), if_neg w, i4]; omega
          · show z.2.2.2 + (if (pw_cm n kd sg G (q % (n + 1) - 1) z.1).1 = 0 then 0 else 1) ≤ h + 1
            split <;> omega
/-- who comes in hour t of h hours that q stands for -/
def pw_wh (n h q t : Nat) : Int32 := if q / (n + 1) ^ (h - 1 - t) % (n + 1) = 0 then -9 else nI (q / (n + 1) ^ (h - 1 - t) % (n + 1) - 1)
theorem wh_c {n h q d t : Nat} (hd : d < n + 1) (ht : t < h) : pw_wh n (h + 1) (q * (n + 1) + d) t = pw_wh n h q t := by
  unfold pw_wh
  have e1 : (q * (n + 1) + d) / (n + 1) = q := by
    rw [Nat.mul_comm, Nat.mul_add_div (by omega), Nat.div_eq_of_lt hd, Nat.add_zero]
  have : (q * (n + 1) + d) / (n + 1) ^ (h + 1 - 1 - t) = q / (n + 1) ^ (h - 1 - t) := by
    rw [show h + 1 - 1 - t = (h - 1 - t) + 1 by omega, Nat.pow_succ, Nat.mul_comm ((n + 1) ^ (h - 1 - t)), ← Nat.div_div_eq_div_mul, e1]
  rw [this]
theorem wh_l {n h q d : Nat} (hd : d < n + 1) : pw_wh n (h + 1) (q * (n + 1) + d) h = if d = 0 then -9 else nI (d - 1) := by
  unfold pw_wh
  have e2 : (q * (n + 1) + d) % (n + 1) = d := by
    rw [Nat.mul_comm, Nat.mul_add_mod, Nat.mod_eq_of_lt hd]
  rw [show h + 1 - 1 - h = 0 by omega, Nat.pow_zero, Nat.div_one, e2]
/-- the folds over the lettings below k -/
def lfV (n : Nat) (kd sg bd : Nat → Nat) (G : Nat) (x : pw_D) (L c : Nat) : Bool := (pw_lw n kd sg bd G x L c).isSome
def lfY (n : Nat) (kd sg bd : Nat → Nat) (G : Nat) (x : pw_D) (L c : Nat) : pw_Y := (pw_lw n kd sg bd G x L c).getD (x, 0, 0, 0)
def lfP (n : Nat) (kd sg bd : Nat → Nat) (G : Nat) (x : pw_D) (L a c : Nat) : Bool := lfV n kd sg bd G x L c && ((lfY n kd sg bd G x L c).1.2.1 == a)
def lfB (P : Nat → Bool) (b : Nat → Nat) (k : Nat) : Int32 × Nat := pw_fo P (fun c z => if z.1 = -9 then (nI (b c), c) else if z.1 ≤ nI (b c) then z else (nI (b c), c)) (-9, 0) k
def lfG (V : Nat → Bool) (g m : Nat → Nat) (k : Nat) : Int32 × Int32 := pw_fo V (fun c z => if z.1 < nI (g c) then (nI (g c), nI (m c)) else if nI (g c) = z.1 then (if z.2 ≤ nI (m c) then z else (nI (g c), nI (m c))) else z) (-1, 0) k
def lCA (n L : Nat) (P V : Nat → Bool) (b g m : Nat → Nat) (k : Nat) (s : sw_St) : Prop := s.1 54 4 = nI (foC P k) ∧ s.1 54 5 = (lfB P b k).1 ∧ ((lfB P b k).1 ≠ -9 → ∀ t, t < L → s.1 56 t = pw_wh n L (lfB P b k).2 t) ∧ s.1 54 6 = (lfG V g m k).1 ∧ s.1 54 7 = (lfG V g m k).2
theorem lfB_s (P : Nat → Bool) (b : Nat → Nat) (k : Nat) : lfB P b (k + 1) = if P k then (if (lfB P b k).1 = -9 then (nI (b k), k) else if (lfB P b k).1 ≤ nI (b k) then lfB P b k else (nI (b k), k)) else lfB P b k := rfl
theorem lfG_s (V : Nat → Bool) (g m : Nat → Nat) (k : Nat) : lfG V g m (k + 1) = if V k then (if (lfG V g m k).1 < nI (g k) then (nI (g k), nI (m k)) else if nI (g k) = (lfG V g m k).1 then (if (lfG V g m k).2 ≤ nI (m k) then lfG V g m k else (nI (g k), nI (m k))) else lfG V g m k) else lfG V g m k := rfl
theorem weigh5 {F n L a c S : Nat} {x : pw_D} {P V : Nat → Bool} {b g m : Nat → Nat} {s : sw_St} (hn : n ≤ 6) (hx : okx n x) (hL : L ≤ 5) (h9 : s.1 15 9 = nI x.2.1) (h11 : s.1 15 11 = nI x.2.2.2.2) (h1 : s.1 54 0 = nI L) (h2 : s.1 54 1 = nI a) (ha : a < 12) (hS : S < 64) (hpop : pw_pop S = pw_pop x.2.2.2.2 + m c) (hV : V c = true) (hP : P c = ((x.2.1 + g c) % 12 == a)) (hg : g c ≤ 5) (hbc : b c ≤ 45) (h55 : ∀ t, t < L → s.1 55 t = pw_wh n L c t) (hca : lCA n L P V b g m c s) : ∃ s', j_X1_weigh F (nI S) (nI (b c)) (nI (g c)) s = some ((), s') ∧ lCA n L P V b g m (c + 1) s' ∧ ch [54, 56] s s' ∧ (∀ i, i < 2 → s'.1 54 i = s.1 54 i) ∧ s'.2 = s.2 := by
  obtain ⟨c5, c6, c56, c7, c8⟩ := hca
  have hs := ok64 hn hx.2.2.2.2
  unfold j_X1_weigh
  rw [bitC hS, bo_some, h11, bitC hs, bo_some, pk_sub (by omega), show pw_pop S - pw_pop x.2.2.2.2 = m c by omega]
  -- the hours gone on
  obtain ⟨s1, hs1⟩ : ∃ s1 : sw_St, s1 = sw_setC (sw_setC s 54 6 (lfG V g m (c + 1)).1) 54 7 (lfG V g m (c + 1)).2 := ⟨_, rfl⟩
  have hG := lfG_s V g m c
  rw [hV, if_pos rfl] at hG
  have hself : lfG V g m (c + 1) = lfG V g m c → s1 = s := fun e => by
    rw [hs1, e, ← c7, ← c8, setC_self]
    exact setC_self s 54 7
  have hgo : ∀ K : sw_St → Option (Unit × sw_St), (jn K fun k7 => jn (nm (sw_setC s 54 6 (nI (g c))) (fun (s25 : sw_St) => nm (sw_setC s25 54 7 (nI (m c))) (fun (s26 : sw_St) => k7 s26))) (fun k23 => (if (s.1 54 6) < nI (g c) then ( k23) else ( (if nI (g c) = (s.1 54 6) then ( (if (s.1 54 7) ≤ nI (m c) then ( k7 s) else ( k23))) else ( k7 s)))))) = K s1 := fun K => by
    simp only [jn, nm]
    rw [c7, c8]
    by_cases q1 : (lfG V g m c).1 < nI (g c)
    · rw [if_pos q1]
      rw [if_pos q1] at hG
      rw [hs1, hG]
    · rw [if_neg q1]
      rw [if_neg q1] at hG
      by_cases q2 : nI (g c) = (lfG V g m c).1
      · rw [if_pos q2]
        rw [if_pos q2] at hG
        by_cases q3 : (lfG V g m c).2 ≤ nI (m c)
        · rw [if_pos q3]
          rw [if_pos q3] at hG
          rw [hself hG]
        · rw [if_neg q3]
          rw [if_neg q3] at hG
          rw [hs1, hG]
      · rw [if_neg q2]
        rw [if_neg q2] at hG
        rw [hself hG]
  rw [nm_eq, hgo]
  have g1 : ∀ a' i, s1.1 a' i = if a' = 54 ∧ i = 7 then (lfG V g m (c + 1)).2 else if a' = 54 ∧ i = 6 then (lfG V g m (c + 1)).1 else s.1 a' i := fun a' i => by rw [hs1, gsC, gsC]
  have e1 : ch [54, 56] s s1 := by rw [hs1]; exact ((ch.rf _ s).C _ _ (by decide)).C _ _ (by decide)
  have l1 : s1.2 = s.2 := by rw [hs1]; rfl
  rw [clockAfter5 (by rw [e1 15 (by decide)]; exact h9) hx.2.1 (by omega), bo_some, show s1.1 54 1 = nI a by rw [g1]; ((try simp only [true_and, and_true, if_true]); repeat (first | rw [if_pos (by omega)] | rw [if_neg (by omega)])); exact h2]
  have hB := lfB_s P b c
  have hC : foC P (c + 1) = if P c then foC P c + 1 else foC P c := rfl
  by_cases hq : (x.2.1 + g c) % 12 = a
  case neg =>
    have hPc : P c = false := by rw [hP]; simp [hq]
    rw [hPc, if_neg (by decide)] at hB hC
    rw [if_neg (fun z => hq ((nI_eq (by omega) (by omega)).mp z))]
    refine ⟨s1, rfl, ⟨?_, ?_, fun h t ht => ?_, ?_, ?_⟩, e1, fun i hi => ?_, l1⟩
    · rw [hC, g1]; ((try simp only [true_and, and_true, if_true]); repeat (first | rw [if_pos (by omega)] | rw [if_neg (by omega)])); exact c5
    · rw [hB, g1]; ((try simp only [true_and, and_true, if_true]); repeat (first | rw [if_pos (by omega)] | rw [if_neg (by omega)])); exact c6
    · rw [hB] at h ⊢
      rw [g1]; ((try simp only [true_and, and_true, if_true]); repeat (first | rw [if_pos (by omega)] | rw [if_neg (by omega)]))
      exact c56 h t ht
    · rw [g1]; ((try simp only [true_and, and_true, if_true]); repeat (first | rw [if_pos (by omega)] | rw [if_neg (by omega)]))
    · rw [g1]; ((try simp only [true_and, and_true, if_true]); repeat (first | rw [if_pos (by omega)] | rw [if_neg (by omega)]))
    · rw [g1]; ((try simp only [true_and, and_true, if_true]); repeat (first | rw [if_pos (by omega)] | rw [if_neg (by omega)]))
  have hPc : P c = true := by rw [hP]; simp [hq]
  rw [hPc, if_pos rfl] at hB hC
  rw [if_pos (by rw [hq]), show s1.1 54 4 + 1 = nI (foC P (c + 1)) by rw [g1, if_neg (by decide), if_neg (by decide), c5, nI_1, hC]]
  rw [nm_eq]
  obtain ⟨s2, hs2⟩ : ∃ s2 : sw_St, s2 = sw_setC s1 54 4 (nI (foC P (c + 1))) := ⟨_, rfl⟩
  rw [← hs2]
  have g2 : ∀ a' i, s2.1 a' i = if a' = 54 ∧ i = 4 then nI (foC P (c + 1)) else if a' = 54 ∧ i = 7 then (lfG V g m (c + 1)).2 else if a' = 54 ∧ i = 6 then (lfG V g m (c + 1)).1 else s.1 a' i := fun a' i => by rw [hs2, gsC, g1]
  have e2 : ch [54, 56] s s2 := by rw [hs2]; exact e1.C _ _ (by decide)
  have l2 : s2.2 = s.2 := by rw [hs2]; exact l1
  have c26 : s2.1 54 5 = (lfB P b c).1 := by rw [g2]; ((try simp only [true_and, and_true, if_true]); repeat (first | rw [if_pos (by omega)] | rw [if_neg (by omega)])); exact c6
  have keep : lfB P b (c + 1) = lfB P b c → ∃ s', some ((), s2) = some ((), s') ∧ lCA n L P V b g m (c + 1) s' ∧ ch [54, 56] s s' ∧ (∀ i, i < 2 → s'.1 54 i = s.1 54 i) ∧ s'.2 = s.2 := fun hk => by
    refine ⟨s2, rfl, ⟨?_, ?_, fun h t ht => ?_, ?_, ?_⟩, e2, fun i hi => ?_, l2⟩
    · rw [g2]; ((try simp only [true_and, and_true, if_true]); repeat (first | rw [if_pos (by omega)] | rw [if_neg (by omega)]))
    · rw [hk]; exact c26
    · rw [hk] at h ⊢
      rw [g2]; ((try simp only [true_and, and_true, if_true]); repeat (first | rw [if_pos (by omega)] | rw [if_neg (by omega)]))
      exact c56 h t ht
    · rw [g2]; ((try simp only [true_and, and_true, if_true]); repeat (first | rw [if_pos (by omega)] | rw [if_neg (by omega)]))
    · rw [g2]; ((try simp only [true_and, and_true, if_true]); repeat (first | rw [if_pos (by omega)] | rw [if_neg (by omega)]))
    · rw [g2]; ((try simp only [true_and, and_true, if_true]); repeat (first | rw [if_pos (by omega)] | rw [if_neg (by omega)]))
  have take : lfB P b (c + 1) = (nI (b c), c) → ∃ s', (nm (sw_setC s2 54 5 (nI (b c))) (fun (s18 : sw_St) => grd ((¬ 0 < (0 : Int32)) ∧ (¬ 0 < (0 : Int32)) ∧ (¬ (s18.1 54 0) < (0 : Int32)) ∧ (0 : Int32).toNatClampNeg + ((s18.1 54 0) : Int32).toNatClampNeg ≤ 5 ∧ (0 : Int32).toNatClampNeg + ((s18.1 54 0) : Int32).toNatClampNeg ≤ 5) ( nm (sw_setA s18 56 (va_cpy (s18.1 55) (s18.1 56) (0 : Int32).toNatClampNeg (0 : Int32).toNatClampNeg ((s18.1 54 0) : Int32).toNatClampNeg)) (fun (s19 : sw_St) => some ((), s19))))) = some ((), s') ∧ lCA n L P V b g m (c + 1) s' ∧ ch [54, 56] s s' ∧ (∀ i, i < 2 → s'.1 54 i = s.1 54 i) ∧ s'.2 = s.2 := fun hk => by
    obtain ⟨s3, hs3⟩ : ∃ s3 : sw_St, s3 = sw_setC s2 54 5 (nI (b c)) := ⟨_, rfl⟩
    have g3 : ∀ a' i, s3.1 a' i = if a' = 54 ∧ i = 5 then nI (b c) else if a' = 54 ∧ i = 4 then nI (foC P (c + 1)) else if a' = 54 ∧ i = 7 then (lfG V g m (c + 1)).2 else if a' = 54 ∧ i = 6 then (lfG V g m (c + 1)).1 else s.1 a' i := fun a' i => by rw [hs3, gsC, g2]
    have h31 : s3.1 54 0 = nI L := by rw [g3]; ((try simp only [true_and, and_true, if_true]); repeat (first | rw [if_pos (by omega)] | rw [if_neg (by omega)])); exact h1
    rw [nm_eq, ← hs3, h31, nI_clamp (by omega), grd_y ⟨by decide, by decide, nI_pos (by omega), by show 0 + L ≤ 5; omega, by show 0 + L ≤ 5; omega⟩, nm_eq]
    have h54 : ∀ i, (sw_setA s3 56 (va_cpy (s3.1 55) (s3.1 56) (0 : Int32).toNatClampNeg (0 : Int32).toNatClampNeg L)).1 54 i = s3.1 54 i := fun i => by rw [gsA_ne _ _ (by decide)]
    refine ⟨_, rfl, ⟨?_, ?_, fun h t ht => ?_, ?_, ?_⟩, ?_, fun i hi => ?_, by show s3.2 = s.2; rw [hs3]; exact l2⟩
    · rw [h54, g3]; ((try simp only [true_and, and_true, if_true]); repeat (first | rw [if_pos (by omega)] | rw [if_neg (by omega)]))
    · rw [h54, hk, g3]; ((try simp only [true_and, and_true, if_true]); repeat (first | rw [if_pos (by omega)] | rw [if_neg (by omega)]))
    · rw [gsA, if_pos rfl, cpy_at, if_pos ht, hk, g3]
      ((try simp only [true_and, and_true, if_true]); repeat (first | rw [if_pos (by omega)] | rw [if_neg (by omega)]))
      exact h55 t ht
    · rw [h54, g3]; ((try simp only [true_and, and_true, if_true]); repeat (first | rw [if_pos (by omega)] | rw [if_neg (by omega)]))
    · rw [h54, g3]; ((try simp only [true_and, and_true, if_true]); repeat (first | rw [if_pos (by omega)] | rw [if_neg (by omega)]))
    · refine ch.A ?_ _ (by decide)
      rw [hs3]
      exact e2.C _ _ (by decide)
    · rw [h54, g3]; ((try simp only [true_and, and_true, if_true]); repeat (first | rw [if_pos (by omega)] | rw [if_neg (by omega)]))
  simp only [jn]
  rw [c26]
  by_cases q1 : (lfB P b c).1 = -9
  · rw [if_pos q1] at hB
    rw [if_pos q1]
    exact take hB
  · rw [if_neg q1] at hB
    rw [if_neg q1]
    by_cases q2 : (lfB P b c).1 ≤ nI (b c)
    · rw [if_pos q2] at hB
      rw [if_pos q2]
      exact keep hB
    · rw [if_neg q2] at hB
      rw [if_neg q2]
      exact take hB
theorem skipCA {n L : Nat} {P V : Nat → Bool} {b g m : Nat → Nat} {k k' : Nat} {s : sw_St} (hk : k ≤ k') (hP : ∀ c, k ≤ c → c < k' → P c = false) (hV : ∀ c, k ≤ c → c < k' → V c = false) (h : lCA n L P V b g m k s) : lCA n L P V b g m k' s := by
  unfold lCA foC lfB lfG at h ⊢
  rw [fo_ext hk hP, fo_ext hk hP, fo_ext hk hV]
  exact h
