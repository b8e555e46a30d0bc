theorem jn_eq {κ β : Type} (k : κ) (body : κ → Option β) : jn k body = body k := rfl
/-- a duel: where number q of h turns leads -/
def pw_ds (n : Nat) (kd sg : Nat → Nat) (G d : Nat) (y : pw_D) : Option pw_D := if d = 0 then some y else if y.2.2.2.2.testBit (d - 1) then none else some (pw_cm n kd sg G (d - 1) y)
def pw_dv (n : Nat) (kd sg : Nat → Nat) (G : Nat) (x : pw_D) : Nat → Nat → Option pw_D
  | 0, _ => some x
  | h + 1, q => match pw_dv n kd sg G x h (q / (n + 1)) with
    | none => none
    | some y => pw_ds n kd sg G (q % (n + 1)) y
theorem dv_s {n : Nat} {kd sg : Nat → Nat} {G : Nat} {x : pw_D} {h q : Nat} {y : pw_D} (hy : pw_dv n kd sg G x h (q / (n + 1)) = some y) : pw_dv n kd sg G x (h + 1) q = pw_ds n kd sg G (q % (n + 1)) y := by
  show (match pw_dv n kd sg G x h (q / (n + 1)) with | none => none | some y => _) = _
  rw [hy]
theorem dv_n {n : Nat} {kd sg : Nat → Nat} {G : Nat} {x : pw_D} {h q : Nat} (hy : pw_dv n kd sg G x h (q / (n + 1)) = none) : pw_dv n kd sg G x (h + 1) q = none := by
  show (match pw_dv n kd sg G x h (q / (n + 1)) with | none => none | some y => _) = _
  rw [hy]
theorem qd_div {n q d : Nat} (hd : d < n + 1) : (q * (n + 1) + d) / (n + 1) = q := by
  rw [Nat.mul_comm, Nat.mul_add_div (by omega), Nat.div_eq_of_lt hd, Nat.add_zero]
theorem qd_mod {n q d : Nat} (hd : d < n + 1) : (q * (n + 1) + d) % (n + 1) = d := by
  rw [Nat.mul_comm, Nat.mul_add_mod, Nat.mod_eq_of_lt hd]
theorem dv_c {n : Nat} {kd sg : Nat → Nat} {G : Nat} {x : pw_D} {h q d : Nat} {y : pw_D} (hd : d < n + 1) (hy : pw_dv n kd sg G x h q = some y) : pw_dv n kd sg G x (h + 1) (q * (n + 1) + d) = pw_ds n kd sg G d y := by
  rw [dv_s (y := y) (by rw [qd_div hd]; exact hy), qd_mod hd]
theorem dv_none {n : Nat} {kd sg : Nat → Nat} {G : Nat} {x : pw_D} {h q : Nat} (hy : pw_dv n kd sg G x h q = none) (r c : Nat) (hc : c / (n + 1) ^ r = q) : pw_dv n kd sg G x (h + r) c = none := by
  induction r generalizing c with
  | zero =>
    rw [Nat.pow_zero, Nat.div_one] at hc
    rw [hc]; exact hy
  | succ r ih =>
    refine dv_n (h := h + r) (ih (c / (n + 1)) ?_)
    rw [Nat.div_div_eq_div_mul, ← hc, Nat.pow_succ, Nat.mul_comm]
theorem dv_ok {n : Nat} {kd sg bd : Nat → Nat} {fw ff G : Nat} {x : pw_D} (hv : pw_stat n kd sg bd fw ff) (hx : okx n x) (h : Nat) : ∀ (q : Nat) (y : pw_D), pw_dv n kd sg G x h q = some y → okx n y := by
  induction h with
  | zero =>
    intro q y hy
    injection hy with hy
    rw [← hy]
    exact hx
  | succ h ih =>
    intro q y hy
    cases hp : pw_dv n kd sg G x h (q / (n + 1)) with
    | none => rw [dv_n hp] at hy; exact absurd hy (by simp)
    | some z =>
      rw [dv_s hp] at hy
      have i1 := ih _ z hp
      unfold pw_ds at hy
      have hm := Nat.mod_lt q (show 0 < n + 1 by omega)
      split at hy
      · injection hy with hy
        rw [← hy]; exact i1
      · split at hy
        · exact absurd hy (by simp)
        · injection hy with hy
          rw [← hy]
          exact cm_ok (G := G) hv (by omega) i1
/-- the better of two, and the best -/
def pw_sf (e : Bool) (b y : Int32) : Int32 := if y = -9 then b else if b = -9 then y else if e then (if y ≤ b then b else y) else (if b ≤ y then b else y)
def pw_bf (e : Bool) (f : Nat → Int32) : Nat → Int32
  | 0 => f 0
  | d + 1 => pw_sf e (pw_bf e f d) (f (d + 1))
def pw_dw (n : Nat) (kd sg : Nat → Nat) (G : Nat) (x : pw_D) (N : Nat) : Nat → Nat → Int32
  | 0, q => match pw_dv n kd sg G x N q with
    | none => -9
    | some y => nI y.1
  | r + 1, q => pw_bf ((N - (r + 1)) % 2 == 0) (fun d => pw_dw n kd sg G x N r (q * (n + 1) + d)) n
theorem bf_none {e : Bool} {f : Nat → Int32} {k : Nat} (h : ∀ d, d ≤ k → f d = -9) : pw_bf e f k = -9 := by
  induction k with
  | zero => exact h 0 (Nat.le_refl 0)
  | succ k ih =>
    show pw_sf e (pw_bf e f k) (f (k + 1)) = -9
    rw [h (k + 1) (Nat.le_refl _)]
    unfold pw_sf
    rw [if_pos rfl]
    exact ih (fun d hd => h d (by omega))
theorem bf_some {e : Bool} {f : Nat → Int32} {k : Nat} (h0 : ∃ m, m ≤ 99 ∧ f 0 = nI m) (h : ∀ d, 1 ≤ d → d ≤ k → f d = -9 ∨ ∃ m, m ≤ 99 ∧ f d = nI m) : ∃ m, m ≤ 99 ∧ pw_bf e f k = nI m := by
  induction k with
  | zero => exact h0
  | succ k ih =>
    obtain ⟨m, hm, hb⟩ := ih (fun d h1 h2 => h d h1 (by omega))
    show ∃ m, m ≤ 99 ∧ pw_sf e (pw_bf e f k) (f (k + 1)) = nI m
    rw [hb]
    rcases h (k + 1) (by omega) (Nat.le_refl _) with q | ⟨m', hm', q⟩
    · rw [q]
      exact ⟨m, hm, by unfold pw_sf; rw [if_pos rfl]⟩
    · rw [q]
      unfold pw_sf
      rw [if_neg (nI_ne9 (by omega)), if_neg (nI_ne9 (by omega))]
      cases e
      · rw [if_neg (show ¬ false = true by decide)]
        by_cases z : nI m ≤ nI m'
        · rw [if_pos z]; exact ⟨m, hm, rfl⟩
        · rw [if_neg z]; exact ⟨m', hm', rfl⟩
      · rw [if_pos (show true = true from rfl)]
        by_cases z : nI m' ≤ nI m
        · rw [if_pos z]; exact ⟨m, hm, rfl⟩
        · rw [if_neg z]; exact ⟨m', hm', rfl⟩
theorem dw_s (n : Nat) (kd sg : Nat → Nat) (G : Nat) (x : pw_D) (N r q : Nat) : pw_dw n kd sg G x N (r + 1) q = pw_bf ((N - (r + 1)) % 2 == 0) (fun d => pw_dw n kd sg G x N r (q * (n + 1) + d)) n := rfl
theorem dw_none {n : Nat} {kd sg : Nat → Nat} {G : Nat} {x : pw_D} {N : Nat} (r : Nat) : ∀ (h q : Nat), h + r = N → pw_dv n kd sg G x h q = none → pw_dw n kd sg G x N r q = -9 := by
  induction r with
  | zero =>
    intro h q hh hy
    have e : h = N := by omega
    subst e
    show (match pw_dv n kd sg G x h q with | none => -9 | some y => nI y.1) = -9
    rw [hy]
  | succ r ih =>
    intro h q hh hy
    rw [dw_s]
    exact bf_none (fun d hd => ih (h + 1) _ (by omega) (dv_n (by rw [qd_div (by omega)]; exact hy)))
theorem dw_some {n : Nat} {kd sg bd : Nat → Nat} {fw ff G : Nat} {x : pw_D} {N : Nat} (hv : pw_stat n kd sg bd fw ff) (hx : okx n x) (r : Nat) : ∀ (h q : Nat) (y : pw_D), h + r = N → pw_dv n kd sg G x h q = some y → ∃ m, m ≤ 99 ∧ pw_dw n kd sg G x N r q = nI m := by
  induction r with
  | zero =>
    intro h q y hh hy
    have e : h = N := by omega
    subst e
    refine ⟨y.1, (dv_ok hv hx h q y hy).1, ?_⟩
    show (match pw_dv n kd sg G x h q with | none => -9 | some y => nI y.1) = _
    rw [hy]
  | succ r ih =>
    intro h q y hh hy
    rw [dw_s]
    refine bf_some (ih (h + 1) _ y (by omega) (by rw [dv_c (by omega) hy]; rfl)) (fun d h1 h2 => ?_)
    cases hb : y.2.2.2.2.testBit (d - 1)
    · refine Or.inr (ih (h + 1) _ (pw_cm n kd sg G (d - 1) y) (by omega) ?_)
      rw [dv_c (by omega) hy]
      unfold pw_ds
      rw [if_neg (by omega), hb]
      rfl
    · refine Or.inl (dw_none r (h + 1) _ (by omega) ?_)
      rw [dv_c (by omega) hy]
      unfold pw_ds
      rw [if_neg (by omega), hb]
      rfl
theorem duelF5 {F n N : Nat} {kd sg br : Nat → Nat} {fw ff G : Nat} {x : pw_D} {st : sw_St} (hF : 20000 ≤ F) (H : HR st n kd sg br fw ff G x) (hN : N ≤ 4) : ∀ (r fu h q : Nat) (y : pw_D), h + r = N → r < fu → pw_dv n kd sg G x h q = some y → j_X5_duelFrom F fu (nI h) (nI N) (nI y.1) (nI y.2.2.2.2) st = some (pw_dw n kd sg G x N r q) := by
  have hn := H.hv.1
  intro r
  induction r with
  | zero =>
    intro fu h q y hh hfu hy
    obtain ⟨fu, rfl⟩ : ∃ f, fu = f + 1 := ⟨fu - 1, by omega⟩
    have e : h = N := by omega
    subst e
    rw [j_X5_duelFrom, jn_eq, if_pos (show nI h ≤ nI h from nI_le (Nat.le_refl h) (by omega))]
    show _ = some (match pw_dv n kd sg G x h q with | none => -9 | some y => nI y.1)
    rw [hy]
  | succ r ih =>
    intro fu h q y hh hfu hy
    obtain ⟨fu, rfl⟩ : ∃ f, fu = f + 1 := ⟨fu - 1, by omega⟩
    have i1 := dv_ok H.hv H.hx h q y hy
    have hs := ok64 hn i1.2.2.2.2
    obtain ⟨e, he⟩ : ∃ e, e = ((N - (r + 1)) % 2 == 0) := ⟨_, rfl⟩
    obtain ⟨f, hf⟩ : ∃ f : Nat → Int32, f = fun d => pw_dw n kd sg G x N r (q * (n + 1) + d) := ⟨_, rfl⟩
    have f0 : j_X5_duelFrom F fu (nI h + 1) (nI N) (nI y.1) (nI y.2.2.2.2) st = some (f 0) := by
      rw [nI_1, hf]
      exact ih fu (h + 1) _ y (by omega) (by omega) (by rw [dv_c (by omega) hy]; rfl)
    have m0 : ∃ m, m ≤ 99 ∧ f 0 = nI m := by
      rw [hf]
      exact dw_some H.hv H.hx r (h + 1) _ y (by omega) (by rw [dv_c (by omega) hy]; rfl)
    have md : ∀ d, 1 ≤ d → d ≤ n → f d = -9 ∨ ∃ m, m ≤ 99 ∧ f d = nI m := fun d h1 h2 => by
      rw [hf]
      cases hb : y.2.2.2.2.testBit (d - 1)
      · refine Or.inr (dw_some H.hv H.hx r (h + 1) _ (pw_cm n kd sg G (d - 1) y) (by omega) ?_)
        rw [dv_c (by omega) hy]
        unfold pw_ds
        rw [if_neg (by omega), hb]
        rfl
      · refine Or.inl (dw_none r (h + 1) _ (by omega) ?_)
        rw [dv_c (by omega) hy]
        unfold pw_ds
        rw [if_neg (by omega), hb]
        rfl
    have rest : ∀ x5 : Int32, x5 = (if e then 1 else 0) → lz2 (fun f12 (x10 : Int32) (x11 : Int32) => (if (st.1 15 0) ≤ x11 then (some (x10 : Int32)) else (if ((nI y.2.2.2.2 >>> (x11 &&& 31)) &&& 1) = 0 then (bo (j_X4_woundBy F 15 x11 (nI y.1) (nI y.2.2.2.2) st) (fun (r21 : Int32) => bo (j_X5_duelFrom F fu (nI h + 1) (nI N) r21 (nI y.2.2.2.2 ||| (1 <<< (x11 &&& 31))) st) (fun (r23 : Int32) => (if x5 = 0 then (nm (x11 + 1) (fun (x18 : Int32) => f12 (if r23 < x10 then r23 else x10) x18)) else (nm (x11 + 1) (fun (x18 : Int32) => f12 (if x10 < r23 then r23 else x10) x18)))))) else (nm (x11 + 1) (fun (x18 : Int32) => f12 x10 x18))))) F (f 0) 0 = some (pw_bf e f n) := by
      intro x5 hx5
      refine lz2_ind (Φ := fun o => o = some (pw_bf e f n)) (fun _ i => 100 - i.toNatClampNeg) (fun u c => ∃ i, i ≤ n ∧ c = nI i ∧ u = pw_bf e f i) (fun g u c hp ih2 => ?_) F (f 0) 0 ⟨0, by omega, rfl, rfl⟩ (by show 100 - 0 < F; omega)
      obtain ⟨i, hi, rfl, rfl⟩ := hp
      rw [H.hc.1]
      rcases Nat.lt_or_ge i n with w | w
      · have fin : ∀ u, u = pw_bf e f (i + 1) → g u (nI (i + 1)) = some (pw_bf e f n) := fun u hu => ih2 _ _ ⟨i + 1, w, rfl, hu⟩ (by rw [nI_clamp (by omega), nI_clamp (by omega)]; omega)
        have hbs : pw_bf e f (i + 1) = pw_sf e (pw_bf e f i) (f (i + 1)) := rfl
        rw [if_neg (show ¬ nI n ≤ nI i from nI_ge w (by omega)), b_get hs (by omega)]
        cases hb : y.2.2.2.2.testBit i
        · rw [if_pos (by decide), woundBy5 hF H.hv H.hc w i1.1 hs, bo_some, b_one (by omega), b_or hs (by omega)]
          have hdv : pw_dv n kd sg G x (h + 1) (q * (n + 1) + (i + 1)) = some (pw_cm n kd sg G i y) := by
            rw [dv_c (by omega) hy]
            unfold pw_ds
            rw [if_neg (by omega), show i + 1 - 1 = i by omega, hb]
            rfl
          have hj : j_X5_duelFrom F fu (nI h + 1) (nI N) (nI (pw_com n kd sg G i y.1 y.2.2.2.2)) (nI (pw_set y.2.2.2.2 i)) st = some (f (i + 1)) := by
            rw [nI_1, hf]
            exact ih fu (h + 1) _ (pw_cm n kd sg G i y) (by omega) (by omega) hdv
          rw [hj, bo_some, nm_eq, nm_eq, nI_1]
          obtain ⟨m, hm, q1⟩ := bf_some (e := e) (k := i) m0 (fun d h1 h2 => md d h1 (by omega))
          obtain ⟨m', hm', q2⟩ : ∃ m, m ≤ 99 ∧ f (i + 1) = nI m := by
            rw [hf]
            exact dw_some H.hv H.hx r (h + 1) _ _ (by omega) hdv
          have hsf : pw_bf e f (i + 1) = if e then (if f (i + 1) ≤ pw_bf e f i then pw_bf e f i else f (i + 1)) else (if pw_bf e f i ≤ f (i + 1) then pw_bf e f i else f (i + 1)) := by
            rw [hbs]
            unfold pw_sf
            rw [if_neg (by rw [q2]; exact nI_ne9 (by omega)), if_neg (by rw [q1]; exact nI_ne9 (by omega))]
          cases e
          · rw [if_pos (by rw [hx5]; rfl)]
            refine fin _ ?_
            rw [hsf, if_neg (show ¬ false = true by decide)]
            by_cases z : f (i + 1) < pw_bf false f i
            · rw [if_pos z, if_neg (fun z2 => nlt_le.mpr z2 z)]
            · rw [if_neg z, if_pos (nlt_le.mp z)]
          · rw [if_neg (by rw [hx5]; decide)]
            refine fin _ ?_
            rw [hsf, if_pos (show true = true from rfl)]
            by_cases z : pw_bf true f i < f (i + 1)
            · rw [if_pos z, if_neg (fun z2 => nlt_le.mpr z2 z)]
            · rw [if_neg z, if_pos (nlt_le.mp z)]
        · rw [if_neg (by decide), nm_eq, nI_1]
          refine fin _ ?_
          rw [hbs]
          have : f (i + 1) = -9 := by
            rw [hf]
            refine dw_none r (h + 1) _ (by omega) ?_
            rw [dv_c (by omega) hy]
            unfold pw_ds
            rw [if_neg (by omega), show i + 1 - 1 = i by omega, hb]
            rfl
          rw [this]
          unfold pw_sf
          rw [if_pos rfl]
      · have e2 : i = n := by omega
        subst e2
        rw [if_pos (show nI i ≤ nI i from nI_le (Nat.le_refl i) (by omega))]
    rw [dw_s, ← he, ← hf, j_X5_duelFrom, jn_eq, if_neg (show ¬ nI N ≤ nI h from nI_ge (by omega) (by omega)), if_pos (show nI h < 4 from nI_lt (b := 4) (by omega) (by decide)), jn_eq, show (2 : Int32) = nI 2 from rfl, pk_r32 (by omega) (by decide) (by decide), f0]
    by_cases z : h % 2 = 0
    · rw [if_pos (show nI (h % 2) = 0 by rw [z]; rfl)]
      exact rest 1 (by rw [he, show N - (r + 1) = h by omega, z]; rfl)
    · rw [if_neg (show ¬ nI (h % 2) = 0 from fun w => z ((nI_eq (b := 0) (by omega) (by decide)).mp w))]
      exact rest 0 (by rw [he, show N - (r + 1) = h by omega, show h % 2 = 1 by omega]; rfl)
theorem worth6 {F n N c : Nat} {kd sg br : Nat → Nat} {fw ff G : Nat} {x : pw_D} {st : sw_St} (hF : 20000 ≤ F) (H : HR st n kd sg br fw ff G x) (hN : N ≤ 4) (hc : c < 20000) : ∃ s, j_X6_worthOf F (nI c) (nI N) st = some (pw_dw n kd sg G x N 0 c, s) ∧ tri st s := by
  have hn := H.hv.1
  obtain ⟨s2, j2, t2, a2⟩ := lay6 (F := F) hF H.ht
  unfold j_X6_worthOf
  rw [j2, bd_some]
  have hW : pw_dw n kd sg G x N 0 c = match pw_dv n kd sg G x N c with | none => -9 | some y => nI y.1 := rfl
  refine lz2_ind (Φ := fun o => ∃ s : sw_St, o = some (pw_dw n kd sg G x N 0 c, s) ∧ tri st s) (fun i _ => 100 - i.toNatClampNeg) (fun u s => ∃ t y, t ≤ N ∧ u = nI t ∧ pw_dv n kd sg G x t (c / (n + 1) ^ (N - t)) = some y ∧ TR s 828 y ∧ tri st s) (fun g u s hp ih => ?_) F 0 s2 ⟨0, x, by omega, rfl, rfl, t2, a2⟩ (by show 100 - 0 < F; omega)
  obtain ⟨t, y, ht, rfl, hy, ty, hr⟩ := hp
  have i1 := dv_ok H.hv H.hx t _ y hy
  have hs := ok64 hn i1.2.2.2.2
  have hm := mS_tri hr H.hm
  rcases Nat.lt_or_ge t N with q | q
  · have hq : c / (n + 1) ^ (N - (t + 1)) / (n + 1) = c / (n + 1) ^ (N - t) := by
      rw [Nat.div_div_eq_div_mul, ← Nat.pow_succ, show (N - (t + 1)).succ = N - t by omega]
    have hdv := dv_s (q := c / (n + 1) ^ (N - (t + 1))) (by rw [hq]; exact hy)
    obtain ⟨d, hd⟩ : ∃ d, d = c / (n + 1) ^ (N - (t + 1)) % (n + 1) := ⟨_, rfl⟩
    have hdl : d < n + 1 := by rw [hd]; exact Nat.mod_lt _ (by omega)
    rw [← hd] at hdv
    have hwh : pw_wh n N c t = if d = 0 then -9 else nI (d - 1) := by
      unfold pw_wh
      rw [show N - 1 - t = N - (t + 1) by omega, ← hd]
    rw [if_neg (show ¬ nI N ≤ nI t from nI_ge q (by omega)), who6 hF hn hm.1.1 (by omega) q hc, bo_some, hwh, jn_eq]
    have fin : ∀ y' s', pw_dv n kd sg G x (t + 1) (c / (n + 1) ^ (N - (t + 1))) = some y' → TR s' 828 y' → tri st s' → ∃ s : sw_St, nm (nI t + 1) (fun (x14 : Int32) => g x14 s') = some (pw_dw n kd sg G x N 0 c, s) ∧ tri st s := fun y' s' a1 a2 a3 => by
      rw [nm_eq, nI_1]
      exact ih _ _ ⟨t + 1, y', q, rfl, a1, a2, a3⟩ (by rw [nI_clamp (by omega), nI_clamp (by omega)]; omega)
    by_cases d0 : d = 0
    · rw [if_pos d0, if_pos rfl]
      exact fin y s (by rw [hdv, d0]; rfl) ty hr
    · have hj : d - 1 < n := by omega
      rw [if_neg d0, if_neg (nI_ne9 (by omega)), show (828 : Int32) = nI 828 from rfl, isIn6 (b := 828) ty.2.2.2.2 (by omega) hs (by omega), bo_some]
      cases hb : y.2.2.2.2.testBit (d - 1)
      · obtain ⟨s3, j3, t3, a3⟩ := comesIn6 (b := 828) (i := d - 1) hF H.hv hm H.hG (Or.inr rfl) hj i1 ty
        rw [if_neg (show ¬ false = true by decide), if_pos rfl, j3, bd_some]
        exact fin _ s3 (by rw [hdv]; unfold pw_ds; rw [if_neg d0, hb]; rfl) t3 (hr.tr a3.tri)
      · rw [if_pos (show true = true from rfl), if_neg (show ¬ (1 : Int32) = 0 by decide)]
        have hnone : pw_dv n kd sg G x (t + 1) (c / (n + 1) ^ (N - (t + 1))) = none := by
          rw [hdv]
          unfold pw_ds
          rw [if_neg d0, hb]
          rfl
        have := dv_none hnone (N - (t + 1)) c rfl
        rw [show t + 1 + (N - (t + 1)) = N by omega] at this
        refine ⟨s, ?_, hr⟩
        rw [hW, this]
  · have e : t = N := by omega
    subst e
    rw [Nat.sub_self, Nat.pow_zero, Nat.div_one] at hy
    rw [if_pos (show nI t ≤ nI t from nI_le (Nat.le_refl t) (by omega))]
    refine ⟨s, ?_, hr⟩
    rw [hW, hy, show s.1 64 829 = nI y.1 from ty.1]
/-- trial and worths -/
def t76 (st s : sw_St) : Prop := (∀ a, a ≠ 64 → a ≠ 76 → s.1 a = st.1 a) ∧ (∀ i, i < 828 → s.1 64 i = st.1 64 i) ∧ s.2 = st.2
theorem t76.rf (st : sw_St) : t76 st st := ⟨fun _ _ _ => rfl, fun _ _ => rfl, rfl⟩
theorem t76.tri {st s s2 : sw_St} (h : t76 st s) (h2 : tri s s2) : t76 st s2 := ⟨fun a h1 h3 => (h2.1 a h1).trans (h.1 a h1 h3), fun i hi => (h2.2.1 i hi).trans (h.2.1 i hi), h2.2.2.trans h.2.2⟩
theorem t76.C {st s : sw_St} (h : t76 st s) (k : Nat) (v : Int32) : t76 st (sw_setC s 76 k v) := ⟨fun a h1 h3 => by rw [gsC_ne _ _ _ h3]; exact h.1 a h1 h3, fun i hi => by rw [gsC_ne _ _ _ (by decide)]; exact h.2.1 i hi, h.2.2⟩
theorem HR.t76 {st s : sw_St} {n : Nat} {kd sg bd : Nat → Nat} {fw ff G : Nat} {x : pw_D} (h : HR st n kd sg bd fw ff G x) (e : t76 st s) : HR s n kd sg bd fw ff G x := h.c (fun b hb => by
    have := (by decide : ∀ a, a ∈ [15, 16, 17, 18, 19, 65, 66, 67] → a ≠ 64 ∧ a ≠ 76) b hb
    exact e.1 b this.1 this.2) (by rw [e.1 63 (by decide) (by decide)]) e.2.1
theorem pow4 {n k : Nat} (hn : n ≤ 6) (hk : k ≤ 4) : (n + 1) ^ k ≤ 2401 ∧ 0 < (n + 1) ^ k := by
  refine ⟨?_, Nat.pow_pos (by omega)⟩
  have h1 : (n + 1) ^ k ≤ 7 ^ k := Nat.pow_le_pow_left (by omega) k
  have h2 : 7 ^ k ≤ 7 ^ 4 := Nat.pow_le_pow_right (by decide) hk
  have : (7 : Nat) ^ 4 = 2401 := by decide
  omega
theorem in6_4n {F : Nat} {a : Int32} {st : sw_St} (h : nout a 5) : j_X6_in F a.toInt64 0 4 st = some 0 := in6_n (lo := 0) (hi := 4) rfl rfl (by rcases h with h | h; exact Or.inl h; exact Or.inr (by omega))
theorem in6_4y {F i : Nat} {st : sw_St} (h : i ≤ 4) : j_X6_in F (nI i).toInt64 0 4 st = some 1 := in6_y (lo := 0) (hi := 4) rfl rfl (by rw [nI_tI (by omega)]; omega) (by rw [nI_tI (by omega)]; omega)
theorem duel_body {β : Type} (x30 x39 x14 : Int32) (K : Int32 → Option β) : (jn (fun (x40 : Int32) => jn K (fun k44 => (if x40 = 0 then ( k44 x30) else ( k44 x39)))) (fun k41 => jn ( k41 0) (fun k48 => (if x39 = (-9) then ( k48) else ( jn ( k41 1) (fun k51 => (if x30 = (-9) then ( k51) else ( (if (x14 - x14 / 2 * 2) = 0 then ( (if x39 ≤ x30 then ( k48) else ( k51))) else ( (if x30 ≤ x39 then ( k48) else ( k51)))))))))))) = K (pw_sf (decide (x14 - x14 / 2 * 2 = 0)) x30 x39) := by
  show (if x39 = -9 then (if (0 : Int32) = 0 then K x30 else K x39) else if x30 = -9 then (if (1 : Int32) = 0 then K x30 else K x39) else if x14 - x14 / 2 * 2 = 0 then (if x39 ≤ x30 then (if (0 : Int32) = 0 then K x30 else K x39) else (if (1 : Int32) = 0 then K x30 else K x39)) else (if x30 ≤ x39 then (if (0 : Int32) = 0 then K x30 else K x39) else (if (1 : Int32) = 0 then K x30 else K x39))) = _
  rw [if_pos (rfl : (0 : Int32) = 0), if_neg (by decide : ¬ (1 : Int32) = 0)]
  unfold pw_sf
  by_cases h1 : x39 = -9
  · rw [if_pos h1, if_pos h1]
  rw [if_neg h1, if_neg h1]
  by_cases h2 : x30 = -9
  · rw [if_pos h2, if_pos h2]
  rw [if_neg h2, if_neg h2]
  by_cases h3 : x14 - x14 / 2 * 2 = 0
  · rw [if_pos h3, if_pos (decide_eq_true h3)]
    by_cases h4 : x39 ≤ x30
    · rw [if_pos h4, if_pos h4]
    · rw [if_neg h4, if_neg h4]
  · rw [if_neg h3, if_neg (show ¬ decide (x14 - x14 / 2 * 2 = 0) = true by rw [decide_eq_false h3]; decide)]
    by_cases h4 : x30 ≤ x39
    · rw [if_pos h4, if_pos h4]
    · rw [if_neg h4, if_neg h4]
theorem duel6 {F n N : Nat} {kd sg br : Nat → Nat} {fw ff G : Nat} {x : pw_D} {st : sw_St} (hF : 20000 ≤ F) (H : HR st n kd sg br fw ff G x) (n0 : ¬ nI n = 0) (hN : N ≤ 4) : ∃ s, j_X6_duel F (nI N) st = some (pw_dw n kd sg G x N N 0, s) ∧ t76 st s := by
  have hn := H.hv.1
  obtain ⟨W, hWd⟩ : ∃ W, W = pw_dw n kd sg G x N := ⟨_, rfl⟩
  obtain ⟨M, hMd⟩ : ∃ M, M = (n + 1) ^ N := ⟨_, rfl⟩
  have hM := pow4 hn hN
  rw [← hMd] at hM
  unfold j_X6_duel
  rw [in6_4y hN, bo_some, if_neg (by decide), H.hm.1.1, if_neg n0, ← hWd]
  refine lz2_ind (Φ := fun o => ∃ s : sw_St, o = some (W N 0, s) ∧ t76 st s) (fun i _ => 19000 - i.toNatClampNeg) (fun u s => ∃ k, k ≤ M ∧ u = nI k ∧ (∀ c, c < k → s.1 76 c = W 0 c) ∧ t76 st s) (fun g u s hp ih => ?_) F 0 st ⟨0, by omega, rfl, fun c hc => absurd hc (Nat.not_lt_zero c), t76.rf st⟩ (by show 19000 - 0 < F; omega)
  obtain ⟨k, hk, rfl, hw, hr⟩ := hp
  have Hs := H.t76 hr
  rw [power6 hF Hs.hm.1.1 (by omega), bo_some, ← hMd]
  rcases Nat.lt_or_ge k M with q | q
  · rw [if_neg (show ¬ nI M ≤ nI k from nI_ge q (by omega))]
    obtain ⟨s1, j1, r1⟩ := worth6 (F := F) (c := k) hF Hs hN (by omega)
    rw [j1, bd_some, bnd_nI (show k < 2401 by omega) (by decide), nI_clamp (by omega), nm_eq, nm_eq, nI_1]
    refine ih _ _ ⟨k + 1, q, rfl, fun c hc => ?_, (hr.tri r1).C _ _⟩ (by rw [nI_clamp (by omega), nI_clamp (by omega)]; omega)
    rw [gsC]
    by_cases e : c = k
    · rw [if_pos ⟨rfl, e⟩, e, hWd]
    · rw [if_neg (fun z => e z.2), r1.1 76 (by decide)]
      exact hw c (by omega)
  have e : k = M := by omega
  subst e
  rw [if_pos (show nI k ≤ nI k from nI_le (Nat.le_refl k) (by omega)), Hs.hm.1.1, nI_1, nm_eq, nm_eq]
  -- turn by turn, from the last
  refine lz2_ind (Φ := fun o => ∃ s : sw_St, o = some (W N 0, s) ∧ t76 st s) (fun y _ => (y.toInt + 1).toNat) (fun u s => ∃ k, k ≤ N ∧ u = nI k - 1 ∧ (∀ c, c < (n + 1) ^ k → s.1 76 c = W (N - k) c) ∧ t76 st s) (fun g2 u s2 hp2 ih2 => ?_) F (nI N - 1) s ⟨N, Nat.le_refl N, rfl, fun c hc => by rw [Nat.sub_self]; exact hw c (by rw [hMd]; exact hc), hr⟩ (by rw [sub1 (by omega)]; omega)
  obtain ⟨k2, hk2, rfl, hw2, hr2⟩ := hp2
  rcases k2 with _ | j
  · rw [if_pos (show nI 0 - 1 < 0 by decide)]
    refine ⟨s2, ?_, hr2⟩
    rw [hw2 0 (by rw [Nat.pow_zero]; decide), Nat.sub_zero]
  have e1 : nI (j + 1) - 1 = nI j := by
    rw [show (1 : Int32) = nI 1 from rfl, pk_sub (by omega), Nat.add_sub_cancel]
  have hJ := pow4 hn (show j ≤ 4 by omega)
  have hJ1 := pow4 hn (show j + 1 ≤ 4 by omega)
  rw [e1, if_neg (show ¬ nI j < 0 from nI_pos (by omega))]
  obtain ⟨J, hJd⟩ : ∃ J, J = (n + 1) ^ j := ⟨_, rfl⟩
  have hJs : (n + 1) ^ (j + 1) = (n + 1) * J := by rw [Nat.pow_succ, hJd, Nat.mul_comm]
  rw [← hJd] at hJ
  rw [hJs] at hJ1 hw2
  refine lz2_ind (Φ := fun o => ∃ s : sw_St, o = some (W N 0, s) ∧ t76 st s) (fun i _ => 19000 - i.toNatClampNeg) (fun u s' => ∃ m, m ≤ J ∧ u = nI m ∧ (∀ c, c < m → s'.1 76 c = W (N - j) c) ∧ (∀ c, m ≤ c → c < (n + 1) * J → s'.1 76 c = W (N - (j + 1)) c) ∧ t76 st s') (fun g3 u s3 hp3 ih3 => ?_) F 0 s2 ⟨0, by omega, rfl, fun c hc => absurd hc (Nat.not_lt_zero c), fun c _ hc => hw2 c hc, hr2⟩ (by show 19000 - 0 < F; omega)
  obtain ⟨m, hm, rfl, ha, hb, hr3⟩ := hp3
  have H3 := H.t76 hr3
  rw [power6 hF H3.hm.1.1 (by omega), bo_some, ← hJd]
  rcases Nat.lt_or_ge m J with q3 | q3
  · have hidx : ∀ d, d ≤ n → m ≤ (n + 1) * m + d ∧ (n + 1) * m + d < (n + 1) * J := fun d hd => by
      have h1 : (n + 1) * (m + 1) ≤ (n + 1) * J := Nat.mul_le_mul_left _ q3
      have h2 : (n + 1) * (m + 1) = (n + 1) * m + (n + 1) := Nat.mul_succ _ _
      have h3 : 1 * m ≤ (n + 1) * m := Nat.mul_le_mul_right _ (by omega)
      omega
    obtain ⟨e, he⟩ : ∃ e, e = decide (nI j - nI j / 2 * 2 = 0) := ⟨_, rfl⟩
    obtain ⟨f, hf⟩ : ∃ f : Nat → Int32, f = fun d => W (N - (j + 1)) (m * (n + 1) + d) := ⟨_, rfl⟩
    have hWs : W (N - j) m = pw_bf e f n := by
      have : e = ((N - (N - (j + 1) + 1)) % 2 == 0) := by
        rw [he, show (2 : Int32) = nI 2 from rfl, pk_r32 (by omega) (by decide) (by decide), show N - (N - (j + 1) + 1) = j by omega]
        rcases Nat.mod_two_eq_zero_or_one j with z | z
        · rw [z]; rfl
        · rw [z]; rfl
      rw [show N - j = N - (j + 1) + 1 by omega, hf, this, hWd]
      rfl
    have hbf : ∀ d, d ≤ n → s3.1 76 ((n + 1) * m + d) = f d := fun d hd => by
      rw [hb _ (hidx d hd).1 (hidx d hd).2, hf, Nat.mul_comm]
    have i0 := hidx 0 (Nat.zero_le n)
    rw [if_neg (show ¬ nI J ≤ nI m from nI_ge q3 (by omega)), pk_mul, bnd_nI (show (n + 1) * m < 2401 by omega) (by decide), nI_clamp (by omega), nm_eq, show s3.1 76 ((n + 1) * m) = f 0 from hbf 0 (Nat.zero_le n)]
    refine lz2_ind (Φ := fun o => ∃ s : sw_St, o = some (W N 0, s) ∧ t76 st s) (fun _ i => 100 - i.toNatClampNeg) (fun u c => ∃ i, i ≤ n ∧ c = nI (i + 1) ∧ u = pw_bf e f i) (fun g4 u c hp4 ih4 => ?_) F (f 0) 1 ⟨0, Nat.zero_le n, rfl, rfl⟩ (by show 100 - 1 < F; omega)
    obtain ⟨i, hi, rfl, rfl⟩ := hp4
    rcases Nat.lt_or_ge i n with q4 | q4
    · have i2 := hidx (i + 1) q4
      rw [if_neg (show ¬ nI (n + 1) ≤ nI (i + 1) from nI_ge (by omega) (by omega)), nI_add, bnd_nI (show (n + 1) * m + (i + 1) < 2401 by omega) (by decide), nI_clamp (show (n + 1) * m + (i + 1) < 2 ^ 31 by omega), nm_eq, hbf (i + 1) q4, duel_body, ← he, nm_eq, nI_1]
      exact ih4 _ _ ⟨i + 1, q4, rfl, rfl⟩ (by rw [nI_clamp (by omega), nI_clamp (by omega)]; omega)
    · have e4 : i = n := by omega
      subst e4
      rw [if_pos (show nI (i + 1) ≤ nI (i + 1) from nI_le (Nat.le_refl _) (by omega)), bnd_nI (show m < 2401 by omega) (by decide), nI_clamp (show m < 2 ^ 31 by omega), nm_eq, nm_eq, nI_1]
      refine ih3 _ _ ⟨m + 1, q3, rfl, fun c hc => ?_, fun c h1 h2 => ?_, hr3.C _ _⟩ (by rw [nI_clamp (by omega), nI_clamp (by omega)]; omega)
      · rw [gsC]
        by_cases e : c = m
        · rw [if_pos ⟨rfl, e⟩, e, hWs]
        · rw [if_neg (fun z => e z.2)]
          exact ha c (by omega)
      · rw [gsC, if_neg (by omega)]
        exact hb c (by omega) h2
  · have e3 : m = J := by omega
    subst e3
    rw [if_pos (show nI m ≤ nI m from nI_le (Nat.le_refl m) (by omega)), nm_eq, show nI j + (-1) = nI j - 1 from (Int32.sub_eq_add_neg _ _).symm]
    refine ih2 _ _ ⟨j, by omega, rfl, fun c hc => ha c (by rw [hJd]; exact hc), hr3⟩ ?_
    rw [sub1 (by omega), sub1 (n := j + 1) (by omega)]
    omega
theorem o_32 {F : Nat} (hF : 20000 ≤ F) : sm_32 II F := by
  intro a1 st hI
  obtain ⟨n, kd, sg, br, fw, ff, G, x, H⟩ := II_HR hI
  have hn := H.hv.1
  rcases nix a1 5 with h | ⟨N, hN5, rfl⟩
  · refine ⟨-1, st, ?_, ?_, hI⟩
    · unfold j_X5_duel
      simp only [jn]
      by_cases q : a1 < 0
      · rw [if_pos q]
      · rw [if_neg q, if_neg]
        rw [i_le]
        rw [i_lt] at q
        rcases h with h | h
        · exact absurd h q
        · show ¬ a1.toInt ≤ 4
          omega
    · unfold j_X6_duel
      rw [in6_4n h]; rfl
  have hN : N ≤ 4 := by omega
  have p1 : ¬ nI N < 0 := nI_pos (by omega)
  have p2 : nI N ≤ 4 := nI_le (b := 4) hN (by decide)
  by_cases h0 : n = 0
  · refine ⟨-4, st, ?_, ?_, hI⟩
    · unfold j_X5_duel
      simp only [jn]
      rw [if_neg p1, if_pos p2, H.hc.1, if_pos ((n0_iff hn).mpr h0)]
    · unfold j_X6_duel
      rw [in6_4y hN, bo_some, if_neg (by decide), H.hm.1.1, if_pos ((n0_iff hn).mpr h0)]
  have n0 : ¬ nI n = 0 := fun z => h0 ((n0_iff hn).mp z)
  obtain ⟨s, j6, hr⟩ := duel6 (F := F) hF H n0 hN
  refine ⟨_, s, ?_, j6, ?_⟩
  · unfold j_X5_duel
    simp only [jn]
    rw [if_neg p1, if_pos p2, H.hc.1, if_neg n0, H.hr.1, H.hr.2.2.2.2, show j_X5_duelFrom F 6 0 (nI N) (nI x.1) (nI x.2.2.2.2) st = some (pw_dw n kd sg G x N N 0) from duelF5 hF H hN N 6 0 0 x (by omega) (by omega) rfl, bo_some]
  · refine II_scr hI (fun b hb => ?_) ?_ ?_ ?_ ?_ hr.2.1 ?_ ?_
    · have ha2 : b ≠ 64 ∧ b ≠ 76 := by
        simp only [sN, List.mem_cons, not_or, List.mem_nil_iff, or_false] at hb ⊢
        omega
      exact hr.1 b ha2.1 ha2.2
    · rw [hr.1 0 (by decide) (by decide)]
    · rw [hr.1 0 (by decide) (by decide), hr.1 63 (by decide) (by decide)]
      exact hI.2.2.1.1
    · rw [hr.1 63 (by decide) (by decide)]
    · rw [hr.1 63 (by decide) (by decide)]
    · rw [hr.2.2]; exact hI.2.2.1.2.2.2.1
    · rw [hr.2.2]; exact hI.2.2.1.2.2.2.2
