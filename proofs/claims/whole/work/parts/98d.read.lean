/-! a TEXT read: what both readers come to -/
def pf_skf (b : Nat → Int32) : Nat → Nat → Nat
  | 0, p => p
  | k + 1, p => if b p = 32 then pf_skf b k (p + 1) else p
def pf_sk (b : Nat → Int32) (n p : Nat) : Nat := pf_skf b (n - p) p
theorem sk_y {b : Nat → Int32} {n p : Nat} (h : p < n) : pf_sk b n p = if b p = 32 then pf_sk b n (p + 1) else p := by
  unfold pf_sk
  rw [show n - p = (n - (p + 1)) + 1 by omega]
  rfl
theorem sk_n {b : Nat → Int32} {n p : Nat} (h : n ≤ p) : pf_sk b n p = p := by
  unfold pf_sk
  rw [show n - p = 0 by omega]
  rfl
theorem skf_r (b : Nat → Int32) (k : Nat) : ∀ p, p ≤ pf_skf b k p ∧ pf_skf b k p ≤ p + k := by
  induction k with
  | zero => exact fun p => ⟨Nat.le_refl p, Nat.le_refl p⟩
  | succ k ih =>
    intro p
    show p ≤ (if b p = 32 then pf_skf b k (p + 1) else p) ∧ (if b p = 32 then pf_skf b k (p + 1) else p) ≤ p + (k + 1)
    have := ih (p + 1)
    by_cases q : b p = 32
    · rw [if_pos q]; omega
    · rw [if_neg q]; omega
theorem sk_r {b : Nat → Int32} {n p : Nat} (h : p ≤ n) : p ≤ pf_sk b n p ∧ pf_sk b n p ≤ n := by
  have := skf_r b (n - p) p
  unfold pf_sk
  omega
def pf_fig (b : Nat → Int32) (n lo hi p : Nat) : Option Nat := if p < n ∧ (48 + lo : Int) ≤ (b p).toInt ∧ (b p).toInt ≤ (48 + hi : Int) then some ((b p).toInt - 48).toNat else none
theorem fig_le {b : Nat → Int32} {n lo hi p f : Nat} (h : pf_fig b n lo hi p = some f) : p < n ∧ lo ≤ f ∧ f ≤ hi := by
  unfold pf_fig at h
  by_cases q : p < n ∧ (48 + lo : Int) ≤ (b p).toInt ∧ (b p).toInt ≤ (48 + hi : Int)
  · rw [if_pos q] at h
    injection h with h
    omega
  · rw [if_neg q] at h
    exact absurd h (by simp)
def pf_kind (c : Int32) : Option Nat := if c = 115 then some 0 else if c = 116 then some 1 else if c = 99 then some 2 else if c = 112 then some 3 else if c = 109 then some 4 else if c = 98 then some 5 else none
theorem kind_le {c : Int32} {k : Nat} (h : pf_kind c = some k) : k ≤ 5 := by
  unfold pf_kind at h
  repeat' split at h
  all_goals first | (injection h with h; omega) | exact absurd h (by simp)
/-- the spring: the place behind it (or of the fault), WOUND and FROST -/
def pf_spr (b : Nat → Int32) (n p : Nat) : Nat × Option (Nat × Nat) :=
  if p < n ∧ b p = 119 then
    match pf_fig b n 0 9 (p + 1) with
    | none => (p + 1, none)
    | some t => match pf_fig b n 0 9 (p + 2) with
      | none => (p + 2, none)
      | some o => if 10 * t + o ≤ 60 then (match pf_fig b n 0 3 (p + 3) with
          | none => (p + 3, none)
          | some f => (p + 4, some (10 * t + o, f)))
        else (p + 1, none)
  else (p, none)
abbrev pw_Q : Type := Nat × Nat × Nat × Nat
def pf_str (b : Nat → Int32) (n p : Nat) : Nat × Option pw_Q :=
  match pf_kind (b p) with
  | none => (p, none)
  | some k => match pf_fig b n 1 9 (p + 1) with
    | none => (p + 1, none)
    | some s => match pf_fig b n 0 1 (p + 2) with
      | none => (p + 2, none)
      | some g => match pf_fig b n 0 9 (p + 3) with
        | none => (p + 3, none)
        | some d => (p + 4, some (k, s, g, d))
/-! the class's reader -/
theorem setC_C (s : sw_St) (o k : Nat) (v w : Int32) : sw_setC (sw_setC s o k v) o k w = sw_setC s o k w := by
  refine Prod.ext ?_ rfl
  funext a i
  rw [gsC, gsC, gsC]
  by_cases h : a = o ∧ i = k
  · rw [if_pos h, if_pos h]
  · rw [if_neg h, if_neg h, if_neg h]
def RC (s : sw_St) (t n p : Nat) (b : Nat → Int32) : Prop := s.2.2 = 10 + t ∧ s.1 52 1 = nI n ∧ s.1 52 2 = nI p ∧ ∀ i, i < n → s.1 (10 + t) i = b i
def mv5 (s : sw_St) (p : Nat) : sw_St := sw_setC s 52 2 (nI p)
theorem RC.mv {s : sw_St} {t n p : Nat} {b : Nat → Int32} (h : RC s t n p b) (ht : t < 4) (q : Nat) : RC (mv5 s q) t n q b := by
  obtain ⟨h1, h2, h3, h4⟩ := h
  refine ⟨h1, ?_, ?_, fun i hi => ?_⟩
  · unfold mv5; rw [gsC, if_neg (by decide)]; exact h2
  · unfold mv5; rw [gsC, if_pos ⟨rfl, rfl⟩]
  · unfold mv5; rw [gsC_ne _ _ _ (by omega)]; exact h4 i hi
theorem RC.C {s : sw_St} {t n p : Nat} {b : Nat → Int32} (h : RC s t n p b) (ht : t < 4) {o : Nat} (k : Nat) (v : Int32) (ho : 22 ≤ o ∧ o ≤ 28) : RC (sw_setC s o k v) t n p b := by
  obtain ⟨h1, h2, h3, h4⟩ := h
  refine ⟨h1, ?_, ?_, fun i hi => ?_⟩
  · rw [gsC_ne _ _ _ (by omega)]; exact h2
  · rw [gsC_ne _ _ _ (by omega)]; exact h3
  · rw [gsC_ne _ _ _ (by omega)]; exact h4 i hi
theorem mv5_mv (s : sw_St) (p q : Nat) : mv5 (mv5 s p) q = mv5 s q := setC_C s 52 2 _ _
theorem mv5_self {s : sw_St} {p : Nat} (h : s.1 52 2 = nI p) : mv5 s p = s := by
  unfold mv5
  rw [← h]
  exact setC_self s 52 2
theorem kd7 {t : Nat} (h : t < 4) : sw_kd (10 + t) = 7 := by
  rcases (show t = 0 ∨ t = 1 ∨ t = 2 ∨ t = 3 by omega) with rfl | rfl | rfl | rfl <;> rfl
theorem skip5 {F t n p : Nat} {b : Nat → Int32} {s : sw_St} (hF : 20000 ≤ F) (ht : t < 4) (hn : n ≤ 60) (hp : p ≤ n) (H : RC s t n p b) : j_X3_skipBlanks F s = some ((), mv5 s (pf_sk b n p)) := by
  unfold j_X3_skipBlanks
  refine lz1_ind (Φ := fun o => o = some ((), mv5 s (pf_sk b n p))) (fun s => 100 - (s.1 52 2).toNatClampNeg) (fun s' => ∃ q, q ≤ n ∧ s' = mv5 s q ∧ pf_sk b n q = pf_sk b n p) (fun g s' hq ih => ?_) F s ⟨p, hp, (mv5_self H.2.2.1).symm, rfl⟩ (by omega)
  obtain ⟨q, hqn, rfl, hsk⟩ := hq
  obtain ⟨r1, r2, r3, r4⟩ := H.mv ht q
  rw [jn_eq, r1, r2, r3]
  rcases Nat.lt_or_ge q n with w | w
  · rw [if_neg (show ¬ nI n ≤ nI q from nI_ge w (by omega)), grd_y (kd7 ht), t4 ht, bnd_nI (by omega) (by decide), nI_clamp (by omega), r4 q w]
    rw [sk_y w] at hsk
    by_cases z : b q = 32
    · rw [if_pos z] at hsk
      rw [if_pos z, nm_eq, nI_1]
      exact ih _ ⟨q + 1, w, mv5_mv s q (q + 1), hsk⟩ (by
        show 100 - ((mv5 (mv5 s q) (q + 1)).1 52 2).toNatClampNeg < _
        rw [((H.mv ht q).mv ht (q + 1)).2.2.1, r3, nI_clamp (by omega), nI_clamp (by omega)]; omega)
    · rw [if_neg z] at hsk
      rw [if_neg z, hsk]
  · rw [sk_n w] at hsk
    rw [if_pos (show nI n ≤ nI q from nI_le w (by omega)), hsk]
theorem fig_y {b : Nat → Int32} {n lo hi p : Nat} (h1 : p < n) (h2 : (48 + lo : Int) ≤ (b p).toInt) (h3 : (b p).toInt ≤ (48 + hi : Int)) : pf_fig b n lo hi p = some ((b p).toInt - 48).toNat := if_pos ⟨h1, h2, h3⟩
theorem fig_n {b : Nat → Int32} {n lo hi p : Nat} (h : n ≤ p ∨ (b p).toInt < (48 + lo : Int) ∨ (48 + hi : Int) < (b p).toInt) : pf_fig b n lo hi p = none := if_neg (by omega)
theorem fig_sub {c : Int32} (h : 48 ≤ c.toInt) : c - 48 = nI (c.toInt - 48).toNat := by
  have h2 := c.toInt_lt
  have e : c = nI c.toInt.toNat := by rw [i_eq, nI_toInt (by omega)]; omega
  have e2 : c.toInt.toNat - 48 = (c.toInt - 48).toNat := by omega
  conv => lhs; rw [e]
  rw [show (48 : Int32) = nI 48 from rfl, pk_sub (by omega), e2]
theorem figure5 {F t n p lo hi : Nat} {b : Nat → Int32} {s : sw_St} (ht : t < 4) (hn : n ≤ 60) (hp : p ≤ n) (hlo : lo ≤ 9) (hhi : hi ≤ 9) (H : RC s t n p b) : j_X3_readFigure F (nI lo) (nI hi) s = some (match pf_fig b n lo hi p with
    | none => (-1, s)
    | some f => (nI f, mv5 s (p + 1))) := by
  obtain ⟨r1, r2, r3, r4⟩ := H
  unfold j_X3_readFigure
  rw [jn_eq, r1, r2, r3]
  rcases Nat.lt_or_ge p n with w | w
  · rw [if_neg (show ¬ nI n ≤ nI p from nI_ge w (by omega)), grd_y (kd7 ht), grd_y (kd7 ht), grd_y (kd7 ht), t4 ht, bnd_nI (by omega) (by decide), bnd_nI (by omega) (by decide), bnd_nI (by omega) (by decide), nI_clamp (by omega), r4 p w, show (48 : Int32) = nI 48 from rfl, nI_add, nI_add]
    have q1 : (b p < nI (48 + lo)) ↔ (b p).toInt < (48 + lo : Int) := by rw [i_lt, nI_tI (by omega)]; omega
    have q2 : (b p ≤ nI (48 + hi)) ↔ (b p).toInt ≤ (48 + hi : Int) := by rw [i_le, nI_tI (by omega)]; omega
    by_cases z1 : b p < nI (48 + lo)
    · rw [if_pos z1, fig_n (Or.inr (Or.inl (q1.mp z1)))]
    · rw [if_neg z1]
      have z1' : ¬ (b p).toInt < (48 + lo : Int) := fun z => z1 (q1.mpr z)
      by_cases z2 : b p ≤ nI (48 + hi)
      · rw [if_pos z2, fig_y w (by omega) (q2.mp z2), nm_eq, nm_eq, nI_1, show nI 48 = (48 : Int32) from rfl, fig_sub (by omega)]
        rfl
      · have z2' : ¬ (b p).toInt ≤ (48 + hi : Int) := fun z => z2 (q2.mpr z)
        rw [if_neg z2, fig_n (Or.inr (Or.inr (by omega)))]
  · rw [if_pos (show nI n ≤ nI p from nI_le w (by omega)), fig_n (Or.inl w)]
/-- only the reader and the draft have changed -/
def f5 (s s' : sw_St) : Prop := (∀ a, (a < 22 ∨ 28 < a) → a ≠ 52 → s'.1 a = s.1 a) ∧ s'.2 = s.2
theorem f5.rf (s : sw_St) : f5 s s := ⟨fun _ _ _ => rfl, rfl⟩
theorem f5.tr {s s1 s2 : sw_St} (h : f5 s s1) (h2 : f5 s1 s2) : f5 s s2 := ⟨fun a h1 h3 => (h2.1 a h1 h3).trans (h.1 a h1 h3), h2.2.trans h.2⟩
theorem f5.mv {s s1 : sw_St} (h : f5 s s1) (p : Nat) : f5 s (mv5 s1 p) := ⟨fun a h1 h3 => by unfold mv5; rw [gsC_ne _ _ _ h3]; exact h.1 a h1 h3, h.2⟩
theorem f5.C {s s1 : sw_St} (h : f5 s s1) {o : Nat} (k : Nat) (v : Int32) (ho : 22 ≤ o ∧ o ≤ 28) : f5 s (sw_setC s1 o k v) := ⟨fun a h1 h3 => by rw [gsC_ne _ _ _ (by omega)]; exact h.1 a h1 h3, h.2⟩
theorem mv5_o (s : sw_St) (p : Nat) {a : Nat} (h : a ≠ 52) : (mv5 s p).1 a = s.1 a := gsC_ne _ _ _ h
theorem kindOf5 {F : Nat} {c : Int32} {st : sw_St} : j_X3_kindOf F c st = some (match pf_kind c with
    | none => -1
    | some k => nI k) := by
  unfold j_X3_kindOf pf_kind
  by_cases h1 : c = 115
  · subst h1; rfl
  by_cases h2 : c = 116
  · subst h2; rfl
  by_cases h3 : c = 99
  · subst h3; rfl
  by_cases h4 : c = 112
  · subst h4; rfl
  by_cases h5 : c = 109
  · subst h5; rfl
  by_cases h6 : c = 98
  · subst h6; rfl
  simp only [if_neg h1, if_neg h2, if_neg h3, if_neg h4, if_neg h5, if_neg h6, ite_self]
theorem kindOf6 {F : Nat} {c : Int32} {st : sw_St} : j_X6_kindOfLetter F c st = some (match pf_kind c with
    | none => -9
    | some k => nI k) := by
  unfold j_X6_kindOfLetter pf_kind
  rw [jn_eq]
  by_cases h1 : c = 115
  · subst h1; rfl
  by_cases h2 : c = 116
  · subst h2; rfl
  by_cases h3 : c = 99
  · subst h3; rfl
  by_cases h4 : c = 112
  · subst h4; rfl
  by_cases h5 : c = 109
  · subst h5; rfl
  by_cases h6 : c = 98
  · subst h6; rfl
  simp only [if_neg h1, if_neg h2, if_neg h3, if_neg h4, if_neg h5, if_neg h6]
theorem spring5 {F t n p : Nat} {b : Nat → Int32} {s : sw_St} (ht : t < 4) (hn : n ≤ 60) (hp : p ≤ n) (H : RC s t n p b) : ∃ s', j_X3_readSpring F s = some (if (pf_spr b n p).2.isSome then 1 else 0, s') ∧ RC s' t n (pf_spr b n p).1 b ∧ (∀ v, (pf_spr b n p).2 = some v → s'.1 22 5 = nI v.1 ∧ s'.1 22 6 = nI v.2) ∧ f5 s s' ∧ s'.1 22 0 = s.1 22 0 := by
  have H0 := H
  obtain ⟨r1, r2, r3, r4⟩ := H
  unfold j_X3_readSpring
  rw [jn_eq, r1, r2, r3]
  rcases Nat.lt_or_ge p n with w | w
  case inr =>
    have e : pf_spr b n p = (p, none) := if_neg (by omega)
    rw [if_pos (show nI n ≤ nI p from nI_le w (by omega)), e]
    exact ⟨s, rfl, H0, fun v hv => absurd hv (by simp), f5.rf s, rfl⟩
  rw [if_neg (show ¬ nI n ≤ nI p from nI_ge w (by omega)), grd_y (kd7 ht), t4 ht, bnd_nI (by omega) (by decide), nI_clamp (by omega), r4 p w]
  by_cases z : b p = 119
  case neg =>
    have e : pf_spr b n p = (p, none) := if_neg (fun q => z q.2)
    rw [if_neg z, e]
    exact ⟨s, rfl, H0, fun v hv => absurd hv (by simp), f5.rf s, rfl⟩
  have hE : pf_spr b n p = match pf_fig b n 0 9 (p + 1) with
    | none => (p + 1, none)
    | some t => match pf_fig b n 0 9 (p + 2) with
      | none => (p + 2, none)
      | some o => if 10 * t + o ≤ 60 then (match pf_fig b n 0 3 (p + 3) with
          | none => (p + 3, none)
          | some f => (p + 4, some (10 * t + o, f)))
        else (p + 1, none) := if_pos ⟨w, z⟩
  have H1 := H0.mv ht (p + 1)
  rw [if_pos z, nm_eq, nI_1, show sw_setC s 52 2 (nI (p + 1)) = mv5 s (p + 1) from rfl, nm_eq, H1.2.2.1, show (0 : Int32) = nI 0 from rfl, show (9 : Int32) = nI 9 from rfl, figure5 ht hn (by omega) (by decide) (by decide) H1]
  cases h1 : pf_fig b n 0 9 (p + 1) with
  | none =>
    simp only [h1] at hE
    rw [hE, bd_some, jn_eq, if_neg (show ¬ nI 0 ≤ -1 by decide)]
    dsimp only
    rw [if_neg (show ¬ nI 0 ≤ -1 by decide)]
    exact ⟨_, rfl, H1, fun v hv => absurd hv (by simp), (f5.rf s).mv _, by rw [mv5_o _ _ (by decide)]⟩
  | some tn =>
    obtain ⟨b1, -, b2⟩ := fig_le h1
    have H2 := H1.mv ht (p + 2)
    simp only [h1] at hE
    rw [bd_some, jn_eq, if_pos (show nI 0 ≤ nI tn from nI_pos' (by omega)), mv5_mv]
    rw [mv5_mv] at H2
    rw [figure5 ht hn (by omega) (by decide) (by decide) H2]
    cases h2 : pf_fig b n 0 9 (p + 2) with
    | none =>
      simp only [h2] at hE
      rw [hE, bd_some]
      dsimp only
      rw [if_neg (show ¬ nI 0 ≤ -1 by decide)]
      exact ⟨_, rfl, H2, fun v hv => absurd hv (by simp), (f5.rf s).mv _, by rw [mv5_o _ _ (by decide)]⟩
    | some o =>
      obtain ⟨b3, -, b4⟩ := fig_le h2
      have H3 := H2.mv ht (p + 3)
      simp only [h2] at hE
      rw [mv5_mv] at H3
      rw [bd_some]
      dsimp only
      rw [if_pos (show nI 0 ≤ nI o from nI_pos' (by omega)), mv5_mv, show (10 : Int32) = nI 10 from rfl, pk_mul, nI_add]
      by_cases z2 : 10 * tn + o ≤ 60
      · rw [if_pos z2] at hE
        rw [if_pos (show nI (10 * tn + o) ≤ 60 from nI_le (b := 60) z2 (by decide)), nm_eq, show (3 : Int32) = nI 3 from rfl]
        have H4 := H3.C ht (o := 22) 5 (nI (10 * tn + o)) (by decide)
        rw [figure5 ht hn (by omega) (by decide) (by decide) H4]
        cases h3 : pf_fig b n 0 3 (p + 3) with
        | none =>
          simp only [h3] at hE
          rw [hE, bd_some, nm_eq, jn_eq, gsC, if_pos (show 22 = 22 ∧ 6 = 6 from ⟨rfl, rfl⟩), if_pos (show (-1 : Int32) < nI 0 by decide)]
          dsimp only
          rw [grd_y (Or.inl rfl)]
          exact ⟨_, rfl, H4.C ht 6 _ (by decide), fun v hv => absurd hv (by simp), (((f5.rf s).mv _).C _ _ (by decide)).C _ _ (by decide), by rw [gsC, if_neg (by decide), gsC, if_neg (by decide), mv5_o _ _ (by decide)]⟩
        | some f =>
          obtain ⟨b5, -, b6⟩ := fig_le h3
          simp only [h3] at hE
          rw [hE, bd_some, nm_eq, jn_eq, gsC, if_pos (show 22 = 22 ∧ 6 = 6 from ⟨rfl, rfl⟩), if_neg (show ¬ nI f < nI 0 from nI_pos (by omega))]
          dsimp only
          rw [grd_y (Or.inr rfl)]
          refine ⟨_, rfl, (H4.mv ht (p + 4)).C ht 6 _ (by decide), fun v hv => ?_, ((((f5.rf s).mv _).C _ _ (by decide)).mv _).C _ _ (by decide), by rw [gsC, if_neg (by decide), mv5_o _ _ (by decide), gsC, if_neg (by decide), mv5_o _ _ (by decide)]⟩
          injection hv with hv
          rw [← hv]
          refine ⟨?_, ?_⟩
          · rw [gsC, if_neg (by decide), mv5_o _ _ (by decide), gsC, if_pos ⟨rfl, rfl⟩]
          · rw [gsC, if_pos ⟨rfl, rfl⟩]
      · rw [if_neg z2] at hE
        rw [if_neg (show ¬ nI (10 * tn + o) ≤ 60 from nI_ge (a := 60) (by omega) (by omega)), hE, nm_eq]
        have e9 : sw_setC (mv5 s (p + 2 + 1)) 52 2 (nI (p + 1)) = mv5 s (p + 1) := mv5_mv s _ _
        rw [e9]
        exact ⟨_, rfl, H1, fun v hv => absurd hv (by simp), (f5.rf s).mv _, by rw [mv5_o _ _ (by decide)]⟩
