/-! the reference's reader -/
def RM (s : sw_St) (t n p : Nat) (b : Nat → Int32) : Prop := s.1 63 14 = nI (60 * t) ∧ s.1 63 15 = nI p ∧ s.1 63 16 = nI n ∧ ∀ i, i < n → s.1 71 (60 * t + i) = b i
def mv6 (s : sw_St) (p : Nat) : sw_St := sw_setC s 63 15 (nI p)
theorem RM.mv {s : sw_St} {t n p : Nat} {b : Nat → Int32} (h : RM s t n p b) (q : Nat) : RM (mv6 s q) t n q b := by
  obtain ⟨h1, h2, h3, h4⟩ := h
  refine ⟨?_, ?_, ?_, fun i hi => ?_⟩
  · unfold mv6; rw [gsC, if_neg (by decide)]; exact h1
  · unfold mv6; rw [gsC, if_pos ⟨rfl, rfl⟩]
  · unfold mv6; rw [gsC, if_neg (by decide)]; exact h3
  · unfold mv6; rw [gsC_ne _ _ _ (by decide)]; exact h4 i hi
theorem RM.C {s : sw_St} {t n p : Nat} {b : Nat → Int32} (h : RM s t n p b) {k : Nat} (v : Int32) (hk : 17 ≤ k) : RM (sw_setC s 63 k v) t n p b := by
  obtain ⟨h1, h2, h3, h4⟩ := h
  refine ⟨?_, ?_, ?_, fun i hi => ?_⟩
  · rw [gsC, if_neg (by omega)]; exact h1
  · rw [gsC, if_neg (by omega)]; exact h2
  · rw [gsC, if_neg (by omega)]; exact h3
  · rw [gsC_ne _ _ _ (by decide)]; exact h4 i hi
theorem RM.D {s : sw_St} {t n p : Nat} {b : Nat → Int32} (h : RM s t n p b) (k : Nat) (v : Int32) : RM (sw_setC s 73 k v) t n p b := by
  obtain ⟨h1, h2, h3, h4⟩ := h
  refine ⟨?_, ?_, ?_, fun i hi => ?_⟩
  · rw [gsC_ne _ _ _ (by decide)]; exact h1
  · rw [gsC_ne _ _ _ (by decide)]; exact h2
  · rw [gsC_ne _ _ _ (by decide)]; exact h3
  · rw [gsC_ne _ _ _ (by decide)]; exact h4 i hi
theorem mv6_mv (s : sw_St) (p q : Nat) : mv6 (mv6 s p) q = mv6 s q := setC_C s 63 15 _ _
theorem mv6_self {s : sw_St} {p : Nat} (h : s.1 63 15 = nI p) : mv6 s p = s := by
  unfold mv6
  rw [← h]
  exact setC_self s 63 15
theorem here6 {F t n p : Nat} {b : Nat → Int32} {s : sw_St} (ht : t < 4) (hn : n ≤ 60) (hp : p < n) (H : RM s t n p b) : j_X6_here F s = some (b p) := by
  unfold j_X6_here
  rw [H.1, H.2.1, nI_add, bnd_nI (by omega) (by decide), nI_clamp (by omega), H.2.2.2 p hp]
theorem skip6 {F t n p : Nat} {b : Nat → Int32} {s : sw_St} (hF : 20000 ≤ F) (ht : t < 4) (hn : n ≤ 60) (hp : p ≤ n) (H : RM s t n p b) : j_X6_skip F s = some ((), mv6 s (pf_sk b n p)) := by
  unfold j_X6_skip
  refine lz1_ind (Φ := fun o => o = some ((), mv6 s (pf_sk b n p))) (fun s => 100 - (s.1 63 15).toNatClampNeg) (fun s' => ∃ q, q ≤ n ∧ s' = mv6 s q ∧ pf_sk b n q = pf_sk b n p) (fun g s' hq ih => ?_) F s ⟨p, hp, (mv6_self H.2.1).symm, rfl⟩ (by omega)
  obtain ⟨q, hqn, rfl, hsk⟩ := hq
  have Hq := H.mv q
  rw [jn_eq, Hq.2.1, Hq.2.2.1]
  rcases Nat.lt_or_ge q n with w | w
  · rw [if_neg (show ¬ nI n ≤ nI q from nI_ge w (by omega)), here6 ht hn w Hq, bo_some]
    rw [sk_y w] at hsk
    by_cases z : b q = 32
    · rw [if_pos z] at hsk
      rw [if_pos z, nm_eq, nI_1]
      exact ih _ ⟨q + 1, w, mv6_mv s q (q + 1), hsk⟩ (by
        show 100 - ((mv6 (mv6 s q) (q + 1)).1 63 15).toNatClampNeg < _
        rw [(Hq.mv (q + 1)).2.1, Hq.2.1, nI_clamp (by omega), nI_clamp (by omega)]; omega)
    · rw [if_neg z] at hsk
      rw [if_neg z, hsk]
  · rw [sk_n w] at hsk
    rw [if_pos (show nI n ≤ nI q from nI_le w (by omega)), hsk]
theorem figure6 {F t n p lo hi : Nat} {b : Nat → Int32} {s : sw_St} (ht : t < 4) (hn : n ≤ 60) (hp : p ≤ n) (hlo : lo ≤ 9) (hhi : hi ≤ 9) (H : RM s t n p b) : j_X6_figure F (nI lo) (nI hi) s = some (match pf_fig b n lo hi p with
    | none => (-9, s)
    | some f => (nI f, mv6 s (p + 1))) := by
  unfold j_X6_figure
  rw [jn_eq, H.2.1, H.2.2.1]
  rcases Nat.lt_or_ge p n with w | w
  · have el : ((48 : Int32) + nI lo).toInt64.toInt = 48 + (lo : Int) := by rw [i_l, show (48 : Int32) = nI 48 from rfl, nI_add, nI_tI (by omega)]; omega
    have eh : ((48 : Int32) + nI hi).toInt64.toInt = 48 + (hi : Int) := by rw [i_l, show (48 : Int32) = nI 48 from rfl, nI_add, nI_tI (by omega)]; omega
    rw [if_neg (fun z => by have := (nI_eq (by omega) (by omega)).mp z; omega), here6 ht hn w H, bo_some, in6r el eh, bo_some]
    by_cases z : (b p).toInt < 48 + (lo : Int) ∨ 48 + (hi : Int) < (b p).toInt
    · rw [if_pos z, if_pos rfl, fig_n (by omega)]
    · rw [if_neg z, if_neg (by decide), fig_y w (by omega) (by omega), nm_eq, nI_1]
      have H1 := H.mv (p + 1)
      rw [show sw_setC s 63 15 (nI (p + 1)) = mv6 s (p + 1) from rfl, H1.1, H1.2.1, nI_add, show (1 : Int32) = nI 1 from rfl, pk_sub (by omega), show 60 * t + (p + 1) - 1 = 60 * t + p by omega, bnd_nI (by omega) (by decide), nI_clamp (by omega), H1.2.2.2 p w, fig_sub (by omega)]
  · have e : p = n := by omega
    rw [if_pos (by rw [e]), fig_n (Or.inl w)]
theorem fg6_09 {F t n p : Nat} {b : Nat → Int32} {s : sw_St} (ht : t < 4) (hn : n ≤ 60) (hp : p ≤ n) (H : RM s t n p b) : j_X6_figure F 0 9 s = some (match pf_fig b n 0 9 p with
    | none => (-9, s)
    | some f => (nI f, mv6 s (p + 1))) := figure6 (lo := 0) (hi := 9) ht hn hp (by decide) (by decide) H
theorem fg6_03 {F t n p : Nat} {b : Nat → Int32} {s : sw_St} (ht : t < 4) (hn : n ≤ 60) (hp : p ≤ n) (H : RM s t n p b) : j_X6_figure F 0 3 s = some (match pf_fig b n 0 3 p with
    | none => (-9, s)
    | some f => (nI f, mv6 s (p + 1))) := figure6 (lo := 0) (hi := 3) ht hn hp (by decide) (by decide) H
theorem fg6_19 {F t n p : Nat} {b : Nat → Int32} {s : sw_St} (ht : t < 4) (hn : n ≤ 60) (hp : p ≤ n) (H : RM s t n p b) : j_X6_figure F 1 9 s = some (match pf_fig b n 1 9 p with
    | none => (-9, s)
    | some f => (nI f, mv6 s (p + 1))) := figure6 (lo := 1) (hi := 9) ht hn hp (by decide) (by decide) H
theorem fg6_01 {F t n p : Nat} {b : Nat → Int32} {s : sw_St} (ht : t < 4) (hn : n ≤ 60) (hp : p ≤ n) (H : RM s t n p b) : j_X6_figure F 0 1 s = some (match pf_fig b n 0 1 p with
    | none => (-9, s)
    | some f => (nI f, mv6 s (p + 1))) := figure6 (lo := 0) (hi := 1) ht hn hp (by decide) (by decide) H
def f6 (s s' : sw_St) : Prop := (∀ a, a ≠ 63 → a ≠ 73 → s'.1 a = s.1 a) ∧ (∀ i, (i < 14 ∨ 20 < i) → s'.1 63 i = s.1 63 i) ∧ s'.2 = s.2
theorem f6.rf (s : sw_St) : f6 s s := ⟨fun _ _ _ => rfl, fun _ _ => rfl, rfl⟩
theorem f6.tr {s s1 s2 : sw_St} (h : f6 s s1) (h2 : f6 s1 s2) : f6 s s2 := ⟨fun a h1 h3 => (h2.1 a h1 h3).trans (h.1 a h1 h3), fun i hi => (h2.2.1 i hi).trans (h.2.1 i hi), h2.2.2.trans h.2.2⟩
theorem f6.C {s s1 : sw_St} (h : f6 s s1) {k : Nat} (v : Int32) (hk : 14 ≤ k ∧ k ≤ 20) : f6 s (sw_setC s1 63 k v) := ⟨fun a h1 h3 => by rw [gsC_ne _ _ _ h1]; exact h.1 a h1 h3, fun i hi => by rw [gsC, if_neg (by omega)]; exact h.2.1 i hi, h.2.2⟩
theorem f6.mv {s s1 : sw_St} (h : f6 s s1) (p : Nat) : f6 s (mv6 s1 p) := h.C _ (by decide)
theorem f6.D {s s1 : sw_St} (h : f6 s s1) (k : Nat) (v : Int32) : f6 s (sw_setC s1 73 k v) := ⟨fun a h1 h3 => by rw [gsC_ne _ _ _ h3]; exact h.1 a h1 h3, fun i hi => by rw [gsC_ne _ _ _ (by decide)]; exact h.2.1 i hi, h.2.2⟩
theorem mv6_o (s : sw_St) (p : Nat) {a : Nat} (h : a ≠ 63) : (mv6 s p).1 a = s.1 a := gsC_ne _ _ _ h
theorem mv6_i (s : sw_St) (p : Nat) {i : Nat} (h : i ≠ 15) : (mv6 s p).1 63 i = s.1 63 i := by
  unfold mv6
  rw [gsC, if_neg (fun z => h z.2)]
theorem spring6 {F t n p : Nat} {b : Nat → Int32} {s : sw_St} (hF : 20000 ≤ F) (ht : t < 4) (hn : n ≤ 60) (hp : p ≤ n) (H : RM s t n p b) : ∃ s', j_X6_readsSpring F s = some (if (pf_spr b n (pf_sk b n p)).2.isSome then 1 else 0, s') ∧ RM s' t n (pf_spr b n (pf_sk b n p)).1 b ∧ (∀ v, (pf_spr b n (pf_sk b n p)).2 = some v → s'.1 63 17 = nI v.1 ∧ s'.1 63 18 = nI v.2) ∧ f6 s s' ∧ s'.1 63 20 = s.1 63 20 := by
  unfold j_X6_readsSpring
  rw [skip6 hF ht hn hp H, bd_some, jn_eq]
  obtain ⟨-, hp'⟩ := sk_r (b := b) hp
  have H0 := H.mv (pf_sk b n p)
  have fr0 := (f6.rf s).mv (pf_sk b n p)
  have z0 : (mv6 s (pf_sk b n p)).1 63 20 = s.1 63 20 := mv6_i _ _ (by decide)
  generalize hs0 : mv6 s (pf_sk b n p) = s0 at H0 fr0 z0 ⊢
  generalize hq : pf_sk b n p = q at H0 hp' ⊢
  rw [H0.2.1, H0.2.2.1]
  rcases Nat.lt_or_ge q n with w | w
  case inr =>
    have e : pf_spr b n q = (q, none) := if_neg (by omega)
    rw [if_pos (by rw [show q = n by omega]), e]
    exact ⟨s0, rfl, H0, fun v hv => absurd hv (by simp), fr0, z0⟩
  rw [if_neg (fun z => by have := (nI_eq (by omega) (by omega)).mp z; omega), here6 ht hn w H0, bo_some]
  by_cases z : b q = 119
  case neg =>
    have e : pf_spr b n q = (q, none) := if_neg (fun y => z y.2)
    rw [if_neg z, e]
    exact ⟨s0, rfl, H0, fun v hv => absurd hv (by simp), fr0, z0⟩
  have hE : pf_spr b n q = match pf_fig b n 0 9 (q + 1) with
    | none => (q + 1, none)
    | some t => match pf_fig b n 0 9 (q + 2) with
      | none => (q + 2, none)
      | some o => if 10 * t + o ≤ 60 then (match pf_fig b n 0 3 (q + 3) with
          | none => (q + 3, none)
          | some f => (q + 4, some (10 * t + o, f)))
        else (q + 1, none) := if_pos ⟨w, z⟩
  have H1 := H0.mv (q + 1)
  have zz : ∀ r, (mv6 s0 r).1 63 20 = s.1 63 20 := fun r => by rw [mv6_i _ _ (by decide), z0]
  rw [if_pos z, nm_eq, nI_1, show sw_setC s0 63 15 (nI (q + 1)) = mv6 s0 (q + 1) from rfl, fg6_09 ht hn (by omega) H1]
  cases h1 : pf_fig b n 0 9 (q + 1) with
  | none =>
    simp only [h1] at hE
    rw [hE, bd_some, jn_eq, if_pos rfl]
    dsimp only
    rw [if_pos rfl]
    exact ⟨_, rfl, H1, fun v hv => absurd hv (by simp), fr0.mv _, zz _⟩
  | some tn =>
    obtain ⟨b1, -, b2⟩ := fig_le h1
    have H2 := H1.mv (q + 2)
    simp only [h1] at hE
    rw [bd_some, jn_eq, if_neg (nI_ne9 (by omega)), mv6_mv]
    rw [mv6_mv] at H2
    rw [fg6_09 ht hn (by omega) H2]
    cases h2 : pf_fig b n 0 9 (q + 2) with
    | none =>
      simp only [h2] at hE
      rw [hE, bd_some]
      dsimp only
      rw [if_pos rfl]
      exact ⟨_, rfl, H2, fun v hv => absurd hv (by simp), fr0.mv _, zz _⟩
    | some o =>
      obtain ⟨b3, -, b4⟩ := fig_le h2
      have H3 := H2.mv (q + 3)
      simp only [h2] at hE
      rw [mv6_mv] at H3
      rw [bd_some]
      dsimp only
      rw [if_neg (nI_ne9 (by omega)), mv6_mv, show (10 : Int32) = nI 10 from rfl, pk_mul, nI_add, nm_eq]
      have H4 := H3.C (k := 17) (nI (10 * tn + o)) (by decide)
      have fr4 := (fr0.mv (q + 3)).C (k := 17) (nI (10 * tn + o)) (by decide)
      have e17 : (sw_setC (mv6 s0 (q + 3)) 63 17 (nI (10 * tn + o))).1 63 17 = nI (10 * tn + o) := by rw [gsC, if_pos ⟨rfl, rfl⟩]
      have e20 : (sw_setC (mv6 s0 (q + 3)) 63 17 (nI (10 * tn + o))).1 63 20 = s.1 63 20 := by rw [gsC, if_neg (by decide), zz]
      rw [show q + 2 + 1 = q + 3 from rfl]
      generalize hs4 : sw_setC (mv6 s0 (q + 3)) 63 17 (nI (10 * tn + o)) = s4 at H4 fr4 e17 e20 ⊢
      rw [e17]
      by_cases z2 : 10 * tn + o ≤ 60
      · rw [if_pos z2] at hE
        rw [if_pos (show nI (10 * tn + o) ≤ 60 from nI_le (b := 60) z2 (by decide)), fg6_03 ht hn (by omega) H4]
        cases h3 : pf_fig b n 0 3 (q + 3) with
        | none =>
          simp only [h3] at hE
          rw [hE, bd_some, nm_eq, jn_eq, gsC, if_pos (show 63 = 63 ∧ 18 = 18 from ⟨rfl, rfl⟩), if_pos rfl]
          dsimp only
          rw [grd_y (Or.inl rfl)]
          exact ⟨_, rfl, H4.C _ (by decide), fun v hv => absurd hv (by simp), fr4.C _ (by decide), by rw [gsC, if_neg (by decide), e20]⟩
        | some f =>
          obtain ⟨b5, -, b6⟩ := fig_le h3
          simp only [h3] at hE
          rw [hE, bd_some, nm_eq, jn_eq, gsC, if_pos (show 63 = 63 ∧ 18 = 18 from ⟨rfl, rfl⟩), if_neg (nI_ne9 (by omega))]
          dsimp only
          rw [grd_y (Or.inr rfl)]
          refine ⟨_, rfl, (H4.mv (q + 4)).C _ (by decide), fun v hv => ?_, (fr4.mv _).C _ (by decide), by rw [gsC, if_neg (by decide), mv6_i _ _ (by decide), e20]⟩
          injection hv with hv
          rw [← hv]
          exact ⟨by rw [gsC, if_neg (by decide), mv6_i _ _ (by decide), e17], by rw [gsC, if_pos ⟨rfl, rfl⟩]⟩
      · rw [if_neg z2] at hE
        rw [if_neg (show ¬ nI (10 * tn + o) ≤ 60 from nI_ge (a := 60) (by omega) (by omega)), hE, nm_eq, H4.2.1, show (2 : Int32) = nI 2 from rfl, pk_sub (by omega), show q + 3 - 2 = q + 1 by omega]
        exact ⟨_, rfl, H4.mv (q + 1), fun v hv => absurd hv (by simp), fr4.mv _, by rw [gsC, if_neg (by decide), e20]⟩
theorem stranger6 {F t n p m : Nat} {b : Nat → Int32} {s : sw_St} (ht : t < 4) (hn : n ≤ 60) (hp : p < n) (hm : m < 6) (H : RM s t n p b) (h20 : s.1 63 20 = nI m) : ∃ s', j_X6_readsStranger F s = some (if (pf_str b n p).2.isSome then 1 else 0, s') ∧ RM s' t n (pf_str b n p).1 b ∧ (∀ v, (pf_str b n p).2 = some v → s'.1 63 20 = nI (m + 1) ∧ s'.1 73 (4 * m) = nI v.1 ∧ s'.1 73 (4 * m + 1) = nI v.2.1 ∧ s'.1 73 (4 * m + 2) = nI v.2.2.1 ∧ s'.1 73 (4 * m + 3) = nI v.2.2.2) ∧ f6 s s' ∧ (∀ i, i < 4 * m → s'.1 73 i = s.1 73 i) ∧ s'.1 63 17 = s.1 63 17 ∧ s'.1 63 18 = s.1 63 18 := by
  unfold j_X6_readsStranger
  rw [here6 ht hn hp H, bo_some, kindOf6, bo_some, jn_eq]
  have hE : pf_str b n p = match pf_kind (b p) with
    | none => (p, none)
    | some k => match pf_fig b n 1 9 (p + 1) with
      | none => (p + 1, none)
      | some s => match pf_fig b n 0 1 (p + 2) with
        | none => (p + 2, none)
        | some g => match pf_fig b n 0 9 (p + 3) with
          | none => (p + 3, none)
          | some d => (p + 4, some (k, s, g, d)) := rfl
  cases h0 : pf_kind (b p) with
  | none =>
    simp only [h0] at hE
    dsimp only
    rw [if_pos rfl, hE]
    exact ⟨_, rfl, H, fun v hv => absurd hv (by simp), f6.rf s, fun _ _ => rfl, rfl, rfl⟩
  | some k =>
    have hk := kind_le h0
    simp only [h0] at hE
    dsimp only
    have mvo : ∀ q, f6 s (mv6 s q) ∧ (∀ i, i < 4 * m → (mv6 s q).1 73 i = s.1 73 i) ∧ (mv6 s q).1 63 17 = s.1 63 17 ∧ (mv6 s q).1 63 18 = s.1 63 18 := fun q => ⟨(f6.rf s).mv q, fun i _ => by rw [mv6_o _ _ (by decide)], mv6_i _ _ (by decide), mv6_i _ _ (by decide)⟩
    have H1 := H.mv (p + 1)
    rw [if_neg (nI_ne9 (by omega)), h20, if_neg (show ¬ nI m = 6 from fun z => by have := (nI_eq (b := 6) (by omega) (by decide)).mp z; omega), nm_eq, H.2.1, nI_1, show sw_setC s 63 15 (nI (p + 1)) = mv6 s (p + 1) from rfl, fg6_19 ht hn (by omega) H1]
    cases h1 : pf_fig b n 1 9 (p + 1) with
    | none =>
      simp only [h1] at hE
      rw [hE, bd_some, jn_eq, if_pos rfl]
      dsimp only
      rw [jn_eq, if_pos rfl]
      dsimp only
      rw [if_pos rfl]
      exact ⟨_, rfl, H1, fun v hv => absurd hv (by simp), mvo _⟩
    | some g1 =>
      obtain ⟨b1, -, b2⟩ := fig_le h1
      simp only [h1] at hE
      have H2 := H1.mv (p + 2)
      rw [mv6_mv] at H2
      rw [bd_some, jn_eq, if_neg (nI_ne9 (by omega)), mv6_mv, fg6_01 ht hn (by omega) H2]
      cases h2 : pf_fig b n 0 1 (p + 2) with
      | none =>
        simp only [h2] at hE
        rw [hE, bd_some]
        dsimp only
        rw [jn_eq, if_pos rfl]
        dsimp only
        rw [if_pos rfl]
        exact ⟨_, rfl, H2, fun v hv => absurd hv (by simp), mvo _⟩
      | some g2 =>
        obtain ⟨b3, -, b4⟩ := fig_le h2
        simp only [h2] at hE
        have H3 := H2.mv (p + 3)
        rw [mv6_mv] at H3
        rw [bd_some]
        dsimp only
        rw [jn_eq, if_neg (nI_ne9 (by omega)), mv6_mv, fg6_09 ht hn (by omega) H3]
        cases h3 : pf_fig b n 0 9 (p + 3) with
        | none =>
          simp only [h3] at hE
          rw [hE, bd_some]
          dsimp only
          rw [if_pos rfl]
          exact ⟨_, rfl, H3, fun v hv => absurd hv (by simp), mvo _⟩
        | some g3 =>
          obtain ⟨b5, -, b6⟩ := fig_le h3
          simp only [h3] at hE
          rw [hE, bd_some, mv6_mv]
          dsimp only
          have H4 := H.mv (p + 4)
          have c20 : (mv6 s (p + 4)).1 63 20 = nI m := by rw [mv6_i _ _ (by decide), h20]
          rw [if_neg (nI_ne9 (by omega)), show p + 3 + 1 = p + 4 from rfl, c20, show (4 : Int32) = nI 4 from rfl, pk_mul, nm_eq, show (2 : Int32) = nI 2 from rfl, show (3 : Int32) = nI 3 from rfl, nI_1, nI_add, nI_add, bnd_nI (by omega) (by decide), nI_clamp (by omega), nm_eq, bnd_nI (by omega) (by decide), nI_clamp (by omega), nm_eq, bnd_nI (by omega) (by decide), nI_clamp (by omega), nm_eq, bnd_nI (by omega) (by decide), nI_clamp (by omega), nm_eq, nm_eq]
          obtain ⟨m1, m2, m3, m4⟩ := mvo (p + 4)
          generalize hs4 : mv6 s (p + 4) = s4 at H4 c20 m1 m2 m3 m4 ⊢
          rw [gsC_ne _ _ _ (by decide), gsC_ne _ _ _ (by decide), gsC_ne _ _ _ (by decide), gsC_ne _ _ _ (by decide), c20, nI_1]
          refine ⟨_, rfl, ((((H4.D _ _).D _ _).D _ _).D _ _).C _ (by decide), fun v hv => ?_, ((((m1.D _ _).D _ _).D _ _).D _ _).C _ (by decide), fun i hi => ?_, ?_, ?_⟩
          · injection hv with hv
            rw [← hv]
            refine ⟨?_, ?_, ?_, ?_, ?_⟩
            · rw [gsC, if_pos ⟨rfl, rfl⟩]
            · rw [gsC_ne _ _ _ (by decide), gsC, if_neg (by omega), gsC, if_neg (by omega), gsC, if_neg (by omega), gsC, if_pos ⟨rfl, rfl⟩]
            · rw [gsC_ne _ _ _ (by decide), gsC, if_neg (by omega), gsC, if_neg (by omega), gsC, if_pos ⟨rfl, rfl⟩]
            · rw [gsC_ne _ _ _ (by decide), gsC, if_neg (by omega), gsC, if_pos ⟨rfl, rfl⟩]
            · rw [gsC_ne _ _ _ (by decide), gsC, if_pos ⟨rfl, rfl⟩]
          · rw [gsC_ne _ _ _ (by decide), gsC, if_neg (by omega), gsC, if_neg (by omega), gsC, if_neg (by omega), gsC, if_neg (by omega), m2 i hi]
          · rw [gsC, if_neg (by decide), gsC_ne _ _ _ (by decide), gsC_ne _ _ _ (by decide), gsC_ne _ _ _ (by decide), gsC_ne _ _ _ (by decide), m3]
          · rw [gsC, if_neg (by decide), gsC_ne _ _ _ (by decide), gsC_ne _ _ _ (by decide), gsC_ne _ _ _ (by decide), gsC_ne _ _ _ (by decide), m4]
theorem stranger6_6 {F t n p : Nat} {b : Nat → Int32} {s : sw_St} (ht : t < 4) (hn : n ≤ 60) (hp : p < n) (H : RM s t n p b) (h20 : s.1 63 20 = nI 6) : j_X6_readsStranger F s = some (0, s) := by
  unfold j_X6_readsStranger
  rw [here6 ht hn hp H, bo_some, kindOf6, bo_some, jn_eq, h20]
  cases h0 : pf_kind (b p) with
  | none =>
    dsimp only
    rw [if_pos rfl]
  | some k =>
    have := kind_le h0
    dsimp only
    rw [if_neg (nI_ne9 (by omega)), if_pos (show nI 6 = 6 from rfl)]
