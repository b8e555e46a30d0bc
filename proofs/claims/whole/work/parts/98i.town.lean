/-! a TOWN out of a TEXT -/
theorem str_p (b : Nat → Int32) (n p : Nat) : (pf_str b n p).1 ≤ p + 4 := by
  unfold pf_str
  repeat' split
  all_goals (dsimp only; omega)
theorem spr_p (b : Nat → Int32) (n p : Nat) : (pf_spr b n p).1 ≤ p + 4 := by
  unfold pf_spr
  repeat' split
  all_goals (dsimp only; omega)
theorem rest_p {b : Nat → Int32} {n c : Nat} : ∀ p, p ≤ n → (pf_rest b n c p).1 ≤ n + 4 := by
  induction c with
  | zero =>
    intro p hp
    by_cases q : p < n
    · rw [rest_0 q]; show p ≤ n + 4; omega
    · rw [rest_e (by omega)]; show p ≤ n + 4; omega
  | succ c ih =>
    intro p hp
    by_cases q : p < n
    · cases hs : (pf_str b n p).2 with
      | none => rw [rest_n q hs]; have := str_p b n p; show (pf_str b n p).1 ≤ n + 4; omega
      | some v => rw [rest_s q hs]; exact ih _ (sk_r (str_r hs).1).2
    · rw [rest_e (by omega)]; show p ≤ n + 4; omega
theorem all_p (b : Nat → Int32) (n : Nat) : (pf_all b n).1 ≤ n + 4 := by
  cases hs : (pf_spr b n (pf_sk b n 0)).2 with
  | none =>
    rw [all_n hs]
    have := spr_p b n (pf_sk b n 0)
    have := (sk_r (b := b) (Nat.zero_le n)).2
    show (pf_spr b n (pf_sk b n 0)).1 ≤ n + 4
    omega
  | some v =>
    rw [all_s hs]
    exact rest_p _ (sk_r (spr_r hs).1).2
theorem shl0 : ∀ j : Fin 7, nI 0 <<< (nI j.val &&& 31) = nI 0 := by decide +kernel
def gt_ (l : List pw_Q) (i : Nat) : Bool := (l.getD i qz).2.2.1 == 1
theorem gor {l : List pw_Q} {i g : Nat} (hi : i < 6) (hg : (l.getD i qz).2.2.1 = g) (h1 : g ≤ 1) : nI (pw_all (gt_ l) i) ||| (nI g <<< (nI i &&& 31)) = nI (pw_all (gt_ l) (i + 1)) := by
  have hS := all_lt (gt_ l) i
  have h64 : pw_all (gt_ l) i < 64 := ok64 (n := i) (by omega) hS
  have e : pw_all (gt_ l) (i + 1) = if gt_ l i then pw_all (gt_ l) i + 2 ^ i else pw_all (gt_ l) i := rfl
  rcases (show g = 0 ∨ g = 1 by omega) with rfl | rfl
  · have : gt_ l i = false := by unfold gt_; rw [hg]; rfl
    rw [this, if_neg (by decide)] at e
    rw [e, shl0 ⟨i, by omega⟩]
    show nI (pw_all (gt_ l) i) ||| 0 = nI (pw_all (gt_ l) i)
    exact Int32.or_zero
  · have : gt_ l i = true := by unfold gt_; rw [hg]; rfl
    rw [this, if_pos rfl] at e
    rw [e, show nI 1 <<< (nI i &&& 31) = nI (2 ^ i) from b_one (by omega), b_or h64 hi]
    unfold pw_set
    rw [Nat.testBit_lt_two_pow hS, if_neg (by decide)]
theorem town6 {F t n : Nat} {b : Nat → Int32} {w : Nat × Nat} {l : List pw_Q} {st : sw_St} (hF : 20000 ≤ F) (ht : t < 4) (hn : n ≤ 60) (h70 : st.1 70 t = nI n) (hb : ∀ i, i < n → st.1 71 (60 * t + i) = b i) (h : (pf_all b n).2 = some (w, l)) : ∃ s', j_X6_town F (nI t) st = some (nI l.length, s') ∧ s'.1 63 1 = nI l.length ∧ (∀ i, i < l.length → s'.1 65 i = nI (l.getD i qz).1 ∧ s'.1 66 i = nI (l.getD i qz).2.1 ∧ s'.1 67 i = nI (l.getD i qz).2.2.2) ∧ (s'.1 64 0 = nI 0 ∧ s'.1 64 1 = nI w.1 ∧ s'.1 64 2 = nI 0 ∧ s'.1 64 3 = nI 0 ∧ s'.1 64 4 = nI w.2 ∧ s'.1 64 5 = nI 0 ∧ s'.1 64 6 = nI (pw_all (gt_ l) l.length)) ∧ (∀ k, k < 3 → s'.1 64 (207 * (1 + k)) = -1) ∧ (∀ a, a < 63 ∨ 67 < a → a ≠ 73 → s'.1 a = st.1 a) ∧ (∀ i, i ≠ 1 → i < 14 → s'.1 63 i = st.1 63 i) ∧ s'.2 = st.2 := by
  obtain ⟨s8, j8, g8, p8⟩ := read6 (F := F) (b := b) hF ht hn h70 hb
  obtain ⟨h20, h17, h18, hd⟩ := p8 w l h
  obtain ⟨o1, o2, o3, o4, o5⟩ := all_ok h
  have hans : pf_ans (pf_all b n) = -9 := by unfold pf_ans; rw [h]
  unfold j_X6_town
  rw [isText6_y ht, bo_some, if_neg (by decide), bnd_nI ht (by decide), nI_clamp (show t < 2 ^ 31 by omega), h70, if_pos (show (0 : Int32) ≤ nI n from nI_pos' (by omega)), j8, bd_some, hans, if_pos rfl, nm_eq, h20]
  generalize hP : (fun s' : sw_St => s'.1 63 1 = nI l.length ∧ (∀ i, i < l.length → s'.1 65 i = nI (l.getD i qz).1 ∧ s'.1 66 i = nI (l.getD i qz).2.1 ∧ s'.1 67 i = nI (l.getD i qz).2.2.2) ∧ (s'.1 64 0 = nI 0 ∧ s'.1 64 1 = nI w.1 ∧ s'.1 64 2 = nI 0 ∧ s'.1 64 3 = nI 0 ∧ s'.1 64 4 = nI w.2 ∧ s'.1 64 5 = nI 0 ∧ s'.1 64 6 = nI (pw_all (gt_ l) l.length)) ∧ (∀ k, k < 3 → s'.1 64 (207 * (1 + k)) = -1) ∧ (∀ a, a < 63 ∨ 67 < a → a ≠ 73 → s'.1 a = st.1 a) ∧ (∀ i, i ≠ 1 → i < 14 → s'.1 63 i = st.1 63 i) ∧ s'.2 = st.2) = P
  have hPi : ∀ s' : sw_St, P s' → s'.1 63 1 = nI l.length ∧ (∀ i, i < l.length → s'.1 65 i = nI (l.getD i qz).1 ∧ s'.1 66 i = nI (l.getD i qz).2.1 ∧ s'.1 67 i = nI (l.getD i qz).2.2.2) ∧ (s'.1 64 0 = nI 0 ∧ s'.1 64 1 = nI w.1 ∧ s'.1 64 2 = nI 0 ∧ s'.1 64 3 = nI 0 ∧ s'.1 64 4 = nI w.2 ∧ s'.1 64 5 = nI 0 ∧ s'.1 64 6 = nI (pw_all (gt_ l) l.length)) ∧ (∀ k, k < 3 → s'.1 64 (207 * (1 + k)) = -1) ∧ (∀ a, a < 63 ∨ 67 < a → a ≠ 73 → s'.1 a = st.1 a) ∧ (∀ i, i ≠ 1 → i < 14 → s'.1 63 i = st.1 63 i) ∧ s'.2 = st.2 := fun s' q => by rw [← hP] at q; exact q
  suffices hsuf : ∀ o : Option (Int32 × sw_St), (∃ s', o = some (nI l.length, s') ∧ P s') → ∃ s', o = some (nI l.length, s') ∧ s'.1 63 1 = nI l.length ∧ (∀ i, i < l.length → s'.1 65 i = nI (l.getD i qz).1 ∧ s'.1 66 i = nI (l.getD i qz).2.1 ∧ s'.1 67 i = nI (l.getD i qz).2.2.2) ∧ (s'.1 64 0 = nI 0 ∧ s'.1 64 1 = nI w.1 ∧ s'.1 64 2 = nI 0 ∧ s'.1 64 3 = nI 0 ∧ s'.1 64 4 = nI w.2 ∧ s'.1 64 5 = nI 0 ∧ s'.1 64 6 = nI (pw_all (gt_ l) l.length)) ∧ (∀ k, k < 3 → s'.1 64 (207 * (1 + k)) = -1) ∧ (∀ a, a < 63 ∨ 67 < a → a ≠ 73 → s'.1 a = st.1 a) ∧ (∀ i, i ≠ 1 → i < 14 → s'.1 63 i = st.1 63 i) ∧ s'.2 = st.2 by
    apply hsuf
    obtain ⟨s10, hs10⟩ : ∃ s, s = sw_setC s8 63 1 (nI l.length) := ⟨_, rfl⟩
    rw [← hs10]
    refine lz2_ind (Φ := fun o => ∃ s', o = some (nI l.length, s') ∧ P s') (fun x _ => 1000 - x.toNatClampNeg) (fun x s => ∃ i, i ≤ 207 ∧ x = nI i ∧ s = flS s10 64 0 i 0) (fun g x s hp ih => ?_) F 0 s10 ⟨0, by omega, rfl, (flS_0 _ _ _ _).symm⟩ (by show 1000 - 0 < F; omega)
    obtain ⟨i, hi, rfl, rfl⟩ := hp
    rcases Nat.lt_or_ge i 207 with q | q
    · rw [if_neg (show ¬ (207 : Int32) ≤ nI i from nI_ge q (by decide)), bnd_nI (by omega) (by decide), nm_eq, nm_eq, nI_clamp (by omega), nI_1]
      exact ih _ _ ⟨i + 1, by omega, rfl, by rw [← flS_s, Nat.zero_add]⟩ (by rw [nI_clamp (by omega), nI_clamp (by omega)]; omega)
    have e207 : i = 207 := by omega
    subst e207
    rw [if_pos (show (207 : Int32) ≤ nI 207 by decide), nm_eq, nm_eq]
    obtain ⟨s11, hs11⟩ : ∃ s, s = flS s10 64 0 207 0 := ⟨_, rfl⟩
    rw [← hs11]
    have k11 : ∀ a, a ≠ 64 → s11.1 a = s10.1 a := fun a ha => by rw [hs11]; funext j; rw [flS_at, if_neg (fun z => ha z.1)]
    have z11 : ∀ j, j < 207 → s11.1 64 j = 0 := fun j hj => by rw [hs11, flS_at, if_pos (by omega)]
    rw [gsC_ne _ _ _ (by decide), k11 63 (by decide)]
    have e10 : ∀ j, j ≠ 1 → s10.1 63 j = s8.1 63 j := fun j hj => by rw [hs10, gsC, if_neg (fun z => hj z.2)]
    rw [e10 17 (by decide), e10 18 (by decide), h17, h18]
    obtain ⟨sB, hsB⟩ : ∃ s, s = sw_setC (sw_setC s11 64 1 (nI w.1)) 64 4 (nI w.2) := ⟨_, rfl⟩
    rw [← hsB]
    have kB : ∀ a, a ≠ 64 → sB.1 a = s10.1 a := fun a ha => by rw [hsB, gsC_ne _ _ _ ha, gsC_ne _ _ _ ha, k11 a ha]
    have cB : sB.1 64 1 = nI w.1 ∧ sB.1 64 4 = nI w.2 ∧ ∀ j, j ≠ 1 → j ≠ 4 → j < 207 → sB.1 64 j = nI 0 := by
      refine ⟨?_, ?_, fun j h1 h4 hj => ?_⟩
      · rw [hsB, gsC, if_neg (by decide), gsC, if_pos ⟨rfl, rfl⟩]
      · rw [hsB, gsC, if_pos ⟨rfl, rfl⟩]
      · rw [hsB, gsC, if_neg (fun z => h4 z.2), gsC, if_neg (fun z => h1 z.2), z11 j hj]; rfl
    have lB : sB.2 = st.2 := by rw [hsB, gsC2, gsC2, hs11, hs10]; exact g8.2.2
    have e63 : s10.1 63 1 = nI l.length := by rw [hs10, gsC, if_pos ⟨rfl, rfl⟩]
    have d73 : ∀ j, s10.1 73 j = s8.1 73 j := fun j => by rw [hs10, gsC_ne _ _ _ (by decide)]
    refine lz2_ind (Φ := fun o => ∃ s', o = some (nI l.length, s') ∧ P s') (fun x _ => 1000 - x.toNatClampNeg) (fun x s => ∃ i, i ≤ l.length ∧ x = nI i ∧ (∀ j, j < i → s.1 65 j = nI (l.getD j qz).1 ∧ s.1 66 j = nI (l.getD j qz).2.1 ∧ s.1 67 j = nI (l.getD j qz).2.2.2) ∧ s.1 64 6 = nI (pw_all (gt_ l) i) ∧ (∀ j, j ≠ 6 → s.1 64 j = sB.1 64 j) ∧ (∀ a, a < 64 ∨ 67 < a → s.1 a = sB.1 a) ∧ s.2 = sB.2) (fun g x s hp ih => ?_) F 0 sB ⟨0, Nat.zero_le _, rfl, fun j hj => absurd hj (Nat.not_lt_zero j), cB.2.2 6 (by decide) (by decide) (by decide), fun _ _ => rfl, fun _ _ => rfl, rfl⟩ (by show 1000 - 0 < F; omega)
    obtain ⟨i, hi, rfl, p1, p2, p3, p4, p5⟩ := hp
    rw [p4 63 (by decide), kB 63 (by decide), e63]
    rcases Nat.lt_or_ge i l.length with q | q
    · obtain ⟨q1, q2, q3, q4⟩ := hd i q
      obtain ⟨y1, y2, y3, y4, y5⟩ := o5 i q
      have e1 : (4 : Int32) * nI i + 1 = nI (4 * i + 1) := by rw [show (4 : Int32) = nI 4 from rfl, pk_mul, nI_1]
      have e2 : (4 : Int32) * nI i + 2 = nI (4 * i + 2) := by rw [show (4 : Int32) = nI 4 from rfl, pk_mul]; exact nI_add _ 2
      have e3 : (4 : Int32) * nI i + 3 = nI (4 * i + 3) := by rw [show (4 : Int32) = nI 4 from rfl, pk_mul]; exact nI_add _ 3
      have e0 : (4 : Int32) * nI i = nI (4 * i) := pk_mul 4 i
      have c73 : ∀ j, s.1 73 j = s8.1 73 j := fun j => by rw [p4 73 (by decide), kB 73 (by decide), d73]
      rw [if_neg (show ¬ nI l.length ≤ nI i from nI_ge q (by omega)), e1, e2, e3, e0, nI_clamp (show i < 2 ^ 31 by omega), nI_clamp (show 4 * i < 2 ^ 31 by omega), nI_clamp (show 4 * i + 1 < 2 ^ 31 by omega), nI_clamp (show 4 * i + 2 < 2 ^ 31 by omega), nI_clamp (show 4 * i + 3 < 2 ^ 31 by omega), bnd_nI (by omega) (by decide), bnd_nI (by omega) (by decide), nm_eq, bnd_nI (by omega) (by decide), bnd_nI (by omega) (by decide), nm_eq, bnd_nI (by omega) (by decide), nm_eq, bnd_nI (by omega) (by decide), bnd_nI (by omega) (by decide), nm_eq, nm_eq, nI_1]
      obtain ⟨sa, hsa⟩ : ∃ x, x = sw_setC s 65 i (s.1 73 (4 * i)) := ⟨_, rfl⟩
      rw [← hsa]
      obtain ⟨sb, hsb⟩ : ∃ x, x = sw_setC sa 66 i (sa.1 73 (4 * i + 1)) := ⟨_, rfl⟩
      rw [← hsb]
      have hsb73 : ∀ j, sb.1 73 j = s8.1 73 j := fun j => by rw [hsb, gsC_ne _ _ _ (by decide), hsa, gsC_ne _ _ _ (by decide), c73]
      have hsb64 : ∀ j, sb.1 64 j = s.1 64 j := fun j => by rw [hsb, gsC_ne _ _ _ (by decide), hsa, gsC_ne _ _ _ (by decide)]
      rw [hsb64 6, hsb73, q3, p2, gor (by omega) rfl y4]
      obtain ⟨sc, hsc⟩ : ∃ x, x = sw_setC sb 64 6 (nI (pw_all (gt_ l) (i + 1))) := ⟨_, rfl⟩
      rw [← hsc]
      have v65 : s.1 73 (4 * i) = nI (l.getD i qz).1 := by rw [c73, q1]
      have v66 : sa.1 73 (4 * i + 1) = nI (l.getD i qz).2.1 := by rw [hsa, gsC_ne _ _ _ (by decide), c73, q2]
      have v67 : sc.1 73 (4 * i + 3) = nI (l.getD i qz).2.2.2 := by rw [hsc, gsC_ne _ _ _ (by decide), hsb73, q4]
      refine ih _ _ ⟨i + 1, q, rfl, fun j hj => ⟨?_, ?_, ?_⟩, ?_, fun j hj => ?_, fun a ha => ?_, by rw [gsC2, hsc, gsC2, hsb, gsC2, hsa, gsC2, p5]⟩ (by rw [nI_clamp (by omega), nI_clamp (by omega)]; omega)
      · rw [gsC_ne _ _ _ (by decide), hsc, gsC_ne _ _ _ (by decide), hsb, gsC_ne _ _ _ (by decide), hsa, gsC]
        by_cases e : j = i
        · rw [if_pos ⟨rfl, e⟩, v65, e]
        · rw [if_neg (fun z => e z.2)]; exact (p1 j (by omega)).1
      · rw [gsC_ne _ _ _ (by decide), hsc, gsC_ne _ _ _ (by decide), hsb, gsC, v66]
        by_cases e : j = i
        · rw [if_pos ⟨rfl, e⟩, e]
        · rw [if_neg (fun z => e z.2), hsa, gsC_ne _ _ _ (by decide)]; exact (p1 j (by omega)).2.1
      · rw [gsC, v67]
        by_cases e : j = i
        · rw [if_pos ⟨rfl, e⟩, e]
        · rw [if_neg (fun z => e z.2), hsc, gsC_ne _ _ _ (by decide), hsb, gsC_ne _ _ _ (by decide), hsa, gsC_ne _ _ _ (by decide)]; exact (p1 j (by omega)).2.2
      · rw [gsC_ne _ _ _ (by decide), hsc, gsC, if_pos ⟨rfl, rfl⟩]
      · rw [gsC_ne _ _ _ (by decide), hsc, gsC, if_neg (fun z => hj z.2), hsb64, p3 j hj]
      · rw [gsC_ne _ _ _ (by omega), hsc, gsC_ne _ _ _ (by omega), hsb, gsC_ne _ _ _ (by omega), hsa, gsC_ne _ _ _ (by omega), p4 a ha]
    have e9 : i = l.length := by omega
    subst e9
    rw [if_pos (show nI l.length ≤ nI l.length from nI_le (Nat.le_refl _) (by omega))]
    refine lz2_ind (Φ := fun o => ∃ s', o = some (nI l.length, s') ∧ P s') (fun x _ => 1000 - x.toNatClampNeg) (fun x s' => ∃ k, 1 ≤ k ∧ k ≤ 4 ∧ x = nI k ∧ (∀ j, 1 ≤ j → j < k → s'.1 64 (207 * j) = -1) ∧ (∀ j, j < 207 → s'.1 64 j = s.1 64 j) ∧ (∀ a, a ≠ 64 → s'.1 a = s.1 a) ∧ s'.2 = s.2) (fun g x s' hp ih => ?_) F 1 s ⟨1, by omega, by omega, rfl, fun j h1 h2 => absurd h1 (by omega), fun _ _ => rfl, fun _ _ => rfl, rfl⟩ (by show 1000 - 1 < F; omega)
    obtain ⟨k, hk1, hk4, rfl, r1, r2, r3, r4⟩ := hp
    rcases Nat.lt_or_ge k 4 with y | y
    · have e0 : (207 : Int32) * nI k + 0 = nI (207 * k) := by rw [show (207 : Int32) = nI 207 from rfl, pk_mul]; exact nI_add _ 0
      rw [if_neg (show ¬ (4 : Int32) ≤ nI k from nI_ge (b := 4) y (by decide)), e0, bnd_nI (by omega) (by decide), nI_clamp (show 207 * k < 2 ^ 31 by omega), nm_eq, nm_eq, nI_1]
      refine ih _ _ ⟨k + 1, by omega, by omega, rfl, fun j h1 h2 => ?_, fun j hj => ?_, fun a ha => ?_, r4⟩ (by rw [nI_clamp (by omega), nI_clamp (by omega)]; omega)
      · rw [gsC]
        by_cases e : j = k
        · rw [if_pos ⟨rfl, by rw [e]⟩]
        · rw [if_neg (by omega)]; exact r1 j h1 (by omega)
      · rw [gsC, if_neg (by omega)]; exact r2 j hj
      · rw [gsC_ne _ _ _ ha]; exact r3 a ha
    have e4 : k = 4 := by omega
    subst e4
    have f63 : s'.1 63 = s10.1 63 := by rw [r3 63 (by decide), p4 63 (by decide), kB 63 (by decide)]
    rw [if_pos (show (4 : Int32) ≤ nI 4 by decide), f63, e63]
    refine ⟨s', rfl, ?_⟩
    rw [← hP]
    refine ⟨by rw [f63, e63], fun j hj => ?_, ⟨?_, ?_, ?_, ?_, ?_, ?_, ?_⟩, fun k hk => ?_, fun a ha h73 => ?_, fun j h1 h14 => ?_, by rw [r4, p5, lB]⟩
    · rw [r3 65 (by decide), r3 66 (by decide), r3 67 (by decide)]
      exact p1 j hj
    · rw [r2 0 (by decide), p3 0 (by decide)]; exact cB.2.2 0 (by decide) (by decide) (by decide)
    · rw [r2 1 (by decide), p3 1 (by decide)]; exact cB.1
    · rw [r2 2 (by decide), p3 2 (by decide)]; exact cB.2.2 2 (by decide) (by decide) (by decide)
    · rw [r2 3 (by decide), p3 3 (by decide)]; exact cB.2.2 3 (by decide) (by decide) (by decide)
    · rw [r2 4 (by decide), p3 4 (by decide)]; exact cB.2.1
    · rw [r2 5 (by decide), p3 5 (by decide)]; exact cB.2.2 5 (by decide) (by decide) (by decide)
    · rw [r2 6 (by decide), p2]
    · exact r1 (1 + k) (by omega) (by omega)
    · rw [r3 a (by omega), p4 a (by omega), kB a (by omega), hs10, gsC_ne _ _ _ (by omega), g8.1 a (by omega) h73]
    · rw [f63, e10 j h1, g8.2.1 j (by omega)]
  intro o ho
  obtain ⟨s', e1, e2⟩ := ho
  exact ⟨s', e1, hPi s' e2⟩
theorem o_9 {F : Nat} (hF : 20000 ≤ F) : sm_9 II F := by
  intro a1 st hI
  rcases nix a1 4 with h | ⟨t, ht, rfl⟩
  · unfold j_X5_town j_X6_town
    exact ⟨-1, st, st, by rw [isText5_n h]; rfl, by rw [isText6_n h]; rfl, hI⟩
  rcases IT_size hI ht with ⟨s5, s6⟩ | ⟨n, hn, s5, s6⟩
  · unfold j_X5_town j_X6_town
    rw [isText5_y ht, bo_some, if_neg (by decide), bnd_nI ht (by decide), nI_clamp (show t < 2 ^ 31 by omega)]
    refine ⟨-3, fd5 st 1, fd6 (fd5 st 1) 1, ?_, ?_, II_fd hI (by decide)⟩
    · rw [s5, if_neg (by decide), show (1 : Int32) = nI 1 from rfl, found5 (by decide)]
      rfl
    · rw [isText6_y ht, bo_some, if_neg (by decide), bnd_nI ht (by decide), fd5_o (by decide) (by decide), s6, if_neg (by decide), show (1 : Int32) = nI 1 from rfl, find6 (by decide)]
      rfl
  obtain ⟨s1, j1, g1, p1⟩ := read5 (F := F) (b := st.1 (10 + t)) hF ht hn (fun i _ => rfl)
  have hb : ∀ i, i < n → s1.1 71 (60 * t + i) = st.1 (10 + t) i := fun i hi => by rw [g1.1 71 (by decide) (by decide)]; exact ((hI.2.1 t ht).2.2 i (by omega)).symm
  cases hz : (pf_all (st.1 (10 + t)) n).2 with
  | none =>
    have hans : pf_ans (pf_all (st.1 (10 + t)) n) = nI (pf_all (st.1 (10 + t)) n).1 := by unfold pf_ans; rw [hz]
    have hne : ¬ pf_ans (pf_all (st.1 (10 + t)) n) = -9 := by
      rw [hans]
      have := all_p (st.1 (10 + t)) n
      exact nI_ne9 (by omega)
    obtain ⟨s2, j2, g2, -⟩ := read6 (F := F) (b := st.1 (10 + t)) (st := s1) hF ht hn (by rw [g1.1 70 (by decide) (by decide)]; exact s6) hb
    unfold j_X5_town j_X6_town
    rw [isText5_y ht, bo_some, if_neg (by decide), bnd_nI ht (by decide), nI_clamp (show t < 2 ^ 31 by omega)]
    refine ⟨-4, s1, s2, ?_, ?_, ?_⟩
    · rw [s5, if_pos (show (0 : Int32) ≤ nI n from nI_pos' (by omega)), bnd_nI ht (by decide), bnd_nI ht (by decide), j1, bd_some, if_neg hne]
    · rw [isText6_y ht, bo_some, if_neg (by decide), bnd_nI ht (by decide), g1.1 70 (by decide) (by decide), s6, if_pos (show (0 : Int32) ≤ nI n from nI_pos' (by omega)), j2, bd_some, if_neg hne]
    · refine II_scr hI (fun a ha => ?_) ?_ ?_ ?_ ?_ (fun i hi => ?_) ?_ ?_
      · simp only [sN, List.mem_cons, not_or, List.mem_nil_iff, or_false] at ha
        rw [g2.1 a (by omega) (by omega), g1.1 a (by omega) (by omega)]
      · rw [g2.1 0 (by decide) (by decide), g1.1 0 (by decide) (by decide)]
      · rw [g2.1 0 (by decide) (by decide), g1.1 0 (by decide) (by decide), g2.2.1 9 (by decide), g1.1 63 (by decide) (by decide)]
        exact hI.2.2.1.1
      · rw [g2.2.1 1 (by decide), g1.1 63 (by decide) (by decide)]
      · rw [g2.2.1 12 (by decide), g1.1 63 (by decide) (by decide)]
      · rw [g2.1 64 (by decide) (by decide), g1.1 64 (by decide) (by decide)]
      · rw [g2.2.2, g1.2]
        exact hI.2.2.1.2.2.2.1
      · rw [g2.2.2, g1.2]
        exact hI.2.2.1.2.2.2.2
  | some wl =>
    obtain ⟨w, l⟩ := wl
    have hans : pf_ans (pf_all (st.1 (10 + t)) n) = -9 := by unfold pf_ans; rw [hz]
    obtain ⟨h0, h5, h6, hd⟩ := p1 w l hz
    obtain ⟨o1, o2, o3, o4, o5⟩ := all_ok hz
    obtain ⟨s13, hs13⟩ : ∃ s, s = sw_setC (sw_setC (sw_setC (sw_setC (sw_setC (sw_setC s1 22 7 (s1.1 22 5)) 22 8 (s1.1 22 6)) 22 9 0) 22 10 0) 22 11 0) 22 14 0 := ⟨_, rfl⟩
    have hb13 : j_X4_begin F 22 s1 = some ((), s13) := by rw [hs13]; exact begin5
    have k13 : ∀ a, a ≠ 22 → s13.1 a = s1.1 a := fun a ha => by rw [hs13, gsC_ne _ _ _ ha, gsC_ne _ _ _ ha, gsC_ne _ _ _ ha, gsC_ne _ _ _ ha, gsC_ne _ _ _ ha, gsC_ne _ _ _ ha]
    have l13 : s13.2 = s1.2 := by rw [hs13]; rfl
    obtain ⟨G, hG⟩ : ∃ G, G = pw_all (gt_ l) l.length := ⟨_, rfl⟩
    have hG64 : G < 64 := by rw [hG]; exact ok64 o3 (all_lt _ _)
    have hGb : ∀ i, i < l.length → nI (l.getD i qz).2.2.1 = nI (if G.testBit i then 1 else 0) := fun i hi => by
      have hg := (o5 i hi).2.2.2.1
      rw [hG, all_b, decide_eq_true hi, Bool.true_and]
      unfold gt_
      rcases (show (l.getD i qz).2.2.1 = 0 ∨ (l.getD i qz).2.2.1 = 1 by omega) with e | e
      · rw [e]; rfl
      · rw [e]; rfl
    have hct : pw_ct s13 22 l.length (fun i => (l.getD i qz).1) (fun i => (l.getD i qz).2.1) (fun i => (l.getD i qz).2.2.2) w.1 w.2 G (fun _ => (0, 0)) 0 (w.1, 0, 0, w.2, 0) := by
      refine ⟨?_, ?_, ?_, ?_, ?_, ?_, ?_, ?_, ?_, fun i hi => ?_, fun k hk => absurd hk (Nat.not_lt_zero k)⟩
      · rw [hs13]; simp only [gsC]; ((try simp only [true_and, and_true, if_true]); repeat (first | rw [if_pos (by omega)] | rw [if_neg (by omega)])); exact h0
      · rw [hs13]; simp only [gsC]; ((try simp only [true_and, and_true, if_true]); repeat (first | rw [if_pos (by omega)] | rw [if_neg (by omega)])); exact h5
      · rw [hs13]; simp only [gsC]; ((try simp only [true_and, and_true, if_true]); repeat (first | rw [if_pos (by omega)] | rw [if_neg (by omega)])); exact h6
      · rw [hs13]; simp only [gsC]; ((try simp only [true_and, and_true, if_true]); repeat (first | rw [if_pos (by omega)] | rw [if_neg (by omega)])); exact h5
      · rw [hs13]; simp only [gsC]; ((try simp only [true_and, and_true, if_true]); repeat (first | rw [if_pos (by omega)] | rw [if_neg (by omega)])); exact h6
      · rw [hs13]; simp only [gsC]; ((try simp only [true_and, and_true, if_true]); repeat (first | rw [if_pos (by omega)] | rw [if_neg (by omega)])); rfl
      · rw [hs13]; simp only [gsC]; ((try simp only [true_and, and_true, if_true]); repeat (first | rw [if_pos (by omega)] | rw [if_neg (by omega)])); rfl
      · rw [hs13]; simp only [gsC]; ((try simp only [true_and, and_true, if_true]); repeat (first | rw [if_pos (by omega)] | rw [if_neg (by omega)])); rfl
      · rw [hs13]; simp only [gsC]; ((try simp only [true_and, and_true, if_true]); repeat (first | rw [if_pos (by omega)] | rw [if_neg (by omega)])); rfl
      · obtain ⟨d1, d2, d3, d4⟩ := hd i hi
        rw [k13 (22 + 1) (by decide), k13 (22 + 2) (by decide), k13 (22 + 3) (by decide), k13 (22 + 4) (by decide), ← hGb i hi]
        exact ⟨d1, d2, d3, d4⟩
    obtain ⟨s15, j15, c15, k15, l15⟩ := take5 (F := F) (t := 15) (o := 22) (by omega) o3 (by omega) hct
    obtain ⟨s17, hs17⟩ : ∃ s, s = flS s15 51 0 3 0 := ⟨_, rfl⟩
    have k17 : ∀ a, a ≠ 51 → s17.1 a = s15.1 a := fun a ha => by rw [hs17]; funext j; rw [flS_at, if_neg (fun z => ha z.1)]
    have e17 : ∀ a, (a < 15 ∨ 28 < a) → a ≠ 51 → a ≠ 52 → s17.1 a = st.1 a := fun a h1 h2 h3 => by rw [k17 a h2, k15 a (by omega), k13 a (by omega), g1.1 a (by omega) h3]
    have l17 : s17.2.1 = st.2.1 := by rw [hs17]; show s15.2.1 = _; rw [l15, l13, g1.2]
    obtain ⟨s2, j2, m1, m2, ⟨m30, m31, m32, m33, m34, m35, m36⟩, m4, m5, m6, m7⟩ := town6 (F := F) (b := st.1 (10 + t)) (st := s17) hF ht hn (by rw [e17 70 (by decide) (by decide) (by decide)]; exact s6) (fun i hi => by rw [e17 71 (by decide) (by decide) (by decide)]; exact ((hI.2.1 t ht).2.2 i (by omega)).symm) hz
    refine ⟨nI l.length, s17, s2, ?_, j2, ?_⟩
    · unfold j_X5_town
      rw [isText5_y ht, bo_some, if_neg (by decide), bnd_nI ht (by decide), nI_clamp (show t < 2 ^ 31 by omega), s5, if_pos (show (0 : Int32) ≤ nI n from nI_pos' (by omega)), bnd_nI ht (by decide), bnd_nI ht (by decide), j1, bd_some, if_pos hans, hb13, bd_some, j15, bd_some]
      refine Eq.trans (fl_loop (K := fun s => some (s.1 15 0, s)) 51 0 3 (vp_nar .boolean 0) s15 (by decide) (fun f i s hi => ?_) (fun f s => ?_) F (by omega)) ?_
      · rw [if_neg (show ¬ (3 : Int32) ≤ nI i from nI_ge hi (by decide)), bnd_nI hi (by decide), nI_clamp (by omega), nm_eq, nm_eq, nI_1, Nat.zero_add]
      · rw [if_pos (show (3 : Int32) ≤ nI 3 by decide)]
      · show some ((flS s15 51 0 3 0).1 15 0, flS s15 51 0 3 0) = _
        rw [← hs17, k17 15 (by decide), c15.1]
    · have e2 : ∀ a, (a < 15 ∨ 28 < a) → a ≠ 51 → a ≠ 52 → (a < 63 ∨ 67 < a) → a ≠ 73 → s2.1 a = st.1 a := fun a h1 h2 h3 h4 h5 => by rw [m5 a h4 h5, e17 a h1 h2 h3]
      have e63 : ∀ j, j ≠ 1 → j < 14 → s2.1 63 j = st.1 63 j := fun j h1 h2 => by rw [m6 j h1 h2, e17 63 (by decide) (by decide) (by decide)]
      refine ⟨IR_c (fun a ha => ?_) hI.1, IT_c (fun a ha => ?_) hI.2.1, ⟨?_, ?_, fun f hf => ?_, ?_, ?_⟩, l.length, (fun i => (l.getD i qz).1), (fun i => (l.getD i qz).2.1), (fun i => (l.getD i qz).2.2.2), w.1, w.2, ⟨o3, fun i hi => ?_, o1, o2⟩, ⟨m1, fun i hi => ?_⟩, ⟨G, (fun _ => (0, 0)), 0, ⟨hG64, by decide, fun k hk => absurd hk (Nat.not_lt_zero k)⟩, ?_, ?_⟩, fun k hk => Or.inl ⟨?_, m4 k hk⟩⟩
      · obtain ⟨z1, z2, z3, z4, z5⟩ := (by decide : ∀ a, a ∈ [2, 3, 4, 5, 6, 7, 8, 68, 69] → (a < 15 ∨ 28 < a) ∧ a ≠ 51 ∧ a ≠ 52 ∧ (a < 63 ∨ 67 < a) ∧ a ≠ 73) a ha
        exact e2 a z1 z2 z3 z4 z5
      · obtain ⟨z1, z2, z3, z4, z5⟩ := (by decide : ∀ a, a ∈ [10, 11, 12, 13, 14, 70, 71] → (a < 15 ∨ 28 < a) ∧ a ≠ 51 ∧ a ≠ 52 ∧ (a < 63 ∨ 67 < a) ∧ a ≠ 73) a ha
        exact e2 a z1 z2 z3 z4 z5
      · rw [e2 0 (by decide) (by decide) (by decide) (by decide) (by decide), e63 9 (by decide) (by decide)]
        exact hI.2.2.1.1
      · rw [e2 0 (by decide) (by decide) (by decide) (by decide) (by decide), e63 12 (by decide) (by decide)]
        exact hI.2.2.1.2.1
      · rw [e2 62 (by decide) (by decide) (by decide) (by decide) (by decide), e2 72 (by decide) (by decide) (by decide) (by decide) (by decide)]
        exact hI.2.2.1.2.2.1 f hf
      · rw [m7, l17]
        exact hI.2.2.1.2.2.2.1
      · rw [m7, l17]
        exact hI.2.2.1.2.2.2.2
      · obtain ⟨y1, y2, y3, y4, y5⟩ := o5 i hi
        exact ⟨y1, y2, y3, y5⟩
      · exact m2 i hi
      · exact ct_c (fun j hj => by rw [m5 _ (by omega) (by omega), k17 _ (by omega)]) c15
      · refine ⟨m30, m31, m32, m33, m34, m35, ?_, fun k hk => absurd hk (Nat.not_lt_zero k)⟩
        rw [m36, hG]
      · rw [m5 51 (by decide) (by decide), hs17, flS_at, if_pos (by omega)]
