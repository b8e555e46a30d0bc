def hx31 (f : Nat → Int32) (i : Nat) (x : Int64) : Int64 := 31 * x + (f i).toInt64
/-- a row or a text into the digest -/
def hxRow (z : Nat → Int32) (f : Nat → Nat → Int32) (r : Nat) (x : Int64) : Int64 := fH (hx31 (f r)) 0 (z r).toNatClampNeg (31 * x + (z r).toInt64)
theorem neg_clamp : (-1 : Int32).toNatClampNeg = 0 := by decide
theorem hx_row {β : Type} {F m : Nat} {z : Int32} {x : Int64} {f : Nat → Int32} {K : Int64 → Option β} {body : (Int64 → Int32 → Option β) → Int64 → Int32 → Option β} (hF : 20000 ≤ F) (hm : m ≤ 60) (hz : z = -1 ∨ ∃ n : Nat, n ≤ m ∧ z = nI n) (hb : ∀ g x i, ¬ z ≤ nI i → i < z.toNatClampNeg → i < m → body g x (nI i) = g (31 * x + (f i).toInt64) (nI (i + 1))) (he : ∀ g x i, z ≤ nI i → body g x (nI i) = K x) : lz2 body F x 0 = K (fH (hx31 f) 0 z.toNatClampNeg x) := by
  rcases hz with rfl | ⟨n, hn, rfl⟩
  · rw [neg_clamp]
    exact fold_loop (hx31 f) 0 0 (fun g x i h1 h2 => absurd h2 (by omega)) (fun g x => he g x 0 (by decide)) F x (by omega)
  · rw [nI_clamp (by omega)] at hb ⊢
    exact fold_loop (hx31 f) 0 n (fun g x i h1 h2 => hb g x i (nI_ge (by omega) (by omega)) (by omega) (by omega)) (fun g x => he g x (0 + n) (by rw [Nat.zero_add]; exact nI_le (Nat.le_refl n) (by omega))) F x (by omega)
theorem div6 {k : Nat} (h : k < 36) : nI k / 6 = nI (k / 6) ∧ nI k - nI k / 6 * 6 = nI (k % 6) := (by decide +kernel : ∀ k : Fin 36, nI k.val / 6 = nI (k.val / 6) ∧ nI k.val - nI k.val / 6 * 6 = nI (k.val % 6)) ⟨k, h⟩
theorem fH_sh {H K : Nat → Int64 → Int64} {a b n : Nat} {x : Int64} (h : ∀ j x, j < n → H (a + j) x = K (b + j) x) : fH H a n x = fH K b n x := by
  induction n with
  | zero => rfl
  | succ n ih =>
    show H (a + n) (fH H a n x) = K (b + n) (fH K b n x)
    rw [ih (fun j x hj => h j x (by omega)), h n _ (by omega)]
theorem fH_6g (h : Int32 → Int64 → Int64) (f : Nat → Nat → Int32) (n : Nat) (x : Int64) : fH (fun i y => fH (fun k => h (f i k)) 0 6 y) 0 n x = fH (fun k => h (f (k / 6) (k % 6))) 0 (6 * n) x := by
  induction n with
  | zero => rfl
  | succ n ih =>
    have e := fH_a (fun k => h (f (k / 6) (k % 6))) 0 (6 * n) 6 x
    rw [← ih] at e
    rw [Nat.mul_succ, e]
    refine fH_sh (H := fun k => h (f (0 + n) k)) (fun j x hj => ?_)
    show h (f (0 + n) (0 + j)) x = h (f ((0 + 6 * n + j) / 6) ((0 + 6 * n + j) % 6)) x
    rw [show (0 + 6 * n + j) / 6 = 0 + n by omega, show (0 + 6 * n + j) % 6 = 0 + j by omega]
theorem fH_6 (f : Nat → Nat → Int32) (n : Nat) (x : Int64) : fH (fun i y => fH (hx31 (f i)) 0 6 y) 0 n x = fH (hx31 (fun k => f (k / 6) (k % 6))) 0 (6 * n) x := fH_6g (fun v x => 31 * x + v.toInt64) f n x
def hxCnt (F : Nat) (st : sw_St) (k : Nat) : Int32 := (j_X5_count F (nI k) st).getD 0
def hxKept (st : sw_St) (k : Nat) : Int32 := st.1 64 (207 * (1 + k))
theorem o_45 {F : Nat} (hF : 20000 ≤ F) : sm_45 II F := by
  intro st hI
  obtain ⟨n, kd, sg, bd, fw, ff, G, dd, dn, hh⟩ := II_here hI
  obtain ⟨hv, hst, hdyn, hct, hmt, hk⟩ := id hh
  have hn := hv.1
  have hcnt : ∀ k, k < 11 → j_X5_count F (nI k) st = some (hxCnt F st k) ∧ j_X6_countOf F (nI k) st = some (hxCnt F st k) := fun k hk => by
    obtain ⟨v, v1, v2⟩ := cnt_both hF hI hk
    unfold hxCnt
    rw [v1, v2]
    exact ⟨rfl, rfl⟩
  have htx : ∀ r, r < 4 → st.1 14 r = -1 ∨ ∃ n : Nat, n ≤ 60 ∧ st.1 14 r = nI n := fun r hr => (hI.2.1 r hr).2.1
  have hrx : ∀ r, r < 6 → st.1 8 r = -1 ∨ ∃ n : Nat, n ≤ 40 ∧ st.1 8 r = nI n := fun r hr => by
    rcases (hI.1 r hr).2 with h | ⟨n, h1, h2, h3⟩
    · exact Or.inl h
    · exact Or.inr ⟨n, h1, h2⟩
  let D1 : Int64 := fH (hx31 (hxCnt F st)) 0 11 17
  let D2 : Int64 := fH (hx31 (fun k => nI (pw_tt n kd sg bd G (pw_aft n kd sg fw ff G dd dn) (k / 6) (k % 6)))) 0 (6 * n) D1
  let D3 : Int64 := fH (hx31 (hxKept st)) 0 3 D2
  let D4 : Int64 := fH (hxRow (st.1 8) (fun r => st.1 (2 + r))) 0 6 D3
  let D5 : Int64 := fH (hxRow (st.1 14) (fun r => st.1 (10 + r))) 0 4 D4
  refine ⟨D5, ?_, ?_, hI⟩
  · unfold j_X5_digest
    refine (fold_loop (K := fun x => _) (hx31 (hxCnt F st)) 0 11 (fun g x i h1 h2 => ?_) (fun g x => if_pos (by decide)) F 17 (by omega)).trans ?_
    · rw [if_neg (show ¬ (11 : Int32) ≤ nI i from nI_ge (by omega) (by decide)), (hcnt i (by omega)).1, bo_some]
      exact congrArg (g _) (nI_add i 1)
    refine (fold_loop (K := fun x => _) (fun i y => fH (hx31 (fun k => nI (pw_tt n kd sg bd G (pw_aft n kd sg fw ff G dd dn) i k))) 0 6 y) 0 n (fun g x i h1 h2 => ?_) (fun g x => if_pos (by rw [hct.1, Nat.zero_add]; exact nI_le (Nat.le_refl n) (by omega))) F _ (by omega)).trans ?_
    · rw [hct.1, if_neg (show ¬ nI n ≤ nI i from nI_ge (by omega) (by omega))]
      refine fold_loop (K := fun y => g y (nI (i + 1))) (hx31 (fun k => nI (pw_tt n kd sg bd G (pw_aft n kd sg fw ff G dd dn) i k))) 0 6 (fun g' x' k h3 h4 => ?_) (fun g' x' => ?_) F x (by omega)
      · rw [if_neg (show ¬ (6 : Int32) ≤ nI k from nI_ge (by omega) (by decide)), (tr_both hF hh (show i < n by omega) (show k < 6 by omega)).1, bo_some]
        exact congrArg (g' _) (nI_add k 1)
      · rw [if_pos (by decide)]
        exact congrArg (g x') (nI_add i 1)
    rw [fH_6]
    refine (fold_loop (K := fun x => _) (hx31 (hxKept st)) 0 3 (fun g x i h1 h2 => ?_) (fun g x => if_pos (by decide)) F _ (by omega)).trans ?_
    · rw [if_neg (show ¬ (3 : Int32) ≤ nI i from nI_ge (by omega) (by decide)), bnd_nI (by omega) (by decide), nI_clamp (by omega)]
      simp only [jn, nm]
      rw [bnd_nI (by omega) (by decide)]
      have e : ∀ v : Int32, v = hxKept st i → g (31 * x + v.toInt64) (nI i + 1) = g (hx31 (hxKept st) i x) (nI (i + 1)) := fun v hv => by
        rw [hv]
        exact congrArg (g _) (nI_add i 1)
      rcases hk i (by omega) with ⟨q1, q2⟩ | ⟨q1, G', dd', dn', hdyn', hct', hmt'⟩
      · rw [q1, if_pos rfl]
        exact e (-1) q2.symm
      · rw [q1, if_neg (by decide)]
        exact e _ ((ct_dn hct').trans hmt'.1.symm)
    refine (fold_loop (K := fun x => _) (hxRow (st.1 8) (fun r => st.1 (2 + r))) 0 6 (fun g x i h1 h2 => ?_) (fun g x => if_pos (by decide)) F _ (by omega)).trans ?_
    · rw [if_neg (show ¬ (6 : Int32) ≤ nI i from nI_ge (by omega) (by decide)), bnd_nI (by omega) (by decide), nI_clamp (by omega)]
      simp only [nm]
      refine hx_row (m := 40) (z := st.1 8 i) (f := st.1 (2 + i)) (K := fun y => g y (nI (i + 1))) hF (by decide) (hrx i (by omega)) (fun g' x' k h3 h4 h5 => ?_) (fun g' x' k h3 => ?_)
      · rw [bnd_nI (by omega) (by decide), if_neg h3, bnd_nI (by omega) (by decide), bnd_nI (by omega) (by decide), nI_clamp (by omega)]
        exact congrArg (g' _) (nI_add k 1)
      · rw [bnd_nI (by omega) (by decide), if_pos h3]
        exact congrArg (g x') (nI_add i 1)
    refine (fold_loop (K := fun x => some x) (hxRow (st.1 14) (fun r => st.1 (10 + r))) 0 4 (fun g x i h1 h2 => ?_) (fun g x => if_pos (by decide)) F _ (by omega)).trans ?_
    · rw [if_neg (show ¬ (4 : Int32) ≤ nI i from nI_ge (by omega) (by decide)), bnd_nI (by omega) (by decide), nI_clamp (by omega)]
      simp only [nm]
      refine hx_row (m := 60) (z := st.1 14 i) (f := st.1 (10 + i)) (K := fun y => g y (nI (i + 1))) hF (by decide) (htx i (by omega)) (fun g' x' k h3 h4 h5 => ?_) (fun g' x' k h3 => ?_)
      · rw [bnd_nI (by omega) (by decide), if_neg h3, bnd_nI (by omega) (by decide), bnd_nI (by omega) (by decide), nI_clamp (by omega)]
        exact congrArg (g' _) (nI_add k 1)
      · rw [bnd_nI (by omega) (by decide), if_pos h3]
        exact congrArg (g x') (nI_add i 1)
    rfl
  · unfold j_X6_digest
    refine (fold_loop (K := fun x => _) (hx31 (hxCnt F st)) 0 11 (fun g x i h1 h2 => ?_) (fun g x => if_pos (by decide)) F 17 (by omega)).trans ?_
    · rw [if_neg (show ¬ (11 : Int32) ≤ nI i from nI_ge (by omega) (by decide)), (hcnt i (by omega)).2, bo_some]
      exact congrArg (g _) (nI_add i 1)
    have e6 : (6 : Int32) * nI n = nI (6 * n) := by rw [show (6 : Int32) = nI 6 from rfl, pk_mul]
    refine (fold_loop (K := fun x => _) (hx31 (fun k => nI (pw_tt n kd sg bd G (pw_aft n kd sg fw ff G dd dn) (k / 6) (k % 6)))) 0 (6 * n) (fun g x i h1 h2 => ?_) (fun g x => if_pos (by rw [hst.1, Nat.zero_add, e6]; exact nI_le (Nat.le_refl _) (by omega))) F _ (by omega)).trans ?_
    · rw [hst.1, e6, if_neg (show ¬ nI (6 * n) ≤ nI i from nI_ge (by omega) (by omega)), (div6 (k := i) (by omega)).1, (show nI i - nI (i / 6) * 6 = nI (i % 6) by rw [← (div6 (k := i) (by omega)).1]; exact (div6 (k := i) (by omega)).2), (tr_both hF hh (show i / 6 < n by omega) (show i % 6 < 6 by omega)).2, bo_some]
      exact congrArg (g _) (nI_add i 1)
    refine (fold_loop (K := fun x => _) (hx31 (fun k => hxKept st (k - 1))) 1 3 (fun g x i h1 h2 => ?_) (fun g x => if_pos (by decide)) F _ (by omega)).trans ?_
    · rw [if_neg (show ¬ (4 : Int32) ≤ nI i from nI_ge (by omega) (by decide)), show (207 : Int32) * nI i + 0 = nI (207 * i) by rw [show (207 : Int32) = nI 207 from rfl, pk_mul]; exact nI_add _ 0, bnd_nI (by omega) (by decide), nI_clamp (by omega)]
      have e : hx31 (fun k => hxKept st (k - 1)) i x = 31 * x + (st.1 64 (207 * i)).toInt64 := by
        show 31 * x + (st.1 64 (207 * (1 + (i - 1)))).toInt64 = _
        rw [show 1 + (i - 1) = i by omega]
      rw [e]
      exact congrArg (g _) (nI_add i 1)
    refine (fold_loop (K := fun x => _) (hxRow (st.1 8) (fun r => st.1 (2 + r))) 0 6 (fun g x i h1 h2 => ?_) (fun g x => if_pos (by decide)) F _ (by omega)).trans ?_
    · rw [if_neg (show ¬ (6 : Int32) ≤ nI i from nI_ge (by omega) (by decide)), bnd_nI (by omega) (by decide), nI_clamp (by omega), ← (hI.1 i (by omega)).1]
      simp only [nm]
      refine hx_row (m := 40) (z := st.1 8 i) (f := st.1 (2 + i)) (K := fun y => g y (nI (i + 1))) hF (by decide) (hrx i (by omega)) (fun g' x' k h3 h4 h5 => ?_) (fun g' x' k h3 => ?_)
      · rw [bnd_nI (by omega) (by decide), if_neg h3, l40, bnd_nI (by omega) (by decide), nI_clamp (by omega)]
        rcases (hI.1 i (by omega)).2 with q | ⟨m, q1, q2, q3⟩
        · rw [q, neg_clamp] at h4
          omega
        · rw [q2, nI_clamp (by omega)] at h4
          rw [← q3 k h4]
          exact congrArg (g' _) (nI_add k 1)
      · rw [bnd_nI (by omega) (by decide), if_pos h3]
        exact congrArg (g x') (nI_add i 1)
    refine (fold_loop (K := fun x => some x) (hxRow (st.1 14) (fun r => st.1 (10 + r))) 0 4 (fun g x i h1 h2 => ?_) (fun g x => if_pos (by decide)) F _ (by omega)).trans ?_
    · rw [if_neg (show ¬ (4 : Int32) ≤ nI i from nI_ge (by omega) (by decide)), bnd_nI (by omega) (by decide), nI_clamp (by omega), ← (hI.2.1 i (by omega)).1]
      simp only [nm]
      refine hx_row (m := 60) (z := st.1 14 i) (f := st.1 (10 + i)) (K := fun y => g y (nI (i + 1))) hF (by decide) (htx i (by omega)) (fun g' x' k h3 h4 h5 => ?_) (fun g' x' k h3 => ?_)
      · rw [bnd_nI (by omega) (by decide), if_neg h3, l60, bnd_nI (by omega) (by decide), nI_clamp (by omega), ← (hI.2.1 i (by omega)).2.2 k h5]
        exact congrArg (g' _) (nI_add k 1)
      · rw [bnd_nI (by omega) (by decide), if_pos h3]
        exact congrArg (g x') (nI_add i 1)
    rfl
