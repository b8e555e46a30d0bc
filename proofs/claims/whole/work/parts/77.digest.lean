theorem gg {β : Type} (g : Int32 → Int32 → Option β) (c d i : Nat) : g (nI c + nI d) (nI i + 1) = g (nI (c + d)) (nI (i + 1)) := congr (congrArg g (nI_add c d)) (nI_add i 1)
theorem ct1_ext {p : Nat → Bool} {n m : Nat} (h : n ≤ m) (hz : ∀ i, n ≤ i → i < m → p i = false) : pw_ct1 p m = pw_ct1 p n := by
  induction m with
  | zero => rw [show n = 0 by omega]
  | succ m ih =>
    by_cases q : n = m + 1
    · rw [q]
    · have := ih (by omega) (fun i h1 h2 => hz i h1 (by omega))
      show pw_ct1 p m + (if p m then 1 else 0) = _
      rw [this, hz m (by omega) (by omega)]
      rfl
theorem strongs6 {F n G : Nat} {kd sg bd : Nat → Nat} {fw ff : Nat} {st : sw_St} (hF : 20000 ≤ F) (hv : pw_stat n kd sg bd fw ff) (hm : pw_st st n kd sg bd) : j_X6_strongs F st = some (nI (pw_ct1 (fun i => pw_of (kd i) 1) n)) := by
  have hn := hv.1
  unfold j_X6_strongs
  refine cnt_loop (K := fun c => some c) (fun i => pw_of (kd i) 1) n (by omega) (fun g c i hi => ?_) (fun g c => ?_) hF
  · rw [hm.1, if_neg (show ¬ nI n ≤ nI i from nI_ge hi (by omega)), show (1 : Int32) = nI 1 from rfl, isOf6 (G := G) hv hm hi (by decide), bo_some]
    simp only [jn, nm]
    cases pw_of (kd i) 1
    · rw [if_pos (by decide)]
      exact gg g c 0 i
    · rw [if_neg (by decide)]
      exact gg g c 1 i
  · rw [hm.1, if_pos (show nI n ≤ nI n from nI_le (Nat.le_refl n) (by omega))]
theorem there5 {F a m : Nat} {st : sw_St} (hF : 20000 ≤ F) (hm : sw_ln a = m) (hm2 : m ≤ 100) : j_X5_thoseThere F a st = some (nI (pw_ct1 (fun i => decide (0 ≤ st.1 a i)) m)) := by
  unfold j_X5_thoseThere
  simp only [nm]
  rw [hm]
  refine cnt_loop (K := fun c => some c) (fun i => decide (0 ≤ st.1 a i)) m (by omega) (fun g c i hi => ?_) (fun g c => ?_) hF
  · rw [if_neg (show ¬ nI m ≤ nI i from nI_ge hi (by omega)), bnd_nI hi (by omega), nI_clamp (by omega)]
    simp only [jn]
    by_cases q : st.1 a i < 0
    · rw [if_pos q, show decide (0 ≤ st.1 a i) = false from decide_eq_false (by rw [i_le]; rw [i_lt] at q; omega)]
      exact gg g c 0 i
    · rw [if_neg q, show decide (0 ≤ st.1 a i) = true from decide_eq_true (by rw [i_le]; rw [i_lt] at q; omega)]
      exact gg g c 1 i
  · rw [if_pos (show nI m ≤ nI m from nI_le (Nat.le_refl m) (by omega))]
theorem kept5 {F : Nat} {st : sw_St} (hF : 20000 ≤ F) : j_X5_thoseKept F st = some (nI (pw_ct1 (fun i => decide (st.1 51 i ≠ 0)) 3)) := by
  unfold j_X5_thoseKept
  simp only [nm]
  rw [show sw_ln 51 = 3 from rfl]
  refine cnt_loop (K := fun c => some c) (fun i => decide (st.1 51 i ≠ 0)) 3 (by omega) (fun g c i hi => ?_) (fun g c => ?_) hF
  · rw [if_neg (show ¬ nI 3 ≤ nI i from nI_ge hi (by omega)), bnd_nI hi (by omega), nI_clamp (by omega)]
    simp only [jn]
    by_cases q : st.1 51 i = 0
    · rw [if_pos q, show decide (st.1 51 i ≠ 0) = false from decide_eq_false (fun z => z q)]
      exact gg g c 0 i
    · rw [if_neg q, show decide (st.1 51 i ≠ 0) = true from decide_eq_true q]
      exact gg g c 1 i
  · rw [if_pos (show nI 3 ≤ nI 3 from nI_le (Nat.le_refl 3) (by omega))]
theorem there6 {F k : Nat} {st : sw_St} {p : Nat → Bool} (hF : 20000 ≤ F) (hp : (k = 8 ∧ ∀ i, i < 6 → p i = decide (0 ≤ st.1 68 i)) ∨ (k = 9 ∧ ∀ i, i < 6 → p i = (decide (i < 4) && decide (0 ≤ st.1 70 i))) ∨ (k = 10 ∧ ∀ i, i < 6 → p i = (decide (i < 3) && decide (0 ≤ st.1 64 (207 * (1 + i)))))) : j_X6_thereOf F (nI k) st = some (nI (pw_ct1 p 6)) := by
  unfold j_X6_thereOf
  refine cnt_loop (K := fun c => some c) p 6 (by omega) (fun g c i hi => ?_) (fun g c => ?_) hF
  · have e0 : g (nI c + 0) (nI i + 1) = g (nI (c + 0)) (nI (i + 1)) := gg g c 0 i
    have e1 : g (nI c + 1) (nI i + 1) = g (nI (c + 1)) (nI (i + 1)) := gg g c 1 i
    rw [if_neg (show ¬ (6 : Int32) ≤ nI i from nI_ge hi (by decide))]
    simp only [jn, nm]
    rw [e0, e1, bnd_nI hi (by omega), nI_clamp (by omega)]
    rcases hp with ⟨rfl, hp⟩ | ⟨rfl, hp⟩ | ⟨rfl, hp⟩
    · rw [if_pos (by decide), hp i hi]
      by_cases q : 0 ≤ st.1 68 i
      · rw [if_pos q, if_pos (decide_eq_true q)]
      · rw [if_neg q, if_neg (by rw [decide_eq_false q]; decide)]
    · rw [if_neg (by decide), if_pos (by decide), hp i hi]
      by_cases q4 : i < 4
      · rw [if_neg (show ¬ (4 : Int32) ≤ nI i from nI_ge q4 (by decide)), bnd_nI q4 (by omega), decide_eq_true q4, Bool.true_and]
        by_cases q : st.1 70 i < 0
        · rw [if_pos q, if_neg]
          rw [decide_eq_true_eq, i_le]
          rw [i_lt] at q
          omega
        · rw [if_neg q, if_pos]
          rw [decide_eq_true_eq, i_le]
          rw [i_lt] at q
          omega
      · rw [if_pos (show (4 : Int32) ≤ nI i from nI_le (a := 4) (by omega) (by omega)), decide_eq_false q4, Bool.false_and, if_neg (by decide)]
    · rw [if_neg (by decide), if_neg (by decide), hp i hi]
      by_cases q4 : i < 3
      · rw [if_neg (show ¬ (3 : Int32) ≤ nI i from nI_ge q4 (by decide)), show (207 : Int32) * (1 + nI i) + 0 = nI (207 * (1 + i)) by rw [l207]; exact nI_add _ 0, bnd_nI (by omega) (by omega), nI_clamp (by omega), decide_eq_true q4, Bool.true_and]
        by_cases q : st.1 64 (207 * (1 + i)) < 0
        · rw [if_pos q, if_neg]
          rw [decide_eq_true_eq, i_le]
          rw [i_lt] at q
          omega
        · rw [if_neg q, if_pos]
          rw [decide_eq_true_eq, i_le]
          rw [i_lt] at q
          omega
      · rw [if_pos (show (3 : Int32) ≤ nI i from nI_le (a := 3) (by omega) (by omega)), decide_eq_false q4, Bool.false_and, if_neg (by decide)]
  · rw [if_pos (show (6 : Int32) ≤ nI 6 by decide)]
theorem kp_neg {st : sw_St} {n : Nat} {kd sg bd : Nat → Nat} {fw ff k : Nat} (h : pw_kp st n kd sg bd fw ff k) : decide (st.1 51 k ≠ 0) = decide (0 ≤ st.1 64 (207 * (1 + k))) := by
  rcases h with ⟨q1, q2⟩ | ⟨q1, G, dd, dn, hdyn, hct, hmt⟩
  · rw [q1, q2]; decide
  · rw [q1, hmt.1, decide_eq_true (show (1 : Int32) ≠ 0 by decide), decide_eq_true (show (0 : Int32) ≤ nI dn from nI_le (a := 0) (by omega) (by have := hdyn.2.1; omega))]
theorem cnt_both {F k : Nat} {st : sw_St} (hF : 20000 ≤ F) (hI : II st) (hk : k < 11) : ∃ v, j_X5_count F (nI k) st = some v ∧ j_X6_countOf F (nI k) st = some v := by
  obtain ⟨n, kd, sg, bd, fw, ff, G, dd, dn, hh⟩ := II_here hI
  obtain ⟨hv, hst, hdyn, hct, hmt, hkp⟩ := id hh
  have hn := hv.1
  obtain ⟨r1, r2, r3, r4, r5⟩ := ct_CR hct
  obtain ⟨t1, t2, t3, t4, t5⟩ := mt_TR hmt
  unfold j_X5_count j_X6_countOf
  rcases (show k = 0 ∨ k = 1 ∨ k = 2 ∨ k = 3 ∨ k = 4 ∨ k = 5 ∨ k = 6 ∨ k = 7 ∨ k = 8 ∨ k = 9 ∨ k = 10 by omega) with rfl | rfl | rfl | rfl | rfl | rfl | rfl | rfl | rfl | rfl | rfl
  · exact ⟨_, congrArg some hct.1, congrArg some hst.1⟩
  · exact ⟨_, congrArg some r1, congrArg some t1⟩
  · exact ⟨_, congrArg some r2, congrArg some t2⟩
  · exact ⟨_, congrArg some r3, congrArg some t3⟩
  · exact ⟨_, congrArg some (ct_dn hct), congrArg some hmt.1⟩
  · exact ⟨_, congrArg some r4, congrArg some t4⟩
  · exact ⟨_, congrArg some r5, congrArg some t5⟩
  · refine ⟨nI (pw_ct1 (fun i => pw_of (kd i) 1) n), ?_, ?_⟩
    · show bo (j_X4_allOf F 15 (nI 1) st) (fun (r10 : Int32) => bo (j_J6_bitCount_0f7a4 F r10 st) (fun (r12 : Int32) => some (r12 : Int32))) = _
      rw [allOf5 hF hv (ct_cS hct) (by decide), bo_some, bitC (Nat.lt_of_lt_of_le (all_lt _ n) (pow_n hn)), pop_all hn]
      rfl
    · show bo (j_X6_strongs F st) (fun (r10 : Int32) => some (r10 : Int32)) = _
      rw [strongs6 (G := G) hF hv hst]
      rfl
  · refine ⟨nI (pw_ct1 (fun i => decide (0 ≤ st.1 8 i)) 6), ?_, ?_⟩
    · show bo (j_X5_thoseThere F 8 st) (fun (r10 : Int32) => some (r10 : Int32)) = _
      rw [there5 (m := 6) hF rfl (by decide)]
      rfl
    · show bo (j_X6_thereOf F (nI 8) st) (fun (r10 : Int32) => some (r10 : Int32)) = _
      rw [there6 (p := fun i => decide (0 ≤ st.1 8 i)) hF (Or.inl ⟨rfl, fun i hi => by rw [(hI.1 i hi).1]⟩)]
      rfl
  · refine ⟨nI (pw_ct1 (fun i => decide (0 ≤ st.1 14 i)) 4), ?_, ?_⟩
    · show bo (j_X5_thoseThere F 14 st) (fun (r10 : Int32) => some (r10 : Int32)) = _
      rw [there5 (m := 4) hF rfl (by decide)]
      rfl
    · show bo (j_X6_thereOf F (nI 9) st) (fun (r10 : Int32) => some (r10 : Int32)) = _
      rw [there6 (p := fun i => decide (i < 4) && decide (0 ≤ st.1 70 i)) hF (Or.inr (Or.inl ⟨rfl, fun i hi => rfl⟩)), bo_some, ct1_ext (n := 4) (by decide) (fun i h1 h2 => by rw [decide_eq_false (by omega)]; rfl), ct1_c (q := fun i => decide (0 ≤ st.1 14 i)) (fun i hi => by rw [decide_eq_true hi, Bool.true_and, (hI.2.1 i hi).1])]
  · refine ⟨nI (pw_ct1 (fun i => decide (st.1 51 i ≠ 0)) 3), ?_, ?_⟩
    · show bo (j_X5_thoseKept F st) (fun (r10 : Int32) => some (r10 : Int32)) = _
      rw [kept5 hF]
      rfl
    · show bo (j_X6_thereOf F (nI 10) st) (fun (r10 : Int32) => some (r10 : Int32)) = _
      rw [there6 (p := fun i => decide (i < 3) && decide (0 ≤ st.1 64 (207 * (1 + i)))) hF (Or.inr (Or.inr ⟨rfl, fun i hi => rfl⟩)), bo_some, ct1_ext (n := 3) (by decide) (fun i h1 h2 => by rw [decide_eq_false (by omega)]; rfl), ct1_c (q := fun i => decide (st.1 51 i ≠ 0)) (fun i hi => by rw [decide_eq_true hi, Bool.true_and, kp_neg (hkp i hi)])]
theorem o_42 {F : Nat} (hF : 20000 ≤ F) : sm_42 II F := by
  intro a1 st hI
  rcases nix a1 11 with h | ⟨k, hk, rfl⟩
  · have hne : ∀ m : Nat, m < 11 → ¬ a1 = nI m := fun m hm e => by
      rw [e, nout, nI_tI (by omega)] at h
      omega
    refine ⟨-1, ?_, ?_, hI⟩
    · unfold j_X5_count
      rw [if_neg (show ¬ a1 = (0 : Int32) from hne 0 (by decide)), if_neg (show ¬ a1 = (1 : Int32) from hne 1 (by decide)), if_neg (show ¬ a1 = (2 : Int32) from hne 2 (by decide)), if_neg (show ¬ a1 = (3 : Int32) from hne 3 (by decide)), if_neg (show ¬ a1 = (4 : Int32) from hne 4 (by decide)), if_neg (show ¬ a1 = (5 : Int32) from hne 5 (by decide)), if_neg (show ¬ a1 = (6 : Int32) from hne 6 (by decide)), if_neg (show ¬ a1 = (7 : Int32) from hne 7 (by decide)), if_neg (show ¬ a1 = (8 : Int32) from hne 8 (by decide)), if_neg (show ¬ a1 = (9 : Int32) from hne 9 (by decide)), if_neg (show ¬ a1 = (10 : Int32) from hne 10 (by decide))]
    · unfold j_X6_count
      rw [in6_n (lo := 0) (hi := 10) rfl rfl (by rcases h with h | h; exact Or.inl h; exact Or.inr (by omega))]
      rfl
  · obtain ⟨v, v1, v2⟩ := cnt_both hF hI hk
    refine ⟨v, v1, ?_, hI⟩
    unfold j_X6_count
    rw [in6_y (lo := 0) (hi := 10) rfl rfl (by rw [nI_tI (by omega)]; omega) (by rw [nI_tI (by omega)]; omega), bo_some]
    simp only [jn]
    rw [if_neg (by decide), v2]
    rfl
/-- folding over a stretch of numbers -/
def fH (H : Nat → Int64 → Int64) (o : Nat) : Nat → Int64 → Int64
  | 0, x => x
  | n + 1, x => H (o + n) (fH H o n x)
theorem fH_f (H : Nat → Int64 → Int64) (o n : Nat) (x : Int64) : fH H o (n + 1) x = fH H (o + 1) n (H o x) := by
  induction n with
  | zero => rfl
  | succ n ih =>
    show H (o + (n + 1)) (fH H o (n + 1) x) = H (o + 1 + n) (fH H (o + 1) n (H o x))
    rw [ih, show o + (n + 1) = o + 1 + n by omega]
theorem fH_a (H : Nat → Int64 → Int64) (o a b : Nat) (x : Int64) : fH H o (a + b) x = fH H (o + a) b (fH H o a x) := by
  induction b with
  | zero => rfl
  | succ b ih =>
    show H (o + (a + b)) (fH H o (a + b) x) = H (o + a + b) _
    rw [ih, show o + (a + b) = o + a + b by omega]
theorem fH_c {H K : Nat → Int64 → Int64} {o n : Nat} {x : Int64} (h : ∀ i x, o ≤ i → i < o + n → H i x = K i x) : fH H o n x = fH K o n x := by
  induction n with
  | zero => rfl
  | succ n ih =>
    show H (o + n) (fH H o n x) = K (o + n) (fH K o n x)
    rw [ih (fun i x h1 h2 => h i x h1 (by omega)), h _ _ (by omega) (by omega)]
theorem fold_loop {β : Type} {body : (Int64 → Int32 → Option β) → Int64 → Int32 → Option β} {K : Int64 → Option β} (H : Nat → Int64 → Int64) (o n : Nat) (hb : ∀ g x i, o ≤ i → i < o + n → body g x (nI i) = g (H i x) (nI (i + 1))) (he : ∀ g x, body g x (nI (o + n)) = K x) : ∀ (F : Nat) (x : Int64), n < F → lz2 body F x (nI o) = K (fH H o n x) := by
  induction n generalizing o with
  | zero =>
    intro F x hF
    obtain ⟨F, rfl⟩ : ∃ f, F = f + 1 := ⟨F - 1, by omega⟩
    exact he _ x
  | succ n ih =>
    intro F x hF
    obtain ⟨F, rfl⟩ : ∃ f, F = f + 1 := ⟨F - 1, by omega⟩
    show body (lz2 body F) x (nI o) = _
    rw [hb _ _ _ (by omega) (by omega), ih (o + 1) (fun g x i h1 h2 => hb g x i (by omega) (by omega)) (fun g x => by rw [show o + 1 + n = o + (n + 1) by omega]; exact he g x) F _ (by omega), fH_f]
