theorem b_get0 : ∀ s : Fin 64, ∀ j : Fin 7, ((nI s.val >>> (nI j.val &&& 31)) &&& 1) = nI (if s.val.testBit j.val then 1 else 0) := by decide +kernel
theorem b_one0 : ∀ j : Fin 7, (1 : Int32) <<< (nI j.val &&& 31) = nI (2 ^ j.val) := by decide +kernel
theorem b_or0 : ∀ s : Fin 64, ∀ j : Fin 6, nI s.val ||| nI (2 ^ j.val) = nI (pw_set s.val j.val) := by decide +kernel
theorem b_clr0 : ∀ s : Fin 64, ∀ j : Fin 6, nI s.val &&& (nI (2 ^ j.val) ^^^ (-1)) = nI (pw_clr s.val j.val) := by decide +kernel
theorem b_lt0 : ∀ n : Fin 7, ∀ s : Fin 64, ∀ j : Fin 6, s.val < 2 ^ n.val → (j.val < n.val → pw_set s.val j.val < 2 ^ n.val) ∧ pw_clr s.val j.val < 2 ^ n.val := by decide +kernel
theorem b_set0 : ∀ s : Fin 64, ∀ j i : Fin 6, (pw_set s.val j.val).testBit i.val = (s.val.testBit i.val || decide (i.val = j.val)) := by decide +kernel
theorem b_clrb0 : ∀ s : Fin 64, ∀ j i : Fin 6, (pw_clr s.val j.val).testBit i.val = (s.val.testBit i.val && !decide (i.val = j.val)) := by decide +kernel
theorem b_pop0 : ∀ m : Fin 64, j_J6_bitCount_0f7a4 0 (nI m.val) su_st0 = some (nI (pw_pop m.val)) := by decide +kernel
theorem b_pop7 : ∀ m : Fin 64, pw_pop m.val ≤ 6 := by decide +kernel
theorem b_get {s j : Nat} (hs : s < 64) (hj : j < 7) : ((nI s >>> (nI j &&& 31)) &&& 1) = nI (if s.testBit j then 1 else 0) := b_get0 ⟨s, hs⟩ ⟨j, hj⟩
theorem b_one {j : Nat} (hj : j < 7) : (1 : Int32) <<< (nI j &&& 31) = nI (2 ^ j) := b_one0 ⟨j, hj⟩
theorem b_or {s j : Nat} (hs : s < 64) (hj : j < 6) : nI s ||| nI (2 ^ j) = nI (pw_set s j) := b_or0 ⟨s, hs⟩ ⟨j, hj⟩
theorem b_clr {s j : Nat} (hs : s < 64) (hj : j < 6) : nI s &&& (nI (2 ^ j) ^^^ (-1)) = nI (pw_clr s j) := b_clr0 ⟨s, hs⟩ ⟨j, hj⟩
theorem pow_n {n : Nat} (h : n ≤ 6) : 2 ^ n ≤ 64 := by
  rcases (show n = 0 ∨ n = 1 ∨ n = 2 ∨ n = 3 ∨ n = 4 ∨ n = 5 ∨ n = 6 by omega) with rfl | rfl | rfl | rfl | rfl | rfl | rfl <;> decide
theorem set_lt {n s j : Nat} (hn : n ≤ 6) (hs : s < 2 ^ n) (hj : j < n) : pw_set s j < 2 ^ n := (b_lt0 ⟨n, by omega⟩ ⟨s, Nat.lt_of_lt_of_le hs (pow_n hn)⟩ ⟨j, by omega⟩ hs).1 hj
theorem clr_lt {n s j : Nat} (hn : n ≤ 6) (hs : s < 2 ^ n) (hj : j < 6) : pw_clr s j < 2 ^ n := (b_lt0 ⟨n, by omega⟩ ⟨s, Nat.lt_of_lt_of_le hs (pow_n hn)⟩ ⟨j, hj⟩ hs).2
theorem clr64 {s j : Nat} (hs : s < 64) (hj : j < 6) : pw_clr s j < 64 := clr_lt (n := 6) (by decide) hs hj
theorem set64 {s j : Nat} (hs : s < 64) (hj : j < 6) : pw_set s j < 64 := set_lt (n := 6) (by decide) hs hj
theorem set_b {s j i : Nat} (hs : s < 64) (hj : j < 6) (hi : i < 6) : (pw_set s j).testBit i = (s.testBit i || decide (i = j)) := b_set0 ⟨s, hs⟩ ⟨j, hj⟩ ⟨i, hi⟩
theorem clr_b {s j i : Nat} (hs : s < 64) (hj : j < 6) (hi : i < 6) : (pw_clr s j).testBit i = (s.testBit i && !decide (i = j)) := b_clrb0 ⟨s, hs⟩ ⟨j, hj⟩ ⟨i, hi⟩
theorem bitC {F m : Nat} {st : sw_St} (hm : m < 64) : j_J6_bitCount_0f7a4 F (nI m) st = some (nI (pw_pop m)) := b_pop0 ⟨m, hm⟩
theorem one_eq {c : Bool} : (nI (if c then 1 else 0) = 1) ↔ c = true := by cases c <;> decide
/-- how many of the first n -/
def pw_ct1 (p : Nat → Bool) : Nat → Nat
  | 0 => 0
  | n + 1 => pw_ct1 p n + if p n then 1 else 0
theorem ct1_eq (p : Nat → Bool) (n : Nat) : (List.range n).countP p = pw_ct1 p n := by
  induction n with
  | zero => rfl
  | succ n ih =>
    rw [List.range_succ, List.countP_append, ih]
    show _ + (List.countP p [n]) = _
    rw [List.countP_singleton]
    rfl
theorem ct1_le (p : Nat → Bool) (n : Nat) : pw_ct1 p n ≤ n := by
  induction n with
  | zero => exact Nat.le_refl 0
  | succ n ih =>
    show pw_ct1 p n + (if p n then 1 else 0) ≤ n + 1
    by_cases h : p n = true
    · rw [if_pos h]; omega
    · rw [if_neg h]; omega
theorem ct1_c {p q : Nat → Bool} {n : Nat} (h : ∀ i, i < n → p i = q i) : pw_ct1 p n = pw_ct1 q n := by
  induction n with
  | zero => rfl
  | succ n ih => rw [pw_ct1, pw_ct1, ih (fun i hi => h i (by omega)), h n (by omega)]
theorem pop_ct (s : Nat) : pw_pop s = pw_ct1 (fun i => s.testBit i) 6 := ct1_eq _ 6
theorem pil_ct (n : Nat) (kd : Nat → Nat) (s : Nat) : pw_pil n kd s = pw_ct1 (fun i => s.testBit i && kd i == 3) n := ct1_eq _ n
theorem pop_le (s : Nat) : pw_pop s ≤ 6 := by rw [pop_ct]; exact ct1_le _ 6
theorem pil_le (n : Nat) (kd : Nat → Nat) (s : Nat) : pw_pil n kd s ≤ n := by rw [pil_ct]; exact ct1_le _ n
/-- a loop that counts -/
theorem cnt_loop {β : Type} {body : (Int32 → Int32 → Option β) → Int32 → Int32 → Option β} {K : Int32 → Option β} (p : Nat → Bool) (n : Nat) (hn : n < 10000) (hb : ∀ g c i, i < n → body g (nI c) (nI i) = g (nI (c + if p i then 1 else 0)) (nI (i + 1))) (he : ∀ g c, body g (nI c) (nI n) = K (nI c)) {F : Nat} (hF : 20000 ≤ F) : lz2 body F 0 0 = K (nI (pw_ct1 p n)) := by
  refine lz2_ind (Φ := fun x => x = K (nI (pw_ct1 p n))) (fun _ x => n - x.toNatClampNeg) (fun c x => ∃ i, i ≤ n ∧ x = nI i ∧ c = nI (pw_ct1 p i)) (fun g c x hp ih => ?_) F 0 0 ⟨0, Nat.zero_le _, rfl, rfl⟩ (by omega)
  obtain ⟨i, hi, rfl, rfl⟩ := hp
  rcases Nat.lt_or_ge i n with q | q
  · rw [hb g _ i q]
    refine ih _ _ ⟨i + 1, q, rfl, rfl⟩ ?_
    rw [nI_clamp (by omega), nI_clamp (by omega)]
    omega
  · have e : i = n := by omega
    subst e
    exact he g _
theorem bits6 {F s : Nat} {st : sw_St} (hF : 20000 ≤ F) (hs : s < 64) : j_X6_bits F (nI s) st = some (nI (pw_pop s)) := by
  unfold j_X6_bits
  rw [pop_ct]
  refine cnt_loop (K := fun x => some x) (fun i => s.testBit i) 6 (by decide) (fun g c i hi => ?_) (fun g c => ?_) hF
  · simp only [nm]
    rw [if_neg (show ¬ (6 : Int32) ≤ nI i from nI_ge hi (by decide)), b_get hs (by omega), nI_add, nI_1]
  · rw [if_pos (show (6 : Int32) ≤ nI 6 by decide)]
theorem has6 {F s i : Nat} {st : sw_St} (hs : s < 64) (hi : i < 7) : j_X6_has F (nI s) (nI i) st = some (if s.testBit i then 1 else 0) := by
  unfold j_X6_has
  simp only [jn, grd]
  rw [b_get hs hi]
  by_cases h : s.testBit i = true
  · rw [if_pos (one_eq.mpr h), if_pos h]
    rfl
  · rw [if_neg (fun q => h (one_eq.mp q)), if_neg h]
    rfl
/-- what the reference's side knows of the strangers -/
def mS (st : sw_St) (n : Nat) (kd sg bd : Nat → Nat) (G : Nat) : Prop := pw_st st n kd sg bd ∧ st.1 64 6 = nI G
theorem pil6 {F s n G : Nat} {kd sg bd : Nat → Nat} {fw ff : Nat} {st : sw_St} (hF : 20000 ≤ F) (hv : pw_stat n kd sg bd fw ff) (hm : mS st n kd sg bd G) (hs : s < 64) : j_X6_pilgrims F (nI s) st = some (nI (pw_pil n kd s)) := by
  unfold j_X6_pilgrims
  have hn := hv.1
  rw [pil_ct, hm.1.1]
  refine cnt_loop (K := fun x => some x) (fun i => s.testBit i && kd i == 3) n (by omega) (fun g c i hi => ?_) (fun g c => ?_) hF
  · have h5 := (hv.2.1 i hi).1
    simp only [nm, jn]
    rw [if_neg (nI_ge hi (by omega)), has6 hs (by omega), bo_some]
    by_cases h : s.testBit i = true
    · rw [if_pos h, if_neg (by decide), bnd_nI (by omega) (by decide), nI_clamp (by omega), (hm.1.2 i hi).1, h, nI_1]
      by_cases h3 : kd i = 3
      · rw [if_pos (by rw [h3]; rfl), show (1 : Int32) = nI 1 from rfl, nI_add]
        simp [h3]
      · rw [if_neg (show ¬ nI (kd i) = (3 : Int32) from fun q => h3 ((nI_eq (by omega) (by decide)).mp q)), show (0 : Int32) = nI 0 from rfl, nI_add, nI_1]
        simp [h3]
    · rw [if_neg h, if_pos rfl, show (0 : Int32) = nI 0 from rfl, nI_add, nI_1]
      simp [h]
  · rw [if_pos (nI_le (Nat.le_refl _) (by omega))]
theorem lit_eq {a b : Nat} (ha : a < 2 ^ 31) (hb : b < 2 ^ 31) : (nI a = nI b) ↔ a = b := nI_eq ha hb
theorem half {x : Nat} (h : x ≤ 9) : nI x + nI x / 2 = nI (x + x / 2) := by
  show nI x + nI x / nI 2 = _
  rw [pk_div (by omega) (by decide) (by decide), nI_add]
theorem quart {x : Nat} (h : x ≤ 9) : nI x / 4 + 1 = nI (x / 4 + 1) := by
  show nI x / nI 4 + nI 1 = _
  rw [pk_div (by omega) (by decide) (by decide), nI_add]
theorem turns6 {F b i w s n G : Nat} {kd sg bd : Nat → Nat} {fw ff : Nat} {st : sw_St} (hF : 20000 ≤ F) (hv : pw_stat n kd sg bd fw ff) (hm : mS st n kd sg bd G) (hb : b ≤ 828) (hi : i < n) (hw : w ≤ 99) (hs : s < 64) (h1 : st.1 64 (b + 1) = nI w) (h5 : st.1 64 (b + 5) = nI s) : j_X6_turnsOf F (nI b) (nI i) st = some (nI (pw_trn n kd sg i w s)) := by
  have hn := hv.1
  obtain ⟨k5, s1, s9, -⟩ := hv.2.1 i hi
  obtain ⟨mk, ms, -⟩ := hm.1.2 i hi
  unfold j_X6_turnsOf
  simp only [nm, jn]
  rw [show nI b + 5 = nI (b + 5) from nI_add b 5, show nI b + 1 = nI (b + 1) from nI_add b 1, bnd_nI (by omega) (by decide), bnd_nI (by omega) (by decide), bnd_nI (by omega) (by decide), nI_clamp (show i < 2 ^ 31 by omega), nI_clamp (show b + 5 < 2 ^ 31 by omega), h5, mk, ms, b_one (by omega), b_clr hs (by omega)]
  unfold pw_trn
  by_cases q1 : kd i = 1
  · rw [if_pos (by rw [q1]; rfl), if_pos q1, half s9]
  rw [if_neg (show ¬ nI (kd i) = (1 : Int32) from fun q => q1 ((lit_eq (by omega) (by decide)).mp q)), if_neg q1]
  by_cases q2 : kd i = 2
  · rw [if_pos (by rw [q2]; rfl), if_pos q2, quart s9]
  rw [if_neg (show ¬ nI (kd i) = (2 : Int32) from fun q => q2 ((lit_eq (by omega) (by decide)).mp q)), if_neg q2]
  by_cases q3 : kd i = 3
  · rw [if_pos (by rw [q3]; rfl), if_pos q3, pil6 hF hv hm (clr64 hs (by omega)), bo_some, nI_add]
  rw [if_neg (show ¬ nI (kd i) = (3 : Int32) from fun q => q3 ((lit_eq (by omega) (by decide)).mp q)), if_neg q3]
  by_cases q4 : kd i = 4
  · rw [if_pos (by rw [q4]; rfl), if_pos q4, bnd_nI (by omega) (by decide), nI_clamp (by omega), h1]
    by_cases z : 40 < w
    · rw [if_neg (show ¬ nI w ≤ 40 from nI_ge z (by omega)), if_pos z]
      rfl
    · rw [if_pos (show nI w ≤ 40 from nI_le (b := 40) (by omega) (by decide)), if_neg z, half s9]
  rw [if_neg (show ¬ nI (kd i) = (4 : Int32) from fun q => q4 ((lit_eq (by omega) (by decide)).mp q)), if_neg q4]
  by_cases q5 : kd i = 5
  · rw [if_pos (by rw [q5]; rfl), if_pos q5, bits6 hF (clr64 hs (by omega)), bo_some, quart s9, nI_add]
  · rw [if_neg (show ¬ nI (kd i) = (5 : Int32) from fun q => q5 ((lit_eq (by omega) (by decide)).mp q)), if_neg q5]
theorem trn_le {n : Nat} {kd sg bd : Nat → Nat} {fw ff i w s : Nat} (hv : pw_stat n kd sg bd fw ff) (hi : i < n) : pw_trn n kd sg i w s ≤ 18 := by
  obtain ⟨k5, s1, s9, -⟩ := hv.2.1 i hi
  have h1 := pil_le n kd (pw_clr s i)
  have h2 := pop_le (pw_clr s i)
  have hn := hv.1
  unfold pw_trn
  repeat' split
  all_goals omega
theorem spr_le {x : Nat} (h : x ≤ 99) : pw_spr x ≤ 94 := by
  unfold pw_spr
  split
  all_goals omega
theorem com_le {n : Nat} {kd sg bd : Nat → Nat} {fw ff G i w s : Nat} (hw : w ≤ 99) : pw_com n kd sg G i w s ≤ 94 := by
  unfold pw_com
  apply spr_le
  split
  · omega
  · split
    all_goals omega
