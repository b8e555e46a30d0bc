theorem nI_and (a b : Nat) : nI a &&& nI b = nI (a &&& b) := by
  apply Int32.toBitVec_inj.mp
  show (BitVec.ofNat 32 a) &&& (BitVec.ofNat 32 b) = BitVec.ofNat 32 (a &&& b)
  exact (BitVec.ofNat_and).symm
theorem min99 {w t : Nat} (hw : w ≤ 99) (ht : t ≤ 18) : (if nI w + nI t < 99 then nI w + nI t else 99) = nI (if 99 < w + t then 99 else w + t) := by
  rw [nI_add]
  by_cases h : w + t < 99
  · rw [if_pos (show nI (w + t) < 99 from nI_lt h (by decide)), if_neg (by omega)]
  · rw [if_neg (show ¬ nI (w + t) < 99 from nI_nlt (b := 99) (by omega) (by omega))]
    by_cases q : 99 < w + t
    · rw [if_pos q]; rfl
    · rw [if_neg q, show w + t = 99 by omega]; rfl
theorem subTI {a b : Nat} (ha : a < 2 ^ 30) (hb : b < 2 ^ 30) : (nI a - nI b).toInt = (a : Int) - b := pk_sub_toInt ha hb
theorem max0 {w t : Nat} (hw : w ≤ 1000) (ht : t ≤ 1000) : (if 0 < nI w - nI t then nI w - nI t else 0) = nI (w - t) := by
  by_cases h : t < w
  · rw [if_pos (show 0 < nI w - nI t by rw [i_lt, subTI (by omega) (by omega)]; show (0 : Int) < _; omega), pk_sub (by omega)]
  · rw [if_neg (show ¬ 0 < nI w - nI t by rw [i_lt, subTI (by omega) (by omega)]; show ¬ (0 : Int) < _; omega), show w - t = 0 by omega]
    rfl
theorem spr5 {x : Nat} (h : x ≤ 99) : (if nI x ≤ 40 then nI x else nI x - (nI x - 40) / 10) = nI (pw_spr x) := by
  unfold pw_spr
  by_cases q : 40 < x
  · rw [if_neg (show ¬ nI x ≤ 40 from nI_ge q (by omega)), if_pos q]
    show nI x - (nI x - nI 40) / nI 10 = _
    rw [pk_sub (by omega), pk_div (by omega) (by decide) (by decide), pk_sub (by omega)]
  · rw [if_pos (show nI x ≤ 40 from nI_le (b := 40) (by omega) (by decide)), if_neg q]
theorem spr5s {x : Nat} (h : x ≤ 99) : (if nI x ≤ 40 then some (nI x) else some (nI x - (nI x - 40) / 10)) = some (nI (pw_spr x)) := by
  rw [← spr5 h]
  split
  all_goals rfl
/-- what the class's side knows of the strangers -/
def cS (st : sw_St) (t n : Nat) (kd sg bd : Nat → Nat) (G : Nat) : Prop := st.1 t 0 = nI n ∧ ∀ i, i < n → st.1 (t + 1) i = nI (kd i) ∧ st.1 (t + 2) i = nI (sg i) ∧ st.1 (t + 3) i = nI (if G.testBit i then 1 else 0) ∧ st.1 (t + 4) i = nI (bd i)
def pw_of (k kind : Nat) : Bool := k == kind || (k == 4 && kind == 1) || (k == 5 && kind == 2)
theorem isOf5 {F t i k n G : Nat} {kd sg bd : Nat → Nat} {fw ff : Nat} {st : sw_St} (hv : pw_stat n kd sg bd fw ff) (hc : cS st t n kd sg bd G) (hi : i < n) (hk : k ≤ 5) : j_X4_isOf F t (nI i) (nI k) st = some (if pw_of (kd i) k then 1 else 0) := by
  have hn := hv.1
  have h5 := (hv.2.1 i hi).1
  unfold j_X4_isOf
  rw [bnd_nI (by omega) (by decide), nI_clamp (by omega), (hc.2 i hi).1]
  have fin : ∀ a b : Fin 6, (nm (nI a.val) fun x2 => jn (fun x3 => grd (x3 = 0 ∨ x3 = 1) (some x3)) fun k4 => jn (k4 1) fun k7 => if x2 = nI b.val then k7 else jn (jn (k4 0) fun k12 => if x2 = 5 then if nI b.val = 2 then k7 else k12 else k12) fun k10 => if x2 = 4 then if nI b.val = 1 then k7 else k10 else k10) = some (if pw_of a.val b.val then (1 : Int32) else 0) := by decide +kernel
  exact fin ⟨kd i, by omega⟩ ⟨k, by omega⟩
/-- the set of those among the first n that p takes -/
def pw_all (p : Nat → Bool) : Nat → Nat
  | 0 => 0
  | n + 1 => if p n then pw_all p n + 2 ^ n else pw_all p n
theorem all_lt (p : Nat → Bool) (n : Nat) : pw_all p n < 2 ^ n := by
  induction n with
  | zero => exact (show (0 : Nat) < 2 ^ 0 by decide)
  | succ n ih =>
    show (if p n then pw_all p n + 2 ^ n else pw_all p n) < 2 ^ (n + 1)
    rw [Nat.pow_succ]
    split
    all_goals omega
theorem all_b (p : Nat → Bool) (n i : Nat) : (pw_all p n).testBit i = (decide (i < n) && p i) := by
  induction n with
  | zero => simp [pw_all]
  | succ n ih =>
    show (if p n then pw_all p n + 2 ^ n else pw_all p n).testBit i = _
    by_cases h : p n = true
    · rw [if_pos h, Nat.add_comm]
      have hl := all_lt p n
      by_cases e : i = n
      · subst e
        rw [Nat.testBit_two_pow_add_eq, Nat.testBit_lt_two_pow hl]
        simp [h]
      · by_cases q : i < n
        · rw [Nat.testBit_two_pow_add_gt q, ih]
          simp [q, Nat.lt_succ_of_lt q]
        · have h2 : 2 ^ n + pw_all p n < 2 ^ i := by
            have : 2 ^ (n + 1) ≤ 2 ^ i := Nat.pow_le_pow_right (by decide) (by omega)
            rw [Nat.pow_succ] at this
            omega
          rw [Nat.testBit_lt_two_pow h2]
          simp [show ¬ i < n + 1 by omega]
    · rw [if_neg h, ih]
      by_cases e : i = n
      · subst e; simp [h]
      · by_cases q : i < n
        · simp [q, Nat.lt_succ_of_lt q]
        · simp [q, show ¬ i < n + 1 by omega]
theorem allOf5 {F t k n G : Nat} {kd sg bd : Nat → Nat} {fw ff : Nat} {st : sw_St} (hF : 20000 ≤ F) (hv : pw_stat n kd sg bd fw ff) (hc : cS st t n kd sg bd G) (hk : k ≤ 5) : j_X4_allOf F t (nI k) st = some (nI (pw_all (fun i => pw_of (kd i) k) n)) := by
  have hn := hv.1
  unfold j_X4_allOf
  rw [hc.1]
  refine lz2_ind (Φ := fun x => x = some (nI (pw_all (fun i => pw_of (kd i) k) n))) (fun _ x => n - x.toNatClampNeg) (fun c x => ∃ i, i ≤ n ∧ x = nI i ∧ c = nI (pw_all (fun i => pw_of (kd i) k) i)) (fun g c x hp ih => ?_) F 0 0 ⟨0, Nat.zero_le _, rfl, rfl⟩ (by omega)
  obtain ⟨i, hi, rfl, rfl⟩ := hp
  rcases Nat.lt_or_ge i n with q | q
  · simp only [nm, jn]
    rw [if_neg (nI_ge q (by omega)), isOf5 hv hc q hk, bo_some, nI_1]
    have hl := all_lt (fun i => pw_of (kd i) k) i
    have h64 : pw_all (fun i => pw_of (kd i) k) i < 64 := Nat.lt_of_lt_of_le hl (pow_n (by omega))
    have key : (if (if pw_of (kd i) k = true then (1 : Int32) else 0) = 0 then g (nI (pw_all (fun i => pw_of (kd i) k) i)) (nI (i + 1)) else g (nI (pw_all (fun i => pw_of (kd i) k) i) ||| 1 <<< (nI i &&& 31)) (nI (i + 1))) = g (nI (pw_all (fun i => pw_of (kd i) k) (i + 1))) (nI (i + 1)) := by
      show _ = g (nI (if pw_of (kd i) k then pw_all (fun i => pw_of (kd i) k) i + 2 ^ i else pw_all (fun i => pw_of (kd i) k) i)) _
      by_cases h : pw_of (kd i) k = true
      · rw [if_pos h, if_pos h, if_neg (by decide), b_one (by omega), b_or h64 (by omega)]
        unfold pw_set
        rw [if_neg (by rw [Nat.testBit_lt_two_pow hl]; decide)]
      · rw [if_neg h, if_neg h, if_pos rfl]
    rw [key]
    exact ih _ _ ⟨i + 1, q, rfl, rfl⟩ (by rw [nI_clamp (by omega), nI_clamp (by omega)]; omega)
  · have e : i = n := by omega
    subst e
    rw [if_pos (nI_le (Nat.le_refl _) (by omega))]
theorem pop_and {n s : Nat} {p : Nat → Bool} (hn : n ≤ 6) : pw_pop (s &&& pw_all p n) = pw_ct1 (fun i => s.testBit i && p i) n := by
  rw [pop_ct, ct1_c (q := fun i => s.testBit i && (decide (i < n) && p i)) (fun i _ => by rw [Nat.testBit_and, all_b])]
  rcases (show n = 0 ∨ n = 1 ∨ n = 2 ∨ n = 3 ∨ n = 4 ∨ n = 5 ∨ n = 6 by omega) with rfl | rfl | rfl | rfl | rfl | rfl | rfl <;> simp [pw_ct1]
theorem turns5 {F t i w s n G : Nat} {kd sg bd : Nat → Nat} {fw ff : Nat} {st : sw_St} (hF : 20000 ≤ F) (hv : pw_stat n kd sg bd fw ff) (hc : cS st t n kd sg bd G) (hi : i < n) (hw : w ≤ 99) (hs : s < 64) : j_X4_turns F t (nI i) (nI w) (nI s) st = some (nI (pw_trn n kd sg i w s)) := by
  have hn := hv.1
  obtain ⟨k5, s1, s9, -⟩ := hv.2.1 i hi
  obtain ⟨mk, ms, -⟩ := hc.2 i hi
  unfold j_X4_turns
  simp only [nm, jn]
  rw [bnd_nI (by omega) (by decide), bnd_nI (by omega) (by decide), nI_clamp (show i < 2 ^ 31 by omega), mk, ms, b_one (by omega), b_clr hs (by omega)]
  unfold pw_trn
  by_cases q1 : kd i = 1
  · rw [if_pos (by rw [q1]; rfl), if_pos q1, half s9]
  rw [if_neg (show ¬ nI (kd i) = (1 : Int32) from fun q => q1 ((lit_eq (by omega) (by decide)).mp q)), if_neg q1]
  by_cases q2 : kd i = 2
  · rw [if_pos (by rw [q2]; rfl), if_pos q2, quart s9]
  rw [if_neg (show ¬ nI (kd i) = (2 : Int32) from fun q => q2 ((lit_eq (by omega) (by decide)).mp q)), if_neg q2]
  by_cases q3 : kd i = 3
  · have hl := all_lt (fun i => pw_of (kd i) 3) n
    have h64 : pw_all (fun i => pw_of (kd i) 3) n < 64 := Nat.lt_of_lt_of_le hl (pow_n hn)
    rw [if_pos (by rw [q3]; rfl), if_pos q3, show (3 : Int32) = nI 3 from rfl, allOf5 hF hv hc (by decide), bo_some, show nI (pw_clr s i) &&& nI (pw_all (fun i => pw_of (kd i) 3) n) = nI (pw_clr s i &&& pw_all (fun i => pw_of (kd i) 3) n) from nI_and _ _, bitC (Nat.lt_of_le_of_lt Nat.and_le_left (clr64 hs (by omega))), bo_some, nI_add, pop_and hn, pil_ct]
    congr 3
    refine ct1_c (fun j hj => ?_)
    have := (hv.2.1 j hj).1
    unfold pw_of
    simp
  rw [if_neg (show ¬ nI (kd i) = (3 : Int32) from fun q => q3 ((lit_eq (by omega) (by decide)).mp q)), if_neg q3]
  by_cases q4 : kd i = 4
  · rw [if_pos (by rw [q4]; rfl), if_pos q4]
    by_cases z : 40 < w
    · rw [if_neg (show ¬ nI w ≤ 40 from nI_ge z (by omega)), if_pos z]
      rfl
    · rw [if_pos (show nI w ≤ 40 from nI_le (b := 40) (by omega) (by decide)), if_neg z, half s9]
  rw [if_neg (show ¬ nI (kd i) = (4 : Int32) from fun q => q4 ((lit_eq (by omega) (by decide)).mp q)), if_neg q4]
  by_cases q5 : kd i = 5
  · rw [if_pos (by rw [q5]; rfl), if_pos q5, bitC (clr64 hs (by omega)), bo_some, quart s9, nI_add]
  · rw [if_neg (show ¬ nI (kd i) = (5 : Int32) from fun q => q5 ((lit_eq (by omega) (by decide)).mp q)), if_neg q5]
theorem woundBy5 {F t i w s n G : Nat} {kd sg bd : Nat → Nat} {fw ff : Nat} {st : sw_St} (hF : 20000 ≤ F) (hv : pw_stat n kd sg bd fw ff) (hc : cS st t n kd sg bd G) (hi : i < n) (hw : w ≤ 99) (hs : s < 64) : j_X4_woundBy F t (nI i) (nI w) (nI s) st = some (nI (pw_com n kd sg G i w s)) := by
  have hn := hv.1
  have ht := trn_le (w := w) (s := s) hv hi
  unfold j_X4_woundBy
  rw [turns5 hF hv hc hi hw hs, bo_some, bnd_nI (by omega) (by decide)]
  simp only [jn]
  rw [nI_clamp (show i < 2 ^ 31 by omega), (hc.2 i hi).2.2.1, min99 hw ht, max0 (by omega) (by omega)]
  unfold pw_com
  by_cases h : G.testBit i = true
  · rw [if_pos h, if_pos h, if_neg (by decide)]
    exact spr5s (by omega)
  · rw [if_neg h, if_neg h, if_pos (by decide)]
    exact spr5s (by split <;> omega)
