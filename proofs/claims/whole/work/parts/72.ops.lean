theorem has5_y {F t n i : Nat} {st : sw_St} (h : st.1 t 0 = nI n) (hn : n ≤ 6) (hi : i < n) : j_X4_has F t (nI i) st = some 1 := by
  unfold j_X4_has
  simp only [jn, grd]
  rw [if_neg (show ¬ nI i < 0 from nI_pos (by omega)), h, if_neg (nI_ge hi (by omega))]
  rfl
theorem has5_n {F t n : Nat} {a : Int32} {st : sw_St} (h : st.1 t 0 = nI n) (hn : n ≤ 6) (ha : nout a n) : j_X4_has F t a st = some 0 := by
  unfold j_X4_has
  simp only [jn, grd]
  by_cases q : a < 0
  · rw [if_pos q]; rfl
  · rw [if_neg q, h, if_pos]
    · rfl
    · rw [i_le, nI_tI (by omega)]
      rcases ha with ha | ha
      · exact absurd (show a < 0 by rw [i_lt]; exact ha) q
      · exact ha
theorem isS6_y {F n i : Nat} {st : sw_St} (h : st.1 63 1 = nI n) (hn : n ≤ 6) (hi : i < n) : j_X6_isStranger F (nI i) st = some 1 := by
  unfold j_X6_isStranger
  rw [h, in6_y (lo := 0) (hi := (n : Int) - 1) rfl (by rw [i_l, sub1 (by omega)]) (by rw [nI_tI (by omega)]; omega) (by rw [nI_tI (by omega)]; omega)]
  rfl
theorem isS6_n {F n : Nat} {a : Int32} {st : sw_St} (h : st.1 63 1 = nI n) (hn : n ≤ 6) (ha : nout a n) : j_X6_isStranger F a st = some 0 := by
  unfold j_X6_isStranger
  rw [h, in6_n (lo := 0) (hi := (n : Int) - 1) rfl (by rw [i_l, sub1 (by omega)]) (by rcases ha with h | h; exact Or.inl h; exact Or.inr (by omega))]
  rfl
theorem isIn5 {F t s i : Nat} {st : sw_St} (h : st.1 t 11 = nI s) (hs : s < 64) (hi : i < 6) : j_X4_isIn F t (nI i) st = some (if s.testBit i then 1 else 0) := by
  unfold j_X4_isIn
  simp only [jn, grd]
  rw [h, b_get hs (by omega)]
  by_cases q : s.testBit i = true
  · rw [if_pos (one_eq.mpr q), if_pos q]; rfl
  · rw [if_neg (fun z => q (one_eq.mp z)), if_neg q]; rfl
theorem isIn6 {F b s i : Nat} {st : sw_St} (h : st.1 64 (b + 5) = nI s) (hb : b ≤ 828) (hs : s < 64) (hi : i < 6) : j_X6_isIn F (nI b) (nI i) st = some (if s.testBit i then 1 else 0) := by
  unfold j_X6_isIn
  rw [show nI b + 5 = nI (b + 5) from nI_add b 5, bnd_nI (by omega) (by decide), nI_clamp (by omega), h, has6 hs (by omega), bo_some]
  split
  all_goals rfl
/-- what the invariant gives of the town here -/
def hereT (st : sw_St) (n : Nat) (kd sg bd : Nat → Nat) (fw ff G : Nat) (dd : Nat → Nat × Nat) (dn : Nat) : Prop := pw_stat n kd sg bd fw ff ∧ pw_st st n kd sg bd ∧ pw_dyn n G dd dn ∧ pw_ct st 15 n kd sg bd fw ff G dd dn (pw_aft n kd sg fw ff G dd dn) ∧ pw_mt st 0 G dn (pw_aft n kd sg fw ff G dd) ∧ ∀ k, k < 3 → pw_kp st n kd sg bd fw ff k
theorem II_here {st : sw_St} (h : II st) : ∃ n kd sg bd fw ff G dd dn, hereT st n kd sg bd fw ff G dd dn := by
  obtain ⟨n, kd, sg, bd, fw, ff, h1, h2, ⟨G, dd, dn, h3, h4, h5⟩, h6⟩ := h.2.2.2
  exact ⟨n, kd, sg, bd, fw, ff, G, dd, dn, h1, h2, h3, h4, h5, h6⟩
theorem kp_c {st st1 : sw_St} {n : Nat} {kd sg bd : Nat → Nat} {fw ff : Nat} (h : ag [30, 31, 32, 33, 34, 35, 36, 37, 38, 39, 40, 41, 42, 43, 44, 45, 46, 47, 48, 49, 50, 51] st st1) (h64 : ∀ i, 207 ≤ i → i < 828 → st1.1 64 i = st.1 64 i) (hk : ∀ k, k < 3 → pw_kp st n kd sg bd fw ff k) : ∀ k, k < 3 → pw_kp st1 n kd sg bd fw ff k := by
  intro k hk3
  have e : ∀ j, j < 7 → st1.1 (30 + 7 * k + j) = st.1 (30 + 7 * k + j) := fun j hj => h _ (by
      have hk' : k = 0 ∨ k = 1 ∨ k = 2 := by omega
      have hj' : j = 0 ∨ j = 1 ∨ j = 2 ∨ j = 3 ∨ j = 4 ∨ j = 5 ∨ j = 6 := by omega
      rcases hk' with rfl | rfl | rfl <;> rcases hj' with rfl | rfl | rfl | rfl | rfl | rfl | rfl <;> decide)
  unfold pw_kp
  rw [h 51 (by decide), h64 (207 * (1 + k)) (by omega) (by omega)]
  rcases hk k hk3 with q | q
  · exact Or.inl q
  · exact Or.inr ⟨q.1, pw_tw_c (e 0 (by decide)) (e 1 (by decide)) (e 2 (by decide)) (e 3 (by decide)) (e 4 (by decide)) (e 5 (by decide)) (e 6 (by decide)) (fun i hi => h64 _ (by omega) (by omega)) q.2⟩
/-- one deed on both sides -/
theorem II_deed {n G dn fw ff : Nat} {kd sg bd : Nat → Nat} {dd : Nat → Nat × Nat} {d : Nat × Nat} {st st1 st2 st3 : sw_St} (hI : II st) (hh : hereT st n kd sg bd fw ff G dd dn) (hd : pw_okd n d) (hdn : dn < 40)
    (c1 : pw_ct st1 15 n kd sg bd fw ff G (upD dd dn d) (dn + 1) (pw_dst n kd sg G d (pw_aft n kd sg fw ff G dd dn))) (cc : ch [15, 20, 21] st st1) (c2 : st1.2 = st.2)
    (k0 : st2.1 64 0 = nI (dn + 1)) (k1 : ∀ j, j < 5 → st2.1 64 (7 + 5 * dn + j) = st1.1 64 (1 + j)) (k2 : ∀ i, i ≠ 0 → (i < 7 + 5 * dn ∨ 12 + 5 * dn ≤ i) → st2.1 64 i = st1.1 64 i) (k3 : ∀ a, a ≠ 64 → st2.1 a = st1.1 a) (k4 : st2.2 = st1.2)
    (a : at6 0 st2 st3) (r : TR st3 0 (pw_dst n kd sg G d (pw_aft n kd sg fw ff G dd dn))) : II st3 := by
  obtain ⟨hv, hst, hdyn, hct, hmt, hk⟩ := hh
  obtain ⟨hR, hT, hA, -⟩ := hI
  have e : ∀ x, x ∉ [15, 20, 21, 64] → st3.1 x = st.1 x := fun x hx => by
    simp only [List.mem_cons, List.mem_nil_iff, or_false, not_or] at hx
    rw [a.1 x hx.2.2.2, k3 x hx.2.2.2, cc x (by simp only [List.mem_cons, List.mem_nil_iff, or_false, not_or]; exact ⟨hx.1, hx.2.1, hx.2.2.1⟩)]
  have e5 : ∀ x, x ≠ 64 → st3.1 x = st1.1 x := fun x hx => by rw [a.1 x hx, k3 x hx]
  have e64 : ∀ i, 207 ≤ i → i < 828 → st3.1 64 i = st.1 64 i := fun i h1 h2 => by rw [a.2.1 i (by omega), k2 i (by omega) (by omega), cc 64 (by decide)]
  refine ⟨IR_c (fun x hx => e x ((by decide : ∀ x, x ∈ [2, 3, 4, 5, 6, 7, 8, 68, 69] → x ∉ [15, 20, 21, 64]) x hx)) hR, IT_c (fun x hx => e x ((by decide : ∀ x, x ∈ [10, 11, 12, 13, 14, 70, 71] → x ∉ [15, 20, 21, 64]) x hx)) hT, ?_, ?_⟩
  · unfold IA
    rw [e 0 (by decide), e 62 (by decide), e 63 (by decide), e 72 (by decide), a.2.2, k4, c2]
    exact hA
  · refine ⟨n, kd, sg, bd, fw, ff, hv, ?_, ⟨G, upD dd dn d, dn + 1, ⟨hdyn.1, by omega, fun k hk => ?_⟩, ?_, ?_⟩, ?_⟩
    · unfold pw_st
      rw [e 63 (by decide), e 65 (by decide), e 66 (by decide), e 67 (by decide)]
      exact hst
    · unfold upD
      by_cases q : k = dn
      · rw [if_pos q]; exact hd
      · rw [if_neg q]; exact hdyn.2.2 k (by omega)
    · rw [aft_up1]
      unfold pw_ct
      rw [e5 15 (by decide), e5 (15 + 1) (by decide), e5 (15 + 2) (by decide), e5 (15 + 3) (by decide), e5 (15 + 4) (by decide), e5 (15 + 5) (by decide), e5 (15 + 6) (by decide)]
      exact c1
    · have hm1 : pw_mt st1 0 G dn (pw_aft n kd sg fw ff G dd) := by
        unfold pw_mt
        rw [cc 64 (by decide)]
        exact hmt
      exact mt_deed hm1 k0 k1 k2 a r
    · exact kp_c (fun x hx => e x ((by decide : ∀ x, x ∈ [30, 31, 32, 33, 34, 35, 36, 37, 38, 39, 40, 41, 42, 43, 44, 45, 46, 47, 48, 49, 50, 51] → x ∉ [15, 20, 21, 64]) x hx)) e64 hk
theorem o_13 {F : Nat} (hF : 20000 ≤ F) : sm_13 II F := by
  intro a1 st hI
  obtain ⟨n, kd, sg, bd, fw, ff, G, dd, dn, hh⟩ := II_here hI
  obtain ⟨hv, hst, hdyn, hct, hmt, hk⟩ := id hh
  have hn := hv.1
  have hdn := hdyn.2.1
  obtain ⟨hx, hx2⟩ := aft_ok (G := G) hv hdyn.2.2 (by omega)
  have hs := ok64 hn hx.2.2.2.2
  unfold j_X5_let j_X6_let
  rcases nix a1 n with h | ⟨i, hi, rfl⟩
  · exact ⟨-1, st, st, by rw [has5_n hct.1 hn h]; rfl, by rw [isS6_n hst.1 hn h]; rfl, hI⟩
  have q5 := isIn5 (F := F) (i := i) (ct_CR hct).2.2.2.2 hs (by omega)
  have q6 := isIn6 (F := F) (b := 0) (i := i) (mt_TR hmt).2.2.2.2 (by omega) hs (by omega)
  by_cases hin : (pw_aft n kd sg fw ff G dd dn).2.2.2.2.testBit i = true
  · rw [if_pos hin] at q5 q6
    exact ⟨-4, st, st, by rw [has5_y hct.1 hn hi, bo_some, if_neg (by decide), q5]; rfl, by rw [isS6_y hst.1 hn hi, bo_some, if_neg (by decide), show (0 : Int32) = nI 0 from rfl, q6]; rfl, hI⟩
  rw [if_neg hin] at q5 q6
  by_cases h40 : dn = 40
  · subst h40
    refine ⟨-2, st, st, ?_, ?_, hI⟩
    · rw [has5_y hct.1 hn hi, bo_some, if_neg (by decide), q5, bo_some, if_pos rfl, show (1 : Int32) = nI 1 from rfl, isFull5 (ct_dn hct) (by decide) (by decide)]
      rfl
    · rw [isS6_y hst.1 hn hi, bo_some, if_neg (by decide), show (0 : Int32) = nI 0 from rfl, q6, bo_some, if_pos (show (0 : Int32) = nI 0 from rfl)]
      simp only [jn]
      rw [hmt.1, if_pos (show nI 40 = 40 from rfl)]
  · have hd : pw_okd n (0, i) := Or.inl ⟨rfl, hi⟩
    obtain ⟨st1, j1, c1, cc, c2⟩ := note5 (d := (0, i)) hF hv hct hx hd (by omega)
    have hm0 : st1.1 64 0 = nI dn := by rw [cc 64 (by decide)]; exact hmt.1
    obtain ⟨st2, j2, k0, k1, k2, k3, k4⟩ := keep6 hF hm0 (by omega)
    have hms : mS st2 n kd sg bd G := by
      unfold mS pw_st
      rw [k3 63 (by decide), k3 65 (by decide), k3 66 (by decide), k3 67 (by decide), k2 6 (by omega) (by omega), cc 63 (by decide), cc 64 (by decide), cc 65 (by decide), cc 66 (by decide), cc 67 (by decide)]
      exact mt_mS hst hmt
    have htr : TR st2 0 (pw_aft n kd sg fw ff G dd dn) := by
      unfold TR
      rw [k2 (0 + 1) (by omega) (by omega), k2 (0 + 2) (by omega) (by omega), k2 (0 + 3) (by omega) (by omega), k2 (0 + 4) (by omega) (by omega), k2 (0 + 5) (by omega) (by omega), cc 64 (by decide)]
      exact mt_TR hmt
    obtain ⟨st3, j3, r3, a3⟩ := comesIn6 (i := i) hF hv hms hdyn.1 (Or.inl rfl) hi hx htr
    refine ⟨st1.1 15 7, st1, st3, ?_, ?_, ?_⟩
    · rw [has5_y hct.1 hn hi, bo_some, if_neg (by decide), q5, bo_some, if_pos rfl, show (1 : Int32) = nI 1 from rfl, isFull5 (ct_dn hct) (by omega) (by decide), bo_some, if_neg (show ¬ 40 < dn + 1 by omega), if_pos rfl, show (0 : Int32) = nI 0 from rfl, j1]
      rfl
    · rw [isS6_y (by rw [cc 63 (by decide)]; exact hst.1) hn hi, bo_some, if_neg (by decide), show (0 : Int32) = nI 0 from rfl]
      rw [isIn6 (F := F) (b := 0) (i := i) (by rw [cc 64 (by decide)]; exact (mt_TR hmt).2.2.2.2) (by omega) hs (by omega), if_neg hin, bo_some, if_pos (show (0 : Int32) = nI 0 from rfl)]
      simp only [jn]
      rw [hm0, if_neg (show ¬ nI dn = 40 from fun z => h40 ((nI_eq (by omega) (by decide)).mp z))]
      unfold j_X6_doLet
      rw [j2, bd_some, show (0 : Int32) = nI 0 from rfl, j3, bd_some, bd_some, show st3.1 64 1 = st1.1 15 7 by rw [show (1 : Nat) = 0 + 1 from rfl, r3.1, (ct_CR c1).1]; rfl]
    · exact II_deed hI hh hd (by omega) c1 cc c2 k0 k1 k2 k3 k4 a3 (by rw [dst0]; exact r3)
