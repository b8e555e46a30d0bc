theorem cpy_at (f g : Nat → Int32) (n i : Nat) : va_cpy f g (0 : Int32).toNatClampNeg (0 : Int32).toNatClampNeg n i = if i < n then f i else g i := by
  show (if 0 ≤ i ∧ i < 0 + n then f (0 + (i - 0)) else g i) = _
  by_cases q : i < n
  · rw [if_pos (by omega), if_pos q, show 0 + (i - 0) = i by omega]
  · rw [if_neg (by omega), if_neg q]
def cpT (t o : Nat) (D A : List Nat) (st s : sw_St) : Prop := (∀ a, (a < t ∨ t + 6 < a) → s.1 a = st.1 a) ∧ s.2 = st.2 ∧ (∀ i, i ∈ D → s.1 t i = st.1 o i) ∧ ∀ k, k ∈ A → 1 ≤ k ∧ ∀ i, i < (if k ≤ 4 then 6 else 40) → s.1 (t + k) i = st.1 (o + k) i
theorem cpT.C {t o : Nat} {D A : List Nat} {st s : sw_St} (h : cpT t o D A st s) (hto : o + 6 < t ∨ t + 6 < o) (j : Nat) : cpT t o (j :: D) A st (sw_setC s t j (s.1 o j)) := by
  obtain ⟨h1, h2, h3, h4⟩ := h
  refine ⟨fun a ha => by rw [gsC_ne _ _ _ (by omega)]; exact h1 a ha, h2, fun i hi => ?_, fun k hk => ⟨(h4 k hk).1, fun i hi => ?_⟩⟩
  · rw [gsC]
    by_cases e : i = j
    · rw [if_pos ⟨rfl, e⟩, h1 o (by omega), e]
    · rw [if_neg (fun z => e z.2)]
      exact h3 i ((List.mem_cons.mp hi).resolve_left e)
  · have := (h4 k hk).1
    rw [gsC_ne _ _ _ (by omega)]
    exact (h4 k hk).2 i hi
theorem cpT.A {t o : Nat} {D A : List Nat} {st s : sw_St} (h : cpT t o D A st s) (hto : o + 6 < t ∨ t + 6 < o) (j : Nat) (hj : 1 ≤ j) (hj6 : j ≤ 6) {m : Nat} (hm : m = if j ≤ 4 then 6 else 40) : cpT t o D (j :: A) st (sw_setA s (t + j) (va_cpy (s.1 (o + j)) (s.1 (t + j)) (0 : Int32).toNatClampNeg (0 : Int32).toNatClampNeg m)) := by
  obtain ⟨h1, h2, h3, h4⟩ := h
  refine ⟨fun a ha => by rw [gsA_ne _ _ (by omega)]; exact h1 a ha, h2, fun i hi => ?_, fun k hk => ?_⟩
  · rw [gsA_ne _ _ (by omega)]
    exact h3 i hi
  · by_cases e : k = j
    · subst e
      refine ⟨hj, fun i hi => ?_⟩
      rw [gsA, if_pos rfl, cpy_at, if_pos (by rw [hm]; exact hi), h1 _ (by omega)]
    · have h5 := h4 k ((List.mem_cons.mp hk).resolve_left e)
      refine ⟨h5.1, fun i hi => ?_⟩
      rw [gsA_ne _ _ (by omega)]
      exact h5.2 i hi
theorem take5 {F t o n G dn : Nat} {kd sg bd : Nat → Nat} {fw ff : Nat} {dd : Nat → Nat × Nat} {x : pw_D} {st : sw_St} (hto : o + 6 < t ∨ t + 6 < o) (hn : n ≤ 6) (h40 : dn ≤ 40) (hc : pw_ct st o n kd sg bd fw ff G dd dn x) : ∃ st1, j_X4_takeFrom F t o st = some ((), st1) ∧ pw_ct st1 t n kd sg bd fw ff G dd dn x ∧ (∀ a, (a < t ∨ t + 6 < a) → st1.1 a = st.1 a) ∧ st1.2 = st.2 := by
  unfold j_X4_takeFrom
  simp only [nm]
  have h0 : cpT t o [] [] st st := ⟨fun _ _ => rfl, rfl, fun i hi => absurd hi (List.not_mem_nil), fun i hi => absurd hi (List.not_mem_nil)⟩
  have h := (((((((((((((((h0.C hto 0).A hto 1 (by decide) (by decide) (m := (6 : Int32).toNatClampNeg) rfl).A hto 2 (by decide) (by decide) (m := (6 : Int32).toNatClampNeg) rfl).A hto 3 (by decide) (by decide) (m := (6 : Int32).toNatClampNeg) rfl).A hto 4 (by decide) (by decide) (m := (6 : Int32).toNatClampNeg) rfl).C hto 5).C hto 6).C hto 7).C hto 8).C hto 9).C hto 10).C hto 11).A hto 5 (by decide) (by decide) (m := (40 : Int32).toNatClampNeg) rfl).A hto 6 (by decide) (by decide) (m := (40 : Int32).toNatClampNeg) rfl).C hto 14)
  refine ⟨_, rfl, ?_, h.1, h.2.1⟩
  obtain ⟨c1, c2, c3, c4, c5, c6, c7, c8, c9, c10, c11⟩ := id hc
  obtain ⟨-, -, h3, h4⟩ := h
  refine ⟨(h3 0 (by decide)).trans c1, (h3 5 (by decide)).trans c2, (h3 6 (by decide)).trans c3, (h3 7 (by decide)).trans c4, (h3 8 (by decide)).trans c5, (h3 9 (by decide)).trans c6, (h3 10 (by decide)).trans c7, (h3 11 (by decide)).trans c8, (h3 14 (by decide)).trans c9, fun i hi => ?_, fun k hk => ?_⟩
  · have e := c10 i hi
    exact ⟨((h4 1 (by decide)).2 i (by show i < 6; omega)).trans e.1, ((h4 2 (by decide)).2 i (by show i < 6; omega)).trans e.2.1, ((h4 3 (by decide)).2 i (by show i < 6; omega)).trans e.2.2.1, ((h4 4 (by decide)).2 i (by show i < 6; omega)).trans e.2.2.2⟩
  · have e := c11 k hk
    exact ⟨((h4 5 (by decide)).2 k (by show k < 40; omega)).trans e.1, ((h4 6 (by decide)).2 k (by show k < 40; omega)).trans e.2⟩
theorem copyT6 {F a b : Nat} {st : sw_St} (hF : 20000 ≤ F) (ha : a + 207 ≤ 828) (hb : b + 207 ≤ 828) (hab : a + 207 ≤ b ∨ b + 207 ≤ a) : ∃ st1, j_X6_copyTown F (nI a) (nI b) st = some ((), st1) ∧ (∀ i, i < 207 → st1.1 64 (b + i) = st.1 64 (a + i)) ∧ (∀ i, (i < b ∨ b + 207 ≤ i) → st1.1 64 i = st.1 64 i) ∧ (∀ a, a ≠ 64 → st1.1 a = st.1 a) ∧ st1.2 = st.2 := by
  unfold j_X6_copyTown
  refine lz2_ind (Φ := fun o => ∃ st1 : sw_St, o = some ((), st1) ∧ (∀ i, i < 207 → st1.1 64 (b + i) = st.1 64 (a + i)) ∧ (∀ i, (i < b ∨ b + 207 ≤ i) → st1.1 64 i = st.1 64 i) ∧ (∀ a, a ≠ 64 → st1.1 a = st.1 a) ∧ st1.2 = st.2) (fun x _ => 207 - x.toNatClampNeg) (fun x s => ∃ i, i ≤ 207 ∧ x = nI i ∧ (∀ j, j < i → s.1 64 (b + j) = st.1 64 (a + j)) ∧ (∀ k, (k < b ∨ b + 207 ≤ k) → s.1 64 k = st.1 64 k) ∧ (∀ a, a ≠ 64 → s.1 a = st.1 a) ∧ s.2 = st.2) (fun g x s hp ih => ?_) F 0 st ⟨0, by omega, rfl, fun j hj => absurd hj (Nat.not_lt_zero j), fun _ _ => rfl, fun _ _ => rfl, rfl⟩ (by show 207 - 0 < F; omega)
  obtain ⟨i, hi, rfl, p1, p2, p3, p4⟩ := hp
  rcases Nat.lt_or_ge i 207 with q | q
  · rw [if_neg (show ¬ (207 : Int32) ≤ nI i from nI_ge q (by decide)), nI_add, nI_add, bnd_nI (by omega) (by decide), bnd_nI (by omega) (by decide), nI_clamp (by omega), nI_clamp (by omega)]
    simp only [nm]
    rw [nI_1]
    refine ih _ _ ⟨i + 1, by omega, rfl, fun j hj => ?_, fun k hk => ?_, fun c hc => ?_, p4⟩ ?_
    · rw [gsC]
      by_cases e : j = i
      · subst e
        rw [if_pos ⟨rfl, rfl⟩, p2 _ (by omega)]
      · rw [if_neg (by omega)]
        exact p1 j (by omega)
    · rw [gsC, if_neg (by omega)]
      exact p2 k hk
    · rw [gsC_ne _ _ _ hc]
      exact p3 c hc
    · rw [nI_clamp (by omega), nI_clamp (by omega)]
      omega
  · have e : i = 207 := by omega
    subst e
    rw [if_pos (show (207 : Int32) ≤ nI 207 by decide)]
    exact ⟨s, rfl, p1, p2, p3, p4⟩
theorem isKeep5_n {F : Nat} {a : Int32} {st : sw_St} (h : nout a 3) : j_X5_isKeep F a st = some 0 := by
  unfold j_X5_isKeep
  simp only [jn, grd]
  by_cases q : a < 0
  · rw [if_pos q]; rfl
  · rw [if_neg q, if_pos]
    · rfl
    · rw [i_le]
      rw [i_lt] at q
      rcases h with h | h
      · exact absurd h q
      · show 3 ≤ a.toInt
        omega
theorem isKeep5_y {F i : Nat} {st : sw_St} (h : i < 3) : j_X5_isKeep F (nI i) st = some 1 := by
  unfold j_X5_isKeep
  simp only [jn, grd]
  rw [if_neg (show ¬ nI i < 0 from nI_pos (by omega)), if_neg (show ¬ 3 ≤ nI i from nI_ge (b := 3) h (by decide))]
  rfl
theorem in6_2n {F : Nat} {a : Int32} {st : sw_St} (h : nout a 3) : j_X6_in F a.toInt64 0 2 st = some 0 := in6_n (lo := 0) (hi := 2) rfl rfl (by rcases h with h | h; exact Or.inl h; exact Or.inr (by omega))
theorem in6_2y {F i : Nat} {st : sw_St} (h : i < 3) : j_X6_in F (nI i).toInt64 0 2 st = some 1 := in6_y (lo := 0) (hi := 2) rfl rfl (by rw [nI_tI (by omega)]; omega) (by rw [nI_tI (by omega)]; omega)
theorem l207 (i : Nat) : (207 : Int32) * (1 + nI i) = nI (207 * (1 + i)) := by
  rw [show (207 : Int32) = nI 207 from rfl, show (1 : Int32) = nI 1 from rfl, nI_add, pk_mul]
theorem mt_copy {n G dn a b : Nat} {st st1 : sw_St} {x : Nat → pw_D} (h40 : dn ≤ 40) (h : ∀ i, i < 207 → st1.1 64 (b + i) = st.1 64 (a + i)) (hm : pw_mt st a G dn x) : pw_mt st1 b G dn x := by
  obtain ⟨m0, m1, m2, m3, m4, m5, m6, m7⟩ := hm
  refine ⟨(h 0 (by decide)).trans m0, (h 1 (by decide)).trans m1, (h 2 (by decide)).trans m2, (h 3 (by decide)).trans m3, (h 4 (by decide)).trans m4, (h 5 (by decide)).trans m5, (h 6 (by decide)).trans m6, fun k hk => ?_⟩
  obtain ⟨a0, a1, a2, a3, a4⟩ := m7 k hk
  have e : ∀ j, j < 5 → st1.1 64 (b + (7 + j) + 5 * k) = st.1 64 (a + (7 + j) + 5 * k) := fun j hj => by
    have := h (7 + j + 5 * k) (by omega)
    rw [show b + (7 + j) + 5 * k = b + (7 + j + 5 * k) by omega, this, show a + (7 + j) + 5 * k = a + (7 + j + 5 * k) by omega]
  exact ⟨(e 0 (by decide)).trans a0, (e 1 (by decide)).trans a1, (e 2 (by decide)).trans a2, (e 3 (by decide)).trans a3, (e 4 (by decide)).trans a4⟩
theorem ct_c {st st1 : sw_St} {t n fw ff G dn : Nat} {kd sg bd : Nat → Nat} {dd : Nat → Nat × Nat} {x : pw_D} (h : ∀ j, j < 7 → st1.1 (t + j) = st.1 (t + j)) (hc : pw_ct st t n kd sg bd fw ff G dd dn x) : pw_ct st1 t n kd sg bd fw ff G dd dn x := by
  unfold pw_ct
  rw [show st1.1 t = st.1 t from h 0 (by decide), h 1 (by decide), h 2 (by decide), h 3 (by decide), h 4 (by decide), h 5 (by decide), h 6 (by decide)]
  exact hc
theorem o_18 {F : Nat} (hF : 20000 ≤ F) : sm_18 II F := by
  intro a1 st hI
  obtain ⟨n, kd, sg, bd, fw, ff, G, dd, dn, hh⟩ := II_here hI
  obtain ⟨hv, hst, hdyn, hct, hmt, hk⟩ := id hh
  have hn := hv.1
  have hdn := hdyn.2.1
  unfold j_X5_keep j_X6_keep
  rcases nix a1 3 with h | ⟨i, hi, rfl⟩
  · exact ⟨-1, st, st, by rw [isKeep5_n h]; rfl, by rw [in6_2n h]; rfl, hI⟩
  by_cases h0 : n = 0
  · exact ⟨-4, st, st, by rw [isKeep5_y hi, bo_some, if_neg (by decide), hct.1, if_pos ((n0_iff hn).mpr h0)], by rw [in6_2y hi, bo_some, if_neg (by decide), hst.1, if_pos ((n0_iff hn).mpr h0)], hI⟩
  have n0 : ¬ nI n = 0 := fun z => h0 ((n0_iff hn).mp z)
  obtain ⟨st1, j1, c1, cc, c2⟩ := take5 (F := F) (t := 30 + 7 * i) (by omega) hn hdn hct
  obtain ⟨st1', e1'⟩ : ∃ s, s = sw_setC st1 51 i 1 := ⟨_, rfl⟩
  obtain ⟨st2, j2, k1, k2, k3, k4⟩ := copyT6 (F := F) (a := 0) (b := 207 * (1 + i)) (st := st1') hF (by omega) (by omega) (by omega)
  have e0 : ∀ a, (a < 30 + 7 * i ∨ 30 + 7 * i + 6 < a) → a ≠ 51 → a ≠ 64 → st2.1 a = st.1 a := fun a h1 h2 h3 => by rw [k3 a h3, e1', gsC_ne _ _ _ h2, cc a h1]
  have e64 : ∀ j, st1'.1 64 j = st.1 64 j := fun j => by rw [e1', gsC_ne _ _ _ (by decide), cc 64 (by omega)]
  refine ⟨nI dn, st1', st2, ?_, ?_, ?_⟩
  · rw [isKeep5_y hi, bo_some, if_neg (by decide), hct.1, if_neg n0, bnd_nI hi (by decide), nI_clamp (by omega), j1, bd_some, bnd_nI hi (by decide)]
    show some ((sw_setC st1 51 i 1).1 15 14, sw_setC st1 51 i 1) = _
    rw [← e1', e1', gsC, if_neg (by omega), cc 15 (by omega), ct_dn hct]
  · rw [in6_2y hi, bo_some, if_neg (by decide), show st1'.1 63 = st.1 63 by rw [e1', gsC_ne _ _ _ (by decide), cc 63 (by omega)], hst.1, if_neg n0, l207, show (0 : Int32) = nI 0 from rfl, j2, bd_some, k2 0 (by omega), e64, hmt.1]
  · have hm0 : ∀ j, j < 207 → st2.1 64 j = st.1 64 j := fun j hj => by rw [k2 j (by omega), e64]
    refine ⟨IR_c (fun a ha => ?_) hI.1, IT_c (fun a ha => ?_) hI.2.1, IA_c (fun a ha => ?_) (by rw [k4, e1']; show st1.2.1 = _; rw [c2]) hI.2.2.1, n, kd, sg, bd, fw, ff, hv, ?_, ⟨G, dd, dn, hdyn, ?_, ?_⟩, fun k hk3 => ?_⟩
    · obtain ⟨z1, z2, z3⟩ := (by decide : ∀ a, a ∈ [2, 3, 4, 5, 6, 7, 8, 68, 69] → (a < 30 ∨ 50 < a) ∧ a ≠ 51 ∧ a ≠ 64) a ha
      exact e0 a (by omega) z2 z3
    · obtain ⟨z1, z2, z3⟩ := (by decide : ∀ a, a ∈ [10, 11, 12, 13, 14, 70, 71] → (a < 30 ∨ 50 < a) ∧ a ≠ 51 ∧ a ≠ 64) a ha
      exact e0 a (by omega) z2 z3
    · obtain ⟨z1, z2, z3⟩ := (by decide : ∀ a, a ∈ [0, 62, 63, 72] → (a < 30 ∨ 50 < a) ∧ a ≠ 51 ∧ a ≠ 64) a ha
      exact e0 a (by omega) z2 z3
    · unfold pw_st
      rw [e0 63 (by omega) (by decide) (by decide), e0 65 (by omega) (by decide) (by decide), e0 66 (by omega) (by decide) (by decide), e0 67 (by omega) (by decide) (by decide)]
      exact hst
    · exact ct_c (fun j hj => e0 _ (by omega) (by omega) (by omega)) hct
    · exact mt_copy (n := n) hdn (fun j hj => by rw [hm0 _ (by omega)]) hmt
    · by_cases e : k = i
      · subst e
        refine Or.inr ⟨?_, G, dd, dn, hdyn, ?_, ?_⟩
        · rw [k3 51 (by decide), e1', gsC, if_pos ⟨rfl, rfl⟩]
        · exact ct_c (fun j hj => by rw [k3 _ (by omega), e1', gsC_ne _ _ _ (by omega)]) c1
        · exact mt_copy (n := n) hdn (fun j hj => by rw [k1 j hj, e64]) hmt
      · have e51 : st2.1 51 k = st.1 51 k := by rw [k3 51 (by decide), e1', gsC, if_neg (by omega), cc 51 (by omega)]
        have eb : ∀ j, j < 207 → st2.1 64 (207 * (1 + k) + j) = st.1 64 (207 * (1 + k) + j) := fun j hj => by rw [k2 _ (by omega), e64]
        have ec : ∀ j, j < 7 → st2.1 (30 + 7 * k + j) = st.1 (30 + 7 * k + j) := fun j hj => e0 _ (by omega) (by omega) (by omega)
        unfold pw_kp
        rw [e51, show st2.1 64 (207 * (1 + k)) = st.1 64 (207 * (1 + k)) from eb 0 (by decide)]
        rcases hk k hk3 with q | q
        · exact Or.inl q
        · exact Or.inr ⟨q.1, pw_tw_c (ec 0 (by decide)) (ec 1 (by decide)) (ec 2 (by decide)) (ec 3 (by decide)) (ec 4 (by decide)) (ec 5 (by decide)) (ec 6 (by decide)) eb q.2⟩
theorem o_19 {F : Nat} (hF : 20000 ≤ F) : sm_19 II F := by
  intro a1 st hI
  obtain ⟨n, kd, sg, bd, fw, ff, G0, dd0, dn0, hh⟩ := II_here hI
  obtain ⟨hv, hst, -, -, -, hk⟩ := id hh
  have hn := hv.1
  unfold j_X5_on j_X6_on
  rcases nix a1 3 with h | ⟨i, hi, rfl⟩
  · exact ⟨-1, st, st, by rw [isKeep5_n h]; rfl, by rw [in6_2n h]; rfl, hI⟩
  have l0 : (207 : Int32) * (1 + nI i) + 0 = nI (207 * (1 + i)) := by rw [l207]; exact nI_add _ 0
  rcases hk i hi with ⟨q1, q2⟩ | ⟨q1, G, dd, dn, hdyn, hct, hmt⟩
  · refine ⟨-3, fd5 st 1, fd6 (fd5 st 1) 1, ?_, ?_, II_fd hI (by decide)⟩
    · rw [isKeep5_y hi, bo_some, if_neg (by decide), bnd_nI hi (by decide), nI_clamp (by omega), q1, if_pos rfl, show (1 : Int32) = nI 1 from rfl, found5 (by decide)]
      rfl
    · rw [in6_2y hi, bo_some, if_neg (by decide), l0, bnd_nI (by omega) (by decide), nI_clamp (by omega), fd5_o (by decide) (by decide), q2, if_neg (by decide), show (1 : Int32) = nI 1 from rfl, find6 (by decide)]
      rfl
  have hdn := hdyn.2.1
  obtain ⟨st1, j1, c1, cc, c2⟩ := take5 (F := F) (t := 15) (by omega) hn hdn hct
  obtain ⟨st2, j2, k1, k2, k3, k4⟩ := copyT6 (F := F) (a := 207 * (1 + i)) (b := 0) (st := st1) hF (by omega) (by omega) (by omega)
  have e64 : st1.1 64 = st.1 64 := cc 64 (by omega)
  refine ⟨nI dn, st1, st2, ?_, ?_, ?_⟩
  · rw [isKeep5_y hi, bo_some, if_neg (by decide), bnd_nI hi (by decide), nI_clamp (by omega), q1, if_neg (by decide), bnd_nI hi (by decide), j1, bd_some, ct_dn c1]
  · rw [in6_2y hi, bo_some, if_neg (by decide), l0, bnd_nI (by omega) (by decide), nI_clamp (by omega), e64, hmt.1, if_pos (show (0 : Int32) ≤ nI dn from nI_le (a := 0) (by omega) (by omega)), l207, show (0 : Int32) = nI 0 from rfl, j2, bd_some, show st2.1 64 0 = st1.1 64 (207 * (1 + i)) from k1 0 (by decide), e64, hmt.1]
  · refine II_town (G := G) (dd := dd) (dn := dn) hI hv hst hk (fun a ha => ?_) (by rw [k4, c2]) (fun j h1 h2 => by rw [k2 j (by omega), e64]) hdyn (ct_c (fun j hj => k3 _ (by omega)) c1) (mt_copy (n := n) hdn (fun j hj => by rw [k1 j hj, e64]) hmt)
    simp only [List.mem_cons, List.mem_nil_iff, or_false, not_or] at ha
    rw [k3 a ha.2.2.2.2.2.2.2, cc a (by omega)]
