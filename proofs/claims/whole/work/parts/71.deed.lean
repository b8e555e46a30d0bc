def upD (dd : Nat → Nat × Nat) (dn : Nat) (d : Nat × Nat) : Nat → Nat × Nat := fun k => if k = dn then d else dd k
theorem aft_up {n G : Nat} {kd sg : Nat → Nat} {fw ff : Nat} {dd : Nat → Nat × Nat} {dn : Nat} {d : Nat × Nat} {k : Nat} (h : k ≤ dn) : pw_aft n kd sg fw ff G (upD dd dn d) k = pw_aft n kd sg fw ff G dd k := aft_c (fun j hj => if_neg (by omega))
theorem aft_up1 {n G : Nat} {kd sg : Nat → Nat} {fw ff : Nat} {dd : Nat → Nat × Nat} {dn : Nat} {d : Nat × Nat} : pw_aft n kd sg fw ff G (upD dd dn d) (dn + 1) = pw_dst n kd sg G d (pw_aft n kd sg fw ff G dd dn) := by
  show pw_dst n kd sg G (upD dd dn d dn) (pw_aft n kd sg fw ff G (upD dd dn d) dn) = _
  rw [aft_up (Nat.le_refl dn), show upD dd dn d dn = d from if_pos rfl]
theorem ct_cS {st : sw_St} {t n fw ff G dn : Nat} {kd sg bd : Nat → Nat} {dd : Nat → Nat × Nat} {x : pw_D} (h : pw_ct st t n kd sg bd fw ff G dd dn x) : cS st t n kd sg bd G := ⟨h.1, h.2.2.2.2.2.2.2.2.2.1⟩
theorem ct_CR {st : sw_St} {t n fw ff G dn : Nat} {kd sg bd : Nat → Nat} {dd : Nat → Nat × Nat} {x : pw_D} (h : pw_ct st t n kd sg bd fw ff G dd dn x) : CR st t x := ⟨h.2.2.2.1, h.2.2.2.2.2.1, h.2.2.2.2.2.2.1, h.2.2.2.2.1, h.2.2.2.2.2.2.2.1⟩
theorem ct_dn {st : sw_St} {t n fw ff G dn : Nat} {kd sg bd : Nat → Nat} {dd : Nat → Nat × Nat} {x : pw_D} (h : pw_ct st t n kd sg bd fw ff G dd dn x) : st.1 t 14 = nI dn := h.2.2.2.2.2.2.2.2.1
theorem mt_TR {st : sw_St} {b G dn : Nat} {x : Nat → pw_D} (h : pw_mt st b G dn x) : TR st b (x dn) := ⟨h.2.1, h.2.2.1, h.2.2.2.1, h.2.2.2.2.1, h.2.2.2.2.2.1⟩
theorem mt_mS {st : sw_St} {n G dn : Nat} {kd sg bd : Nat → Nat} {x : Nat → pw_D} (hs : pw_st st n kd sg bd) (h : pw_mt st 0 G dn x) : mS st n kd sg bd G := ⟨hs, h.2.2.2.2.2.2.1⟩
theorem isFull5 {F t dn m : Nat} {st : sw_St} (h : st.1 t 14 = nI dn) (hd : dn ≤ 1000) (hm : m ≤ 1000) : j_X4_isFull F t (nI m) st = some (if 40 < dn + m then 1 else 0) := by
  unfold j_X4_isFull
  simp only [jn, grd]
  rw [h, nI_add]
  by_cases q : 40 < dn + m
  · rw [if_neg (show ¬ nI (dn + m) ≤ 40 from nI_ge q (by omega)), if_pos q]; rfl
  · rw [if_pos (show nI (dn + m) ≤ 40 from nI_le (b := 40) (by omega) (by decide)), if_neg q]; rfl
theorem note5 {F t n G dn : Nat} {kd sg bd : Nat → Nat} {fw ff : Nat} {dd : Nat → Nat × Nat} {x : pw_D} {d : Nat × Nat} {st : sw_St} (hF : 20000 ≤ F) (hv : pw_stat n kd sg bd fw ff) (hc : pw_ct st t n kd sg bd fw ff G dd dn x) (hx : okx n x) (hd : pw_okd n d) (hdn : dn < 40) : ∃ st1, j_X4_note F t (nI d.1) (nI d.2) st = some ((), st1) ∧ pw_ct st1 t n kd sg bd fw ff G (upD dd dn d) (dn + 1) (pw_dst n kd sg G d x) ∧ ch [t, t + 5, t + 6] st st1 ∧ st1.2 = st.2 := by
  obtain ⟨st0, hst0⟩ : ∃ s, s = sw_setC (sw_setC (sw_setC st (t + 5) dn (nI d.1)) (t + 6) dn (nI d.2)) t 14 (nI (dn + 1)) := ⟨_, rfl⟩
  have g : ∀ a i, st0.1 a i = if a = t ∧ i = 14 then nI (dn + 1) else if a = t + 6 ∧ i = dn then nI d.2 else if a = t + 5 ∧ i = dn then nI d.1 else st.1 a i := fun a i => by rw [hst0, gsC, gsC, gsC]
  have hc0 : cS st0 t n kd sg bd G := by
    obtain ⟨c1, c2⟩ := ct_cS hc
    refine ⟨by rw [g]; ((try simp only [true_and, and_true, if_true]); repeat (first | rw [if_pos (by omega)] | rw [if_neg (by omega)])); exact c1, fun i hi => ?_⟩
    obtain ⟨e1, e2, e3, e4⟩ := c2 i hi
    exact ⟨by rw [g]; ((try simp only [true_and, and_true, if_true]); repeat (first | rw [if_pos (by omega)] | rw [if_neg (by omega)])); exact e1, by rw [g]; ((try simp only [true_and, and_true, if_true]); repeat (first | rw [if_pos (by omega)] | rw [if_neg (by omega)])); exact e2, by rw [g]; ((try simp only [true_and, and_true, if_true]); repeat (first | rw [if_pos (by omega)] | rw [if_neg (by omega)])); exact e3, by rw [g]; ((try simp only [true_and, and_true, if_true]); repeat (first | rw [if_pos (by omega)] | rw [if_neg (by omega)])); exact e4⟩
  have hr0 : CR st0 t x := by
    obtain ⟨e1, e2, e3, e4, e5⟩ := ct_CR hc
    exact ⟨by rw [g]; ((try simp only [true_and, and_true, if_true]); repeat (first | rw [if_pos (by omega)] | rw [if_neg (by omega)])); exact e1, by rw [g]; ((try simp only [true_and, and_true, if_true]); repeat (first | rw [if_pos (by omega)] | rw [if_neg (by omega)])); exact e2, by rw [g]; ((try simp only [true_and, and_true, if_true]); repeat (first | rw [if_pos (by omega)] | rw [if_neg (by omega)])); exact e3, by rw [g]; ((try simp only [true_and, and_true, if_true]); repeat (first | rw [if_pos (by omega)] | rw [if_neg (by omega)])); exact e4, by rw [g]; ((try simp only [true_and, and_true, if_true]); repeat (first | rw [if_pos (by omega)] | rw [if_neg (by omega)])); exact e5⟩
  obtain ⟨st1, j1, r1, a1⟩ := carry5 hF hv hc0 hd hx hr0
  refine ⟨st1, ?_, ?_, ?_, ?_⟩
  · unfold j_X4_note
    rw [show (1 : Int32) = nI 1 from rfl, isFull5 (ct_dn hc) (by omega) (by decide), bo_some, if_neg (show ¬ 40 < dn + 1 by omega), if_pos rfl, ct_dn hc, bnd_nI hdn (by decide), nI_clamp (by omega)]
    simp only [nm]
    rw [show (sw_setC st (t + 5) dn (nI d.1)).1 t 14 = nI dn by rw [gsC, if_neg (by omega), ct_dn hc], bnd_nI hdn (by decide), nI_clamp (by omega), show (sw_setC (sw_setC st (t + 5) dn (nI d.1)) (t + 6) dn (nI d.2)).1 t 14 = nI dn by rw [gsC, if_neg (by omega), gsC, if_neg (by omega), ct_dn hc], nI_add, ← hst0, j1]
    rfl
  · obtain ⟨c1, c2, c3, c4, c5, c6, c7, c8, c9, c10, c11⟩ := hc
    obtain ⟨r7, r9, r10, r8, r11⟩ := r1
    have p : ∀ a i, a ≠ t → st1.1 a i = st0.1 a i := fun a i ha => by rw [a1.1 a ha]
    have p2 : ∀ i, (i < 7 ∨ 11 < i) → st1.1 t i = st0.1 t i := a1.2.1
    refine ⟨by rw [p2 0 (by omega), g]; ((try simp only [true_and, and_true, if_true]); repeat (first | rw [if_pos (by omega)] | rw [if_neg (by omega)])); exact c1, by rw [p2 5 (by omega), g]; ((try simp only [true_and, and_true, if_true]); repeat (first | rw [if_pos (by omega)] | rw [if_neg (by omega)])); exact c2, by rw [p2 6 (by omega), g]; ((try simp only [true_and, and_true, if_true]); repeat (first | rw [if_pos (by omega)] | rw [if_neg (by omega)])); exact c3, r7, r8, r9, r10, r11, by rw [p2 14 (by omega), g]; ((try simp only [true_and, and_true, if_true]); repeat (first | rw [if_pos (by omega)] | rw [if_neg (by omega)])), fun i hi => ?_, fun k hk => ?_⟩
    · obtain ⟨e1, e2, e3, e4⟩ := c10 i hi
      exact ⟨by rw [p _ _ (by omega), g]; ((try simp only [true_and, and_true, if_true]); repeat (first | rw [if_pos (by omega)] | rw [if_neg (by omega)])); exact e1, by rw [p _ _ (by omega), g]; ((try simp only [true_and, and_true, if_true]); repeat (first | rw [if_pos (by omega)] | rw [if_neg (by omega)])); exact e2, by rw [p _ _ (by omega), g]; ((try simp only [true_and, and_true, if_true]); repeat (first | rw [if_pos (by omega)] | rw [if_neg (by omega)])); exact e3, by rw [p _ _ (by omega), g]; ((try simp only [true_and, and_true, if_true]); repeat (first | rw [if_pos (by omega)] | rw [if_neg (by omega)])); exact e4⟩
    · unfold upD
      by_cases e : k = dn
      · subst e
        rw [if_pos rfl]
        exact ⟨by rw [p _ _ (by omega), g]; ((try simp only [true_and, and_true, if_true]); repeat (first | rw [if_pos (by omega)] | rw [if_neg (by omega)])), by rw [p _ _ (by omega), g]; ((try simp only [true_and, and_true, if_true]); repeat (first | rw [if_pos (by omega)] | rw [if_neg (by omega)]))⟩
      · rw [if_neg e]
        obtain ⟨e1, e2⟩ := c11 k (by omega)
        exact ⟨by rw [p _ _ (by omega), g]; ((try simp only [true_and, and_true, if_true]); repeat (first | rw [if_pos (by omega)] | rw [if_neg (by omega)])); exact e1, by rw [p _ _ (by omega), g]; ((try simp only [true_and, and_true, if_true]); repeat (first | rw [if_pos (by omega)] | rw [if_neg (by omega)])); exact e2⟩
  · intro a ha
    simp only [List.mem_cons, List.mem_nil_iff, or_false, not_or] at ha
    rw [a1.1 a ha.1, hst0, gsC_ne _ _ _ ha.1, gsC_ne _ _ _ ha.2.2, gsC_ne _ _ _ ha.2.1]
  · rw [a1.2.2, hst0]
    rfl
theorem keep6 {F dn : Nat} {st : sw_St} (hF : 20000 ≤ F) (h0 : st.1 64 0 = nI dn) (hdn : dn < 40) : ∃ st1, j_X6_keepPast F st = some ((), st1) ∧ st1.1 64 0 = nI (dn + 1) ∧ (∀ j, j < 5 → st1.1 64 (7 + 5 * dn + j) = st.1 64 (1 + j)) ∧ (∀ i, i ≠ 0 → (i < 7 + 5 * dn ∨ 12 + 5 * dn ≤ i) → st1.1 64 i = st.1 64 i) ∧ (∀ a, a ≠ 64 → st1.1 a = st.1 a) ∧ st1.2 = st.2 := by
  unfold j_X6_keepPast
  refine lz2_ind (Φ := fun o => ∃ st1 : sw_St, o = some ((), st1) ∧ st1.1 64 0 = nI (dn + 1) ∧ (∀ j, j < 5 → st1.1 64 (7 + 5 * dn + j) = st.1 64 (1 + j)) ∧ (∀ i, i ≠ 0 → (i < 7 + 5 * dn ∨ 12 + 5 * dn ≤ i) → st1.1 64 i = st.1 64 i) ∧ (∀ a, a ≠ 64 → st1.1 a = st.1 a) ∧ st1.2 = st.2) (fun x _ => 5 - x.toNatClampNeg) (fun x s => ∃ i, i ≤ 5 ∧ x = nI i ∧ (∀ j, j < i → s.1 64 (7 + 5 * dn + j) = st.1 64 (1 + j)) ∧ (∀ k, (k < 7 + 5 * dn ∨ 12 + 5 * dn ≤ k) → s.1 64 k = st.1 64 k) ∧ (∀ a, a ≠ 64 → s.1 a = st.1 a) ∧ s.2 = st.2) (fun g x s hp ih => ?_) F 0 st ⟨0, by omega, rfl, fun j hj => absurd hj (Nat.not_lt_zero j), fun _ _ => rfl, fun _ _ => rfl, rfl⟩ (by show 5 - 0 < F; omega)
  obtain ⟨i, hi, rfl, p1, p2, p3, p4⟩ := hp
  have e0 : s.1 64 0 = nI dn := by rw [p2 0 (by omega), h0]
  rcases Nat.lt_or_ge i 5 with q | q
  · rw [if_neg (show ¬ (5 : Int32) ≤ nI i from nI_ge q (by decide)), e0, show (1 : Int32) + nI i = nI (1 + i) from nI_add 1 i, show (7 : Int32) + 5 * nI dn + nI i = nI (7 + 5 * dn + i) by rw [show (7 : Int32) = nI 7 from rfl, show (5 : Int32) = nI 5 from rfl, pk_mul, nI_add, nI_add], bnd_nI (by omega) (by decide), bnd_nI (by omega) (by decide), nI_clamp (by omega), nI_clamp (by omega)]
    simp only [nm]
    rw [nI_1]
    refine ih _ _ ⟨i + 1, by omega, rfl, fun j hj => ?_, fun k hk => ?_, fun a ha => ?_, p4⟩ ?_
    · rw [gsC]
      by_cases e : j = i
      · subst e
        rw [if_pos ⟨rfl, rfl⟩, p2 _ (by omega)]
      · rw [if_neg (by omega)]
        exact p1 j (by omega)
    · rw [gsC, if_neg (by omega)]
      exact p2 k hk
    · rw [gsC_ne _ _ _ ha]
      exact p3 a ha
    · rw [nI_clamp (by omega), nI_clamp (by omega)]
      omega
  · have e : i = 5 := by omega
    subst e
    rw [if_pos (show (5 : Int32) ≤ nI 5 by decide)]
    refine ⟨sw_setC s 64 0 (nI (dn + 1)), ?_, ?_, fun j hj => ?_, fun k hk0 hk => ?_, fun a ha => ?_, p4⟩
    · simp only [nm]
      rw [e0, nI_1]
    · rw [gsC, if_pos ⟨rfl, rfl⟩]
    · rw [gsC, if_neg (by omega)]
      exact p1 j hj
    · rw [gsC, if_neg (by omega)]
      exact p2 k hk
    · rw [gsC_ne _ _ _ ha]
      exact p3 a ha
/-- the reference's town after a deed -/
theorem mt_deed {n G dn fw ff : Nat} {kd sg : Nat → Nat} {dd : Nat → Nat × Nat} {d : Nat × Nat} {st st1 st2 : sw_St} (hm : pw_mt st 0 G dn (pw_aft n kd sg fw ff G dd)) (k0 : st1.1 64 0 = nI (dn + 1)) (k1 : ∀ j, j < 5 → st1.1 64 (7 + 5 * dn + j) = st.1 64 (1 + j)) (k2 : ∀ i, i ≠ 0 → (i < 7 + 5 * dn ∨ 12 + 5 * dn ≤ i) → st1.1 64 i = st.1 64 i) (a : at6 0 st1 st2) (r : TR st2 0 (pw_dst n kd sg G d (pw_aft n kd sg fw ff G dd dn))) : pw_mt st2 0 G (dn + 1) (pw_aft n kd sg fw ff G (upD dd dn d)) := by
  obtain ⟨m0, m1, m2, m3, m4, m5, m6, m7⟩ := hm
  obtain ⟨r1, r2, r3, r4, r5⟩ := r
  unfold pw_mt
  rw [aft_up1]
  refine ⟨by rw [a.2.1 0 (by omega)]; exact k0, r1, r2, r3, r4, r5, by rw [a.2.1 (0 + 6) (by omega), k2 (0 + 6) (by omega) (by omega)]; exact m6, fun k hk => ?_⟩
  rw [aft_up (by omega)]
  by_cases e : k = dn
  · subst e
    have q : ∀ j, j < 5 → st2.1 64 (0 + (7 + j) + 5 * k) = st.1 64 (1 + j) := fun j hj => by
      rw [a.2.1 _ (by omega), show 0 + (7 + j) + 5 * k = 7 + 5 * k + j by omega]
      exact k1 j hj
    exact ⟨(q 0 (by decide)).trans m1, (q 1 (by decide)).trans m2, (q 2 (by decide)).trans m3, (q 3 (by decide)).trans m4, (q 4 (by decide)).trans m5⟩
  · obtain ⟨a0, a1, a2, a3, a4⟩ := m7 k (by omega)
    have q : ∀ j, j < 5 → st2.1 64 (0 + (7 + j) + 5 * k) = st.1 64 (0 + (7 + j) + 5 * k) := fun j hj => by
      rw [a.2.1 _ (by omega), k2 _ (by omega) (by omega)]
    exact ⟨(q 0 (by decide)).trans a0, (q 1 (by decide)).trans a1, (q 2 (by decide)).trans a2, (q 3 (by decide)).trans a3, (q 4 (by decide)).trans a4⟩
