theorem strike5_n {F : Nat} {a : Int32} {st : sw_St} (h : nout a 11) : j_X5_isStrike F a st = some 0 := by
  unfold j_X5_isStrike
  simp only [jn, grd]
  by_cases q : a < 0
  · rw [if_pos q]; rfl
  · rw [if_neg q, if_pos]
    · rfl
    · rw [i_lt]
      rw [i_lt] at q
      rcases h with h | h
      · exact absurd h q
      · show 10 < a.toInt
        omega
theorem strike5_y {F i : Nat} {st : sw_St} (h : i ≤ 10) : j_X5_isStrike F (nI i) st = some 1 := by
  unfold j_X5_isStrike
  simp only [jn, grd]
  rw [if_neg (show ¬ nI i < 0 from nI_pos (by omega)), if_neg (show ¬ (10 : Int32) < nI i by rw [i_lt, nI_tI (by omega)]; show ¬ (10 : Int) < i; omega)]
  rfl
theorem in6_10n {F : Nat} {a : Int32} {st : sw_St} (h : nout a 11) : j_X6_in F a.toInt64 0 10 st = some 0 := in6_n (lo := 0) (hi := 10) rfl rfl (by rcases h with h | h; exact Or.inl h; exact Or.inr (by omega))
theorem in6_10y {F i : Nat} {st : sw_St} (h : i ≤ 10) : j_X6_in F (nI i).toInt64 0 10 st = some 1 := in6_y (lo := 0) (hi := 10) rfl rfl (by rw [nI_tI (by omega)]; omega) (by rw [nI_tI (by omega)]; omega)
/-- the town here, as both sides see it -/
def HR (st : sw_St) (n : Nat) (kd sg bd : Nat → Nat) (fw ff G : Nat) (x : pw_D) : Prop := pw_stat n kd sg bd fw ff ∧ okx n x ∧ x.2.2.1 ≤ 40 ∧ G < 64 ∧ cS st 15 n kd sg bd G ∧ CR st 15 x ∧ mS st n kd sg bd G ∧ TR st 0 x
theorem HR.hv {st : sw_St} {n : Nat} {kd sg bd : Nat → Nat} {fw ff G : Nat} {x : pw_D} (h : HR st n kd sg bd fw ff G x) : pw_stat n kd sg bd fw ff := h.1
theorem HR.hx {st : sw_St} {n : Nat} {kd sg bd : Nat → Nat} {fw ff G : Nat} {x : pw_D} (h : HR st n kd sg bd fw ff G x) : okx n x := h.2.1
theorem HR.hx3 {st : sw_St} {n : Nat} {kd sg bd : Nat → Nat} {fw ff G : Nat} {x : pw_D} (h : HR st n kd sg bd fw ff G x) : x.2.2.1 ≤ 40 := h.2.2.1
theorem HR.hG {st : sw_St} {n : Nat} {kd sg bd : Nat → Nat} {fw ff G : Nat} {x : pw_D} (h : HR st n kd sg bd fw ff G x) : G < 64 := h.2.2.2.1
theorem HR.hc {st : sw_St} {n : Nat} {kd sg bd : Nat → Nat} {fw ff G : Nat} {x : pw_D} (h : HR st n kd sg bd fw ff G x) : cS st 15 n kd sg bd G := h.2.2.2.2.1
theorem HR.hr {st : sw_St} {n : Nat} {kd sg bd : Nat → Nat} {fw ff G : Nat} {x : pw_D} (h : HR st n kd sg bd fw ff G x) : CR st 15 x := h.2.2.2.2.2.1
theorem HR.hm {st : sw_St} {n : Nat} {kd sg bd : Nat → Nat} {fw ff G : Nat} {x : pw_D} (h : HR st n kd sg bd fw ff G x) : mS st n kd sg bd G := h.2.2.2.2.2.2.1
theorem HR.ht {st : sw_St} {n : Nat} {kd sg bd : Nat → Nat} {fw ff G : Nat} {x : pw_D} (h : HR st n kd sg bd fw ff G x) : TR st 0 x := h.2.2.2.2.2.2.2
theorem II_HR {st : sw_St} (hI : II st) : ∃ n kd sg bd fw ff G x, HR st n kd sg bd fw ff G x := by
  obtain ⟨n, kd, sg, br, fw, ff, G, dd, dn, hh⟩ := II_here hI
  obtain ⟨hv, hst, hdyn, hct, hmt, hk⟩ := id hh
  have hdn := hdyn.2.1
  obtain ⟨hx, hx2⟩ := aft_ok (G := G) hv hdyn.2.2 (by omega)
  exact ⟨n, kd, sg, br, fw, ff, G, _, hv, hx, by omega, hdyn.1, ct_cS hct, ct_CR hct, mt_mS hst hmt, mt_TR hmt⟩
theorem HR.c {st s : sw_St} {n : Nat} {kd sg bd : Nat → Nat} {fw ff G : Nat} {x : pw_D} (h : HR st n kd sg bd fw ff G x) (e : ∀ a, a ∈ [15, 16, 17, 18, 19, 65, 66, 67] → s.1 a = st.1 a) (h63 : s.1 63 1 = st.1 63 1) (h64 : ∀ i, i < 828 → s.1 64 i = st.1 64 i) : HR s n kd sg bd fw ff G x := by
  refine ⟨h.hv, h.hx, h.hx3, h.hG, cS_c (fun j hj => e _ (by
    rcases (show j = 0 ∨ j = 1 ∨ j = 2 ∨ j = 3 ∨ j = 4 by omega) with rfl | rfl | rfl | rfl | rfl <;> decide)) h.hc, CR_c (e 15 (by decide)) h.hr, ?_, ?_⟩
  · unfold mS pw_st
    rw [h63, e 65 (by decide), e 66 (by decide), e 67 (by decide), h64 6 (by decide)]
    exact h.hm
  · unfold TR
    rw [h64 _ (by decide), h64 _ (by decide), h64 _ (by decide), h64 _ (by decide), h64 _ (by decide)]
    exact h.ht
theorem setC_self (st : sw_St) (a i : Nat) : sw_setC st a i (st.1 a i) = st := by
  refine Eq.trans ?_ (setA_self st a)
  show sw_setA st a (upd (st.1 a) i (st.1 a i)) = _
  congr 1
  funext j
  show (if j = i then st.1 a i else st.1 a j) = st.1 a j
  by_cases q : j = i
  · rw [if_pos q, q]
  · rw [if_neg q]
theorem II_beard {st s1 s2 : sw_St} {v : Int32} (hI : II st) (h1 : ch [60, 61] st s1) (h2 : s1.2 = st.2) (h3 : trf (sw_setC s1 0 14 v) s2) : II (sw_setC s2 63 9 v) := by
  have z : ∀ i, i ≠ 9 → (sw_setC s2 63 9 v).1 63 i = st.1 63 i := fun i hi => by rw [gsC, if_neg (by omega), h3.1 63 (by decide) (by decide), gsC_ne _ _ _ (by decide), h1 63 (by decide)]
  have z0 : (sw_setC s2 63 9 v).1 0 = (sw_setC s1 0 14 v).1 0 := by rw [gsC_ne _ _ _ (by decide), h3.1 0 (by decide) (by decide)]
  refine II_scr hI (fun a ha => ?_) ?_ ?_ (z 1 (by decide)) (z 12 (by decide)) (fun i hi => ?_) ?_ ?_
  · have ha2 : a ≠ 0 ∧ a ≠ 63 ∧ a ≠ 64 ∧ a ≠ 75 ∧ a ∉ [60, 61] := by
      simp only [sN, List.mem_cons, not_or, List.mem_nil_iff, or_false] at ha ⊢
      omega
    rw [gsC_ne _ _ _ ha2.2.1, h3.1 a ha2.2.2.1 ha2.2.2.2.1, gsC_ne _ _ _ ha2.1, h1 a ha2.2.2.2.2]
  · rw [z0, gsC, if_neg (by decide), h1 0 (by decide)]
  · rw [z0, gsC, if_pos ⟨rfl, rfl⟩, gsC, if_pos ⟨rfl, rfl⟩]
  · rw [gsC_ne _ _ _ (by decide), h3.2.1 i hi, gsC_ne _ _ _ (by decide), h1 64 (by decide)]
  · show s2.2.1 0 15 = s2.2.1 63 10
    rw [h3.2.2]
    show s1.2.1 0 15 = s1.2.1 63 10
    rw [h2]
    exact hI.2.2.1.2.2.2.1
  · show s2.2.1 0 16 = s2.2.1 63 11
    rw [h3.2.2]
    show s1.2.1 0 16 = s1.2.1 63 11
    rw [h2]
    exact hI.2.2.1.2.2.2.2
theorem II_ch {st s : sw_St} (hI : II st) (h : ch sN st s) (h2 : s.2 = st.2) : II s := by
  refine II_scr hI (fun a ha => h a (by simp only [List.mem_cons, not_or] at ha; exact ha.2.2.2)) (by rw [h 0 (by decide)]) (by rw [h 0 (by decide), h 63 (by decide)]; exact hI.2.2.1.1) (by rw [h 63 (by decide)]) (by rw [h 63 (by decide)]) (fun i hi => by rw [h 64 (by decide)]) (by rw [h2]; exact hI.2.2.1.2.2.2.1) (by rw [h2]; exact hI.2.2.1.2.2.2.2)
theorem ch.mono {S T : List Nat} {st s : sw_St} (h : ch S st s) (hs : ∀ a, a ∈ S → a ∈ T) : ch T st s := fun a ha => h a (fun z => ha (hs a z))
theorem HR_6061 {st s1 : sw_St} {n : Nat} {kd sg bd : Nat → Nat} {fw ff G : Nat} {x : pw_D} {v : Int32} (h : HR st n kd sg bd fw ff G x) (h1 : ch [60, 61] st s1) : HR (sw_setC s1 0 14 v) n kd sg bd fw ff G x := by
  have e : ∀ a, a ∉ [0, 60, 61] → (sw_setC s1 0 14 v).1 a = st.1 a := fun a ha => by
    simp only [List.mem_cons, not_or] at ha
    rw [gsC_ne _ _ _ ha.1, h1 a (by simp only [List.mem_cons, not_or]; exact ha.2)]
  exact h.c (fun a ha => e a ((by decide : ∀ a, a ∈ [15, 16, 17, 18, 19, 65, 66, 67] → a ∉ [0, 60, 61]) a ha)) (by rw [e 63 (by decide)]) (fun i hi => by rw [e 64 (by decide)])
/-- before sure, ask and came -/
theorem beard_pre {F : Nat} {a1 : Int32} {st : sw_St} (hF : 20000 ≤ F) (hI : II st) :
    (∃ (r : Int32) (s1 s2 : sw_St), ¬ r = 0 ∧ j_X5_refusedBeard F a1 st = some (r, s1) ∧ j_X6_noFits F a1 s1 = some (r, s2) ∧ II s2) ∨
    ∃ n kd sg bd fw ff G x a s1, HR st n kd sg bd fw ff G x ∧ n ≠ 0 ∧ a ≤ 10 ∧ foC (pw_fit n kd sg G x a) 64 ≠ 0 ∧ j_X5_refusedBeard F a1 st = some (0, s1) ∧ tly (pw_fit n kd sg G x a) (pw_out n x.2.2.2.2) 64 s1 ∧ ch [60, 61] st s1 ∧ s1.2 = st.2 ∧
      ∀ v : Int32, ∃ s2, j_X6_noFits F a1 (sw_setC s1 0 14 v) = some (0, s2) ∧ (∀ S, S < 64 → s2.1 75 S = if pw_fit n kd sg G x a S then 1 else 0) ∧ trf (sw_setC s1 0 14 v) s2 := by
  obtain ⟨n, kd, sg, br, fw, ff, G, x, H⟩ := II_HR hI
  have hn := H.hv.1
  rcases nix a1 11 with h | ⟨a, ha, rfl⟩
  · refine Or.inl ⟨-1, st, st, by decide, ?_, ?_, hI⟩
    · unfold j_X5_refusedBeard
      rw [strike5_n h]
      rfl
    · unfold j_X6_noFits
      rw [in6_10n h]
      rfl
  by_cases h0 : n = 0
  · refine Or.inl ⟨-4, st, st, by decide, ?_, ?_, hI⟩
    · unfold j_X5_refusedBeard
      rw [strike5_y (by omega), bo_some, if_neg (by decide), H.hc.1, if_pos ((n0_iff hn).mpr h0)]
    · unfold j_X6_noFits
      rw [in6_10y (by omega), bo_some]
      simp only [jn]
      rw [if_neg (by decide), H.hm.1.1, if_pos ((n0_iff hn).mpr h0)]
  have n0 : ¬ nI n = 0 := fun z => h0 ((n0_iff hn).mp z)
  obtain ⟨s1, j1, t1, c1, z1⟩ := search5 (a := a) hF H.hv H.hc H.hr H.hx (by omega)
  have hC := foC_le (pw_fit n kd sg G x a) 64
  have r5 : j_X5_refusedBeard F (nI a) st = if foC (pw_fit n kd sg G x a) 64 = 0 then some (-3, fd5 s1 4) else some (0, s1) := by
    unfold j_X5_refusedBeard
    rw [strike5_y (by omega), bo_some, if_neg (by decide), H.hc.1, if_neg n0, j1, bd_some]
    simp only [jn]
    rw [t1.1]
    by_cases q : foC (pw_fit n kd sg G x a) 64 = 0
    · rw [q, if_pos (by decide), if_pos rfl, show (4 : Int32) = nI 4 from rfl, found5 (by decide)]
      rfl
    · rw [if_neg (show ¬ nI (foC (pw_fit n kd sg G x a) 64) = 0 from fun z => q ((nI_eq (b := 0) (by omega) (by decide)).mp z)), if_neg q]
  have r6 : ∀ s' : sw_St, HR s' n kd sg br fw ff G x → ∃ s2, j_X6_layFits F (nI a) s' = some (nI (foC (pw_fit n kd sg G x a) 64), s2) ∧ (∀ S, S < 64 → s2.1 75 S = if pw_fit n kd sg G x a S then 1 else 0) ∧ trf s' s2 ∧ j_X6_noFits F (nI a) s' = if foC (pw_fit n kd sg G x a) 64 = 0 then some (-3, fd6 s2 4) else some (0, s2) := fun s' H' => by
    obtain ⟨s2, j2, p2, f2⟩ := layFits6 (a := a) hF H'.hv H'.hm H'.hG H'.hx (by have := H'.hx3; omega) H'.ht (by omega)
    refine ⟨s2, j2, p2, f2, ?_⟩
    unfold j_X6_noFits
    rw [in6_10y (by omega), bo_some]
    simp only [jn]
    rw [if_neg (by decide), H'.hm.1.1, if_neg n0, j2, bd_some]
    by_cases q : foC (pw_fit n kd sg G x a) 64 = 0
    · rw [q, if_pos (by decide), if_pos rfl, show (4 : Int32) = nI 4 from rfl, find6 (by decide)]
      rfl
    · rw [if_neg (show ¬ nI (foC (pw_fit n kd sg G x a) 64) = 0 from fun z => q ((nI_eq (b := 0) (by omega) (by decide)).mp z)), if_neg q]
  by_cases q : foC (pw_fit n kd sg G x a) 64 = 0
  · have H1 : HR (fd5 s1 4) n kd sg br fw ff G x := by
      have e : ∀ a, a ∉ [0, 60, 61, 62] → (fd5 s1 4).1 a = st.1 a := fun a ha => by
        simp only [List.mem_cons, not_or] at ha
        funext i
        rw [fd5_o ha.1 ha.2.2.2.1, c1 a (by simp only [List.mem_cons, not_or]; exact ⟨ha.2.1, ha.2.2.1, ha.2.2.2.2⟩)]
      exact H.c (fun a ha => e a ((by decide : ∀ a, a ∈ [15, 16, 17, 18, 19, 65, 66, 67] → a ∉ [0, 60, 61, 62]) a ha)) (by rw [e 63 (by decide)]) (fun i hi => by rw [e 64 (by decide)])
    obtain ⟨s2, j2, p2, f2, e2⟩ := r6 _ H1
    rw [if_pos q] at r5 e2
    refine Or.inl ⟨-3, fd5 s1 4, fd6 s2 4, by decide, r5, e2, ?_⟩
    -- the finding on top of a state with scratch changed only
    obtain ⟨s3, h3⟩ : ∃ s3 : sw_St, s3 = sw_setA (sw_setA s1 64 (s2.1 64)) 75 (s2.1 75) := ⟨_, rfl⟩
    have hI3 : II s3 := by
      refine II_scr hI (fun a ha => ?_) ?_ ?_ ?_ ?_ (fun i hi => ?_) ?_ ?_
      · have ha2 : a ≠ 64 ∧ a ≠ 75 ∧ a ∉ [60, 61] := by
          simp only [sN, List.mem_cons, not_or, List.mem_nil_iff, or_false] at ha ⊢
          omega
        rw [h3, gsA_ne _ _ ha2.2.1, gsA_ne _ _ ha2.1, c1 a ha2.2.2]
      · rw [h3, gsA_ne _ _ (by decide), gsA_ne _ _ (by decide), c1 0 (by decide)]
      · rw [h3, gsA_ne _ _ (by decide), gsA_ne _ _ (by decide), gsA_ne _ _ (by decide), gsA_ne _ _ (by decide), c1 0 (by decide), c1 63 (by decide)]
        exact hI.2.2.1.1
      · rw [h3, gsA_ne _ _ (by decide), gsA_ne _ _ (by decide), c1 63 (by decide)]
      · rw [h3, gsA_ne _ _ (by decide), gsA_ne _ _ (by decide), c1 63 (by decide)]
      · rw [h3, gsA_ne _ _ (by decide), gsA, if_pos rfl, f2.2.1 i hi, fd5_o (by decide) (by decide), c1 64 (by decide)]
      · rw [h3]; show s1.2.1 0 15 = s1.2.1 63 10; rw [z1]; exact hI.2.2.1.2.2.2.1
      · rw [h3]; show s1.2.1 0 16 = s1.2.1 63 11; rw [z1]; exact hI.2.2.1.2.2.2.2
    have hfd := II_fd hI3 (show 4 < 6 by decide)
    have e32 : fd5 s3 4 = s2 := by
      have e : ∀ a, a ≠ 64 → a ≠ 75 → (fd5 s3 4).1 a = (fd5 s1 4).1 a := fun a h1 h2 => by
        funext i
        unfold fd5
        rw [gsC, gsC, gsC, gsC, h3, gsA_ne _ _ h2, gsA_ne _ _ h1, gsA_ne _ _ (by decide), gsA_ne _ _ (by decide)]
      refine Prod.ext (funext fun a => ?_) ?_
      · by_cases h64 : a = 64
        · subst h64
          funext i
          rw [fd5_o (by decide) (by decide), h3, gsA_ne _ _ (by decide), gsA, if_pos rfl]
        · by_cases h75 : a = 75
          · subst h75
            funext i
            rw [fd5_o (by decide) (by decide), h3, gsA, if_pos rfl]
          · rw [e a h64 h75, f2.1 a h64 h75]
      · rw [f2.2.2]
        show s3.2 = s1.2
        rw [h3]
        rfl
    rw [e32] at hfd
    exact hfd
  · rw [if_neg q] at r5
    refine Or.inr ⟨n, kd, sg, br, fw, ff, G, x, a, s1, H, h0, by omega, q, r5, t1, c1, z1, fun v => ?_⟩
    obtain ⟨s2, j2, p2, f2, e2⟩ := r6 (sw_setC s1 0 14 v) (HR_6061 H c1)
    rw [if_neg q] at e2
    exact ⟨s2, e2, p2, f2⟩
theorem ne01 {c : Bool} : ((if c then (1 : Int32) else 0) = 0) ↔ c = false := by cases c <;> decide
theorem o_31 {F : Nat} (hF : 20000 ≤ F) : sm_31 II F := by
  intro a1 st hI
  unfold j_X5_came j_X6_came
  rcases beard_pre (a1 := a1) hF hI with ⟨r, s1, s2, hr, j1, j2, h2⟩ | ⟨n, kd, sg, br, fw, ff, G, x, a, s1, H, h0, ha, hC, j1, t1, c1, z1, hp⟩
  · exact ⟨r, s1, s2, by rw [j1, bd_some, if_neg hr], by rw [j2, bd_some, if_neg hr], h2⟩
  obtain ⟨s2, j2, p2, f2⟩ := hp (nI (foX (pw_fit n kd sg G x a) 64))
  generalize hP : pw_fit n kd sg G x a = P at *
  have hM : foM P 99 64 = foM P 6 64 := by
    have h1 : ∀ k, foM P 6 k = min 6 (foM P 99 k) ∧ (foC P k ≠ 0 → foM P 99 k ≤ 6) := fun k => by
      induction k with
      | zero => exact ⟨rfl, fun h => absurd rfl h⟩
      | succ k ih =>
        have e1 : foM P 6 (k + 1) = if P k then min (pw_pop k) (foM P 6 k) else foM P 6 k := rfl
        have e2 : foM P 99 (k + 1) = if P k then min (pw_pop k) (foM P 99 k) else foM P 99 k := rfl
        have e3 : foC P (k + 1) = if P k then foC P k + 1 else foC P k := rfl
        have hp6 := pop_le k
        rw [e1, e2, e3]
        cases P k
        · exact ih
        · rw [if_pos rfl, if_pos rfl, ih.1]
          exact ⟨by omega, fun _ => by omega⟩
    have := h1 64
    have h3 := this.2 hC
    omega
  refine ⟨nI (foM P 6 64), sw_setC s1 0 14 (nI (foX P 64)), sw_setC s2 63 9 (nI (foX P 64)), ?_, ?_, II_beard hI c1 z1 f2⟩
  · rw [j1, bd_some, if_pos rfl, t1.2.2.2.2.2.1]
    simp only [nm]
    rw [gsC, if_neg (by decide), t1.2.2.2.2.1]
  · rw [j2, bd_some, if_pos rfl]
    refine lz3_ind (Φ := fun o => o = some (nI (foM P 6 64), sw_setC s2 63 9 (nI (foX P 64)))) (fun _ _ i => 100 - i.toNatClampNeg) (fun u w c => ∃ k, k ≤ 64 ∧ c = nI k ∧ u = nI (foM P 99 k) ∧ w = nI (foX P k)) (fun g u w c hq ih => ?_) F _ _ _ ⟨0, by omega, rfl, rfl, rfl⟩ (by show 100 - 0 < F; omega)
    obtain ⟨k, hk, rfl, rfl, rfl⟩ := hq
    by_cases q : k = 64
    · subst q
      rw [if_pos (by decide), hM]
      rfl
    have hm9 := foM_le (P := P) (z := 99) k
    have hx6 := foX_le (P := P) k
    have hp6 := pop_le k
    rw [if_neg (show ¬ (64 : Int32) ≤ nI k from nI_ge (b := 64) (by omega) (by decide)), bits6 hF (by omega), bo_some, bnd_nI (by omega) (by decide), nI_clamp (by omega), p2 k (by omega)]
    simp only [jn, nm]
    rw [bnd_nI (by omega) (by decide), bnd_nI (by omega) (by decide), nI_1]
    have e2 : foM P 99 (k + 1) = if P k then min (pw_pop k) (foM P 99 k) else foM P 99 k := rfl
    have e3 : foX P (k + 1) = if P k then max (foX P k) (pw_pop k) else foX P k := rfl
    have fin : ∀ u w, u = foM P 99 (k + 1) → w = foX P (k + 1) → g (nI u) (nI w) (nI (k + 1)) = some (nI (foM P 6 64), sw_setC s2 63 9 (nI (foX P 64))) := fun u w hu hw => ih _ _ _ ⟨k + 1, by omega, rfl, by rw [hu], by rw [hw]⟩ (by rw [nI_clamp (by omega), nI_clamp (by omega)]; omega)
    cases hPk : P k
    · rw [hPk] at e2 e3
      rw [if_neg (show ¬ false = true by decide), if_pos rfl, if_pos rfl]
      exact fin _ _ e2.symm e3.symm
    · rw [hPk, if_pos rfl] at e2 e3
      rw [if_pos (show true = true from rfl), if_neg (show ¬ (1 : Int32) = 0 by decide), if_neg (show ¬ (1 : Int32) = 0 by decide), if_neg (show ¬ (1 : Int32) = 0 by decide)]
      by_cases q1 : foM P 99 k ≤ pw_pop k
      · rw [if_pos (show nI (foM P 99 k) ≤ nI (pw_pop k) from nI_le q1 (by omega))]
        by_cases q2 : pw_pop k ≤ foX P k
        · rw [if_pos (show nI (pw_pop k) ≤ nI (foX P k) from nI_le q2 (by omega))]
          exact fin _ _ (by omega) (by omega)
        · rw [if_neg (show ¬ nI (pw_pop k) ≤ nI (foX P k) from nI_ge (by omega) (by omega))]
          exact fin _ _ (by omega) (by omega)
      · rw [if_neg (show ¬ nI (foM P 99 k) ≤ nI (pw_pop k) from nI_ge (by omega) (by omega))]
        by_cases q2 : pw_pop k ≤ foX P k
        · rw [if_pos (show nI (pw_pop k) ≤ nI (foX P k) from nI_le q2 (by omega))]
          exact fin _ _ (by omega) (by omega)
        · rw [if_neg (show ¬ nI (pw_pop k) ≤ nI (foX P k) from nI_ge (by omega) (by omega))]
          exact fin _ _ (by omega) (by omega)
