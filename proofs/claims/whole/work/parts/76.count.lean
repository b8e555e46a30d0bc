theorem b_xor0 : ∀ s : Fin 64, ∀ j : Fin 6, nI s.val ^^^ nI (2 ^ j.val) = nI (s.val ^^^ 2 ^ j.val) := by decide +kernel
theorem b_xor1 : ∀ s : Fin 64, ∀ j : Fin 6, s.val ^^^ 2 ^ j.val < 64 ∧ ∀ i : Fin 6, (s.val ^^^ 2 ^ j.val).testBit i.val = (s.val.testBit i.val != decide (i.val = j.val)) := by decide +kernel
theorem kp_r {st st1 : sw_St} {n : Nat} {kd sg bd : Nat → Nat} {fw ff : Nat} (h : ∀ k, k < 3 → pw_kp st n kd sg bd fw ff k) (e : ∀ a, 30 ≤ a → a < 52 → st1.1 a = st.1 a) (e64 : ∀ i, 207 ≤ i → i < 828 → st1.1 64 i = st.1 64 i) : ∀ k, k < 3 → pw_kp st1 n kd sg bd fw ff k := kp_c (fun x hx => by
    have := (by decide : ∀ x, x ∈ [30, 31, 32, 33, 34, 35, 36, 37, 38, 39, 40, 41, 42, 43, 44, 45, 46, 47, 48, 49, 50, 51] → 30 ≤ x ∧ x < 52) x hx
    exact e x this.1 this.2) e64 h
theorem o_12 {F : Nat} (hF : 20000 ≤ F) : sm_12 II F := by
  intro a1 st hI
  obtain ⟨n, kd, sg, bd, fw, ff, G, dd, dn, hh⟩ := II_here hI
  obtain ⟨hv, hst, hdyn, hct, hmt, hk⟩ := id hh
  have hn := hv.1
  have hdn := hdyn.2.1
  have hG := hdyn.1
  unfold j_X5_gate j_X6_gate
  rcases nix a1 n with h | ⟨i, hi, rfl⟩
  · exact ⟨-1, st, st, by rw [has5_n hct.1 hn h]; rfl, by rw [isS6_n hst.1 hn h]; rfl, hI⟩
  by_cases h0 : dn = 0
  · subst h0
    have hb : st.1 18 i = nI (if G.testBit i then 1 else 0) := (hct.2.2.2.2.2.2.2.2.2.1 i hi).2.2.1
    have hg6 : st.1 64 6 = nI G := hmt.2.2.2.2.2.2.1
    have hx1 : nI G ^^^ nI (2 ^ i) = nI (G ^^^ 2 ^ i) := b_xor0 ⟨G, hG⟩ ⟨i, by omega⟩
    obtain ⟨hx2, hx3⟩ := b_xor1 ⟨G, hG⟩ ⟨i, by omega⟩
    have hxi : (G ^^^ 2 ^ i).testBit i = !G.testBit i := by
      have : (G ^^^ 2 ^ i).testBit i = (G.testBit i != decide (i = i)) := hx3 ⟨i, by omega⟩
      rw [this]; simp
    refine ⟨nI (if G.testBit i then 1 else 0), sw_setC st 18 i (1 - nI (if G.testBit i then 1 else 0)), sw_setC (sw_setC st 18 i (1 - nI (if G.testBit i then 1 else 0))) 64 6 (nI (G ^^^ 2 ^ i)), ?_, ?_, ?_⟩
    · rw [has5_y hct.1 hn hi, bo_some, if_neg (by decide), ct_dn hct, if_pos (show nI 0 ≤ 0 by decide), bnd_nI (by omega) (by decide), nI_clamp (by omega), hb]
      simp only [nm]
      rw [bnd_nI (by omega) (by decide)]
    · rw [isS6_y (by rw [gsC_ne _ _ _ (by decide)]; exact hst.1) hn hi, bo_some, if_neg (by decide), gsC_ne (a := 64) _ _ _ (by decide), show st.1 64 0 = nI 0 from hmt.1, if_pos (show nI 0 ≤ 0 by decide), hg6, b_one (by omega), hx1]
      simp only [nm]
      rw [gsC, if_pos ⟨rfl, rfl⟩, b_get hx2 (by omega), hxi]
      cases G.testBit i <;> rfl
    · have e : ch [18, 64] st (sw_setC (sw_setC st 18 i (1 - nI (if G.testBit i then 1 else 0))) 64 6 (nI (G ^^^ 2 ^ i))) := ((ch.rf [18, 64] st).C _ _ (by decide)).C _ _ (by decide)
      obtain ⟨c1, c2, c3, c4, c5, c6, c7, c8, c9, c10, c11⟩ := id hct
      obtain ⟨m0, m1, m2, m3, m4, m5, m6, m7⟩ := id hmt
      refine II_town (G := G ^^^ 2 ^ i) (dd := dd) (dn := 0) hI hv hst hk (fun a ha => e a (by simp only [List.mem_cons, List.mem_nil_iff, or_false, not_or] at ha ⊢; exact ⟨ha.2.2.2.1, ha.2.2.2.2.2.2.2⟩)) rfl (fun j h1 h2 => by rw [gsC, if_neg (by omega), gsC, if_neg (by omega)]) ⟨hx2, by omega, hdyn.2.2⟩ ?_ ?_
      · unfold pw_ct
        rw [e 15 (by decide), e (15 + 1) (by decide), e (15 + 2) (by decide), e (15 + 4) (by decide), e (15 + 5) (by decide), e (15 + 6) (by decide)]
        refine ⟨c1, c2, c3, c4, c5, c6, c7, c8, c9, fun j hj => ⟨(c10 j hj).1, (c10 j hj).2.1, ?_, (c10 j hj).2.2.2⟩, c11⟩
        have hxj : (G ^^^ 2 ^ i).testBit j = (G.testBit j != decide (j = i)) := hx3 ⟨j, by omega⟩
        rw [hxj, gsC, if_neg (by omega), gsC]
        by_cases q : j = i
        · subst q
          rw [if_pos ⟨rfl, rfl⟩]
          cases G.testBit j <;> simp <;> rfl
        · rw [if_neg (by omega), (c10 j hj).2.2.1]
          simp [q]
      · have q : ∀ j, j ≠ 6 → (sw_setC (sw_setC st 18 i (1 - nI (if G.testBit i then 1 else 0))) 64 6 (nI (G ^^^ 2 ^ i))).1 64 j = st.1 64 j := fun j hj => by rw [gsC, if_neg (by omega), gsC, if_neg (by omega)]
        exact ⟨by rw [q _ (by decide)]; exact m0, by rw [q _ (by decide)]; exact m1, by rw [q _ (by decide)]; exact m2, by rw [q _ (by decide)]; exact m3, by rw [q _ (by decide)]; exact m4, by rw [q _ (by decide)]; exact m5, by rw [gsC, if_pos ⟨rfl, rfl⟩], fun k hk => absurd hk (Nat.not_lt_zero k)⟩
  · exact ⟨-4, st, st, by rw [has5_y hct.1 hn hi, bo_some, if_neg (by decide), ct_dn hct, if_neg (fun z => h0 ((pos_iff (by omega)).mp z))], by rw [isS6_y hst.1 hn hi, bo_some, if_neg (by decide), hmt.1, if_neg (fun z => h0 ((pos_iff (by omega)).mp z))], hI⟩
def pw_tt (n : Nat) (kd sg bd : Nat → Nat) (G : Nat) (x : pw_D) (i k : Nat) : Nat := if k = 0 then kd i else if k = 1 then sg i else if k = 2 then (if G.testBit i then 1 else 0) else if k = 3 then bd i else if k = 4 then (if x.2.2.2.2.testBit i then 1 else 0) else pw_trn n kd sg i x.1 x.2.2.2.2
theorem tr_both {F i k : Nat} {n fw ff G dn : Nat} {kd sg bd : Nat → Nat} {dd : Nat → Nat × Nat} {st : sw_St} (hF : 20000 ≤ F) (hh : hereT st n kd sg bd fw ff G dd dn) (hi : i < n) (hk : k < 6) : j_X4_trait F 15 (nI i) (nI k) st = some (nI (pw_tt n kd sg bd G (pw_aft n kd sg fw ff G dd dn) i k)) ∧ j_X6_toldOf F (nI i) (nI k) st = some (nI (pw_tt n kd sg bd G (pw_aft n kd sg fw ff G dd dn) i k)) := by
  obtain ⟨hv, hst, hdyn, hct, hmt, -⟩ := hh
  have hn := hv.1
  have hdn := hdyn.2.1
  obtain ⟨hx, hx2⟩ := aft_ok (G := G) hv hdyn.2.2 (by omega)
  have hs := ok64 hn hx.2.2.2.2
  obtain ⟨c1, c2, c3, c4⟩ := hct.2.2.2.2.2.2.2.2.2.1 i hi
  obtain ⟨d1, d2, d3⟩ := hst.2 i hi
  obtain ⟨r1, r2, r3, r4, r5⟩ := ct_CR hct
  obtain ⟨t1, t2, t3, t4, t5⟩ := mt_TR hmt
  have hg6 : st.1 64 6 = nI G := hmt.2.2.2.2.2.2.1
  unfold j_X4_trait j_X6_toldOf
  rw [bnd_nI (by omega) (by decide), bnd_nI (by omega) (by decide), bnd_nI (by omega) (by decide), bnd_nI (by omega) (by decide), bnd_nI (by omega) (by decide), bnd_nI (by omega) (by decide), bnd_nI (by omega) (by decide), nI_clamp (show i < 2 ^ 31 by omega), c1, c2, c3, c4, d1, d2, d3]
  rcases (show k = 0 ∨ k = 1 ∨ k = 2 ∨ k = 3 ∨ k = 4 ∨ k = 5 by omega) with rfl | rfl | rfl | rfl | rfl | rfl
  · exact ⟨rfl, rfl⟩
  · exact ⟨rfl, rfl⟩
  · refine ⟨rfl, ?_⟩
    rw [hg6, b_get hdyn.1 (by omega)]
    rfl
  · exact ⟨rfl, rfl⟩
  · refine ⟨?_, ?_⟩
    · rw [isIn5 r5 hs (by omega)]
      show _ = some (nI (if (pw_aft n kd sg fw ff G dd dn).2.2.2.2.testBit i then 1 else 0))
      cases (pw_aft n kd sg fw ff G dd dn).2.2.2.2.testBit i <;> rfl
    · rw [show st.1 64 5 = nI _ from t5, b_get hs (by omega)]
      rfl
  · refine ⟨?_, ?_⟩
    · rw [r1, r5, turns5 hF hv (ct_cS hct) hi hx.1 hs]
      rfl
    · rw [show (0 : Int32) = nI 0 from rfl, turns6 (b := 0) hF hv (mt_mS hst hmt) (by omega) hi hx.1 hs t1 t5]
      rfl
theorem II_told {st : sw_St} (hI : II st) (v : Int32) : II (sw_setC (sw_setC st 0 14 v) 63 9 v) := by
  refine II_tell hI (v := v) (((ch.rf [0, 63] st).C _ _ (by decide)).C _ _ (by decide)) rfl ?_ ?_ ?_ ?_ ?_
  · rw [gsC, if_neg (by decide), gsC, if_pos ⟨rfl, rfl⟩]
  · rw [gsC, if_pos ⟨rfl, rfl⟩]
  · rw [gsC, if_neg (by decide), gsC, if_neg (by decide)]
  · rw [gsC, if_neg (by decide), gsC, if_neg (by decide)]
  · rw [gsC, if_neg (by decide), gsC, if_neg (by decide)]
theorem hereT_told {st : sw_St} {v : Int32} {n fw ff G dn : Nat} {kd sg bd : Nat → Nat} {dd : Nat → Nat × Nat} (hh : hereT st n kd sg bd fw ff G dd dn) : hereT (sw_setC st 0 14 v) n kd sg bd fw ff G dd dn := by
  have e : ∀ a, a ≠ 0 → (sw_setC st 0 14 v).1 a = st.1 a := fun a ha => gsC_ne _ _ _ ha
  obtain ⟨hv, hst, hdyn, hct, hmt, hk⟩ := hh
  refine ⟨hv, ?_, hdyn, ct_c (fun j hj => e _ (by omega)) hct, ?_, kp_r hk (fun a h1 h2 => e a (by omega)) (fun i h1 h2 => by rw [e 64 (by decide)])⟩
  · unfold pw_st
    rw [e 63 (by decide), e 65 (by decide), e 66 (by decide), e 67 (by decide)]
    exact hst
  · unfold pw_mt
    rw [e 64 (by decide)]
    exact hmt
theorem o_10 {F : Nat} (hF : 20000 ≤ F) : sm_10 II F := by
  intro a1 a2 st hI
  obtain ⟨n, kd, sg, bd, fw, ff, G, dd, dn, hh⟩ := II_here hI
  obtain ⟨hv, hst, hdyn, hct, hmt, hk⟩ := id hh
  have hn := hv.1
  unfold j_X5_stranger j_X6_stranger
  simp only [jn]
  rcases nix a1 n with h | ⟨i, hi, rfl⟩
  · exact ⟨-1, st, st, by rw [has5_n hct.1 hn h]; rfl, by rw [isS6_n hst.1 hn h]; rfl, hI⟩
  rcases nix a2 6 with h | ⟨k, hk6, rfl⟩
  · refine ⟨-1, st, st, ?_, ?_, hI⟩
    · rw [has5_y hct.1 hn hi, bo_some, if_neg (by decide)]
      by_cases q : a2 < 0
      · rw [if_pos q]
      · rw [if_neg q, if_neg]
        rw [i_lt]
        rw [i_lt] at q
        rcases h with h | h
        · exact absurd h q
        · show ¬ a2.toInt < 6
          omega
    · rw [isS6_y hst.1 hn hi, bo_some, if_neg (by decide), in6_n (lo := 0) (hi := 5) rfl rfl (by rcases h with h | h; exact Or.inl h; exact Or.inr (by omega))]
      rfl
  have v1 := (tr_both hF hh hi hk6).1
  obtain ⟨w, hw⟩ : ∃ w, w = nI (pw_tt n kd sg bd G (pw_aft n kd sg fw ff G dd dn) i k) := ⟨_, rfl⟩
  have w2 := (tr_both (st := sw_setC st 0 14 w) hF (hereT_told hh) hi hk6).2
  rw [← hw] at v1 w2
  refine ⟨1, sw_setC st 0 14 w, sw_setC (sw_setC st 0 14 w) 63 9 w, ?_, ?_, II_told hI w⟩
  · rw [has5_y hct.1 hn hi, bo_some, if_neg (by decide), if_neg (show ¬ nI k < 0 from nI_pos (by omega)), if_pos (show nI k < 6 from nI_lt (b := 6) hk6 (by decide)), v1]
    rfl
  · rw [isS6_y (by rw [gsC_ne _ _ _ (by decide)]; exact hst.1) hn hi, bo_some, if_neg (by decide), in6_y (lo := 0) (hi := 5) rfl rfl (by rw [nI_tI (by omega)]; omega) (by rw [nI_tI (by omega)]; omega), bo_some, if_neg (by decide), w2, bo_some]
    rfl
theorem isOf6 {F i k n G : Nat} {kd sg bd : Nat → Nat} {fw ff : Nat} {st : sw_St} (hv : pw_stat n kd sg bd fw ff) (hm : pw_st st n kd sg bd) (hi : i < n) (hk : k ≤ 5) : j_X6_isOf F (nI i) (nI k) st = some (if pw_of (kd i) k then 1 else 0) := by
  have hn := hv.1
  have h5 := (hv.2.1 i hi).1
  unfold j_X6_isOf
  simp only [jn, grd]
  rw [bnd_nI (by omega) (by decide), bnd_nI (by omega) (by decide), bnd_nI (by omega) (by decide), nI_clamp (by omega), (hm.2 i hi).1]
  exact (by decide +kernel : ∀ a b : Fin 6, (if nI a.val = nI b.val then (if (1 : Int32) = 0 ∨ (1 : Int32) = 1 then some (1 : Int32) else none) else if nI b.val = 1 then (if nI a.val = 4 then (if (1 : Int32) = 0 ∨ (1 : Int32) = 1 then some (1 : Int32) else none) else if nI b.val = 2 then (if nI a.val = 5 then (if (1 : Int32) = 0 ∨ (1 : Int32) = 1 then some (1 : Int32) else none) else (if (0 : Int32) = 0 ∨ (0 : Int32) = 1 then some (0 : Int32) else none)) else (if (0 : Int32) = 0 ∨ (0 : Int32) = 1 then some (0 : Int32) else none)) else if nI b.val = 2 then (if nI a.val = 5 then (if (1 : Int32) = 0 ∨ (1 : Int32) = 1 then some (1 : Int32) else none) else (if (0 : Int32) = 0 ∨ (0 : Int32) = 1 then some (0 : Int32) else none)) else (if (0 : Int32) = 0 ∨ (0 : Int32) = 1 then some (0 : Int32) else none)) = some (if pw_of a.val b.val then 1 else 0)) ⟨kd i, by omega⟩ ⟨k, by omega⟩
theorem pop_clr0 : ∀ s : Fin 64, ∀ i : Fin 6, s.val.testBit i.val = true → pw_pop s.val - 1 = pw_pop (pw_clr s.val i.val) ∧ 1 ≤ pw_pop s.val := by decide +kernel
theorem pop_all {n : Nat} {p : Nat → Bool} (hn : n ≤ 6) : pw_pop (pw_all p n) = pw_ct1 p n := by
  have := pop_and (s := pw_all p n) (p := p) hn
  rw [Nat.and_self] at this
  rw [this]
  exact ct1_c (fun i hi => by rw [all_b]; simp [hi])
theorem two_n {n : Nat} (hn : n ≤ 6) : (1 : Int32) <<< (nI n &&& 31) - 1 = nI (2 ^ n - 1) := (by decide +kernel : ∀ n : Fin 7, (1 : Int32) <<< (nI n.val &&& 31) - 1 = nI (2 ^ n.val - 1)) ⟨n, by omega⟩
theorem two_lt {n : Nat} (hn : n ≤ 6) : 2 ^ n - 1 < 64 := by have := pow_n hn; omega
theorem o_11 {F : Nat} (hF : 20000 ≤ F) : sm_11 II F := by
  intro a1 a2 st hI
  obtain ⟨n, kd, sg, bd, fw, ff, G, dd, dn, hh⟩ := II_here hI
  obtain ⟨hv, hst, hdyn, hct, hmt, hk⟩ := id hh
  have hn := hv.1
  have hdn := hdyn.2.1
  obtain ⟨hx, hx2⟩ := aft_ok (G := G) hv hdyn.2.2 (by omega)
  have hs := ok64 hn hx.2.2.2.2
  unfold j_X5_mark j_X6_mark
  simp only [jn]
  rcases nix a1 n with h | ⟨i, hi, rfl⟩
  · exact ⟨-1, st, st, by rw [has5_n hct.1 hn h]; rfl, by rw [isS6_n hst.1 hn h]; rfl, hI⟩
  by_cases h15 : 1 ≤ a2.toInt ∧ a2.toInt ≤ 5
  case neg =>
    refine ⟨-1, st, st, ?_, ?_, hI⟩
    · rw [has5_y hct.1 hn hi, bo_some, if_neg (by decide)]
      by_cases q : a2 ≤ 0
      · rw [if_pos q]
      · rw [if_neg q, if_neg]
        rw [i_lt]
        rw [i_le] at q
        show ¬ a2.toInt < 6
        have : ¬ a2.toInt ≤ 0 := q
        omega
    · rw [isS6_y hst.1 hn hi, bo_some, if_neg (by decide), in6_n (lo := 1) (hi := 5) rfl rfl (by omega)]
      rfl
  obtain ⟨k, hk6, rfl⟩ := (nix a2 6).resolve_left (fun z => by rcases z with z | z <;> omega)
  rw [nI_tI (by omega)] at h15
  have p5 := isOf5 (F := F) hv (ct_cS hct) hi (k := k) (by omega)
  have p6 := fun s hs => isOf6 (F := F) (G := G) (st := s) hv hs hi (k := k) (by omega)
  have a5 : ∀ (α : Type) (x y z : α), (if nI k ≤ 0 then x else if nI k < 6 then y else z) = y := fun α x y z => by
    rw [if_neg (fun z => by have := (pos_iff (w := k) (by omega)).mp z; omega), if_pos (show nI k < 6 from nI_lt (b := 6) (by omega) (by decide))]
  rw [a5]
  have i6 : ∀ s, j_X6_in F (nI k).toInt64 1 5 s = some 1 := fun s => in6_y (lo := 1) (hi := 5) rfl rfl (by rw [nI_tI (by omega)]; omega) (by rw [nI_tI (by omega)]; omega)
  by_cases ho : pw_of (kd i) k = true
  case neg =>
    rw [if_neg ho] at p5
    refine ⟨-3, fd5 st 3, fd6 (fd5 st 3) 3, ?_, ?_, II_fd hI (by decide)⟩
    · rw [has5_y hct.1 hn hi, bo_some, if_neg (by decide), p5, bo_some, if_pos rfl, show (3 : Int32) = nI 3 from rfl, found5 (by decide)]
      rfl
    · have hs' : pw_st (fd5 st 3) n kd sg bd := by
        unfold pw_st
        simp only [fd5_o (a := 63) (by decide) (by decide), fd5_o (a := 65) (by decide) (by decide), fd5_o (a := 66) (by decide) (by decide), fd5_o (a := 67) (by decide) (by decide)]
        exact hst
      have := p6 _ hs'
      rw [if_neg ho] at this
      rw [isS6_y hs'.1 hn hi, bo_some, if_neg (by decide), i6, bo_some, if_neg (by decide), this, bo_some, if_pos rfl, show (3 : Int32) = nI 3 from rfl, find6 (by decide)]
      rfl
  have p6' := p6 _ hst
  rw [if_pos ho] at p5 p6'
  suffices hq : ∃ v, j_X4_markOf F 15 (nI i) (nI k) st = some v ∧ (if nI k = 1 then ( bnd (nI i) 6 ( some (((st.1 66 (nI i).toNatClampNeg) / 2 : Int32), st))) else ( (if nI k = 2 then ( bnd (nI i) 6 ( some ((4 - ((st.1 66 (nI i).toNatClampNeg) - (st.1 66 (nI i).toNatClampNeg) / 4 * 4) : Int32), st))) else ( (if nI k = 3 then ( bo (j_X6_pilgrims F ((1 <<< ((st.1 63 1) &&& 31)) - 1) st) (fun (r18 : Int32) => some ((r18 - 1 : Int32), st))) else ( (if nI k = 4 then (if (st.1 64 1) ≤ 40 then some (0, st) else some ((st.1 64 1) - 40, st)) else ( bo (j_X6_bits F ((st.1 64 5) &&& ((1 <<< (nI i &&& 31)) ^^^ (-1))) st) (fun (r28 : Int32) => some ((r28 : Int32), st)))))))))) = some (v, st) by
    obtain ⟨v, v1, v2⟩ := hq
    refine ⟨v, st, st, ?_, ?_, hI⟩
    · rw [has5_y hct.1 hn hi, bo_some, if_neg (by decide), p5, bo_some, if_neg (by decide), v1]
      rfl
    · rw [isS6_y hst.1 hn hi, bo_some, if_neg (by decide), i6, bo_some, if_neg (by decide), p6', bo_some, if_neg (by decide)]
      exact v2
  unfold j_X4_markOf
  simp only [nm]
  rw [bnd_nI (by omega) (by decide), bnd_nI (by omega) (by decide), bnd_nI (by omega) (by decide), bnd_nI (by omega) (by decide), nI_clamp (show i < 2 ^ 31 by omega), ((ct_cS hct).2 i hi).2.1, (hst.2 i hi).2.1, b_one (by omega), (ct_CR hct).1, (ct_CR hct).2.2.2.2, show st.1 64 5 = nI _ from (mt_TR hmt).2.2.2.2, show st.1 64 1 = nI _ from (mt_TR hmt).1, b_clr hs (by omega), hst.1, two_n hn]
  rcases (show k = 1 ∨ k = 2 ∨ k = 3 ∨ k = 4 ∨ k = 5 by omega) with rfl | rfl | rfl | rfl | rfl
  · exact ⟨_, rfl, rfl⟩
  · exact ⟨_, rfl, rfl⟩
  · have ha : pw_all (fun i => pw_of (kd i) 3) n < 64 := Nat.lt_of_lt_of_le (all_lt _ n) (pow_n hn)
    have hb : (pw_all (fun i => pw_of (kd i) 3) n).testBit i = true := by rw [all_b]; simp [hi, ho]
    have hp := pop_clr0 ⟨_, ha⟩ ⟨i, by omega⟩ hb
    have e1 : pw_pil n kd (2 ^ n - 1) = pw_pop (pw_all (fun i => pw_of (kd i) 3) n) := by
      rw [pop_all hn, pil_ct]
      refine ct1_c (fun j hj => ?_)
      rw [Nat.testBit_two_pow_sub_one]
      simp [hj, pw_of]
    refine ⟨nI (pw_pop (pw_clr (pw_all (fun i => pw_of (kd i) 3) n) i)), ?_, ?_⟩
    · rw [if_neg (by decide), if_neg (by decide), if_pos (by decide), show (3 : Int32) = nI 3 from rfl, allOf5 hF hv (ct_cS hct) (by decide), bo_some, b_clr ha (by omega), bitC (clr64 ha (by omega))]
      rfl
    · rw [if_neg (by decide), if_neg (by decide), if_pos (by decide), pil6 hF hv (mt_mS hst hmt) (two_lt hn), bo_some, e1, show (1 : Int32) = nI 1 from rfl, pk_sub hp.2, hp.1]
  · refine ⟨nI ((pw_aft n kd sg fw ff G dd dn).1 - 40), ?_, ?_⟩
    · rw [if_neg (by decide), if_neg (by decide), if_neg (by decide), if_pos (by decide), show (40 : Int32) = nI 40 from rfl, max0 (by have := hx.1; omega) (by decide)]
    · rw [if_neg (by decide), if_neg (by decide), if_neg (by decide), if_pos (by decide)]
      by_cases q : (pw_aft n kd sg fw ff G dd dn).1 ≤ 40
      · rw [if_pos (show nI _ ≤ 40 from nI_le (b := 40) q (by decide)), Nat.sub_eq_zero_of_le q]
        rfl
      · rw [if_neg (show ¬ nI _ ≤ 40 from nI_ge (a := 40) (by omega) (by have := hx.1; omega)), show (40 : Int32) = nI 40 from rfl, pk_sub (by omega)]
  · refine ⟨nI (pw_pop (pw_clr (pw_aft n kd sg fw ff G dd dn).2.2.2.2 i)), ?_, ?_⟩
    · rw [if_neg (by decide), if_neg (by decide), if_neg (by decide), if_neg (by decide), bitC (clr64 hs (by omega))]
      rfl
    · rw [if_neg (by decide), if_neg (by decide), if_neg (by decide), if_neg (by decide), bits6 hF (clr64 hs (by omega))]
      rfl
