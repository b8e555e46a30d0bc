/-! values written into a stretch of a row; a row made and filled on both sides -/
def wrS (st : sw_St) (a o n : Nat) (v : Nat → Int32) : sw_St := sw_setA st a (fun i => if o ≤ i ∧ i < o + n then v (i - o) else st.1 a i)
theorem wrS_0 (st : sw_St) (a o : Nat) (v : Nat → Int32) : wrS st a o 0 v = st := by
  unfold wrS
  rw [show (fun i => if o ≤ i ∧ i < o + 0 then v (i - o) else st.1 a i) = st.1 a from funext fun i => if_neg (by omega)]
  exact setA_self st a
theorem wrS_s (st : sw_St) (a o i : Nat) (v : Nat → Int32) : sw_setC (wrS st a o i v) a (o + i) (v i) = wrS st a o (i + 1) v := by
  unfold wrS
  rw [setC_A]
  congr 1
  funext j
  show (if j = o + i then v i else if o ≤ j ∧ j < o + i then v (j - o) else st.1 a j) = _
  by_cases h : j = o + i
  · rw [if_pos h, if_pos (by omega), show j - o = i by omega]
  · rw [if_neg h]
    by_cases q : o ≤ j ∧ j < o + i
    · rw [if_pos q, if_pos (by omega)]
    · rw [if_neg q, if_neg (by omega)]
theorem wrS_at (st : sw_St) (a o n : Nat) (v : Nat → Int32) (b i : Nat) : (wrS st a o n v).1 b i = if b = a ∧ o ≤ i ∧ i < o + n then v (i - o) else st.1 b i := by
  show (if b = a then (fun i => if o ≤ i ∧ i < o + n then v (i - o) else st.1 a i) else st.1 b) i = _
  by_cases h : b = a
  · subst h
    rw [if_pos rfl]
    show (if o ≤ i ∧ i < o + n then v (i - o) else st.1 b i) = _
    by_cases q : o ≤ i ∧ i < o + n
    · rw [if_pos q, if_pos ⟨rfl, q⟩]
    · rw [if_neg q, if_neg (fun z => q z.2)]
  · rw [if_neg h, if_neg (fun z => h z.1)]
theorem wrS_ne (st : sw_St) {a : Nat} (o n : Nat) (v : Nat → Int32) {b : Nat} (h : b ≠ a) : (wrS st a o n v).1 b = st.1 b := if_neg h
theorem wr_loop {β : Type} {body : (Int32 → sw_St → Option β) → Int32 → sw_St → Option β} {K : sw_St → Option β} (a o n : Nat) (v : Nat → Int32) (st : sw_St) (hn : n < 2 ^ 31) (hb : ∀ f i s, i < n → (∀ b, b ≠ a → s.1 b = st.1 b) → body f (nI i) s = f (nI (i + 1)) (sw_setC s a (o + i) (v i))) (he : ∀ f s, body f (nI n) s = K s) (F : Nat) (hF : n < F) : lz2 body F 0 st = K (wrS st a o n v) := by
  refine lz2_ind (Φ := fun x => x = K (wrS st a o n v)) (fun x _ => n - x.toNatClampNeg) (fun x s => ∃ i, i ≤ n ∧ x = nI i ∧ s = wrS st a o i v) (fun f x s hp ih => ?_) F 0 st ⟨0, Nat.zero_le _, rfl, (wrS_0 st a o v).symm⟩ (by omega)
  obtain ⟨i, hi, rfl, rfl⟩ := hp
  rcases Nat.lt_or_ge i n with q | q
  · rw [hb f i _ q (fun b hb => wrS_ne _ _ _ _ hb), wrS_s]
    refine ih _ _ ⟨i + 1, q, rfl, rfl⟩ ?_
    rw [nI_clamp (by omega), nI_clamp (by omega)]
    omega
  · have e : i = n := by omega
    subst e
    exact he f _
def sR : List Nat := [2, 3, 4, 5, 6, 7, 8, 68, 69, 22, 23, 24, 25, 26, 27, 28, 52, 53, 54, 55, 56, 57, 58, 59, 60, 61, 73, 74, 75, 76]
theorem II_scrR {st st1 : sw_St} (hI : II st) (hR : IR st1) (h : ch (0 :: 63 :: 64 :: sR) st st1) (h13 : st1.1 0 13 = st.1 0 13) (h14 : st1.1 0 14 = st1.1 63 9) (h1 : st1.1 63 1 = st.1 63 1) (h12 : st1.1 63 12 = st.1 63 12) (h64 : ∀ i, i < 828 → st1.1 64 i = st.1 64 i) (hu : st1.2.1 0 15 = st1.2.1 63 10) (hl : st1.2.1 0 16 = st1.2.1 63 11) : II st1 := by
  refine ⟨hR, IT_c (h.ag (by decide)) hI.2.1, ⟨h14, ?_, fun f hf => ?_, hu, hl⟩, IW_c (h.ag (by decide)) h1 h64 hI.2.2.2⟩
  · rw [h13, h12]
    exact hI.2.2.1.2.1
  · rw [h 62 (by decide), h 72 (by decide)]
    exact hI.2.2.1.2.2.1 f hf
theorem IR_fill {st s : sw_St} {r L : Nat} {v : Nat → Int32} (hI : IR st) (hr : r < 6) (hL : L ≤ 40) (h8 : ∀ q, s.1 8 q = if q = r then nI L else st.1 8 q) (h68 : ∀ q, s.1 68 q = if q = r then nI L else st.1 68 q) (hrow : ∀ i, i < L → s.1 (2 + r) i = v i) (h69 : ∀ i, i < L → s.1 69 (40 * r + i) = v i) (ho : ∀ q, q < 6 → q ≠ r → s.1 (2 + q) = st.1 (2 + q)) (ho69 : ∀ q i, q ≠ r → i < 40 → s.1 69 (40 * q + i) = st.1 69 (40 * q + i)) : IR s := by
  intro q hq
  by_cases e : q = r
  · subst e
    rw [h8, h68, if_pos rfl, if_pos rfl]
    exact ⟨rfl, Or.inr ⟨L, hL, rfl, fun i hi => by rw [hrow i hi, h69 i hi]⟩⟩
  · rw [h8, h68, if_neg e, if_neg e, ho q hq e]
    refine ⟨(hI q hq).1, ?_⟩
    rcases (hI q hq).2 with e2 | ⟨k, hk, e2, e3⟩
    · exact Or.inl e2
    · exact Or.inr ⟨k, hk, e2, fun i hi => by rw [ho69 q i e (by omega)]; exact e3 i hi⟩
/-- the class's row filled out of cell a -/
def fi5 (st : sw_St) (a r L : Nat) : sw_St := sw_setA (sw_setC st 8 r (nI L)) (2 + r) (va_cpy ((sw_setC st 8 r (nI L)).1 a) ((sw_setC st 8 r (nI L)).1 (2 + r)) (0 : Int32).toNatClampNeg (0 : Int32).toNatClampNeg L)
theorem fillRow5 {F a r L m : Nat} {st : sw_St} (hr : r < 6) (hm : sw_ln a = m) (hL : L ≤ m) (hm40 : m ≤ 40) : j_X5_fillRow F a (nI r) (nI L) st = some ((), fi5 st a r L) := by
  unfold j_X5_fillRow
  rw [bnd_nI hr (by decide), nI_clamp (show r < 2 ^ 31 by omega), nm_eq, bnd_nI hr (by decide), hm, nI_clamp (show L < 2 ^ 31 by omega), grd_y ⟨by decide, by decide, nI_pos (by omega), by show 0 + L ≤ m; omega, by show 0 + L ≤ 40; omega⟩]
  rfl
theorem fi5_8 {st : sw_St} {a r L : Nat} (hr : r < 6) (q : Nat) : (fi5 st a r L).1 8 q = if q = r then nI L else st.1 8 q := by
  unfold fi5
  rw [gsA_ne _ _ (by omega), gsC]
  by_cases e : q = r
  · rw [if_pos ⟨rfl, e⟩, if_pos e]
  · rw [if_neg (fun z => e z.2), if_neg e]
theorem fi5_r {st : sw_St} {a r L : Nat} (ha : a ≠ 8) {i : Nat} (hi : i < L) : (fi5 st a r L).1 (2 + r) i = st.1 a i := by
  unfold fi5
  rw [gsA, if_pos rfl, cpy_at, if_pos hi, gsC_ne _ _ _ ha]
theorem fi5_o {st : sw_St} {a r L b : Nat} (h8 : b ≠ 8) (hb : b ≠ 2 + r) : (fi5 st a r L).1 b = st.1 b := by
  unfold fi5
  rw [gsA_ne _ _ hb, gsC_ne _ _ _ h8]
/-- the reference's row made and filled -/
def fi6 (st : sw_St) (r L : Nat) (v : Nat → Int32) : sw_St := wrS (flS (sw_setC st 68 r (nI L)) 69 (40 * r) 40 0) 69 (40 * r) L v
theorem fi6_68 {st : sw_St} {r L : Nat} {v : Nat → Int32} (q : Nat) : (fi6 st r L v).1 68 q = if q = r then nI L else st.1 68 q := by
  unfold fi6
  rw [wrS_ne _ _ _ _ (by decide), flS_at, if_neg (by omega), gsC]
  by_cases e : q = r
  · rw [if_pos ⟨rfl, e⟩, if_pos e]
  · rw [if_neg (fun z => e z.2), if_neg e]
theorem fi6_r {st : sw_St} {r L i : Nat} {v : Nat → Int32} (hi : i < L) : (fi6 st r L v).1 69 (40 * r + i) = v i := by
  unfold fi6
  rw [wrS_at, if_pos ⟨rfl, by omega, by omega⟩, show 40 * r + i - 40 * r = i by omega]
theorem fi6_69 {st : sw_St} {r L q i : Nat} {v : Nat → Int32} (hL : L ≤ 40) (hq : q ≠ r) (hi : i < 40) : (fi6 st r L v).1 69 (40 * q + i) = st.1 69 (40 * q + i) := by
  unfold fi6
  rw [wrS_at, if_neg (by omega), flS_at, if_neg (by omega), gsC_ne _ _ _ (by decide)]
theorem fi6_o {st : sw_St} {r L b : Nat} {v : Nat → Int32} (h68 : b ≠ 68) (h69 : b ≠ 69) : (fi6 st r L v).1 b = st.1 b := by
  unfold fi6
  rw [wrS_ne _ _ _ _ h69]
  funext i
  rw [flS_at, if_neg (fun z => h69 z.1), gsC_ne _ _ _ h68]
theorem lfB_2 (P : Nat → Bool) (b : Nat → Nat) (k : Nat) : (lfB P b k).2 ≤ k := by
  induction k with
  | zero => exact Nat.le_refl 0
  | succ k ih =>
    rw [lfB_s]
    by_cases q : P k
    · rw [if_pos q]
      by_cases q1 : (lfB P b k).1 = -9
      · rw [if_pos q1]; exact Nat.le_succ k
      · rw [if_neg q1]
        by_cases q2 : (lfB P b k).1 ≤ nI (b k)
        · rw [if_pos q2]; omega
        · rw [if_neg q2]; exact Nat.le_succ k
    · rw [if_neg q]; omega
theorem o_25 {F : Nat} (hF : 20000 ≤ F) : sm_25 II F := by
  intro a1 a2 a3 st hI
  obtain ⟨n, kd, sg, br, fw, ff, G, x, H⟩ := II_HR hI
  have hn := H.hv.1
  unfold j_X5_bread j_X6_bread
  simp only [jn]
  rcases nix a1 6 with h | ⟨L, hL6, rfl⟩
  · exact ⟨-1, st, st, by rw [size5_n h]; rfl, by rw [in6_5n h]; rfl, hI⟩
  have hL : L ≤ 5 := by omega
  rcases nix a2 12 with h | ⟨a, ha, rfl⟩
  · exact ⟨-1, st, st, by rw [size5_y hL, bo_some, if_neg (by decide), dial5_n h]; rfl, by rw [in6_5y hL, bo_some, if_neg (by decide), in6_11n h]; rfl, hI⟩
  rcases nix a3 6 with h | ⟨r, hr, rfl⟩
  · exact ⟨-1, st, st, by rw [size5_y hL, bo_some, if_neg (by decide), dial5_y ha, bo_some, if_neg (by decide), isRow5_n h]; rfl, by rw [in6_5y hL, bo_some, if_neg (by decide), in6_11y ha, bo_some, if_neg (by decide), isRow6_n h]; rfl, hI⟩
  by_cases h0 : n = 0
  · exact ⟨-4, st, st, by rw [size5_y hL, bo_some, if_neg (by decide), dial5_y ha, bo_some, if_neg (by decide), isRow5_y hr, bo_some, if_neg (by decide), H.hc.1, if_pos ((n0_iff hn).mpr h0)], by rw [in6_5y hL, bo_some, if_neg (by decide), in6_11y ha, bo_some, if_neg (by decide), isRow6_y hr, bo_some, if_neg (by decide), H.hm.1.1, if_pos ((n0_iff hn).mpr h0)], hI⟩
  have n0 : ¬ nI n = 0 := fun z => h0 ((n0_iff hn).mp z)
  obtain ⟨s1, j1, ⟨c5, c6, c56, c7, c8⟩, c1, z1⟩ := searchL5 (F := F) hF H hL ha
  have hN := pow7 hn hL
  obtain ⟨Z, hZd⟩ : ∃ Z, Z = lfB (lfP n kd sg br G x L a) (fun c => (lfY n kd sg br G x L c).2.1) ((n + 1) ^ L) := ⟨_, rfl⟩
  have hC : Z.2 < 20000 := by
    have := lfB_2 (lfP n kd sg br G x L a) (fun c => (lfY n kd sg br G x L c).2.1) ((n + 1) ^ L)
    rw [← hZd] at this
    omega
  rw [← hZd] at c6 c56
  by_cases hB : Z.1 = -9
  · have H1 : HR s1 n kd sg br fw ff G x := H.c (fun b hb => by
      have := (by decide : ∀ a, a ∈ [15, 16, 17, 18, 19, 65, 66, 67] → a ∉ [54, 55, 56]) b hb
      rw [c1 b this]) (by rw [c1 63 (by decide)]) (fun i hi => by rw [c1 64 (by decide)])
    obtain ⟨s3, j3, h26, l10, l11, hr3⟩ := least6 (F := F) hF H1 hL ha
    rw [← hZd, hB] at j3
    refine ⟨-9, s1, sw_setJ (sw_setJ s3 63 10 (s1.2.1 63 10)) 63 11 (s1.2.1 63 11), ?_, ?_, ?_⟩
    · rw [size5_y hL, bo_some, if_neg (by decide), dial5_y ha, bo_some, if_neg (by decide), isRow5_y hr, bo_some, if_neg (by decide), H.hc.1, if_neg n0, j1, bd_some, c6, if_pos hB]
    · rw [in6_5y hL, bo_some, if_neg (by decide), in6_11y ha, bo_some, if_neg (by decide), isRow6_y hr, bo_some, if_neg (by decide), H1.hm.1.1, if_neg n0, nm_eq, nm_eq, j3, bd_some, nm_eq, nm_eq, if_pos rfl]
    · refine II_scr hI (fun b hb => ?_) ?_ ?_ ?_ ?_ (fun i hi => ?_) ?_ ?_
      · have ha2 : b ≠ 0 ∧ b ≠ 63 ∧ b ≠ 64 ∧ b ∉ [54, 55, 56] := by
          simp only [sN, List.mem_cons, not_or, List.mem_nil_iff, or_false] at hb ⊢
          omega
        rw [gsJ1, gsJ1, hr3.1 b ha2.2.1 ha2.2.2.1, c1 b ha2.2.2.2]
      · rw [gsJ1, gsJ1, hr3.1 0 (by decide) (by decide), c1 0 (by decide)]
      · rw [gsJ1, gsJ1, hr3.1 0 (by decide) (by decide), c1 0 (by decide), hr3.2.1 9 (by decide), c1 63 (by decide)]
        exact hI.2.2.1.1
      · rw [gsJ1, gsJ1, hr3.2.1 1 (by decide), c1 63 (by decide)]
      · rw [gsJ1, gsJ1, hr3.2.1 12 (by decide), c1 63 (by decide)]
      · rw [gsJ1, gsJ1, hr3.2.2.1 i hi, c1 64 (by decide)]
      · rw [gsJ, if_neg (by decide), gsJ, if_neg (by decide), hr3.2.2.2 0 15 (by decide), gsJ, if_neg (by decide), gsJ, if_pos ⟨rfl, rfl⟩, z1]
        exact hI.2.2.1.2.2.2.1
      · rw [gsJ, if_neg (by decide), gsJ, if_neg (by decide), hr3.2.2.2 0 16 (by decide), gsJ, if_pos ⟨rfl, rfl⟩, z1]
        exact hI.2.2.1.2.2.2.2
  · obtain ⟨s2, hs2⟩ : ∃ s, s = fi5 s1 56 r L := ⟨_, rfl⟩
    have e2 : ∀ b, b ≠ 8 → b ≠ 2 + r → s2.1 b = s1.1 b := fun b h1 h2 => by rw [hs2, fi5_o h1 h2]
    have z2 : s2.2 = st.2 := by rw [hs2]; exact z1
    have H2 : HR s2 n kd sg br fw ff G x := H.c (fun b hb => by
      have := (by decide : ∀ a, a ∈ [15, 16, 17, 18, 19, 65, 66, 67] → 8 < a ∧ a ∉ [54, 55, 56]) b hb
      rw [e2 b (by omega) (by omega), c1 b this.2]) (by rw [e2 63 (by omega) (by omega), c1 63 (by decide)]) (fun i hi => by rw [e2 64 (by omega) (by omega), c1 64 (by decide)])
    obtain ⟨s3, j3, h26, l10, l11, hr3⟩ := least6 (F := F) hF H2 hL ha
    rw [← hZd] at j3 h26
    obtain ⟨s4, hs4⟩ : ∃ s, s = sw_setJ (sw_setJ s3 63 10 (s2.2.1 63 10)) 63 11 (s2.2.1 63 11) := ⟨_, rfl⟩
    have e4 : s4.1 = s3.1 := by rw [hs4, gsJ1, gsJ1]
    refine ⟨Z.1, s2, fi6 s4 r L (pw_wh n L Z.2), ?_, ?_, ?_⟩
    · rw [size5_y hL, bo_some, if_neg (by decide), dial5_y ha, bo_some, if_neg (by decide), isRow5_y hr, bo_some, if_neg (by decide), H.hc.1, if_neg n0, j1, bd_some, c6, if_neg hB, fillRow5 (m := 5) hr rfl hL (by decide), bd_some, ← hs2, e2 54 (by decide) (by omega), c6]
    · rw [in6_5y hL, bo_some, if_neg (by decide), in6_11y ha, bo_some, if_neg (by decide), isRow6_y hr, bo_some, if_neg (by decide), H2.hm.1.1, if_neg n0, nm_eq, nm_eq, j3, bd_some, nm_eq, nm_eq, if_neg hB, ← hs4, makeRow6 hF hr, bd_some]
      refine wr_loop (K := fun s => some (Z.1, s)) 69 (40 * r) L (pw_wh n L Z.2) (flS (sw_setC s4 68 r (nI L)) 69 (40 * r) 40 0) (by omega) (fun f i s hi hs => ?_) (fun f s => ?_) F (by omega)
      · have e63 : ∀ i, s.1 63 i = s3.1 63 i := fun i => by rw [hs 63 (by decide), flS_at, if_neg (by omega), gsC_ne _ _ _ (by decide), e4]
        rw [if_neg (show ¬ nI L ≤ nI i from nI_ge hi (by omega)), e63 26, h26 hB, who6 hF hn (by rw [e63 1, hr3.2.1 1 (by decide), H2.hm.1.1]) hL hi hC, bo_some, l40, bnd_nI (by omega) (by decide), nI_clamp (by omega), nm_eq, nm_eq, nI_1]
      · rw [if_pos (show nI L ≤ nI L from nI_le (Nat.le_refl L) (by omega))]
    · have e6 : ∀ b, b ≠ 68 → b ≠ 69 → (fi6 s4 r L (pw_wh n L Z.2)).1 b = s3.1 b := fun b h1 h2 => by rw [fi6_o h1 h2, e4]
      have f2 : (fi6 s4 r L (pw_wh n L Z.2)).2 = s4.2 := rfl
      refine II_scrR hI (IR_fill (st := st) (r := r) (L := L) (v := pw_wh n L Z.2) hI.1 hr (by omega) (fun q => ?_) (fun q => ?_) (fun i hi => ?_) (fun i hi => fi6_r hi) (fun q hq hqr => ?_) (fun q i hq hi => ?_)) (fun b hb => ?_) ?_ ?_ ?_ ?_ (fun i hi => ?_) ?_ ?_
      · rw [e6 8 (by decide) (by decide), hr3.1 8 (by decide) (by decide), hs2, fi5_8 hr, c1 8 (by decide)]
      · rw [fi6_68, e4, hr3.1 68 (by decide) (by decide), e2 68 (by decide) (by omega), c1 68 (by decide)]
      · rw [e6 (2 + r) (by omega) (by omega), hr3.1 (2 + r) (by omega) (by omega), hs2, fi5_r (by decide) hi]
        exact c56 hB i hi
      · rw [e6 (2 + q) (by omega) (by omega), hr3.1 (2 + q) (by omega) (by omega), e2 (2 + q) (by omega) (by omega), c1 (2 + q) (by simp only [List.mem_cons, not_or, List.mem_nil_iff, or_false]; omega)]
      · rw [fi6_69 (by omega) hq hi, e4, hr3.1 69 (by decide) (by decide), e2 69 (by decide) (by omega), c1 69 (by decide)]
      · have ha2 : b ≠ 0 ∧ b ≠ 63 ∧ b ≠ 64 ∧ b ≠ 68 ∧ b ≠ 69 ∧ b ≠ 8 ∧ b ≠ 2 + r ∧ b ∉ [54, 55, 56] := by
          simp only [sR, List.mem_cons, not_or, List.mem_nil_iff, or_false] at hb ⊢
          omega
        obtain ⟨q1, q2, q3, q4, q5, q6, q7, q8⟩ := ha2
        rw [e6 b q4 q5, hr3.1 b q2 q3, e2 b q6 q7, c1 b q8]
      · rw [e6 0 (by decide) (by decide), hr3.1 0 (by decide) (by decide), e2 0 (by decide) (by omega), c1 0 (by decide)]
      · rw [e6 0 (by decide) (by decide), e6 63 (by decide) (by decide), hr3.1 0 (by decide) (by decide), e2 0 (by decide) (by omega), c1 0 (by decide), hr3.2.1 9 (by decide), e2 63 (by decide) (by omega), c1 63 (by decide)]
        exact hI.2.2.1.1
      · rw [e6 63 (by decide) (by decide), hr3.2.1 1 (by decide), e2 63 (by decide) (by omega), c1 63 (by decide)]
      · rw [e6 63 (by decide) (by decide), hr3.2.1 12 (by decide), e2 63 (by decide) (by omega), c1 63 (by decide)]
      · rw [e6 64 (by decide) (by decide), hr3.2.2.1 i hi, e2 64 (by decide) (by omega), c1 64 (by decide)]
      · rw [f2, hs4, gsJ, if_neg (by decide), gsJ, if_neg (by decide), hr3.2.2.2 0 15 (by decide), gsJ, if_neg (by decide), gsJ, if_pos ⟨rfl, rfl⟩, z2]
        exact hI.2.2.1.2.2.2.1
      · rw [f2, hs4, gsJ, if_neg (by decide), gsJ, if_neg (by decide), hr3.2.2.2 0 16 (by decide), gsJ, if_pos ⟨rfl, rfl⟩, z2]
        exact hI.2.2.1.2.2.2.2
