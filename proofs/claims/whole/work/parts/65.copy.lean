theorem subT {n k : Nat} (hn : n ≤ 60) (hk : k < 2 ^ 31) : (nI n - nI k).toInt = (n : Int) - k := by
  rw [Int32.toInt_sub, nI_toInt (by omega), nI_toInt hk]
  exact Int.bmod_eq_of_le (by omega) (by omega)
theorem isSpan5 {F n k : Nat} {a : Int32} {st : sw_St} (hn : n ≤ 60) (hk : k < 2 ^ 31) : j_X5_isSpan F a (nI k) (nI n) st = some (if 0 ≤ a.toInt ∧ a.toInt + k ≤ n then 1 else 0) := by
  unfold j_X5_isSpan
  simp only [jn, grd]
  by_cases h0 : a < 0
  · have h0' : a.toInt < 0 := by rw [i_lt] at h0; exact h0
    rw [if_pos h0, if_neg (show ¬ (0 ≤ a.toInt ∧ a.toInt + k ≤ n) by omega)]
    rfl
  · rw [if_neg h0]
    rw [i_lt] at h0
    have h0 : ¬ a.toInt < 0 := h0
    by_cases h1 : nI n - nI k < a
    · rw [if_pos h1]
      rw [i_lt, subT hn hk] at h1
      rw [if_neg (show ¬ (0 ≤ a.toInt ∧ a.toInt + k ≤ n) by omega)]
      rfl
    · rw [if_neg h1]
      rw [i_lt, subT hn hk] at h1
      rw [if_pos (show 0 ≤ a.toInt ∧ a.toInt + k ≤ n by omega)]
      rfl
theorem isSpan6 {F r n k : Nat} {a : Int32} {st : sw_St} (hr : r < 6) (hs : st.1 68 r = nI n) (hn : n ≤ 60) (hk : k < 2 ^ 31) : j_X6_isSpan F (nI r) a (nI k) st = some (if 0 ≤ a.toInt ∧ a.toInt + k ≤ n then 1 else 0) := by
  unfold j_X6_isSpan
  simp only [jn, grd]
  by_cases h0 : a < 0
  · have h0' : a.toInt < 0 := by rw [i_lt] at h0; exact h0
    rw [if_pos h0, if_neg (show ¬ (0 ≤ a.toInt ∧ a.toInt + k ≤ n) by omega)]
    rfl
  · rw [if_neg h0, bnd_nI hr (by decide), nI_clamp (by omega), hs]
    rw [i_lt] at h0
    have h0 : ¬ a.toInt < 0 := h0
    have e : (a.toInt64 + (nI k).toInt64).toInt = a.toInt + k := by
      rw [Int64.toInt_add, i_l, i_l, nI_toInt hk]
      have := a.toInt_lt
      have := a.le_toInt
      exact Int.bmod_eq_of_le (by omega) (by omega)
    have key : (0 < lg_cmp (a.toInt64 + (nI k).toInt64) (nI n).toInt64) ↔ (n : Int) < a.toInt + k := by
      rw [lg_gt, l_lt, e, i_l, nI_tI (by omega)]
    by_cases h1 : (n : Int) < a.toInt + k
    · rw [if_pos (key.mpr h1), if_neg (show ¬ (0 ≤ a.toInt ∧ a.toInt + k ≤ n) by omega)]
      rfl
    · rw [if_neg (fun q => h1 (key.mp q)), if_pos (show 0 ≤ a.toInt ∧ a.toInt + k ≤ n by omega)]
      rfl
/-- n places from p on get what stood from q on -/
def cpF (f : Nat → Int32) (q p n : Nat) : Nat → Int32 := fun i => if p ≤ i ∧ i < p + n then f (q + (i - p)) else f i
theorem copy_loop {F q p n : Nat} {b : Int32} {body : (Int32 → sw_St → Option (Int32 × sw_St)) → Int32 → sw_St → Option (Int32 × sw_St)} {st : sw_St} (hF : 20000 ≤ F) (hn : n < 10000)
    (hb : ∀ g s i, i < n → ∃ m, (m = if b = 0 then i else n - 1 - i) ∧ body g (nI i) s = g (nI (i + 1)) (sw_setC s 69 (p + m) (s.1 69 (q + m)))) (he : ∀ g s, body g (nI n) s = some (1, s)) (hdir : (b = 0 ∧ (∀ i j, i < n → j < n → p + j = q + i → i ≤ j)) ∨ (¬ b = 0 ∧ ∀ i j, i < n → j < n → p + j = q + i → j ≤ i)) : lz2 body F 0 st = some (1, sw_setA st 69 (cpF (st.1 69) q p n)) := by
  refine lz2_ind (Φ := fun x => x = some (1, sw_setA st 69 (cpF (st.1 69) q p n))) (fun x _ => n - x.toNatClampNeg) (fun x s => ∃ i, i ≤ n ∧ x = nI i ∧ s = sw_setA st 69 (fun j => if p ≤ j ∧ j < p + n ∧ (if b = 0 then j < p + i else p + n ≤ j + i) then st.1 69 (q + (j - p)) else st.1 69 j)) (fun g x s hp ih => ?_) F 0 st ⟨0, Nat.zero_le _, rfl, ?_⟩ (by omega)
  · obtain ⟨i, hi, rfl, rfl⟩ := hp
    rcases Nat.lt_or_ge i n with z | z
    · obtain ⟨m, hm, hbb⟩ := hb g _ i z
      rw [hbb]
      refine ih _ _ ⟨i + 1, z, rfl, ?_⟩ (by rw [nI_clamp (by omega), nI_clamp (by omega)]; omega)
      rw [setC_A]
      congr 1
      funext j
      have hm1 : m < n := by
        rw [hm]
        by_cases hz : b = 0
        · rw [if_pos hz]; exact z
        · rw [if_neg hz]; omega
      have rd : (sw_setA st 69 (fun j => if p ≤ j ∧ j < p + n ∧ (if b = 0 then j < p + i else p + n ≤ j + i) then st.1 69 (q + (j - p)) else st.1 69 j)).1 69 (q + m) = st.1 69 (q + m) := by
        show (if 69 = 69 then (fun j => if p ≤ j ∧ j < p + n ∧ (if b = 0 then j < p + i else p + n ≤ j + i) then st.1 69 (q + (j - p)) else st.1 69 j) else st.1 69) (q + m) = _
        rw [if_pos rfl]
        show (if p ≤ q + m ∧ q + m < p + n ∧ (if b = 0 then q + m < p + i else p + n ≤ q + m + i) then st.1 69 (q + (q + m - p)) else st.1 69 (q + m)) = _
        rw [if_neg]
        rintro ⟨h1, h2, h3⟩
        rcases hdir with ⟨hz, hd⟩ | ⟨hz, hd⟩
        · rw [if_pos hz] at h3 hm
          have := hd m (q + m - p) hm1 (by omega) (by omega)
          omega
        · rw [if_neg hz] at h3 hm
          have := hd m (q + m - p) hm1 (by omega) (by omega)
          omega
      rw [rd]
      show (if j = p + m then st.1 69 (q + m) else if p ≤ j ∧ j < p + n ∧ (if b = 0 then j < p + i else p + n ≤ j + i) then st.1 69 (q + (j - p)) else st.1 69 j) = _
      by_cases hz : b = 0
      · simp only [if_pos hz] at hm ⊢
        by_cases hj : j = p + m
        · rw [if_pos hj, if_pos (by omega), show q + (j - p) = q + m by omega]
        · rw [if_neg hj]
          by_cases hc : p ≤ j ∧ j < p + n ∧ j < p + i
          · rw [if_pos hc, if_pos (by omega)]
          · rw [if_neg hc, if_neg (by omega)]
      · simp only [if_neg hz] at hm ⊢
        by_cases hj : j = p + m
        · rw [if_pos hj, if_pos (by omega), show q + (j - p) = q + m by omega]
        · rw [if_neg hj]
          by_cases hc : p ≤ j ∧ j < p + n ∧ p + n ≤ j + i
          · rw [if_pos hc, if_pos (by omega)]
          · rw [if_neg hc, if_neg (by omega)]
    · have e : i = n := by omega
      subst e
      rw [he g]
      congr 3
      funext j
      unfold cpF
      by_cases hc : p ≤ j ∧ j < p + i
      · rw [if_pos hc, if_pos]
        by_cases hz : b = 0
        · rw [if_pos hz]; omega
        · rw [if_neg hz]; omega
      · rw [if_neg hc, if_neg (fun w => hc ⟨w.1, w.2.1⟩)]
  · rw [show (fun j => if p ≤ j ∧ j < p + n ∧ (if b = 0 then j < p + 0 else p + n ≤ j + 0) then st.1 69 (q + (j - p)) else st.1 69 j) = st.1 69 from funext fun j => by
      rw [if_neg]
      rintro ⟨h1, h2, h3⟩
      by_cases hz : b = 0
      · rw [if_pos hz] at h3; omega
      · rw [if_neg hz] at h3; omega]
    exact (setA_self st 69).symm
theorem o_4 {F : Nat} (hF : 20000 ≤ F) : sm_4 II F := by
  intro a1 a2 a3 a4 a5 st hI
  unfold j_X5_copy j_X6_copy
  rcases nix a1 6 with h | ⟨r, hr, rfl⟩
  · exact ⟨-1, st, st, by rw [isRow5_n h]; rfl, by rw [isRow6_n h]; rfl, hI⟩
  rcases nix a3 6 with h | ⟨t, ht, rfl⟩
  · exact ⟨-1, st, st, by rw [isRow5_y hr, bo_some]; simp only [jn]; rw [if_neg (by decide), isRow5_n h]; rfl, by rw [isRow6_y hr, bo_some]; simp only [jn]; rw [if_neg (by decide), isRow6_n h]; rfl, hI⟩
  rw [isRow5_y hr]
  simp only [bo_some, jn]
  rw [isRow5_y ht, if_neg (by decide), bo_some, if_neg (by decide)]
  by_cases h5 : 0 ≤ a5
  · have h5' : 0 ≤ a5.toInt := by rw [i_le] at h5; exact h5
    have h5l := a5.toInt_lt
    obtain ⟨k, hk, rfl⟩ : ∃ k : Nat, k < 2 ^ 31 ∧ a5 = nI k := ⟨a5.toInt.toNat, by omega, by rw [i_eq, nI_toInt (by omega)]; omega⟩
    rw [if_pos h5, bnd_nI hr (by decide), nI_clamp (show r < 2 ^ 31 by omega), nI_clamp (show t < 2 ^ 31 by omega)]
    rcases IR_size hI hr with ⟨s5, s6⟩ | ⟨n, hn, s5, s6, he⟩
    · refine ⟨-3, fd5 st 1, fd6 (fd5 st 1) 1, ?_, ?_, II_fd hI (by decide)⟩
      · rw [s5, if_pos (by decide), show (1 : Int32) = nI 1 from rfl, found5 (by decide)]
        rfl
      · rw [isRow6_y hr]
        simp only [bo_some]
        rw [isRow6_y ht, if_neg (by decide), bo_some, if_neg (by decide), if_pos h5, bnd_nI hr (by decide), fd5_o (by decide) (by decide), s6, if_pos (by decide), show (1 : Int32) = nI 1 from rfl, find6 (by decide)]
        rfl
    rcases IR_size hI ht with ⟨t5, t6⟩ | ⟨n2, hn2, t5, t6, he2⟩
    · refine ⟨-3, fd5 st 1, fd6 (fd5 st 1) 1, ?_, ?_, II_fd hI (by decide)⟩
      · rw [s5, if_neg (show ¬ nI n < 0 from nI_pos (by omega)), bnd_nI ht (by decide), t5, if_neg (by decide), show (1 : Int32) = nI 1 from rfl, found5 (by decide)]
        rfl
      · rw [isRow6_y hr]
        simp only [bo_some]
        rw [isRow6_y ht, if_neg (by decide), bo_some, if_neg (by decide), if_pos h5, bnd_nI hr (by decide), fd5_o (by decide) (by decide), s6, if_neg (show ¬ nI n < 0 from nI_pos (by omega)), bnd_nI ht (by decide), fd5_o (by decide) (by decide), t6, if_neg (by decide), show (1 : Int32) = nI 1 from rfl, find6 (by decide)]
        rfl
    rw [s5, if_neg (show ¬ nI n < 0 from nI_pos (by omega)), bnd_nI ht (by decide), t5, if_pos (show (0 : Int32) ≤ nI n2 from nI_pos' (by omega)), bnd_nI hr (by decide), isSpan5 (by omega) hk, bo_some]
    by_cases c1 : 0 ≤ a2.toInt ∧ a2.toInt + k ≤ n
    · rw [if_pos c1, if_neg (by decide), bnd_nI ht (by decide), isSpan5 (by omega) hk, bo_some]
      by_cases c2 : 0 ≤ a4.toInt ∧ a4.toInt + k ≤ n2
      · obtain ⟨i, hi, rfl⟩ : ∃ i : Nat, i + k ≤ n ∧ a2 = nI i := ⟨a2.toInt.toNat, by omega, by rw [i_eq, nI_toInt (by omega)]; omega⟩
        obtain ⟨j, hj, rfl⟩ : ∃ j : Nat, j + k ≤ n2 ∧ a4 = nI j := ⟨a4.toInt.toNat, by omega, by rw [i_eq, nI_toInt (by omega)]; omega⟩
        rw [if_pos c2, if_neg (by decide), bnd_nI hr (by decide), bnd_nI ht (by decide)]
        rw [grd_y (by refine ⟨nI_pos (by omega), nI_pos (by omega), nI_pos hk, ?_, ?_⟩ <;> (rw [nI_clamp (by omega), nI_clamp hk]; omega)), nI_clamp (show i < 2 ^ 31 by omega), nI_clamp (show j < 2 ^ 31 by omega), nI_clamp hk]
        obtain ⟨st1, hst1⟩ : ∃ s, s = sw_setA st (2 + t) (va_cpy (st.1 (2 + r)) (st.1 (2 + t)) i j k) := ⟨_, rfl⟩
        have g68 : st1.1 68 = st.1 68 := by rw [hst1]; exact gsA_ne st _ (by omega)
        have g69 : st1.1 69 = st.1 69 := by rw [hst1]; exact gsA_ne st _ (by omega)
        refine ⟨1, st1, sw_setA st1 69 (cpF (st1.1 69) (40 * r + i) (40 * t + j) k), by rw [hst1]; rfl, ?_, ?_⟩
        · rw [isRow6_y hr]
          simp only [bo_some]
          rw [isRow6_y ht, if_neg (by decide), bo_some, if_neg (by decide), if_pos h5, bnd_nI hr (by decide), g68, s6, if_neg (show ¬ nI n < 0 from nI_pos (by omega)), bnd_nI ht (by decide), t6, if_pos (show (0 : Int32) ≤ nI n2 from nI_pos' (by omega)), isSpan6 hr (by rw [g68]; exact s6) (by omega) hk, bo_some, if_pos c1, if_neg (by decide), isSpan6 ht (by rw [g68]; exact t6) (by omega) hk, bo_some, if_pos c2, if_neg (by decide)]
          have ix : ∀ a b c : Nat, (40 : Int32) * nI a + nI b + nI c = nI (40 * a + b + c) := fun a b c => by rw [l40, nI_add]
          by_cases hd : nI j ≤ nI i
          · rw [if_pos hd]
            have hd' : j ≤ i := (nI_leI (by omega) (by omega)).mp hd
            refine copy_loop (b := 0) (q := 40 * r + i) (p := 40 * t + j) (n := k) hF (by omega) (fun g s m hm => ⟨m, by rw [if_pos rfl], ?_⟩) (fun g s => ?_) (Or.inl ⟨rfl, fun x y hx hy e => ?_⟩)
            · rw [if_neg (nI_ge hm hk), if_pos trivial, ix, ix, bnd_nI (by omega) (by decide), bnd_nI (by omega) (by decide), nI_clamp (by omega), nI_clamp (by omega)]
              simp only [nm]
              rw [nI_1]
            · rw [if_pos (nI_le (Nat.le_refl _) hk)]
            · omega
          · rw [if_neg hd]
            have hd' : i < j := by
              rw [nI_leI (by omega) (by omega)] at hd
              omega
            refine copy_loop (b := 1) (q := 40 * r + i) (p := 40 * t + j) (n := k) hF (by omega) (fun g s m hm => ⟨k - 1 - m, by rw [if_neg (by decide)], ?_⟩) (fun g s => ?_) (Or.inr ⟨by decide, fun x y hx hy e => ?_⟩)
            · rw [if_neg (nI_ge hm hk), if_neg (by decide), show nI k - 1 - nI m = nI (k - 1 - m) by (show nI k - nI 1 - nI m = _); rw [pk_sub (by omega), pk_sub (by omega)], ix, ix, bnd_nI (by omega) (by decide), bnd_nI (by omega) (by decide), nI_clamp (by omega), nI_clamp (by omega)]
              simp only [nm]
              rw [nI_1]
            · rw [if_pos (nI_le (Nat.le_refl _) hk)]
            · omega
        · have hc : ch [2, 3, 4, 5, 6, 7, 8, 68, 69] st (sw_setA st1 69 (cpF (st1.1 69) (40 * r + i) (40 * t + j) k)) := by
            rw [hst1]
            exact (ch.A (ch.rf _ st) _ (r_in ht)).A _ (by decide)
          refine II_rows hI hc (by rw [hst1]; rfl) (fun x hx => ?_)
          obtain ⟨e1, e2⟩ := hI.1 x hx
          have g8 : (sw_setA st1 69 (cpF (st1.1 69) (40 * r + i) (40 * t + j) k)).1 8 = st.1 8 := by rw [gsA_ne _ _ (by decide), hst1]; exact gsA_ne st _ (by omega)
          have h68 : (sw_setA st1 69 (cpF (st1.1 69) (40 * r + i) (40 * t + j) k)).1 68 = st.1 68 := by rw [gsA_ne _ _ (by decide)]; exact g68
          have h69 : (sw_setA st1 69 (cpF (st1.1 69) (40 * r + i) (40 * t + j) k)).1 69 = cpF (st.1 69) (40 * r + i) (40 * t + j) k := by rw [gsA, if_pos rfl, g69]
          rw [g8, h68, h69]
          refine ⟨e1, ?_⟩
          rcases e2 with e2 | ⟨z, hz, e2, e3⟩
          · exact Or.inl e2
          · refine Or.inr ⟨z, hz, e2, fun y hy => ?_⟩
            have hx2 : (sw_setA st1 69 (cpF (st1.1 69) (40 * r + i) (40 * t + j) k)).1 (2 + x) = st1.1 (2 + x) := gsA_ne _ _ (by omega)
            rw [hx2, hst1, gsA]
            unfold cpF
            by_cases hxt : x = t
            · subst hxt
              rw [if_pos rfl]
              unfold va_cpy
              by_cases hw : j ≤ y ∧ y < j + k
              · rw [if_pos hw, if_pos (by omega), he (i + (y - j)) (by omega), show 40 * r + i + (40 * x + y - (40 * x + j)) = 40 * r + (i + (y - j)) by omega]
              · rw [if_neg hw, if_neg (by omega)]
                exact e3 y hy
            · rw [if_neg (by omega), if_neg (by omega)]
              exact e3 y hy
      · refine ⟨-3, fd5 st 2, fd6 (fd5 st 2) 2, ?_, ?_, II_fd hI (by decide)⟩
        · rw [if_neg c2, if_pos rfl, show (2 : Int32) = nI 2 from rfl, found5 (by decide)]
          rfl
        · rw [isRow6_y hr]
          simp only [bo_some]
          rw [isRow6_y ht, if_neg (by decide), bo_some, if_neg (by decide), if_pos h5, bnd_nI hr (by decide), fd5_o (by decide) (by decide), s6, if_neg (show ¬ nI n < 0 from nI_pos (by omega)), bnd_nI ht (by decide), fd5_o (by decide) (by decide), t6, if_pos (show (0 : Int32) ≤ nI n2 from nI_pos' (by omega)), isSpan6 hr (by rw [fd5_o (by decide) (by decide)]; exact s6) (by omega) hk, bo_some, if_pos c1, if_neg (by decide), isSpan6 ht (by rw [fd5_o (by decide) (by decide)]; exact t6) (by omega) hk, bo_some, if_neg c2, if_pos rfl, show (2 : Int32) = nI 2 from rfl, find6 (by decide)]
          rfl
    · refine ⟨-3, fd5 st 2, fd6 (fd5 st 2) 2, ?_, ?_, II_fd hI (by decide)⟩
      · rw [if_neg c1, if_pos rfl, show (2 : Int32) = nI 2 from rfl, found5 (by decide)]
        rfl
      · rw [isRow6_y hr]
        simp only [bo_some]
        rw [isRow6_y ht, if_neg (by decide), bo_some, if_neg (by decide), if_pos h5, bnd_nI hr (by decide), fd5_o (by decide) (by decide), s6, if_neg (show ¬ nI n < 0 from nI_pos (by omega)), bnd_nI ht (by decide), fd5_o (by decide) (by decide), t6, if_pos (show (0 : Int32) ≤ nI n2 from nI_pos' (by omega)), isSpan6 hr (by rw [fd5_o (by decide) (by decide)]; exact s6) (by omega) hk, bo_some, if_neg c1, if_pos rfl, show (2 : Int32) = nI 2 from rfl, find6 (by decide)]
        rfl
  · refine ⟨-3, fd5 st 5, fd6 (fd5 st 5) 5, ?_, ?_, II_fd hI (by decide)⟩
    · rw [if_neg h5, show (5 : Int32) = nI 5 from rfl, found5 (by decide)]
      rfl
    · rw [isRow6_y hr]
      simp only [bo_some]
      rw [isRow6_y ht, if_neg (by decide), bo_some, if_neg (by decide), if_neg h5, show (5 : Int32) = nI 5 from rfl, find6 (by decide)]
      rfl
