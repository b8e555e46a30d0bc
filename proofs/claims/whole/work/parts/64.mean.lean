def s64 (f : Nat → Int32) : Nat → Int64
  | 0 => 0
  | k + 1 => s64 f k + (f k).toInt64
theorem s64_c {f g : Nat → Int32} {n : Nat} (h : ∀ i, i < n → f i = g i) : s64 f n = s64 g n := by
  induction n with
  | zero => rfl
  | succ n ih => rw [s64, s64, ih (fun i hi => h i (by omega)), h n (by omega)]
theorem sum_loop {β : Type} {body : (Int64 → Int32 → Option β) → Int64 → Int32 → Option β} {K : Int64 → Option β} (f : Nat → Int32) (n : Nat) (hn : n < 2 ^ 31) (hb : ∀ g s i, i < n → body g s (nI i) = g (s + (f i).toInt64) (nI (i + 1))) (he : ∀ g s, body g s (nI n) = K s) (F : Nat) (hF : n < F) : lz2 body F 0 0 = K (s64 f n) := by
  refine lz2_ind (Φ := fun x => x = K (s64 f n)) (fun _ x => n - x.toNatClampNeg) (fun s x => ∃ i, i ≤ n ∧ x = nI i ∧ s = s64 f i) (fun g s x hp ih => ?_) F 0 0 ⟨0, Nat.zero_le _, rfl, rfl⟩ (by omega)
  obtain ⟨i, hi, rfl, rfl⟩ := hp
  rcases Nat.lt_or_ge i n with q | q
  · rw [hb g _ i q]
    refine ih _ _ ⟨i + 1, q, rfl, rfl⟩ ?_
    rw [nI_clamp (by omega), nI_clamp (by omega)]
    omega
  · have e : i = n := by omega
    subst e
    exact he g _
theorem o_5 {F : Nat} (hF : 20000 ≤ F) : sm_5 II F := by
  intro a1 st hI
  unfold j_X5_mean j_X6_mean
  rcases nix a1 6 with h | ⟨r, hr, rfl⟩
  · exact ⟨-1, st, st, by rw [isRow5_n h]; rfl, by rw [isRow6_n h]; rfl, hI⟩
  rw [isRow5_y hr]
  rcases IR_size hI hr with ⟨s5, s6⟩ | ⟨n, hn, s5, s6, he⟩
  · refine ⟨-3, fd5 st 1, fd6 (fd5 st 1) 1, ?_, ?_, II_fd hI (by decide)⟩
    · rw [bo_some, if_neg (by decide), bnd_nI hr (by decide), nI_clamp (by omega), s5]
      simp only [nm]
      rw [if_neg (by decide), show (1 : Int32) = nI 1 from rfl, found5 (by decide)]
      rfl
    · rw [isRow6_y hr, bo_some, if_neg (by decide), bnd_nI hr (by decide), nI_clamp (by omega), fd5_o (by decide) (by decide), s6, if_neg (by decide), show (1 : Int32) = nI 1 from rfl, find6 (by decide)]
      rfl
  by_cases n0 : n = 0
  · subst n0
    refine ⟨-3, fd5 st 4, fd6 (fd5 st 4) 4, ?_, ?_, II_fd hI (by decide)⟩
    · rw [bo_some, if_neg (by decide), bnd_nI hr (by decide), nI_clamp (by omega), s5]
      simp only [nm]
      rw [if_pos (by decide), if_pos (by decide), show (4 : Int32) = nI 4 from rfl, found5 (by decide)]
      rfl
    · rw [isRow6_y hr, bo_some, if_neg (by decide), bnd_nI hr (by decide), nI_clamp (by omega), fd5_o (by decide) (by decide), s6, if_pos (by decide), bnd_nI hr (by decide), if_pos (by decide), show (4 : Int32) = nI 4 from rfl, find6 (by decide)]
      rfl
  have hne : ¬ (nI n).toInt64 = 0 := by
    rw [l_eq, i_l, nI_tI (by omega)]
    show ¬ (n : Int) = 0
    omega
  obtain ⟨v, hv⟩ : ∃ v : Int32, v = (s64 (fun i => st.1 (2 + r) i) n / (nI n).toInt64).toInt32 := ⟨_, rfl⟩
  refine ⟨1, sw_setC st 0 14 v, sw_setC (sw_setC st 0 14 v) 63 9 v, ?_, ?_, ?_⟩
  · rw [bo_some, if_neg (by decide), bnd_nI hr (by decide), nI_clamp (by omega), s5]
    simp only [nm]
    rw [if_pos (show (0 : Int32) ≤ nI n from nI_pos' (by omega)), if_neg (nI_ne0 (by omega) (by omega))]
    rw [sum_loop (K := fun x8 => grd (¬ (nI n).toInt64 = 0) (some (1, sw_setC st 0 14 (x8 / (nI n).toInt64).toInt32))) (fun i => st.1 (2 + r) i) n (by omega) (fun g s i hi => ?_) (fun g s => ?_) F (by omega)]
    · show grd _ _ = _
      rw [grd_y hne, ← hv]
    · rw [if_neg (nI_ge hi (by omega)), bnd_nI hr (by decide), bnd_nI (show i < 40 by omega) (by decide), nI_clamp (show i < 2 ^ 31 by omega), nI_1]
    · rw [if_pos (nI_le (Nat.le_refl _) (by omega))]
  · have s6' : (sw_setC st 0 14 v).1 68 r = nI n := by rw [gsC_ne st 14 v (show 68 ≠ 0 by decide)]; exact s6
    rw [isRow6_y hr, bo_some, if_neg (by decide), bnd_nI hr (by decide), nI_clamp (by omega), s6', if_pos (show (0 : Int32) ≤ nI n from nI_pos' (by omega)), bnd_nI hr (by decide), if_neg (nI_ne0 (by omega) (by omega))]
    rw [sum_loop (K := fun x8 => grd (¬ (nI n).toInt64 = 0) (bd (j_X6_tell F (x8 / (nI n).toInt64).toInt32 (sw_setC st 0 14 v)) (fun r17 s18 => some (r17, s18)))) (fun i => st.1 69 (40 * r + i)) n (by omega) (fun g s i hi => ?_) (fun g s => ?_) F (by omega)]
    · show grd _ _ = _
      rw [grd_y hne, s64_c (g := fun i => st.1 (2 + r) i) (fun i hi => (he i hi).symm), ← hv]
      rfl
    · simp only [nm]
      rw [bnd_nI hr (by decide), if_neg (nI_ge hi (by omega)), l40, bnd_nI (by omega) (by decide), nI_clamp (show 40 * r + i < 2 ^ 31 by omega), nI_1, gsC_ne st 14 v (show 69 ≠ 0 by decide)]
    · rw [bnd_nI hr (by decide), if_pos (nI_le (Nat.le_refl _) (by omega)), bnd_nI hr (by decide)]
  · exact II_tell hI (((ch.rf _ st).C _ _ (by decide)).C _ _ (by decide)) rfl (v := v) (by simp only [gsC]; ((try simp only [true_and, and_true, if_true]); repeat (first | rw [if_pos (by omega)] | rw [if_neg (by omega)]))) (by simp only [gsC]; ((try simp only [true_and, and_true, if_true]); repeat (first | rw [if_pos (by omega)] | rw [if_neg (by omega)]))) (by simp only [gsC]; ((try simp only [true_and, and_true, if_true]); repeat (first | rw [if_pos (by omega)] | rw [if_neg (by omega)]))) (by simp only [gsC]; ((try simp only [true_and, and_true, if_true]); repeat (first | rw [if_pos (by omega)] | rw [if_neg (by omega)]))) (by simp only [gsC]; ((try simp only [true_and, and_true, if_true]); repeat (first | rw [if_pos (by omega)] | rw [if_neg (by omega)])))
theorem o_39 {F : Nat} : sm_39 II F := fun st hI => ⟨st.1 0 14, rfl, by unfold j_X6_asked; rw [hI.2.2.1.1], hI⟩
theorem o_40 {F : Nat} : sm_40 II F := fun st hI => ⟨st.2.1 0 15, rfl, by unfold j_X6_upper; rw [hI.2.2.1.2.2.2.1], hI⟩
theorem o_41 {F : Nat} : sm_41 II F := fun st hI => ⟨st.2.1 0 16, rfl, by unfold j_X6_lower; rw [hI.2.2.1.2.2.2.2], hI⟩
theorem o_43 {F : Nat} : sm_43 II F := fun st hI => ⟨st.1 0 13, rfl, by unfold j_X6_finding; rw [hI.2.2.1.2.1], hI⟩
theorem o_44 {F : Nat} : sm_44 II F := by
  intro a1 st hI
  unfold j_X5_findings j_X6_findings
  by_cases h : a1.toInt < 1 ∨ 5 < a1.toInt
  · refine ⟨-1, ?_, ?_, hI⟩
    · simp only [jn]
      by_cases q : a1 < 1
      · rw [if_pos q]
      · rw [if_neg q, if_neg]
        rw [i_le]
        rw [i_lt] at q
        rcases h with h | h
        · exact absurd h q
        · show ¬ a1.toInt ≤ 5
          omega
    · rw [in6_n (lo := 1) (hi := 5) rfl rfl h]
      rfl
  · have h1 : 1 ≤ a1.toInt := by omega
    have h2 : a1.toInt ≤ 5 := by omega
    obtain ⟨f, hf, rfl⟩ : ∃ f : Nat, f < 6 ∧ a1 = nI f := ⟨a1.toInt.toNat, by omega, by rw [i_eq, nI_toInt (by omega)]; omega⟩
    refine ⟨st.1 62 f, ?_, ?_, hI⟩
    · simp only [jn]
      rw [if_neg (by rw [i_lt]; show ¬ (nI f).toInt < 1; omega), if_pos (by rw [i_le]; exact h2), bnd_nI hf (by decide), nI_clamp (by omega)]
    · rw [in6_y (lo := 1) (hi := 5) rfl rfl h1 h2, bo_some]
      simp only [jn]
      rw [if_neg (by decide), bnd_nI hf (by decide), nI_clamp (by omega), hI.2.2.1.2.2.1 f hf]
