theorem sub1 {n : Nat} (h : n < 2 ^ 30) : (nI n - 1).toInt = (n : Int) - 1 := by
  show (nI n - nI 1).toInt = _
  rw [pk_sub_toInt h (by decide)]
  rfl
theorem nI_tI {n : Nat} (h : n ≤ 100000) : (nI n).toInt = (n : Int) := nI_toInt (by omega)
theorem rp5_b {F : Nat} {a1 a2 : Int32} {st : sw_St} (h : nout a1 6) : j_X5_refusedPlace F a1 a2 st = some (-1, st) := by
  unfold j_X5_refusedPlace
  rw [isRow5_n h, bo_some, if_pos rfl]
theorem rp5_1 {F r : Nat} {a2 : Int32} {st : sw_St} (hr : r < 6) (hs : st.1 8 r = -1) : j_X5_refusedPlace F (nI r) a2 st = some (-3, fd5 st 1) := by
  unfold j_X5_refusedPlace
  rw [isRow5_y hr, bo_some, if_neg (by decide), bnd_nI hr (by decide), nI_clamp (by omega), hs, if_neg (by decide), show (1 : Int32) = nI 1 from rfl, found5 (by decide)]
  rfl
theorem rp5_2 {F r n : Nat} {a2 : Int32} {st : sw_St} (hr : r < 6) (hs : st.1 8 r = nI n) (hn : n ≤ 40) (h : nout a2 n) : j_X5_refusedPlace F (nI r) a2 st = some (-3, fd5 st 2) := by
  unfold j_X5_refusedPlace
  rw [isRow5_y hr, bo_some, if_neg (by decide), bnd_nI hr (by decide), nI_clamp (by omega), hs, if_pos (show (0 : Int32) ≤ nI n from nI_pos' (by omega))]
  simp only [jn]
  rw [show (2 : Int32) = nI 2 from rfl, found5 (by decide), bd_some]
  by_cases q : a2 < 0
  · rw [if_pos q]
  · rw [if_neg q, bnd_nI hr (by decide), if_neg]
    rw [i_lt, nI_tI (by omega)]
    rcases h with h | h
    · exact absurd (show a2 < 0 by rw [i_lt]; exact h) q
    · omega
theorem rp5_0 {F r n i : Nat} {st : sw_St} (hr : r < 6) (hs : st.1 8 r = nI n) (hn : n ≤ 40) (hi : i < n) : j_X5_refusedPlace F (nI r) (nI i) st = some (0, st) := by
  unfold j_X5_refusedPlace
  rw [isRow5_y hr, bo_some, if_neg (by decide), bnd_nI hr (by decide), nI_clamp (by omega), hs, if_pos (show (0 : Int32) ≤ nI n from nI_pos' (by omega))]
  simp only [jn]
  rw [if_neg (show ¬ nI i < 0 from nI_pos (by omega)), bnd_nI hr (by decide), if_pos (nI_lt hi (by omega))]
theorem rp6_b {F : Nat} {a1 a2 : Int32} {st : sw_St} (h : nout a1 6) : j_X6_refused F a1 a2 st = some (-1, st) := by
  unfold j_X6_refused
  rw [isRow6_n h, bo_some]
  rfl
theorem rp6_1 {F r : Nat} {a2 : Int32} {st : sw_St} (hr : r < 6) (hs : st.1 68 r = -1) : j_X6_refused F (nI r) a2 st = some (-3, fd6 st 1) := by
  unfold j_X6_refused
  rw [isRow6_y hr, bo_some]
  simp only [jn]
  rw [if_neg (by decide), bnd_nI hr (by decide), nI_clamp (by omega), hs, if_neg (by decide), show (1 : Int32) = nI 1 from rfl, find6 (by decide)]
  rfl
theorem rp6_2 {F r n : Nat} {a2 : Int32} {st : sw_St} (hr : r < 6) (hs : st.1 68 r = nI n) (hn : n ≤ 40) (h : nout a2 n) : j_X6_refused F (nI r) a2 st = some (-3, fd6 st 2) := by
  unfold j_X6_refused
  rw [isRow6_y hr, bo_some]
  simp only [jn]
  rw [if_neg (by decide), bnd_nI hr (by decide), nI_clamp (by omega), hs, if_pos (show (0 : Int32) ≤ nI n from nI_pos' (by omega)), bnd_nI hr (by decide),
    in6_n (lo := 0) (hi := (n : Int) - 1) rfl (by rw [i_l, sub1 (by omega)]) (by rcases h with h | h; exact Or.inl h; exact Or.inr (by omega)), bo_some, if_pos rfl, show (2 : Int32) = nI 2 from rfl, find6 (by decide)]
  rfl
theorem rp6_0 {F r n i : Nat} {st : sw_St} (hr : r < 6) (hs : st.1 68 r = nI n) (hn : n ≤ 40) (hi : i < n) : j_X6_refused F (nI r) (nI i) st = some (0, st) := by
  unfold j_X6_refused
  rw [isRow6_y hr, bo_some]
  simp only [jn]
  rw [if_neg (by decide), bnd_nI hr (by decide), nI_clamp (by omega), hs, if_pos (show (0 : Int32) ≤ nI n from nI_pos' (by omega)), bnd_nI hr (by decide),
    in6_y (lo := 0) (hi := (n : Int) - 1) rfl (by rw [i_l, sub1 (by omega)]) (by rw [nI_tI (by omega)]; omega) (by rw [nI_tI (by omega)]; omega), bo_some, if_neg (by decide)]
theorem fd5_o {st : sw_St} {f a i : Nat} (h0 : a ≠ 0) (h1 : a ≠ 62) : (fd5 st f).1 a i = st.1 a i := by
  unfold fd5
  rw [gsC, if_neg (fun z => h1 z.1), gsC, if_neg (fun z => h0 z.1)]
/-- where both refuse alike -/
theorem IR_size {st : sw_St} (hI : II st) {r : Nat} (hr : r < 6) : (st.1 8 r = -1 ∧ st.1 68 r = -1) ∨ ∃ n, n ≤ 40 ∧ st.1 8 r = nI n ∧ st.1 68 r = nI n ∧ ∀ i, i < n → st.1 (2 + r) i = st.1 69 (40 * r + i) := by
  obtain ⟨h1, h2⟩ := hI.1 r hr
  rcases h2 with h2 | ⟨n, hn, h2, h3⟩
  · exact Or.inl ⟨h2, by rw [← h1]; exact h2⟩
  · exact Or.inr ⟨n, hn, h2, by rw [← h1]; exact h2, h3⟩
theorem II_tell {st : sw_St} (hI : II st) {v : Int32} {st2 : sw_St} (hc : ch [0, 63] st st2) (h2 : st2.2.1 = st.2.1) (h0 : st2.1 0 14 = v) (h1 : st2.1 63 9 = v) (h3 : st2.1 0 13 = st.1 0 13) (h4 : st2.1 63 12 = st.1 63 12) (h5 : st2.1 63 1 = st.1 63 1) : II st2 := by
  obtain ⟨hR, hT, hA, hW⟩ := hI
  refine ⟨IR_c (hc.ag (by decide)) hR, IT_c (hc.ag (by decide)) hT, ?_, IW_c (hc.ag (by decide)) h5 (fun i _ => by rw [hc 64 (by decide)]) hW⟩
  unfold IA
  rw [h0, h1, h3, h4, hc 62 (by decide), hc 72 (by decide), h2]
  exact ⟨rfl, hA.2⟩
theorem o_2 {F : Nat} (hF : 20000 ≤ F) : sm_2 II F := by
  intro a1 a2 st hI
  unfold j_X5_at j_X6_at
  rcases nix a1 6 with h | ⟨r, hr, rfl⟩
  · exact ⟨-1, st, st, by rw [rp5_b h]; rfl, by rw [rp6_b h]; rfl, hI⟩
  rcases IR_size hI hr with ⟨s5, s6⟩ | ⟨n, hn, s5, s6, he⟩
  · exact ⟨-3, fd5 st 1, fd6 (fd5 st 1) 1, by rw [rp5_1 hr s5]; rfl, by rw [rp6_1 hr (by rw [fd5_o (by decide) (by decide)]; exact s6)]; rfl, II_fd hI (by decide)⟩
  rcases nix a2 n with h | ⟨i, hi, rfl⟩
  · exact ⟨-3, fd5 st 2, fd6 (fd5 st 2) 2, by rw [rp5_2 hr s5 hn h]; rfl, by rw [rp6_2 hr (by rw [fd5_o (by decide) (by decide)]; exact s6) hn h]; rfl, II_fd hI (by decide)⟩
  · refine ⟨1, sw_setC st 0 14 (st.1 (2 + r) i), sw_setC (sw_setC st 0 14 (st.1 (2 + r) i)) 63 9 (st.1 (2 + r) i), ?_, ?_, ?_⟩
    · rw [rp5_0 hr s5 hn hi, bd_some, if_pos rfl, bnd_nI hr (by decide), bnd_nI (show i < 40 by omega) (by decide), nI_clamp (by omega), nI_clamp (by omega)]
      rfl
    · rw [rp6_0 hr (by rw [gsC, if_neg (by omega)]; exact s6) hn hi, bd_some]
      simp only [jn]
      rw [if_pos trivial, l40, bnd_nI (by omega) (by decide), nI_clamp (by omega), gsC, if_neg (by omega), he i hi]
      rfl
    · exact II_tell hI (((ch.rf _ st).C _ _ (by decide)).C _ _ (by decide)) rfl (v := st.1 (2 + r) i) (by simp only [gsC]; ((try simp only [true_and, and_true, if_true]); repeat (first | rw [if_pos (by omega)] | rw [if_neg (by omega)]))) (by simp only [gsC]; ((try simp only [true_and, and_true, if_true]); repeat (first | rw [if_pos (by omega)] | rw [if_neg (by omega)]))) (by simp only [gsC]; ((try simp only [true_and, and_true, if_true]); repeat (first | rw [if_pos (by omega)] | rw [if_neg (by omega)]))) (by simp only [gsC]; ((try simp only [true_and, and_true, if_true]); repeat (first | rw [if_pos (by omega)] | rw [if_neg (by omega)]))) (by simp only [gsC]; ((try simp only [true_and, and_true, if_true]); repeat (first | rw [if_pos (by omega)] | rw [if_neg (by omega)])))
theorem o_1 {F : Nat} (hF : 20000 ≤ F) : sm_1 II F := by
  intro a1 a2 a3 st hI
  unfold j_X5_lay j_X6_lay
  rcases nix a1 6 with h | ⟨r, hr, rfl⟩
  · exact ⟨-1, st, st, by rw [rp5_b h]; rfl, by rw [rp6_b h]; rfl, hI⟩
  rcases IR_size hI hr with ⟨s5, s6⟩ | ⟨n, hn, s5, s6, he⟩
  · exact ⟨-3, fd5 st 1, fd6 (fd5 st 1) 1, by rw [rp5_1 hr s5]; rfl, by rw [rp6_1 hr (by rw [fd5_o (by decide) (by decide)]; exact s6)]; rfl, II_fd hI (by decide)⟩
  rcases nix a2 n with h | ⟨i, hi, rfl⟩
  · exact ⟨-3, fd5 st 2, fd6 (fd5 st 2) 2, by rw [rp5_2 hr s5 hn h]; rfl, by rw [rp6_2 hr (by rw [fd5_o (by decide) (by decide)]; exact s6) hn h]; rfl, II_fd hI (by decide)⟩
  · obtain ⟨v, hv⟩ : ∃ v, v = st.1 (2 + r) i := ⟨_, rfl⟩
    refine ⟨1, sw_setC (sw_setC st 0 14 v) (2 + r) i a3, sw_setC (sw_setC (sw_setC (sw_setC st 0 14 v) (2 + r) i a3) 69 (40 * r + i) a3) 63 9 v, ?_, ?_, ?_⟩
    · rw [rp5_0 hr s5 hn hi, bd_some, if_pos rfl, bnd_nI hr (by decide), bnd_nI (show i < 40 by omega) (by decide), nI_clamp (by omega), nI_clamp (by omega), ← hv]
      simp only [nm]
      rw [bnd_nI hr (by decide), bnd_nI (show i < 40 by omega) (by decide)]
    · rw [rp6_0 hr (by simp only [gsC]; ((try simp only [true_and, and_true, if_true]); repeat (first | rw [if_pos (by omega)] | rw [if_neg (by omega)])); exact s6) hn hi, bd_some, if_pos rfl, l40, bnd_nI (by omega) (by decide), nI_clamp (by omega)]
      simp only [nm]
      rw [bnd_nI (by omega) (by decide)]
      rw [show (sw_setC (sw_setC st 0 14 v) (2 + r) i a3).1 69 (40 * r + i) = v by simp only [gsC]; ((try simp only [true_and, and_true, if_true]); repeat (first | rw [if_pos (by omega)] | rw [if_neg (by omega)])); rw [hv, he i hi]]
      rfl
    · obtain ⟨hR, hT, hA, hW⟩ := hI
      have hc : ch [0, 2, 3, 4, 5, 6, 7, 63, 69] st (sw_setC (sw_setC (sw_setC (sw_setC st 0 14 v) (2 + r) i a3) 69 (40 * r + i) a3) 63 9 v) := ((((ch.rf _ st).C _ _ (by decide)).C _ _ (by rcases (show r = 0 ∨ r = 1 ∨ r = 2 ∨ r = 3 ∨ r = 4 ∨ r = 5 by omega) with rfl | rfl | rfl | rfl | rfl | rfl <;> decide)).C _ _ (by decide)).C _ _ (by decide)
      refine ⟨fun q hq => ?_, IT_c (hc.ag (by decide)) hT, ?_, IW_c (hc.ag (by decide)) (by simp only [gsC]; ((try simp only [true_and, and_true, if_true]); repeat (first | rw [if_pos (by omega)] | rw [if_neg (by omega)]))) (fun i _ => by rw [hc 64 (by decide)]) hW⟩
      · obtain ⟨e1, e2⟩ := hR q hq
        rw [hc 8 (by decide), hc 68 (by decide)]
        refine ⟨e1, ?_⟩
        rcases e2 with e2 | ⟨k, hk, e2, e3⟩
        · exact Or.inl e2
        · refine Or.inr ⟨k, hk, e2, fun j hj => ?_⟩
          have := e3 j hj
          simp only [gsC]
          by_cases e : q = r ∧ j = i
          · obtain ⟨rfl, rfl⟩ := e
            ((try simp only [true_and, and_true, if_true]); repeat (first | rw [if_pos (by omega)] | rw [if_neg (by omega)]))
          · ((try simp only [true_and, and_true, if_true]); repeat (first | rw [if_pos (by omega)] | rw [if_neg (by omega)]))
            exact this
      · unfold IA
        rw [hc 62 (by decide), hc 72 (by decide)]
        simp only [gsC, gsC2]
        ((try simp only [true_and, and_true, if_true]); repeat (first | rw [if_pos (by omega)] | rw [if_neg (by omega)]))
        exact ⟨rfl, hA.2⟩
theorem o_3 {F : Nat} (hF : 20000 ≤ F) : sm_3 II F := by
  intro a1 st hI
  unfold j_X5_tear j_X6_tear
  rcases nix a1 6 with h | ⟨r, hr, rfl⟩
  · exact ⟨-1, st, st, by rw [isRow5_n h]; rfl, by rw [isRow6_n h]; rfl, hI⟩
  rw [isRow5_y hr]
  rcases IR_size hI hr with ⟨s5, s6⟩ | ⟨n, hn, s5, s6, he⟩
  · refine ⟨-3, fd5 st 1, fd6 (fd5 st 1) 1, ?_, ?_, II_fd hI (by decide)⟩
    · rw [bo_some, if_neg (by decide), bnd_nI hr (by decide), nI_clamp (by omega), s5, if_neg (by decide), show (1 : Int32) = nI 1 from rfl, found5 (by decide)]
      rfl
    · rw [isRow6_y hr, bo_some, if_neg (by decide), bnd_nI hr (by decide), nI_clamp (by omega), fd5_o (by decide) (by decide), s6, if_neg (by decide), show (1 : Int32) = nI 1 from rfl, find6 (by decide)]
      rfl
  · refine ⟨1, sw_setC st 8 r (-1), sw_setC (sw_setC st 8 r (-1)) 68 r (-1), ?_, ?_, ?_⟩
    · rw [bo_some, if_neg (by decide), bnd_nI hr (by decide), nI_clamp (by omega), s5, if_pos (show (0 : Int32) ≤ nI n from nI_pos' (by omega)), bnd_nI hr (by decide)]
      rfl
    · rw [isRow6_y hr, bo_some, if_neg (by decide), bnd_nI hr (by decide), nI_clamp (by omega), gsC_ne st r (-1) (show 68 ≠ 8 by decide), s6, if_pos (show (0 : Int32) ≤ nI n from nI_pos' (by omega)), bnd_nI hr (by decide)]
      rfl
    · refine II_rows hI (((ch.rf _ st).C _ _ (by decide)).C _ _ (by decide)) rfl (fun q hq => ?_)
      obtain ⟨e1, e2⟩ := hI.1 q hq
      simp only [gsC]
      by_cases e : q = r
      · subst e
        exact ⟨by ((try simp only [true_and, and_true, if_true]); repeat (first | rw [if_pos (by omega)] | rw [if_neg (by omega)])), Or.inl (by ((try simp only [true_and, and_true, if_true]); repeat (first | rw [if_pos (by omega)] | rw [if_neg (by omega)])))⟩
      · refine ⟨by ((try simp only [true_and, and_true, if_true]); repeat (first | rw [if_pos (by omega)] | rw [if_neg (by omega)])); exact e1, ?_⟩
        rcases e2 with e2 | ⟨k, hk, e2, e3⟩
        · exact Or.inl (by ((try simp only [true_and, and_true, if_true]); repeat (first | rw [if_pos (by omega)] | rw [if_neg (by omega)])); exact e2)
        · refine Or.inr ⟨k, hk, by ((try simp only [true_and, and_true, if_true]); repeat (first | rw [if_pos (by omega)] | rw [if_neg (by omega)])); exact e2, fun j hj => ?_⟩
          ((try simp only [true_and, and_true, if_true]); repeat (first | rw [if_pos (by omega)] | rw [if_neg (by omega)]))
          exact e3 j hj
