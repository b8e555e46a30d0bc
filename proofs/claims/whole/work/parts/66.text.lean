theorem vpb (v : Int32) : vp_nar .byte v.toInt8.toInt32 = v.toInt8.toInt32 := pk_vb v
theorem II_texts {st st2 : sw_St} (hI : II st) (hc : ch [10, 11, 12, 13, 14, 70, 71] st st2) (h2 : st2.2 = st.2) (hT : IT st2) : II st2 := by
  obtain ⟨hR, -, hA, hW⟩ := hI
  refine ⟨IR_c (hc.ag (by decide)) hR, hT, ?_, IW_c (hc.ag (by decide)) (by rw [hc 63 (by decide)]) (fun i _ => by rw [hc 64 (by decide)]) hW⟩
  unfold IA
  rw [hc 0 (by decide), hc 62 (by decide), hc 63 (by decide), hc 72 (by decide), h2]
  exact hA
theorem t_in {t : Nat} (h : t < 4) : 10 + t ∈ [10, 11, 12, 13, 14, 70, 71] := by
  rcases (show t = 0 ∨ t = 1 ∨ t = 2 ∨ t = 3 by omega) with rfl | rfl | rfl | rfl <;> decide
theorem IT_size {st : sw_St} (hI : II st) {t : Nat} (ht : t < 4) : (st.1 14 t = -1 ∧ st.1 70 t = -1) ∨ ∃ n, n ≤ 60 ∧ st.1 14 t = nI n ∧ st.1 70 t = nI n := by
  obtain ⟨h1, h2, -⟩ := hI.2.1 t ht
  rcases h2 with h2 | ⟨n, hn, h2⟩
  · exact Or.inl ⟨h2, by rw [← h1]; exact h2⟩
  · exact Or.inr ⟨n, hn, h2, by rw [← h1]; exact h2⟩
theorem o_6 {F : Nat} (hF : 20000 ≤ F) : sm_6 II F := by
  intro a1 a2 st hI
  unfold j_X5_text j_X6_text
  rcases nix a1 4 with h | ⟨r, hr, rfl⟩
  · exact ⟨-1, st, st, by rw [isText5_n h]; rfl, by rw [isText6_n h]; rfl, hI⟩
  by_cases h40 : a2 ≤ 60
  · by_cases h0 : 0 ≤ a2
    · have h40' : a2.toInt ≤ 60 := by rw [i_le] at h40; exact h40
      have h0' : 0 ≤ a2.toInt := by rw [i_le] at h0; exact h0
      obtain ⟨n, hn, rfl⟩ : ∃ n : Nat, n ≤ 60 ∧ a2 = nI n := ⟨a2.toInt.toNat, by omega, by rw [i_eq, nI_toInt (by omega)]; omega⟩
      refine ⟨nI n, flS (sw_setC st 14 r (nI n)) (10 + r) 0 60 32, flS (sw_setC (flS (sw_setC st 14 r (nI n)) (10 + r) 0 60 32) 70 r (nI n)) 71 (60 * r) 60 32, ?_, ?_, ?_⟩
      · rw [isText5_y hr, bo_some]
        simp only [jn, nm]
        rw [if_neg (by decide), if_pos h40, if_pos h0, bnd_nI hr (by decide), nI_clamp (by omega), bnd_nI hr (by decide), fillB hF (by rw [t4 hr]; decide), t4 hr]
        rfl
      · rw [isText6_y hr, bo_some]
        simp only [jn, nm]
        rw [if_neg (by decide), if_pos h40, if_pos h0, bnd_nI hr (by decide), nI_clamp (by omega)]
        refine fl_loop (K := fun s => some (nI n, s)) 71 (60 * r) 60 32 _ (by decide) (fun f i s hi => ?_) (fun f s => ?_) F (by omega)
        · rw [if_neg (show ¬ (60 : Int32) ≤ nI i from nI_ge hi (by decide)), l60, bnd_nI (by omega) (by decide), nI_clamp (by omega), nI_1]
        · rw [if_pos (show (60 : Int32) ≤ nI 60 by decide)]
      · refine II_texts hI (((((ch.rf _ st).C _ _ (by decide)).fl _ _ _ (t_in hr)).C _ _ (by decide)).fl _ _ _ (by decide)) rfl ?_
        intro q hq
        obtain ⟨e1, e2, e3⟩ := hI.2.1 q hq
        simp only [flS_at, gsC]
        by_cases e : q = r
        · subst e
          refine ⟨by ((try simp only [true_and, and_true, if_true]); repeat (first | rw [if_pos (by omega)] | rw [if_neg (by omega)])), Or.inr ⟨n, hn, by ((try simp only [true_and, and_true, if_true]); repeat (first | rw [if_pos (by omega)] | rw [if_neg (by omega)]))⟩, fun i hi => ?_⟩
          ((try simp only [true_and, and_true, if_true]); repeat (first | rw [if_pos (by omega)] | rw [if_neg (by omega)]))
        · refine ⟨by ((try simp only [true_and, and_true, if_true]); repeat (first | rw [if_pos (by omega)] | rw [if_neg (by omega)])); exact e1, ?_, fun i hi => ?_⟩
          · rcases e2 with e2 | ⟨k, hk, e2⟩
            · exact Or.inl (by ((try simp only [true_and, and_true, if_true]); repeat (first | rw [if_pos (by omega)] | rw [if_neg (by omega)])); exact e2)
            · exact Or.inr ⟨k, hk, by ((try simp only [true_and, and_true, if_true]); repeat (first | rw [if_pos (by omega)] | rw [if_neg (by omega)])); exact e2⟩
          · ((try simp only [true_and, and_true, if_true]); repeat (first | rw [if_pos (by omega)] | rw [if_neg (by omega)]))
            exact e3 i hi
    · refine ⟨-3, fd5 st 5, fd6 (fd5 st 5) 5, ?_, ?_, II_fd hI (by decide)⟩
      · rw [isText5_y hr, bo_some]
        simp only [jn]
        rw [if_neg (by decide), if_pos h40, if_neg h0, show (5 : Int32) = nI 5 from rfl, found5 (by decide)]
        rfl
      · rw [isText6_y hr, bo_some]
        simp only [jn]
        rw [if_neg (by decide), if_pos h40, if_neg h0, show (5 : Int32) = nI 5 from rfl, find6 (by decide)]
        rfl
  · refine ⟨-1, st, st, ?_, ?_, hI⟩
    · rw [isText5_y hr, bo_some]
      simp only [jn]
      rw [if_neg (by decide), if_neg h40]
    · rw [isText6_y hr, bo_some]
      simp only [jn]
      rw [if_neg (by decide), if_neg h40]
theorem o_7 {F : Nat} (hF : 20000 ≤ F) : sm_7 II F := by
  intro a1 a2 a3 st hI
  unfold j_X5_put j_X6_put
  rcases nix a1 4 with h | ⟨r, hr, rfl⟩
  · exact ⟨-1, st, st, by rw [isText5_n h]; rfl, by rw [isText6_n h]; rfl, hI⟩
  rw [isText5_y hr]
  simp only [bo_some, jn, nm]
  rw [if_neg (by decide), bnd_nI hr (by decide), nI_clamp (show r < 2 ^ 31 by omega)]
  rcases IT_size hI hr with ⟨s5, s6⟩ | ⟨n, hn, s5, s6⟩
  · refine ⟨-3, fd5 st 1, fd6 (fd5 st 1) 1, ?_, ?_, II_fd hI (by decide)⟩
    · rw [s5, if_neg (by decide), show (1 : Int32) = nI 1 from rfl, found5 (by decide)]
      rfl
    · rw [isText6_y hr, bo_some, if_neg (by decide), bnd_nI hr (by decide), fd5_o (by decide) (by decide), s6, if_neg (by decide), show (1 : Int32) = nI 1 from rfl, find6 (by decide)]
      rfl
  rw [s5, if_pos (show (0 : Int32) ≤ nI n from nI_pos' (by omega))]
  rcases nix a2 n with h | ⟨i, hi, rfl⟩
  · refine ⟨-3, fd5 st 2, fd6 (fd5 st 2) 2, ?_, ?_, II_fd hI (by decide)⟩
    · rw [show (2 : Int32) = nI 2 from rfl, found5 (by decide), bd_some]
      by_cases q : a2 < 0
      · rw [if_pos q]
      · rw [if_neg q, bnd_nI hr (by decide), if_neg]
        rw [i_lt, nI_tI (by omega)]
        rcases h with h | h
        · exact absurd (show a2 < 0 by rw [i_lt]; exact h) q
        · omega
    · rw [isText6_y hr, bo_some, if_neg (by decide), bnd_nI hr (by decide), fd5_o (by decide) (by decide), s6, if_pos (show (0 : Int32) ≤ nI n from nI_pos' (by omega)), bnd_nI hr (by decide),
        in6_n (lo := 0) (hi := (n : Int) - 1) rfl (by rw [i_l, sub1 (by omega)]) (by rcases h with h | h; exact Or.inl h; exact Or.inr (by omega)), bo_some, if_pos rfl, show (2 : Int32) = nI 2 from rfl, find6 (by decide)]
      rfl
  · have he := (hI.2.1 r hr).2.2 i (by omega)
    refine ⟨st.1 (10 + r) i + 1000, sw_setC st (10 + r) i a3.toInt8.toInt32, sw_setC (sw_setC st (10 + r) i a3.toInt8.toInt32) 71 (60 * r + i) a3.toInt8.toInt32, ?_, ?_, ?_⟩
    · rw [if_neg (show ¬ nI i < 0 from nI_pos (by omega)), bnd_nI hr (by decide), if_pos (nI_lt hi (by omega)), bnd_nI hr (by decide), bnd_nI (show i < 60 by omega) (by decide), nI_clamp (show i < 2 ^ 31 by omega), bnd_nI hr (by decide), bnd_nI (show i < 60 by omega) (by decide), vpb]
    · rw [isText6_y hr, bo_some, if_neg (by decide), bnd_nI hr (by decide), gsC_ne st i _ (show 70 ≠ 10 + r by omega), s6, if_pos (show (0 : Int32) ≤ nI n from nI_pos' (by omega)), bnd_nI hr (by decide),
        in6_y (lo := 0) (hi := (n : Int) - 1) rfl (by rw [i_l, sub1 (by omega)]) (by rw [nI_tI (by omega)]; omega) (by rw [nI_tI (by omega)]; omega), bo_some, if_neg (by decide), l60, bnd_nI (by omega) (by decide), bnd_nI (by omega) (by decide), nI_clamp (by omega), gsC_ne st i _ (show 71 ≠ 10 + r by omega), he]
    · refine II_texts hI (((ch.rf _ st).C _ _ (t_in hr)).C _ _ (by decide)) rfl (fun q hq => ?_)
      obtain ⟨e1, e2, e3⟩ := hI.2.1 q hq
      simp only [gsC]
      refine ⟨by ((try simp only [true_and, and_true, if_true]); repeat (first | rw [if_pos (by omega)] | rw [if_neg (by omega)])); exact e1, ?_, fun y hy => ?_⟩
      · rcases e2 with e2 | ⟨k, hk, e2⟩
        · exact Or.inl (by ((try simp only [true_and, and_true, if_true]); repeat (first | rw [if_pos (by omega)] | rw [if_neg (by omega)])); exact e2)
        · exact Or.inr ⟨k, hk, by ((try simp only [true_and, and_true, if_true]); repeat (first | rw [if_pos (by omega)] | rw [if_neg (by omega)])); exact e2⟩
      · by_cases e : q = r ∧ y = i
        · obtain ⟨rfl, rfl⟩ := e
          ((try simp only [true_and, and_true, if_true]); repeat (first | rw [if_pos (by omega)] | rw [if_neg (by omega)]))
        · ((try simp only [true_and, and_true, if_true]); repeat (first | rw [if_pos (by omega)] | rw [if_neg (by omega)]))
          exact e3 y hy
