/-! a stretch of a row filled -/
def flS (st : sw_St) (a o n : Nat) (v : Int32) : sw_St := sw_setA st a (fun i => if o ≤ i ∧ i < o + n then v else st.1 a i)
theorem setA_self (st : sw_St) (a : Nat) : sw_setA st a (st.1 a) = st := by
  unfold sw_setA
  refine Prod.ext ?_ rfl
  funext b
  show (if b = a then st.1 a else st.1 b) = st.1 b
  by_cases h : b = a
  · rw [if_pos h, h]
  · rw [if_neg h]
theorem flS_0 (st : sw_St) (a o : Nat) (v : Int32) : flS st a o 0 v = st := by
  unfold flS
  rw [show (fun i => if o ≤ i ∧ i < o + 0 then v else st.1 a i) = st.1 a from funext fun i => if_neg (by omega)]
  exact setA_self st a
theorem setC_A (st : sw_St) (a : Nat) (f : Nat → Int32) (k : Nat) (v : Int32) : sw_setC (sw_setA st a f) a k v = sw_setA st a (upd f k v) := by
  unfold sw_setC sw_setA
  refine Prod.ext ?_ rfl
  funext b
  show (if b = a then upd ((va_up st.1 a f) a) k v else (if b = a then f else st.1 b)) = if b = a then upd f k v else st.1 b
  by_cases h : b = a
  · rw [if_pos h, if_pos h, show (va_up st.1 a f) a = f from if_pos rfl]
  · rw [if_neg h, if_neg h, if_neg h]
theorem flS_s (st : sw_St) (a o i : Nat) (v : Int32) : sw_setC (flS st a o i v) a (o + i) v = flS st a o (i + 1) v := by
  unfold flS
  rw [setC_A]
  congr 1
  funext j
  show (if j = o + i then v else if o ≤ j ∧ j < o + i then v else st.1 a j) = _
  by_cases h : j = o + i
  · rw [if_pos h, if_pos (by omega)]
  · rw [if_neg h]
    by_cases q : o ≤ j ∧ j < o + i
    · rw [if_pos q, if_pos (by omega)]
    · rw [if_neg q, if_neg (by omega)]
theorem fl_loop {β : Type} {body : (Int32 → sw_St → Option β) → Int32 → sw_St → Option β} {K : sw_St → Option β} (a o n : Nat) (v : Int32) (st : sw_St) (hn : n < 2 ^ 31) (hb : ∀ f i s, i < n → body f (nI i) s = f (nI (i + 1)) (sw_setC s a (o + i) v)) (he : ∀ f s, body f (nI n) s = K s) (F : Nat) (hF : n < F) : lz2 body F 0 st = K (flS st a o n v) := by
  refine lz2_ind (Φ := fun x => x = K (flS st a o n v)) (fun x _ => n - x.toNatClampNeg) (fun x s => ∃ i, i ≤ n ∧ x = nI i ∧ s = flS st a o i v) (fun f x s hp ih => ?_) F 0 st ⟨0, Nat.zero_le _, rfl, (flS_0 st a o v).symm⟩ (by omega)
  obtain ⟨i, hi, rfl, rfl⟩ := hp
  rcases Nat.lt_or_ge i n with q | q
  · rw [hb f i _ q, flS_s]
    refine ih _ _ ⟨i + 1, q, rfl, rfl⟩ ?_
    rw [nI_clamp (by omega), nI_clamp (by omega)]
    omega
  · have e : i = n := by omega
    subst e
    exact he f _
theorem fillI {F a : Nat} {v : Int32} {st : sw_St} (hF : 20000 ≤ F) (hn : sw_ln a < 20000) : j_J7_fill_53178 F a v st = some ((), flS st a 0 (sw_ln a) v) := by
  unfold j_J7_fill_53178
  simp only [nm]
  refine fl_loop (K := fun s => some ((), s)) a 0 (sw_ln a) v st (by omega) (fun f i s hi => ?_) (fun f s => ?_) F (by omega)
  · rw [if_neg (nI_ge hi (by omega)), bnd_nI hi (by omega), nI_clamp (by omega), nI_1, Nat.zero_add]
  · rw [if_pos (nI_le (Nat.le_refl _) (by omega))]
theorem fillB {F a : Nat} {v : Int32} {st : sw_St} (hF : 20000 ≤ F) (hn : sw_ln a < 20000) : j_J7_fill_031fb F a v st = some ((), flS st a 0 (sw_ln a) (vp_nar .byte v)) := by
  unfold j_J7_fill_031fb
  simp only [nm]
  refine fl_loop (K := fun s => some ((), s)) a 0 (sw_ln a) (vp_nar .byte v) st (by omega) (fun f i s hi => ?_) (fun f s => ?_) F (by omega)
  · rw [if_neg (nI_ge hi (by omega)), bnd_nI hi (by omega), nI_clamp (by omega), nI_1, Nat.zero_add]
  · rw [if_pos (nI_le (Nat.le_refl _) (by omega))]
theorem r6 {r : Nat} (h : r < 6) : sw_ln (2 + r) = 40 := by
  rcases (show r = 0 ∨ r = 1 ∨ r = 2 ∨ r = 3 ∨ r = 4 ∨ r = 5 by omega) with rfl | rfl | rfl | rfl | rfl | rfl <;> rfl
theorem t4 {r : Nat} (h : r < 4) : sw_ln (10 + r) = 60 := by
  rcases (show r = 0 ∨ r = 1 ∨ r = 2 ∨ r = 3 by omega) with rfl | rfl | rfl | rfl <;> rfl
theorem l40 (r i : Nat) : (40 : Int32) * nI r + nI i = nI (40 * r + i) := by
  show nI 40 * nI r + nI i = _
  rw [pk_mul, nI_add]
theorem l60 (r i : Nat) : (60 : Int32) * nI r + nI i = nI (60 * r + i) := by
  show nI 60 * nI r + nI i = _
  rw [pk_mul, nI_add]
theorem makeRow6 {F r : Nat} {x : Int32} {st : sw_St} (hF : 20000 ≤ F) (hr : r < 6) : j_X6_makeRow F (nI r) x st = some ((), flS (sw_setC st 68 r x) 69 (40 * r) 40 0) := by
  unfold j_X6_makeRow
  simp only [nm, bnd_nI hr (by decide : 6 < 2 ^ 31), nI_clamp (show r < 2 ^ 31 by omega)]
  refine fl_loop (K := fun s => some ((), s)) 69 (40 * r) 40 0 (sw_setC st 68 r x) (by decide) (fun f i s hi => ?_) (fun f s => ?_) F (by omega)
  · rw [if_neg (show ¬ (40 : Int32) ≤ nI i from nI_ge hi (by decide)), l40, bnd_nI (by omega) (by decide), nI_clamp (by omega), nI_1]
  · rw [if_pos (show (40 : Int32) ≤ nI 40 by decide)]
theorem flS_at (st : sw_St) (a o n : Nat) (v : Int32) (b i : Nat) : (flS st a o n v).1 b i = if b = a ∧ o ≤ i ∧ i < o + n then v else st.1 b i := by
  show (if b = a then (fun i => if o ≤ i ∧ i < o + n then v else st.1 a i) else st.1 b) i = _
  by_cases h : b = a
  · subst h
    rw [if_pos rfl]
    show (if o ≤ i ∧ i < o + n then v else st.1 b i) = _
    by_cases q : o ≤ i ∧ i < o + n
    · rw [if_pos q, if_pos ⟨rfl, q⟩]
    · rw [if_neg q, if_neg (fun z => q z.2)]
  · rw [if_neg h, if_neg (fun z => h z.1)]
theorem ch.fl {S : List Nat} {st st1 : sw_St} (h : ch S st st1) {a : Nat} (o n : Nat) (v : Int32) (ha : a ∈ S) : ch S st (flS st1 a o n v) := ch.A h _ ha
/-- the rows' cells alone -/
theorem r_in {r : Nat} (h : r < 6) : 2 + r ∈ [2, 3, 4, 5, 6, 7, 8, 68, 69] := by
  rcases (show r = 0 ∨ r = 1 ∨ r = 2 ∨ r = 3 ∨ r = 4 ∨ r = 5 by omega) with rfl | rfl | rfl | rfl | rfl | rfl <;> decide
theorem II_rows {st st2 : sw_St} (hI : II st) (hc : ch [2, 3, 4, 5, 6, 7, 8, 68, 69] st st2) (h2 : st2.2 = st.2) (hR : IR st2) : II st2 := by
  obtain ⟨-, hT, hA, hW⟩ := hI
  refine ⟨hR, IT_c (hc.ag (by decide)) hT, ?_, IW_c (hc.ag (by decide)) (by rw [hc 63 (by decide)]) (fun i _ => by rw [hc 64 (by decide)]) hW⟩
  unfold IA
  rw [hc 0 (by decide), hc 62 (by decide), hc 63 (by decide), hc 72 (by decide), h2]
  exact hA
theorem m1 : (-1 : Int32) = -1 := rfl
theorem o_0 {F : Nat} (hF : 20000 ≤ F) : sm_0 II F := by
  intro a1 a2 st hI
  unfold j_X5_row j_X6_row
  rcases nix a1 6 with h | ⟨r, hr, rfl⟩
  · exact ⟨-1, st, st, by rw [isRow5_n h]; rfl, by rw [isRow6_n h]; rfl, hI⟩
  by_cases h40 : a2 ≤ 40
  · by_cases h0 : 0 ≤ a2
    · have h40' : a2.toInt ≤ 40 := by rw [i_le] at h40; exact h40
      have h0' : 0 ≤ a2.toInt := by rw [i_le] at h0; exact h0
      obtain ⟨n, hn, rfl⟩ : ∃ n : Nat, n ≤ 40 ∧ a2 = nI n := ⟨a2.toInt.toNat, by omega, by rw [i_eq, nI_toInt (by omega)]; omega⟩
      refine ⟨nI n, flS (sw_setC st 8 r (nI n)) (2 + r) 0 40 0, flS (sw_setC (flS (sw_setC st 8 r (nI n)) (2 + r) 0 40 0) 68 r (nI n)) 69 (40 * r) 40 0, ?_, ?_, ?_⟩
      · rw [isRow5_y hr, bo_some]
        simp only [jn, nm]
        rw [if_neg (by decide), if_pos h40, if_pos h0, bnd_nI hr (by decide), nI_clamp (by omega), bnd_nI hr (by decide), fillI hF (by rw [r6 hr]; decide), r6 hr]
        rfl
      · rw [isRow6_y hr, bo_some]
        simp only [jn]
        rw [if_neg (by decide), if_pos h40, if_pos h0, makeRow6 hF hr]
        rfl
      · refine II_rows hI (((((ch.rf _ st).C _ _ (by decide)).fl _ _ _ (r_in hr)).C _ _ (by decide)).fl _ _ _ (by decide)) rfl ?_
        intro q hq
        have hIq := hI.1 q hq
        simp only [flS_at, gsC]
        by_cases e : q = r
        · subst e
          refine ⟨by ((try simp only [true_and, and_true, if_true]); repeat (first | rw [if_pos (by omega)] | rw [if_neg (by omega)])), Or.inr ⟨n, hn, by ((try simp only [true_and, and_true, if_true]); repeat (first | rw [if_pos (by omega)] | rw [if_neg (by omega)])), fun i hi => ?_⟩⟩
          ((try simp only [true_and, and_true, if_true]); repeat (first | rw [if_pos (by omega)] | rw [if_neg (by omega)]))
        · obtain ⟨e1, e2⟩ := hIq
          refine ⟨by ((try simp only [true_and, and_true, if_true]); repeat (first | rw [if_pos (by omega)] | rw [if_neg (by omega)])); exact e1, ?_⟩
          rcases e2 with e2 | ⟨k, hk, e2, e3⟩
          · exact Or.inl (by ((try simp only [true_and, and_true, if_true]); repeat (first | rw [if_pos (by omega)] | rw [if_neg (by omega)])); exact e2)
          · refine Or.inr ⟨k, hk, by ((try simp only [true_and, and_true, if_true]); repeat (first | rw [if_pos (by omega)] | rw [if_neg (by omega)])); exact e2, fun i hi => ?_⟩
            ((try simp only [true_and, and_true, if_true]); repeat (first | rw [if_pos (by omega)] | rw [if_neg (by omega)]))
            exact e3 i hi
    · refine ⟨-3, fd5 st 5, fd6 (fd5 st 5) 5, ?_, ?_, II_fd hI (by decide)⟩
      · rw [isRow5_y hr, bo_some]
        simp only [jn]
        rw [if_neg (by decide), if_pos h40, if_neg h0, show (5 : Int32) = nI 5 from rfl, found5 (by decide)]
        rfl
      · rw [isRow6_y hr, bo_some]
        simp only [jn]
        rw [if_neg (by decide), if_pos h40, if_neg h0, show (5 : Int32) = nI 5 from rfl, find6 (by decide)]
        rfl
  · refine ⟨-1, st, st, ?_, ?_, hI⟩
    · rw [isRow5_y hr, bo_some]
      simp only [jn]
      rw [if_neg (by decide), if_neg h40]
    · rw [isRow6_y hr, bo_some]
      simp only [jn]
      rw [if_neg (by decide), if_neg h40]
