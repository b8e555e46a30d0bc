theorem i_lt (a b : Int32) : a < b ↔ a.toInt < b.toInt := Int32.lt_iff_toInt_lt
theorem i_le (a b : Int32) : a ≤ b ↔ a.toInt ≤ b.toInt := Int32.le_iff_toInt_le
theorem i_eq (a b : Int32) : a = b ↔ a.toInt = b.toInt := Int32.toInt_inj.symm
theorem l_lt (a b : Int64) : a < b ↔ a.toInt < b.toInt := Int64.lt_iff_toInt_lt
theorem l_le (a b : Int64) : a ≤ b ↔ a.toInt ≤ b.toInt := Int64.le_iff_toInt_le
theorem l_eq (a b : Int64) : a = b ↔ a.toInt = b.toInt := Int64.toInt_inj.symm
theorem i_l (a : Int32) : a.toInt64.toInt = a.toInt := Int32.toInt_toInt64 a
theorem lg_lt (x y : Int64) : lg_cmp x y < 0 ↔ x < y := by
  unfold lg_cmp
  by_cases h : x > y
  · rw [if_pos h]
    refine ⟨fun q => absurd q (by decide), fun q => ?_⟩
    rw [l_lt] at q
    have h : y < x := h
    rw [l_lt] at h
    omega
  · rw [if_neg h]
    by_cases e : x = y
    · rw [if_pos e]
      subst e
      exact ⟨fun q => absurd q (by decide), fun q => absurd q h⟩
    · rw [if_neg e]
      refine ⟨fun _ => ?_, fun _ => by decide⟩
      rw [l_lt]
      have h : ¬ y < x := h
      rw [l_lt] at h
      rw [l_eq] at e
      omega
theorem lg_gt (x y : Int64) : 0 < lg_cmp x y ↔ y < x := by
  unfold lg_cmp
  by_cases h : x > y
  · rw [if_pos h]
    exact ⟨fun _ => h, fun _ => by decide⟩
  · rw [if_neg h]
    refine ⟨fun q => ?_, fun q => absurd q h⟩
    by_cases e : x = y
    · rw [if_pos e] at q
      exact absurd q (by decide)
    · rw [if_neg e] at q
      exact absurd q (by decide)
theorem in6 (F : Nat) (a b c : Int64) (st : sw_St) : j_X6_in F a b c st = some (if a < b ∨ c < a then 0 else 1) := by
  unfold j_X6_in
  simp only [jn, grd]
  by_cases h1 : a < b
  · rw [if_pos ((lg_lt a b).mpr h1), if_pos (Or.inl h1)]
    rfl
  · rw [if_neg (fun q => h1 ((lg_lt a b).mp q))]
    by_cases h2 : c < a
    · rw [if_pos ((lg_gt a c).mpr h2), if_pos (Or.inr h2)]
      rfl
    · rw [if_neg (fun q => h2 ((lg_gt a c).mp q)), if_neg (show ¬ (a < b ∨ c < a) from fun q => q.elim h1 h2)]
      rfl
theorem in6r {F : Nat} {a : Int32} {b c : Int64} {lo hi : Int} {st : sw_St} (hb : b.toInt = lo) (hc : c.toInt = hi) : j_X6_in F a.toInt64 b c st = some (if a.toInt < lo ∨ hi < a.toInt then 0 else 1) := by
  rw [in6]
  congr 1
  have e : (a.toInt64 < b ∨ c < a.toInt64) ↔ (a.toInt < lo ∨ hi < a.toInt) := by rw [l_lt, l_lt, i_l, hb, hc]
  by_cases q : a.toInt < lo ∨ hi < a.toInt
  · rw [if_pos q, if_pos (e.mpr q)]
  · rw [if_neg q, if_neg (fun z => q (e.mp z))]
theorem in6_y {F : Nat} {a : Int32} {b c : Int64} {lo hi : Int} {st : sw_St} (hb : b.toInt = lo) (hc : c.toInt = hi) (h1 : lo ≤ a.toInt) (h2 : a.toInt ≤ hi) : j_X6_in F a.toInt64 b c st = some 1 := by
  rw [in6r hb hc, if_neg (by omega)]
theorem in6_n {F : Nat} {a : Int32} {b c : Int64} {lo hi : Int} {st : sw_St} (hb : b.toInt = lo) (hc : c.toInt = hi) (h : a.toInt < lo ∨ hi < a.toInt) : j_X6_in F a.toInt64 b c st = some 0 := by
  rw [in6r hb hc, if_pos h]
/-- a number out of 0 .. n - 1 -/
def nout (a : Int32) (n : Nat) : Prop := a.toInt < 0 ∨ (n : Int) ≤ a.toInt
theorem nix (a : Int32) (n : Nat) : nout a n ∨ ∃ j, j < n ∧ a = nI j := by
  by_cases h : a.toInt < 0
  · exact Or.inl (Or.inl h)
  by_cases h2 : (n : Int) ≤ a.toInt
  · exact Or.inl (Or.inr h2)
  have hr := a.toInt_lt
  have e : a = nI a.toInt.toNat := by
    rw [i_eq, nI_toInt (by omega)]
    omega
  exact Or.inr ⟨a.toInt.toNat, by omega, e⟩
theorem isRow5_y {F r : Nat} {st : sw_St} (h : r < 6) : j_X5_isRow F (nI r) st = some 1 := by
  unfold j_X5_isRow
  simp only [jn, grd]
  rw [if_neg (show ¬ nI r < 0 from nI_pos (by omega)), if_neg (show ¬ (6 : Int32) ≤ nI r from nI_ge h (by decide))]
  rfl
theorem isRow5_n {F : Nat} {a : Int32} {st : sw_St} (h : nout a 6) : j_X5_isRow F a st = some 0 := by
  unfold j_X5_isRow
  simp only [jn, grd]
  rcases h with h | h
  · rw [if_pos (show a < 0 by rw [i_lt]; exact h)]
    rfl
  · by_cases q : a < 0
    · rw [if_pos q]; rfl
    · rw [if_neg q, if_pos (show (6 : Int32) ≤ a by rw [i_le]; exact h)]
      rfl
theorem isRow6_y {F r : Nat} {st : sw_St} (h : r < 6) : j_X6_isRow F (nI r) st = some 1 := by
  unfold j_X6_isRow
  rw [in6_y (lo := 0) (hi := 5) rfl rfl (by rw [nI_toInt (by omega)]; omega) (by rw [nI_toInt (by omega)]; omega)]
  rfl
theorem isRow6_n {F : Nat} {a : Int32} {st : sw_St} (h : nout a 6) : j_X6_isRow F a st = some 0 := by
  unfold j_X6_isRow
  rw [in6_n (lo := 0) (hi := 5) rfl rfl (by rcases h with h | h; exact Or.inl h; exact Or.inr (by omega))]
  rfl
theorem isText5_y {F r : Nat} {st : sw_St} (h : r < 4) : j_X5_isText F (nI r) st = some 1 := by
  unfold j_X5_isText
  simp only [jn, grd]
  rw [if_neg (show ¬ nI r < 0 from nI_pos (by omega)), if_neg (show ¬ (4 : Int32) ≤ nI r from nI_ge h (by decide))]
  rfl
theorem isText5_n {F : Nat} {a : Int32} {st : sw_St} (h : nout a 4) : j_X5_isText F a st = some 0 := by
  unfold j_X5_isText
  simp only [jn, grd]
  rcases h with h | h
  · rw [if_pos (show a < 0 by rw [i_lt]; exact h)]
    rfl
  · by_cases q : a < 0
    · rw [if_pos q]; rfl
    · rw [if_neg q, if_pos (show (4 : Int32) ≤ a by rw [i_le]; exact h)]
      rfl
theorem isText6_y {F r : Nat} {st : sw_St} (h : r < 4) : j_X6_isText F (nI r) st = some 1 := by
  unfold j_X6_isText
  rw [in6_y (lo := 0) (hi := 3) rfl rfl (by rw [nI_toInt (by omega)]; omega) (by rw [nI_toInt (by omega)]; omega)]
  rfl
theorem isText6_n {F : Nat} {a : Int32} {st : sw_St} (h : nout a 4) : j_X6_isText F a st = some 0 := by
  unfold j_X6_isText
  rw [in6_n (lo := 0) (hi := 3) rfl rfl (by rcases h with h | h; exact Or.inl h; exact Or.inr (by omega))]
  rfl
/-! findings -/
def fd5 (st : sw_St) (f : Nat) : sw_St := sw_setC (sw_setC st 0 13 (nI f)) 62 f (st.1 62 f + 1)
def fd6 (st : sw_St) (f : Nat) : sw_St := sw_setC (sw_setC st 63 12 (nI f)) 72 f (st.1 72 f + 1)
theorem found5 {F f : Nat} {st : sw_St} (h : f < 6) : j_X5_found F (nI f) st = some (-3, fd5 st f) := by
  unfold j_X5_found
  simp only [nm, bnd_nI h (by decide : 6 < 2 ^ 31), nI_clamp (show f < 2 ^ 31 by omega)]
  rfl
theorem find6 {F f : Nat} {st : sw_St} (h : f < 6) : j_X6_find F (nI f) st = some (-3, fd6 st f) := by
  unfold j_X6_find
  simp only [nm, bnd_nI h (by decide : 6 < 2 ^ 31), nI_clamp (show f < 2 ^ 31 by omega)]
  rfl
/-- only the cells of S may have changed -/
def ch (S : List Nat) (st st1 : sw_St) : Prop := ∀ a, a ∉ S → st1.1 a = st.1 a
theorem ch.ag {S L : List Nat} {st st1 : sw_St} (h : ch S st st1) (hd : ∀ a, a ∈ L → a ∉ S) : ag L st st1 := fun a ha => h a (hd a ha)
theorem ch.rf (S : List Nat) (st : sw_St) : ch S st st := fun _ _ => rfl
theorem ch.tr {S : List Nat} {st st1 st2 : sw_St} (h : ch S st st1) (h2 : ch S st1 st2) : ch S st st2 := fun a ha => (h2 a ha).trans (h a ha)
theorem ch.C {S : List Nat} {st st1 : sw_St} (h : ch S st st1) {o : Nat} (k : Nat) (v : Int32) (ho : o ∈ S) : ch S st (sw_setC st1 o k v) := fun a ha => (gsC_ne (a := a) (o := o) st1 k v (fun e => ha (by rw [e]; exact ho))).trans (h a ha)
theorem ch.A {S : List Nat} {st st1 : sw_St} (h : ch S st st1) {o : Nat} (f : Nat → Int32) (ho : o ∈ S) : ch S st (sw_setA st1 o f) := fun a ha => (gsA_ne (a := a) (o := o) st1 f (fun e => ha (by rw [e]; exact ho))).trans (h a ha)
theorem ch.J {S : List Nat} {st st1 : sw_St} (h : ch S st st1) (o k : Nat) (v : Int64) : ch S st (sw_setJ st1 o k v) := fun a ha => h a ha
theorem II_fd {st : sw_St} {f : Nat} (hI : II st) (hf : f < 6) : II (fd6 (fd5 st f) f) := by
  obtain ⟨hR, hT, hA, hW⟩ := hI
  have hc : ch [0, 62, 63, 72] st (fd6 (fd5 st f) f) := ((((ch.rf _ st).C _ _ (by decide)).C _ _ (by decide)).C _ _ (by decide)).C _ _ (by decide)
  refine ⟨IR_c (hc.ag (by decide)) hR, IT_c (hc.ag (by decide)) hT, ?_, IW_c (hc.ag (by decide)) ?_ (fun i _ => by rw [hc 64 (by decide)]) hW⟩
  · obtain ⟨h1, h2, h3, h4, h5⟩ := hA
    refine ⟨?_, ?_, fun g hg => ?_, h4, h5⟩
    · simp only [fd6, fd5, gsC]
      simpa using h1
    · simp [fd6, fd5, gsC]
    · have := h3 g hg
      have := h3 f hf
      simp only [fd6, fd5, gsC]
      by_cases e : g = f
      · subst e
        simp
        exact this
      · simp [e]
        exact h3 g hg
  · simp [fd6, fd5, gsC]
