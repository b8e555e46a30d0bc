/-! the world: 77 cells by number (their addresses by g.1), what they hold by one state -/
abbrev sw_St : Type := (Nat → Nat → Int32) × (Nat → Nat → Int64) × Nat
abbrev sw_G : Type := (Nat → Nat) × va_G × (Nat → ClassId)
/-- each cell's kind (0 .. 6 a class, 7 byte[], 8 int[], 9 boolean[], 10 Town[], 11 byte[][], 12 int[][]) and its length -/
def sw_lay : List (Nat × Nat) := [(5, 0), (12, 6), (8, 40), (8, 40), (8, 40), (8, 40), (8, 40), (8, 40), (8, 6), (11, 4), (7, 60), (7, 60), (7, 60), (7, 60), (8, 4),
  (4, 0), (8, 6), (8, 6), (8, 6), (8, 6), (8, 40), (8, 40),
  (4, 0), (8, 6), (8, 6), (8, 6), (8, 6), (8, 40), (8, 40),
  (10, 3),
  (4, 0), (8, 6), (8, 6), (8, 6), (8, 6), (8, 40), (8, 40),
  (4, 0), (8, 6), (8, 6), (8, 6), (8, 6), (8, 40), (8, 40),
  (4, 0), (8, 6), (8, 6), (8, 6), (8, 6), (8, 40), (8, 40),
  (9, 3), (3, 0), (7, 0), (1, 0), (8, 5), (8, 5), (2, 0), (8, 6), (8, 6), (0, 0), (8, 6), (8, 6),
  (6, 0), (8, 835), (8, 6), (8, 6), (8, 6), (8, 6), (8, 240), (8, 4), (8, 240), (8, 6), (8, 24), (8, 6), (9, 64), (8, 2401)]
def sw_kd (i : Nat) : Nat := (sw_lay.getD i (99, 0)).1
def sw_ln (i : Nat) : Nat := (sw_lay.getD i (99, 0)).2
/-- a field's sort: 0 int, 1 long, 2 a reference -/
def sw_fkT : List (List Nat) := [[0, 0, 0, 0, 0, 0, 2], [0, 0, 2, 2, 0, 0, 0, 0], [2, 2, 0, 0], [2, 0, 0], [0, 2, 2, 2, 2, 0, 0, 0, 0, 0, 0, 0, 2, 2, 0],
  [2, 2, 2, 2, 2, 2, 2, 2, 2, 2, 2, 2, 2, 0, 0, 1, 1], [2, 0, 2, 2, 2, 2, 2, 2, 2, 0, 1, 1, 0, 2, 0, 0, 0, 0, 0, 2, 0, 0, 2, 0, 0, 0, 0, 2, 2]]
def sw_fk (ci k : Nat) : Nat := (sw_fkT.getD ci []).getD k 9
/-- where a class's reference fields lead: a number, or (a Town's) how far behind the Town -/
def sw_rlT : List (List Nat) := [[0, 0, 0, 0, 0, 0, 61], [0, 0, 55, 56, 0, 0, 0, 0], [58, 59, 0, 0], [0, 0, 0], [0, 1, 2, 3, 4, 0, 0, 0, 0, 0, 0, 0, 5, 6, 0],
  [1, 8, 9, 14, 15, 22, 29, 51, 52, 54, 57, 60, 62, 0, 0, 0, 0], [64, 0, 65, 66, 67, 68, 69, 70, 71, 0, 0, 0, 0, 72, 0, 0, 0, 0, 0, 73, 0, 0, 74, 0, 0, 0, 0, 75, 76]]
def sw_rl (ci k : Nat) : Nat := (sw_rlT.getD ci []).getD k 0
def sw_rf (st : sw_St) (o k : Nat) : Nat := if sw_kd o = 3 then st.2.2 else if sw_kd o = 4 then o + sw_rl 4 k else sw_rl (sw_kd o) k
def sw_nf (ci : Nat) : Nat := (sw_fkT.getD ci []).length
def sw_fv (g : sw_G) (st : sw_St) (o k : Nat) : Value := if sw_fk (sw_kd o) k = 0 then .int (st.1 o k) else if sw_fk (sw_kd o) k = 1 then .long (st.2.1 o k) else .ref (g.1 (sw_rf st o k))
/-- what the arrays of references hold -/
def sw_ra (i j : Nat) : Nat := if sw_kd i = 12 then 2 + j else if sw_kd i = 11 then 10 + j else 30 + 7 * j
def sw_cell (g : sw_G) (st : sw_St) (i : Nat) : va_E :=
  if sw_kd i < 7 then .inr (sw_kd i, (List.range (sw_nf (sw_kd i))).map (sw_fv g st i))
  else if sw_kd i < 10 then .inl (g.2.2 (sw_kd i), sw_ln i, .inl (st.1 i))
  else .inl (g.2.2 (sw_kd i), sw_ln i, .inr (.inr (.inr (.inr (fun j => some (g.1 (sw_ra i j)))))))
def sw_W (g : sw_G) (st : sw_St) : va_W := (List.range 77).map (fun i => (g.1 i, sw_cell g st i))
def sw_tys (g : sw_G) : List (ClassId × FieldType) := [(g.2.2 7, .byte), (g.2.2 8, .int), (g.2.2 9, .boolean), (g.2.2 10, .object "StrangersWind$Town"), (g.2.2 11, .array .byte), (g.2.2 12, .array .int)]
def sw_setC (st : sw_St) (o k : Nat) (v : Int32) : sw_St := (va_up st.1 o (upd (st.1 o) k v), st.2)
def sw_setA (st : sw_St) (o : Nat) (f : Nat → Int32) : sw_St := (va_up st.1 o f, st.2)
def sw_setJ (st : sw_St) (o k : Nat) (v : Int64) : sw_St := (st.1, va_up st.2.1 o (vp_updL (st.2.1 o) k v), st.2.2)
def sw_setB (st : sw_St) (b : Nat) : sw_St := (st.1, st.2.1, b)
def sw_Inj (g : sw_G) : Prop := ∀ i j, i < 77 → j < 77 → g.1 i = g.1 j → i = j
def sw_A (g : sw_G) (sz : Nat) : Nat → Prop := fun q => (∃ i, i < 77 ∧ q = g.1 i) ∨ sz ≤ q
theorem sw_lt {i : Nat} (h : sw_kd i < 13) : i < 77 := by
  rcases Nat.lt_or_ge i 77 with q | q
  · exact q
  · exfalso
    have e : sw_lay[i]? = none := List.getElem?_eq_none (by show 77 ≤ i; exact q)
    unfold sw_kd at h
    rw [List.getD_eq_getElem?_getD, e] at h
    exact absurd h (by decide)
theorem sw_ltk {i k : Nat} (h : sw_kd i = k) (hk : k < 13) : i < 77 := sw_lt (by rw [h]; exact hk)
theorem sw_W_get (g : sw_G) (st : sw_St) {i : Nat} (h : i < 77) : (sw_W g st)[i]? = some (g.1 i, sw_cell g st i) := by
  unfold sw_W
  rw [List.getElem?_map, List.getElem?_range h]
  rfl
theorem sw_W_len (g : sw_G) (st : sw_St) : (sw_W g st).length = 77 := by
  unfold sw_W
  rw [List.length_map, List.length_range]
theorem sw_W_set (g : sw_G) (st st' : sw_St) {o : Nat} (ho : o < 77) (e : va_E) (he : sw_cell g st' o = e) (hn : ∀ i, i ≠ o → sw_cell g st' i = sw_cell g st i) : (sw_W g st).set o (g.1 o, e) = sw_W g st' := by
  apply List.ext_getElem?
  intro i
  rw [List.getElem?_set]
  by_cases h : o = i
  · subst h
    rw [if_pos rfl, sw_W_len, if_pos ho, sw_W_get g st' ho, he]
  · rw [if_neg h]
    rcases Nat.lt_or_ge i 77 with q | q
    · rw [sw_W_get g st q, sw_W_get g st' q, hn i (fun e => h e.symm)]
    · rw [List.getElem?_eq_none (by rw [sw_W_len]; exact q), List.getElem?_eq_none (by rw [sw_W_len]; exact q)]
theorem sw_W_D (g : sw_G) (A : Nat → Prop) (hi : sw_Inj g) (hA : ∀ i, i < 77 → A (g.1 i)) (st : sw_St) : va_D A (sw_W g st) := by
  have key : ∀ (k : Nat) (q : Nat × va_E), (sw_W g st)[k]? = some q → k < 77 ∧ q.1 = g.1 k := by
    intro k q h
    have hl : k < 77 := by
      have := (List.getElem?_eq_some_iff.mp h).1
      rwa [sw_W_len] at this
    rw [sw_W_get g st hl] at h
    cases h
    exact ⟨hl, rfl⟩
  refine ⟨fun i j p q h1 h2 e => ?_, fun k q h => ?_⟩
  · obtain ⟨a1, a2⟩ := key i p h1
    obtain ⟨b1, b2⟩ := key j q h2
    exact hi i j a1 b1 (by rw [← a2, ← b2]; exact e)
  · obtain ⟨a1, a2⟩ := key k q h
    rw [a2]
    exact hA k a1
theorem sw_fs_set (n k : Nat) (f f' : Nat → Value) (v : Value) (hk : f' k = v) (hne : ∀ j, j ≠ k → f' j = f j) : ((List.range n).map f).set k v = (List.range n).map f' := by
  apply List.ext_getElem?
  intro i
  rw [List.getElem?_set]
  by_cases h : k = i
  · subst h
    rw [if_pos rfl, List.length_map, List.length_range]
    by_cases q : k < n
    · rw [if_pos q, List.getElem?_map, List.getElem?_range q]
      show some v = some (f' k)
      rw [hk]
    · rw [if_neg q, List.getElem?_eq_none (by rw [List.length_map, List.length_range]; omega)]
  · rw [if_neg h]
    by_cases q : i < n
    · rw [List.getElem?_map, List.getElem?_range q, List.getElem?_map, List.getElem?_range q]
      show some (f i) = some (f' i)
      rw [hne i (fun e => h e.symm)]
    · rw [List.getElem?_eq_none (by rw [List.length_map, List.length_range]; omega), List.getElem?_eq_none (by rw [List.length_map, List.length_range]; omega)]
theorem sw_cell_congr (g : sw_G) {st st' : sw_St} {i : Nat} (h1 : st'.1 i = st.1 i) (h2 : st'.2.1 i = st.2.1 i) (h3 : sw_kd i = 3 → st'.2.2 = st.2.2) : sw_cell g st' i = sw_cell g st i := by
  have e : sw_fv g st' i = sw_fv g st i := by
    funext k
    unfold sw_fv sw_rf
    rw [h1, h2]
    by_cases q : sw_kd i = 3
    · rw [if_pos q, if_pos q, h3 q]
    · rw [if_neg q, if_neg q]
  unfold sw_cell
  rw [e, h1]
theorem sw_cell_o (g : sw_G) (st : sw_St) {o ci : Nat} (h : sw_kd o = ci) (hc : ci < 7) : sw_cell g st o = .inr (ci, (List.range (sw_nf ci)).map (sw_fv g st o)) := by
  subst h
  unfold sw_cell
  rw [if_pos hc]
theorem sw_cell_a (g : sw_G) (st : sw_St) {a k n : Nat} (h : sw_kd a = k) (hn : sw_ln a = n) (hc : 7 ≤ k) (hc2 : k < 10) : sw_cell g st a = .inl (g.2.2 k, n, .inl (st.1 a)) := by
  subst h hn
  unfold sw_cell
  rw [if_neg (by omega), if_pos hc2]
theorem sw_cell_q (g : sw_G) (st : sw_St) {a k n : Nat} (h : sw_kd a = k) (hn : sw_ln a = n) (hc : 10 ≤ k) : sw_cell g st a = .inl (g.2.2 k, n, .inr (.inr (.inr (.inr (fun j => some (g.1 (sw_ra a j))))))) := by
  subst h hn
  unfold sw_cell
  rw [if_neg (by omega), if_neg (by omega)]
theorem sw_set_a (g : sw_G) (st : sw_St) {a k n : Nat} (h : sw_kd a = k) (hn : sw_ln a = n) (hc : 7 ≤ k) (hc2 : k < 10) (f : Nat → Int32) : (sw_W g st).set a (g.1 a, .inl (g.2.2 k, n, .inl f)) = sw_W g (sw_setA st a f) := by
  refine sw_W_set g st _ (sw_ltk h (by omega)) _ ?_ ?_
  · rw [sw_cell_a g _ h hn hc hc2]
    show Sum.inl (g.2.2 k, n, Sum.inl (va_up st.1 a f a)) = _
    rw [show (va_up st.1 a f) a = f from if_pos rfl]
  · intro i hi
    exact sw_cell_congr g (if_neg hi) rfl (fun _ => rfl)
theorem sw_setC_A (st : sw_St) (a i : Nat) (v : Int32) : sw_setA st a (upd (st.1 a) i v) = sw_setC st a i v := rfl
theorem sw_set_i (g : sw_G) (st : sw_St) {o ci k : Nat} (h : sw_kd o = ci) (hc : ci < 7) (hf : sw_fk ci k = 0) (v : Int32) : (sw_W g st).set o (g.1 o, .inr (ci, ((List.range (sw_nf ci)).map (sw_fv g st o)).set k (.int v))) = sw_W g (sw_setC st o k v) := by
  refine sw_W_set g st _ (sw_ltk h (by omega)) _ ?_ ?_
  · rw [sw_cell_o g _ h hc]
    congr 2
    symm
    refine sw_fs_set _ _ _ _ _ ?_ ?_
    · unfold sw_fv
      rw [h, if_pos hf]
      show Value.int ((va_up st.1 o (upd (st.1 o) k v)) o k) = _
      rw [show (va_up st.1 o (upd (st.1 o) k v)) o = upd (st.1 o) k v from if_pos rfl, show upd (st.1 o) k v k = v from if_pos rfl]
    · intro j hj
      unfold sw_fv sw_rf
      show (if sw_fk (sw_kd o) j = 0 then Value.int ((va_up st.1 o (upd (st.1 o) k v)) o j) else _) = _
      rw [show (va_up st.1 o (upd (st.1 o) k v)) o = upd (st.1 o) k v from if_pos rfl, show upd (st.1 o) k v j = st.1 o j from if_neg hj]
      rfl
  · intro i hi
    exact sw_cell_congr g (if_neg hi) rfl (fun _ => rfl)
theorem sw_set_l (g : sw_G) (st : sw_St) {o ci k : Nat} (h : sw_kd o = ci) (hc : ci < 7) (hf : sw_fk ci k = 1) (v : Int64) : (sw_W g st).set o (g.1 o, .inr (ci, ((List.range (sw_nf ci)).map (sw_fv g st o)).set k (.long v))) = sw_W g (sw_setJ st o k v) := by
  refine sw_W_set g st _ (sw_ltk h (by omega)) _ ?_ ?_
  · rw [sw_cell_o g _ h hc]
    congr 2
    symm
    refine sw_fs_set _ _ _ _ _ ?_ ?_
    · unfold sw_fv
      rw [h, if_neg (by omega), if_pos hf]
      show Value.long ((va_up st.2.1 o (vp_updL (st.2.1 o) k v)) o k) = _
      rw [show (va_up st.2.1 o (vp_updL (st.2.1 o) k v)) o = vp_updL (st.2.1 o) k v from if_pos rfl, show vp_updL (st.2.1 o) k v k = v from if_pos rfl]
    · intro j hj
      unfold sw_fv sw_rf
      show (if sw_fk (sw_kd o) j = 0 then Value.int (st.1 o j) else if sw_fk (sw_kd o) j = 1 then Value.long ((va_up st.2.1 o (vp_updL (st.2.1 o) k v)) o j) else _) = _
      rw [show (va_up st.2.1 o (vp_updL (st.2.1 o) k v)) o = vp_updL (st.2.1 o) k v from if_pos rfl, show vp_updL (st.2.1 o) k v j = st.2.1 o j from if_neg hj]
      rfl
  · intro i hi
    exact sw_cell_congr g rfl (if_neg hi) (fun _ => rfl)
theorem sw_kd3 {i : Nat} (h : sw_kd i = 3) : i = 52 := by
  have hl := sw_ltk h (by decide)
  exact (by decide : ∀ i : Fin 77, sw_kd i.val = 3 → i.val = 52) ⟨i, hl⟩ h
theorem sw_set_b (g : sw_G) (st : sw_St) (b : Nat) : (sw_W g st).set 52 (g.1 52, .inr (3, ((List.range (sw_nf 3)).map (sw_fv g st 52)).set 0 (.ref (g.1 b)))) = sw_W g (sw_setB st b) := by
  refine sw_W_set g st _ (by decide) _ ?_ ?_
  · rw [sw_cell_o g _ (show sw_kd 52 = 3 from rfl) (by decide)]
    rfl
  · intro i hi
    exact sw_cell_congr g rfl rfl (fun h => absurd (sw_kd3 h) hi)
theorem sw_fvI (g : sw_G) (st : sw_St) {o ci k : Nat} (h : sw_kd o = ci) (hf : sw_fk ci k = 0) : sw_fv g st o k = .int (st.1 o k) := by
  unfold sw_fv
  rw [h, if_pos hf]
theorem sw_fvL (g : sw_G) (st : sw_St) {o ci k : Nat} (h : sw_kd o = ci) (hf : sw_fk ci k = 1) : sw_fv g st o k = .long (st.2.1 o k) := by
  unfold sw_fv
  rw [h, if_neg (by omega), if_pos hf]
theorem sw_fvR (g : sw_G) (st : sw_St) {o ci k : Nat} (h : sw_kd o = ci) (hf : sw_fk ci k = 2) : sw_fv g st o k = .ref (g.1 (sw_rf st o k)) := by
  unfold sw_fv
  rw [h, if_neg (by omega), if_neg (by omega)]
theorem sw_rfT (st : sw_St) {t k : Nat} (h : sw_kd t = 4) : sw_rf st t k = t + sw_rl 4 k := by
  unfold sw_rf
  rw [if_neg (by omega), if_pos h]
theorem sw_tw {t : Nat} (h : sw_kd t = 4) : t = 15 ∨ t = 22 ∨ t = 30 ∨ t = 37 ∨ t = 44 := by
  have hl := sw_ltk h (by decide)
  exact (by decide : ∀ t : Fin 77, sw_kd t.val = 4 → t.val = 15 ∨ t.val = 22 ∨ t.val = 30 ∨ t.val = 37 ∨ t.val = 44) ⟨t, hl⟩ h
theorem sw_tw1 {t : Nat} (h : sw_kd t = 4) (k : Nat) (hk : k < 6) : sw_kd (t + (k + 1)) = 8 ∧ sw_ln (t + (k + 1)) = if k < 4 then 6 else 40 := by
  have hk' : k = 0 ∨ k = 1 ∨ k = 2 ∨ k = 3 ∨ k = 4 ∨ k = 5 := by omega
  rcases sw_tw h with rfl | rfl | rfl | rfl | rfl <;> rcases hk' with rfl | rfl | rfl | rfl | rfl | rfl <;> exact ⟨rfl, rfl⟩
