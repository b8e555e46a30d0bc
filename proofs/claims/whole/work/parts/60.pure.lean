/-! pure rows: what a computation comes to; the relation between the two sides -/
theorem fa_litN (n : Nat) : (OfNat.ofNat n : Int32) = nI n := rfl
theorem bo_some {α β : Type} (a : α) (k : α → Option β) : bo (some a) k = k a := rfl
theorem bd_some {α σ β : Type} (a : α) (t : σ) (k : α → σ → Option β) : bd (some (a, t)) k = k a t := rfl
theorem bnd_in {β : Type} {i : Int32} {n : Nat} (h : vp_in i n) (k : Option β) : bnd i n k = k := if_neg h
theorem bnd_nI {β : Type} {j n : Nat} (h : j < n) (hn : n < 2 ^ 31) (k : Option β) : bnd (nI j) n k = k := bnd_in (vp_in_nI h hn) k
theorem grd_y {β : Type} {c : Prop} [Decidable c] (h : c) (k : Option β) : grd c k = k := if_pos h
theorem gsC (st : sw_St) (o k : Nat) (v : Int32) (a i : Nat) : (sw_setC st o k v).1 a i = if a = o ∧ i = k then v else st.1 a i := by
  show (if a = o then upd (st.1 o) k v else st.1 a) i = _
  by_cases h : a = o
  · subst h
    rw [if_pos rfl]
    show (if i = k then v else st.1 a i) = _
    by_cases q : i = k
    · rw [if_pos q, if_pos ⟨rfl, q⟩]
    · rw [if_neg q, if_neg (fun z => q z.2)]
  · rw [if_neg h, if_neg (fun z => h z.1)]
theorem gsC2 (st : sw_St) (o k : Nat) (v : Int32) : (sw_setC st o k v).2 = st.2 := rfl
theorem gsC_ne (st : sw_St) {o : Nat} (k : Nat) (v : Int32) {a : Nat} (h : a ≠ o) : (sw_setC st o k v).1 a = st.1 a := if_neg h
theorem gsA (st : sw_St) (o : Nat) (f : Nat → Int32) (a : Nat) : (sw_setA st o f).1 a = if a = o then f else st.1 a := rfl
theorem gsA2 (st : sw_St) (o : Nat) (f : Nat → Int32) : (sw_setA st o f).2 = st.2 := rfl
theorem gsA_ne (st : sw_St) {o : Nat} (f : Nat → Int32) {a : Nat} (h : a ≠ o) : (sw_setA st o f).1 a = st.1 a := if_neg h
theorem gsJ1 (st : sw_St) (o k : Nat) (v : Int64) : (sw_setJ st o k v).1 = st.1 := rfl
theorem gsJ (st : sw_St) (o k : Nat) (v : Int64) (a i : Nat) : (sw_setJ st o k v).2.1 a i = if a = o ∧ i = k then v else st.2.1 a i := by
  show (if a = o then vp_updL (st.2.1 o) k v else st.2.1 a) i = _
  by_cases h : a = o
  · subst h
    rw [if_pos rfl]
    show (if i = k then v else st.2.1 a i) = _
    by_cases q : i = k
    · rw [if_pos q, if_pos ⟨rfl, q⟩]
    · rw [if_neg q, if_neg (fun z => q z.2)]
  · rw [if_neg h, if_neg (fun z => h z.1)]

theorem lz1_ind {A1 β : Type} {body : (A1 → Option β) → A1 → Option β} {Φ : Option β → Prop} (μ : A1 → Nat) (P : A1 → Prop) (h : ∀ (f : A1 → Option β) (x1 : A1), P x1 → (∀ (y1 : A1), P y1 → μ y1 < μ x1 → Φ (f y1)) → Φ (body f x1)) : ∀ (F : Nat) (x1 : A1), P x1 → μ x1 < F → Φ (lz1 body F x1)
  | 0, x1, _, q => absurd q (Nat.not_lt_zero _)
  | n + 1, x1, hp, q => h (lz1 body n) x1 hp (fun y1 hy hm => lz1_ind μ P h n y1 hy (by omega))
theorem lz2_ind {A1 A2 β : Type} {body : (A1 → A2 → Option β) → A1 → A2 → Option β} {Φ : Option β → Prop} (μ : A1 → A2 → Nat) (P : A1 → A2 → Prop) (h : ∀ (f : A1 → A2 → Option β) (x1 : A1) (x2 : A2), P x1 x2 → (∀ (y1 : A1) (y2 : A2), P y1 y2 → μ y1 y2 < μ x1 x2 → Φ (f y1 y2)) → Φ (body f x1 x2)) : ∀ (F : Nat) (x1 : A1) (x2 : A2), P x1 x2 → μ x1 x2 < F → Φ (lz2 body F x1 x2)
  | 0, x1, x2, _, q => absurd q (Nat.not_lt_zero _)
  | n + 1, x1, x2, hp, q => h (lz2 body n) x1 x2 hp (fun y1 y2 hy hm => lz2_ind μ P h n y1 y2 hy (by omega))
theorem lz3_ind {A1 A2 A3 β : Type} {body : (A1 → A2 → A3 → Option β) → A1 → A2 → A3 → Option β} {Φ : Option β → Prop} (μ : A1 → A2 → A3 → Nat) (P : A1 → A2 → A3 → Prop) (h : ∀ (f : A1 → A2 → A3 → Option β) (x1 : A1) (x2 : A2) (x3 : A3), P x1 x2 x3 → (∀ (y1 : A1) (y2 : A2) (y3 : A3), P y1 y2 y3 → μ y1 y2 y3 < μ x1 x2 x3 → Φ (f y1 y2 y3)) → Φ (body f x1 x2 x3)) : ∀ (F : Nat) (x1 : A1) (x2 : A2) (x3 : A3), P x1 x2 x3 → μ x1 x2 x3 < F → Φ (lz3 body F x1 x2 x3)
  | 0, x1, x2, x3, _, q => absurd q (Nat.not_lt_zero _)
  | n + 1, x1, x2, x3, hp, q => h (lz3 body n) x1 x2 x3 hp (fun y1 y2 y3 hy hm => lz3_ind μ P h n y1 y2 y3 hy (by omega))
theorem lz4_ind {A1 A2 A3 A4 β : Type} {body : (A1 → A2 → A3 → A4 → Option β) → A1 → A2 → A3 → A4 → Option β} {Φ : Option β → Prop} (μ : A1 → A2 → A3 → A4 → Nat) (P : A1 → A2 → A3 → A4 → Prop) (h : ∀ (f : A1 → A2 → A3 → A4 → Option β) (x1 : A1) (x2 : A2) (x3 : A3) (x4 : A4), P x1 x2 x3 x4 → (∀ (y1 : A1) (y2 : A2) (y3 : A3) (y4 : A4), P y1 y2 y3 y4 → μ y1 y2 y3 y4 < μ x1 x2 x3 x4 → Φ (f y1 y2 y3 y4)) → Φ (body f x1 x2 x3 x4)) : ∀ (F : Nat) (x1 : A1) (x2 : A2) (x3 : A3) (x4 : A4), P x1 x2 x3 x4 → μ x1 x2 x3 x4 < F → Φ (lz4 body F x1 x2 x3 x4)
  | 0, x1, x2, x3, x4, _, q => absurd q (Nat.not_lt_zero _)
  | n + 1, x1, x2, x3, x4, hp, q => h (lz4 body n) x1 x2 x3 x4 hp (fun y1 y2 y3 y4 hy hm => lz4_ind μ P h n y1 y2 y3 y4 hy (by omega))
theorem lz5_ind {A1 A2 A3 A4 A5 β : Type} {body : (A1 → A2 → A3 → A4 → A5 → Option β) → A1 → A2 → A3 → A4 → A5 → Option β} {Φ : Option β → Prop} (μ : A1 → A2 → A3 → A4 → A5 → Nat) (P : A1 → A2 → A3 → A4 → A5 → Prop) (h : ∀ (f : A1 → A2 → A3 → A4 → A5 → Option β) (x1 : A1) (x2 : A2) (x3 : A3) (x4 : A4) (x5 : A5), P x1 x2 x3 x4 x5 → (∀ (y1 : A1) (y2 : A2) (y3 : A3) (y4 : A4) (y5 : A5), P y1 y2 y3 y4 y5 → μ y1 y2 y3 y4 y5 < μ x1 x2 x3 x4 x5 → Φ (f y1 y2 y3 y4 y5)) → Φ (body f x1 x2 x3 x4 x5)) : ∀ (F : Nat) (x1 : A1) (x2 : A2) (x3 : A3) (x4 : A4) (x5 : A5), P x1 x2 x3 x4 x5 → μ x1 x2 x3 x4 x5 < F → Φ (lz5 body F x1 x2 x3 x4 x5)
  | 0, x1, x2, x3, x4, x5, _, q => absurd q (Nat.not_lt_zero _)
  | n + 1, x1, x2, x3, x4, x5, hp, q => h (lz5 body n) x1 x2 x3 x4 x5 hp (fun y1 y2 y3 y4 y5 hy hm => lz5_ind μ P h n y1 y2 y3 y4 y5 hy (by omega))
theorem lz6_ind {A1 A2 A3 A4 A5 A6 β : Type} {body : (A1 → A2 → A3 → A4 → A5 → A6 → Option β) → A1 → A2 → A3 → A4 → A5 → A6 → Option β} {Φ : Option β → Prop} (μ : A1 → A2 → A3 → A4 → A5 → A6 → Nat) (P : A1 → A2 → A3 → A4 → A5 → A6 → Prop) (h : ∀ (f : A1 → A2 → A3 → A4 → A5 → A6 → Option β) (x1 : A1) (x2 : A2) (x3 : A3) (x4 : A4) (x5 : A5) (x6 : A6), P x1 x2 x3 x4 x5 x6 → (∀ (y1 : A1) (y2 : A2) (y3 : A3) (y4 : A4) (y5 : A5) (y6 : A6), P y1 y2 y3 y4 y5 y6 → μ y1 y2 y3 y4 y5 y6 < μ x1 x2 x3 x4 x5 x6 → Φ (f y1 y2 y3 y4 y5 y6)) → Φ (body f x1 x2 x3 x4 x5 x6)) : ∀ (F : Nat) (x1 : A1) (x2 : A2) (x3 : A3) (x4 : A4) (x5 : A5) (x6 : A6), P x1 x2 x3 x4 x5 x6 → μ x1 x2 x3 x4 x5 x6 < F → Φ (lz6 body F x1 x2 x3 x4 x5 x6)
  | 0, x1, x2, x3, x4, x5, x6, _, q => absurd q (Nat.not_lt_zero _)
  | n + 1, x1, x2, x3, x4, x5, x6, hp, q => h (lz6 body n) x1 x2 x3 x4 x5 x6 hp (fun y1 y2 y3 y4 y5 y6 hy hm => lz6_ind μ P h n y1 y2 y3 y4 y5 y6 hy (by omega))
theorem lz7_ind {A1 A2 A3 A4 A5 A6 A7 β : Type} {body : (A1 → A2 → A3 → A4 → A5 → A6 → A7 → Option β) → A1 → A2 → A3 → A4 → A5 → A6 → A7 → Option β} {Φ : Option β → Prop} (μ : A1 → A2 → A3 → A4 → A5 → A6 → A7 → Nat) (P : A1 → A2 → A3 → A4 → A5 → A6 → A7 → Prop) (h : ∀ (f : A1 → A2 → A3 → A4 → A5 → A6 → A7 → Option β) (x1 : A1) (x2 : A2) (x3 : A3) (x4 : A4) (x5 : A5) (x6 : A6) (x7 : A7), P x1 x2 x3 x4 x5 x6 x7 → (∀ (y1 : A1) (y2 : A2) (y3 : A3) (y4 : A4) (y5 : A5) (y6 : A6) (y7 : A7), P y1 y2 y3 y4 y5 y6 y7 → μ y1 y2 y3 y4 y5 y6 y7 < μ x1 x2 x3 x4 x5 x6 x7 → Φ (f y1 y2 y3 y4 y5 y6 y7)) → Φ (body f x1 x2 x3 x4 x5 x6 x7)) : ∀ (F : Nat) (x1 : A1) (x2 : A2) (x3 : A3) (x4 : A4) (x5 : A5) (x6 : A6) (x7 : A7), P x1 x2 x3 x4 x5 x6 x7 → μ x1 x2 x3 x4 x5 x6 x7 < F → Φ (lz7 body F x1 x2 x3 x4 x5 x6 x7)
  | 0, x1, x2, x3, x4, x5, x6, x7, _, q => absurd q (Nat.not_lt_zero _)
  | n + 1, x1, x2, x3, x4, x5, x6, x7, hp, q => h (lz7 body n) x1 x2 x3 x4 x5 x6 x7 hp (fun y1 y2 y3 y4 y5 y6 y7 hy hm => lz7_ind μ P h n y1 y2 y3 y4 y5 y6 y7 hy (by omega))
/-! the town's numbers -/
abbrev pw_D : Type := Nat × Nat × Nat × Nat × Nat
def pw_pop (s : Nat) : Nat := (List.range 6).countP (fun i => s.testBit i)
def pw_pil (n : Nat) (kd : Nat → Nat) (s : Nat) : Nat := (List.range n).countP (fun i => s.testBit i && kd i == 3)
def pw_clr (s i : Nat) : Nat := if s.testBit i then s - 2 ^ i else s
def pw_set (s i : Nat) : Nat := if s.testBit i then s else s + 2 ^ i
def pw_trn (n : Nat) (kd sg : Nat → Nat) (i w s : Nat) : Nat :=
  if kd i = 1 then sg i + sg i / 2 else if kd i = 2 then sg i / 4 + 1 else if kd i = 3 then sg i + pw_pil n kd (pw_clr s i) else if kd i = 4 then (if 40 < w then 0 else sg i + sg i / 2) else if kd i = 5 then sg i / 4 + 1 + pw_pop (pw_clr s i) else sg i
def pw_spr (x : Nat) : Nat := if 40 < x then x - (x - 40) / 10 else x
def pw_com (n : Nat) (kd sg : Nat → Nat) (G i w s : Nat) : Nat := pw_spr (if G.testBit i then w - pw_trn n kd sg i w s else if 99 < w + pw_trn n kd sg i w s then 99 else w + pw_trn n kd sg i w s)
def pw_nxt (f w : Nat) : Nat := w - (1 + f)
/-- a deed done: wound, clock, hours, frost, in -/
def pw_dst (n : Nat) (kd sg : Nat → Nat) (G : Nat) (d : Nat × Nat) (x : pw_D) : pw_D :=
  if d.1 = 0 then (pw_com n kd sg G d.2 x.1 x.2.2.2.2, x.2.1, x.2.2.1, x.2.2.2.1, pw_set x.2.2.2.2 d.2)
  else if d.1 = 1 then (x.1, x.2.1, x.2.2.1, x.2.2.2.1, pw_clr x.2.2.2.2 d.2)
  else if d.1 = 2 then (pw_nxt x.2.2.2.1 x.1, if 0 < x.1 then (x.2.1 + 1) % 12 else x.2.1, x.2.2.1 + 1, x.2.2.2.1, x.2.2.2.2)
  else (x.1, x.2.1, x.2.2.1, d.2, x.2.2.2.2)
def pw_aft (n : Nat) (kd sg : Nat → Nat) (fw ff G : Nat) (dd : Nat → Nat × Nat) : Nat → pw_D
  | 0 => (fw, 0, 0, ff, 0)
  | k + 1 => pw_dst n kd sg G (dd k) (pw_aft n kd sg fw ff G dd k)
def pw_okd (n : Nat) (d : Nat × Nat) : Prop := (d.1 = 0 ∧ d.2 < n) ∨ (d.1 = 1 ∧ d.2 < n) ∨ (d.1 = 2 ∧ d.2 = 0) ∨ (d.1 = 3 ∧ d.2 ≤ 3)
def pw_stat (n : Nat) (kd sg bd : Nat → Nat) (fw ff : Nat) : Prop := n ≤ 6 ∧ (∀ i, i < n → kd i ≤ 5 ∧ 1 ≤ sg i ∧ sg i ≤ 9 ∧ bd i ≤ 9) ∧ fw ≤ 60 ∧ ff ≤ 3
def pw_dyn (n G : Nat) (dd : Nat → Nat × Nat) (dn : Nat) : Prop := G < 64 ∧ dn ≤ 40 ∧ ∀ k, k < dn → pw_okd n (dd k)
/-- the class's Town at cell t -/
def pw_ct (st : sw_St) (t n : Nat) (kd sg bd : Nat → Nat) (fw ff G : Nat) (dd : Nat → Nat × Nat) (dn : Nat) (x : pw_D) : Prop :=
  st.1 t 0 = nI n ∧ st.1 t 5 = nI fw ∧ st.1 t 6 = nI ff ∧ st.1 t 7 = nI x.1 ∧ st.1 t 8 = nI x.2.2.2.1 ∧ st.1 t 9 = nI x.2.1 ∧ st.1 t 10 = nI x.2.2.1 ∧ st.1 t 11 = nI x.2.2.2.2 ∧ st.1 t 14 = nI dn ∧
  (∀ i, i < n → st.1 (t + 1) i = nI (kd i) ∧ st.1 (t + 2) i = nI (sg i) ∧ st.1 (t + 3) i = nI (if G.testBit i then 1 else 0) ∧ st.1 (t + 4) i = nI (bd i)) ∧ ∀ k, k < dn → st.1 (t + 5) k = nI (dd k).1 ∧ st.1 (t + 6) k = nI (dd k).2
/-- the reference's town at place b of its row -/
def pw_mt (st : sw_St) (b G dn : Nat) (x : Nat → pw_D) : Prop :=
  st.1 64 b = nI dn ∧ st.1 64 (b + 1) = nI (x dn).1 ∧ st.1 64 (b + 2) = nI (x dn).2.1 ∧ st.1 64 (b + 3) = nI (x dn).2.2.1 ∧ st.1 64 (b + 4) = nI (x dn).2.2.2.1 ∧ st.1 64 (b + 5) = nI (x dn).2.2.2.2 ∧ st.1 64 (b + 6) = nI G ∧
  ∀ k, k < dn → st.1 64 (b + 7 + 5 * k) = nI (x k).1 ∧ st.1 64 (b + 8 + 5 * k) = nI (x k).2.1 ∧ st.1 64 (b + 9 + 5 * k) = nI (x k).2.2.1 ∧ st.1 64 (b + 10 + 5 * k) = nI (x k).2.2.2.1 ∧ st.1 64 (b + 11 + 5 * k) = nI (x k).2.2.2.2
/-- both sides have one town -/
def pw_tw (st : sw_St) (t b n : Nat) (kd sg bd : Nat → Nat) (fw ff : Nat) : Prop := ∃ (G : Nat) (dd : Nat → Nat × Nat) (dn : Nat), pw_dyn n G dd dn ∧ pw_ct st t n kd sg bd fw ff G dd dn (pw_aft n kd sg fw ff G dd dn) ∧ pw_mt st b G dn (pw_aft n kd sg fw ff G dd)
def pw_kp (st : sw_St) (n : Nat) (kd sg bd : Nat → Nat) (fw ff k : Nat) : Prop := (st.1 51 k = 0 ∧ st.1 64 (207 * (1 + k)) = -1) ∨ (st.1 51 k = 1 ∧ pw_tw st (30 + 7 * k) (207 * (1 + k)) n kd sg bd fw ff)
def pw_st (st : sw_St) (n : Nat) (kd sg bd : Nat → Nat) : Prop := st.1 63 1 = nI n ∧ ∀ i, i < n → st.1 65 i = nI (kd i) ∧ st.1 66 i = nI (sg i) ∧ st.1 67 i = nI (bd i)
def IW (st : sw_St) : Prop := ∃ (n : Nat) (kd sg bd : Nat → Nat) (fw ff : Nat), pw_stat n kd sg bd fw ff ∧ pw_st st n kd sg bd ∧ pw_tw st 15 0 n kd sg bd fw ff ∧ ∀ k, k < 3 → pw_kp st n kd sg bd fw ff k
/-- rows -/
def IR (st : sw_St) : Prop := ∀ r, r < 6 → st.1 8 r = st.1 68 r ∧ (st.1 8 r = -1 ∨ ∃ n : Nat, n ≤ 40 ∧ st.1 8 r = nI n ∧ ∀ i, i < n → st.1 (2 + r) i = st.1 69 (40 * r + i))
/-- texts -/
def IT (st : sw_St) : Prop := ∀ t, t < 4 → st.1 14 t = st.1 70 t ∧ (st.1 14 t = -1 ∨ ∃ n : Nat, n ≤ 60 ∧ st.1 14 t = nI n) ∧ ∀ i, i < 60 → st.1 (10 + t) i = st.1 71 (60 * t + i)
/-- what is told -/
def IA (st : sw_St) : Prop := st.1 0 14 = st.1 63 9 ∧ st.1 0 13 = st.1 63 12 ∧ (∀ f, f < 6 → st.1 62 f = st.1 72 f) ∧ st.2.1 0 15 = st.2.1 63 10 ∧ st.2.1 0 16 = st.2.1 63 11
def II (st : sw_St) : Prop := IR st ∧ IT st ∧ IA st ∧ IW st
/-- st1 is st on the cells of L -/
def ag (L : List Nat) (st st1 : sw_St) : Prop := ∀ a, a ∈ L → st1.1 a = st.1 a
theorem IR_c {st st1 : sw_St} (h : ag [2, 3, 4, 5, 6, 7, 8, 68, 69] st st1) (hI : IR st) : IR st1 := by
  intro r hr
  have h8 := h 8 (by decide)
  have h68 := h 68 (by decide)
  have h69 := h 69 (by decide)
  have h2 : st1.1 (2 + r) = st.1 (2 + r) := h (2 + r) (by rcases (show r = 0 ∨ r = 1 ∨ r = 2 ∨ r = 3 ∨ r = 4 ∨ r = 5 by omega) with rfl | rfl | rfl | rfl | rfl | rfl <;> decide)
  rw [h8, h68, h69, h2]
  exact hI r hr
theorem IT_c {st st1 : sw_St} (h : ag [10, 11, 12, 13, 14, 70, 71] st st1) (hI : IT st) : IT st1 := by
  intro t ht
  have h14 := h 14 (by decide)
  have h70 := h 70 (by decide)
  have h71 := h 71 (by decide)
  have h2 : st1.1 (10 + t) = st.1 (10 + t) := h (10 + t) (by rcases (show t = 0 ∨ t = 1 ∨ t = 2 ∨ t = 3 by omega) with rfl | rfl | rfl | rfl <;> decide)
  rw [h14, h70, h71, h2]
  exact hI t ht
theorem pw_tw_c {st st1 : sw_St} {t b n : Nat} {kd sg bd : Nat → Nat} {fw ff : Nat} (h0 : st1.1 t = st.1 t) (h1 : st1.1 (t + 1) = st.1 (t + 1)) (h2 : st1.1 (t + 2) = st.1 (t + 2)) (h3 : st1.1 (t + 3) = st.1 (t + 3)) (h4 : st1.1 (t + 4) = st.1 (t + 4)) (h5 : st1.1 (t + 5) = st.1 (t + 5)) (h6 : st1.1 (t + 6) = st.1 (t + 6)) (hb : ∀ i, i < 207 → st1.1 64 (b + i) = st.1 64 (b + i)) (h : pw_tw st t b n kd sg bd fw ff) : pw_tw st1 t b n kd sg bd fw ff := by
  obtain ⟨G, dd, dn, hd, hc, hm⟩ := h
  refine ⟨G, dd, dn, hd, ?_, ?_⟩
  · unfold pw_ct
    rw [h0, h1, h2, h3, h4, h5, h6]
    exact hc
  · obtain ⟨g0, g1, g2, g3, g4, g5, g6, g7⟩ := hm
    have hdn := hd.2.1
    refine ⟨(hb 0 (by decide)).trans g0, (hb 1 (by decide)).trans g1, (hb 2 (by decide)).trans g2, (hb 3 (by decide)).trans g3, (hb 4 (by decide)).trans g4, (hb 5 (by decide)).trans g5, (hb 6 (by decide)).trans g6, fun k hk => ?_⟩
    obtain ⟨a0, a1, a2, a3, a4⟩ := g7 k hk
    have e : ∀ j, j < 5 → st1.1 64 (b + (7 + j) + 5 * k) = st.1 64 (b + (7 + j) + 5 * k) := fun j hj => by
      have := hb (7 + j + 5 * k) (by omega)
      rw [show b + (7 + j) + 5 * k = b + (7 + j + 5 * k) by omega]
      exact this
    exact ⟨(e 0 (by decide)).trans a0, (e 1 (by decide)).trans a1, (e 2 (by decide)).trans a2, (e 3 (by decide)).trans a3, (e 4 (by decide)).trans a4⟩
def cW : List Nat := [15, 16, 17, 18, 19, 20, 21, 30, 31, 32, 33, 34, 35, 36, 37, 38, 39, 40, 41, 42, 43, 44, 45, 46, 47, 48, 49, 50, 51, 65, 66, 67]
/-- the towns are the same where their cells are; of the reference's row its first 828 places count -/
theorem IW_c {st st1 : sw_St} (h : ag cW st st1) (h63 : st1.1 63 1 = st.1 63 1) (h64 : ∀ i, i < 828 → st1.1 64 i = st.1 64 i) (hI : IW st) : IW st1 := by
  obtain ⟨n, kd, sg, bd, fw, ff, hs, hst, ht, hk⟩ := hI
  refine ⟨n, kd, sg, bd, fw, ff, hs, ?_, ?_, fun k hk3 => ?_⟩
  · unfold pw_st
    rw [h63, h 65 (by decide), h 66 (by decide), h 67 (by decide)]
    exact hst
  · exact pw_tw_c (h 15 (by decide)) (h 16 (by decide)) (h 17 (by decide)) (h 18 (by decide)) (h 19 (by decide)) (h 20 (by decide)) (h 21 (by decide)) (fun i hi => h64 _ (by omega)) ht
  · have e : ∀ j, j < 7 → st1.1 (30 + 7 * k + j) = st.1 (30 + 7 * k + j) := fun j hj => h _ (by
      have hk' : k = 0 ∨ k = 1 ∨ k = 2 := by omega
      have hj' : j = 0 ∨ j = 1 ∨ j = 2 ∨ j = 3 ∨ j = 4 ∨ j = 5 ∨ j = 6 := by omega
      rcases hk' with rfl | rfl | rfl <;> rcases hj' with rfl | rfl | rfl | rfl | rfl | rfl | rfl <;> decide)
    unfold pw_kp
    rw [h 51 (by decide), h64 (207 * (1 + k)) (by omega)]
    rcases hk k hk3 with q | q
    · exact Or.inl q
    · exact Or.inr ⟨q.1, pw_tw_c (e 0 (by decide)) (e 1 (by decide)) (e 2 (by decide)) (e 3 (by decide)) (e 4 (by decide)) (e 5 (by decide)) (e 6 (by decide)) (fun i hi => h64 _ (by omega)) q.2⟩
theorem II_0 : II su_st0 := by
  refine ⟨fun r hr => ?_, fun t ht => ?_, ⟨rfl, rfl, fun f hf => rfl, rfl, rfl⟩, ?_⟩
  · rcases (show r = 0 ∨ r = 1 ∨ r = 2 ∨ r = 3 ∨ r = 4 ∨ r = 5 by omega) with rfl | rfl | rfl | rfl | rfl | rfl <;> exact ⟨rfl, Or.inl rfl⟩
  · rcases (show t = 0 ∨ t = 1 ∨ t = 2 ∨ t = 3 by omega) with rfl | rfl | rfl | rfl <;> exact ⟨rfl, Or.inl rfl, fun i hi => rfl⟩
  · refine ⟨0, fun _ => 0, fun _ => 0, fun _ => 0, 0, 0, ⟨by decide, fun i hi => absurd hi (Nat.not_lt_zero i), by decide, by decide⟩, ⟨rfl, fun i hi => absurd hi (Nat.not_lt_zero i)⟩, ⟨0, fun _ => (0, 0), 0, ⟨by decide, by decide, fun k hk => absurd hk (Nat.not_lt_zero k)⟩, ⟨rfl, rfl, rfl, rfl, rfl, rfl, rfl, rfl, rfl, fun i hi => absurd hi (Nat.not_lt_zero i), fun k hk => absurd hk (Nat.not_lt_zero k)⟩, ⟨rfl, rfl, rfl, rfl, rfl, rfl, rfl, fun k hk => absurd hk (Nat.not_lt_zero k)⟩⟩, fun k hk => ?_⟩
    rcases (show k = 0 ∨ k = 1 ∨ k = 2 by omega) with rfl | rfl | rfl <;> exact Or.inl ⟨rfl, rfl⟩

