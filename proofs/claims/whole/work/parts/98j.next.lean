/-! orders: the next one by numbers -/
def od_k (f : Nat → Nat) : Nat → Option Nat
  | 0 => none
  | j + 1 => if f j ≤ f (j + 1) then some j else od_k f j
def od_l (f : Nat → Nat) (v : Nat) : Nat → Nat
  | 0 => 0
  | j + 1 => if v ≤ f (j + 1) then j + 1 else od_l f v j
def od_sw (f : Nat → Nat) (a b : Nat) : Nat → Nat := fun i => if i = b then f a else if i = a then f b else f i
def od_r : Nat → (Nat → Nat) → Nat → Nat → (Nat → Nat)
  | 0, f, _, _ => f
  | c + 1, f, i, j => if j ≤ i then f else od_r c (od_sw f i j) (i + 1) (j - 1)
def od_nx (d : Nat) (f : Nat → Nat) : Option (Nat → Nat) := match od_k f (d - 1) with
  | none => none
  | some k => some (od_r d (od_sw f k (od_l f (f k) (d - 1))) (k + 1) (d - 1))
theorem nx_n {d : Nat} {f : Nat → Nat} (h : od_k f (d - 1) = none) : od_nx d f = none := by
  unfold od_nx
  rw [h]
theorem nx_s {d k : Nat} {f : Nat → Nat} (h : od_k f (d - 1) = some k) : od_nx d f = some (od_r d (od_sw f k (od_l f (f k) (d - 1))) (k + 1) (d - 1)) := by
  unfold od_nx
  rw [h]
def OR (s : sw_St) (d : Nat) (f : Nat → Nat) : Prop := ∀ i, i < d → s.1 74 i = nI (f i) ∧ f i < 100
theorem OR.sw {s : sw_St} {d a b : Nat} {f : Nat → Nat} (h : OR s d f) (ha : a < d) (hb : b < d) : OR (sw_setC (sw_setC s 74 a (s.1 74 b)) 74 b (s.1 74 a)) d (od_sw f a b) := by
  intro i hi
  obtain ⟨a1, a2⟩ := h a ha
  obtain ⟨b1, b2⟩ := h b hb
  obtain ⟨i1, i2⟩ := h i hi
  unfold od_sw
  rw [gsC, gsC]
  by_cases e : i = b
  · rw [if_pos ⟨rfl, e⟩, if_pos e]
    exact ⟨a1, a2⟩
  · rw [if_neg (fun z => e z.2), if_neg e]
    by_cases e2 : i = a
    · rw [if_pos ⟨rfl, e2⟩, if_pos e2]
      exact ⟨b1, b2⟩
    · rw [if_neg (fun z => e2 z.2), if_neg e2]
      exact ⟨i1, i2⟩
theorem pred {j : Nat} : nI (j + 1) + (-1) = nI j := by
  rw [← nI_1, Int32.add_assoc]
  show nI j + 0 = nI j
  exact Int32.add_zero _
def a74 (s s1 : sw_St) : Prop := (∀ a, a ≠ 74 → s1.1 a = s.1 a) ∧ s1.2 = s.2
theorem a74.rf (s : sw_St) : a74 s s := ⟨fun _ _ => rfl, rfl⟩
theorem a74.C {s s1 : sw_St} (h : a74 s s1) (k : Nat) (v : Int32) : a74 s (sw_setC s1 74 k v) := ⟨fun a ha => by rw [gsC_ne _ _ _ ha]; exact h.1 a ha, h.2⟩
theorem next6 {F d : Nat} {f : Nat → Nat} {s : sw_St} (hF : 20000 ≤ F) (hd : d ≤ 6) (H : OR s d f) : ∃ s', j_X6_nextOrder F (nI d) s = some (if (od_nx d f).isSome then 1 else 0, s') ∧ (∀ g, od_nx d f = some g → OR s' d g) ∧ a74 s s' := by
  unfold j_X6_nextOrder
  rw [nm_eq]
  refine lz1_ind (Φ := fun o => ∃ s', o = some (if (od_nx d f).isSome then (1 : Int32) else 0, s') ∧ (∀ g, od_nx d f = some g → OR s' d g) ∧ a74 s s') (fun x => if x < 0 then 0 else 1 + x.toNatClampNeg) (fun x => (x < 0 ∧ od_k f (d - 1) = none) ∨ ∃ j, j + 1 < d ∧ x = nI j ∧ od_k f (d - 1) = od_k f (j + 1)) (fun g x hp ih => ?_) F (nI d - 2) ?_ ?_
  · rw [jn_eq]
    rcases hp with ⟨hx, hk⟩ | ⟨j, hj, rfl, hk⟩
    · rw [if_pos hx, if_neg (by rw [i_le]; rw [i_lt] at hx; show ¬ (0 : Int) ≤ _; exact Int.not_le.mpr hx), nx_n hk]
      exact ⟨s, rfl, fun g hg => absurd hg (by simp), a74.rf s⟩
    have hj1 := H j (by omega)
    have hj2 := H (j + 1) hj
    rw [if_neg (show ¬ nI j < 0 from nI_pos (by omega)), nI_1, bnd_nI (by omega) (by decide), bnd_nI (by omega) (by decide), nI_clamp (show j < 2 ^ 31 by omega), nI_clamp (show j + 1 < 2 ^ 31 by omega), hj1.1, hj2.1]
    have ek : od_k f (j + 1) = if f j ≤ f (j + 1) then some j else od_k f j := rfl
    by_cases q : f j ≤ f (j + 1)
    · rw [if_pos q] at ek
      rw [ek] at hk
      rw [if_pos (show nI (f j) ≤ nI (f (j + 1)) from nI_le q (by omega)), if_pos (show (0 : Int32) ≤ nI j from nI_pos' (by omega)), nx_s hk, nm_eq, show nI d - 1 = nI (d - 1) from pk_sub (b := 1) (by omega)]
      refine lz1_ind (Φ := fun o => ∃ s', o = some (if (some (od_r d (od_sw f j (od_l f (f j) (d - 1))) (j + 1) (d - 1))).isSome = true then (1 : Int32) else 0, s') ∧ (∀ g, some (od_r d (od_sw f j (od_l f (f j) (d - 1))) (j + 1) (d - 1)) = some g → OR s' d g) ∧ a74 s s') (fun x => x.toNatClampNeg) (fun x => ∃ i, j ≤ i ∧ i < d ∧ x = nI i ∧ od_l f (f j) (d - 1) = od_l f (f j) i) (fun g2 x2 hp2 ih2 => ?_) F (nI (d - 1)) ⟨d - 1, by omega, by omega, rfl, rfl⟩ (by rw [nI_clamp (by omega)]; omega)
      obtain ⟨i, hji, hid, rfl, hl⟩ := hp2
      have hi1 := H i hid
      rw [bnd_nI (by omega) (by decide), bnd_nI (by omega) (by decide), nI_clamp (show i < 2 ^ 31 by omega), hi1.1]
      by_cases q2 : f j ≤ f i
      · rw [if_pos (show nI (f j) ≤ nI (f i) from nI_le q2 (by omega)), bnd_nI (by omega) (by decide), nm_eq, bnd_nI (by omega) (by decide), bnd_nI (by omega) (by decide), nm_eq, bnd_nI (by omega) (by decide), nm_eq, nm_eq, nm_eq]
        have el : od_l f (f j) i = i := by
          cases i with
          | zero => rfl
          | succ i => exact if_pos q2
        rw [hl, el]
        have H1 := H.sw (show j < d by omega) hid
        have A1 := ((a74.rf s).C j (s.1 74 i)).C i (s.1 74 j)
        rw [hj1.1, hi1.1] at H1 A1
        generalize sw_setC (sw_setC s 74 j (nI (f i))) 74 i (nI (f j)) = s1 at H1 A1 ⊢
        generalize hr : od_r d (od_sw f j i) (j + 1) (d - 1) = fr
        refine lz3_ind (Φ := fun o => ∃ s', o = some (if (some fr).isSome = true then (1 : Int32) else 0, s') ∧ (∀ g, some fr = some g → OR s' d g) ∧ a74 s s') (fun x _ _ => 100 - x.toNatClampNeg) (fun x y s' => ∃ c g i' j', x = nI i' ∧ y = nI j' ∧ i' ≤ 20 ∧ j' < d ∧ d ≤ c + i' ∧ od_r c g i' j' = fr ∧ OR s' d g ∧ a74 s s') (fun g3 x y s' hp3 ih3 => ?_) F (nI (j + 1)) (nI (d - 1)) s1 ⟨d, od_sw f j i, j + 1, d - 1, rfl, rfl, by omega, by omega, by omega, hr, H1, A1⟩ (by omega)
        obtain ⟨c, g, i', j', rfl, rfl, hi20, hj', hc, hfr, Hg, Ag⟩ := hp3
        by_cases q3 : j' ≤ i'
        · rw [if_pos (show nI j' ≤ nI i' from nI_le q3 (by omega))]
          have : od_r c g i' j' = g := by
            cases c with
            | zero => rfl
            | succ c => exact if_pos q3
          rw [this] at hfr
          refine ⟨s', rfl, fun g' hg' => ?_, Ag⟩
          injection hg' with hg'
          rw [← hg', ← hfr]
          exact Hg
        · have hc1 : ∃ c', c = c' + 1 := ⟨c - 1, by omega⟩
          obtain ⟨c', rfl⟩ := hc1
          have : od_r (c' + 1) g i' j' = od_r c' (od_sw g i' j') (i' + 1) (j' - 1) := if_neg q3
          rw [this] at hfr
          have H2 := Hg.sw (show i' < d by omega) hj'
          have A2 := (Ag.C i' (s'.1 74 j')).C j' (s'.1 74 i')
          rw [if_neg (show ¬ nI j' ≤ nI i' from nI_ge (by omega) (by omega)), bnd_nI (by omega) (by decide), nm_eq, bnd_nI (by omega) (by decide), bnd_nI (by omega) (by decide), nm_eq, bnd_nI (by omega) (by decide), nm_eq, nm_eq, nm_eq, nI_1, nI_clamp (show i' < 2 ^ 31 by omega), nI_clamp (show j' < 2 ^ 31 by omega)]
          refine ih3 _ _ _ ⟨c', od_sw g i' j', i' + 1, j' - 1, rfl, ?_, by omega, by omega, by omega, hfr, H2, A2⟩ (by rw [nI_clamp (by omega), nI_clamp (by omega)]; omega)
          have := pred (j := j' - 1)
          rw [show j' - 1 + 1 = j' by omega] at this
          exact this
      · rw [if_neg (show ¬ nI (f j) ≤ nI (f i) from nI_ge (by omega) (by omega)), nm_eq]
        have hi0 : j < i := by
          rcases Nat.lt_or_ge j i with y | y
          · exact y
          · have : i = j := by omega
            subst this
            exact absurd (Nat.le_refl _) q2
        obtain ⟨i', rfl⟩ : ∃ i', i = i' + 1 := ⟨i - 1, by omega⟩
        rw [pred]
        have el : od_l f (f j) (i' + 1) = od_l f (f j) i' := if_neg q2
        exact ih2 _ ⟨i', by omega, by omega, rfl, hl.trans el⟩ (by rw [nI_clamp (by omega), nI_clamp (by omega)]; omega)
    · rw [if_neg q] at ek
      rw [if_neg (show ¬ nI (f j) ≤ nI (f (j + 1)) from nI_ge (by omega) (by omega)), nm_eq]
      rw [ek] at hk
      cases j with
      | zero =>
        refine ih _ (Or.inl ⟨by decide, hk⟩) ?_
        rw [if_pos (by decide), if_neg (by decide)]
        omega
      | succ j =>
        rw [pred]
        refine ih _ (Or.inr ⟨j, by omega, rfl, hk⟩) ?_
        rw [if_neg (nI_pos (by omega)), if_neg (nI_pos (by omega)), nI_clamp (by omega), nI_clamp (by omega)]
        omega
  · rcases Nat.lt_or_ge d 2 with q | q
    · refine Or.inl ?_
      rcases (show d = 0 ∨ d = 1 by omega) with rfl | rfl
      · exact ⟨by decide, rfl⟩
      · exact ⟨by decide, rfl⟩
    · refine Or.inr ⟨d - 2, by omega, pk_sub (b := 2) q, ?_⟩
      rw [show d - 2 + 1 = d - 1 by omega]
  · rcases Nat.lt_or_ge d 2 with q | q
    · rw [if_pos (by rcases (show d = 0 ∨ d = 1 by omega) with rfl | rfl <;> decide)]
      omega
    · rw [show nI d - 2 = nI (d - 2) from pk_sub (b := 2) q, if_neg (nI_pos (by omega)), nI_clamp (by omega)]
      omega
/-! all orders, as they are looked through -/
def od_en (n : Nat) : Nat → Nat → List (List Nat)
  | 0, _ => [[]]
  | m + 1, s => (List.range n).flatMap (fun i => if s.testBit i then [] else (od_en n m (pw_set s i)).map (fun l => i :: l))
def od_ini (n s i : Nat) : List Nat := (List.range i).filter (fun i => !s.testBit i)
def od_nl (l : List Nat) : Option (List Nat) := (od_nx l.length (fun i => l.getD i 0)).map (fun f => (List.range l.length).map f)
def od_chk : List (List Nat) → Bool
  | [] => true
  | [a] => od_nl a == none
  | a :: b :: r => od_nl a == some b && od_chk (b :: r)
def od_one (n s : Nat) : Bool := ((od_en n (pw_pop (pw_out n s)) s).head? == some (od_ini n s n)) && ((od_ini n s n).length == pw_pop (pw_out n s)) && od_chk (od_en n (pw_pop (pw_out n s)) s)
theorem od_all0 : ∀ n : Fin 4, ∀ s : Fin 8, s.val < 2 ^ n.val → od_one n.val s.val = true := by decide +kernel
