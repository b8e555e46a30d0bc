/-! a TEXT read to its end, on both sides -/
def pf_rest (b : Nat → Int32) (n : Nat) : Nat → Nat → Nat × Option (List pw_Q)
  | 0, p => if p < n then (p, none) else (p, some [])
  | c + 1, p => if p < n then (match (pf_str b n p).2 with
      | none => ((pf_str b n p).1, none)
      | some v => ((pf_rest b n c (pf_sk b n (pf_str b n p).1)).1, (pf_rest b n c (pf_sk b n (pf_str b n p).1)).2.map (fun l => v :: l)))
    else (p, some [])
theorem rest_e {b : Nat → Int32} {n c p : Nat} (h : n ≤ p) : pf_rest b n c p = (p, some []) := by
  cases c with
  | zero => exact if_neg (by omega)
  | succ c => exact if_neg (by omega)
theorem rest_0 {b : Nat → Int32} {n p : Nat} (h : p < n) : pf_rest b n 0 p = (p, none) := if_pos h
theorem rest_n {b : Nat → Int32} {n c p : Nat} (h : p < n) (hs : (pf_str b n p).2 = none) : pf_rest b n (c + 1) p = ((pf_str b n p).1, none) := by
  show (if p < n then (match (pf_str b n p).2 with
      | none => ((pf_str b n p).1, none)
      | some v => ((pf_rest b n c (pf_sk b n (pf_str b n p).1)).1, (pf_rest b n c (pf_sk b n (pf_str b n p).1)).2.map (fun l => v :: l)))
    else (p, some [])) = _
  rw [if_pos h, hs]
theorem rest_s {b : Nat → Int32} {n c p : Nat} {v : pw_Q} (h : p < n) (hs : (pf_str b n p).2 = some v) : pf_rest b n (c + 1) p = ((pf_rest b n c (pf_sk b n (pf_str b n p).1)).1, (pf_rest b n c (pf_sk b n (pf_str b n p).1)).2.map (fun l => v :: l)) := by
  show (if p < n then (match (pf_str b n p).2 with
      | none => ((pf_str b n p).1, none)
      | some v => ((pf_rest b n c (pf_sk b n (pf_str b n p).1)).1, (pf_rest b n c (pf_sk b n (pf_str b n p).1)).2.map (fun l => v :: l)))
    else (p, some [])) = _
  rw [if_pos h, hs]
def okq (v : pw_Q) : Prop := v.1 ≤ 5 ∧ 1 ≤ v.2.1 ∧ v.2.1 ≤ 9 ∧ v.2.2.1 ≤ 1 ∧ v.2.2.2 ≤ 9
theorem str_r {b : Nat → Int32} {n p : Nat} {v : pw_Q} (hs : (pf_str b n p).2 = some v) : (pf_str b n p).1 ≤ n ∧ okq v := by
  unfold pf_str at hs ⊢
  cases h0 : pf_kind (b p) with
  | none => simp only [h0] at hs; exact absurd hs (by simp)
  | some k =>
    simp only [h0] at hs ⊢
    cases h1 : pf_fig b n 1 9 (p + 1) with
    | none => simp only [h1] at hs; exact absurd hs (by simp)
    | some s =>
      simp only [h1] at hs ⊢
      cases h2 : pf_fig b n 0 1 (p + 2) with
      | none => simp only [h2] at hs; exact absurd hs (by simp)
      | some g =>
        simp only [h2] at hs ⊢
        cases h3 : pf_fig b n 0 9 (p + 3) with
        | none => simp only [h3] at hs; exact absurd hs (by simp)
        | some d =>
          simp only [h3] at hs ⊢
          injection hs with hs
          have b0 := kind_le h0
          have b1 := fig_le h1
          have b2 := fig_le h2
          have b3 := fig_le h3
          rw [← hs]
          exact ⟨by omega, b0, b1.2.1, b1.2.2, b2.2.2, b3.2.2⟩
theorem spr_r {b : Nat → Int32} {n p : Nat} {v : Nat × Nat} (hs : (pf_spr b n p).2 = some v) : (pf_spr b n p).1 ≤ n ∧ v.1 ≤ 60 ∧ v.2 ≤ 3 := by
  unfold pf_spr at hs ⊢
  by_cases h0 : p < n ∧ b p = 119
  · rw [if_pos h0] at hs ⊢
    cases h1 : pf_fig b n 0 9 (p + 1) with
    | none => simp only [h1] at hs; exact absurd hs (by simp)
    | some s =>
      simp only [h1] at hs ⊢
      cases h2 : pf_fig b n 0 9 (p + 2) with
      | none => simp only [h2] at hs; exact absurd hs (by simp)
      | some g =>
        simp only [h2] at hs ⊢
        by_cases h4 : 10 * s + g ≤ 60
        · rw [if_pos h4] at hs ⊢
          cases h3 : pf_fig b n 0 3 (p + 3) with
          | none => simp only [h3] at hs; exact absurd hs (by simp)
          | some d =>
            simp only [h3] at hs ⊢
            injection hs with hs
            have b3 := fig_le h3
            rw [← hs]
            exact ⟨by omega, h4, b3.2.2⟩
        · rw [if_neg h4] at hs
          exact absurd hs (by simp)
  · rw [if_neg h0] at hs
    exact absurd hs (by simp)
theorem rest_ok {b : Nat → Int32} {n c : Nat} : ∀ (p : Nat) (l : List pw_Q), (pf_rest b n c p).2 = some l → l.length ≤ c ∧ ∀ v, v ∈ l → okq v := by
  induction c with
  | zero =>
    intro p l h
    by_cases q : p < n
    · rw [rest_0 q] at h; exact absurd h (by simp)
    · rw [rest_e (by omega)] at h
      injection h with h
      rw [← h]
      exact ⟨Nat.le_refl 0, fun v hv => absurd hv (by simp)⟩
  | succ c ih =>
    intro p l h
    by_cases q : p < n
    · cases hs : (pf_str b n p).2 with
      | none => rw [rest_n q hs] at h; exact absurd h (by simp)
      | some v =>
        rw [rest_s q hs] at h
        have h : (pf_rest b n c (pf_sk b n (pf_str b n p).1)).2.map (fun l => v :: l) = some l := h
        cases hr : (pf_rest b n c (pf_sk b n (pf_str b n p).1)).2 with
        | none => rw [hr] at h; exact absurd h (by simp)
        | some r =>
          rw [hr] at h
          injection h with h
          obtain ⟨i1, i2⟩ := ih _ r hr
          rw [← h]
          refine ⟨by simp only [List.length_cons]; omega, fun u hu => ?_⟩
          rcases List.mem_cons.mp hu with rfl | hu
          · exact (str_r hs).2
          · exact i2 u hu
    · rw [rest_e (by omega)] at h
      injection h with h
      rw [← h]
      exact ⟨Nat.zero_le _, fun v hv => absurd hv (by simp)⟩
def qz : pw_Q := (0, 0, 0, 0)
def pf_fin (v : Nat × Nat) (z : Nat × Option (List pw_Q)) : Nat × Option ((Nat × Nat) × List pw_Q) := (z.1, match z.2 with
  | none => none
  | some [] => none
  | some (q :: l) => some (v, q :: l))
def pf_all (b : Nat → Int32) (n : Nat) : Nat × Option ((Nat × Nat) × List pw_Q) := match (pf_spr b n (pf_sk b n 0)).2 with
  | none => ((pf_spr b n (pf_sk b n 0)).1, none)
  | some v => pf_fin v (pf_rest b n 6 (pf_sk b n (pf_spr b n (pf_sk b n 0)).1))
def pf_ans (z : Nat × Option ((Nat × Nat) × List pw_Q)) : Int32 := match z.2 with
  | none => nI z.1
  | some _ => -9
theorem all_n {b : Nat → Int32} {n : Nat} (h : (pf_spr b n (pf_sk b n 0)).2 = none) : pf_all b n = ((pf_spr b n (pf_sk b n 0)).1, none) := by
  unfold pf_all
  rw [h]
theorem all_s {b : Nat → Int32} {n : Nat} {v : Nat × Nat} (h : (pf_spr b n (pf_sk b n 0)).2 = some v) : pf_all b n = pf_fin v (pf_rest b n 6 (pf_sk b n (pf_spr b n (pf_sk b n 0)).1)) := by
  unfold pf_all
  rw [h]
theorem fin_n {v : Nat × Nat} {z : Nat × Option (List pw_Q)} (h : z.2 = none) : pf_fin v z = (z.1, none) := by
  unfold pf_fin
  rw [h]
theorem fin_e {v : Nat × Nat} {z : Nat × Option (List pw_Q)} (h : z.2 = some []) : pf_fin v z = (z.1, none) := by
  unfold pf_fin
  rw [h]
theorem fin_s {v : Nat × Nat} {z : Nat × Option (List pw_Q)} {l : List pw_Q} (h : z.2 = some l) (hl : 0 < l.length) : pf_fin v z = (z.1, some (v, l)) := by
  unfold pf_fin
  rw [h]
  cases l with
  | nil => exact absurd hl (Nat.lt_irrefl 0)
  | cons q l => rfl
theorem map_nil (o : Option (List pw_Q)) : o.map (fun l => [] ++ l) = o := by
  cases o <;> rfl
theorem map_acc (o : Option (List pw_Q)) (acc : List pw_Q) (v : pw_Q) : (o.map (fun l => v :: l)).map (fun l => acc ++ l) = o.map (fun l => (acc ++ [v]) ++ l) := by
  cases o with
  | none => rfl
  | some l => simp
theorem getD_l {acc : List pw_Q} {v : pw_Q} {i : Nat} (h : i < acc.length) : (acc ++ [v]).getD i qz = acc.getD i qz := by
  rw [List.getD_eq_getElem?_getD, List.getD_eq_getElem?_getD, List.getElem?_append_left h]
theorem getD_e {acc : List pw_Q} {v : pw_Q} {i : Nat} (h : i = acc.length) : (acc ++ [v]).getD i qz = v := by
  rw [List.getD_eq_getElem?_getD, h]
  simp
def dr5 (l : List pw_Q) (s : sw_St) : Prop := ∀ i, i < l.length → s.1 23 i = nI (l.getD i qz).1 ∧ s.1 24 i = nI (l.getD i qz).2.1 ∧ s.1 25 i = nI (l.getD i qz).2.2.1 ∧ s.1 26 i = nI (l.getD i qz).2.2.2
def dr6 (l : List pw_Q) (s : sw_St) : Prop := ∀ i, i < l.length → s.1 73 (4 * i) = nI (l.getD i qz).1 ∧ s.1 73 (4 * i + 1) = nI (l.getD i qz).2.1 ∧ s.1 73 (4 * i + 2) = nI (l.getD i qz).2.2.1 ∧ s.1 73 (4 * i + 3) = nI (l.getD i qz).2.2.2
def g5 (st s : sw_St) : Prop := (∀ a, (a < 22 ∨ 28 < a) → a ≠ 52 → s.1 a = st.1 a) ∧ s.2.1 = st.2.1
theorem g5.f {st s s1 : sw_St} (h : g5 st s) (h1 : f5 s s1) : g5 st s1 := ⟨fun a e1 e2 => (h1.1 a e1 e2).trans (h.1 a e1 e2), by rw [h1.2]; exact h.2⟩
theorem loop5 {F t n p0 : Nat} {b : Nat → Int32} {v : Nat × Nat} {st s0 : sw_St} {body : (Int32 → sw_St → Option (Int32 × sw_St)) → Int32 → sw_St → Option (Int32 × sw_St)} (hF : 20000 ≤ F) (ht : t < 4) (hn : n ≤ 60) (hp0 : p0 ≤ n)
    (hbody : ∀ f x13 s14, body f x13 s14 = (if 6 ≤ x13 then (if s14.1 52 2 < s14.1 52 1 then some (s14.1 52 2, s14) else if s14.1 22 0 = 0 then some (s14.1 52 2, s14) else some (-9, s14)) else if s14.1 52 1 ≤ s14.1 52 2 then (if s14.1 52 2 < s14.1 52 1 then some (s14.1 52 2, s14) else if s14.1 22 0 = 0 then some (s14.1 52 2, s14) else some (-9, s14)) else
      bd (j_X3_readStranger F x13 s14) (fun (r29 : Int32) (s30 : sw_St) => if r29 = 0 then some (s30.1 52 2, s30) else bd (j_X3_skipBlanks F (sw_setC s30 22 0 (x13 + 1))) (fun (_ : Unit) (s34 : sw_St) => f (x13 + 1) s34))))
    (H : RC s0 t n p0 b) (h0 : s0.1 22 0 = nI 0) (h5 : s0.1 22 5 = nI v.1) (h6 : s0.1 22 6 = nI v.2) (hg : g5 st s0) :
    ∃ s', lz2 body F 0 s0 = some (pf_ans (pf_fin v (pf_rest b n 6 p0)), s') ∧ g5 st s' ∧ ∀ w l, (pf_fin v (pf_rest b n 6 p0)).2 = some (w, l) → s'.1 22 0 = nI l.length ∧ s'.1 22 5 = nI w.1 ∧ s'.1 22 6 = nI w.2 ∧ dr5 l s' := by
  generalize hz : pf_rest b n 6 p0 = z
  refine lz2_ind (Φ := fun o => ∃ s', o = some (pf_ans (pf_fin v z), s') ∧ g5 st s' ∧ ∀ w l, (pf_fin v z).2 = some (w, l) → s'.1 22 0 = nI l.length ∧ s'.1 22 5 = nI w.1 ∧ s'.1 22 6 = nI w.2 ∧ dr5 l s') (fun x _ => 100 - x.toNatClampNeg) (fun x s => ∃ (p : Nat) (acc : List pw_Q), acc.length ≤ 6 ∧ x = nI acc.length ∧ p ≤ n ∧ RC s t n p b ∧ s.1 22 0 = nI acc.length ∧ s.1 22 5 = nI v.1 ∧ s.1 22 6 = nI v.2 ∧ z = ((pf_rest b n (6 - acc.length) p).1, (pf_rest b n (6 - acc.length) p).2.map (fun l => acc ++ l)) ∧ dr5 acc s ∧ g5 st s) (fun g x s hp ih => ?_) F 0 s0 ⟨p0, [], Nat.zero_le _, rfl, hp0, H, h0, h5, h6, ?_, fun i hi => absurd hi (Nat.not_lt_zero i), hg⟩ (by show 100 - 0 < F; omega)
  case refine_2 =>
    rw [map_nil, ← hz]
    rfl
  obtain ⟨p, acc, ha6, rfl, hpn, H1, k0, k5, k6, hzz, hd, hg1⟩ := hp
  rw [hbody, H1.2.1, H1.2.2.1, k0]
  by_cases w : p < n
  · by_cases w6 : acc.length = 6
    · rw [if_pos (show (6 : Int32) ≤ nI acc.length by rw [w6]; decide), if_pos (show nI p < nI n from nI_lt w (by omega))]
      rw [w6, rest_0 w] at hzz
      have hz2 : z.2 = none := by rw [hzz]; rfl
      have hz1 : z.1 = p := by rw [hzz]
      refine ⟨s, ?_, hg1, fun w' l hl => ?_⟩
      · rw [fin_n hz2, hz1]; rfl
      · rw [fin_n hz2] at hl; exact absurd hl (by simp)
    rw [if_neg (show ¬ (6 : Int32) ≤ nI acc.length from nI_ge (b := 6) (by omega) (by decide)), if_neg (show ¬ nI n ≤ nI p from nI_ge w (by omega))]
    obtain ⟨s1, j1, r1, r2, r3, r4, r5⟩ := stranger5 (F := F) (m := acc.length) ht hn w (by omega) H1
    rw [j1, bd_some]
    rw [show 6 - acc.length = (6 - (acc.length + 1)) + 1 by omega] at hzz
    cases hs : (pf_str b n p).2 with
    | none =>
      rw [rest_n w hs] at hzz
      have hz2 : z.2 = none := by rw [hzz]; rfl
      have hz1 : z.1 = (pf_str b n p).1 := by rw [hzz]
      rw [if_pos (show (if (none : Option pw_Q).isSome = true then (1 : Int32) else 0) = 0 from rfl), r1.2.2.1]
      refine ⟨s1, ?_, hg1.f r3, fun w' l hl => ?_⟩
      · rw [fin_n hz2, hz1]; rfl
      · rw [fin_n hz2] at hl; exact absurd hl (by simp)
    | some q =>
      rw [rest_s w hs, map_acc] at hzz
      rw [if_neg (show ¬ (if (some q : Option pw_Q).isSome = true then (1 : Int32) else 0) = 0 from (by decide : ¬ (1 : Int32) = 0)), nI_1]
      obtain ⟨q1, q2⟩ := str_r hs
      have H2 := r1.C ht (o := 22) 0 (nI (acc.length + 1)) (by decide)
      rw [skip5 hF ht hn q1 H2, bd_some]
      have hl1 : (acc ++ [q]).length = acc.length + 1 := by simp
      obtain ⟨v1, v2, v3, v4⟩ := r2 q hs
      refine ih _ _ ⟨pf_sk b n (pf_str b n p).1, acc ++ [q], by omega, by rw [hl1], (sk_r q1).2, H2.mv ht _, ?_, ?_, ?_, by rw [hl1]; exact hzz, fun i hi => ?_, (hg1.f r3).f (((f5.rf s1).C _ _ (by decide)).mv _)⟩ (by rw [nI_clamp (by omega), nI_clamp (by omega)]; omega)
      · rw [mv5_o _ _ (by decide), gsC, if_pos ⟨rfl, rfl⟩, hl1]
      · rw [mv5_o _ _ (by decide), gsC, if_neg (by decide), r5, k5]
      · rw [mv5_o _ _ (by decide), gsC, if_neg (by decide), r5, k6]
      · rw [hl1] at hi
        rw [mv5_o _ _ (by decide), mv5_o _ _ (by decide), mv5_o _ _ (by decide), mv5_o _ _ (by decide), gsC_ne _ _ _ (by decide), gsC_ne _ _ _ (by decide), gsC_ne _ _ _ (by decide), gsC_ne _ _ _ (by decide)]
        by_cases e : i = acc.length
        · rw [getD_e e, e]
          exact ⟨v1, v2, v3, v4⟩
        · rw [getD_l (by omega), r4 23 i (by decide) (by decide) e, r4 24 i (by decide) (by decide) e, r4 25 i (by decide) (by decide) e, r4 26 i (by decide) (by decide) e]
          exact hd i (by omega)
  · rw [rest_e (by omega)] at hzz
    have hz2 : z.2 = some acc := by rw [hzz]; simp
    have hz1 : z.1 = p := by rw [hzz]
    have e : (if nI acc.length = 0 then some (nI p, s) else some (-9, s)) = some (pf_ans (pf_fin v z), s) := by
      by_cases w0 : acc.length = 0
      · rw [if_pos (by rw [w0]; rfl), fin_e (by rw [hz2, List.length_eq_zero_iff.mp w0]), hz1]; rfl
      · rw [if_neg (nI_ne0 (by omega) (by omega)), fin_s hz2 (by omega)]; rfl
    have e2 : (if (6 : Int32) ≤ nI acc.length then (if nI p < nI n then some (nI p, s) else if nI acc.length = 0 then some (nI p, s) else some (-9, s)) else if nI n ≤ nI p then (if nI p < nI n then some (nI p, s) else if nI acc.length = 0 then some (nI p, s) else some (-9, s)) else
      bd (j_X3_readStranger F (nI acc.length) s) (fun (r29 : Int32) (s30 : sw_St) => if r29 = 0 then some (s30.1 52 2, s30) else bd (j_X3_skipBlanks F (sw_setC s30 22 0 (nI acc.length + 1))) (fun (_ : Unit) (s34 : sw_St) => g (nI acc.length + 1) s34))) = some (pf_ans (pf_fin v z), s) := by
      rw [if_neg (show ¬ nI p < nI n from nI_nlt (by omega) (by omega)), e, if_pos (show nI n ≤ nI p from nI_le (by omega) (by omega))]
      exact ite_self _
    rw [e2]
    refine ⟨s, rfl, hg1, fun w' l hl => ?_⟩
    by_cases w0 : acc.length = 0
    · rw [fin_e (by rw [hz2, List.length_eq_zero_iff.mp w0])] at hl; exact absurd hl (by simp)
    · rw [fin_s hz2 (by omega)] at hl
      injection hl with hl
      injection hl with hl1 hl2
      rw [← hl1, ← hl2]
      exact ⟨k0, k5, k6, hd⟩
theorem read5 {F t n : Nat} {b : Nat → Int32} {st : sw_St} (hF : 20000 ≤ F) (ht : t < 4) (hn : n ≤ 60) (hb : ∀ i, i < n → st.1 (10 + t) i = b i) : ∃ s', j_X3_readTown F (10 + t) (nI n) st = some (pf_ans (pf_all b n), s') ∧ g5 st s' ∧ ∀ w l, (pf_all b n).2 = some (w, l) → s'.1 22 0 = nI l.length ∧ s'.1 22 5 = nI w.1 ∧ s'.1 22 6 = nI w.2 ∧ dr5 l s' := by
  unfold j_X3_readTown
  rw [nm_eq, nm_eq, nm_eq, nm_eq]
  obtain ⟨s4, hs4⟩ : ∃ s4, s4 = sw_setC (sw_setC (sw_setC (sw_setB st (10 + t)) 52 1 (nI n)) 52 2 0) 22 0 0 := ⟨_, rfl⟩
  rw [← hs4]
  have H4 : RC s4 t n 0 b := by
    refine ⟨by rw [hs4]; rfl, ?_, ?_, fun i hi => ?_⟩
    · rw [hs4, gsC_ne _ _ _ (by decide), gsC, if_neg (by decide), gsC, if_pos ⟨rfl, rfl⟩]
    · rw [hs4, gsC_ne _ _ _ (by decide), gsC, if_pos ⟨rfl, rfl⟩]; rfl
    · rw [hs4, gsC_ne _ _ _ (by omega), gsC_ne _ _ _ (by omega), gsC_ne _ _ _ (by omega)]
      exact hb i hi
  have g4 : g5 st s4 := by
    refine ⟨fun a h1 h2 => ?_, by rw [hs4]; rfl⟩
    rw [hs4, gsC_ne _ _ _ (by omega), gsC_ne _ _ _ h2, gsC_ne _ _ _ h2]
    rfl
  have z4 : s4.1 22 0 = nI 0 := by rw [hs4, gsC, if_pos ⟨rfl, rfl⟩]; rfl
  rw [skip5 hF ht hn (Nat.zero_le n) H4, bd_some]
  obtain ⟨s9, j9, H9, v9, f9, z9⟩ := spring5 (F := F) ht hn (sk_r (b := b) (Nat.zero_le n)).2 (H4.mv ht (pf_sk b n 0))
  rw [j9, bd_some]
  have g9 : g5 st s9 := (g4.f ((f5.rf s4).mv _)).f f9
  cases hs : (pf_spr b n (pf_sk b n 0)).2 with
  | none =>
    rw [if_pos (show (if (none : Option (Nat × Nat)).isSome = true then (1 : Int32) else 0) = 0 from rfl), all_n hs, H9.2.2.1]
    exact ⟨s9, rfl, g9, fun w l hl => absurd hl (by simp)⟩
  | some v =>
    rw [if_neg (show ¬ (if (some v : Option (Nat × Nat)).isSome = true then (1 : Int32) else 0) = 0 from (by decide : ¬ (1 : Int32) = 0)), all_s hs]
    obtain ⟨q1, q2, q3⟩ := spr_r hs
    rw [skip5 hF ht hn q1 H9, bd_some]
    obtain ⟨v1, v2⟩ := v9 v hs
    refine loop5 hF ht hn (sk_r q1).2 (fun f x13 s14 => rfl) (H9.mv ht _) ?_ ?_ ?_ (g9.f ((f5.rf s9).mv _))
    · rw [mv5_o _ _ (by decide), z9, mv5_o _ _ (by decide), z4]
    · rw [mv5_o _ _ (by decide), v1]
    · rw [mv5_o _ _ (by decide), v2]
