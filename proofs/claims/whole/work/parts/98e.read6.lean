theorem stranger5 {F t n p m : Nat} {b : Nat → Int32} {s : sw_St} (ht : t < 4) (hn : n ≤ 60) (hp : p < n) (hm : m < 6) (H : RC s t n p b) : ∃ s', j_X3_readStranger F (nI m) s = some (if (pf_str b n p).2.isSome then 1 else 0, s') ∧ RC s' t n (pf_str b n p).1 b ∧ (∀ v, (pf_str b n p).2 = some v → s'.1 23 m = nI v.1 ∧ s'.1 24 m = nI v.2.1 ∧ s'.1 25 m = nI v.2.2.1 ∧ s'.1 26 m = nI v.2.2.2) ∧ f5 s s' ∧ (∀ a i, 23 ≤ a → a ≤ 26 → i ≠ m → s'.1 a i = s.1 a i) ∧ s'.1 22 = s.1 22 := by
  have H0 := H
  obtain ⟨r1, r2, r3, r4⟩ := H
  have hcl : (nI m).toNatClampNeg = m := nI_clamp (by omega)
  have hb6 : ∀ {β : Type} (k : Option β), bnd (nI m) 6 k = k := fun k => bnd_nI hm (by decide) k
  have oth : ∀ (s1 : sw_St) (o : Nat) (v : Int32), (∀ a i, 23 ≤ a → a ≤ 26 → i ≠ m → s1.1 a i = s.1 a i) → ∀ a i, 23 ≤ a → a ≤ 26 → i ≠ m → (sw_setC s1 o m v).1 a i = s.1 a i := fun s1 o v h a i h1 h2 h3 => by rw [gsC, if_neg (fun z => h3 z.2)]; exact h a i h1 h2 h3
  have othm : ∀ (s1 : sw_St) (q : Nat), (∀ a i, 23 ≤ a → a ≤ 26 → i ≠ m → s1.1 a i = s.1 a i) → ∀ a i, 23 ≤ a → a ≤ 26 → i ≠ m → (mv5 s1 q).1 a i = s.1 a i := fun s1 q h a i h1 h2 h3 => by rw [mv5_o _ _ (by omega)]; exact h a i h1 h2 h3
  have oth0 : ∀ a i, 23 ≤ a → a ≤ 26 → i ≠ m → s.1 a i = s.1 a i := fun _ _ _ _ _ => rfl
  unfold j_X3_readStranger j_X3_readKind
  rw [r1, r2, r3, if_pos (show nI p < nI n from nI_lt hp (by omega)), grd_y (kd7 ht), t4 ht, bnd_nI (by omega) (by decide), nI_clamp (by omega), r4 p hp, kindOf5, bo_some, jn_eq]
  have hE : pf_str b n p = match pf_kind (b p) with
    | none => (p, none)
    | some k => match pf_fig b n 1 9 (p + 1) with
      | none => (p + 1, none)
      | some s => match pf_fig b n 0 1 (p + 2) with
        | none => (p + 2, none)
        | some g => match pf_fig b n 0 9 (p + 3) with
          | none => (p + 3, none)
          | some d => (p + 4, some (k, s, g, d)) := rfl
  cases h0 : pf_kind (b p) with
  | none =>
    simp only [h0] at hE
    dsimp only
    rw [if_pos (show (-1 : Int32) < 0 by decide), bd_some, hb6, hcl, nm_eq, hb6, gsC, if_pos (show 23 = 23 ∧ m = m from ⟨rfl, rfl⟩), if_neg (show ¬ (0 : Int32) ≤ -1 by decide), hE]
    exact ⟨_, rfl, H0.C ht _ _ (by decide), fun v hv => absurd hv (by simp), (f5.rf s).C _ _ (by decide), oth _ _ _ oth0, by rw [gsC_ne _ _ _ (by decide)]⟩
  | some k =>
    have hk := kind_le h0
    simp only [h0] at hE
    dsimp only
    have H1 := (H0.mv ht (p + 1)).C ht (o := 23) m (nI k) (by decide)
    have fr1 := ((f5.rf s).mv (p + 1)).C (o := 23) m (nI k) (by decide)
    have ot1 := oth _ 23 (nI k) (othm _ (p + 1) oth0)
    rw [if_neg (show ¬ nI k < 0 from nI_pos (by omega)), nm_eq, nI_1, show sw_setC s 52 2 (nI (p + 1)) = mv5 s (p + 1) from rfl, bd_some, hb6, hcl, nm_eq, hb6, gsC, if_pos (show 23 = 23 ∧ m = m from ⟨rfl, rfl⟩), if_pos (show (0 : Int32) ≤ nI k from nI_pos' (by omega)), show (1 : Int32) = nI 1 from rfl, show (9 : Int32) = nI 9 from rfl, figure5 ht hn (by omega) (by decide) (by decide) H1]
    obtain ⟨s1, hs1⟩ : ∃ s1, s1 = sw_setC (mv5 s (p + 1)) 23 m (nI k) := ⟨_, rfl⟩
    rw [← hs1] at H1 fr1 ot1 ⊢
    have k1 : s1.1 23 m = nI k := by rw [hs1, gsC, if_pos ⟨rfl, rfl⟩]
    have t1 : s1.1 22 = s.1 22 := by rw [hs1, gsC_ne _ _ _ (by decide), mv5_o _ _ (by decide)]
    cases h1 : pf_fig b n 1 9 (p + 1) with
    | none =>
      simp only [h1] at hE
      rw [hE, bd_some, hb6, nm_eq, hb6, gsC, if_pos (show 24 = 24 ∧ m = m from ⟨rfl, rfl⟩), if_neg (show ¬ (0 : Int32) ≤ -1 by decide)]
      exact ⟨_, rfl, H1.C ht _ _ (by decide), fun v hv => absurd hv (by simp), fr1.C _ _ (by decide), oth _ _ _ ot1, by rw [gsC_ne _ _ _ (by decide), t1]⟩
    | some g1 =>
      obtain ⟨b1, -, b2⟩ := fig_le h1
      simp only [h1] at hE
      have H2 := (H1.mv ht (p + 2)).C ht (o := 24) m (nI g1) (by decide)
      have fr2 := (fr1.mv (p + 2)).C (o := 24) m (nI g1) (by decide)
      have ot2 := oth _ 24 (nI g1) (othm _ (p + 2) ot1)
      rw [bd_some, hb6, nm_eq, hb6, gsC, if_pos (show 24 = 24 ∧ m = m from ⟨rfl, rfl⟩), if_pos (show (0 : Int32) ≤ nI g1 from nI_pos' (by omega)), show (0 : Int32) = nI 0 from rfl, figure5 ht hn (by omega) (by decide) (by decide) H2]
      obtain ⟨s2, hs2⟩ : ∃ s2, s2 = sw_setC (mv5 s1 (p + 2)) 24 m (nI g1) := ⟨_, rfl⟩
      rw [show sw_setC (mv5 s1 (p + 1 + 1)) 24 m (nI g1) = s2 from hs2.symm]
      rw [← hs2] at H2 fr2 ot2
      have k2 : s2.1 23 m = nI k ∧ s2.1 24 m = nI g1 := ⟨by rw [hs2, gsC, if_neg (by omega), mv5_o _ _ (by decide), k1], by rw [hs2, gsC, if_pos ⟨rfl, rfl⟩]⟩
      have t2 : s2.1 22 = s.1 22 := by rw [hs2, gsC_ne _ _ _ (by decide), mv5_o _ _ (by decide), t1]
      cases h2 : pf_fig b n 0 1 (p + 2) with
      | none =>
        simp only [h2] at hE
        rw [hE, bd_some, hb6, nm_eq, hb6, gsC, if_pos (show 25 = 25 ∧ m = m from ⟨rfl, rfl⟩), if_neg (show ¬ nI 0 ≤ -1 by decide)]
        exact ⟨_, rfl, H2.C ht _ _ (by decide), fun v hv => absurd hv (by simp), fr2.C _ _ (by decide), oth _ _ _ ot2, by rw [gsC_ne _ _ _ (by decide), t2]⟩
      | some g2 =>
        obtain ⟨b3, -, b4⟩ := fig_le h2
        simp only [h2] at hE
        have H3 := (H2.mv ht (p + 3)).C ht (o := 25) m (nI g2) (by decide)
        have fr3 := (fr2.mv (p + 3)).C (o := 25) m (nI g2) (by decide)
        have ot3 := oth _ 25 (nI g2) (othm _ (p + 3) ot2)
        rw [bd_some, hb6, nm_eq, hb6, gsC, if_pos (show 25 = 25 ∧ m = m from ⟨rfl, rfl⟩), if_pos (show nI 0 ≤ nI g2 from nI_pos' (by omega)), figure5 ht hn (by omega) (by decide) (by decide) H3]
        obtain ⟨s3, hs3⟩ : ∃ s3, s3 = sw_setC (mv5 s2 (p + 3)) 25 m (nI g2) := ⟨_, rfl⟩
        rw [show sw_setC (mv5 s2 (p + 2 + 1)) 25 m (nI g2) = s3 from hs3.symm]
        rw [← hs3] at H3 fr3 ot3
        have k3 : s3.1 23 m = nI k ∧ s3.1 24 m = nI g1 ∧ s3.1 25 m = nI g2 := ⟨by rw [hs3, gsC, if_neg (by omega), mv5_o _ _ (by decide), k2.1], by rw [hs3, gsC, if_neg (by omega), mv5_o _ _ (by decide), k2.2], by rw [hs3, gsC, if_pos ⟨rfl, rfl⟩]⟩
        have t3 : s3.1 22 = s.1 22 := by rw [hs3, gsC_ne _ _ _ (by decide), mv5_o _ _ (by decide), t2]
        cases h3 : pf_fig b n 0 9 (p + 3) with
        | none =>
          simp only [h3] at hE
          rw [hE, bd_some, hb6, nm_eq, hb6, gsC, if_pos (show 26 = 26 ∧ m = m from ⟨rfl, rfl⟩), jn_eq, if_pos (show (-1 : Int32) < nI 0 by decide)]
          dsimp only
          rw [grd_y (Or.inl rfl)]
          exact ⟨_, rfl, H3.C ht _ _ (by decide), fun v hv => absurd hv (by simp), fr3.C _ _ (by decide), oth _ _ _ ot3, by rw [gsC_ne _ _ _ (by decide), t3]⟩
        | some g3 =>
          obtain ⟨b5, -, b6⟩ := fig_le h3
          simp only [h3] at hE
          rw [hE, bd_some, hb6, nm_eq, hb6, gsC, if_pos (show 26 = 26 ∧ m = m from ⟨rfl, rfl⟩), jn_eq, if_neg (show ¬ nI g3 < nI 0 from nI_pos (by omega))]
          dsimp only
          rw [grd_y (Or.inr rfl)]
          refine ⟨_, rfl, (H3.mv ht (p + 4)).C ht _ _ (by decide), fun v hv => ?_, (fr3.mv _).C _ _ (by decide), oth _ _ _ (othm _ _ ot3), by rw [gsC_ne _ _ _ (by decide), mv5_o _ _ (by decide), t3]⟩
          injection hv with hv
          rw [← hv]
          refine ⟨?_, ?_, ?_, ?_⟩
          · rw [gsC, if_neg (by omega), mv5_o _ _ (by decide), k3.1]
          · rw [gsC, if_neg (by omega), mv5_o _ _ (by decide), k3.2.1]
          · rw [gsC, if_neg (by omega), mv5_o _ _ (by decide), k3.2.2]
          · rw [gsC, if_pos ⟨rfl, rfl⟩]
