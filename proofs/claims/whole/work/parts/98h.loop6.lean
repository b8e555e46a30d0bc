theorem lz2_one {A1 A2 β : Type} (body : (A1 → A2 → Option β) → A1 → A2 → Option β) {F : Nat} (h : 0 < F) (x : A1) (y : A2) : ∃ g, lz2 body F x y = body g x y := by
  cases F with
  | zero => exact absurd h (Nat.lt_irrefl 0)
  | succ n => exact ⟨lz2 body n, rfl⟩
theorem loop6 {F t n p0 : Nat} {b : Nat → Int32} {v : Nat × Nat} {st s0 : sw_St} {body : (Int32 → sw_St → Option (Int32 × sw_St)) → Int32 → sw_St → Option (Int32 × sw_St)} (hF : 20000 ≤ F) (ht : t < 4) (hn : n ≤ 60) (hp0 : p0 ≤ n)
    (hbody : ∀ f x12 s13, body f x12 s13 = (if x12 = 0 then (if x12 = 0 then some (s13.1 63 15, s13) else if s13.1 63 20 ≤ 0 then some (s13.1 63 15, s13) else some (-9, s13)) else if s13.1 63 16 ≤ s13.1 63 15 then (if x12 = 0 then some (s13.1 63 15, s13) else if s13.1 63 20 ≤ 0 then some (s13.1 63 15, s13) else some (-9, s13)) else
      bd (j_X6_readsStranger F s13) (fun (r28 : Int32) (s29 : sw_St) => if r28 = 0 then f r28 s29 else bd (j_X6_skip F s29) (fun (_ : Unit) (s32 : sw_St) => f r28 s32))))
    (H : RM s0 t n p0 b) (h0 : s0.1 63 20 = nI 0) (h5 : s0.1 63 17 = nI v.1) (h6 : s0.1 63 18 = nI v.2) (hg : f6 st s0) :
    ∃ s', lz2 body F 1 s0 = some (pf_ans (pf_fin v (pf_rest b n 6 p0)), s') ∧ f6 st s' ∧ ∀ w l, (pf_fin v (pf_rest b n 6 p0)).2 = some (w, l) → s'.1 63 20 = nI l.length ∧ s'.1 63 17 = nI w.1 ∧ s'.1 63 18 = nI w.2 ∧ dr6 l s' := by
  generalize hz : pf_rest b n 6 p0 = z
  refine lz2_ind (Φ := fun o => ∃ s', o = some (pf_ans (pf_fin v z), s') ∧ f6 st s' ∧ ∀ w l, (pf_fin v z).2 = some (w, l) → s'.1 63 20 = nI l.length ∧ s'.1 63 17 = nI w.1 ∧ s'.1 63 18 = nI w.2 ∧ dr6 l s') (fun x s => if x = 0 then 0 else 100 - (s.1 63 20).toNatClampNeg) (fun x s => (x = 0 ∧ z.2 = none ∧ s.1 63 15 = nI z.1 ∧ f6 st s) ∨ ∃ (p : Nat) (acc : List pw_Q), acc.length ≤ 6 ∧ x = 1 ∧ p ≤ n ∧ RM s t n p b ∧ s.1 63 20 = nI acc.length ∧ s.1 63 17 = nI v.1 ∧ s.1 63 18 = nI v.2 ∧ z = ((pf_rest b n (6 - acc.length) p).1, (pf_rest b n (6 - acc.length) p).2.map (fun l => acc ++ l)) ∧ dr6 acc s ∧ f6 st s) (fun g x s hp ih => ?_) F 1 s0 (Or.inr ⟨p0, [], Nat.zero_le _, rfl, hp0, H, h0, h5, h6, ?_, fun i hi => absurd hi (Nat.not_lt_zero i), hg⟩) (by rw [if_neg (by decide)]; omega)
  case refine_2 =>
    rw [map_nil, ← hz]
    rfl
  rw [hbody]
  rcases hp with ⟨rfl, hz2, h15, hg1⟩ | ⟨p, acc, ha6, rfl, hpn, H1, k0, k5, k6, hzz, hd, hg1⟩
  · rw [if_pos rfl, if_pos rfl, h15]
    refine ⟨s, ?_, hg1, fun w' l hl => ?_⟩
    · rw [fin_n hz2]; rfl
    · rw [fin_n hz2] at hl; exact absurd hl (by simp)
  rw [if_neg (by decide), H1.2.1, H1.2.2.1, k0]
  by_cases w : p < n
  · rw [if_neg (show ¬ nI n ≤ nI p from nI_ge w (by omega))]
    by_cases w6 : acc.length = 6
    · rw [stranger6_6 (F := F) ht hn w H1 (by rw [k0, w6]), bd_some, if_pos rfl]
      rw [w6, rest_0 w] at hzz
      refine ih _ _ (Or.inl ⟨rfl, by rw [hzz]; rfl, by rw [hzz]; exact H1.2.1, hg1⟩) ?_
      rw [if_pos rfl, if_neg (by decide), k0, nI_clamp (by omega)]
      omega
    obtain ⟨s1, j1, r1, r2, r3, r4, r5, r6⟩ := stranger6 (F := F) (m := acc.length) ht hn w (by omega) H1 k0
    rw [j1, bd_some]
    rw [show 6 - acc.length = (6 - (acc.length + 1)) + 1 by omega] at hzz
    cases hs : (pf_str b n p).2 with
    | none =>
      rw [rest_n w hs] at hzz
      rw [show (if (none : Option pw_Q).isSome = true then (1 : Int32) else 0) = 0 from rfl, if_pos rfl]
      refine ih _ _ (Or.inl ⟨rfl, by rw [hzz]; rfl, by rw [hzz]; exact r1.2.1, hg1.tr r3⟩) ?_
      rw [if_pos rfl, if_neg (by decide), k0, nI_clamp (by omega)]
      omega
    | some q =>
      rw [rest_s w hs, map_acc] at hzz
      rw [show (if (some q : Option pw_Q).isSome = true then (1 : Int32) else 0) = 1 from rfl, if_neg (by decide)]
      obtain ⟨q1, q2⟩ := str_r hs
      rw [skip6 hF ht hn q1 r1, bd_some]
      have hl1 : (acc ++ [q]).length = acc.length + 1 := by simp
      obtain ⟨v0, v1, v2, v3, v4⟩ := r2 q hs
      refine ih _ _ (Or.inr ⟨pf_sk b n (pf_str b n p).1, acc ++ [q], by omega, rfl, (sk_r q1).2, r1.mv _, ?_, ?_, ?_, by rw [hl1]; exact hzz, fun i hi => ?_, (hg1.tr r3).mv _⟩) ?_
      · rw [mv6_i _ _ (by decide), v0, hl1]
      · rw [mv6_i _ _ (by decide), r5, k5]
      · rw [mv6_i _ _ (by decide), r6, k6]
      · rw [hl1] at hi
        rw [mv6_o _ _ (by decide)]
        by_cases e : i = acc.length
        · rw [getD_e e, e]
          exact ⟨v1, v2, v3, v4⟩
        · rw [getD_l (by omega), r4 _ (by omega), r4 _ (by omega), r4 _ (by omega), r4 _ (by omega)]
          exact hd i (by omega)
      · rw [if_neg (by decide), if_neg (by decide), mv6_i _ _ (by decide), v0, k0, nI_clamp (by omega), nI_clamp (by omega)]
        omega
  · rw [rest_e (by omega)] at hzz
    have hz2 : z.2 = some acc := by rw [hzz]; simp
    have hz1 : z.1 = p := by rw [hzz]
    rw [if_pos (show nI n ≤ nI p from nI_le (by omega) (by omega)), if_neg (by decide)]
    refine ⟨s, ?_, hg1, fun w' l hl => ?_⟩
    · by_cases w0 : acc.length = 0
      · rw [if_pos (by rw [w0]; decide), fin_e (by rw [hz2, List.length_eq_zero_iff.mp w0]), hz1]; rfl
      · rw [if_neg (nI_nle (by omega) (by omega)), fin_s hz2 (by omega)]; rfl
    · by_cases w0 : acc.length = 0
      · rw [fin_e (by rw [hz2, List.length_eq_zero_iff.mp w0])] at hl; exact absurd hl (by simp)
      · rw [fin_s hz2 (by omega)] at hl
        injection hl with hl
        injection hl with hl1 hl2
        rw [← hl1, ← hl2]
        exact ⟨k0, k5, k6, hd⟩
theorem read6 {F t n : Nat} {b : Nat → Int32} {st : sw_St} (hF : 20000 ≤ F) (ht : t < 4) (hn : n ≤ 60) (h70 : st.1 70 t = nI n) (hb : ∀ i, i < n → st.1 71 (60 * t + i) = b i) : ∃ s', j_X6_faultOf F (nI t) st = some (pf_ans (pf_all b n), s') ∧ f6 st s' ∧ ∀ w l, (pf_all b n).2 = some (w, l) → s'.1 63 20 = nI l.length ∧ s'.1 63 17 = nI w.1 ∧ s'.1 63 18 = nI w.2 ∧ dr6 l s' := by
  unfold j_X6_faultOf
  rw [show (60 : Int32) * nI t = nI (60 * t) from pk_mul 60 t, nm_eq, nm_eq, bnd_nI ht (by decide), nI_clamp (by omega), gsC_ne _ _ _ (by decide), gsC_ne _ _ _ (by decide), h70, nm_eq, nm_eq]
  obtain ⟨s5, hs5⟩ : ∃ s5, s5 = sw_setC (sw_setC (sw_setC (sw_setC st 63 14 (nI (60 * t))) 63 15 0) 63 16 (nI n)) 63 20 0 := ⟨_, rfl⟩
  rw [← hs5]
  have H5 : RM s5 t n 0 b := by
    refine ⟨?_, ?_, ?_, fun i hi => ?_⟩
    · rw [hs5, gsC, if_neg (by decide), gsC, if_neg (by decide), gsC, if_neg (by decide), gsC, if_pos ⟨rfl, rfl⟩]
    · rw [hs5, gsC, if_neg (by decide), gsC, if_neg (by decide), gsC, if_pos ⟨rfl, rfl⟩]; rfl
    · rw [hs5, gsC, if_neg (by decide), gsC, if_pos ⟨rfl, rfl⟩]
    · rw [hs5, gsC_ne _ _ _ (by decide), gsC_ne _ _ _ (by decide), gsC_ne _ _ _ (by decide), gsC_ne _ _ _ (by decide)]
      exact hb i hi
  have g5 : f6 st s5 := by
    rw [hs5]
    exact ((((f6.rf st).C _ (by decide)).C _ (by decide)).C _ (by decide)).C _ (by decide)
  have z5 : s5.1 63 20 = nI 0 := by rw [hs5, gsC, if_pos ⟨rfl, rfl⟩]; rfl
  obtain ⟨s9, j9, H9, v9, f9, z9⟩ := spring6 (F := F) hF ht hn (Nat.zero_le n) H5
  rw [j9, bd_some, jn_eq]
  have g9 : f6 st s9 := g5.tr f9
  cases hs : (pf_spr b n (pf_sk b n 0)).2 with
  | none =>
    rw [show (if (none : Option (Nat × Nat)).isSome = true then (1 : Int32) else 0) = 0 from rfl, if_pos rfl, all_n hs]
    obtain ⟨g, hg⟩ := lz2_one (fun f14 (x12 : Int32) (s13 : sw_St) =>
   jn (
     jn (fun (x18 : Int32) => 
       some ((x18 : Int32), s13)) (fun k19 =>
      jn (
        k19 (s13.1 63 15)) (fun k21 =>
       (if x12 = 0 then (
        k21)
       else (
        (if (s13.1 63 20) ≤ 0 then (
         k21)
        else (
         k19 (-9)))))))) (fun k16 =>
    (if x12 = 0 then (
     k16)
    else (
     (if (s13.1 63 16) ≤ (s13.1 63 15) then (
      k16)
     else (
      bd (j_X6_readsStranger F s13) (fun (r28 : Int32) (s29 : sw_St) =>
      (if r28 = 0 then (
       f14 r28 s29)
      else (
       bd (j_X6_skip F s29) (fun (_ : Unit) (s32 : sw_St) =>
       f14 r28 s32)))))))))) (show 0 < F by omega) 0 s9
    refine ⟨s9, hg.trans ?_, g9, fun w l hl => absurd hl (by simp)⟩
    rw [jn_eq, if_pos rfl, jn_eq, jn_eq, if_pos rfl, H9.2.1]
    rfl
  | some v =>
    rw [show (if (some v : Option (Nat × Nat)).isSome = true then (1 : Int32) else 0) = 1 from rfl, if_neg (by decide), all_s hs]
    obtain ⟨q1, q2, q3⟩ := spr_r hs
    rw [skip6 hF ht hn q1 H9, bd_some]
    obtain ⟨v1, v2⟩ := v9 v hs
    refine loop6 hF ht hn (sk_r q1).2 (fun f x13 s14 => rfl) (H9.mv _) ?_ ?_ ?_ (g9.mv _)
    · rw [mv6_i _ _ (by decide), z9, z5]
    · rw [mv6_i _ _ (by decide), v1]
    · rw [mv6_i _ _ (by decide), v2]
theorem all_ok {b : Nat → Int32} {n : Nat} {w : Nat × Nat} {l : List pw_Q} (h : (pf_all b n).2 = some (w, l)) : w.1 ≤ 60 ∧ w.2 ≤ 3 ∧ l.length ≤ 6 ∧ 0 < l.length ∧ ∀ i, i < l.length → okq (l.getD i qz) := by
  cases hs : (pf_spr b n (pf_sk b n 0)).2 with
  | none => rw [all_n hs] at h; exact absurd h (by simp)
  | some v =>
    rw [all_s hs] at h
    obtain ⟨q1, q2, q3⟩ := spr_r hs
    cases hr : (pf_rest b n 6 (pf_sk b n (pf_spr b n (pf_sk b n 0)).1)).2 with
    | none => rw [fin_n hr] at h; exact absurd h (by simp)
    | some r =>
      obtain ⟨i1, i2⟩ := rest_ok _ r hr
      by_cases w0 : r.length = 0
      · rw [fin_e (by rw [hr, List.length_eq_zero_iff.mp w0])] at h; exact absurd h (by simp)
      · rw [fin_s hr (by omega)] at h
        injection h with h
        injection h with h1 h2
        rw [← h1, ← h2]
        refine ⟨q2, q3, i1, by omega, fun i hi => i2 _ ?_⟩
        rw [List.getD_eq_getElem?_getD, List.getElem?_eq_getElem hi]
        exact List.getElem_mem hi
theorem o_8 {F : Nat} (hF : 20000 ≤ F) : sm_8 II F := by
  intro a1 st hI
  unfold j_X5_fault j_X6_fault
  rcases nix a1 4 with h | ⟨t, ht, rfl⟩
  · exact ⟨-1, st, st, by rw [isText5_n h]; rfl, by rw [isText6_n h]; rfl, hI⟩
  rw [isText5_y ht, bo_some, if_neg (by decide), bnd_nI ht (by decide), nI_clamp (show t < 2 ^ 31 by omega)]
  rcases IT_size hI ht with ⟨s5, s6⟩ | ⟨n, hn, s5, s6⟩
  · refine ⟨-3, fd5 st 1, fd6 (fd5 st 1) 1, ?_, ?_, II_fd hI (by decide)⟩
    · rw [s5, if_neg (by decide), show (1 : Int32) = nI 1 from rfl, found5 (by decide)]
      rfl
    · rw [isText6_y ht, bo_some, if_neg (by decide), bnd_nI ht (by decide), jn_eq, fd5_o (by decide) (by decide), s6, if_neg (by decide), show (1 : Int32) = nI 1 from rfl, find6 (by decide)]
      rfl
  obtain ⟨s1, j1, g1, -⟩ := read5 (F := F) (b := st.1 (10 + t)) hF ht hn (fun i _ => rfl)
  obtain ⟨s2, j2, g2, -⟩ := read6 (F := F) (b := st.1 (10 + t)) (st := s1) hF ht hn (by rw [g1.1 70 (by decide) (by decide)]; exact s6) (fun i hi => by rw [g1.1 71 (by decide) (by decide)]; exact ((hI.2.1 t ht).2.2 i (by omega)).symm)
  refine ⟨pf_ans (pf_all (st.1 (10 + t)) n), s1, s2, ?_, ?_, ?_⟩
  · rw [s5, if_pos (show (0 : Int32) ≤ nI n from nI_pos' (by omega)), bnd_nI ht (by decide), bnd_nI ht (by decide), j1, bd_some]
  · rw [isText6_y ht, bo_some, if_neg (by decide), bnd_nI ht (by decide), jn_eq, g1.1 70 (by decide) (by decide), s6, if_pos (show (0 : Int32) ≤ nI n from nI_pos' (by omega)), j2, bd_some]
  · refine II_scr hI (fun a ha => ?_) ?_ ?_ ?_ ?_ (fun i hi => ?_) ?_ ?_
    · simp only [sN, List.mem_cons, not_or, List.mem_nil_iff, or_false] at ha
      rw [g2.1 a (by omega) (by omega), g1.1 a (by omega) (by omega)]
    · rw [g2.1 0 (by decide) (by decide), g1.1 0 (by decide) (by decide)]
    · rw [g2.1 0 (by decide) (by decide), g1.1 0 (by decide) (by decide), g2.2.1 9 (by decide), g1.1 63 (by decide) (by decide)]
      exact hI.2.2.1.1
    · rw [g2.2.1 1 (by decide), g1.1 63 (by decide) (by decide)]
    · rw [g2.2.1 12 (by decide), g1.1 63 (by decide) (by decide)]
    · rw [g2.1 64 (by decide) (by decide), g1.1 64 (by decide) (by decide)]
    · rw [g2.2.2, g1.2]
      exact hI.2.2.1.2.2.2.1
    · rw [g2.2.2, g1.2]
      exact hI.2.2.1.2.2.2.2
