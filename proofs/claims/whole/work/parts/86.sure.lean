theorem and63 {T : Nat} (hT : T < 64) : T &&& 63 = T := by
  rw [show 63 = 2 ^ 6 - 1 from rfl, Nat.and_two_pow_sub_one_eq_mod]
  exact Nat.mod_eq_of_lt hT
theorem o_29 {F : Nat} (hF : 20000 ≤ F) : sm_29 II F := by
  intro a1 st hI
  unfold j_X5_sure j_X6_sure
  rcases beard_pre (a1 := a1) hF hI with ⟨r, s1, s2, hr, j1, j2, h2⟩ | ⟨n, kd, sg, br, fw, ff, G, x, a, s1, H, h0, ha, hC, j1, t1, c1, z1, hp⟩
  · exact ⟨r, s1, s2, by rw [j1, bd_some, if_neg hr], by rw [j2, bd_some, if_neg hr], h2⟩
  have hn := H.hv.1
  have hs := ok64 hn H.hx.2.2.2.2
  have ho := out_lt n x.2.2.2.2 hn
  generalize hP : pw_fit n kd sg G x a = P at *
  obtain ⟨v, hv⟩ : ∃ v : Int32, v = nI (pw_out n x.2.2.2.2) &&& (nI (foO P 64) ^^^ (-1)) := ⟨_, rfl⟩
  obtain ⟨s2, j2, p2, f2⟩ := hp v
  have H1 : HR s1 n kd sg br fw ff G x := H.c (fun b hb => c1 b ((by decide : ∀ a, a ∈ [15, 16, 17, 18, 19, 65, 66, 67] → a ∉ [60, 61]) b hb)) (by rw [c1 63 (by decide)]) (fun i hi => by rw [c1 64 (by decide)])
  have H2 : HR (sw_setC s1 0 14 v) n kd sg br fw ff G x := HR_6061 H c1
  have o2 : j_X6_out F s2 = some (nI (pw_out n x.2.2.2.2)) := out6 hn hs (by rw [f2.1 63 (by decide) (by decide)]; exact H2.hm.1.1) (by rw [f2.2.1 5 (by decide)]; exact H2.ht.2.2.2.2)
  refine ⟨nI (foA P (pw_out n x.2.2.2.2) 64), sw_setC s1 0 14 v, sw_setC s2 63 9 v, ?_, ?_, II_beard hI c1 z1 f2⟩
  · rw [j1, bd_some, if_pos rfl, notIn5 hn hs H1.hc.1 H1.hr.2.2.2.2, bo_some, t1.2.2.2.1, ← hv]
    simp only [nm]
    rw [gsC, if_neg (by decide), t1.2.2.1]
  · rw [j2, bd_some, if_pos rfl, o2, bo_some]
    refine lz3_ind (Φ := fun o => o = some (nI (foA P (pw_out n x.2.2.2.2) 64), sw_setC s2 63 9 v)) (fun _ _ i => 100 - i.toNatClampNeg) (fun u w c => ∃ k, k ≤ 64 ∧ c = nI k ∧ u = nI (foA P (pw_out n x.2.2.2.2) k) ∧ w = nI (foO P k)) (fun g u w c hq ih => ?_) F _ _ _ ⟨0, by omega, rfl, rfl, rfl⟩ (by show 100 - 0 < F; omega)
    obtain ⟨k, hk, rfl, rfl, rfl⟩ := hq
    by_cases q : k = 64
    · subst q
      rw [if_pos (by decide), bo_some, ← hv]
      rfl
    have hA := foA_lt (P := P) ho k
    have hO := foO_lt (P := P) hk
    rw [if_neg (show ¬ (64 : Int32) ≤ nI k from nI_ge (b := 64) (by omega) (by decide)), bnd_nI (by omega) (by decide), nI_clamp (by omega), p2 k (by omega)]
    simp only [jn, nm]
    rw [bnd_nI (by omega) (by decide), bnd_nI (by omega) (by decide), nI_1]
    have e2 : foA P (pw_out n x.2.2.2.2) (k + 1) = if P k then foA P (pw_out n x.2.2.2.2) k &&& k else foA P (pw_out n x.2.2.2.2) k := rfl
    have e3 : foO P (k + 1) = if P k then foO P k ||| k else foO P k := rfl
    have fin : ∀ u w, u = nI (foA P (pw_out n x.2.2.2.2) (k + 1)) → w = nI (foO P (k + 1)) → g u w (nI (k + 1)) = some (nI (foA P (pw_out n x.2.2.2.2) 64), sw_setC s2 63 9 v) := fun u w hu hw => ih _ _ _ ⟨k + 1, by omega, rfl, hu, hw⟩ (by rw [nI_clamp (by omega), nI_clamp (by omega)]; omega)
    cases hPk : P k
    · rw [hPk] at e2 e3
      rw [if_neg (show ¬ false = true by decide), if_pos rfl, if_pos rfl]
      refine fin _ _ ?_ ?_
      · rw [e2]
        show _ = nI (foA P (pw_out n x.2.2.2.2) k)
        refine (b_and0 ⟨_, hA⟩ ⟨63, by decide⟩).trans ?_
        show nI (foA P (pw_out n x.2.2.2.2) k &&& 63) = _
        rw [and63 hA]
      · rw [e3]
        refine (b_orn0 ⟨_, hO⟩ ⟨0, by decide⟩).trans ?_
        show nI (foO P k ||| 0) = nI (foO P k)
        rw [Nat.or_zero]
    · rw [hPk, if_pos rfl] at e2 e3
      rw [if_pos (show true = true from rfl), if_neg (show ¬ (1 : Int32) = 0 by decide), if_neg (show ¬ (1 : Int32) = 0 by decide)]
      refine fin _ _ ?_ ?_
      · rw [e2]
        exact b_and0 ⟨_, hA⟩ ⟨k, by omega⟩
      · rw [e3]
        exact b_orn0 ⟨_, hO⟩ ⟨k, by omega⟩
/-- whom to ask: the first of the least -/
def pw_ak (p : Nat → Bool) (v : Nat → Nat) : Nat → Option (Nat × Nat)
  | 0 => none
  | k + 1 => if p k then (match pw_ak p v k with | none => some (k, v k) | some q => if v k < q.2 then some (k, v k) else some q) else pw_ak p v k
theorem ak_b {p : Nat → Bool} {v : Nat → Nat} {c : Nat} (hv : ∀ i, v i ≤ c) (k : Nat) : ∀ q, pw_ak p v k = some q → q.1 < k ∧ q.2 ≤ c := by
  induction k with
  | zero => intro q h; exact absurd h (by simp [pw_ak])
  | succ k ih =>
    intro q h
    unfold pw_ak at h
    split at h
    · split at h
      · injection h with h
        rw [← h]
        exact ⟨by show k < k + 1; omega, hv k⟩
      · rename_i q' hq'
        split at h
        · injection h with h
          rw [← h]
          exact ⟨by show k < k + 1; omega, hv k⟩
        · injection h with h
          rw [← h]
          have := ih q' hq'
          exact ⟨by omega, this.2⟩
    · have := ih q h
      exact ⟨by omega, this.2⟩
def akW (q : Option (Nat × Nat)) : Int32 := match q with | none => -9 | some q => nI q.1
def akB (z : Int32) (q : Option (Nat × Nat)) : Int32 := match q with | none => z | some q => nI q.2
theorem greater6 {F i : Nat} {P : Nat → Bool} {st : sw_St} (hF : 20000 ≤ F) (hi : i < 6) (p2 : ∀ S, S < 64 → st.1 75 S = if P S then 1 else 0) : j_X6_greater F (nI i) st = some (nI (max (foI P i 64) (foC P 64 - foI P i 64))) := by
  unfold j_X6_greater
  refine lz3_ind (Φ := fun o => o = some (nI (max (foI P i 64) (foC P 64 - foI P i 64)))) (fun _ _ i => 100 - i.toNatClampNeg) (fun u w c => ∃ k, k ≤ 64 ∧ c = nI k ∧ u = nI (foI P i k) ∧ w = nI (foC P k - foI P i k)) (fun g u w c hq ih => ?_) F _ _ _ ⟨0, by omega, rfl, rfl, rfl⟩ (by show 100 - 0 < F; omega)
  obtain ⟨k, hk, rfl, rfl, rfl⟩ := hq
  have hI := foI_le P i k
  have hC := foC_le P k
  by_cases q : k = 64
  · subst q
    rw [if_pos (by decide)]
    simp only [jn]
    by_cases z : foI P i 64 ≤ foC P 64 - foI P i 64
    · rw [if_pos (nI_le z (by omega)), Nat.max_eq_right z]
    · rw [if_neg (nI_ge (by omega) (by omega)), Nat.max_eq_left (by omega)]
  rw [if_neg (show ¬ (64 : Int32) ≤ nI k from nI_ge (b := 64) (by omega) (by decide)), bnd_nI (by omega) (by decide), nI_clamp (by omega), p2 k (by omega), has6 (by omega) (by omega)]
  simp only [jn, nm, bo_some]
  rw [bnd_nI (by omega) (by decide), bnd_nI (by omega) (by decide), nI_1]
  have e2 : foI P i (k + 1) = if P k then foI P i k + (if k.testBit i then 1 else 0) else foI P i k := rfl
  have e3 : foC P (k + 1) = if P k then foC P k + 1 else foC P k := rfl
  have fin : ∀ u w, u = nI (foI P i (k + 1)) → w = nI (foC P (k + 1) - foI P i (k + 1)) → g u w (nI (k + 1)) = some (nI (max (foI P i 64) (foC P 64 - foI P i 64))) := fun u w hu hw => ih _ _ _ ⟨k + 1, by omega, rfl, hu, hw⟩ (by rw [nI_clamp (by omega), nI_clamp (by omega)]; omega)
  cases hPk : P k
  · rw [hPk] at e2 e3
    rw [if_neg (show ¬ false = true by decide), if_pos rfl, if_pos rfl]
    exact fin _ _ (by rw [e2]; exact nI_add _ 0) (by rw [e2, e3]; exact nI_add _ 0)
  · rw [hPk, if_pos rfl] at e2 e3
    rw [if_pos (show true = true from rfl), if_neg (show ¬ (1 : Int32) = 0 by decide), if_neg (show ¬ (1 : Int32) = 0 by decide), if_neg (show ¬ (1 : Int32) = 0 by decide)]
    cases hb : k.testBit i
    · rw [hb] at e2
      rw [if_neg (show ¬ false = true by decide), if_pos rfl, if_pos rfl]
      refine fin _ _ (by rw [e2]; exact nI_add _ 0) ?_
      rw [e2, e3]
      refine (nI_add _ 1).trans (congrArg nI ?_)
      show foC P k - foI P i k + 1 = foC P k + 1 - (foI P i k + 0)
      omega
    · rw [hb, if_pos rfl] at e2
      rw [if_pos (show true = true from rfl), if_neg (show ¬ (1 : Int32) = 0 by decide), if_neg (show ¬ (1 : Int32) = 0 by decide)]
      refine fin _ _ (by rw [e2]; exact nI_add _ 1) ?_
      rw [e2, e3]
      refine (nI_add _ 0).trans (congrArg nI ?_)
      omega
theorem o_30 {F : Nat} (hF : 20000 ≤ F) : sm_30 II F := by
  intro a1 st hI
  unfold j_X5_ask j_X6_ask
  rcases beard_pre (a1 := a1) hF hI with ⟨r, s1, s2, hr, j1, j2, h2⟩ | ⟨n, kd, sg, br, fw, ff, G, x, a, s1, H, h0, ha, hC, j1, t1, c1, z1, hp⟩
  · exact ⟨r, s1, s2, by rw [j1, bd_some, if_neg hr], by rw [j2, bd_some, if_neg hr], h2⟩
  have hn := H.hv.1
  have hs := ok64 hn H.hx.2.2.2.2
  have ho := out_lt n x.2.2.2.2 hn
  generalize hP : pw_fit n kd sg G x a = P at *
  have H1 : HR s1 n kd sg br fw ff G x := H.c (fun b hb => c1 b ((by decide : ∀ a, a ∈ [15, 16, 17, 18, 19, 65, 66, 67] → a ∉ [60, 61]) b hb)) (by rw [c1 63 (by decide)]) (fun i hi => by rw [c1 64 (by decide)])
  obtain ⟨v, hv⟩ : ∃ v : Nat → Nat, v = fun i => max (foI P i 64) (foC P 64 - foI P i 64) := ⟨_, rfl⟩
  have hv64 : ∀ i, v i ≤ 64 := fun i => by
    rw [hv]
    have h1 := foC_le P 64
    have h2 := foI_le P i 64
    show max _ _ ≤ 64
    omega
  obtain ⟨p, hpd⟩ : ∃ p : Nat → Bool, p = fun i => !x.2.2.2.2.testBit i := ⟨_, rfl⟩
  have hst : ∀ k, pw_ak p v (k + 1) = if p k then (match pw_ak p v k with | none => some (k, v k) | some q => if v k < q.2 then some (k, v k) else some q) else pw_ak p v k := fun k => rfl
  have hb := fun k q h => ak_b (p := p) hv64 k q h
  -- the class's loop
  have L5 : lz3 (fun f8 (x5 : Int32) (x6 : Int32) (x7 : Int32) => (if (s1.1 15 0) ≤ x7 then ( jn (fun (s11 : sw_St) =>  some ((x5 : Int32), s11)) (fun k12 => (if x5 = (-9) then ( k12 s1) else ( nm (sw_setC s1 0 14 x6) (fun (s15 : sw_St) => k12 s15))))) else ( bnd x7 6 ( nm (s1.1 61 (x7 : Int32).toNatClampNeg) (fun (x17 : Int32) => nm (if x17 < ((s1.1 60 0) - x17) then ((s1.1 60 0) - x17) else x17) (fun (x18 : Int32) => bo (j_X4_isIn F 15 x7 s1) (fun (r20 : Int32) => jn (fun (x21 : Int32) (x22 : Int32) =>  nm (x7 + 1) (fun (x25 : Int32) => f8 x21 x22 x25)) (fun k23 => (if r20 = 0 then ( jn ( k23 x7 x18) (fun k27 => (if x5 = (-9) then ( k27) else ( (if x6 ≤ x18 then ( k23 x5 x6) else ( k27)))))) else ( k23 x5 x6)))))))))) F (-9) 0 0 = some (akW (pw_ak p v n), match pw_ak p v n with | none => s1 | some q => sw_setC s1 0 14 (nI q.2)) := by
    refine lz3_ind (Φ := fun o => o = some (akW (pw_ak p v n), match pw_ak p v n with | none => s1 | some q => sw_setC s1 0 14 (nI q.2))) (fun _ _ i => 100 - i.toNatClampNeg) (fun u w c => ∃ k, k ≤ n ∧ c = nI k ∧ u = akW (pw_ak p v k) ∧ w = akB 0 (pw_ak p v k)) (fun g u w c hq ih => ?_) F _ _ _ ⟨0, by omega, rfl, rfl, rfl⟩ (by show 100 - 0 < F; omega)
    obtain ⟨k, hk, rfl, rfl, rfl⟩ := hq
    rw [H1.hc.1]
    rcases Nat.lt_or_ge k n with q | q
    · have h2 := foI_le P k 64
      have h3 := foC_le P 64
      rw [if_neg (show ¬ nI n ≤ nI k from nI_ge q (by omega)), bnd_nI (by omega) (by decide), nI_clamp (by omega), t1.1, t1.2.2.2.2.2.2 k (by omega), isIn5 H1.hr.2.2.2.2 hs (by omega)]
      simp only [nm, jn, bo_some]
      rw [pk_sub h2, show (if nI (foI P k 64) < nI (foC P 64 - foI P k 64) then nI (foC P 64 - foI P k 64) else nI (foI P k 64)) = nI (v k) by
        rw [hv]
        show _ = nI (max (foI P k 64) (foC P 64 - foI P k 64))
        by_cases z : foI P k 64 < foC P 64 - foI P k 64
        · rw [if_pos (nI_lt z (by omega)), Nat.max_eq_right (by omega)]
        · rw [if_neg (show ¬ nI _ < nI _ by rw [i_lt, nI_tI (by omega), nI_tI (by omega)]; omega), Nat.max_eq_left (by omega)], nI_1]
      have fin : ∀ u w, u = akW (pw_ak p v (k + 1)) → w = akB 0 (pw_ak p v (k + 1)) → g u w (nI (k + 1)) = some (akW (pw_ak p v n), match pw_ak p v n with | none => s1 | some q => sw_setC s1 0 14 (nI q.2)) := fun u w hu hw => ih _ _ _ ⟨k + 1, by omega, rfl, hu, hw⟩ (by rw [nI_clamp (by omega), nI_clamp (by omega)]; omega)
      have hs1 := hst k
      cases hin : x.2.2.2.2.testBit k
      · have hpk : p k = true := by rw [hpd]; show (!_) = true; rw [hin]; rfl
        rw [hpk, if_pos rfl] at hs1
        rw [if_neg (show ¬ false = true by decide), if_pos rfl]
        cases hq : pw_ak p v k with
        | none =>
          rw [hq] at hs1
          rw [if_pos (show akW none = -9 from rfl)]
          exact fin _ _ (by rw [hs1]; rfl) (by rw [hs1]; rfl)
        | some r =>
          rw [hq] at hs1
          have hrb := hb k r hq
          rw [if_neg (show ¬ akW (some r) = -9 by show ¬ nI r.1 = -9; rw [i_eq, nI_tI (by omega)]; show ¬ ((r.1 : Nat) : Int) = -9; omega)]
          have hs2 : pw_ak p v (k + 1) = if v k < r.2 then some (k, v k) else some r := hs1
          by_cases z : v k < r.2
          · rw [if_neg (show ¬ akB 0 (some r) ≤ nI (v k) from nI_ge z (by omega))]
            rw [if_pos z] at hs2
            exact fin _ _ (by rw [hs2]; rfl) (by rw [hs2]; rfl)
          · rw [if_pos (show akB 0 (some r) ≤ nI (v k) from nI_le (by omega) (by have := hv64 k; omega))]
            rw [if_neg z] at hs2
            exact fin _ _ (by rw [hs2]) (by rw [hs2])
      · have hpk : p k = false := by rw [hpd]; show (!_) = false; rw [hin]; rfl
        rw [hpk] at hs1
        rw [if_pos (show true = true from rfl), if_neg (show ¬ (1 : Int32) = 0 by decide)]
        exact fin _ _ (by rw [hs1]; rfl) (by rw [hs1]; rfl)
    · have e : k = n := by omega
      subst e
      rw [if_pos (show nI k ≤ nI k from nI_le (Nat.le_refl k) (by omega))]
      simp only [jn, nm]
      cases hq : pw_ak p v k with
      | none => rw [if_pos (show akW none = -9 from rfl)]
      | some r =>
        have hrb := hb k r hq
        rw [if_neg (show ¬ akW (some r) = -9 by show ¬ nI r.1 = -9; rw [i_eq, nI_tI (by omega)]; show ¬ ((r.1 : Nat) : Int) = -9; omega)]
        rfl
  -- the reference's loop
  have L6 : ∀ s2 : sw_St, HR s2 n kd sg br fw ff G x → (∀ S, S < 64 → s2.1 75 S = if P S then 1 else 0) → lz3 (fun f8 (x5 : Int32) (x6 : Int32) (x7 : Int32) => (if (s2.1 63 1) ≤ x7 then ( jn (fun (x11 : Int32) =>  nm (sw_setC s2 63 9 x11) (fun (s14 : sw_St) => some ((x5 : Int32), s14))) (fun k12 => (if x5 = (-9) then ( k12 (s2.1 63 9)) else ( k12 x6)))) else ( bo (j_X6_out F s2) (fun (r17 : Int32) => bo (j_X6_has F r17 x7 s2) (fun (r19 : Int32) => jn (fun (x20 : Int32) =>  jn (fun (x23 : Int32) =>  jn (fun (x26 : Int32) =>  nm (x7 + 1) (fun (x29 : Int32) => f8 x23 x26 x29)) (fun k27 => (if x6 ≤ x20 then ( k27 x6) else ( k27 x20)))) (fun k24 => (if x6 ≤ x20 then ( k24 x5) else ( k24 x7)))) (fun k21 => (if r19 = 0 then ( k21 99) else ( bo (j_X6_greater F x7 s2) (fun (r34 : Int32) => k21 r34))))))))) F (-9) 99 0 = some (akW (pw_ak p v n), match pw_ak p v n with | none => sw_setC s2 63 9 (s2.1 63 9) | some q => sw_setC s2 63 9 (nI q.2)) := by
    intro s2 H2 p2
    refine lz3_ind (Φ := fun o => o = some (akW (pw_ak p v n), match pw_ak p v n with | none => sw_setC s2 63 9 (s2.1 63 9) | some q => sw_setC s2 63 9 (nI q.2))) (fun _ _ i => 100 - i.toNatClampNeg) (fun u w c => ∃ k, k ≤ n ∧ c = nI k ∧ u = akW (pw_ak p v k) ∧ w = akB 99 (pw_ak p v k)) (fun g u w c hq ih => ?_) F _ _ _ ⟨0, by omega, rfl, rfl, rfl⟩ (by show 100 - 0 < F; omega)
    obtain ⟨k, hk, rfl, rfl, rfl⟩ := hq
    rw [H2.hm.1.1]
    rcases Nat.lt_or_ge k n with q | q
    · rw [if_neg (show ¬ nI n ≤ nI k from nI_ge q (by omega)), out6 hn hs H2.hm.1.1 H2.ht.2.2.2.2, bo_some, has6 ho (by omega), greater6 hF (show k < 6 by omega) p2, out_b, decide_eq_true q, Bool.true_and]
      simp only [nm, jn, bo_some]
      rw [show max (foI P k 64) (foC P 64 - foI P k 64) = v k by rw [hv], nI_1]
      have fin : ∀ u w, u = akW (pw_ak p v (k + 1)) → w = akB 99 (pw_ak p v (k + 1)) → g u w (nI (k + 1)) = some (akW (pw_ak p v n), match pw_ak p v n with | none => sw_setC s2 63 9 (s2.1 63 9) | some q => sw_setC s2 63 9 (nI q.2)) := fun u w hu hw => ih _ _ _ ⟨k + 1, by omega, rfl, hu, hw⟩ (by rw [nI_clamp (by omega), nI_clamp (by omega)]; omega)
      have hs1 := hst k
      have hvk := hv64 k
      cases hin : x.2.2.2.2.testBit k
      · have hpk : p k = true := by rw [hpd]; show (!_) = true; rw [hin]; rfl
        rw [hpk, if_pos rfl] at hs1
        rw [if_pos (show (!false) = true from rfl), if_neg (show ¬ (1 : Int32) = 0 by decide)]
        cases hq : pw_ak p v k with
        | none =>
          rw [hq] at hs1
          have hng : ¬ akB 99 none ≤ nI (v k) := nI_ge (b := 99) (by omega) (by decide)
          rw [if_neg hng, if_neg hng]
          exact fin _ _ (by rw [hs1]; rfl) (by rw [hs1]; rfl)
        | some r =>
          rw [hq] at hs1
          have hrb := hb k r hq
          have hs2 : pw_ak p v (k + 1) = if v k < r.2 then some (k, v k) else some r := hs1
          by_cases z : v k < r.2
          · have hng : ¬ akB 99 (some r) ≤ nI (v k) := nI_ge z (by omega)
            rw [if_neg hng, if_neg hng]
            rw [if_pos z] at hs2
            exact fin _ _ (by rw [hs2]; rfl) (by rw [hs2]; rfl)
          · have hng : akB 99 (some r) ≤ nI (v k) := nI_le (by omega) (by omega)
            rw [if_pos hng, if_pos hng]
            rw [if_neg z] at hs2
            exact fin _ _ (by rw [hs2]) (by rw [hs2])
      · have hpk : p k = false := by rw [hpd]; show (!_) = false; rw [hin]; rfl
        rw [hpk] at hs1
        have hng : akB 99 (pw_ak p v k) ≤ 99 := by
          cases hq : pw_ak p v k with
          | none => exact (by decide : (99 : Int32) ≤ 99)
          | some r => exact nI_le (b := 99) (by have := hb k r hq; omega) (by decide)
        rw [if_neg (show ¬ (!true) = true by decide), if_pos rfl, if_pos hng, if_pos hng]
        exact fin _ _ (by rw [hs1]; rfl) (by rw [hs1]; rfl)
    · have e : k = n := by omega
      subst e
      rw [if_pos (show nI k ≤ nI k from nI_le (Nat.le_refl k) (by omega))]
      simp only [jn, nm]
      cases hq : pw_ak p v k with
      | none => rw [if_pos (show akW none = -9 from rfl)]
      | some r =>
        have hrb := hb k r hq
        rw [if_neg (show ¬ akW (some r) = -9 by show ¬ nI r.1 = -9; rw [i_eq, nI_tI (by omega)]; show ¬ ((r.1 : Nat) : Int) = -9; omega)]
        rfl
  have go : ∀ v' : Int32, (match pw_ak p v n with | none => s1 | some q => sw_setC s1 0 14 (nI q.2)) = sw_setC s1 0 14 v' → (∀ s2 : sw_St, s2.1 63 9 = st.1 0 14 → (match pw_ak p v n with | none => sw_setC s2 63 9 (s2.1 63 9) | some q => sw_setC s2 63 9 (nI q.2)) = sw_setC s2 63 9 v') → ∃ (r : Int32) (st1 st2 : sw_St), some (akW (pw_ak p v n), match pw_ak p v n with | none => s1 | some q => sw_setC s1 0 14 (nI q.2)) = some (r, st1) ∧ (bd (j_X6_noFits F a1 st1) (fun (r2 : Int32) (s3 : sw_St) => (if r2 = 0 then ( lz3 (fun f8 (x5 : Int32) (x6 : Int32) (x7 : Int32) => (if (s3.1 63 1) ≤ x7 then ( jn (fun (x11 : Int32) =>  nm (sw_setC s3 63 9 x11) (fun (s14 : sw_St) => some ((x5 : Int32), s14))) (fun k12 => (if x5 = (-9) then ( k12 (s3.1 63 9)) else ( k12 x6)))) else ( bo (j_X6_out F s3) (fun (r17 : Int32) => bo (j_X6_has F r17 x7 s3) (fun (r19 : Int32) => jn (fun (x20 : Int32) =>  jn (fun (x23 : Int32) =>  jn (fun (x26 : Int32) =>  nm (x7 + 1) (fun (x29 : Int32) => f8 x23 x26 x29)) (fun k27 => (if x6 ≤ x20 then ( k27 x6) else ( k27 x20)))) (fun k24 => (if x6 ≤ x20 then ( k24 x5) else ( k24 x7)))) (fun k21 => (if r19 = 0 then ( k21 99) else ( bo (j_X6_greater F x7 s3) (fun (r34 : Int32) => k21 r34))))))))) F (-9) 99 0) else ( some ((r2 : Int32), s3))))) = some (r, st2) ∧ II st2 := by
    intro v' e1 e2
    obtain ⟨s2, j2, p2, f2⟩ := hp v'
    have H2' : HR (sw_setC s1 0 14 v') n kd sg br fw ff G x := HR_6061 H c1
    have H2 : HR s2 n kd sg br fw ff G x := H2'.c (fun b hb => f2.1 b ((by decide : ∀ a, a ∈ [15, 16, 17, 18, 19, 65, 66, 67] → a ≠ 64) b hb) ((by decide : ∀ a, a ∈ [15, 16, 17, 18, 19, 65, 66, 67] → a ≠ 75) b hb)) (by rw [f2.1 63 (by decide) (by decide)]) f2.2.1
    refine ⟨akW (pw_ak p v n), sw_setC s1 0 14 v', sw_setC s2 63 9 v', by rw [e1], ?_, II_beard hI c1 z1 f2⟩
    rw [j2, bd_some, if_pos rfl, L6 s2 H2 p2, e2 s2 (by rw [f2.1 63 (by decide) (by decide), gsC_ne _ _ _ (by decide), c1 63 (by decide)]; exact hI.2.2.1.1.symm)]
  rw [j1, bd_some, if_pos rfl, L5]
  cases hq : pw_ak p v n with
  | none =>
    rw [hq] at go
    refine go (st.1 0 14) ?_ (fun s2 h9 => ?_)
    · have : s1.1 0 14 = st.1 0 14 := by rw [c1 0 (by decide)]
      rw [← this, setC_self]
    · show sw_setC s2 63 9 (s2.1 63 9) = _
      rw [h9]
  | some r =>
    rw [hq] at go
    exact go (nI r.2) rfl (fun s2 _ => rfl)
