theorem lCA_c {n L : Nat} {P V : Nat → Bool} {b g m : Nat → Nat} {k : Nat} {s s' : sw_St} (h54 : s'.1 54 = s.1 54) (h56 : s'.1 56 = s.1 56) (h : lCA n L P V b g m k s) : lCA n L P V b g m k s' := by
  unfold lCA
  rw [h54, h56]
  exact h
theorem letIn5 {F n L a : Nat} {kd sg br : Nat → Nat} {fw ff G : Nat} {x : pw_D} {st : sw_St} (hF : 20000 ≤ F) (H : HR st n kd sg br fw ff G x) (hL : L ≤ 5) (ha : a < 12) : ∀ (r fu h q : Nat) (y : pw_Y) (s : sw_St), h + r = L → r < fu → pw_lw n kd sg br G x h q = some y → lCA n L (lfP n kd sg br G x L a) (lfV n kd sg br G x L) (fun c => (lfY n kd sg br G x L c).2.1) (fun c => (lfY n kd sg br G x L c).2.2.2) (fun c => (lfY n kd sg br G x L c).2.2.1) (q * (n + 1) ^ r) s → (∀ t, t < h → s.1 55 t = pw_wh n h q t) → ch [54, 55, 56] st s → s.1 54 0 = nI L → s.1 54 1 = nI a → s.2 = st.2 →
    ∃ s', j_X1_letIn F fu (nI h) (nI y.1.1) (nI y.1.2.2.2.2) (nI y.2.1) (nI y.2.2.2) s = some ((), s') ∧ lCA n L (lfP n kd sg br G x L a) (lfV n kd sg br G x L) (fun c => (lfY n kd sg br G x L c).2.1) (fun c => (lfY n kd sg br G x L c).2.2.2) (fun c => (lfY n kd sg br G x L c).2.2.1) ((q + 1) * (n + 1) ^ r) s' ∧ (∀ t, t < h → s'.1 55 t = s.1 55 t) ∧ ch [54, 55, 56] st s' ∧ s'.1 54 0 = nI L ∧ s'.1 54 1 = nI a ∧ s'.2 = st.2 := by
  have hn := H.hv.1
  obtain ⟨P, hPd⟩ : ∃ P, P = lfP n kd sg br G x L a := ⟨_, rfl⟩
  obtain ⟨V, hVd⟩ : ∃ V, V = lfV n kd sg br G x L := ⟨_, rfl⟩
  obtain ⟨Y, hYd⟩ : ∃ Y, Y = lfY n kd sg br G x L := ⟨_, rfl⟩
  rw [← hPd, ← hVd, ← hYd]
  intro r
  induction r with
  | zero =>
    intro fu h q y s hh hfu hy hca h55 hch h1 h2 hl
    obtain ⟨fu, rfl⟩ : ∃ f, fu = f + 1 := ⟨fu - 1, by omega⟩
    have hhL : h = L := by omega
    subst hhL
    obtain ⟨i1, i2, i3, i4, i5, i6, i7, i8⟩ := lw_ok H.hv H.hx H.hx3 hL q y hy
    have hYq : Y q = y := by rw [hYd]; unfold lfY; rw [hy]; rfl
    have hVq : V q = true := by rw [hVd]; unfold lfV; rw [hy]; rfl
    have hPq : P q = ((x.2.1 + (Y q).2.2.2) % 12 == a) := by rw [hPd]; unfold lfP; rw [← hVd, ← hYd, hVq, hYq, Bool.true_and, i4]
    rw [Nat.pow_zero, Nat.mul_one] at hca ⊢
    have hw := weigh5 (F := F) (n := n) (L := h) (a := a) (c := q) (S := y.1.2.2.2.2) (x := x) (P := P) (V := V) (b := fun c => (Y c).2.1) (g := fun c => (Y c).2.2.2) (m := fun c => (Y c).2.2.1) (s := s) hn H.hx hL (by rw [hch 15 (by decide)]; exact H.hr.2.1) (by rw [hch 15 (by decide)]; exact H.hr.2.2.2.2) h1 h2 ha (ok64 hn i1.2.2.2.2) (by rw [i2, hYq]) hVq hPq (by show (Y q).2.2.2 ≤ 5; rw [hYq]; omega) (by show (Y q).2.1 ≤ 45; rw [hYq]; omega) h55 hca
    obtain ⟨s', j', r1, r2, r3, r4⟩ := hw
    rw [hYq] at j'
    refine ⟨s', ?_, r1, fun t ht => by rw [r2 55 (by decide)], hch.tr (r2.mono (by decide)), by rw [r3 0 (by decide), h1], by rw [r3 1 (by decide), h2], r4.trans hl⟩
    rw [j_X1_letIn]
    simp only [jn]
    rw [h1, if_pos (show nI h ≤ nI h from nI_le (Nat.le_refl h) (by omega)), j']
    rfl
  | succ r ih =>
    intro fu h q y s hh hfu hy hca h55 hch h1 h2 hl
    obtain ⟨fu, rfl⟩ : ∃ f, fu = f + 1 := ⟨fu - 1, by omega⟩
    obtain ⟨i1, i2, i3, i4, i5, i6, i7, i8⟩ := lw_ok H.hv H.hx H.hx3 (show h ≤ 5 by omega) q y hy
    have hs := ok64 hn i1.2.2.2.2
    have hcc : ∀ s' : sw_St, ch [54, 55, 56] st s' → cS s' 15 n kd sg br G ∧ CR s' 15 x := fun s' hc => ⟨cS_c (fun j hj => hc _ (by
      rcases (show j = 0 ∨ j = 1 ∨ j = 2 ∨ j = 3 ∨ j = 4 by omega) with rfl | rfl | rfl | rfl | rfl <;> decide)) H.hc, CR_c (hc 15 (by decide)) H.hr⟩
    have ep : ∀ z, z * (n + 1) ^ (r + 1) = (z * (n + 1)) * (n + 1) ^ r := fun z => by rw [Nat.pow_succ, Nat.mul_comm ((n + 1) ^ r), Nat.mul_assoc]
    -- one child
    have child : ∀ (d : Nat) (y' : pw_Y) (s1 : sw_St), d < n + 1 → pw_stp n kd sg br G d y = some y' → lCA n L P V (fun c => (Y c).2.1) (fun c => (Y c).2.2.2) (fun c => (Y c).2.2.1) ((q * (n + 1) + d) * (n + 1) ^ r) s1 → (∀ t, t < h → s1.1 55 t = s.1 55 t) → ch [54, 55, 56] st s1 → s1.1 54 0 = nI L → s1.1 54 1 = nI a → s1.2 = st.2 → ∀ v : Int32, v = (if d = 0 then -9 else nI (d - 1)) → ∃ s', j_X1_letIn F fu (nI h + 1) (nI y'.1.1) (nI y'.1.2.2.2.2) (nI y'.2.1) (nI y'.2.2.2) (sw_setC s1 55 h v) = some ((), s') ∧ lCA n L P V (fun c => (Y c).2.1) (fun c => (Y c).2.2.2) (fun c => (Y c).2.2.1) ((q * (n + 1) + (d + 1)) * (n + 1) ^ r) s' ∧ (∀ t, t < h → s'.1 55 t = s.1 55 t) ∧ ch [54, 55, 56] st s' ∧ s'.1 54 0 = nI L ∧ s'.1 54 1 = nI a ∧ s'.2 = st.2 := by
      intro d y' s1 hd hst hca1 h551 hch1 h11 h21 hl1 v hv
      have hlw := lw_c (x := x) hd hy
      rw [hst] at hlw
      obtain ⟨s', j', r1, r2, r3, r4, r5, r6⟩ := ih fu (h + 1) (q * (n + 1) + d) y' (sw_setC s1 55 h v) (by omega) (by omega) hlw (lCA_c (gsC_ne _ _ _ (by decide)) (gsC_ne _ _ _ (by decide)) hca1) (fun t ht => by
        rw [gsC]
        by_cases e : t = h
        · subst e
          rw [if_pos ⟨rfl, rfl⟩, wh_l hd, hv]
        · rw [if_neg (by omega), wh_c hd (by omega), h551 t (by omega), h55 t (by omega)]) (hch1.C _ _ (by decide)) (by rw [gsC_ne _ _ _ (by decide)]; exact h11) (by rw [gsC_ne _ _ _ (by decide)]; exact h21) hl1
      rw [nI_1]
      exact ⟨s', j', r1, fun t ht => by rw [r2 t (by omega), gsC, if_neg (by omega), h551 t ht], r3, r4, r5, r6⟩
    rw [j_X1_letIn]
    simp only [jn]
    rw [h1, if_neg (show ¬ nI L ≤ nI h from nI_ge (by omega) (by omega)), if_pos (show nI h < 5 from nI_lt (b := 5) (by omega) (by decide)), bnd_nI (by omega) (by decide), nI_clamp (by omega), nm_eq]
    have hc9 : ch [54, 55, 56] st (sw_setC s 55 h (-9)) := hch.C _ _ (by decide)
    obtain ⟨cs9, cr9⟩ := hcc _ hc9
    rw [woundNext5 cr9.2.2.2.1 i1.1 H.hx.2.2.2.1, bo_some]
    obtain ⟨y0, hy0⟩ : ∃ y0 : pw_Y, y0 = (pw_ps y.1, y.2.1, y.2.2.1, y.2.2.2 + (if y.1.1 = 0 then 0 else 1)) := ⟨_, rfl⟩
    have hst0 : pw_stp n kd sg br G 0 y = some y0 := by rw [hy0]; rfl
    obtain ⟨s16, j16, r1, r2, r3, r4, r5, r6⟩ := child 0 y0 s (by omega) hst0 (by rw [Nat.add_zero, ← ep]; exact hca) (fun _ _ => rfl) hch h1 h2 hl (-9) rfl
    have e0 : ∀ z : Int32, z = nI (if y.1.1 = 0 then 0 else 1) → j_X1_letIn F fu (nI h + 1) (nI (pw_nxt x.2.2.2.1 y.1.1)) (nI y.1.2.2.2.2) (nI y.2.1) (nI y.2.2.2 + z) (sw_setC s 55 h (-9)) = some ((), s16) := fun z hz => by
      rw [hz, nI_add, ← j16, hy0]
      show j_X1_letIn F fu (nI h + 1) (nI (pw_nxt x.2.2.2.1 y.1.1)) _ _ _ _ = j_X1_letIn F fu (nI h + 1) (nI (pw_nxt y.1.2.2.2.1 y.1.1)) _ _ _ _
      rw [i3]
      rfl
    have rest : ∃ s', lz2 (fun f19 (x17 : Int32) (s18 : sw_St) => (if (s18.1 15 0) ≤ x17 then (some ((), s18)) else (if ((nI y.1.2.2.2.2 >>> (x17 &&& 31)) &&& 1) = 0 then (bnd (nI h) 5 (nm (sw_setC s18 55 h x17) (fun (s28 : sw_St) => bo (j_X4_woundBy F 15 x17 (nI y.1.1) (nI y.1.2.2.2.2) s28) (fun (r30 : Int32) => (if r30 ≤ 0 then (nm (nI y.2.2.2 + 0) (fun (x34 : Int32) => bo (j_X4_woundNext F 15 r30 s28) (fun (r36 : Int32) => bnd x17 6 (bd (j_X1_letIn F fu (nI h + 1) r36 (nI y.1.2.2.2.2 ||| (1 <<< (x17 &&& 31))) (nI y.2.1 + (s28.1 19 (x17 : Int32).toNatClampNeg)) x34 s28) (fun (_ : Unit) (s39 : sw_St) => nm (x17 + 1) (fun (x25 : Int32) => f19 x25 s39)))))) else (nm (nI y.2.2.2 + 1) (fun (x34 : Int32) => bo (j_X4_woundNext F 15 r30 s28) (fun (r36 : Int32) => bnd x17 6 (bd (j_X1_letIn F fu (nI h + 1) r36 (nI y.1.2.2.2.2 ||| (1 <<< (x17 &&& 31))) (nI y.2.1 + (s28.1 19 (x17 : Int32).toNatClampNeg)) x34 s28) (fun (_ : Unit) (s39 : sw_St) => nm (x17 + 1) (fun (x25 : Int32) => f19 x25 s39))))))))))) else (nm (x17 + 1) (fun (x25 : Int32) => f19 x25 s18))))) F 0 s16 = some ((), s') ∧ lCA n L P V (fun c => (Y c).2.1) (fun c => (Y c).2.2.2) (fun c => (Y c).2.2.1) ((q + 1) * (n + 1) ^ (r + 1)) s' ∧ (∀ t, t < h → s'.1 55 t = s.1 55 t) ∧ ch [54, 55, 56] st s' ∧ s'.1 54 0 = nI L ∧ s'.1 54 1 = nI a ∧ s'.2 = st.2 := by
      refine lz2_ind (Φ := fun o => ∃ s' : sw_St, o = some ((), s') ∧ lCA n L P V (fun c => (Y c).2.1) (fun c => (Y c).2.2.2) (fun c => (Y c).2.2.1) ((q + 1) * (n + 1) ^ (r + 1)) s' ∧ (∀ t, t < h → s'.1 55 t = s.1 55 t) ∧ ch [54, 55, 56] st s' ∧ s'.1 54 0 = nI L ∧ s'.1 54 1 = nI a ∧ s'.2 = st.2) (fun i _ => 100 - i.toNatClampNeg) (fun c s' => ∃ i, i ≤ n ∧ c = nI i ∧ lCA n L P V (fun c => (Y c).2.1) (fun c => (Y c).2.2.2) (fun c => (Y c).2.2.1) ((q * (n + 1) + (i + 1)) * (n + 1) ^ r) s' ∧ (∀ t, t < h → s'.1 55 t = s.1 55 t) ∧ ch [54, 55, 56] st s' ∧ s'.1 54 0 = nI L ∧ s'.1 54 1 = nI a ∧ s'.2 = st.2) (fun g c s' hq ih2 => ?_) F 0 s16 ⟨0, by omega, rfl, r1, r2, r3, r4, r5, r6⟩ (by show 100 - 0 < F; omega)
      obtain ⟨i, hi, rfl, q1, q2, q3, q4, q5, q6⟩ := hq
      obtain ⟨cs', cr'⟩ := hcc _ q3
      rw [cs'.1]
      rcases Nat.lt_or_ge i n with w | w
      · rw [if_neg (show ¬ nI n ≤ nI i from nI_ge w (by omega)), b_get hs (by omega), bnd_nI (by omega) (by decide), nm_eq, nm_eq]
        cases hb : y.1.2.2.2.2.testBit i
        · rw [if_pos (by decide)]
          have hc28 : ch [54, 55, 56] st (sw_setC s' 55 h (nI i)) := q3.C _ _ (by decide)
          obtain ⟨cs28, cr28⟩ := hcc _ hc28
          obtain ⟨y1, hy1⟩ : ∃ y1 : pw_Y, y1 = (pw_ps (pw_cm n kd sg G i y.1), y.2.1 + br i, y.2.2.1 + 1, y.2.2.2 + (if (pw_cm n kd sg G i y.1).1 = 0 then 0 else 1)) := ⟨_, rfl⟩
          have hst1 : pw_stp n kd sg br G (i + 1) y = some y1 := by
            unfold pw_stp
            rw [if_neg (by omega), show i + 1 - 1 = i by omega, hb, hy1]
            rfl
          obtain ⟨s3, j3, k1, k2, k3, k4, k5, k6⟩ := child (i + 1) y1 s' (by omega) hst1 q1 q2 q3 q4 q5 q6 (nI i) (by rw [if_neg (by omega), show i + 1 - 1 = i by omega])
          have hcm := cm_ok (G := G) H.hv w i1
          have e1 : ∀ z : Int32, z = nI (if (pw_cm n kd sg G i y.1).1 = 0 then 0 else 1) → (bd (j_X1_letIn F fu (nI h + 1) (nI (pw_nxt x.2.2.2.1 (pw_cm n kd sg G i y.1).1)) (nI (pw_set y.1.2.2.2.2 i)) (nI (y.2.1 + br i)) (nI y.2.2.2 + z) (sw_setC s' 55 h (nI i))) (fun (_ : Unit) (s39 : sw_St) => nm (nI i + 1) (fun (x25 : Int32) => g x25 s39))) = g (nI (i + 1)) s3 := fun z hz => by
            have : j_X1_letIn F fu (nI h + 1) (nI (pw_nxt x.2.2.2.1 (pw_cm n kd sg G i y.1).1)) (nI (pw_set y.1.2.2.2.2 i)) (nI (y.2.1 + br i)) (nI y.2.2.2 + z) (sw_setC s' 55 h (nI i)) = some ((), s3) := by
              rw [hz, nI_add, ← j3, hy1, ← i3]
              rfl
            rw [this, bd_some, nm_eq, nI_1]
          rw [woundBy5 hF H.hv cs28 w i1.1 hs, bo_some, nm_eq, nm_eq]
          rw [show pw_com n kd sg G i y.1.1 y.1.2.2.2.2 = (pw_cm n kd sg G i y.1).1 from rfl, woundNext5 cr28.2.2.2.1 hcm.1 H.hx.2.2.2.1, bo_some, bo_some, bnd_nI (by omega) (by decide), bnd_nI (by omega) (by decide), b_one (by omega), b_or hs (by omega), nI_clamp (show i < 2 ^ 31 by omega), show (sw_setC s' 55 h (nI i)).1 19 i = nI (br i) from (cs28.2 i w).2.2.2, nI_add]
          have fin := ih2 (nI (i + 1)) s3 ⟨i + 1, w, rfl, k1, k2, k3, k4, k5, k6⟩ (by rw [nI_clamp (by omega), nI_clamp (by omega)]; omega)
          by_cases z : (pw_cm n kd sg G i y.1).1 = 0
          · rw [if_pos ((pos_iff (by have := hcm.1; omega)).mpr z), e1 0 (by rw [if_pos z]; rfl)]
            exact fin
          · rw [if_neg (fun u => z ((pos_iff (by have := hcm.1; omega)).mp u)), e1 1 (by rw [if_neg z]; rfl)]
            exact fin
        · rw [if_neg (by decide), nI_1]
          refine ih2 _ _ ⟨i + 1, w, rfl, ?_, q2, q3, q4, q5, q6⟩ (by rw [nI_clamp (by omega), nI_clamp (by omega)]; omega)
          have hnone : pw_lw n kd sg br G x (h + 1) (q * (n + 1) + (i + 1)) = none := by
            rw [lw_c (by omega) hy]
            unfold pw_stp
            rw [if_neg (by omega), show i + 1 - 1 = i by omega, hb]
            rfl
          have hpos : 0 < (n + 1) ^ r := Nat.pow_pos (by omega)
          have hz : ∀ c, (q * (n + 1) + (i + 1)) * (n + 1) ^ r ≤ c → c < (q * (n + 1) + (i + 1 + 1)) * (n + 1) ^ r → V c = false ∧ P c = false := fun c h1 h2 => by
            have hd : c / (n + 1) ^ r = q * (n + 1) + (i + 1) := by
              refine Nat.div_eq_of_lt_le h1 ?_
              rw [show q * (n + 1) + (i + 1) + 1 = q * (n + 1) + (i + 1 + 1) by omega]
              exact h2
            have := lw_none hnone r c hd
            rw [show h + 1 + r = L by omega] at this
            have hVc : V c = false := by rw [hVd]; unfold lfV; rw [this]; rfl
            exact ⟨hVc, by rw [hPd]; unfold lfP; rw [← hVd, hVc]; rfl⟩
          exact skipCA (Nat.mul_le_mul_right _ (by omega)) (fun c h1 h2 => (hz c h1 h2).2) (fun c h1 h2 => (hz c h1 h2).1) q1
      · have e : i = n := by omega
        subst e
        rw [if_pos (show nI i ≤ nI i from nI_le (Nat.le_refl i) (by omega))]
        refine ⟨s', rfl, ?_, q2, q3, q4, q5, q6⟩
        rw [ep, Nat.add_mul, Nat.one_mul]
        exact q1
    by_cases z : y.1.1 = 0
    · rw [if_pos ((pos_iff (by have := i1.1; omega)).mpr z), e0 0 (by rw [if_pos z]; rfl), bd_some]
      exact rest
    · rw [if_neg (fun u => z ((pos_iff (by have := i1.1; omega)).mp u)), e0 1 (by rw [if_neg z]; rfl), bd_some]
      exact rest
