/-! the class's search for an order -/
def od_go (n : Nat) (kd sg : Nat → Nat) (G : Nat) (x : pw_D) (l : List Nat) : pw_D := l.foldl (fun y i => pw_cm n kd sg G i y) x
def od_w (n : Nat) (kd sg : Nat → Nat) (G : Nat) (x : pw_D) (l : List Nat) : Nat := (od_go n kd sg G x l).1
def od_up (w : List Nat → Nat) (z : Int32 × List Nat) (l : List Nat) : Int32 × List Nat := if nI (w l) ≤ z.1 then z else (nI (w l), l)
def od_fo (w : List Nat → Nat) (L : List (List Nat)) (z : Int32 × List Nat) : Int32 × List Nat := L.foldl (od_up w) z
def od_g (n m s i : Nat) : List (List Nat) := if s.testBit i then [] else (od_en n m (pw_set s i)).map (fun l => i :: l)
theorem en_s (n m s : Nat) : od_en n (m + 1) s = (List.range n).flatMap (od_g n m s) := rfl
theorem lp_s (n m s i : Nat) : (List.range (i + 1)).flatMap (od_g n m s) = (List.range i).flatMap (od_g n m s) ++ od_g n m s i := by
  rw [List.range_succ, List.flatMap_append]
  simp
theorem go_s (n : Nat) (kd sg : Nat → Nat) (G : Nat) (x : pw_D) (p : List Nat) (i : Nat) : od_go n kd sg G x (p ++ [i]) = pw_cm n kd sg G i (od_go n kd sg G x p) := by
  unfold od_go
  rw [List.foldl_append]
  rfl
theorem fo_app (w : List Nat → Nat) (A B : List (List Nat)) (z : Int32 × List Nat) : od_fo w (A ++ B) z = od_fo w B (od_fo w A z) := List.foldl_append
theorem getD_nl {p : List Nat} {i t : Nat} (h : t < p.length) : (p ++ [i]).getD t 0 = p.getD t 0 := by
  rw [List.getD_eq_getElem?_getD, List.getD_eq_getElem?_getD, List.getElem?_append_left h]
theorem getD_ne {p : List Nat} {i t : Nat} (h : t = p.length) : (p ++ [i]).getD t 0 = i := by
  rw [List.getD_eq_getElem?_getD, h]
  simp
def od_C (D : Nat) (z : Int32 × List Nat) (s : sw_St) : Prop := s.1 57 3 = z.1 ∧ (z.1 ≠ -1 → ∀ t, t < D → s.1 59 t = nI (z.2.getD t 0))
theorem lineUp5 {F n D : Nat} {kd sg br : Nat → Nat} {fw ff G : Nat} {x : pw_D} {st : sw_St} (hF : 20000 ≤ F) (H : HR st n kd sg br fw ff G x) (hD : D ≤ 6) : ∀ (m fu : Nat) (p : List Nat) (z : Int32 × List Nat) (s : sw_St), p.length + m = D → m < fu → okx n (od_go n kd sg G x p) → od_C D z s → (∀ t, t < p.length → s.1 58 t = nI (p.getD t 0)) → ch [57, 58, 59] st s → s.1 57 2 = nI D → s.2 = st.2 →
    ∃ s', j_X2_lineUp F fu (nI p.length) (nI (od_go n kd sg G x p).1) (nI (od_go n kd sg G x p).2.2.2.2) s = some ((), s') ∧ od_C D (od_fo (od_w n kd sg G x) ((od_en n m (od_go n kd sg G x p).2.2.2.2).map (fun l => p ++ l)) z) s' ∧ (∀ t, t < p.length → s'.1 58 t = s.1 58 t) ∧ ch [57, 58, 59] st s' ∧ s'.1 57 2 = nI D ∧ s'.2 = st.2 := by
  have hn := H.hv.1
  intro m
  induction m with
  | zero =>
    intro fu p z s hp hfu hx hC h58 hch h3 hl
    obtain ⟨fu, rfl⟩ : ∃ f, fu = f + 1 := ⟨fu - 1, by omega⟩
    rw [j_X2_lineUp]
    simp only [jn]
    have hpD : p.length = D := by omega
    have e1 : (od_en n 0 (od_go n kd sg G x p).2.2.2.2).map (fun l => p ++ l) = [p] := by
      show [p ++ []] = [p]
      rw [List.append_nil]
    have e2 : od_fo (od_w n kd sg G x) [p] z = if nI (od_go n kd sg G x p).1 ≤ z.1 then z else (nI (od_go n kd sg G x p).1, p) := rfl
    rw [h3, if_pos (show nI D ≤ nI p.length from nI_le (by omega) (by omega)), e1, e2, hC.1]
    by_cases q : nI (od_go n kd sg G x p).1 ≤ z.1
    · rw [if_pos q, if_pos q]
      exact ⟨s, rfl, hC, fun _ _ => rfl, hch, h3, hl⟩
    · rw [if_neg q, if_neg q, nm_eq]
      obtain ⟨s7, hs7⟩ : ∃ s7, s7 = sw_setC s 57 3 (nI (od_go n kd sg G x p).1) := ⟨_, rfl⟩
      rw [← hs7]
      have h37 : s7.1 57 2 = nI D := by rw [hs7, gsC, if_neg (by decide), h3]
      have h47 : s7.1 57 3 = nI (od_go n kd sg G x p).1 := by rw [hs7, gsC, if_pos ⟨rfl, rfl⟩]
      rw [h37, nI_clamp (show D < 2 ^ 31 by omega), grd_y ⟨by decide, by decide, nI_pos (by omega), by show 0 + D ≤ 6; omega, by show 0 + D ≤ 6; omega⟩, nm_eq]
      refine ⟨_, rfl, ⟨?_, fun _ t ht => ?_⟩, fun t ht => ?_, ?_, ?_, ?_⟩
      · rw [gsA_ne _ _ (by decide), h47]
      · rw [gsA, if_pos rfl, cpy_at, if_pos ht, hs7, gsC_ne _ _ _ (by decide)]
        exact h58 t (by omega)
      · rw [gsA_ne _ _ (by decide), hs7, gsC_ne _ _ _ (by decide)]
      · refine ch.A ?_ _ (by decide)
        rw [hs7]
        exact hch.C _ _ (by decide)
      · rw [gsA_ne _ _ (by decide), h37]
      · rw [gsA2, hs7]; exact hl
  | succ m ih =>
    intro fu p z s hp hfu hx hC h58 hch h3 hl
    obtain ⟨fu, rfl⟩ : ∃ f, fu = f + 1 := ⟨fu - 1, by omega⟩
    rw [j_X2_lineUp]
    simp only [jn]
    obtain ⟨y, hy⟩ : ∃ y, y = od_go n kd sg G x p := ⟨_, rfl⟩
    rw [← hy] at hx ⊢
    have hs64 := ok64 hn hx.2.2.2.2
    rw [h3, if_neg (show ¬ nI D ≤ nI p.length from nI_ge (by omega) (by omega)), if_pos (show nI p.length < 6 from nI_lt (b := 6) (by omega) (by decide)), en_s]
    refine lz2_ind (Φ := fun o => ∃ s', o = some ((), s') ∧ od_C D (od_fo (od_w n kd sg G x) (((List.range n).flatMap (od_g n m y.2.2.2.2)).map (fun l => p ++ l)) z) s' ∧ (∀ t, t < p.length → s'.1 58 t = s.1 58 t) ∧ ch [57, 58, 59] st s' ∧ s'.1 57 2 = nI D ∧ s'.2 = st.2) (fun i _ => 100 - i.toNatClampNeg) (fun c s' => ∃ i, i ≤ n ∧ c = nI i ∧ od_C D (od_fo (od_w n kd sg G x) (((List.range i).flatMap (od_g n m y.2.2.2.2)).map (fun l => p ++ l)) z) s' ∧ (∀ t, t < p.length → s'.1 58 t = s.1 58 t) ∧ ch [57, 58, 59] st s' ∧ s'.1 57 2 = nI D ∧ s'.2 = st.2) (fun g c s' hq ih2 => ?_) F 0 s ⟨0, by omega, rfl, hC, fun _ _ => rfl, hch, h3, hl⟩ (by show 100 - 0 < F; omega)
    obtain ⟨i, hi, rfl, q1, q2, q3, q4, q5⟩ := hq
    have hcc : ∀ s' : sw_St, ch [57, 58, 59] st s' → cS s' 15 n kd sg br G := fun s' hc => cS_c (fun j hj => hc _ (by
      rcases (show j = 0 ∨ j = 1 ∨ j = 2 ∨ j = 3 ∨ j = 4 by omega) with rfl | rfl | rfl | rfl | rfl <;> decide)) H.hc
    rw [(hcc _ q3).1]
    rcases Nat.lt_or_ge i n with w | w
    · rw [if_neg (show ¬ nI n ≤ nI i from nI_ge w (by omega)), b_get hs64 (by omega), bnd_nI (by omega) (by decide), nI_clamp (show p.length < 2 ^ 31 by omega), nm_eq, nm_eq, nI_1, nI_1]
      have hlp : od_fo (od_w n kd sg G x) (((List.range (i + 1)).flatMap (od_g n m y.2.2.2.2)).map (fun l => p ++ l)) z = od_fo (od_w n kd sg G x) ((od_g n m y.2.2.2.2 i).map (fun l => p ++ l)) (od_fo (od_w n kd sg G x) (((List.range i).flatMap (od_g n m y.2.2.2.2)).map (fun l => p ++ l)) z) := by
        rw [lp_s, List.map_append, fo_app]
      cases hb : y.2.2.2.2.testBit i
      · have c3 : ch [57, 58, 59] st (sw_setC s' 58 p.length (nI i)) := q3.C _ _ (by decide)
        have hgi : (od_g n m y.2.2.2.2 i).map (fun l => p ++ l) = (od_en n m (pw_set y.2.2.2.2 i)).map (fun l => (p ++ [i]) ++ l) := by
          unfold od_g
          rw [hb, if_neg (by decide), List.map_map]
          congr 1
          funext l
          simp
        have hgo : od_go n kd sg G x (p ++ [i]) = pw_cm n kd sg G i y := by rw [go_s, hy]
        have hpl : (p ++ [i]).length = p.length + 1 := by simp
        obtain ⟨s2, j2, k1, k2, k3, k4, k5⟩ := ih fu (p ++ [i]) (od_fo (od_w n kd sg G x) (((List.range i).flatMap (od_g n m y.2.2.2.2)).map (fun l => p ++ l)) z) (sw_setC s' 58 p.length (nI i)) (by omega) (by omega) (by rw [hgo]; exact cm_ok H.hv w hx) ⟨by rw [gsC_ne _ _ _ (by decide)]; exact q1.1, fun h t ht => by rw [gsC_ne _ _ _ (by decide)]; exact q1.2 h t ht⟩ (fun t ht => by
            rw [gsC]
            by_cases e : t = p.length
            · rw [if_pos ⟨rfl, e⟩, getD_ne e]
            · rw [if_neg (fun z => e z.2), getD_nl (by omega), q2 t (by omega)]
              exact h58 t (by omega)) c3 (by rw [gsC_ne _ _ _ (by decide)]; exact q4) q5
        rw [hgo, hpl] at j2
        rw [hgo] at k1
        rw [if_pos (show nI (if false = true then 1 else 0) = 0 from rfl), woundBy5 hF H.hv (hcc _ c3) w hx.1 hs64, bo_some, b_one (by omega), b_or hs64 (by omega)]
        rw [show j_X2_lineUp F fu (nI (p.length + 1)) (nI (pw_com n kd sg G i y.1 y.2.2.2.2)) (nI (pw_set y.2.2.2.2 i)) (sw_setC s' 58 p.length (nI i)) = some ((), s2) from j2, bd_some]
        refine ih2 _ _ ⟨i + 1, w, rfl, ?_, fun t ht => ?_, k3, k4, k5⟩ (by rw [nI_clamp (by omega), nI_clamp (by omega)]; omega)
        · rw [hlp, hgi]
          exact k1
        · rw [k2 t (by omega), gsC, if_neg (by omega), q2 t ht]
      · have hgi : (od_g n m y.2.2.2.2 i).map (fun l => p ++ l) = [] := by
          unfold od_g
          rw [hb, if_pos rfl]
          rfl
        rw [if_neg (show ¬ nI (if true = true then 1 else 0) = 0 by decide)]
        refine ih2 _ _ ⟨i + 1, w, rfl, ?_, q2, q3, q4, q5⟩ (by rw [nI_clamp (by omega), nI_clamp (by omega)]; omega)
        rw [hlp, hgi]
        exact q1
    · have e : i = n := by omega
      subst e
      rw [if_pos (show nI i ≤ nI i from nI_le (Nat.le_refl i) (by omega))]
      exact ⟨s', rfl, q1, q2, q3, q4, q5⟩
theorem searchO5 {F n : Nat} {kd sg br : Nat → Nat} {fw ff G : Nat} {x : pw_D} {st : sw_St} (hF : 20000 ≤ F) (H : HR st n kd sg br fw ff G x) : ∃ s, j_X2_search F st = some ((), s) ∧ od_C (pw_pop (pw_out n x.2.2.2.2)) (od_fo (od_w n kd sg G x) (od_en n (pw_pop (pw_out n x.2.2.2.2)) x.2.2.2.2) (-1, [])) s ∧ s.1 57 2 = nI (pw_pop (pw_out n x.2.2.2.2)) ∧ ch [57, 58, 59] st s ∧ s.2 = st.2 := by
  have hn := H.hv.1
  have hs := ok64 hn H.hx.2.2.2.2
  unfold j_X2_search
  rw [notIn5 hn hs H.hc.1 H.hr.2.2.2.2, bo_some, bitC (out_lt n _ hn), bo_some, nm_eq, nm_eq]
  obtain ⟨s6, hs6⟩ : ∃ s6, s6 = sw_setC (sw_setC st 57 2 (nI (pw_pop (pw_out n x.2.2.2.2)))) 57 3 (-1) := ⟨_, rfl⟩
  rw [← hs6]
  have c6 : ch [57, 58, 59] st s6 := by rw [hs6]; exact ((ch.rf _ st).C _ _ (by decide)).C _ _ (by decide)
  obtain ⟨s', j', k1, -, k3, k4, k5⟩ := lineUp5 (F := F) hF H (pop_le (pw_out n x.2.2.2.2)) (pw_pop (pw_out n x.2.2.2.2)) 8 [] (-1, []) s6 (by simp) (by have := pop_le (pw_out n x.2.2.2.2); omega) H.hx ⟨by rw [hs6, gsC, if_pos ⟨rfl, rfl⟩], fun h => absurd rfl h⟩ (fun t ht => absurd ht (Nat.not_lt_zero t)) c6 (by rw [hs6, gsC, if_neg (by decide), gsC, if_pos ⟨rfl, rfl⟩]) (by rw [hs6]; rfl)
  rw [show s6.1 15 7 = nI x.1 by rw [c6 15 (by decide)]; exact H.hr.1, show s6.1 15 11 = nI x.2.2.2.2 by rw [c6 15 (by decide)]; exact H.hr.2.2.2.2]
  rw [show j_X2_lineUp F 8 0 (nI x.1) (nI x.2.2.2.2) s6 = some ((), s') from j', bd_some]
  refine ⟨s', rfl, ?_, k4, k3, k5⟩
  have e : (od_en n (pw_pop (pw_out n x.2.2.2.2)) x.2.2.2.2).map (fun l => [] ++ l) = od_en n (pw_pop (pw_out n x.2.2.2.2)) x.2.2.2.2 := List.map_id _
  rw [← e]
  exact k1
