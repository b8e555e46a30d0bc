/-! the reference's search for an order; order -/
theorem od_len0 : ∀ n : Fin 4, ∀ s : Fin 8, (od_en n.val (pw_pop (pw_out n.val s.val)) s.val).length ≤ 720 := by decide +kernel
theorem od_len4 : ∀ s : Fin 16, (od_en 4 (pw_pop (pw_out 4 s.val)) s.val).length ≤ 720 := by decide +kernel
theorem od_len5 : ∀ s : Fin 32, (od_en 5 (pw_pop (pw_out 5 s.val)) s.val).length ≤ 720 := by decide +kernel
theorem od_len6 : ∀ s : Fin 64, (od_en 6 (pw_pop (pw_out 6 s.val)) s.val).length ≤ 720 := by decide +kernel
theorem od_len {n s : Nat} (hn : n ≤ 6) (hs : s < 2 ^ n) : (od_en n (pw_pop (pw_out n s)) s).length ≤ 720 := by
  rcases (show n = 6 ∨ n = 5 ∨ n = 4 ∨ n < 4 by omega) with rfl | rfl | rfl | h
  · exact od_len6 ⟨s, hs⟩
  · exact od_len5 ⟨s, hs⟩
  · exact od_len4 ⟨s, hs⟩
  · have h8 : s < 8 := Nat.lt_of_lt_of_le hs (by rcases (show n = 0 ∨ n = 1 ∨ n = 2 ∨ n = 3 by omega) with rfl | rfl | rfl | rfl <;> decide)
    exact od_len0 ⟨n, h⟩ ⟨s, h8⟩
theorem lz3_wf {A1 A2 A3 β : Type} {body : (A1 → A2 → A3 → Option β) → A1 → A2 → A3 → Option β} {Φ : Option β → Prop} (P : Nat → A1 → A2 → A3 → Prop) (h : ∀ (k : Nat) (f : A1 → A2 → A3 → Option β) (x1 : A1) (x2 : A2) (x3 : A3), P k x1 x2 x3 → (∀ (j : Nat) (y1 : A1) (y2 : A2) (y3 : A3), j < k → P j y1 y2 y3 → Φ (f y1 y2 y3)) → Φ (body f x1 x2 x3)) : ∀ (F k : Nat) (x1 : A1) (x2 : A2) (x3 : A3), P k x1 x2 x3 → k < F → Φ (lz3 body F x1 x2 x3)
  | 0, k, x1, x2, x3, _, q => absurd q (Nat.not_lt_zero _)
  | n + 1, k, x1, x2, x3, hp, q => h k (lz3 body n) x1 x2 x3 hp (fun j y1 y2 y3 hj hy => lz3_wf P h n j y1 y2 y3 hy (by omega))
theorem en_mem {n : Nat} (m : Nat) : ∀ (s : Nat) (l : List Nat), l ∈ od_en n m s → l.length = m ∧ ∀ t, t ∈ l → t < n := by
  induction m with
  | zero =>
    intro s l h
    have h : l ∈ [[]] := h
    rw [List.mem_singleton.mp h]
    exact ⟨rfl, fun t ht => absurd ht (by simp)⟩
  | succ m ih =>
    intro s l h
    rw [en_s] at h
    obtain ⟨i, hi, hl⟩ := List.mem_flatMap.mp h
    unfold od_g at hl
    by_cases q : s.testBit i = true
    · rw [if_pos q] at hl; exact absurd hl (by simp)
    · rw [if_neg q] at hl
      obtain ⟨l', hl', rfl⟩ := List.mem_map.mp hl
      obtain ⟨h1, h2⟩ := ih _ l' hl'
      refine ⟨by rw [List.length_cons, h1], fun t ht => ?_⟩
      rcases List.mem_cons.mp ht with rfl | ht
      · exact List.mem_range.mp hi
      · exact h2 t ht
theorem chk_at {l : List Nat} {B : List (List Nat)} : ∀ A : List (List Nat), od_chk (A ++ l :: B) = true → (B = [] → od_nl l = none) ∧ ∀ l' B', B = l' :: B' → od_nl l = some l' := by
  intro A
  induction A with
  | nil =>
    intro h
    cases B with
    | nil =>
      have h : (od_nl l == none) = true := h
      exact ⟨fun _ => eq_of_beq h, fun l' B' e => absurd e (by simp)⟩
    | cons b B =>
      have h : (od_nl l == some b && od_chk (b :: B)) = true := h
      rw [Bool.and_eq_true] at h
      refine ⟨fun e => absurd e (by simp), fun l' B' e => ?_⟩
      injection e with e1 e2
      rw [← e1]
      exact eq_of_beq h.1
  | cons a A ih =>
    intro h
    cases A with
    | nil =>
      have h : (od_nl a == some l && od_chk (l :: B)) = true := h
      rw [Bool.and_eq_true] at h
      exact ih h.2
    | cons c A =>
      have h : (od_nl a == some c && od_chk (c :: (A ++ l :: B))) = true := h
      rw [Bool.and_eq_true] at h
      exact ih h.2
theorem ini_s (n s i : Nat) : od_ini n s (i + 1) = od_ini n s i ++ (if s.testBit i then [] else [i]) := by
  unfold od_ini
  rw [List.range_succ, List.filter_append]
  cases h : s.testBit i <;> simp [h]
theorem ini_len (n s i : Nat) : (od_ini n s i).length ≤ i := by
  unfold od_ini
  exact Nat.le_trans (List.length_filter_le _ _) (by rw [List.length_range]; exact Nat.le_refl i)
theorem ini_mem {n s i t : Nat} (h : t ∈ od_ini n s i) : t < i := by
  unfold od_ini at h
  exact List.mem_range.mp (List.mem_filter.mp h).1
theorem getD_mem {l : List Nat} {t : Nat} (h : t < l.length) : l.getD t 0 ∈ l := by
  rw [List.getD_eq_getElem?_getD, List.getElem?_eq_getElem h]
  exact List.getElem_mem h
theorem go_take {n : Nat} {kd sg : Nat → Nat} {G : Nat} {x : pw_D} {l : List Nat} {k : Nat} (h : k < l.length) : od_go n kd sg G x (l.take (k + 1)) = pw_cm n kd sg G (l.getD k 0) (od_go n kd sg G x (l.take k)) := by
  rw [List.take_succ, List.getElem?_eq_getElem h]
  show od_go n kd sg G x (l.take k ++ [l[k]]) = _
  rw [go_s, List.getD_eq_getElem?_getD, List.getElem?_eq_getElem h]
  rfl
theorem go_ok {n : Nat} {kd sg br : Nat → Nat} {fw ff G : Nat} {x : pw_D} (hv : pw_stat n kd sg br fw ff) (hx : okx n x) (l : List Nat) (hl : ∀ t, t ∈ l → t < n) : okx n (od_go n kd sg G x l) := by
  unfold od_go
  induction l generalizing x with
  | nil => exact hx
  | cons a l ih => exact ih (cm_ok hv (hl a List.mem_cons_self) hx) (fun t ht => hl t (List.mem_cons_of_mem _ ht))
def trO (st s : sw_St) : Prop := (∀ a, a ≠ 64 → a ≠ 68 → a ≠ 69 → a ≠ 74 → s.1 a = st.1 a) ∧ (∀ i, i < 828 → s.1 64 i = st.1 64 i) ∧ s.2 = st.2
def rwO (st : sw_St) (r D : Nat) (z : Int32 × List Nat) (s : sw_St) : Prop := z.1 ≠ -1 ∧ (∀ q, s.1 68 q = if q = r then nI D else st.1 68 q) ∧ (∀ i, i < D → s.1 69 (40 * r + i) = nI (z.2.getD i 0)) ∧ ∀ q i, q ≠ r → i < 40 → s.1 69 (40 * q + i) = st.1 69 (40 * q + i)
theorem order6 {F n r : Nat} {kd sg br : Nat → Nat} {fw ff G : Nat} {x : pw_D} {st : sw_St} (hF : 20000 ≤ F) (H : HR st n kd sg br fw ff G x) (hr : r < 6) (hn0 : n ≠ 0) : ∃ s', j_X6_order F (nI r) st = some ((od_fo (od_w n kd sg G x) (od_en n (pw_pop (pw_out n x.2.2.2.2)) x.2.2.2.2) (-1, [])).1, s') ∧ rwO st r (pw_pop (pw_out n x.2.2.2.2)) (od_fo (od_w n kd sg G x) (od_en n (pw_pop (pw_out n x.2.2.2.2)) x.2.2.2.2) (-1, [])) s' ∧ trO st s' := by
  have hn := H.hv.1
  have hs := ok64 hn H.hx.2.2.2.2
  have hok := od_ok hn H.hx.2.2.2.2
  have hlen := od_len hn H.hx.2.2.2.2
  have hD6 := pop_le (pw_out n x.2.2.2.2)
  have hmem := en_mem (n := n) (pw_pop (pw_out n x.2.2.2.2)) x.2.2.2.2
  unfold od_one at hok
  rw [Bool.and_eq_true, Bool.and_eq_true] at hok
  obtain ⟨⟨ok1, ok2⟩, ok3⟩ := hok
  have ok1 := eq_of_beq ok1
  have ok2 := eq_of_beq ok2
  generalize hDd : pw_pop (pw_out n x.2.2.2.2) = D at *
  generalize hEd : od_en n D x.2.2.2.2 = E at *
  obtain ⟨w, hw⟩ : ∃ w, w = od_w n kd sg G x := ⟨_, rfl⟩
  rw [← hw]
  obtain ⟨zE, hzE⟩ : ∃ z, z = od_fo w E (-1, []) := ⟨_, rfl⟩
  rw [← hzE]
  unfold j_X6_order
  rw [isRow6_y hr, bo_some, if_neg (by decide), H.hm.1.1, if_neg (fun z => hn0 ((n0_iff hn).mp z))]
  refine lz3_ind (Φ := fun o => ∃ s', o = some (zE.1, s') ∧ rwO st r D zE s' ∧ trO st s') (fun _ i _ => 100 - i.toNatClampNeg) (fun a c s => ∃ i, i ≤ n ∧ c = nI i ∧ a = nI (od_ini n x.2.2.2.2 i).length ∧ OR s (od_ini n x.2.2.2.2 i).length (fun t => (od_ini n x.2.2.2.2 i).getD t 0) ∧ a74 st s) (fun g a c s hp ih => ?_) F 0 0 st ⟨0, Nat.zero_le _, rfl, rfl, fun t ht => absurd ht (Nat.not_lt_zero t), a74.rf st⟩ (by show 100 - 0 < F; omega)
  obtain ⟨i, hi, rfl, rfl, ho, ha⟩ := hp
  rw [ha.1 63 (by decide), H.hm.1.1]
  have hil := ini_len n x.2.2.2.2 i
  rcases Nat.lt_or_ge i n with q | q
  · rw [if_neg (show ¬ nI n ≤ nI i from nI_ge q (by omega)), out6 hn hs (by rw [ha.1 63 (by decide)]; exact H.hm.1.1) (by rw [ha.1 64 (by decide)]; exact H.ht.2.2.2.2), bo_some, has6 (out_lt n _ hn) (by omega), bo_some, jn_eq, out_b, decide_eq_true q, Bool.true_and, nm_eq, nI_1]
    have hini := ini_s n x.2.2.2.2 i
    cases hb : x.2.2.2.2.testBit i
    · rw [hb, if_neg (by decide)] at hini
      have hl1 : (od_ini n x.2.2.2.2 (i + 1)).length = (od_ini n x.2.2.2.2 i).length + 1 := by rw [hini]; simp
      rw [show (if (!false) = true then (1 : Int32) else 0) = 1 from rfl, if_neg (by decide), bnd_nI (by omega) (by decide), nI_clamp (by omega), nm_eq, nI_1]
      refine ih _ _ _ ⟨i + 1, q, rfl, by rw [hl1], fun t ht => ?_, ha.C _ _⟩ (by rw [nI_clamp (by omega), nI_clamp (by omega)]; omega)
      rw [hl1] at ht
      rw [hini]
      dsimp only
      rw [gsC]
      by_cases e : t = (od_ini n x.2.2.2.2 i).length
      · rw [if_pos ⟨rfl, e⟩, getD_ne e]
        exact ⟨rfl, by omega⟩
      · rw [if_neg (fun z => e z.2), getD_nl (by omega)]
        exact ho t (by omega)
    · rw [hb, if_pos rfl, List.append_nil] at hini
      rw [show (if (!true) = true then (1 : Int32) else 0) = 0 from rfl, if_pos rfl]
      refine ih _ _ _ ⟨i + 1, q, rfl, by rw [hini], ?_, ha⟩ (by rw [nI_clamp (by omega), nI_clamp (by omega)]; omega)
      rw [hini]
      exact ho
  have e : i = n := by omega
  subst e
  rw [if_pos (show nI i ≤ nI i from nI_le (Nat.le_refl i) (by omega))]
  rw [ok2] at ho ⊢
  obtain ⟨l0, B0, hE0⟩ : ∃ l0 B0, E = l0 :: B0 := by
    cases E with
    | nil => exact absurd ok1 (by simp)
    | cons a b => exact ⟨a, b, rfl⟩
  have hl0 : l0 = od_ini i x.2.2.2.2 i := by
    rw [hE0] at ok1
    injection ok1
  refine lz3_wf (Φ := fun o => ∃ s', o = some (zE.1, s') ∧ rwO st r D zE s' ∧ trO st s') (fun k a b s' => trO st s' ∧ ((b = 0 ∧ a = zE.1 ∧ rwO st r D zE s') ∨ (b = 1 ∧ ∃ A l B, k = B.length + 1 ∧ E = A ++ l :: B ∧ OR s' D (fun t => l.getD t 0) ∧ a = (od_fo w A (-1, [])).1 ∧ ((A = [] ∧ s'.1 68 = st.1 68 ∧ s'.1 69 = st.1 69) ∨ rwO st r D (od_fo w A (-1, [])) s')))) (fun k f a b s' hp ih2 => ?_) F (B0.length + 1) (-1) 1 s ⟨⟨fun a _ _ _ h74 => ha.1 a h74, fun j _ => by rw [ha.1 64 (by decide)], ha.2⟩, Or.inr ⟨rfl, [], l0, B0, rfl, hE0, by rw [hl0]; exact ho, rfl, Or.inl ⟨rfl, ha.1 68 (by decide), ha.1 69 (by decide)⟩⟩⟩ (by rw [hE0, List.length_cons] at hlen; omega)
  obtain ⟨htr, hp⟩ := hp
  rcases hp with ⟨rfl, rfl, hrw⟩ | ⟨rfl, A, l, B, rfl, hE, hor, rfl, hrow⟩
  · rw [if_pos rfl]
    exact ⟨s', rfl, hrw, htr⟩
  rw [if_neg (by decide)]
  have hlE : l ∈ E := by rw [hE]; exact List.mem_append_right _ List.mem_cons_self
  obtain ⟨ml, mn⟩ := hmem l hlE
  have TRs : ∀ s2 : sw_St, trO st s2 → TR s2 0 x ∧ mS s2 i kd sg br G := fun s2 h2 => by
    refine ⟨?_, ?_⟩
    · unfold TR
      rw [h2.2.1 _ (by decide), h2.2.1 _ (by decide), h2.2.1 _ (by decide), h2.2.1 _ (by decide), h2.2.1 _ (by decide)]
      exact H.ht
    · unfold mS pw_st
      rw [h2.1 63 (by decide) (by decide) (by decide) (by decide), h2.1 65 (by decide) (by decide) (by decide) (by decide), h2.1 66 (by decide) (by decide) (by decide) (by decide), h2.1 67 (by decide) (by decide) (by decide) (by decide), h2.2.1 6 (by decide)]
      exact H.hm
  obtain ⟨s18, j18, t18, tri18⟩ := lay6 (F := F) hF (TRs s' htr).1
  rw [j18, bd_some]
  have trt : ∀ s2 : sw_St, tri s' s2 → trO st s2 := fun s2 h2 => ⟨fun a h64 h68 h69 h74 => (h2.1 a h64).trans (htr.1 a h64 h68 h69 h74), fun j hj => (h2.2.1 j hj).trans (htr.2.1 j hj), h2.2.2.trans htr.2.2⟩
  -- behind a look: the next order
  have cont : ∀ (a : Int32) (s2 : sw_St), trO st s2 → OR s2 D (fun t => l.getD t 0) → a = (od_fo w (A ++ [l]) (-1, [])).1 → rwO st r D (od_fo w (A ++ [l]) (-1, [])) s2 → ∃ s3, bd (j_X6_nextOrder F (nI D) s2) (fun (r30 : Int32) (s31 : sw_St) => f a r30 s31) = some (zE.1, s3) ∧ rwO st r D zE s3 ∧ trO st s3 := by
    intro a s2 h2 ho2 ha2 hrw2
    obtain ⟨s3, j3, o3, f3⟩ := next6 (F := F) hF hD6 ho2
    rw [j3, bd_some]
    obtain ⟨c1, c2⟩ := chk_at (l := l) (B := B) A (by rw [← hE]; exact ok3)
    have tr3 : trO st s3 := ⟨fun b h64 h68 h69 h74 => (f3.1 b h74).trans (h2.1 b h64 h68 h69 h74), fun j hj => by rw [f3.1 64 (by decide)]; exact h2.2.1 j hj, f3.2.trans h2.2.2⟩
    have rw3 : rwO st r D (od_fo w (A ++ [l]) (-1, [])) s3 := by
      unfold rwO
      rw [f3.1 68 (by decide), f3.1 69 (by decide)]
      exact hrw2
    have hnl : od_nl l = (od_nx D (fun t => l.getD t 0)).map (fun f => (List.range D).map f) := by
      unfold od_nl
      rw [ml]
    cases B with
    | nil =>
      have hz : od_nx D (fun t => l.getD t 0) = none := by
        have := c1 rfl
        rw [hnl] at this
        cases hx : od_nx D (fun t => l.getD t 0) with
        | none => rfl
        | some g => rw [hx] at this; exact absurd this (by simp)
      rw [hz]
      have hzz : od_fo w (A ++ [l]) (-1, []) = zE := by rw [hzE, hE]
      exact ih2 0 a _ s3 (by simp) ⟨tr3, Or.inl ⟨rfl, by rw [ha2, hzz], by rw [← hzz]; exact rw3⟩⟩
    | cons l' B =>
      have := c2 l' B rfl
      rw [hnl] at this
      cases hx : od_nx D (fun t => l.getD t 0) with
      | none => rw [hx] at this; exact absurd this (by simp)
      | some g =>
        rw [hx] at this
        injection this with this
        refine ih2 (B.length + 1) a _ s3 (by simp) ⟨tr3, Or.inr ⟨rfl, A ++ [l], l', B, rfl, by rw [hE]; simp, fun t ht => ?_, ha2, Or.inr rw3⟩⟩
        have hg := o3 g hx t ht
        have e : l'.getD t 0 = g t := by
          rw [← this, List.getD_eq_getElem?_getD, List.getElem?_map, List.getElem?_range ht]
          rfl
        show s3.1 74 t = nI (l'.getD t 0) ∧ l'.getD t 0 < 100
        rw [e]
        exact hg
  have hfo : od_fo w (A ++ [l]) (-1, []) = if nI (w l) ≤ (od_fo w A (-1, [])).1 then od_fo w A (-1, []) else (nI (w l), l) := by
    rw [fo_app]
    rfl
  have hwl : w l ≤ 99 := by
    rw [hw]
    exact (go_ok H.hv H.hx l mn).1
  refine lz2_ind (Φ := fun o => ∃ s', o = some (zE.1, s') ∧ rwO st r D zE s' ∧ trO st s') (fun k _ => 100 - k.toNatClampNeg) (fun c s2 => ∃ k, k ≤ D ∧ c = nI k ∧ TR s2 828 (od_go i kd sg G x (l.take k)) ∧ tri s' s2) (fun g c s20 hp3 ih3 => ?_) F 0 s18 ⟨0, Nat.zero_le _, rfl, t18, tri18⟩ (by show 100 - 0 < F; omega)
  obtain ⟨k, hk, rfl, tk, trk⟩ := hp3
  have hor2 : OR s20 D (fun t => l.getD t 0) := fun t ht => by rw [trk.1 74 (by decide)]; exact hor t ht
  rcases Nat.lt_or_ge k D with y | y
  · obtain ⟨s3, j3, t3, a3⟩ := comesIn6 (F := F) (b := 828) (i := l.getD k 0) hF H.hv (TRs s20 (trt s20 trk)).2 H.hG (Or.inr rfl) (mn _ (getD_mem (by omega))) (go_ok H.hv H.hx (l.take k) (fun t ht => mn t (List.mem_of_mem_take ht))) tk
    rw [if_neg (show ¬ nI D ≤ nI k from nI_ge y (by omega)), bnd_nI (by omega) (by decide), nI_clamp (show k < 2 ^ 31 by omega), (hor2 k y).1, show (828 : Int32) = nI 828 from rfl, j3, bd_some, nm_eq, nI_1]
    exact ih3 _ _ ⟨k + 1, y, rfl, by rw [go_take (by omega)]; exact t3, trk.tr a3.tri⟩ (by rw [nI_clamp (by omega), nI_clamp (by omega)]; omega)
  have ekD : k = D := by omega
  subst ekD
  have e829 : s20.1 64 829 = nI (w l) := by
    have := tk.1
    rw [List.take_of_length_le (by omega)] at this
    rw [hw]
    exact this
  rw [if_pos (show nI k ≤ nI k from nI_le (Nat.le_refl k) (by omega)), jn_eq, e829]
  by_cases v : nI (w l) ≤ (od_fo w A (-1, [])).1
  · rw [if_pos v] at hfo ⊢
    rcases hrow with ⟨rfl, -, -⟩ | hrow
    · exfalso
      have v : nI (w l) ≤ -1 := v
      rw [i_le, nI_tI (by omega)] at v
      have : (-1 : Int32).toInt = -1 := rfl
      omega
    · refine cont _ s20 (trt s20 trk) hor2 (by rw [hfo]) ?_
      rw [hfo]
      unfold rwO
      rw [trk.1 68 (by decide), trk.1 69 (by decide)]
      exact hrow
  · rw [if_neg v] at hfo ⊢
    rw [nm_eq, makeRow6 hF hr, bd_some]
    have k36 : ∀ b, b ≠ 68 → b ≠ 69 → (flS (sw_setC s20 68 r (nI k)) 69 (40 * r) 40 0).1 b = s20.1 b := fun b h1 h2 => by
      funext j
      rw [flS_at, if_neg (fun z => h2 z.1), gsC_ne _ _ _ h1]
    rw [wr_loop (K := fun s => bd (j_X6_nextOrder F (nI k) s) (fun (r30 : Int32) (s31 : sw_St) => f (nI (w l)) r30 s31)) 69 (40 * r) k (fun t => nI (l.getD t 0)) (flS (sw_setC s20 68 r (nI k)) 69 (40 * r) 40 0) (by omega) (fun f2 j s2 hj h2 => ?_) (fun f2 s2 => ?_) F (by omega)]
    · have tr2 : ∀ b, b ≠ 68 → b ≠ 69 → (fi6 s20 r k (fun t => nI (l.getD t 0))).1 b = s20.1 b := fun b h1 h2 => fi6_o h1 h2
      refine cont (nI (w l)) (fi6 s20 r k (fun t => nI (l.getD t 0))) ⟨fun b h64 h68 h69 h74 => ?_, fun j hj => ?_, ?_⟩ (fun t ht => ?_) (by rw [hfo]) ?_
      · rw [tr2 b h68 h69]; exact (trt s20 trk).1 b h64 h68 h69 h74
      · rw [tr2 64 (by decide) (by decide)]; exact (trt s20 trk).2.1 j hj
      · exact (trt s20 trk).2.2
      · rw [tr2 74 (by decide) (by decide)]; exact hor2 t ht
      · rw [hfo]
        refine ⟨?_, fun q => ?_, fun j hj => fi6_r hj, fun q j hq hj => ?_⟩
        · show nI (w l) ≠ -1
          intro v2
          rw [i_eq, nI_tI (by omega)] at v2
          have : (-1 : Int32).toInt = -1 := rfl
          omega
        · rw [fi6_68]
          by_cases e : q = r
          · rw [if_pos e, if_pos e]
          · rw [if_neg e, if_neg e, trk.1 68 (by decide)]
            rcases hrow with ⟨-, h68, -⟩ | hrow
            · rw [h68]
            · rw [hrow.2.1 q, if_neg e]
        · rw [fi6_69 (by omega) hq hj, trk.1 69 (by decide)]
          rcases hrow with ⟨-, -, h69⟩ | hrow
          · rw [h69]
          · exact hrow.2.2.2 q j hq hj
    · rw [if_neg (show ¬ nI k ≤ nI j from nI_ge hj (by omega)), bnd_nI (by omega) (by decide), l40, bnd_nI (by omega) (by decide), nI_clamp (show j < 2 ^ 31 by omega), nI_clamp (show 40 * r + j < 2 ^ 31 by omega), nm_eq, nm_eq, nI_1, h2 74 (by decide), k36 74 (by decide) (by decide), (hor2 j hj).1]
    · rw [if_pos (show nI k ≤ nI k from nI_le (Nat.le_refl k) (by omega))]
theorem o_23 {F : Nat} (hF : 20000 ≤ F) : sm_23 II F := by
  intro a1 st hI
  obtain ⟨n, kd, sg, br, fw, ff, G, x, H⟩ := II_HR hI
  have hn := H.hv.1
  rcases nix a1 6 with h | ⟨r, hr, rfl⟩
  · exact ⟨-1, st, st, by unfold j_X5_order; rw [isRow5_n h]; rfl, by unfold j_X6_order; rw [isRow6_n h]; rfl, hI⟩
  by_cases h0 : n = 0
  · exact ⟨-4, st, st, by unfold j_X5_order; rw [isRow5_y hr, bo_some, if_neg (by decide), H.hc.1, if_pos ((n0_iff hn).mpr h0)], by unfold j_X6_order; rw [isRow6_y hr, bo_some, if_neg (by decide), H.hm.1.1, if_pos ((n0_iff hn).mpr h0)], hI⟩
  have n0 : ¬ nI n = 0 := fun z => h0 ((n0_iff hn).mp z)
  obtain ⟨s1, j1, ⟨c4, c59⟩, c3, c1, z1⟩ := searchO5 (F := F) hF H
  have hD6 := pop_le (pw_out n x.2.2.2.2)
  generalize hDd : pw_pop (pw_out n x.2.2.2.2) = D at *
  obtain ⟨s2, hs2⟩ : ∃ s, s = fi5 s1 59 r D := ⟨_, rfl⟩
  have e2 : ∀ b, b ≠ 8 → b ≠ 2 + r → s2.1 b = s1.1 b := fun b h1 h2 => by rw [hs2, fi5_o h1 h2]
  have z2 : s2.2 = st.2 := by rw [hs2]; exact z1
  have H2 : HR s2 n kd sg br fw ff G x := H.c (fun b hb => by
    have := (by decide : ∀ a, a ∈ [15, 16, 17, 18, 19, 65, 66, 67] → 8 < a ∧ a ∉ [57, 58, 59]) b hb
    rw [e2 b (by omega) (by omega), c1 b this.2]) (by rw [e2 63 (by omega) (by omega), c1 63 (by decide)]) (fun i hi => by rw [e2 64 (by omega) (by omega), c1 64 (by decide)])
  obtain ⟨s3, j3, ⟨d1, d2, d3, d4⟩, t1, t2, t3⟩ := order6 (F := F) hF H2 hr h0
  rw [hDd] at j3 d1 d2 d3
  refine ⟨(od_fo (od_w n kd sg G x) (od_en n D x.2.2.2.2) (-1, [])).1, s2, s3, ?_, j3, ?_⟩
  · unfold j_X5_order
    rw [isRow5_y hr, bo_some, if_neg (by decide), H.hc.1, if_neg n0, j1, bd_some, c3, fillRow5 (m := 6) hr rfl hD6 (by decide), bd_some, ← hs2, e2 57 (by decide) (by omega), c4]
  · refine II_scrR hI (IR_fill (st := st) (r := r) (L := D) (v := fun i => nI ((od_fo (od_w n kd sg G x) (od_en n D x.2.2.2.2) (-1, [])).2.getD i 0)) hI.1 hr (by omega) (fun q => ?_) (fun q => ?_) (fun i hi => ?_) (fun i hi => d3 i hi) (fun q hq hqr => ?_) (fun q i hq hi => ?_)) (fun b hb => ?_) ?_ ?_ ?_ ?_ (fun i hi => ?_) ?_ ?_
    · rw [t1 8 (by decide) (by decide) (by decide) (by decide), hs2, fi5_8 hr, c1 8 (by decide)]
    · rw [d2, e2 68 (by decide) (by omega), c1 68 (by decide)]
    · rw [t1 (2 + r) (by omega) (by omega) (by omega) (by omega), hs2, fi5_r (by decide) hi]
      exact c59 d1 i hi
    · rw [t1 (2 + q) (by omega) (by omega) (by omega) (by omega), e2 (2 + q) (by omega) (by omega), c1 (2 + q) (by simp only [List.mem_cons, not_or, List.mem_nil_iff, or_false]; omega)]
    · rw [d4 q i hq hi, e2 69 (by decide) (by omega), c1 69 (by decide)]
    · have ha2 : b ≠ 0 ∧ b ≠ 63 ∧ b ≠ 64 ∧ b ≠ 68 ∧ b ≠ 69 ∧ b ≠ 8 ∧ b ≠ 2 + r ∧ b ≠ 74 ∧ b ∉ [57, 58, 59] := by
        simp only [sR, List.mem_cons, not_or, List.mem_nil_iff, or_false] at hb ⊢
        omega
      obtain ⟨q1, q2, q3, q4, q5, q6, q7, q8, q9⟩ := ha2
      rw [t1 b q3 q4 q5 q8, e2 b q6 q7, c1 b q9]
    · rw [t1 0 (by decide) (by decide) (by decide) (by decide), e2 0 (by decide) (by omega), c1 0 (by decide)]
    · rw [t1 0 (by decide) (by decide) (by decide) (by decide), t1 63 (by decide) (by decide) (by decide) (by decide), e2 0 (by decide) (by omega), c1 0 (by decide), e2 63 (by decide) (by omega), c1 63 (by decide)]
      exact hI.2.2.1.1
    · rw [t1 63 (by decide) (by decide) (by decide) (by decide), e2 63 (by decide) (by omega), c1 63 (by decide)]
    · rw [t1 63 (by decide) (by decide) (by decide) (by decide), e2 63 (by decide) (by omega), c1 63 (by decide)]
    · rw [t2 i hi, e2 64 (by decide) (by omega), c1 64 (by decide)]
    · rw [t3, z2]
      exact hI.2.2.1.2.2.2.1
    · rw [t3, z2]
      exact hI.2.2.1.2.2.2.2
