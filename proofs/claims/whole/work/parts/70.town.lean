theorem dst0 (n : Nat) (kd sg : Nat → Nat) (G i : Nat) (x : pw_D) : pw_dst n kd sg G (0, i) x = pw_cm n kd sg G i x := rfl
theorem dst1 (n : Nat) (kd sg : Nat → Nat) (G i : Nat) (x : pw_D) : pw_dst n kd sg G (1, i) x = (x.1, x.2.1, x.2.2.1, x.2.2.2.1, pw_clr x.2.2.2.2 i) := rfl
theorem dst2 (n : Nat) (kd sg : Nat → Nat) (G i : Nat) (x : pw_D) : pw_dst n kd sg G (2, i) x = pw_ps x := rfl
theorem dst3 (n : Nat) (kd sg : Nat → Nat) (G i : Nat) (x : pw_D) : pw_dst n kd sg G (3, i) x = (x.1, x.2.1, x.2.2.1, i, x.2.2.2.2) := rfl
/-- the class's numbers of the Town at cell t -/
def CR (st : sw_St) (t : Nat) (x : pw_D) : Prop := st.1 t 7 = nI x.1 ∧ st.1 t 9 = nI x.2.1 ∧ st.1 t 10 = nI x.2.2.1 ∧ st.1 t 8 = nI x.2.2.2.1 ∧ st.1 t 11 = nI x.2.2.2.2
/-- only those numbers may have changed -/
def at5 (t : Nat) (st st1 : sw_St) : Prop := (∀ a, a ≠ t → st1.1 a = st.1 a) ∧ (∀ i, (i < 7 ∨ 11 < i) → st1.1 t i = st.1 t i) ∧ st1.2 = st.2
theorem at5.rf (t : Nat) (st : sw_St) : at5 t st st := ⟨fun _ _ => rfl, fun _ _ => rfl, rfl⟩
theorem at5.tr {t : Nat} {st st1 st2 : sw_St} (h : at5 t st st1) (h2 : at5 t st1 st2) : at5 t st st2 := ⟨fun a ha => (h2.1 a ha).trans (h.1 a ha), fun i hi => (h2.2.1 i hi).trans (h.2.1 i hi), h2.2.2.trans h.2.2⟩
theorem at5.C {t : Nat} {st st1 : sw_St} (h : at5 t st st1) {i : Nat} (v : Int32) (h1 : 7 ≤ i) (h2 : i ≤ 11) : at5 t st (sw_setC st1 t i v) := ⟨fun a ha => (gsC_ne _ _ _ ha).trans (h.1 a ha), fun j hj => by rw [gsC, if_neg (by omega)]; exact h.2.1 j hj, h.2.2⟩
theorem cS_at {st st1 : sw_St} {t n G : Nat} {kd sg bd : Nat → Nat} (h : at5 t st st1) (hc : cS st t n kd sg bd G) : cS st1 t n kd sg bd G := by
  unfold cS
  rw [h.2.1 0 (by omega), h.1 (t + 1) (by omega), h.1 (t + 2) (by omega), h.1 (t + 3) (by omega), h.1 (t + 4) (by omega)]
  exact hc
theorem woundNext5 {F t w f : Nat} {st : sw_St} (hf : st.1 t 8 = nI f) (hw : w ≤ 99) (hf3 : f ≤ 3) : j_X4_woundNext F t (nI w) st = some (nI (pw_nxt f w)) := by
  unfold j_X4_woundNext pw_nxt
  rw [hf]
  have e : nI w - 1 - nI f = nI w - nI (1 + f) := by
    rw [← nI_add]
    show nI w - nI 1 - nI f = _
    apply Int32.toBitVec_inj.mp
    show (nI w).toBitVec - (nI 1).toBitVec - (nI f).toBitVec = (nI w).toBitVec - ((nI 1).toBitVec + (nI f).toBitVec)
    exact BitVec.sub_sub _ _ _
  rw [e, max0 (by omega) (by omega)]
theorem clockAfter5 {F t c k : Nat} {st : sw_St} (hc : st.1 t 9 = nI c) (hc12 : c < 12) (hk : k ≤ 1000) : j_X4_clockAfter F t (nI k) st = some (nI ((c + k) % 12)) := by
  unfold j_X4_clockAfter
  rw [hc, nI_add]
  exact congrArg some (pk_rem (by omega) (by decide) (by decide))
theorem pos_iff {w : Nat} (h : w < 2 ^ 31) : (nI w ≤ 0) ↔ w = 0 := by
  rw [show (0 : Int32) = nI 0 from rfl, nI_leI h (by decide)]
  omega
theorem carry5 {F t n G : Nat} {kd sg bd : Nat → Nat} {fw ff : Nat} {x : pw_D} {d : Nat × Nat} {st : sw_St} (hF : 20000 ≤ F) (hv : pw_stat n kd sg bd fw ff) (hc : cS st t n kd sg bd G) (hd : pw_okd n d) (hx : okx n x) (hr : CR st t x) : ∃ st1, j_X4_carryOut F t (nI d.1) (nI d.2) st = some ((), st1) ∧ CR st1 t (pw_dst n kd sg G d x) ∧ at5 t st st1 := by
  have hn := hv.1
  obtain ⟨w, c, h, f, s⟩ := x
  obtain ⟨hx1, hx2, hx3, hx4, hx5⟩ := hx
  obtain ⟨t1, t2, t3, t4, t5⟩ := hr
  obtain ⟨d1, d2⟩ := d
  dsimp only at hx1 hx2 hx3 hx4 hx5 t1 t2 t3 t4 t5
  have hs := ok64 hn hx5
  unfold j_X4_carryOut
  simp only [jn]
  rcases hd with ⟨e, hi⟩ | ⟨e, hi⟩ | ⟨e, hi⟩ | ⟨e, hi⟩ <;> dsimp only at e hi <;> subst e
  · refine ⟨sw_setC (sw_setC st t 7 (nI (pw_com n kd sg G d2 w s))) t 11 (nI (pw_set s d2)), ?_, ?_, ((at5.rf t st).C _ (by omega) (by omega)).C _ (by omega) (by omega)⟩
    · rw [if_pos (show nI 0 = 0 from rfl), t1, t5, woundBy5 hF hv hc hi hx1 hs, bo_some]
      simp only [nm]
      rw [gsC, if_neg (by omega), t5, b_one (by omega), b_or hs (by omega)]
    · rw [dst0]
      unfold CR pw_cm
      dsimp only
      simp only [gsC]
      exact ⟨by ((try simp only [true_and, and_true, if_true]); repeat (first | rw [if_pos (by omega)] | rw [if_neg (by omega)])), by ((try simp only [true_and, and_true, if_true]); repeat (first | rw [if_pos (by omega)] | rw [if_neg (by omega)])); exact t2, by ((try simp only [true_and, and_true, if_true]); repeat (first | rw [if_pos (by omega)] | rw [if_neg (by omega)])); exact t3, by ((try simp only [true_and, and_true, if_true]); repeat (first | rw [if_pos (by omega)] | rw [if_neg (by omega)])); exact t4, by ((try simp only [true_and, and_true, if_true]); repeat (first | rw [if_pos (by omega)] | rw [if_neg (by omega)]))⟩
  · refine ⟨sw_setC st t 11 (nI (pw_clr s d2)), ?_, ?_, (at5.rf t st).C _ (by omega) (by omega)⟩
    · rw [if_neg (show ¬ nI 1 = 0 by decide), if_pos (show nI 1 = 1 from rfl)]
      simp only [nm]
      rw [t5, b_one (by omega), b_clr hs (by omega)]
    · rw [dst1]
      unfold CR
      dsimp only
      simp only [gsC]
      exact ⟨by ((try simp only [true_and, and_true, if_true]); repeat (first | rw [if_pos (by omega)] | rw [if_neg (by omega)])); exact t1, by ((try simp only [true_and, and_true, if_true]); repeat (first | rw [if_pos (by omega)] | rw [if_neg (by omega)])); exact t2, by ((try simp only [true_and, and_true, if_true]); repeat (first | rw [if_pos (by omega)] | rw [if_neg (by omega)])); exact t3, by ((try simp only [true_and, and_true, if_true]); repeat (first | rw [if_pos (by omega)] | rw [if_neg (by omega)])); exact t4, by ((try simp only [true_and, and_true, if_true]); repeat (first | rw [if_pos (by omega)] | rw [if_neg (by omega)]))⟩
  · have hcl : (if nI w ≤ 0 then (0 : Int32) else 1) = nI (if 0 < w then 1 else 0) := by
      by_cases q : w = 0
      · rw [if_pos ((pos_iff (by omega)).mpr q), if_neg (by omega)]; rfl
      · rw [if_neg (fun z => q ((pos_iff (by omega)).mp z)), if_pos (by omega)]; rfl
    have hc2 : (c + if 0 < w then 1 else 0) % 12 = if 0 < w then (c + 1) % 12 else c := by
      split
      · rfl
      · omega
    refine ⟨sw_setC (sw_setC (sw_setC st t 9 (nI (if 0 < w then (c + 1) % 12 else c))) t 7 (nI (pw_nxt f w))) t 10 (nI (h + 1)), ?_, ?_, (((at5.rf t st).C _ (by omega) (by omega)).C _ (by omega) (by omega)).C _ (by omega) (by omega)⟩
    · rw [if_neg (show ¬ nI 2 = 0 by decide), if_neg (show ¬ nI 2 = 1 by decide), if_pos (show nI 2 = 2 from rfl), t1]
      have key : ∀ k : Nat, k ≤ 1 → (bo (j_X4_clockAfter F t (nI k) st) fun r16 => nm (sw_setC st t 9 r16) fun s17 => bo (j_X4_woundNext F t (s17.1 t 7) s17) fun r19 => nm (sw_setC s17 t 7 r19) fun s20 => nm (sw_setC s20 t 10 (s20.1 t 10 + 1)) fun s21 => some ((), s21)) = some ((), sw_setC (sw_setC (sw_setC st t 9 (nI ((c + k) % 12))) t 7 (nI (pw_nxt f w))) t 10 (nI (h + 1))) := by
        intro k hk
        rw [clockAfter5 t2 hx2 (by omega), bo_some]
        simp only [nm]
        rw [show (sw_setC st t 9 (nI ((c + k) % 12))).1 t 7 = nI w by rw [gsC, if_neg (by omega), t1], woundNext5 (f := f) (by rw [gsC, if_neg (by omega), t4]) hx1 hx4, bo_some, gsC, if_neg (by omega), gsC, if_neg (by omega), t3, nI_1]
      rw [← hc2]
      by_cases q : w = 0
      · rw [if_pos ((pos_iff (by omega)).mpr q), show (0 : Int32) = nI 0 from rfl, if_neg (by omega)]
        exact key 0 (by decide)
      · rw [if_neg (fun z => q ((pos_iff (by omega)).mp z)), show (1 : Int32) = nI 1 from rfl, if_pos (by omega)]
        exact key 1 (by decide)
    · rw [dst2]
      unfold CR pw_ps
      dsimp only
      simp only [gsC]
      exact ⟨by ((try simp only [true_and, and_true, if_true]); repeat (first | rw [if_pos (by omega)] | rw [if_neg (by omega)])), by ((try simp only [true_and, and_true, if_true]); repeat (first | rw [if_pos (by omega)] | rw [if_neg (by omega)])), by ((try simp only [true_and, and_true, if_true]); repeat (first | rw [if_pos (by omega)] | rw [if_neg (by omega)])), by ((try simp only [true_and, and_true, if_true]); repeat (first | rw [if_pos (by omega)] | rw [if_neg (by omega)])); exact t4, by ((try simp only [true_and, and_true, if_true]); repeat (first | rw [if_pos (by omega)] | rw [if_neg (by omega)])); exact t5⟩
  · refine ⟨sw_setC st t 8 (nI d2), ?_, ?_, (at5.rf t st).C _ (by omega) (by omega)⟩
    · rw [if_neg (show ¬ nI 3 = 0 by decide), if_neg (show ¬ nI 3 = 1 by decide), if_neg (show ¬ nI 3 = 2 by decide)]
      rfl
    · rw [dst3]
      unfold CR
      dsimp only
      simp only [gsC]
      exact ⟨by ((try simp only [true_and, and_true, if_true]); repeat (first | rw [if_pos (by omega)] | rw [if_neg (by omega)])); exact t1, by ((try simp only [true_and, and_true, if_true]); repeat (first | rw [if_pos (by omega)] | rw [if_neg (by omega)])); exact t2, by ((try simp only [true_and, and_true, if_true]); repeat (first | rw [if_pos (by omega)] | rw [if_neg (by omega)])); exact t3, by ((try simp only [true_and, and_true, if_true]); repeat (first | rw [if_pos (by omega)] | rw [if_neg (by omega)])), by ((try simp only [true_and, and_true, if_true]); repeat (first | rw [if_pos (by omega)] | rw [if_neg (by omega)])); exact t5⟩
theorem dst_ok {n G : Nat} {kd sg bd : Nat → Nat} {fw ff : Nat} {x : pw_D} {d : Nat × Nat} (hv : pw_stat n kd sg bd fw ff) (hd : pw_okd n d) (hx : okx n x) (hh : x.2.2.1 + 1 ≤ 1000) : okx n (pw_dst n kd sg G d x) := by
  obtain ⟨d1, d2⟩ := d
  rcases hd with ⟨e, hi⟩ | ⟨e, hi⟩ | ⟨e, hi⟩ | ⟨e, hi⟩ <;> dsimp only at e hi <;> subst e
  · rw [dst0]
    exact cm_ok hv hi hx
  · rw [dst1]
    exact ⟨hx.1, hx.2.1, hx.2.2.1, hx.2.2.2.1, clr_lt hv.1 hx.2.2.2.2 (by have := hv.1; omega)⟩
  · rw [dst2]
    exact ps_ok hx hh
  · rw [dst3]
    exact ⟨hx.1, hx.2.1, hx.2.2.1, hi, hx.2.2.2.2⟩
theorem dst_h {n G : Nat} {kd sg : Nat → Nat} {x : pw_D} {d : Nat × Nat} : (pw_dst n kd sg G d x).2.2.1 ≤ x.2.2.1 + 1 := by
  unfold pw_dst
  repeat' split
  all_goals (dsimp only; omega)
theorem aft_ok {n G : Nat} {kd sg bd : Nat → Nat} {fw ff : Nat} {dd : Nat → Nat × Nat} {dn : Nat} (hv : pw_stat n kd sg bd fw ff) (hd : ∀ k, k < dn → pw_okd n (dd k)) (h40 : dn ≤ 100) : okx n (pw_aft n kd sg fw ff G dd dn) ∧ (pw_aft n kd sg fw ff G dd dn).2.2.1 ≤ dn := by
  induction dn with
  | zero => exact ⟨⟨by have := hv.2.2.1; show fw ≤ 99; omega, by show 0 < 12; decide, by show 0 ≤ 1000; decide, hv.2.2.2, by show 0 < 2 ^ n; exact Nat.two_pow_pos n⟩, Nat.le_refl 0⟩
  | succ k ih =>
    obtain ⟨h1, h2⟩ := ih (fun j hj => hd j (by omega)) (by omega)
    refine ⟨dst_ok hv (hd k (by omega)) h1 (by omega), ?_⟩
    have := dst_h (n := n) (G := G) (kd := kd) (sg := sg) (x := pw_aft n kd sg fw ff G dd k) (d := dd k)
    show (pw_dst n kd sg G (dd k) (pw_aft n kd sg fw ff G dd k)).2.2.1 ≤ k + 1
    omega
theorem aft_c {n G : Nat} {kd sg : Nat → Nat} {fw ff : Nat} {dd de : Nat → Nat × Nat} {dn : Nat} (h : ∀ k, k < dn → dd k = de k) : pw_aft n kd sg fw ff G dd dn = pw_aft n kd sg fw ff G de dn := by
  induction dn with
  | zero => rfl
  | succ k ih => rw [pw_aft, pw_aft, ih (fun j hj => h j (by omega)), h k (by omega)]
