/-- the reference's numbers at place b: wound, clock, hours, frost, in -/
def TR (st : sw_St) (b : Nat) (x : pw_D) : Prop := st.1 64 (b + 1) = nI x.1 ∧ st.1 64 (b + 2) = nI x.2.1 ∧ st.1 64 (b + 3) = nI x.2.2.1 ∧ st.1 64 (b + 4) = nI x.2.2.2.1 ∧ st.1 64 (b + 5) = nI x.2.2.2.2
/-- within what they keep to -/
def okx (n : Nat) (x : pw_D) : Prop := x.1 ≤ 99 ∧ x.2.1 < 12 ∧ x.2.2.1 ≤ 1000 ∧ x.2.2.2.1 ≤ 3 ∧ x.2.2.2.2 < 2 ^ n
/-- only the places b + 1 .. b + 5 of the reference's row may have changed -/
def at6 (b : Nat) (st st1 : sw_St) : Prop := (∀ a, a ≠ 64 → st1.1 a = st.1 a) ∧ (∀ i, (i < b + 1 ∨ b + 5 < i) → st1.1 64 i = st.1 64 i) ∧ st1.2 = st.2
theorem at6.rf (b : Nat) (st : sw_St) : at6 b st st := ⟨fun _ _ => rfl, fun _ _ => rfl, rfl⟩
theorem at6.tr {b : Nat} {st st1 st2 : sw_St} (h : at6 b st st1) (h2 : at6 b st1 st2) : at6 b st st2 := ⟨fun a ha => (h2.1 a ha).trans (h.1 a ha), fun i hi => (h2.2.1 i hi).trans (h.2.1 i hi), h2.2.2.trans h.2.2⟩
theorem at6.C {b : Nat} {st st1 : sw_St} (h : at6 b st st1) {i : Nat} (v : Int32) (h1 : b + 1 ≤ i) (h2 : i ≤ b + 5) : at6 b st (sw_setC st1 64 i v) := ⟨fun a ha => (gsC_ne _ _ _ ha).trans (h.1 a ha), fun j hj => by rw [gsC, if_neg (by omega)]; exact h.2.1 j hj, h.2.2⟩
theorem mS_at {st st1 : sw_St} {b n G : Nat} {kd sg bd : Nat → Nat} (h : at6 b st st1) (hb : b = 0 ∨ b = 828) (hm : mS st n kd sg bd G) : mS st1 n kd sg bd G := by
  unfold mS pw_st
  rw [h.1 63 (by decide), h.1 65 (by decide), h.1 66 (by decide), h.1 67 (by decide), h.2.1 6 (by omega)]
  exact hm
theorem ok64 {n s : Nat} (hn : n ≤ 6) (h : s < 2 ^ n) : s < 64 := Nat.lt_of_lt_of_le h (pow_n hn)
def pw_cm (n : Nat) (kd sg : Nat → Nat) (G i : Nat) (x : pw_D) : pw_D := (pw_com n kd sg G i x.1 x.2.2.2.2, x.2.1, x.2.2.1, x.2.2.2.1, pw_set x.2.2.2.2 i)
def pw_ps (x : pw_D) : pw_D := (pw_nxt x.2.2.2.1 x.1, if 0 < x.1 then (x.2.1 + 1) % 12 else x.2.1, x.2.2.1 + 1, x.2.2.2.1, x.2.2.2.2)
def pw_sk (f w : Nat) : Nat := if w = 0 then 0 else pw_nxt f w / 10 + 1
theorem cm_ok {n G i : Nat} {kd sg bd : Nat → Nat} {fw ff : Nat} {x : pw_D} (hv : pw_stat n kd sg bd fw ff) (hi : i < n) (h : okx n x) : okx n (pw_cm n kd sg G i x) := ⟨Nat.le_trans (com_le (fw := fw) (ff := ff) (bd := bd) h.1) (by decide), h.2.1, h.2.2.1, h.2.2.2.1, set_lt hv.1 h.2.2.2.2 hi⟩
theorem clampM {w t : Nat} (hw : w ≤ 99) (ht : t ≤ 18) (c : Bool) : (if nI w + (if c then -nI t else nI t) ≤ 99 then (if 0 ≤ nI w + (if c then -nI t else nI t) then nI w + (if c then -nI t else nI t) else 0) else 99) = nI (if c then w - t else if 99 < w + t then 99 else w + t) := by
  cases c with
  | false =>
    simp only [Bool.false_eq_true, if_false]
    rw [nI_add]
    by_cases h : 99 < w + t
    · rw [if_neg (show ¬ nI (w + t) ≤ 99 from nI_ge h (by omega)), if_pos h]; rfl
    · rw [if_pos (show nI (w + t) ≤ 99 from nI_le (b := 99) (by omega) (by decide)), if_pos (show 0 ≤ nI (w + t) from nI_pos' (by omega)), if_neg h]
  | true =>
    simp only [if_true]
    have e : nI w + -nI t = nI w - nI t := by
      apply Int32.toBitVec_inj.mp
      show (nI w).toBitVec + -(nI t).toBitVec = (nI w).toBitVec - (nI t).toBitVec
      exact (BitVec.sub_eq_add_neg _ _).symm
    rw [e]
    have hT := subTI (a := w) (b := t) (by omega) (by omega)
    rw [if_pos (show nI w - nI t ≤ 99 by rw [i_le, hT]; show _ ≤ (99 : Int); omega)]
    by_cases h : t ≤ w
    · rw [if_pos (show 0 ≤ nI w - nI t by rw [i_le, hT]; show (0 : Int) ≤ _; omega), pk_sub h]
    · rw [if_neg (show ¬ 0 ≤ nI w - nI t by rw [i_le, hT]; show ¬ (0 : Int) ≤ _; omega), show w - t = 0 by omega]; rfl
theorem comesIn6 {F b i n G : Nat} {kd sg bd : Nat → Nat} {fw ff : Nat} {x : pw_D} {st : sw_St} (hF : 20000 ≤ F) (hv : pw_stat n kd sg bd fw ff) (hm : mS st n kd sg bd G) (hG : G < 64) (hb : b = 0 ∨ b = 828) (hi : i < n) (hx : okx n x) (ht : TR st b x) : ∃ st1, j_X6_comesIn F (nI b) (nI i) st = some ((), st1) ∧ TR st1 b (pw_cm n kd sg G i x) ∧ at6 b st st1 := by
  have hn := hv.1
  obtain ⟨w, c, h, f, s⟩ := x
  obtain ⟨hx1, hx2, hx3, hx4, hx5⟩ := hx
  obtain ⟨t1, t2, t3, t4, t5⟩ := ht
  dsimp only at hx1 hx2 hx3 hx4 hx5 t1 t2 t3 t4 t5
  have hs := ok64 hn hx5
  have htl := trn_le (w := w) (s := s) hv hi
  refine ⟨sw_setC (sw_setC st 64 (b + 1) (nI (pw_com n kd sg G i w s))) 64 (b + 5) (nI (pw_set s i)), ?_, ?_, ?_⟩
  · unfold j_X6_comesIn
    rw [turns6 hF hv hm (by omega) hi hx1 hs t1 t5, bo_some, show nI b + 5 = nI (b + 5) from nI_add b 5, show nI b + 1 = nI (b + 1) from nI_add b 1, bnd_nI (by omega) (by decide), hm.2, has6 hG (by omega), bo_some]
    simp only [jn, nm]
    rw [nI_clamp (show b + 1 < 2 ^ 31 by omega), nI_clamp (show b + 5 < 2 ^ 31 by omega), t1]
    have key : ∀ y : Nat, y ≤ 99 → (if nI y ≤ 40 then bnd (nI (b + 1)) 835 (bnd (nI (b + 5)) 835 (bnd (nI (b + 5)) 835 (some ((), sw_setC (sw_setC st 64 (b + 1) (nI y)) 64 (b + 5) ((sw_setC st 64 (b + 1) (nI y)).1 64 (b + 5) ||| 1 <<< (nI i &&& 31)))))) else bnd (nI (b + 1)) 835 (bnd (nI (b + 5)) 835 (bnd (nI (b + 5)) 835 (some ((), sw_setC (sw_setC st 64 (b + 1) (nI y - (nI y - 40) / 10)) 64 (b + 5) ((sw_setC st 64 (b + 1) (nI y - (nI y - 40) / 10)).1 64 (b + 5) ||| 1 <<< (nI i &&& 31))))))) = some ((), sw_setC (sw_setC st 64 (b + 1) (nI (pw_spr y))) 64 (b + 5) (nI (pw_set s i))) := by
      intro y hy
      rw [← spr5 hy, b_one (by omega)]
      have rd : ∀ v : Int32, (sw_setC st 64 (b + 1) v).1 64 (b + 5) = nI s := fun v => by rw [gsC, if_neg (by omega), t5]
      simp only [rd, b_or hs (show i < 6 by omega), bnd_nI (show b + 1 < 835 by omega) (by decide : 835 < 2 ^ 31), bnd_nI (show b + 5 < 835 by omega) (by decide : 835 < 2 ^ 31)]
      split
      all_goals rfl
    have hcl := clampM hx1 htl (G.testBit i)
    unfold pw_com
    rw [show (if G.testBit i = true then w - pw_trn n kd sg i w s else if 99 < w + pw_trn n kd sg i w s then 99 else w + pw_trn n kd sg i w s) = (if G.testBit i then w - pw_trn n kd sg i w s else if 99 < w + pw_trn n kd sg i w s then 99 else w + pw_trn n kd sg i w s) from rfl]
    have hy : (if G.testBit i then w - pw_trn n kd sg i w s else if 99 < w + pw_trn n kd sg i w s then 99 else w + pw_trn n kd sg i w s) ≤ 99 := by
      split
      · omega
      · split
        all_goals omega
    rw [← key _ hy, ← hcl]
    by_cases hg : G.testBit i = true
    · simp only [hg, if_true]
      rw [if_neg (show ¬ (1 : Int32) = 0 by decide)]
      split
      · split
        all_goals rfl
      · rfl
    · simp only [hg, Bool.false_eq_true, if_false, eq_self, if_true]
      split
      · split
        all_goals rfl
      · rfl
  · unfold TR pw_cm
    dsimp only
    simp only [gsC]
    exact ⟨by ((try simp only [true_and, and_true, if_true]); repeat (first | rw [if_pos (by omega)] | rw [if_neg (by omega)])), by ((try simp only [true_and, and_true, if_true]); repeat (first | rw [if_pos (by omega)] | rw [if_neg (by omega)])); exact t2, by ((try simp only [true_and, and_true, if_true]); repeat (first | rw [if_pos (by omega)] | rw [if_neg (by omega)])); exact t3, by ((try simp only [true_and, and_true, if_true]); repeat (first | rw [if_pos (by omega)] | rw [if_neg (by omega)])); exact t4, by ((try simp only [true_and, and_true, if_true]); repeat (first | rw [if_pos (by omega)] | rw [if_neg (by omega)]))⟩
  · exact ((at6.rf b st).C _ (by omega) (by omega)).C _ (by omega) (by omega)
theorem pass6 {F b n : Nat} {x : pw_D} {st : sw_St} (hb : b = 0 ∨ b = 828) (hx : okx n x) (ht : TR st b x) : ∃ st1, j_X6_pass F (nI b) st = some (nI (pw_sk x.2.2.2.1 x.1), st1) ∧ TR st1 b (pw_ps x) ∧ at6 b st st1 := by
  obtain ⟨w, c, h, f, s⟩ := x
  obtain ⟨hx1, hx2, hx3, hx4, hx5⟩ := hx
  obtain ⟨t1, t2, t3, t4, t5⟩ := ht
  dsimp only at hx1 hx2 hx3 hx4 hx5 t1 t2 t3 t4 t5
  dsimp only
  unfold j_X6_pass
  simp only [nm, jn]
  rw [show nI b + 1 = nI (b + 1) from nI_add b 1, show nI b + 2 = nI (b + 2) from nI_add b 2, show nI b + 3 = nI (b + 3) from nI_add b 3, show nI b + 4 = nI (b + 4) from nI_add b 4]
  simp only [bnd_nI (show b + 1 < 835 by omega) (by decide : 835 < 2 ^ 31), bnd_nI (show b + 2 < 835 by omega) (by decide : 835 < 2 ^ 31), bnd_nI (show b + 3 < 835 by omega) (by decide : 835 < 2 ^ 31), bnd_nI (show b + 4 < 835 by omega) (by decide : 835 < 2 ^ 31), nI_clamp (show b + 1 < 2 ^ 31 by omega), nI_clamp (show b + 2 < 2 ^ 31 by omega), nI_clamp (show b + 3 < 2 ^ 31 by omega), nI_clamp (show b + 4 < 2 ^ 31 by omega)]
  rw [t1, t3, show nI h + 1 = nI (h + 1) from nI_1 h]
  by_cases w0 : w = 0
  · subst w0
    refine ⟨sw_setC st 64 (b + 3) (nI (h + 1)), ?_, ?_, (at6.rf b st).C _ (by omega) (by omega)⟩
    · rw [if_pos (show nI 0 = 0 from rfl)]
      rfl
    · unfold TR pw_ps pw_nxt
      dsimp only
      simp only [gsC]
      exact ⟨by ((try simp only [true_and, and_true, if_true]); repeat (first | rw [if_pos (by omega)] | rw [if_neg (by omega)])); rw [t1, Nat.zero_sub], by ((try simp only [true_and, and_true, if_true]); repeat (first | rw [if_pos (by omega)] | rw [if_neg (by omega)])); exact t2, by ((try simp only [true_and, and_true, if_true]); repeat (first | rw [if_pos (by omega)] | rw [if_neg (by omega)])), by ((try simp only [true_and, and_true, if_true]); repeat (first | rw [if_pos (by omega)] | rw [if_neg (by omega)])); exact t4, by ((try simp only [true_and, and_true, if_true]); repeat (first | rw [if_pos (by omega)] | rw [if_neg (by omega)])); exact t5⟩
  · refine ⟨sw_setC (sw_setC (sw_setC st 64 (b + 3) (nI (h + 1))) 64 (b + 1) (nI (pw_nxt f w))) 64 (b + 2) (nI ((c + 1) % 12)), ?_, ?_, (((at6.rf b st).C _ (by omega) (by omega)).C _ (by omega) (by omega)).C _ (by omega) (by omega)⟩
    · rw [if_neg (nI_ne0 (by omega) (by omega))]
      have e4 : (sw_setC st 64 (b + 3) (nI (h + 1))).1 64 (b + 4) = nI f := by rw [gsC, if_neg (by omega), t4]
      have e2 : ∀ v, (sw_setC (sw_setC st 64 (b + 3) (nI (h + 1))) 64 (b + 1) v).1 64 (b + 2) = nI c := fun v => by rw [gsC, if_neg (by omega), gsC, if_neg (by omega), t2]
      have e1 : ∀ v u, (sw_setC (sw_setC (sw_setC st 64 (b + 3) (nI (h + 1))) 64 (b + 1) v) 64 (b + 2) u).1 64 (b + 1) = v := fun v u => by rw [gsC, if_neg (by omega), gsC, if_pos ⟨rfl, rfl⟩]
      have ec : (nI c + 1) - (nI c + 1) / 12 * 12 = nI ((c + 1) % 12) := by
        rw [nI_1]
        exact pk_rem (by omega) (by decide) (by decide)
      simp only [e4, e2, e1, ec]
      rw [show (1 : Int32) + nI f = nI (1 + f) from nI_add 1 f]
      have hT := subTI (a := w) (b := 1 + f) (by omega) (by omega)
      have hz : ∀ y : Nat, y ≤ 99 → nI y / 10 + 1 = nI (y / 10 + 1) := fun y hy => by
        show nI y / nI 10 + nI 1 = _
        rw [pk_div (by omega) (by decide) (by decide), nI_add]
      unfold pw_sk pw_nxt
      rw [if_neg w0]
      by_cases q : 1 + f ≤ w
      · rw [if_pos (show 0 ≤ nI w - nI (1 + f) by rw [i_le, hT]; show (0 : Int) ≤ _; omega), pk_sub q, hz _ (by omega)]
      · rw [if_neg (show ¬ 0 ≤ nI w - nI (1 + f) by rw [i_le, hT]; show ¬ (0 : Int) ≤ _; omega), show w - (1 + f) = 0 by omega]
        rfl
    · unfold TR pw_ps
      dsimp only
      simp only [gsC]
      exact ⟨by ((try simp only [true_and, and_true, if_true]); repeat (first | rw [if_pos (by omega)] | rw [if_neg (by omega)])), by ((try simp only [true_and, and_true, if_true]); repeat (first | rw [if_pos (by omega)] | rw [if_neg (by omega)])), by ((try simp only [true_and, and_true, if_true]); repeat (first | rw [if_pos (by omega)] | rw [if_neg (by omega)])), by ((try simp only [true_and, and_true, if_true]); repeat (first | rw [if_pos (by omega)] | rw [if_neg (by omega)])); exact t4, by ((try simp only [true_and, and_true, if_true]); repeat (first | rw [if_pos (by omega)] | rw [if_neg (by omega)])); exact t5⟩
theorem ps_ok {n : Nat} {x : pw_D} (h : okx n x) (hh : x.2.2.1 + 1 ≤ 1000) : okx n (pw_ps x) := by
  obtain ⟨w, c, hr, f, s⟩ := x
  obtain ⟨h1, h2, h3, h4, h5⟩ := h
  dsimp only at h1 h2 h3 h4 h5 hh
  refine ⟨?_, ?_, hh, h4, h5⟩
  · show w - (1 + f) ≤ 99
    omega
  · show (if 0 < w then (c + 1) % 12 else c) < 12
    split
    all_goals omega
