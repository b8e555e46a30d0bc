theorem IA_c {st st1 : sw_St} (h : ag [0, 62, 63, 72] st st1) (h2 : st1.2.1 = st.2.1) (hI : IA st) : IA st1 := by
  unfold IA
  rw [h 0 (by decide), h 62 (by decide), h 63 (by decide), h 72 (by decide), h2]
  exact hI
theorem deed_pre {F n G dn fw ff : Nat} {kd sg bd : Nat → Nat} {dd : Nat → Nat × Nat} {d : Nat × Nat} {st : sw_St} (hF : 20000 ≤ F) (hI : II st) (hh : hereT st n kd sg bd fw ff G dd dn) (hd : pw_okd n d) (hdn : dn < 40) :
    ∃ st1, j_X4_note F 15 (nI d.1) (nI d.2) st = some ((), st1) ∧ pw_ct st1 15 n kd sg bd fw ff G (upD dd dn d) (dn + 1) (pw_dst n kd sg G d (pw_aft n kd sg fw ff G dd dn)) ∧ ch [15, 20, 21] st st1 ∧ st1.2 = st.2 ∧
    ∀ st1' : sw_St, (∀ a, a ≠ 0 → st1'.1 a = st1.1 a) → st1'.2 = st1.2 → ∃ st2, j_X6_keepPast F st1' = some ((), st2) ∧ mS st2 n kd sg bd G ∧ TR st2 0 (pw_aft n kd sg fw ff G dd dn) ∧ ((∀ a, a ≠ 64 → st2.1 a = st1'.1 a) ∧ st2.2 = st1'.2) ∧
    ∀ st3, at6 0 st2 st3 → TR st3 0 (pw_dst n kd sg G d (pw_aft n kd sg fw ff G dd dn)) → ∀ st4 : sw_St, (∀ a, a ≠ 63 → st4.1 a = st3.1 a) → st4.1 63 1 = st.1 63 1 → IA st4 → II st4 := by
  obtain ⟨hv, hst, hdyn, hct, hmt, hk⟩ := id hh
  obtain ⟨hx, hx2⟩ := aft_ok (G := G) hv hdyn.2.2 (by omega)
  obtain ⟨st1, j1, c1, cc, c2⟩ := note5 (d := d) hF hv hct hx hd (by omega)
  refine ⟨st1, j1, c1, cc, c2, fun st1' p1 p2 => ?_⟩
  have cc' : ch [0, 15, 20, 21] st st1' := fun a ha => by
    simp only [List.mem_cons, List.mem_nil_iff, or_false, not_or] at ha
    rw [p1 a ha.1, cc a (by simp only [List.mem_cons, List.mem_nil_iff, or_false, not_or]; exact ha.2)]
  have hm0 : st1'.1 64 0 = nI dn := by rw [cc' 64 (by decide)]; exact hmt.1
  obtain ⟨st2, j2, k0, k1, k2, k3, k4⟩ := keep6 hF hm0 (by omega)
  have hms : mS st2 n kd sg bd G := by
    unfold mS pw_st
    rw [k3 63 (by decide), k3 65 (by decide), k3 66 (by decide), k3 67 (by decide), k2 6 (by omega) (by omega), cc' 63 (by decide), cc' 64 (by decide), cc' 65 (by decide), cc' 66 (by decide), cc' 67 (by decide)]
    exact mt_mS hst hmt
  have htr : TR st2 0 (pw_aft n kd sg fw ff G dd dn) := by
    unfold TR
    rw [k2 (0 + 1) (by omega) (by omega), k2 (0 + 2) (by omega) (by omega), k2 (0 + 3) (by omega) (by omega), k2 (0 + 4) (by omega) (by omega), k2 (0 + 5) (by omega) (by omega), cc' 64 (by decide)]
    exact mt_TR hmt
  refine ⟨st2, j2, hms, htr, ⟨k3, k4⟩, fun st3 a r st4 q1 q2 hA => ?_⟩
  obtain ⟨hR, hT, -, -⟩ := hI
  have e : ∀ x, x ∉ [0, 15, 20, 21, 63, 64] → st4.1 x = st.1 x := fun x hx => by
    simp only [List.mem_cons, List.mem_nil_iff, or_false, not_or] at hx
    rw [q1 x hx.2.2.2.2.1, a.1 x hx.2.2.2.2.2, k3 x hx.2.2.2.2.2, cc' x (by simp only [List.mem_cons, List.mem_nil_iff, or_false, not_or]; exact ⟨hx.1, hx.2.1, hx.2.2.1, hx.2.2.2.1⟩)]
  have e5 : ∀ x, x ≠ 0 → x ≠ 63 → x ≠ 64 → st4.1 x = st1.1 x := fun x h0 h63 h64 => by rw [q1 x h63, a.1 x h64, k3 x h64, p1 x h0]
  have e64 : ∀ i, 207 ≤ i → i < 828 → st4.1 64 i = st.1 64 i := fun i h1 h2 => by rw [q1 64 (by decide), a.2.1 i (by omega), k2 i (by omega) (by omega), cc' 64 (by decide)]
  refine ⟨IR_c (fun x hx => e x ((by decide : ∀ x, x ∈ [2, 3, 4, 5, 6, 7, 8, 68, 69] → x ∉ [0, 15, 20, 21, 63, 64]) x hx)) hR, IT_c (fun x hx => e x ((by decide : ∀ x, x ∈ [10, 11, 12, 13, 14, 70, 71] → x ∉ [0, 15, 20, 21, 63, 64]) x hx)) hT, hA, ?_⟩
  refine ⟨n, kd, sg, bd, fw, ff, hv, ?_, ⟨G, upD dd dn d, dn + 1, ⟨hdyn.1, by omega, fun k hk => ?_⟩, ?_, ?_⟩, ?_⟩
  · unfold pw_st
    rw [q2, e 65 (by decide), e 66 (by decide), e 67 (by decide)]
    exact hst
  · unfold upD
    by_cases q : k = dn
    · rw [if_pos q]; exact hd
    · rw [if_neg q]; exact hdyn.2.2 k (by omega)
  · rw [aft_up1]
    unfold pw_ct
    rw [e5 15 (by decide) (by decide) (by decide), e5 (15 + 1) (by decide) (by decide) (by decide), e5 (15 + 2) (by decide) (by decide) (by decide), e5 (15 + 3) (by decide) (by decide) (by decide), e5 (15 + 4) (by decide) (by decide) (by decide), e5 (15 + 5) (by decide) (by decide) (by decide), e5 (15 + 6) (by decide) (by decide) (by decide)]
    exact c1
  · have hm1 : pw_mt st1' 0 G dn (pw_aft n kd sg fw ff G dd) := by
      unfold pw_mt
      rw [cc' 64 (by decide)]
      exact hmt
    have := mt_deed hm1 k0 k1 k2 a r
    unfold pw_mt at this ⊢
    rw [q1 64 (by decide)]
    exact this
  · exact kp_c (fun x hx => e x ((by decide : ∀ x, x ∈ [30, 31, 32, 33, 34, 35, 36, 37, 38, 39, 40, 41, 42, 43, 44, 45, 46, 47, 48, 49, 50, 51] → x ∉ [0, 15, 20, 21, 63, 64]) x hx)) e64 hk
theorem strikes5 {F t w f : Nat} {st : sw_St} (hf : st.1 t 8 = nI f) (hw : w ≤ 99) (hf3 : f ≤ 3) : j_X4_strikesNext F t (nI w) st = some (nI (pw_sk f w)) := by
  unfold j_X4_strikesNext pw_sk
  simp only [jn]
  by_cases q : w = 0
  · subst q
    rw [if_pos (show nI 0 ≤ 0 by decide), if_pos rfl]; rfl
  · rw [if_neg (fun z => q ((pos_iff (by omega)).mp z)), if_neg q, woundNext5 hf hw hf3, bo_some]
    have : pw_nxt f w ≤ 99 := by unfold pw_nxt; omega
    rw [show (10 : Int32) = nI 10 from rfl, pk_div (by omega) (by decide) (by decide), nI_1]
theorem o_14 {F : Nat} (hF : 20000 ≤ F) : sm_14 II F := by
  intro a1 st hI
  obtain ⟨n, kd, sg, bd, fw, ff, G, dd, dn, hh⟩ := II_here hI
  obtain ⟨hv, hst, hdyn, hct, hmt, hk⟩ := id hh
  have hn := hv.1
  have hdn := hdyn.2.1
  obtain ⟨hx, hx2⟩ := aft_ok (G := G) hv hdyn.2.2 (by omega)
  have hs := ok64 hn hx.2.2.2.2
  unfold j_X5_leave j_X6_leave
  rcases nix a1 n with h | ⟨i, hi, rfl⟩
  · exact ⟨-1, st, st, by rw [has5_n hct.1 hn h]; rfl, by rw [isS6_n hst.1 hn h]; rfl, hI⟩
  have q5 := isIn5 (F := F) (i := i) (ct_CR hct).2.2.2.2 hs (by omega)
  have q6 := isIn6 (F := F) (b := 0) (i := i) (mt_TR hmt).2.2.2.2 (by omega) hs (by omega)
  by_cases hin : (pw_aft n kd sg fw ff G dd dn).2.2.2.2.testBit i = true
  · by_cases h40 : dn = 40
    · subst h40
      rw [if_pos hin] at q5 q6
      refine ⟨-2, st, st, ?_, ?_, hI⟩
      · rw [has5_y hct.1 hn hi, bo_some, if_neg (by decide), q5, bo_some, if_neg (by decide), show (1 : Int32) = nI 1 from rfl, isFull5 (ct_dn hct) (by decide) (by decide)]
        rfl
      · rw [isS6_y hst.1 hn hi, bo_some, if_neg (by decide), show (0 : Int32) = nI 0 from rfl, q6, bo_some, if_neg (show ¬ (1 : Int32) = nI 0 by decide)]
        simp only [jn]
        rw [hmt.1, if_pos (show nI 40 = 40 from rfl)]
    · have hd : pw_okd n (1, i) := Or.inr (Or.inl ⟨rfl, hi⟩)
      obtain ⟨st1, j1, c1, cc, c2, hp⟩ := deed_pre (d := (1, i)) hF hI hh hd (by omega)
      obtain ⟨st2, j2, hms, htr, hk2, hp2⟩ := hp st1 (fun _ _ => rfl) rfl
      have hm0 : st1.1 64 0 = nI dn := by rw [cc 64 (by decide)]; exact hmt.1
      obtain ⟨t1, t2, t3, t4, t5⟩ := id htr
      refine ⟨nI (pw_pop (pw_clr (pw_aft n kd sg fw ff G dd dn).2.2.2.2 i)), st1, sw_setC st2 64 5 (nI (pw_clr (pw_aft n kd sg fw ff G dd dn).2.2.2.2 i)), ?_, ?_, ?_⟩
      · rw [if_pos hin] at q5
        rw [has5_y hct.1 hn hi, bo_some, if_neg (by decide), q5, bo_some, if_neg (by decide), show (1 : Int32) = nI 1 from rfl, isFull5 (ct_dn hct) (by omega) (by decide), bo_some, if_neg (show ¬ 40 < dn + 1 by omega), if_pos rfl, j1, bd_some, (ct_CR c1).2.2.2.2]
        show bo (j_J6_bitCount_0f7a4 F (nI (pw_clr (pw_aft n kd sg fw ff G dd dn).2.2.2.2 i)) st1) _ = _
        rw [bitC (clr64 hs (by omega))]
        rfl
      · rw [isS6_y (by rw [cc 63 (by decide)]; exact hst.1) hn hi, bo_some, if_neg (by decide), show (0 : Int32) = nI 0 from rfl]
        rw [isIn6 (F := F) (b := 0) (i := i) (by rw [cc 64 (by decide)]; exact (mt_TR hmt).2.2.2.2) (by omega) hs (by omega), if_pos hin, bo_some, if_neg (show ¬ (1 : Int32) = nI 0 by decide)]
        simp only [jn]
        rw [hm0, if_neg (show ¬ nI dn = 40 from fun z => h40 ((nI_eq (by omega) (by decide)).mp z))]
        unfold j_X6_doLeave
        rw [j2, bd_some]
        simp only [nm]
        rw [show st2.1 64 5 = nI _ from t5, b_one (by omega), b_clr hs (by omega), gsC, if_pos ⟨rfl, rfl⟩, bits6 hF (clr64 hs (by omega))]
        rfl
      · refine hp2 _ ((at6.rf 0 st2).C _ (by decide) (by decide)) ?_ _ (fun _ _ => rfl) (by rw [gsC, if_neg (by decide)]; have := hms.1.1; rw [this]; exact hst.1.symm) ?_
        · unfold TR
          simp only [gsC]
          exact ⟨by ((try simp only [true_and, and_true, if_true]); repeat (first | rw [if_pos (by omega)] | rw [if_neg (by omega)])); exact t1, by ((try simp only [true_and, and_true, if_true]); repeat (first | rw [if_pos (by omega)] | rw [if_neg (by omega)])); exact t2, by ((try simp only [true_and, and_true, if_true]); repeat (first | rw [if_pos (by omega)] | rw [if_neg (by omega)])); exact t3, by ((try simp only [true_and, and_true, if_true]); repeat (first | rw [if_pos (by omega)] | rw [if_neg (by omega)])); exact t4, by ((try simp only [true_and, and_true, if_true]); repeat (first | rw [if_pos (by omega)] | rw [if_neg (by omega)])); rfl⟩
        · refine IA_c ?_ ?_ hI.2.2.1
          · intro a ha
            have hne : a ≠ 64 ∧ a ∉ [15, 20, 21] := (by decide : ∀ a, a ∈ [0, 62, 63, 72] → a ≠ 64 ∧ a ∉ [15, 20, 21]) a ha
            rw [gsC_ne _ _ _ hne.1, hk2.1 a hne.1, cc a hne.2]
          · show st2.2.1 = st.2.1
            rw [hk2.2, c2]
  · rw [if_neg hin] at q5 q6
    exact ⟨-4, st, st, by rw [has5_y hct.1 hn hi, bo_some, if_neg (by decide), q5]; rfl, by rw [isS6_y hst.1 hn hi, bo_some, if_neg (by decide), show (0 : Int32) = nI 0 from rfl, q6]; rfl, hI⟩
theorem n0_iff {n : Nat} (h : n ≤ 6) : nI n = 0 ↔ n = 0 := nI_eq (b := 0) (by omega) (by decide)
theorem o_15 {F : Nat} (hF : 20000 ≤ F) : sm_15 II F := by
  intro st hI
  obtain ⟨n, kd, sg, bd, fw, ff, G, dd, dn, hh⟩ := II_here hI
  obtain ⟨hv, hst, hdyn, hct, hmt, hk⟩ := id hh
  have hn := hv.1
  have hdn := hdyn.2.1
  obtain ⟨hx, hx2⟩ := aft_ok (G := G) hv hdyn.2.2 (by omega)
  unfold j_X5_hour j_X6_hour
  by_cases h0 : n = 0
  · exact ⟨-4, st, st, by rw [hct.1, if_pos ((n0_iff hn).mpr h0)], by rw [hst.1, if_pos ((n0_iff hn).mpr h0)], hI⟩
  by_cases h40 : dn = 40
  · subst h40
    refine ⟨-2, st, st, ?_, ?_, hI⟩
    · rw [hct.1, if_neg (fun z => h0 ((n0_iff hn).mp z)), show (1 : Int32) = nI 1 from rfl, isFull5 (ct_dn hct) (by decide) (by decide)]
      rfl
    · rw [hst.1, if_neg (fun z => h0 ((n0_iff hn).mp z)), hmt.1, if_pos (show nI 40 = 40 from rfl)]
  have hd : pw_okd n (2, 0) := Or.inr (Or.inr (Or.inl ⟨rfl, rfl⟩))
  obtain ⟨st1, j1, c1, cc, c2, hp⟩ := deed_pre (d := (2, 0)) hF hI hh hd (by omega)
  obtain ⟨st1', e1'⟩ : ∃ s, s = sw_setC st1 0 14 (st1.1 15 9) := ⟨_, rfl⟩
  obtain ⟨st2, j2, hms, htr, hk2, hp2⟩ := hp st1' (fun a ha => by rw [e1', gsC_ne _ _ _ ha]) (by rw [e1']; rfl)
  obtain ⟨st3, j3, r3, a3⟩ := pass6 (F := F) (b := 0) (Or.inl rfl) hx htr
  have hv9 : st1.1 15 9 = st3.1 64 2 := by
    rw [(ct_CR c1).2.1, show st3.1 64 2 = nI _ from r3.2.1]
    rfl
  have e63 : ∀ i, st3.1 63 i = st.1 63 i := fun i => by rw [a3.1 63 (by decide), hk2.1 63 (by decide), e1', gsC_ne _ _ _ (by decide), cc 63 (by decide)]
  refine ⟨nI (pw_sk (pw_aft n kd sg fw ff G dd dn).2.2.2.1 (pw_aft n kd sg fw ff G dd dn).1), st1', sw_setC st3 63 9 (st3.1 64 2), ?_, ?_, ?_⟩
  · rw [hct.1, if_neg (fun z => h0 ((n0_iff hn).mp z)), show (1 : Int32) = nI 1 from rfl, isFull5 (ct_dn hct) (by omega) (by decide), bo_some, if_neg (show ¬ 40 < dn + 1 by omega), if_pos rfl, (ct_CR hct).1, strikes5 (ct_CR hct).2.2.2.1 hx.1 hx.2.2.2.1, bo_some]
    rw [show j_X4_note F 15 2 0 st = some ((), st1) from j1, bd_some, e1']
    rfl
  · rw [show st1'.1 63 = st.1 63 by rw [e1', gsC_ne _ _ _ (by decide), cc 63 (by decide)], hst.1, if_neg (fun z => h0 ((n0_iff hn).mp z)), show st1'.1 64 = st.1 64 by rw [e1', gsC_ne _ _ _ (by decide), cc 64 (by decide)], hmt.1, if_neg (show ¬ nI dn = 40 from fun z => h40 ((nI_eq (by omega) (by decide)).mp z)), j2, bd_some, show j_X6_pass F 0 st2 = some _ from j3, bd_some]
    rfl
  · refine hp2 st3 a3 r3 _ (fun a ha => gsC_ne _ _ _ ha) (by rw [gsC, if_neg (by decide), e63]) ?_
    obtain ⟨A1, A2, A3, A4, A5⟩ := hI.2.2.1
    have e0 : ∀ a, a ≠ 0 → a ≠ 63 → a ≠ 64 → a ∉ [15, 20, 21] → (sw_setC st3 63 9 (st3.1 64 2)).1 a = st.1 a := fun a h1 h2 h3 h4 => by
      rw [gsC_ne _ _ _ h2, a3.1 a h3, hk2.1 a h3, e1', gsC_ne _ _ _ h1, cc a h4]
    have z0 : (sw_setC st3 63 9 (st3.1 64 2)).1 0 = st1'.1 0 := by rw [gsC_ne _ _ _ (by decide), a3.1 0 (by decide), hk2.1 0 (by decide)]
    have zl : (sw_setC st3 63 9 (st3.1 64 2)).2 = st.2 := by
      show st3.2 = st.2
      rw [a3.2.2, hk2.2, e1']
      exact c2
    refine ⟨?_, ?_, ?_, ?_, ?_⟩
    · rw [z0, e1', gsC, if_pos ⟨rfl, rfl⟩, gsC, if_pos ⟨rfl, rfl⟩, hv9]
    · rw [z0, e1', gsC, if_neg (by decide), gsC, if_neg (by decide), e63, cc 0 (by decide)]
      exact A2
    · intro f hf
      rw [e0 62 (by decide) (by decide) (by decide) (by decide), e0 72 (by decide) (by decide) (by decide) (by decide)]
      exact A3 f hf
    · rw [zl]; exact A4
    · rw [zl]; exact A5
theorem o_16 {F : Nat} (hF : 20000 ≤ F) : sm_16 II F := by
  intro a1 st hI
  obtain ⟨n, kd, sg, bd, fw, ff, G, dd, dn, hh⟩ := II_here hI
  obtain ⟨hv, hst, hdyn, hct, hmt, hk⟩ := id hh
  have hn := hv.1
  have hdn := hdyn.2.1
  obtain ⟨hx, hx2⟩ := aft_ok (G := G) hv hdyn.2.2 (by omega)
  have hf4 : st.1 15 8 = nI _ := (ct_CR hct).2.2.2.1
  have hg4 : st.1 64 4 = nI _ := (mt_TR hmt).2.2.2.1
  unfold j_X5_frost j_X6_frost
  simp only [jn]
  rcases nix a1 4 with h | ⟨i, hi, rfl⟩
  · refine ⟨-1, st, st, ?_, by rw [in6_n (lo := 0) (hi := 3) rfl rfl (by rcases h with h | h; exact Or.inl h; exact Or.inr (by omega))]; rfl, hI⟩
    by_cases q : a1 < 0
    · rw [if_pos q]
    · rw [if_neg q, if_neg]
      rw [i_le]
      rw [i_lt] at q
      rcases h with h | h
      · exact absurd h q
      · show ¬ a1.toInt ≤ 3
        omega
  rw [if_neg (show ¬ nI i < 0 from nI_pos (by omega)), if_pos (show nI i ≤ 3 from nI_le (b := 3) (by omega) (by decide))]
  have i6 : ∀ s, j_X6_in F (nI i).toInt64 0 3 s = some 1 := fun s => in6_y (lo := 0) (hi := 3) rfl rfl (by rw [nI_tI (by omega)]; omega) (by rw [nI_tI (by omega)]; omega)
  by_cases h0 : n = 0
  · exact ⟨-4, st, st, by rw [hct.1, if_pos ((n0_iff hn).mpr h0)], by rw [i6, bo_some, if_neg (by decide), hst.1, if_pos ((n0_iff hn).mpr h0)], hI⟩
  have n0 : ¬ nI n = 0 := fun z => h0 ((n0_iff hn).mp z)
  by_cases he : (pw_aft n kd sg fw ff G dd dn).2.2.2.1 = i
  · exact ⟨-4, st, st, by rw [hct.1, if_neg n0, hf4, he, if_pos rfl], by rw [i6, bo_some, if_neg (by decide), hst.1, if_neg n0, hg4, he, if_pos rfl], hI⟩
  have hne : ¬ nI (pw_aft n kd sg fw ff G dd dn).2.2.2.1 = nI i := fun z => he ((nI_eq (by have := hx.2.2.2.1; omega) (by omega)).mp z)
  by_cases h40 : dn = 40
  · subst h40
    refine ⟨-2, st, st, ?_, ?_, hI⟩
    · rw [hct.1, if_neg n0, hf4, if_neg hne, show (1 : Int32) = nI 1 from rfl, isFull5 (ct_dn hct) (by decide) (by decide)]
      rfl
    · rw [i6, bo_some, if_neg (by decide), hst.1, if_neg n0, hg4, if_neg hne, hmt.1, if_pos (show nI 40 = 40 from rfl)]
  have hd : pw_okd n (3, i) := Or.inr (Or.inr (Or.inr ⟨rfl, by omega⟩))
  obtain ⟨st1, j1, c1, cc, c2, hp⟩ := deed_pre (d := (3, i)) hF hI hh hd (by omega)
  obtain ⟨st2, j2, hms, htr, hk2, hp2⟩ := hp st1 (fun _ _ => rfl) rfl
  obtain ⟨t1, t2, t3, t4, t5⟩ := id htr
  refine ⟨nI (pw_aft n kd sg fw ff G dd dn).2.2.2.1, st1, sw_setC st2 64 4 (nI i), ?_, ?_, ?_⟩
  · rw [hct.1, if_neg n0, hf4, if_neg hne, show (1 : Int32) = nI 1 from rfl, isFull5 (ct_dn hct) (by omega) (by decide), bo_some, if_neg (show ¬ 40 < dn + 1 by omega), if_pos rfl]
    simp only [nm]
    rw [show j_X4_note F 15 3 (nI i) st = some ((), st1) from j1, bd_some]
  · rw [i6, bo_some, if_neg (by decide), cc 63 (by decide), hst.1, if_neg n0, cc 64 (by decide), hg4, if_neg hne, hmt.1, if_neg (show ¬ nI dn = 40 from fun z => h40 ((nI_eq (by omega) (by decide)).mp z)), j2, bd_some]
    simp only [nm]
    rw [show st2.1 64 4 = nI _ from t4]
  · refine hp2 _ ((at6.rf 0 st2).C _ (by decide) (by decide)) ?_ _ (fun _ _ => rfl) (by rw [gsC, if_neg (by decide)]; have := hms.1.1; rw [this]; exact hst.1.symm) ?_
    · unfold TR
      simp only [gsC]
      exact ⟨by ((try simp only [true_and, and_true, if_true]); repeat (first | rw [if_pos (by omega)] | rw [if_neg (by omega)])); exact t1, by ((try simp only [true_and, and_true, if_true]); repeat (first | rw [if_pos (by omega)] | rw [if_neg (by omega)])); exact t2, by ((try simp only [true_and, and_true, if_true]); repeat (first | rw [if_pos (by omega)] | rw [if_neg (by omega)])); exact t3, by ((try simp only [true_and, and_true, if_true]); repeat (first | rw [if_pos (by omega)] | rw [if_neg (by omega)])); rfl, by ((try simp only [true_and, and_true, if_true]); repeat (first | rw [if_pos (by omega)] | rw [if_neg (by omega)])); exact t5⟩
    · refine IA_c ?_ ?_ hI.2.2.1
      · intro a ha
        have hne : a ≠ 64 ∧ a ∉ [15, 20, 21] := (by decide : ∀ a, a ∈ [0, 62, 63, 72] → a ≠ 64 ∧ a ∉ [15, 20, 21]) a ha
        rw [gsC_ne _ _ _ hne.1, hk2.1 a hne.1, cc a hne.2]
      · show st2.2.1 = st.2.1
        rw [hk2.2, c2]
