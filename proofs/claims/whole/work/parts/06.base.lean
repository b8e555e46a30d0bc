theorem sw_tk1 {t : Nat} (h : sw_kd t = 4) : sw_kd (t + 1) = 8 := (sw_tw1 h 0 (by decide)).1
theorem sw_tn1 {t : Nat} (h : sw_kd t = 4) : sw_ln (t + 1) = 6 := (sw_tw1 h 0 (by decide)).2
theorem sw_tk2 {t : Nat} (h : sw_kd t = 4) : sw_kd (t + 2) = 8 := (sw_tw1 h 1 (by decide)).1
theorem sw_tn2 {t : Nat} (h : sw_kd t = 4) : sw_ln (t + 2) = 6 := (sw_tw1 h 1 (by decide)).2
theorem sw_tk3 {t : Nat} (h : sw_kd t = 4) : sw_kd (t + 3) = 8 := (sw_tw1 h 2 (by decide)).1
theorem sw_tn3 {t : Nat} (h : sw_kd t = 4) : sw_ln (t + 3) = 6 := (sw_tw1 h 2 (by decide)).2
theorem sw_tk4 {t : Nat} (h : sw_kd t = 4) : sw_kd (t + 4) = 8 := (sw_tw1 h 3 (by decide)).1
theorem sw_tn4 {t : Nat} (h : sw_kd t = 4) : sw_ln (t + 4) = 6 := (sw_tw1 h 3 (by decide)).2
theorem sw_tk5 {t : Nat} (h : sw_kd t = 4) : sw_kd (t + 5) = 8 := (sw_tw1 h 4 (by decide)).1
theorem sw_tn5 {t : Nat} (h : sw_kd t = 4) : sw_ln (t + 5) = 40 := (sw_tw1 h 4 (by decide)).2
theorem sw_tk6 {t : Nat} (h : sw_kd t = 4) : sw_kd (t + 6) = 8 := (sw_tw1 h 5 (by decide)).1
theorem sw_tn6 {t : Nat} (h : sw_kd t = 4) : sw_ln (t + 6) = 40 := (sw_tw1 h 5 (by decide)).2
theorem sw_rk {i : Int32} (h : vp_in i 6) : sw_kd (2 + i.toNatClampNeg) = 8 := by
  have h1 : i.toNatClampNeg < 6 := Nat.not_le.mp fun q => h (Or.inr q)
  generalize i.toNatClampNeg = j at h1 ⊢
  exact (by decide : ∀ j : Fin 6, sw_kd (2 + j.val) = 8) ⟨j, h1⟩
theorem sw_rn {i : Int32} (h : vp_in i 6) : sw_ln (2 + i.toNatClampNeg) = 40 := by
  have h1 : i.toNatClampNeg < 6 := Nat.not_le.mp fun q => h (Or.inr q)
  generalize i.toNatClampNeg = j at h1 ⊢
  exact (by decide : ∀ j : Fin 6, sw_ln (2 + j.val) = 40) ⟨j, h1⟩
theorem sw_xk {i : Int32} (h : vp_in i 4) : sw_kd (10 + i.toNatClampNeg) = 7 := by
  have h1 : i.toNatClampNeg < 4 := Nat.not_le.mp fun q => h (Or.inr q)
  generalize i.toNatClampNeg = j at h1 ⊢
  exact (by decide : ∀ j : Fin 4, sw_kd (10 + j.val) = 7) ⟨j, h1⟩
theorem sw_xn {i : Int32} (h : vp_in i 4) : sw_ln (10 + i.toNatClampNeg) = 60 := by
  have h1 : i.toNatClampNeg < 4 := Nat.not_le.mp fun q => h (Or.inr q)
  generalize i.toNatClampNeg = j at h1 ⊢
  exact (by decide : ∀ j : Fin 4, sw_ln (10 + j.val) = 60) ⟨j, h1⟩
theorem sw_kk {i : Int32} (h : vp_in i 3) : sw_kd (30 + 7 * i.toNatClampNeg) = 4 := by
  have h1 : i.toNatClampNeg < 3 := Nat.not_le.mp fun q => h (Or.inr q)
  generalize i.toNatClampNeg = j at h1 ⊢
  exact (by decide : ∀ j : Fin 3, sw_kd (30 + 7 * j.val) = 4) ⟨j, h1⟩
def bo {α β : Type} (o : Option α) (k : α → Option β) : Option β := match o with
  | none => none
  | some a => k a
theorem bo_E {α β : Type} {o : Option α} {k : α → Option β} {r : β} (h : bo o k = some r) : ∃ a, o = some a ∧ k a = some r := by
  cases o with
  | none => cases h
  | some a => exact ⟨a, rfl, h⟩
def lz1 {A1 β : Type} (body : (A1 → Option β) → A1 → Option β) : Nat → A1 → Option β
  | 0, _ => none
  | n + 1, x1 => body (lz1 body n) x1
theorem lz1_I {A1 β : Type} {body : (A1 → Option β) → A1 → Option β} {r : β} (G : A1 → Prop) (hs : ∀ (f : A1 → Option β), (∀ (x1 : A1), f x1 = some r → G x1) → ∀ (x1 : A1), body f x1 = some r → G x1) : ∀ (n : Nat) (x1 : A1), lz1 body n x1 = some r → G x1
  | 0, _, h => by cases h
  | n + 1, x1, h => hs (lz1 body n) (lz1_I G hs n) x1 h
theorem lz1_E {A1 β : Type} {body : (A1 → Option β) → A1 → Option β} {r : β} {n : Nat} {x1 : A1} (G : A1 → Prop) (h : lz1 body n x1 = some r) (hs : ∀ (f : A1 → Option β), (∀ (x1 : A1), f x1 = some r → G x1) → ∀ (x1 : A1), body f x1 = some r → G x1) : G x1 := lz1_I G hs n x1 h
def lz2 {A1 A2 β : Type} (body : (A1 → A2 → Option β) → A1 → A2 → Option β) : Nat → A1 → A2 → Option β
  | 0, _, _ => none
  | n + 1, x1, x2 => body (lz2 body n) x1 x2
theorem lz2_I {A1 A2 β : Type} {body : (A1 → A2 → Option β) → A1 → A2 → Option β} {r : β} (G : A1 → A2 → Prop) (hs : ∀ (f : A1 → A2 → Option β), (∀ (x1 : A1) (x2 : A2), f x1 x2 = some r → G x1 x2) → ∀ (x1 : A1) (x2 : A2), body f x1 x2 = some r → G x1 x2) : ∀ (n : Nat) (x1 : A1) (x2 : A2), lz2 body n x1 x2 = some r → G x1 x2
  | 0, _, _, h => by cases h
  | n + 1, x1, x2, h => hs (lz2 body n) (lz2_I G hs n) x1 x2 h
theorem lz2_E {A1 A2 β : Type} {body : (A1 → A2 → Option β) → A1 → A2 → Option β} {r : β} {n : Nat} {x1 : A1} {x2 : A2} (G : A1 → A2 → Prop) (h : lz2 body n x1 x2 = some r) (hs : ∀ (f : A1 → A2 → Option β), (∀ (x1 : A1) (x2 : A2), f x1 x2 = some r → G x1 x2) → ∀ (x1 : A1) (x2 : A2), body f x1 x2 = some r → G x1 x2) : G x1 x2 := lz2_I G hs n x1 x2 h
def lz3 {A1 A2 A3 β : Type} (body : (A1 → A2 → A3 → Option β) → A1 → A2 → A3 → Option β) : Nat → A1 → A2 → A3 → Option β
  | 0, _, _, _ => none
  | n + 1, x1, x2, x3 => body (lz3 body n) x1 x2 x3
theorem lz3_I {A1 A2 A3 β : Type} {body : (A1 → A2 → A3 → Option β) → A1 → A2 → A3 → Option β} {r : β} (G : A1 → A2 → A3 → Prop) (hs : ∀ (f : A1 → A2 → A3 → Option β), (∀ (x1 : A1) (x2 : A2) (x3 : A3), f x1 x2 x3 = some r → G x1 x2 x3) → ∀ (x1 : A1) (x2 : A2) (x3 : A3), body f x1 x2 x3 = some r → G x1 x2 x3) : ∀ (n : Nat) (x1 : A1) (x2 : A2) (x3 : A3), lz3 body n x1 x2 x3 = some r → G x1 x2 x3
  | 0, _, _, _, h => by cases h
  | n + 1, x1, x2, x3, h => hs (lz3 body n) (lz3_I G hs n) x1 x2 x3 h
theorem lz3_E {A1 A2 A3 β : Type} {body : (A1 → A2 → A3 → Option β) → A1 → A2 → A3 → Option β} {r : β} {n : Nat} {x1 : A1} {x2 : A2} {x3 : A3} (G : A1 → A2 → A3 → Prop) (h : lz3 body n x1 x2 x3 = some r) (hs : ∀ (f : A1 → A2 → A3 → Option β), (∀ (x1 : A1) (x2 : A2) (x3 : A3), f x1 x2 x3 = some r → G x1 x2 x3) → ∀ (x1 : A1) (x2 : A2) (x3 : A3), body f x1 x2 x3 = some r → G x1 x2 x3) : G x1 x2 x3 := lz3_I G hs n x1 x2 x3 h
def lz4 {A1 A2 A3 A4 β : Type} (body : (A1 → A2 → A3 → A4 → Option β) → A1 → A2 → A3 → A4 → Option β) : Nat → A1 → A2 → A3 → A4 → Option β
  | 0, _, _, _, _ => none
  | n + 1, x1, x2, x3, x4 => body (lz4 body n) x1 x2 x3 x4
theorem lz4_I {A1 A2 A3 A4 β : Type} {body : (A1 → A2 → A3 → A4 → Option β) → A1 → A2 → A3 → A4 → Option β} {r : β} (G : A1 → A2 → A3 → A4 → Prop) (hs : ∀ (f : A1 → A2 → A3 → A4 → Option β), (∀ (x1 : A1) (x2 : A2) (x3 : A3) (x4 : A4), f x1 x2 x3 x4 = some r → G x1 x2 x3 x4) → ∀ (x1 : A1) (x2 : A2) (x3 : A3) (x4 : A4), body f x1 x2 x3 x4 = some r → G x1 x2 x3 x4) : ∀ (n : Nat) (x1 : A1) (x2 : A2) (x3 : A3) (x4 : A4), lz4 body n x1 x2 x3 x4 = some r → G x1 x2 x3 x4
  | 0, _, _, _, _, h => by cases h
  | n + 1, x1, x2, x3, x4, h => hs (lz4 body n) (lz4_I G hs n) x1 x2 x3 x4 h
theorem lz4_E {A1 A2 A3 A4 β : Type} {body : (A1 → A2 → A3 → A4 → Option β) → A1 → A2 → A3 → A4 → Option β} {r : β} {n : Nat} {x1 : A1} {x2 : A2} {x3 : A3} {x4 : A4} (G : A1 → A2 → A3 → A4 → Prop) (h : lz4 body n x1 x2 x3 x4 = some r) (hs : ∀ (f : A1 → A2 → A3 → A4 → Option β), (∀ (x1 : A1) (x2 : A2) (x3 : A3) (x4 : A4), f x1 x2 x3 x4 = some r → G x1 x2 x3 x4) → ∀ (x1 : A1) (x2 : A2) (x3 : A3) (x4 : A4), body f x1 x2 x3 x4 = some r → G x1 x2 x3 x4) : G x1 x2 x3 x4 := lz4_I G hs n x1 x2 x3 x4 h
def lz5 {A1 A2 A3 A4 A5 β : Type} (body : (A1 → A2 → A3 → A4 → A5 → Option β) → A1 → A2 → A3 → A4 → A5 → Option β) : Nat → A1 → A2 → A3 → A4 → A5 → Option β
  | 0, _, _, _, _, _ => none
  | n + 1, x1, x2, x3, x4, x5 => body (lz5 body n) x1 x2 x3 x4 x5
theorem lz5_I {A1 A2 A3 A4 A5 β : Type} {body : (A1 → A2 → A3 → A4 → A5 → Option β) → A1 → A2 → A3 → A4 → A5 → Option β} {r : β} (G : A1 → A2 → A3 → A4 → A5 → Prop) (hs : ∀ (f : A1 → A2 → A3 → A4 → A5 → Option β), (∀ (x1 : A1) (x2 : A2) (x3 : A3) (x4 : A4) (x5 : A5), f x1 x2 x3 x4 x5 = some r → G x1 x2 x3 x4 x5) → ∀ (x1 : A1) (x2 : A2) (x3 : A3) (x4 : A4) (x5 : A5), body f x1 x2 x3 x4 x5 = some r → G x1 x2 x3 x4 x5) : ∀ (n : Nat) (x1 : A1) (x2 : A2) (x3 : A3) (x4 : A4) (x5 : A5), lz5 body n x1 x2 x3 x4 x5 = some r → G x1 x2 x3 x4 x5
  | 0, _, _, _, _, _, h => by cases h
  | n + 1, x1, x2, x3, x4, x5, h => hs (lz5 body n) (lz5_I G hs n) x1 x2 x3 x4 x5 h
theorem lz5_E {A1 A2 A3 A4 A5 β : Type} {body : (A1 → A2 → A3 → A4 → A5 → Option β) → A1 → A2 → A3 → A4 → A5 → Option β} {r : β} {n : Nat} {x1 : A1} {x2 : A2} {x3 : A3} {x4 : A4} {x5 : A5} (G : A1 → A2 → A3 → A4 → A5 → Prop) (h : lz5 body n x1 x2 x3 x4 x5 = some r) (hs : ∀ (f : A1 → A2 → A3 → A4 → A5 → Option β), (∀ (x1 : A1) (x2 : A2) (x3 : A3) (x4 : A4) (x5 : A5), f x1 x2 x3 x4 x5 = some r → G x1 x2 x3 x4 x5) → ∀ (x1 : A1) (x2 : A2) (x3 : A3) (x4 : A4) (x5 : A5), body f x1 x2 x3 x4 x5 = some r → G x1 x2 x3 x4 x5) : G x1 x2 x3 x4 x5 := lz5_I G hs n x1 x2 x3 x4 x5 h
def lz6 {A1 A2 A3 A4 A5 A6 β : Type} (body : (A1 → A2 → A3 → A4 → A5 → A6 → Option β) → A1 → A2 → A3 → A4 → A5 → A6 → Option β) : Nat → A1 → A2 → A3 → A4 → A5 → A6 → Option β
  | 0, _, _, _, _, _, _ => none
  | n + 1, x1, x2, x3, x4, x5, x6 => body (lz6 body n) x1 x2 x3 x4 x5 x6
theorem lz6_I {A1 A2 A3 A4 A5 A6 β : Type} {body : (A1 → A2 → A3 → A4 → A5 → A6 → Option β) → A1 → A2 → A3 → A4 → A5 → A6 → Option β} {r : β} (G : A1 → A2 → A3 → A4 → A5 → A6 → Prop) (hs : ∀ (f : A1 → A2 → A3 → A4 → A5 → A6 → Option β), (∀ (x1 : A1) (x2 : A2) (x3 : A3) (x4 : A4) (x5 : A5) (x6 : A6), f x1 x2 x3 x4 x5 x6 = some r → G x1 x2 x3 x4 x5 x6) → ∀ (x1 : A1) (x2 : A2) (x3 : A3) (x4 : A4) (x5 : A5) (x6 : A6), body f x1 x2 x3 x4 x5 x6 = some r → G x1 x2 x3 x4 x5 x6) : ∀ (n : Nat) (x1 : A1) (x2 : A2) (x3 : A3) (x4 : A4) (x5 : A5) (x6 : A6), lz6 body n x1 x2 x3 x4 x5 x6 = some r → G x1 x2 x3 x4 x5 x6
  | 0, _, _, _, _, _, _, h => by cases h
  | n + 1, x1, x2, x3, x4, x5, x6, h => hs (lz6 body n) (lz6_I G hs n) x1 x2 x3 x4 x5 x6 h
theorem lz6_E {A1 A2 A3 A4 A5 A6 β : Type} {body : (A1 → A2 → A3 → A4 → A5 → A6 → Option β) → A1 → A2 → A3 → A4 → A5 → A6 → Option β} {r : β} {n : Nat} {x1 : A1} {x2 : A2} {x3 : A3} {x4 : A4} {x5 : A5} {x6 : A6} (G : A1 → A2 → A3 → A4 → A5 → A6 → Prop) (h : lz6 body n x1 x2 x3 x4 x5 x6 = some r) (hs : ∀ (f : A1 → A2 → A3 → A4 → A5 → A6 → Option β), (∀ (x1 : A1) (x2 : A2) (x3 : A3) (x4 : A4) (x5 : A5) (x6 : A6), f x1 x2 x3 x4 x5 x6 = some r → G x1 x2 x3 x4 x5 x6) → ∀ (x1 : A1) (x2 : A2) (x3 : A3) (x4 : A4) (x5 : A5) (x6 : A6), body f x1 x2 x3 x4 x5 x6 = some r → G x1 x2 x3 x4 x5 x6) : G x1 x2 x3 x4 x5 x6 := lz6_I G hs n x1 x2 x3 x4 x5 x6 h
def lz7 {A1 A2 A3 A4 A5 A6 A7 β : Type} (body : (A1 → A2 → A3 → A4 → A5 → A6 → A7 → Option β) → A1 → A2 → A3 → A4 → A5 → A6 → A7 → Option β) : Nat → A1 → A2 → A3 → A4 → A5 → A6 → A7 → Option β
  | 0, _, _, _, _, _, _, _ => none
  | n + 1, x1, x2, x3, x4, x5, x6, x7 => body (lz7 body n) x1 x2 x3 x4 x5 x6 x7
theorem lz7_I {A1 A2 A3 A4 A5 A6 A7 β : Type} {body : (A1 → A2 → A3 → A4 → A5 → A6 → A7 → Option β) → A1 → A2 → A3 → A4 → A5 → A6 → A7 → Option β} {r : β} (G : A1 → A2 → A3 → A4 → A5 → A6 → A7 → Prop) (hs : ∀ (f : A1 → A2 → A3 → A4 → A5 → A6 → A7 → Option β), (∀ (x1 : A1) (x2 : A2) (x3 : A3) (x4 : A4) (x5 : A5) (x6 : A6) (x7 : A7), f x1 x2 x3 x4 x5 x6 x7 = some r → G x1 x2 x3 x4 x5 x6 x7) → ∀ (x1 : A1) (x2 : A2) (x3 : A3) (x4 : A4) (x5 : A5) (x6 : A6) (x7 : A7), body f x1 x2 x3 x4 x5 x6 x7 = some r → G x1 x2 x3 x4 x5 x6 x7) : ∀ (n : Nat) (x1 : A1) (x2 : A2) (x3 : A3) (x4 : A4) (x5 : A5) (x6 : A6) (x7 : A7), lz7 body n x1 x2 x3 x4 x5 x6 x7 = some r → G x1 x2 x3 x4 x5 x6 x7
  | 0, _, _, _, _, _, _, _, h => by cases h
  | n + 1, x1, x2, x3, x4, x5, x6, x7, h => hs (lz7 body n) (lz7_I G hs n) x1 x2 x3 x4 x5 x6 x7 h
theorem lz7_E {A1 A2 A3 A4 A5 A6 A7 β : Type} {body : (A1 → A2 → A3 → A4 → A5 → A6 → A7 → Option β) → A1 → A2 → A3 → A4 → A5 → A6 → A7 → Option β} {r : β} {n : Nat} {x1 : A1} {x2 : A2} {x3 : A3} {x4 : A4} {x5 : A5} {x6 : A6} {x7 : A7} (G : A1 → A2 → A3 → A4 → A5 → A6 → A7 → Prop) (h : lz7 body n x1 x2 x3 x4 x5 x6 x7 = some r) (hs : ∀ (f : A1 → A2 → A3 → A4 → A5 → A6 → A7 → Option β), (∀ (x1 : A1) (x2 : A2) (x3 : A3) (x4 : A4) (x5 : A5) (x6 : A6) (x7 : A7), f x1 x2 x3 x4 x5 x6 x7 = some r → G x1 x2 x3 x4 x5 x6 x7) → ∀ (x1 : A1) (x2 : A2) (x3 : A3) (x4 : A4) (x5 : A5) (x6 : A6) (x7 : A7), body f x1 x2 x3 x4 x5 x6 x7 = some r → G x1 x2 x3 x4 x5 x6 x7) : G x1 x2 x3 x4 x5 x6 x7 := lz7_I G hs n x1 x2 x3 x4 x5 x6 x7 h
def lz8 {A1 A2 A3 A4 A5 A6 A7 A8 β : Type} (body : (A1 → A2 → A3 → A4 → A5 → A6 → A7 → A8 → Option β) → A1 → A2 → A3 → A4 → A5 → A6 → A7 → A8 → Option β) : Nat → A1 → A2 → A3 → A4 → A5 → A6 → A7 → A8 → Option β
  | 0, _, _, _, _, _, _, _, _ => none
  | n + 1, x1, x2, x3, x4, x5, x6, x7, x8 => body (lz8 body n) x1 x2 x3 x4 x5 x6 x7 x8
theorem lz8_I {A1 A2 A3 A4 A5 A6 A7 A8 β : Type} {body : (A1 → A2 → A3 → A4 → A5 → A6 → A7 → A8 → Option β) → A1 → A2 → A3 → A4 → A5 → A6 → A7 → A8 → Option β} {r : β} (G : A1 → A2 → A3 → A4 → A5 → A6 → A7 → A8 → Prop) (hs : ∀ (f : A1 → A2 → A3 → A4 → A5 → A6 → A7 → A8 → Option β), (∀ (x1 : A1) (x2 : A2) (x3 : A3) (x4 : A4) (x5 : A5) (x6 : A6) (x7 : A7) (x8 : A8), f x1 x2 x3 x4 x5 x6 x7 x8 = some r → G x1 x2 x3 x4 x5 x6 x7 x8) → ∀ (x1 : A1) (x2 : A2) (x3 : A3) (x4 : A4) (x5 : A5) (x6 : A6) (x7 : A7) (x8 : A8), body f x1 x2 x3 x4 x5 x6 x7 x8 = some r → G x1 x2 x3 x4 x5 x6 x7 x8) : ∀ (n : Nat) (x1 : A1) (x2 : A2) (x3 : A3) (x4 : A4) (x5 : A5) (x6 : A6) (x7 : A7) (x8 : A8), lz8 body n x1 x2 x3 x4 x5 x6 x7 x8 = some r → G x1 x2 x3 x4 x5 x6 x7 x8
  | 0, _, _, _, _, _, _, _, _, h => by cases h
  | n + 1, x1, x2, x3, x4, x5, x6, x7, x8, h => hs (lz8 body n) (lz8_I G hs n) x1 x2 x3 x4 x5 x6 x7 x8 h
theorem lz8_E {A1 A2 A3 A4 A5 A6 A7 A8 β : Type} {body : (A1 → A2 → A3 → A4 → A5 → A6 → A7 → A8 → Option β) → A1 → A2 → A3 → A4 → A5 → A6 → A7 → A8 → Option β} {r : β} {n : Nat} {x1 : A1} {x2 : A2} {x3 : A3} {x4 : A4} {x5 : A5} {x6 : A6} {x7 : A7} {x8 : A8} (G : A1 → A2 → A3 → A4 → A5 → A6 → A7 → A8 → Prop) (h : lz8 body n x1 x2 x3 x4 x5 x6 x7 x8 = some r) (hs : ∀ (f : A1 → A2 → A3 → A4 → A5 → A6 → A7 → A8 → Option β), (∀ (x1 : A1) (x2 : A2) (x3 : A3) (x4 : A4) (x5 : A5) (x6 : A6) (x7 : A7) (x8 : A8), f x1 x2 x3 x4 x5 x6 x7 x8 = some r → G x1 x2 x3 x4 x5 x6 x7 x8) → ∀ (x1 : A1) (x2 : A2) (x3 : A3) (x4 : A4) (x5 : A5) (x6 : A6) (x7 : A7) (x8 : A8), body f x1 x2 x3 x4 x5 x6 x7 x8 = some r → G x1 x2 x3 x4 x5 x6 x7 x8) : G x1 x2 x3 x4 x5 x6 x7 x8 := lz8_I G hs n x1 x2 x3 x4 x5 x6 x7 x8 h
def lz9 {A1 A2 A3 A4 A5 A6 A7 A8 A9 β : Type} (body : (A1 → A2 → A3 → A4 → A5 → A6 → A7 → A8 → A9 → Option β) → A1 → A2 → A3 → A4 → A5 → A6 → A7 → A8 → A9 → Option β) : Nat → A1 → A2 → A3 → A4 → A5 → A6 → A7 → A8 → A9 → Option β
  | 0, _, _, _, _, _, _, _, _, _ => none
  | n + 1, x1, x2, x3, x4, x5, x6, x7, x8, x9 => body (lz9 body n) x1 x2 x3 x4 x5 x6 x7 x8 x9
theorem lz9_I {A1 A2 A3 A4 A5 A6 A7 A8 A9 β : Type} {body : (A1 → A2 → A3 → A4 → A5 → A6 → A7 → A8 → A9 → Option β) → A1 → A2 → A3 → A4 → A5 → A6 → A7 → A8 → A9 → Option β} {r : β} (G : A1 → A2 → A3 → A4 → A5 → A6 → A7 → A8 → A9 → Prop) (hs : ∀ (f : A1 → A2 → A3 → A4 → A5 → A6 → A7 → A8 → A9 → Option β), (∀ (x1 : A1) (x2 : A2) (x3 : A3) (x4 : A4) (x5 : A5) (x6 : A6) (x7 : A7) (x8 : A8) (x9 : A9), f x1 x2 x3 x4 x5 x6 x7 x8 x9 = some r → G x1 x2 x3 x4 x5 x6 x7 x8 x9) → ∀ (x1 : A1) (x2 : A2) (x3 : A3) (x4 : A4) (x5 : A5) (x6 : A6) (x7 : A7) (x8 : A8) (x9 : A9), body f x1 x2 x3 x4 x5 x6 x7 x8 x9 = some r → G x1 x2 x3 x4 x5 x6 x7 x8 x9) : ∀ (n : Nat) (x1 : A1) (x2 : A2) (x3 : A3) (x4 : A4) (x5 : A5) (x6 : A6) (x7 : A7) (x8 : A8) (x9 : A9), lz9 body n x1 x2 x3 x4 x5 x6 x7 x8 x9 = some r → G x1 x2 x3 x4 x5 x6 x7 x8 x9
  | 0, _, _, _, _, _, _, _, _, _, h => by cases h
  | n + 1, x1, x2, x3, x4, x5, x6, x7, x8, x9, h => hs (lz9 body n) (lz9_I G hs n) x1 x2 x3 x4 x5 x6 x7 x8 x9 h
theorem lz9_E {A1 A2 A3 A4 A5 A6 A7 A8 A9 β : Type} {body : (A1 → A2 → A3 → A4 → A5 → A6 → A7 → A8 → A9 → Option β) → A1 → A2 → A3 → A4 → A5 → A6 → A7 → A8 → A9 → Option β} {r : β} {n : Nat} {x1 : A1} {x2 : A2} {x3 : A3} {x4 : A4} {x5 : A5} {x6 : A6} {x7 : A7} {x8 : A8} {x9 : A9} (G : A1 → A2 → A3 → A4 → A5 → A6 → A7 → A8 → A9 → Prop) (h : lz9 body n x1 x2 x3 x4 x5 x6 x7 x8 x9 = some r) (hs : ∀ (f : A1 → A2 → A3 → A4 → A5 → A6 → A7 → A8 → A9 → Option β), (∀ (x1 : A1) (x2 : A2) (x3 : A3) (x4 : A4) (x5 : A5) (x6 : A6) (x7 : A7) (x8 : A8) (x9 : A9), f x1 x2 x3 x4 x5 x6 x7 x8 x9 = some r → G x1 x2 x3 x4 x5 x6 x7 x8 x9) → ∀ (x1 : A1) (x2 : A2) (x3 : A3) (x4 : A4) (x5 : A5) (x6 : A6) (x7 : A7) (x8 : A8) (x9 : A9), body f x1 x2 x3 x4 x5 x6 x7 x8 x9 = some r → G x1 x2 x3 x4 x5 x6 x7 x8 x9) : G x1 x2 x3 x4 x5 x6 x7 x8 x9 := lz9_I G hs n x1 x2 x3 x4 x5 x6 x7 x8 x9 h
theorem jn0_E { β : Type} {k : Option β} {body : (Option β) → Option β} {r : β} {G : Prop} (T : Prop) (h : jn k body = some r) (ht : k  = some r → T ) (hb : ∀ f : Option β, (f  = some r → T ) → body f = some r → G) : G := hb k ht h
theorem jn1_E {A1 β : Type} {k : A1 → Option β} {body : (A1 → Option β) → Option β} {r : β} {G : Prop} (T : A1 → Prop) (h : jn k body = some r) (ht : ∀ (x1 : A1), k x1 = some r → T x1) (hb : ∀ f : A1 → Option β, (∀ (x1 : A1), f x1 = some r → T x1) → body f = some r → G) : G := hb k ht h
theorem jn2_E {A1 A2 β : Type} {k : A1 → A2 → Option β} {body : (A1 → A2 → Option β) → Option β} {r : β} {G : Prop} (T : A1 → A2 → Prop) (h : jn k body = some r) (ht : ∀ (x1 : A1) (x2 : A2), k x1 x2 = some r → T x1 x2) (hb : ∀ f : A1 → A2 → Option β, (∀ (x1 : A1) (x2 : A2), f x1 x2 = some r → T x1 x2) → body f = some r → G) : G := hb k ht h
theorem jn3_E {A1 A2 A3 β : Type} {k : A1 → A2 → A3 → Option β} {body : (A1 → A2 → A3 → Option β) → Option β} {r : β} {G : Prop} (T : A1 → A2 → A3 → Prop) (h : jn k body = some r) (ht : ∀ (x1 : A1) (x2 : A2) (x3 : A3), k x1 x2 x3 = some r → T x1 x2 x3) (hb : ∀ f : A1 → A2 → A3 → Option β, (∀ (x1 : A1) (x2 : A2) (x3 : A3), f x1 x2 x3 = some r → T x1 x2 x3) → body f = some r → G) : G := hb k ht h
theorem jn4_E {A1 A2 A3 A4 β : Type} {k : A1 → A2 → A3 → A4 → Option β} {body : (A1 → A2 → A3 → A4 → Option β) → Option β} {r : β} {G : Prop} (T : A1 → A2 → A3 → A4 → Prop) (h : jn k body = some r) (ht : ∀ (x1 : A1) (x2 : A2) (x3 : A3) (x4 : A4), k x1 x2 x3 x4 = some r → T x1 x2 x3 x4) (hb : ∀ f : A1 → A2 → A3 → A4 → Option β, (∀ (x1 : A1) (x2 : A2) (x3 : A3) (x4 : A4), f x1 x2 x3 x4 = some r → T x1 x2 x3 x4) → body f = some r → G) : G := hb k ht h
theorem jn5_E {A1 A2 A3 A4 A5 β : Type} {k : A1 → A2 → A3 → A4 → A5 → Option β} {body : (A1 → A2 → A3 → A4 → A5 → Option β) → Option β} {r : β} {G : Prop} (T : A1 → A2 → A3 → A4 → A5 → Prop) (h : jn k body = some r) (ht : ∀ (x1 : A1) (x2 : A2) (x3 : A3) (x4 : A4) (x5 : A5), k x1 x2 x3 x4 x5 = some r → T x1 x2 x3 x4 x5) (hb : ∀ f : A1 → A2 → A3 → A4 → A5 → Option β, (∀ (x1 : A1) (x2 : A2) (x3 : A3) (x4 : A4) (x5 : A5), f x1 x2 x3 x4 x5 = some r → T x1 x2 x3 x4 x5) → body f = some r → G) : G := hb k ht h
theorem jn6_E {A1 A2 A3 A4 A5 A6 β : Type} {k : A1 → A2 → A3 → A4 → A5 → A6 → Option β} {body : (A1 → A2 → A3 → A4 → A5 → A6 → Option β) → Option β} {r : β} {G : Prop} (T : A1 → A2 → A3 → A4 → A5 → A6 → Prop) (h : jn k body = some r) (ht : ∀ (x1 : A1) (x2 : A2) (x3 : A3) (x4 : A4) (x5 : A5) (x6 : A6), k x1 x2 x3 x4 x5 x6 = some r → T x1 x2 x3 x4 x5 x6) (hb : ∀ f : A1 → A2 → A3 → A4 → A5 → A6 → Option β, (∀ (x1 : A1) (x2 : A2) (x3 : A3) (x4 : A4) (x5 : A5) (x6 : A6), f x1 x2 x3 x4 x5 x6 = some r → T x1 x2 x3 x4 x5 x6) → body f = some r → G) : G := hb k ht h
theorem jn7_E {A1 A2 A3 A4 A5 A6 A7 β : Type} {k : A1 → A2 → A3 → A4 → A5 → A6 → A7 → Option β} {body : (A1 → A2 → A3 → A4 → A5 → A6 → A7 → Option β) → Option β} {r : β} {G : Prop} (T : A1 → A2 → A3 → A4 → A5 → A6 → A7 → Prop) (h : jn k body = some r) (ht : ∀ (x1 : A1) (x2 : A2) (x3 : A3) (x4 : A4) (x5 : A5) (x6 : A6) (x7 : A7), k x1 x2 x3 x4 x5 x6 x7 = some r → T x1 x2 x3 x4 x5 x6 x7) (hb : ∀ f : A1 → A2 → A3 → A4 → A5 → A6 → A7 → Option β, (∀ (x1 : A1) (x2 : A2) (x3 : A3) (x4 : A4) (x5 : A5) (x6 : A6) (x7 : A7), f x1 x2 x3 x4 x5 x6 x7 = some r → T x1 x2 x3 x4 x5 x6 x7) → body f = some r → G) : G := hb k ht h
theorem jn8_E {A1 A2 A3 A4 A5 A6 A7 A8 β : Type} {k : A1 → A2 → A3 → A4 → A5 → A6 → A7 → A8 → Option β} {body : (A1 → A2 → A3 → A4 → A5 → A6 → A7 → A8 → Option β) → Option β} {r : β} {G : Prop} (T : A1 → A2 → A3 → A4 → A5 → A6 → A7 → A8 → Prop) (h : jn k body = some r) (ht : ∀ (x1 : A1) (x2 : A2) (x3 : A3) (x4 : A4) (x5 : A5) (x6 : A6) (x7 : A7) (x8 : A8), k x1 x2 x3 x4 x5 x6 x7 x8 = some r → T x1 x2 x3 x4 x5 x6 x7 x8) (hb : ∀ f : A1 → A2 → A3 → A4 → A5 → A6 → A7 → A8 → Option β, (∀ (x1 : A1) (x2 : A2) (x3 : A3) (x4 : A4) (x5 : A5) (x6 : A6) (x7 : A7) (x8 : A8), f x1 x2 x3 x4 x5 x6 x7 x8 = some r → T x1 x2 x3 x4 x5 x6 x7 x8) → body f = some r → G) : G := hb k ht h
theorem jn9_E {A1 A2 A3 A4 A5 A6 A7 A8 A9 β : Type} {k : A1 → A2 → A3 → A4 → A5 → A6 → A7 → A8 → A9 → Option β} {body : (A1 → A2 → A3 → A4 → A5 → A6 → A7 → A8 → A9 → Option β) → Option β} {r : β} {G : Prop} (T : A1 → A2 → A3 → A4 → A5 → A6 → A7 → A8 → A9 → Prop) (h : jn k body = some r) (ht : ∀ (x1 : A1) (x2 : A2) (x3 : A3) (x4 : A4) (x5 : A5) (x6 : A6) (x7 : A7) (x8 : A8) (x9 : A9), k x1 x2 x3 x4 x5 x6 x7 x8 x9 = some r → T x1 x2 x3 x4 x5 x6 x7 x8 x9) (hb : ∀ f : A1 → A2 → A3 → A4 → A5 → A6 → A7 → A8 → A9 → Option β, (∀ (x1 : A1) (x2 : A2) (x3 : A3) (x4 : A4) (x5 : A5) (x6 : A6) (x7 : A7) (x8 : A8) (x9 : A9), f x1 x2 x3 x4 x5 x6 x7 x8 x9 = some r → T x1 x2 x3 x4 x5 x6 x7 x8 x9) → body f = some r → G) : G := hb k ht h
