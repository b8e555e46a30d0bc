theorem od_a6 : ∀ s : Fin 64, od_one 6 s.val = true := by decide +kernel
theorem od_a5 : ∀ s : Fin 32, od_one 5 s.val = true := by decide +kernel
theorem od_a4 : ∀ s : Fin 16, od_one 4 s.val = true := by decide +kernel
theorem od_ok {n s : Nat} (hn : n ≤ 6) (hs : s < 2 ^ n) : od_one n s = true := by
  rcases (show n = 6 ∨ n = 5 ∨ n = 4 ∨ n < 4 by omega) with rfl | rfl | rfl | h
  · exact od_a6 ⟨s, hs⟩
  · exact od_a5 ⟨s, hs⟩
  · exact od_a4 ⟨s, hs⟩
  · have h8 : s < 8 := Nat.lt_of_lt_of_le hs (by rcases (show n = 0 ∨ n = 1 ∨ n = 2 ∨ n = 3 by omega) with rfl | rfl | rfl | rfl <;> decide)
    exact od_all0 ⟨n, h⟩ ⟨s, h8⟩ hs
