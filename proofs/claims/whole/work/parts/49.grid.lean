/-! new T[n][k], by its model: the outer row first, then a row and its place, n times -/
def mg_out (c : ClassId) (n h i : Nat) : Cell := arrV c n (fun j => if j < i then .ref (h + 1 + j) else .null)
def mg (s : State) (c comp : ClassId) (n k : Nat) (dv : Value) : Nat → State
  | 0 => s.pushCell (mg_out c n s.heap.size 0)
  | i + 1 => ((mg s c comp n k dv i).pushCell (arrV comp k (fun _ => dv))).setCell s.heap.size (mg_out c n s.heap.size (i + 1))
theorem mg_out_0 (c : ClassId) (n h : Nat) : ({ cls := c, slots := Array.replicate n .null, vm := .none } : Cell) = mg_out c n h 0 := by
  rw [arrV_new]
  unfold mg_out
  congr 1
theorem mg_out_s (c : ClassId) (n h i : Nat) : (mg_out c n h i).setSlot i (.ref (h + 1 + i)) = mg_out c n h (i + 1) := by
  unfold mg_out
  rw [arrV_store]
  congr 1
  funext j
  unfold updV
  by_cases e : j = i
  · subst e
    rw [if_pos rfl, if_pos (Nat.lt_succ_self j)]
  · rw [if_neg e]
    show (if j < i then Value.ref (h + 1 + j) else Value.null) = _
    by_cases q : j < i
    · rw [if_pos q, if_pos (Nat.lt_succ_of_lt q)]
    · rw [if_neg q, if_neg (by omega)]
theorem mg_facts (s : State) (c comp : ClassId) (n k : Nat) (dv : Value) (i : Nat) : (mg s c comp n k dv i).heap.size = s.heap.size + 1 + i ∧ (mg s c comp n k dv i).vm = s.vm ∧ (mg s c comp n k dv i).slotsUsed = s.slotsUsed + n + i * k ∧ (mg s c comp n k dv i).heap[s.heap.size]? = some (mg_out c n s.heap.size i) ∧
    (∀ a, a < s.heap.size → (mg s c comp n k dv i).heap[a]? = s.heap[a]?) ∧ ∀ j, j < i → (mg s c comp n k dv i).heap[s.heap.size + 1 + j]? = some (arrV comp k (fun _ => dv)) := by
  induction i with
  | zero =>
    refine ⟨by simp [mg], rfl, ?_, ?_, fun a ha => State.heap_pushCell_of_lt _ _ ha, fun j hj => absurd hj (Nat.not_lt_zero j)⟩
    · show s.slotsUsed + (mg_out c n s.heap.size 0).slots.size = _
      rw [show (mg_out c n s.heap.size 0).slots.size = n from arrV_size _ _ _]
      omega
    · exact State.heap_pushCell_size _ _
  | succ i ih =>
    obtain ⟨z, v, u, o, old, inn⟩ := ih
    rw [show mg s c comp n k dv (i + 1) = ((mg s c comp n k dv i).pushCell (arrV comp k (fun _ => dv))).setCell s.heap.size (mg_out c n s.heap.size (i + 1)) from rfl]
    generalize mg s c comp n k dv i = t at z v u o old inn ⊢
    have hlt : s.heap.size < t.heap.size := by omega
    have ho : (t.pushCell (arrV comp k (fun _ => dv))).heap[s.heap.size]? = some (mg_out c n s.heap.size i) := by rw [State.heap_pushCell_of_lt _ _ hlt]; exact o
    refine ⟨?_, v, ?_, State.heap_setCell_self ho, fun a ha => ?_, fun j hj => ?_⟩
    · simp [State.setCell, z]
      omega
    · show t.slotsUsed + (arrV comp k (fun _ => dv)).slots.size = _
      rw [arrV_size, u, Nat.succ_mul]
      omega
    · have h1 : a < t.heap.size := by omega
      rw [State.heap_setCell_other (Nat.ne_of_gt ha), State.heap_pushCell_of_lt _ _ h1]
      exact old a ha
    · rw [State.heap_setCell_other (show s.heap.size ≠ s.heap.size + 1 + j by omega)]
      rcases Nat.lt_or_ge j i with q | q
      · have h1 : s.heap.size + 1 + j < t.heap.size := by omega
        rw [State.heap_pushCell_of_lt _ _ h1]
        exact inn j q
      · have e : s.heap.size + 1 + j = t.heap.size := by omega
        rw [e]
        exact State.heap_pushCell_size _ _
theorem mg_top (s : State) (f : JFrame) (c comp : ClassId) (n k : Nat) (dv : Value) (i : Nat) : mg (s.setTop f) c comp n k dv i = (mg s c comp n k dv i).setTop f := by
  induction i with
  | zero => rfl
  | succ i ih =>
    show ((mg (s.setTop f) c comp n k dv i).pushCell _).setCell _ _ = State.setTop (((mg s c comp n k dv i).pushCell _).setCell _ _) f
    rw [ih, State.heap_setTop, State.pushCell_setTop, State.setCell_setTop]
section MG
variable {p : Program} {l : Launch} {e : Env} {R : Room} {s : State} {m : MethodId} {args : Array Value} {below : List Frame} {meth : Method} {c : Code} {T : State} {locs : List Loc} {cells slots : Nat}
theorem mg_stand (X : Stand p l e R s m args below meth c T locs cells slots) (cA comp : ClassId) (n k : Nat) (dv : Value) (hg : s.heap.size ≤ T.heap.size) (i : Nat) : Stand p l e R s m args below meth c (mg T cA comp n k dv i) locs (cells + 1 + i) (slots + n + i * k) := by
  induction i with
  | zero =>
    have h := X.pushed (mg_out cA n T.heap.size 0)
    rw [show (mg_out cA n T.heap.size 0).slots.size = n from arrV_size _ _ _] at h
    simpa [mg] using h
  | succ i ih =>
    obtain ⟨z, -, -, o, -, -⟩ := mg_facts T cA comp n k dv i
    have h := ih.pushed (arrV comp k (fun _ => dv))
    rw [arrV_size] at h
    have hlt : T.heap.size < (mg T cA comp n k dv i).heap.size := by omega
    have ho : ((mg T cA comp n k dv i).pushCell (arrV comp k (fun _ => dv))).heap[T.heap.size]? = some (mg_out cA n T.heap.size i) := by rw [State.heap_pushCell_of_lt _ _ hlt]; exact o
    have h2 := h.stored ho i (.ref (T.heap.size + 1 + i))
    rw [mg_out_s] at h2
    have h3 := Stand.forget (extra := [⟨T.heap.size, i⟩]) h2 (fun y hy => by rw [List.mem_singleton.mp hy]; exact hg)
    rw [show slots + n + (i + 1) * k = slots + n + i * k + k by rw [Nat.succ_mul]; omega]
    exact h3
end MG
section MGW
variable {E : CtlPost} {e : Env} {d : Bool} {acts : List Action} {s : State}
theorem mg_make {c comp cc : ClassId} {kA kC : Class} {ty : FieldType} {a b : Int32} (hkA : s.vm.classes[c]? = some kA) (hA : kA.kind = .array comp (.array ty)) (hkC : s.vm.classes[comp]? = some kC) (hC : kC.kind = .array cc ty) (ha : ¬ a < 0) (hb : ¬ b < 0)
    (l1 : ¬ a.toNatClampNeg > e.platform.arrayLengthLimit) (l2 : ¬ a.toNatClampNeg * componentBytes (.array ty) > e.platform.maxHeapBytes) (l3 : ¬ b.toNatClampNeg > e.platform.arrayLengthLimit) (l4 : ¬ b.toNatClampNeg * componentBytes ty > e.platform.maxHeapBytes) (hf : fits ty (defaultValue ty) = true)
    (r1 : s.heap.size + 1 + a.toNatClampNeg ≤ e.platform.maxCells) (r2 : s.slotsUsed + a.toNatClampNeg + a.toNatClampNeg * b.toNatClampNeg ≤ e.platform.maxSlots)
    {Q : Addr → Pre} (hq : ∀ d1 acts1, Q s.heap.size d1 acts1 (mg s c comp a.toNatClampNeg b.toNatClampNeg (defaultValue ty) a.toNatClampNeg)) : wp (multianewarray.make c [a, b]) Q E e d acts s := by
  generalize hn : a.toNatClampNeg = n at *
  generalize hk : b.toNatClampNeg = k at *
  have hz : 0 ≤ n * k := Nat.zero_le _
  rw [multianewarray.make]
  simp only [wp_bind', W.ite, ha, if_false, wp_pure', W.theClass, hkA, hA, Option.some.injEq, exists_eq_left', hn]
  refine W.newArray_of hkA hA l1 l2 (by omega) (by omega) rfl (fun acts1 => ?_)
  rw [mg_out_0 c n s.heap.size]
  have hfind : ([b].find? (· < 0)) = none := by simp [hb]
  simp only [hfind]
  rw [ite_self, wp_bind', Std.Legacy.Range.forIn_eq_forIn_range']
  rw [show ([:n] : Std.Legacy.Range).size = n by simp [Std.Legacy.Range.size]]
  show wp (forIn (List.range' 0 n 1) PUnit.unit _) _ E e d acts1 _
  refine wp_forIn_inv (fun todo t => ∃ i, i ≤ n ∧ todo = List.range' i (n - i) ∧ t = mg s c comp n k (defaultValue ty) i) _ _ ⟨0, Nat.zero_le _, rfl, rfl⟩ (fun x todo t d1 acts2 Q1 ht next => ?_) (fun t d1 acts2 ht => ?_)
  · obtain ⟨i, hi, hl, rfl⟩ := ht
    have hlt : i < n := by
      rcases Nat.lt_or_ge i n with q | q
      · exact q
      · rw [show n - i = 0 by omega] at hl; cases hl
    rw [show n - i = n - (i + 1) + 1 by omega, List.range'_succ] at hl
    obtain ⟨rfl, hrest⟩ := List.cons.inj hl
    obtain ⟨z, v, u, o, -, -⟩ := mg_facts s c comp n k (defaultValue ty) x
    have hmul : x * k + k ≤ n * k := by
      have := Nat.mul_le_mul_right k (show x + 1 ≤ n from hlt)
      rwa [Nat.succ_mul] at this
    simp only [wp_bind']
    rw [multianewarray.make]
    simp only [wp_bind', W.ite, hb, if_false, wp_pure', W.theClass, v, hkC, hC, Option.some.injEq, exists_eq_left', hk]
    refine W.newArray_of (by rw [v]; exact hkC) hC l3 l4 (by rw [z]; omega) (by rw [u]; omega) hf (fun acts3 => ?_)
    rw [arrV_new]
    simp only [wp_bind', W.writeLoc, wp_pure']
    have hlt0 : s.heap.size < (mg s c comp n k (defaultValue ty) x).heap.size := by omega
    have ho : ((mg s c comp n k (defaultValue ty) x).pushCell (arrV comp k (fun _ => defaultValue ty))).heap[s.heap.size]? = some (mg_out c n s.heap.size x) := by rw [State.heap_pushCell_of_lt _ _ hlt0]; exact o
    refine ⟨mg_out c n s.heap.size x, ho, ?_, ?_, ?_, next _ _ _ ⟨x + 1, hlt, hrest, ?_⟩⟩
    · intro q
      cases q
    · rw [show (mg_out c n s.heap.size x).slots.size = n from arrV_size _ _ _]
      exact hlt
    · show State.fitsSlot _ c .none x _ = true
      simp [State.fitsSlot, State.slotType?, v, hkA, hA, fits]
    · rw [z, mg_out_s]
      rfl
  · obtain ⟨i, hi, hl, rfl⟩ := ht
    have hin : i = n := by
      rcases Nat.lt_or_ge i n with q | q
      · rw [show n - i = n - (i + 1) + 1 by omega, List.range'_succ] at hl; cases hl
      · omega
    subst hin
    simp only [wp_pure']
    exact hq _ _
end MGW
