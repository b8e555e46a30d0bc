/-! building: worlds as lists; rows for the constructors -/
def su_tys (cy : Nat → ClassId) : List (ClassId × FieldType) := [(cy 7, .byte), (cy 8, .int), (cy 9, .boolean), (cy 10, .object "StrangersWind$Town"), (cy 11, .array .byte), (cy 12, .array .int)]
def su_M (cy : Nat → ClassId) (U : State) : Prop := (∃ k : Class, U.vm.classes[cy 12]? = some k ∧ k.kind = .array (cy 8) (.array .int)) ∧ ∃ k : Class, U.vm.classes[cy 11]? = some k ∧ k.kind = .array (cy 7) (.array .byte)
theorem su_M.moved {cy : Nat → ClassId} {u U : State} (hvm : u.vm.Alike U.vm) (h : su_M cy u) : su_M cy U := by
  obtain ⟨⟨k, h1, h2⟩, j, g1, g2⟩ := h
  obtain ⟨k', hk', he⟩ := hvm.2.2 _ _ h1
  obtain ⟨j', hj', hf⟩ := hvm.2.2 _ _ g1
  exact ⟨⟨k', hk', by rw [he]; exact h2⟩, j', hj', by rw [hf]; exact g2⟩
def su_K (D : va_G) (cy : Nat → ClassId) (U : State) : Prop := va_K D vwCl (su_tys cy) U ∧ va_AO "StrangersWind$Town" U ∧ su_M cy U
theorem su_K.moved {D : va_G} {cy : Nat → ClassId} {u U : State} (hvm : u.vm.Alike U.vm) (h : su_K D cy u) : su_K D cy U := ⟨va_K.moved hvm h.1, va_AO.moved hvm h.2.1, su_M.moved hvm h.2.2⟩
def su_U (p : Program) (l : Launch) (e : Env) (R : Room) (s : State) (m : MethodId) (args : Array Value) (below : List Frame) (meth : Method) (c : Code) (D : va_G) (A : Nat → Prop) (Q : State → Prop) (nL pc : Nat) (lo : List (Nat × Value)) (stk : List Value) (ws : va_W) (cells slots : Nat) : Prop :=
  ∀ (H : Heap) (lcs : List Loc) (ls : Array Slot), va_P D vwCl ws H → va_D A ws → va_S A s.heap H lcs → lv_has ls nL lo → W p l e R s m args below meth c H lcs cells slots Q (F0 m pc ls stk)
def su_Ok (p : Program) (s : State) (m : MethodId) (args : Array Value) (c : Code) (cc : ByteArray) (own : String) (nL : Nat) (D : va_G) (cy : Nat → ClassId) (A : Nat → Prop) : Prop :=
  p.tables.exec = Jvm.exec ∧ c.code = cc ∧ c.maxLocals = nL ∧ s.vm.findClass own = some m.cls ∧ (∀ w ∈ sw_tbl, w.before args s = true) ∧ su_K D cy s ∧ (∀ q, s.heap.size ≤ q → A q)
theorem su_cy {cy : Nat → ClassId} {D : va_G} {U : State} (hK : va_K D vwCl (su_tys cy) U) {t0 : Nat} {cA cB : ClassId} {ty : FieldType} (ht : (su_tys cy)[t0]? = some (cB, ty)) (hn : ∀ C, ty ≠ .object C) (h : U.vm.findClass ("[" ++ ty.toString) = some cA) : cA = cB := by
  have h2 := (hK.2 t0 _ ht).2
  cases ty with
  | object C => exact absurd rfl (hn C)
  | _ => exact Option.some.inj (h.symm.trans h2)
section SUR
variable {p : Program} {l : Launch} {e : Env} {R : Room} {s : State} {m : MethodId} {args : Array Value} {below : List Frame} {meth : Method} {c : Code} {cc : ByteArray} {own : String} {nL : Nat} {D : va_G} {cy : Nat → ClassId} {A : Nat → Prop} {Q : State → Prop} {pc : Nat} {lo : List (Nat × Value)} {rest : List Value} {ws : va_W} {cells slots : Nat}
theorem su_iconst (X : su_Ok p s m args c cc own nL D cy A) {n : Int} {v : Int32} (hv : Int32.ofInt n = v) (dg : decode cc pc = .ok (.iconst n, 1)) (k : su_U p l e R s m args below meth c D A Q nL (pc + 1) lo (.int v :: rest) ws cells slots) : su_U p l e R s m args below meth c D A Q nL pc lo rest ws cells slots := fun H lcs ls hP hD hS hl => lv_iconst X.1 X.2.1 dg hv (k H lcs ls hP hD hS hl)
theorem su_bipush (X : su_Ok p s m args c cc own nL D cy A) {n : Int} {v : Int32} (hv : (Int8.ofInt n).toInt32 = v) (dg : decode cc pc = .ok (.bipush n, 2)) (k : su_U p l e R s m args below meth c D A Q nL (pc + 2) lo (.int v :: rest) ws cells slots) : su_U p l e R s m args below meth c D A Q nL pc lo rest ws cells slots := fun H lcs ls hP hD hS hl => lv_bipush X.1 X.2.1 dg hv (k H lcs ls hP hD hS hl)
theorem su_sipush (X : su_Ok p s m args c cc own nL D cy A) {n : Int} {v : Int32} (hv : (Int16.ofInt n).toInt32 = v) (dg : decode cc pc = .ok (.sipush n, 3)) (k : su_U p l e R s m args below meth c D A Q nL (pc + 3) lo (.int v :: rest) ws cells slots) : su_U p l e R s m args below meth c D A Q nL pc lo rest ws cells slots := fun H lcs ls hP hD hS hl => lv_sipush X.1 X.2.1 dg hv (k H lcs ls hP hD hS hl)
theorem su_lconst (X : su_Ok p s m args c cc own nL D cy A) {n : Fin 2} {v : Int64} (hv : Int64.ofNat n = v) (dg : decode cc pc = .ok (.lconst n, 1)) (k : su_U p l e R s m args below meth c D A Q nL (pc + 1) lo (.long v :: rest) ws cells slots) : su_U p l e R s m args below meth c D A Q nL pc lo rest ws cells slots := fun H lcs ls hP hD hS hl => lv_lconst X.1 X.2.1 dg hv (k H lcs ls hP hD hS hl)
theorem su_iload_n (X : su_Ok p s m args c cc own nL D cy A) (q : Nat) {n : Fin 4} {i : Nat} {x : Int32} (hl0 : lo[q]? = some (i, .int x)) (hi : (n : Nat) = i) (dg : decode cc pc = .ok (.iload_n n, 1)) (k : su_U p l e R s m args below meth c D A Q nL (pc + 1) lo (.int x :: rest) ws cells slots) : su_U p l e R s m args below meth c D A Q nL pc lo rest ws cells slots := fun H lcs ls hP hD hS hl => lv_iload_n X.1 X.2.1 dg hi (lv_at hl q hl0) (k H lcs ls hP hD hS hl)
theorem su_istore_n (X : su_Ok p s m args c cc own nL D cy A) {n : Fin 4} {i : Nat} {x : Int32} (lo1 : List (Nat × Value)) (hi : (n : Nat) = i) (hn : i < nL) (hl1 : (i, Value.int x) :: lo.filter (fun q => !(q.1 == i) && !(q.1 + 1 == i && q.2.category == 2)) = lo1) (dg : decode cc pc = .ok (.istore_n n, 1)) (k : su_U p l e R s m args below meth c D A Q nL (pc + 1) lo1 rest ws cells slots) : su_U p l e R s m args below meth c D A Q nL pc lo (.int x :: rest) ws cells slots := fun H lcs ls hP hD hS hl => lv_istore_n X.1 X.2.1 dg hi hl hn hl1 (fun ls1 hl1 => k H lcs ls1 hP hD hS hl1)
theorem su_aload_n (X : su_Ok p s m args c cc own nL D cy A) (q : Nat) {n : Fin 4} {i : Nat} {x : Nat} (hl0 : lo[q]? = some (i, .ref x)) (hi : (n : Nat) = i) (dg : decode cc pc = .ok (.aload_n n, 1)) (k : su_U p l e R s m args below meth c D A Q nL (pc + 1) lo (.ref x :: rest) ws cells slots) : su_U p l e R s m args below meth c D A Q nL pc lo rest ws cells slots := fun H lcs ls hP hD hS hl => lv_aload_n X.1 X.2.1 dg hi (lv_at hl q hl0) (k H lcs ls hP hD hS hl)
theorem su_astore_n (X : su_Ok p s m args c cc own nL D cy A) {n : Fin 4} {i : Nat} {x : Nat} (lo1 : List (Nat × Value)) (hi : (n : Nat) = i) (hn : i < nL) (hl1 : (i, Value.ref x) :: lo.filter (fun q => !(q.1 == i) && !(q.1 + 1 == i && q.2.category == 2)) = lo1) (dg : decode cc pc = .ok (.astore_n n, 1)) (k : su_U p l e R s m args below meth c D A Q nL (pc + 1) lo1 rest ws cells slots) : su_U p l e R s m args below meth c D A Q nL pc lo (.ref x :: rest) ws cells slots := fun H lcs ls hP hD hS hl => lv_astore_n X.1 X.2.1 dg hi hl hn hl1 (fun ls1 hl1 => k H lcs ls1 hP hD hS hl1)
theorem su_iinc (X : su_Ok p s m args c cc own nL D cy A) (q : Nat) {i : Nat} {n : Int} {x : Int32} (v : Int32) (lo1 : List (Nat × Value)) (hk : lo[q]? = some (i, .int x)) (hv : x + Int32.ofInt n = v) (hn : i < nL) (hl1 : (i, Value.int v) :: lo.filter (fun q => !(q.1 == i) && !(q.1 + 1 == i && q.2.category == 2)) = lo1) (dg : decode cc pc = .ok (.iinc i n, 3)) (k : su_U p l e R s m args below meth c D A Q nL (pc + 3) lo1 rest ws cells slots) : su_U p l e R s m args below meth c D A Q nL pc lo rest ws cells slots := fun H lcs ls hP hD hS hl => lv_iinc X.1 X.2.1 dg hl hk hv hn hl1 (fun ls1 hl1 => k H lcs ls1 hP hD hS hl1)
theorem su_dup (X : su_Ok p s m args c cc own nL D cy A) {v : Value} (hv : v.category = 1) (dg : decode cc pc = .ok (.dup, 1)) (k : su_U p l e R s m args below meth c D A Q nL (pc + 1) lo (v :: v :: rest) ws cells slots) : su_U p l e R s m args below meth c D A Q nL pc lo (v :: rest) ws cells slots := fun H lcs ls hP hD hS hl => lv_dup X.1 X.2.1 dg hv (k H lcs ls hP hD hS hl)
theorem su_iadd (X : su_Ok p s m args c cc own nL D cy A) {x y z : Int32} (hz : x + y = z) (dg : decode cc pc = .ok (.iadd, 1)) (k : su_U p l e R s m args below meth c D A Q nL (pc + 1) lo (.int z :: rest) ws cells slots) : su_U p l e R s m args below meth c D A Q nL pc lo (.int y :: .int x :: rest) ws cells slots := fun H lcs ls hP hD hS hl => lv_iadd X.1 X.2.1 dg (hz ▸ k H lcs ls hP hD hS hl)
theorem su_imul (X : su_Ok p s m args c cc own nL D cy A) {x y z : Int32} (hz : x * y = z) (dg : decode cc pc = .ok (.imul, 1)) (k : su_U p l e R s m args below meth c D A Q nL (pc + 1) lo (.int z :: rest) ws cells slots) : su_U p l e R s m args below meth c D A Q nL pc lo (.int y :: .int x :: rest) ws cells slots := fun H lcs ls hP hD hS hl => lv_imul X.1 X.2.1 dg (hz ▸ k H lcs ls hP hD hS hl)
theorem su_goto (X : su_Ok p s m args c cc own nL D cy A) (tgt : Nat) {off : Int} (ht : (pc : Int) + off = (tgt : Int)) (dg : decode cc pc = .ok (.goto off, 3)) (k : su_U p l e R s m args below meth c D A Q nL tgt lo rest ws cells slots) : su_U p l e R s m args below meth c D A Q nL pc lo rest ws cells slots := fun H lcs ls hP hD hS hl => lv_goto X.1 X.2.1 dg ht (k H lcs ls hP hD hS hl)
theorem su_ge_t (X : su_Ok p s m args c cc own nL D cy A) {x y : Int32} {off : Int} (tgt : Nat) (hc : y ≤ x) (ht : (pc : Int) + off = (tgt : Int)) (dg : decode cc pc = .ok (.if_icmp .ge off, 3)) (k : su_U p l e R s m args below meth c D A Q nL tgt lo rest ws cells slots) : su_U p l e R s m args below meth c D A Q nL pc lo (.int y :: .int x :: rest) ws cells slots := fun H lcs ls hP hD hS hl => lv_icmp_ge X.1 X.2.1 dg ht (fun _ => k H lcs ls hP hD hS hl) (fun q => absurd hc q)
theorem su_ge_f (X : su_Ok p s m args c cc own nL D cy A) {x y : Int32} {off : Int} (tgt : Nat) (hc : ¬ y ≤ x) (ht : (pc : Int) + off = (tgt : Int)) (dg : decode cc pc = .ok (.if_icmp .ge off, 3)) (k : su_U p l e R s m args below meth c D A Q nL (pc + 3) lo rest ws cells slots) : su_U p l e R s m args below meth c D A Q nL pc lo (.int y :: .int x :: rest) ws cells slots := fun H lcs ls hP hD hS hl => lv_icmp_ge X.1 X.2.1 dg ht (fun q => absurd q hc) (fun _ => k H lcs ls hP hD hS hl)
theorem su_get (X : su_Ok p s m args c cc own nL D cy A) (q0 : Nat) {a ci k N index : Nat} {C : String} {T : u_T} {ty : Nat → FieldType} {fs : List Value} {v : Value} (K : sw_Cl ci C T N ty) (he : ws[q0]? = some (a, .inr (ci, fs))) (hk : k < N) (hv : fs[k]? = some v) (hl0 : Cond.fieldLink own index (T k).1 (T k).2.1 (T k).2.2.1 ∈ sw_tbl) (dg : decode cc pc = .ok (.getfield index, 3)) (kk : su_U p l e R s m args below meth c D A Q nL (pc + 3) lo (v :: rest) ws cells slots) : su_U p l e R s m args below meth c D A Q nL pc lo (.ref a :: rest) ws cells slots := fun H lcs ls hP hD hS hl =>
  va_get X.1 X.2.1 X.2.2.2.2.1 K.2.2.2.1 X.2.2.2.1 X.2.2.2.2.2.1.1 hP q0 he K.2.1 k hk (X.2.2.2.2.1 _ hl0) (fun _ h9 => h9) hv dg (kk H lcs ls hP hD hS hl)
theorem su_put (X : su_Ok p s m args c cc own nL D cy A) (q0 : Nat) {a ci k N index : Nat} {C : String} {T : u_T} {ty : Nat → FieldType} {fs : List Value} {v : Value} {fty : FieldType} (ws1 : va_W) (K : sw_Cl ci C T N ty) (he : ws[q0]? = some (a, .inr (ci, fs))) (hk : k < N) (hfin : (T k).2.2.2 = false) (hd : ty k = fty) (hn : narrow fty v = v) (hfit : fits fty v = true) (hlen : k < fs.length) (hw : ws.set q0 (a, .inr (ci, fs.set k v)) = ws1) (hl0 : Cond.fieldLink own index (T k).1 (T k).2.1 (T k).2.2.1 ∈ sw_tbl) (dg : decode cc pc = .ok (.putfield index, 3)) (kk : su_U p l e R s m args below meth c D A Q nL (pc + 3) lo rest ws1 cells slots) : su_U p l e R s m args below meth c D A Q nL pc lo (v :: .ref a :: rest) ws cells slots := fun H lcs ls hP hD hS hl =>
  va_put X.1 X.2.1 X.2.2.2.2.1 K.2.2.2.1 ty K.2.2.2.2.1 K.2.2.2.2.2 X.2.2.2.1 X.2.2.2.2.2.1.1 hP hD hS q0 he K.2.1 k hk (X.2.2.2.2.1 _ hl0) (fun _ h9 => h9) hfin (by rw [← hd]; exact K.2.2.2.2.1 k hk) hn hfit hlen dg (fun H1 lcs1 hP1 hD1 hS1 => kk H1 lcs1 ls (hw ▸ hP1) (hw ▸ hD1) hS1 hl)
theorem su_putF (X : su_Ok p s m args c cc own nL D cy A) (hin2 : meth.name = "<init>") (q0 : Nat) {a ci k N index : Nat} {C : String} {T : u_T} {ty : Nat → FieldType} {fs : List Value} {v : Value} {fty : FieldType} (ws1 : va_W) (K : sw_Cl ci C T N ty) (he : ws[q0]? = some (a, .inr (ci, fs))) (hk : k < N) (hfin : (T k).2.2.2 = true) (hdecl : (T k).1 = own) (hd : ty k = fty) (hn : narrow fty v = v) (hfit : fits fty v = true) (hlen : k < fs.length) (hw : ws.set q0 (a, .inr (ci, fs.set k v)) = ws1) (hl0 : Cond.fieldLink own index (T k).1 (T k).2.1 (T k).2.2.1 ∈ sw_tbl) (dg : decode cc pc = .ok (.putfield index, 3)) (kk : su_U p l e R s m args below meth c D A Q nL (pc + 3) lo rest ws1 cells slots) : su_U p l e R s m args below meth c D A Q nL pc lo (v :: .ref a :: rest) ws cells slots := fun H lcs ls hP hD hS hl =>
  va_putF X.1 X.2.1 X.2.2.2.2.1 K.2.2.2.1 ty K.2.2.2.2.1 K.2.2.2.2.2 X.2.2.2.1 X.2.2.2.2.2.1.1 hP hD hS q0 he K.2.1 k hk (X.2.2.2.2.1 _ hl0) (fun _ h9 => h9) hfin hin2 hdecl (by rw [← hd]; exact K.2.2.2.2.1 k hk) hn hfit hlen dg (fun H1 lcs1 hP1 hD1 hS1 => kk H1 lcs1 ls (hw ▸ hP1) (hw ▸ hD1) hS1 hl)
theorem su_newaI (X : su_Ok p s m args c cc own nL D cy A) {n : Int32} {N' : Nat} (ws1 : Nat → va_W) (hac : Cond.arrayClass .int ∈ sw_tbl) (hn : ¬ n < 0) (hN : n.toNatClampNeg = N') (hby : N' * componentBytes .int ≤ 536870912) (hcells : cells + 1 ≤ R.cells) (hslots : slots + N' ≤ R.slots) (hw : ∀ q, ws ++ [(q, .inl (cy 8, N', .inl (fun _ => 0)))] = ws1 q) (dg : decode cc pc = .ok (.newarray .int, 2)) (kk : ∀ q, su_U p l e R s m args below meth c D A Q nL (pc + 2) lo (.ref q :: rest) (ws1 q) (cells + 1) (slots + N')) : su_U p l e R s m args below meth c D A Q nL pc lo (.int n :: rest) ws cells slots := fun H lcs ls hP hD hS hl => by
  refine va_newa (atype := .int) X.1 X.2.1 (X.2.2.2.2.1 _ hac) rfl X.2.2.2.2.2.1.1 hP hD hS X.2.2.2.2.2.2 (a0 := (N', .inl (fun _ => 0))) (fun _ => rfl) hn hN hby hcells hslots dg (fun q cA H1 hK1 hP1 hD1 hS1 => ?_)
  have e : cA = cy 8 := su_cy X.2.2.2.2.2.1.1 (t0 := 1) rfl (fun C h => by cases h) (hK1.2 6 _ rfl).2
  subst e
  rw [hw q] at hP1 hD1
  exact kk q H1 lcs ls hP1 hD1 hS1 hl
theorem su_newaB (X : su_Ok p s m args c cc own nL D cy A) {n : Int32} {N' : Nat} (ws1 : Nat → va_W) (hac : Cond.arrayClass .byte ∈ sw_tbl) (hn : ¬ n < 0) (hN : n.toNatClampNeg = N') (hby : N' * componentBytes .byte ≤ 536870912) (hcells : cells + 1 ≤ R.cells) (hslots : slots + N' ≤ R.slots) (hw : ∀ q, ws ++ [(q, .inl (cy 7, N', .inl (fun _ => 0)))] = ws1 q) (dg : decode cc pc = .ok (.newarray .byte, 2)) (kk : ∀ q, su_U p l e R s m args below meth c D A Q nL (pc + 2) lo (.ref q :: rest) (ws1 q) (cells + 1) (slots + N')) : su_U p l e R s m args below meth c D A Q nL pc lo (.int n :: rest) ws cells slots := fun H lcs ls hP hD hS hl => by
  refine va_newa (atype := .byte) X.1 X.2.1 (X.2.2.2.2.1 _ hac) rfl X.2.2.2.2.2.1.1 hP hD hS X.2.2.2.2.2.2 (a0 := (N', .inl (fun _ => 0))) (fun _ => rfl) hn hN hby hcells hslots dg (fun q cA H1 hK1 hP1 hD1 hS1 => ?_)
  have e : cA = cy 7 := su_cy X.2.2.2.2.2.1.1 (t0 := 0) rfl (fun C h => by cases h) (hK1.2 6 _ rfl).2
  subst e
  rw [hw q] at hP1 hD1
  exact kk q H1 lcs ls hP1 hD1 hS1 hl
theorem su_newaZ (X : su_Ok p s m args c cc own nL D cy A) {n : Int32} {N' : Nat} (ws1 : Nat → va_W) (hac : Cond.arrayClass .boolean ∈ sw_tbl) (hn : ¬ n < 0) (hN : n.toNatClampNeg = N') (hby : N' * componentBytes .boolean ≤ 536870912) (hcells : cells + 1 ≤ R.cells) (hslots : slots + N' ≤ R.slots) (hw : ∀ q, ws ++ [(q, .inl (cy 9, N', .inl (fun _ => 0)))] = ws1 q) (dg : decode cc pc = .ok (.newarray .boolean, 2)) (kk : ∀ q, su_U p l e R s m args below meth c D A Q nL (pc + 2) lo (.ref q :: rest) (ws1 q) (cells + 1) (slots + N')) : su_U p l e R s m args below meth c D A Q nL pc lo (.int n :: rest) ws cells slots := fun H lcs ls hP hD hS hl => by
  refine va_newa (atype := .boolean) X.1 X.2.1 (X.2.2.2.2.1 _ hac) rfl X.2.2.2.2.2.1.1 hP hD hS X.2.2.2.2.2.2 (a0 := (N', .inl (fun _ => 0))) (fun _ => rfl) hn hN hby hcells hslots dg (fun q cA H1 hK1 hP1 hD1 hS1 => ?_)
  have e : cA = cy 9 := su_cy X.2.2.2.2.2.1.1 (t0 := 2) rfl (fun C h => by cases h) (hK1.2 6 _ rfl).2
  subst e
  rw [hw q] at hP1 hD1
  exact kk q H1 lcs ls hP1 hD1 hS1 hl
theorem su_newq (X : su_Ok p s m args c cc own nL D cy A) {n : Int32} {N' index : Nat} (ws1 : Nat → va_W) (hcl : Cond.classLink own index "StrangersWind$Town" ∈ sw_tbl) (hn : ¬ n < 0) (hN : n.toNatClampNeg = N') (hby : N' * 4 ≤ 536870912) (hcells : cells + 1 ≤ R.cells) (hslots : slots + N' ≤ R.slots) (hw : ∀ q, ws ++ [(q, .inl (cy 10, N', .inr (.inr (.inr (.inr (fun _ => none))))))] = ws1 q) (dg : decode cc pc = .ok (.anewarray index, 3)) (kk : ∀ q, su_U p l e R s m args below meth c D A Q nL (pc + 3) lo (.ref q :: rest) (ws1 q) (cells + 1) (slots + N')) : su_U p l e R s m args below meth c D A Q nL pc lo (.int n :: rest) ws cells slots := fun H lcs ls hP hD hS hl => by
  refine va_newq X.1 X.2.1 X.2.2.2.1 (X.2.2.2.2.1 _ hcl) X.2.2.2.2.2.1.2.1 X.2.2.2.2.2.1.1 hP hD hS X.2.2.2.2.2.2 hn hN hby hcells hslots dg (fun q cA H1 hK1 hP1 hD1 hS1 => ?_)
  have e : cA = cy 10 := by
    obtain ⟨_, _, -, -, -, h4⟩ := (hK1.2 6 _ rfl).2
    obtain ⟨_, _, -, -, -, g4⟩ := (X.2.2.2.2.2.1.1.2 3 _ rfl).2
    exact Option.some.inj (h4.symm.trans g4)
  subst e
  rw [hw q] at hP1 hD1
  exact kk q H1 lcs ls hP1 hD1 hS1 hl
theorem su_iast (X : su_Ok p s m args c cc own nL D cy A) (q0 : Nat) {a n : Nat} {f : Nat → Int32} {i x : Int32} (ws1 : va_W) (ha : ws[q0]? = some (a, .inl (cy 8, n, .inl f))) (hin : vp_in i n) (hw : ws.set q0 (a, .inl (cy 8, n, .inl (upd f i.toNatClampNeg x))) = ws1) (dg : decode cc pc = .ok (.iastore, 1)) (kk : su_U p l e R s m args below meth c D A Q nL (pc + 1) lo rest ws1 cells slots) : su_U p l e R s m args below meth c D A Q nL pc lo (.int x :: .int i :: .ref a :: rest) ws cells slots := fun H lcs ls hP hD hS hl =>
  va_iast X.1 X.2.1 X.2.2.2.2.2.1.1 hP hD hS q0 1 ha rfl hin dg (fun H1 lcs1 hP1 hD1 hS1 => kk H1 lcs1 ls (hw ▸ hP1) (hw ▸ hD1) hS1 hl)
theorem su_astq (X : su_Ok p s m args c cc own nL D cy A) (q0 qk : Nat) {a n v : Nat} {vs : List Value} {f : Nat → Option Nat} {i : Int32} (ws1 : va_W) (ha : ws[q0]? = some (a, .inl (cy 10, n, .inr (.inr (.inr (.inr f)))))) (hv : ws[qk]? = some (v, .inr (4, vs))) (hin : vp_in i n) (hw : ws.set q0 (a, .inl (cy 10, n, .inr (.inr (.inr (.inr (va_up f i.toNatClampNeg (some v))))))) = ws1) (dg : decode cc pc = .ok (.aastore, 1)) (kk : su_U p l e R s m args below meth c D A Q nL (pc + 1) lo rest ws1 cells slots) : su_U p l e R s m args below meth c D A Q nL pc lo (.ref v :: .int i :: .ref a :: rest) ws cells slots := fun H lcs ls hP hD hS hl =>
  va_astq X.1 X.2.1 X.2.2.2.2.2.1.1 hP hD hS q0 3 qk 4 ha rfl hv sw_cl4.2.1 hin dg (fun H1 lcs1 hP1 hD1 hS1 => kk H1 lcs1 ls (hw ▸ hP1) (hw ▸ hD1) hS1 hl)
theorem su_new (X : su_Ok p s m args c cc own nL D cy A) {ci N index : Nat} {C : String} {T : u_T} {ty : Nat → FieldType} (fs : List Value) (ws1 : Nat → va_W) (K : sw_Cl ci C T N ty) (h1 : Cond.classLink own index C ∈ sw_tbl) (h2 : Cond.instantiable C N ∈ sw_tbl) (h3 : Cond.initialized C ∈ sw_tbl) (hfs : ∀ j, j < N → defaultValue (ty j) = vp_V fs j) (hcells : cells + 1 ≤ R.cells) (hslots : slots + N ≤ R.slots) (hw : ∀ q, ws ++ [(q, .inr (ci, fs))] = ws1 q) (dg : decode cc pc = .ok (.new index, 3)) (kk : ∀ q, su_U p l e R s m args below meth c D A Q nL (pc + 3) lo (.ref q :: rest) (ws1 q) (cells + 1) (slots + N)) : su_U p l e R s m args below meth c D A Q nL pc lo rest ws cells slots := fun H lcs ls hP hD hS hl => by
  refine va_new X.1 X.2.1 X.2.2.2.2.1 K.2.2.2.1 ty K.2.2.2.2.1 X.2.2.2.1 (X.2.2.2.2.1 _ h1) (X.2.2.2.2.1 _ h2) (X.2.2.2.2.1 _ h3) X.2.2.2.2.2.1.1 hP hD hS X.2.2.2.2.2.2 K.2.1 hfs hcells hslots dg (fun q H1 hP1 hD1 hS1 => ?_)
  rw [hw q] at hP1 hD1
  exact kk q H1 lcs ls hP1 hD1 hS1 hl
theorem su_alen (X : su_Ok p s m args c cc own nL D cy A) (q0 : Nat) {a n : Nat} {f : Nat → Int32} (ha : ws[q0]? = some (a, .inl (cy 8, n, .inl f))) {v : Int32} (hv : Int32.ofNat n = v) (dg : decode cc pc = .ok (.arraylength, 1)) (kk : su_U p l e R s m args below meth c D A Q nL (pc + 1) lo (.int v :: rest) ws cells slots) : su_U p l e R s m args below meth c D A Q nL pc lo (.ref a :: rest) ws cells slots := fun H lcs ls hP hD hS hl =>
  va_alen X.1 X.2.1 X.2.2.2.2.2.1.1 hP q0 1 (x := (n, .inl f)) ha rfl hv dg (kk H lcs ls hP hD hS hl)
theorem su_oinit (X : su_Ok p s m args c cc own nL D cy A) {a idx : Nat} (h1 : Cond.methodLink own idx objectInit ∈ sw_tbl) (h2 : Cond.instanceMethod objectInit ∈ sw_tbl) (h3 : Cond.code objectInit ⟨#[0xb1]⟩ 1 none ∈ sw_tbl) (hf : 1 ≤ R.frames) (hlc : (rest.map fun v => v.category).sum + 12 ≤ R.locals) (dg : decode cc pc = .ok (.invokespecial idx, 3)) (kk : su_U p l e R s m args below meth c D A Q nL (pc + 3) lo rest ws cells slots) : su_U p l e R s m args below meth c D A Q nL pc lo (.ref a :: rest) ws cells slots := fun H lcs ls hP hD hS hl =>
  W.objInit X.1 X.2.1 X.2.2.2.1 (X.2.2.2.2.1 _ h1) (X.2.2.2.2.1 _ h2) (X.2.2.2.2.1 _ h3) rfl (by rw [X.2.2.1]; exact hl.1) rfl dg hf (by show 2 * 0 + _ + 12 ≤ _; omega) (kk H lcs ls hP hD hS hl)

theorem su_mna (X : su_Ok p s m args c cc own nL D cy A) {ty : FieldType} {ko ki n k : Nat} {a b : Int32} {index : Nat} {cls : String} (hcls : cls = "[" ++ (FieldType.array ty).toString) (hz : ∀ cA : ClassId, arrV cA k (fun _ => defaultValue ty) = vp_cell cA (k, .inl (fun _ => 0))) (hkA : ∃ kA : Class, s.vm.classes[cy ko]? = some kA ∧ kA.kind = .array (cy ki) (.array ty)) (hfA : s.vm.findClass ("[" ++ (FieldType.array ty).toString) = some (cy ko)) (hfI : s.vm.findClass ("[" ++ ty.toString) = some (cy ki)) (ha : ¬ a < 0) (hbb : ¬ b < 0) (hn : a.toNatClampNeg = n) (hk : b.toNatClampNeg = k) (hb1 : n * componentBytes (.array ty) ≤ 536870912) (hb2 : k * componentBytes ty ≤ 536870912) (hb3 : n ≤ 536870912) (hb4 : k ≤ 536870912) (hf : fits ty (defaultValue ty) = true) (ws1 : Nat → (Nat → Nat) → va_W) (hcl : Cond.classLink own index cls ∈ sw_tbl) (hac : Cond.arrayClass ty ∈ sw_tbl) (hcells : cells + (1 + n) ≤ R.cells) (hslots : slots + (n + n * k) ≤ R.slots) (hw : ∀ q r, ws ++ ((q, .inl (cy ko, n, .inr (.inr (.inr (.inr (fun j => some (r j))))))) :: (List.range n).map (fun j => (r j, .inl (cy ki, k, .inl (fun _ => 0))))) = ws1 q r) (dg : decode cc pc = .ok (.multianewarray index 2, 4)) (kk : ∀ (q : Nat) (r : Nat → Nat), su_U p l e R s m args below meth c D A Q nL (pc + 4) lo (.ref q :: rest) (ws1 q r) (cells + 1 + n) (slots + n + n * k)) : su_U p l e R s m args below meth c D A Q nL pc lo (.int b :: .int a :: rest) ws cells slots := fun H lcs ls hP hD hS hl => by
  intro T hT Xs
  have hx := X.1
  have hbc := X.2.1
  have hts := X.2.2.2.2.1
  obtain ⟨kA, hkA, hkindA⟩ := hkA
  obtain ⟨comp, kC, co, hcomp, hkC, hkindC⟩ := Cond.arrayClass_spec (hts _ hac)
  have ecomp : comp = cy ki := Option.some.inj (hcomp.symm.trans hfI)
  subst ecomp
  have hpl : e.platform.magicAccessors = ({} : Platform).magicAccessors := by rw [Xs.admits.platform]
  obtain ⟨c0, hfc0, hlink⟩ := Cond.classLink_spec X.2.2.2.1 (hts _ hcl) e.platform hpl
  rw [hcls] at hfc0
  have ec0 : c0 = cy ko := Option.some.inj (hfc0.symm.trans hfA)
  subst ec0
  obtain ⟨hg1, hwarm1, hready1⟩ := State.classEntry (e := e) Xs.warmed hlink
  generalize T.vm.noted m.cls index (.cls (cy ko)) = vm1 at hg1 hwarm1 hready1
  have hal : s.vm.Alike vm1 := hwarm1.alike
  obtain ⟨kA1, hkA1, heA⟩ := hal.2.2 _ _ hkA
  obtain ⟨kC1, hkC1, heC⟩ := hal.2.2 _ _ hkC
  have X1 := Xs.noted hwarm1
  have hgr : s.heap.size ≤ T.heap.size := by rw [hT]; exact hS.1
  have X2 := mg_stand X1 (cy ko) (cy ki) n k (defaultValue ty) hgr n
  obtain ⟨z, -, -, fo, fold, finn⟩ := mg_facts (T.setVm vm1) (cy ko) (cy ki) n k (defaultValue ty) n
  have hTs : (T.setVm vm1).heap = H := hT
  rw [hTs] at z fo fold finn
  obtain ⟨hr1, hr2⟩ := Xs.roomAbove hcells hslots
  have hP0 : va_P D vwCl ws (mg (T.setVm vm1) (cy ko) (cy ki) n k (defaultValue ty) n).heap := hP.kept (fun k9 x h9 => fold x.1 ((hP k9 x h9).lt))
  have hnew : ∀ (k9 : Nat) (x : Nat × va_E), ((H.size, .inl (cy ko, n, .inr (.inr (.inr (.inr (fun j => some (H.size + 1 + j))))))) :: (List.range n).map (fun j => ((H.size + 1 + j, .inl (cy ki, k, .inl (fun _ => 0))) : Nat × va_E)))[k9]? = some x → x.1 = H.size + k9 ∧ va_at D vwCl x (mg (T.setVm vm1) (cy ko) (cy ki) n k (defaultValue ty) n).heap := by
    intro k9 x h9
    cases k9 with
    | zero =>
      cases h9
      refine ⟨rfl, ?_⟩
      show (mg (T.setVm vm1) (cy ko) (cy ki) n k (defaultValue ty) n).heap[H.size]? = some (vp_cell _ _)
      rw [fo, vp_cell_q]
      unfold mg_out arrV
      congr 2
      apply Array.ext
      · simp
      · intro j h1 h2
        simp at h1
        simp [h1, va_rf]
    | succ j =>
      rw [List.getElem?_cons_succ, List.getElem?_map] at h9
      by_cases hj : j < n
      · rw [List.getElem?_range hj] at h9
        cases h9
        refine ⟨by show H.size + 1 + j = H.size + (j + 1); omega, ?_⟩
        show (mg (T.setVm vm1) (cy ko) (cy ki) n k (defaultValue ty) n).heap[H.size + 1 + j]? = some (vp_cell _ _)
        rw [finn j hj, hz]
      · rw [List.getElem?_eq_none (by rw [List.length_range]; omega)] at h9
        cases h9
  have hP1 := hP0.app (fun k9 x h9 => (hnew k9 x h9).2)
  have hD1 := va_D.app hD (w2 := ((H.size, .inl (cy ko, n, .inr (.inr (.inr (.inr (fun j => some (H.size + 1 + j))))))) :: (List.range n).map (fun j => ((H.size + 1 + j, .inl (cy ki, k, .inl (fun _ => 0))) : Nat × va_E)))) ⟨fun i j p q h1 h2 h3 => by
      have e1 := (hnew i p h1).1
      have e2 := (hnew j q h2).1
      omega, fun k9 x h9 => by
      rw [(hnew k9 x h9).1]
      exact X.2.2.2.2.2.2 _ (Nat.le_trans hS.1 (Nat.le_add_right _ _))⟩ (fun i j p q h1 h2 h3 => by
      have e1 := (hP i p h1).lt
      have e2 := (hnew j q h2).1
      omega)
  rw [hw H.size (fun j => H.size + 1 + j)] at hP1 hD1
  have hS1 : va_S A s.heap (mg (T.setVm vm1) (cy ko) (cy ki) n k (defaultValue ty) n).heap lcs := ⟨by rw [z]; have := hS.1; omega, fun x h1 h2 => (fold x (Nat.lt_of_lt_of_le h1 hS.1)).trans (hS.2.1 x h1 h2), hS.2.2⟩
  obtain ⟨t, a1, b1⟩ := kk H.size (fun j => H.size + 1 + j) _ lcs ls hP1 hD1 hS1 hl _ rfl X2
  refine ⟨t, ?_, b1⟩
  have l1 : ¬ a.toNatClampNeg > e.platform.arrayLengthLimit := by rw [Launch.admits_arrayLengthLimit Xs.admits, hn]; omega
  have l2 : ¬ a.toNatClampNeg * componentBytes (.array ty) > e.platform.maxHeapBytes := by rw [Launch.admits_maxHeapBytes Xs.admits, hn]; omega
  have l3 : ¬ b.toNatClampNeg > e.platform.arrayLengthLimit := by rw [Launch.admits_arrayLengthLimit Xs.admits, hk]; omega
  have l4 : ¬ b.toNatClampNeg * componentBytes ty > e.platform.maxHeapBytes := by rw [Launch.admits_maxHeapBytes Xs.admits, hk]; omega
  have hdg : decode c.code pc = .ok (.multianewarray index 2, 4) := by rw [hbc]; exact dg
  jvm_step Xs.here [hx, hdg]
  simp only [multianewarray.sem, wp_bind', W.resolveClassAt_links (State.method?_setTop (F0 m pc ls (.int b :: .int a :: rest)) Xs.here.top) hg1]
  rw [W.popN, if_neg (by decide)]
  refine ⟨F0 m pc ls (.int b :: .int a :: rest), State.topJava?_setTop' (s := T.setVm vm1) _ Xs.here.top, [.int a, .int b], rest, rfl, rfl, ?_⟩
  simp only [List.mapM_cons, List.mapM_nil, wp_bind', wp_pure']
  refine mg_make (kA := kA1) (kC := kC1) (comp := cy ki) (cc := co) (ty := ty) hkA1 (by rw [heA]; exact hkindA) hkC1 (by rw [heC]; exact hkindC) ha hbb l1 l2 l3 l4 hf (by rw [hn]; show T.heap.size + 1 + _ ≤ _; omega) (by rw [hn, hk]; show T.slotsUsed + _ + _ ≤ _; omega) (fun d1 acts1 => ?_)
  rw [hn, hk]
  have eS : (State.setVm (T.setTop (F0 m pc ls (.int b :: .int a :: rest))) vm1).setTop (F0 m pc ls rest) = (T.setVm vm1).setTop (F0 m pc ls rest) := by
    show ((T.setVm vm1).setTop _).setTop _ = _
    rw [State.setTop_setTop]
  first | rw [eS, mg_top] | skip
  simp only [wp_bind', W.mark, W.pushRef, State.topJava?_setTop' _ X2.here.top, Option.some.injEq, exists_eq_left', State.setTop_setTop, State.heap_setTop]
  intro acts2
  simp [jvm, X2.here.top]
  rw [hT]
  exact a1
theorem su_mnaI (X : su_Ok p s m args c cc own nL D cy A) {index : Nat} (ws1 : Nat → (Nat → Nat) → va_W) (hcl : Cond.classLink own index "[[I" ∈ sw_tbl) (hac : Cond.arrayClass .int ∈ sw_tbl) (hcells : cells + 7 ≤ R.cells) (hslots : slots + 246 ≤ R.slots) (hw : ∀ q r, ws ++ ((q, .inl (cy 12, 6, .inr (.inr (.inr (.inr (fun j => some (r j))))))) :: (List.range 6).map (fun j => (r j, .inl (cy 8, 40, .inl (fun _ => 0))))) = ws1 q r) (dg : decode cc pc = .ok (.multianewarray index 2, 4)) (kk : ∀ (q : Nat) (r : Nat → Nat), su_U p l e R s m args below meth c D A Q nL (pc + 4) lo (.ref q :: rest) (ws1 q r) (cells + 7) (slots + 246)) : su_U p l e R s m args below meth c D A Q nL pc lo (.int 40 :: .int 6 :: rest) ws cells slots :=
  su_mna X (ty := .int) (ko := 12) (ki := 8) (n := 6) (k := 40) (cls := "[[I") (by decide) (fun _ => rfl) X.2.2.2.2.2.1.2.2.1 (X.2.2.2.2.2.1.1.2 5 _ rfl).2 (X.2.2.2.2.2.1.1.2 1 _ rfl).2 (by decide) (by decide) (by decide) (by decide) (by decide) (by decide) (by decide) (by decide) rfl ws1 hcl hac hcells hslots hw dg (fun q r => kk q r)
theorem su_mnaB (X : su_Ok p s m args c cc own nL D cy A) {index : Nat} (ws1 : Nat → (Nat → Nat) → va_W) (hcl : Cond.classLink own index "[[B" ∈ sw_tbl) (hac : Cond.arrayClass .byte ∈ sw_tbl) (hcells : cells + 5 ≤ R.cells) (hslots : slots + 244 ≤ R.slots) (hw : ∀ q r, ws ++ ((q, .inl (cy 11, 4, .inr (.inr (.inr (.inr (fun j => some (r j))))))) :: (List.range 4).map (fun j => (r j, .inl (cy 7, 60, .inl (fun _ => 0))))) = ws1 q r) (dg : decode cc pc = .ok (.multianewarray index 2, 4)) (kk : ∀ (q : Nat) (r : Nat → Nat), su_U p l e R s m args below meth c D A Q nL (pc + 4) lo (.ref q :: rest) (ws1 q r) (cells + 5) (slots + 244)) : su_U p l e R s m args below meth c D A Q nL pc lo (.int 60 :: .int 4 :: rest) ws cells slots :=
  su_mna X (ty := .byte) (ko := 11) (ki := 7) (n := 4) (k := 60) (cls := "[[B") (by decide) (fun _ => rfl) X.2.2.2.2.2.1.2.2.2 (X.2.2.2.2.2.1.1.2 4 _ rfl).2 (X.2.2.2.2.2.1.1.2 0 _ rfl).2 (by decide) (by decide) (by decide) (by decide) (by decide) (by decide) (by decide) (by decide) rfl ws1 hcl hac hcells hslots hw dg (fun q r => kk q r)
end SUR
theorem su_re {D : va_G} {ws ws1 : va_W} {q0 a n : Nat} {cA : ClassId} {f f' : Nat → Option Nat} (he : ws[q0]? = some (a, .inl (cA, n, .inr (.inr (.inr (.inr f)))))) (hf : ∀ j, j < n → f j = f' j) (hw : ws.set q0 (a, .inl (cA, n, .inr (.inr (.inr (.inr f'))))) = ws1) : (∀ H, va_P D vwCl ws H → va_P D vwCl ws1 H) ∧ ∀ B, va_D B ws → va_D B ws1 := by
  subst hw
  refine ⟨fun H h k q hk => ?_, fun B h => h.set he⟩
  rw [List.getElem?_set] at hk
  by_cases e : q0 = k
  · subst e
    have hlt : q0 < ws.length := (List.getElem?_eq_some_iff.mp he).1
    rw [if_pos rfl, if_pos hlt] at hk
    cases hk
    have h0 := h q0 _ he
    show H[a]? = some (vp_cell cA (n, .inr (.inr (.inr (.inr f')))))
    rw [show H[a]? = some (vp_cell cA (n, .inr (.inr (.inr (.inr f))))) from h0]
    rw [vp_cell_q, vp_cell_q]
    unfold arrV
    congr 2
    apply Array.ext
    · simp
    · intro i h1 h2
      simp at h1
      simp [hf i h1]
  · rw [if_neg e] at hk
    exact h k q hk
def su_rm (d mc ms : Nat) : Room := { frames := d, cells := mc, slots := ms, locals := 64 * d }
def su_Pre (D : va_G) (cy : Nat → ClassId) (ws : va_W) (sz : Nat) : State → Prop := fun U => U.heap.size = sz ∧ va_P D vwCl ws U.heap ∧ su_K D cy U ∧ va_D (fun _ => True) ws
def su_Bq (D : va_G) (cy : Nat → ClassId) (A : Nat → Prop) (w1 : (Nat → Nat) → va_W) (u : Nat → Nat) (t : State) : Prop := va_P D vwCl (w1 u) t.heap ∧ su_K D cy t ∧ va_D A (w1 u)
def su_C (y : MethodName) (cw : Cond) (d mc ms : Nat) (av : List Value) (wc : (Nat → ClassId) → va_W) (w1 : (Nat → ClassId) → (Nat → Nat) → va_W) : Prop := ∀ (l : Launch) (D : va_G) (cy : Nat → ClassId) (sz : Nat), Met l y (cw :: sw_tbl) (su_rm d mc ms) (va_Pc av (su_Pre D cy (wc cy) sz)) (va_Qv (fun _ : Nat → Nat => True) (su_Bq D cy (va_A (wc cy) sz) (w1 cy)) (va_A (wc cy) sz)) mc ms (va_A (wc cy) sz)
theorem su_blind (D : va_G) (cy : Nat → ClassId) (ws : va_W) (sz : Nat) (av : List Value) : FrameBlind (va_Pc av (su_Pre D cy ws sz)) := fun a U f mk q => by
  obtain ⟨q0, q1, qP, qK, qD⟩ := q
  exact ⟨q0, q1, qP, su_K.moved (u := U) (U := U.calling f mk a) (Vm.Alike.refl U.vm) qK, qD⟩
def su_QV (below : List Frame) (D : va_G) (cy : Nat → ClassId) (args : Array Value) (s : State) (mc ms : Nat) (wc : va_W) (w1 : (Nat → Nat) → va_W) : State → Prop := MQ below (va_Qv (fun _ : Nat → Nat => True) (su_Bq D cy (va_A wc s.heap.size) w1) (va_A wc s.heap.size)) args s mc ms (va_A wc s.heap.size)
theorem su_ent {y : MethodName} {cc : ByteArray} {maxL d mc ms : Nat} {av : List Value} {wc : (Nat → ClassId) → va_W} {w1 : (Nat → ClassId) → (Nat → Nat) → va_W} (own : String) (lo : List (Nat × Value)) (hy : plainName y.cls = true) (ho : y.cls = own) (hlen : (lg_sl av).length ≤ maxL) (hlo : lv_args 0 av = lo)
    (body : ∀ (p : Program) (l : Launch) (e : Env) (s : State) (m : MethodId) (args : Array Value) (below : List Frame) (meth : Method) (c : Code) (D : va_G) (cy : Nat → ClassId), su_Ok p s m args c cc own maxL D cy (va_A (wc cy) s.heap.size) → meth.sig.returnType = none → meth.locks = false → meth.name = y.name → su_U p l e (su_rm d mc ms) s m args below meth c D (va_A (wc cy) s.heap.size) (su_QV below D cy args s mc ms (wc cy) (w1 cy)) maxL 0 lo [] (wc cy) 0 0) : su_C y (.code y cc maxL none) d mc ms av wc w1 := by
  intro l D cy sz
  refine Met.ofW (cc := cc) (maxL := maxL) (ret := none) hy rfl ?_
  intro p e s m args below meth c s₁ B hml hv
  obtain ⟨rfl, hsz, hP, hK, hD⟩ := hv
  subst hsz
  have hts := atoms_spec (ws := Cond.code y cc maxL none :: sw_tbl) B.pre
  have hown : s.vm.findClass y.cls = some m.cls := findClass_of_methodNamed B.named
  rw [ho] at hown
  have hin : meth.name = y.name := (name_of_methodNamed B.named B.method).1
  have hl := lv_entry av (n := maxL) hlen
  rw [lg_entry_eq]
  rw [hlo] at hl
  exact body p l e s m _ below meth c D cy ⟨B.exec, B.bytes, hml, hown, fun w hw => hts w (List.mem_cons_of_mem _ hw), hK, fun q h => Or.inr h⟩ B.returns B.notSynchronized hin s.heap [] _ hP hD.self va_S.rf hl
section SUC
variable {p : Program} {l : Launch} {e : Env} {R : Room} {s : State} {m : MethodId} {args : Array Value} {below : List Frame} {meth : Method} {c : Code} {cc : ByteArray} {own : String} {nL : Nat} {D : va_G} {cy : Nat → ClassId} {A : Nat → Prop} {Q : State → Prop} {pc : Nat} {lo : List (Nat × Value)} {rest : List Value} {ws : va_W} {cells slots : Nat}
theorem su_vret {mc ms : Nat} {wc : va_W} {w1 : (Nat → Nat) → va_W} (X : su_Ok p s m args c cc own nL D cy (va_A wc s.heap.size)) (u : Nat → Nat) (hP1 : ∀ H, va_P D vwCl ws H → va_P D vwCl (w1 u) H) (hD1 : ∀ B, va_D B ws → va_D B (w1 u)) (hr : meth.sig.returnType = none) (hlk : meth.locks = false) (dg : decode cc pc = .ok (.return_, 1)) : su_U p l e R s m args below meth c D (va_A wc s.heap.size) (su_QV below D cy args s mc ms wc w1) nL pc lo [] ws mc ms := fun H lcs ls hP hD hS hl =>
  W.vret X.1 X.2.1 hr (fun t ht hW => ⟨⟨u, rfl, trivial, by rw [ht]; exact hP1 H hP, su_K.moved hW.alike X.2.2.2.2.2.1, hD1 _ hD⟩, hS.F ht⟩) hS.2.2 dg hlk
theorem su_callI (X : su_Ok p s m args c cc own nL D cy A) {y : MethodName} {bytes : ByteArray} {maxL n index d1 mc ms b : Nat} {As : List Value} {wc : (Nat → ClassId) → va_W} {w1 : (Nat → ClassId) → (Nat → Nat) → va_W} {stk : List Value} (isC isR : List Nat) (wr : va_W) (ws1 : (Nat → Nat) → va_W) (hc : su_C y (.code y bytes maxL none) d1 mc ms (.ref b :: As) wc w1)
    (k1 : Cond.code y bytes maxL none ∈ sw_tbl) (k2 : Cond.instanceMethod y ∈ sw_tbl) (k3 : Cond.initialized y.cls ∈ sw_tbl) (k4 : y.name = "<init>") (k5 : y.cls ≠ "java/lang/invoke/MethodHandle" ∧ y.cls ≠ "java/lang/invoke/VarHandle" ∧ (parseMethodDescriptor y.desc).map (fun d => d.parameters.length) = some n) (hR : d1 + 1 ≤ R.frames ∧ 8 + (maxL + 11) + 64 * d1 ≤ R.locals)
    (hC : isC.map (fun i => ws[i]?) = (wc cy).map some) (hRr : isR.map (fun i => ws[i]?) = wr.map some) (hnC : va_nd isC = true) (hn1 : va_nd isR = true) (hdis : ∀ i ∈ isR, i ∉ isC) (hn : As.length = n) (hstk : stk = As.reverse ++ .ref b :: rest) (hrest : (rest.map fun v => v.category).sum ≤ 8) (hl0 : Cond.methodLink own index y ∈ sw_tbl) (hcells : cells + mc ≤ R.cells) (hslots : slots + ms ≤ R.slots) (hw : ∀ u, wr ++ w1 cy u = ws1 u) (dg : decode cc pc = .ok (.invokespecial index, 3))
    (k : ∀ u, su_U p l e R s m args below meth c D A Q nL (pc + 3) lo rest (ws1 u) (cells + mc) (slots + ms)) : su_U p l e R s m args below meth c D A Q nL pc lo stk ws cells slots := fun H lcs ls hP hD hS hl => by
  have hts := X.2.2.2.2.1
  have hK := X.2.2.2.2.2.1
  have hg : GoodIn sw_tbl (Cond.code y bytes maxL none :: sw_tbl) := sw_good k1
  have hcw : CallB R s args own index y bytes maxL none (Cond.code y bytes maxL none :: sw_tbl) (su_rm d1 mc ms) mc ms n ∧ y.name = "<init>" ∧ (Cond.instanceMethod y).before args s = true := ⟨callB_of n hts hg rfl rfl rfl (hts _ k3) (hts _ hl0) k5 hR, k4, hts _ k2⟩
  have hDc : va_D A (wc cy) := hD.sub isC hnC hC
  have hPc : va_P D vwCl (wc cy) H := fun k q hq => by
    have h1 : (isC.map (fun i => ws[i]?))[k]? = some (some q) := by rw [hC, List.getElem?_map, hq]; rfl
    rw [List.getElem?_map] at h1
    cases hi : isC[k]? with
    | none => rw [hi] at h1; cases h1
    | some i => rw [hi] at h1; exact hP i q (Option.some.inj h1)
  have hFc := va_free (wc := wc cy) hD hS X.2.2.2.2.2.2 isC hC
  refine va_callv (va_runI (As := As) (rest := rest) ⟨X.1, X.2.1, X.2.2.1, X.2.2.2.1, hts⟩ (hc l D cy H.size) hcw ⟨su_blind D cy (wc cy) H.size _, fun U hU hW => ⟨rfl, by rw [hU], by rw [hU]; exact hPc, su_K.moved hW.alike hK, hDc.weaken (fun _ _ _ _ => trivial)⟩⟩ rfl hn hl.1 hstk (lv_room hrest) dg ⟨hcells, hslots⟩) hS (fun q _ h => hFc q h) hFc (fun u t H1 lcs1 ht hvm hw0 hB hz1 hk1 hS1 => ?_)
  obtain ⟨hP1, hK1, hD1⟩ := hB
  rw [ht] at hP1
  obtain ⟨hP2, hD2⟩ := va_join (wr := wr) (w1 := w1 cy u) hP hD isC isR hC hRr hn1 hdis hk1 hFc hP1 hD1
  rw [hw u] at hP2 hD2
  exact k u H1 lcs1 ls hP2 hD2 hS1 hl
theorem su_callS (X : su_Ok p s m args c cc own nL D cy A) {y : MethodName} {bytes : ByteArray} {maxL n index d1 : Nat} {As : List Value} {wc : (Nat → ClassId) → va_W} {w1 : (Nat → ClassId) → (Nat → Nat) → va_W} {stk : List Value} (isC isR : List Nat) (wr : va_W) (ws1 : (Nat → Nat) → va_W) (hc : su_C y (.code y bytes maxL none) d1 0 0 As wc w1)
    (M : sw_MS y bytes maxL none n) (hR : d1 + 1 ≤ R.frames ∧ 8 + (maxL + 11) + 64 * d1 ≤ R.locals)
    (hC : isC.map (fun i => ws[i]?) = (wc cy).map some) (hRr : isR.map (fun i => ws[i]?) = wr.map some) (hnC : va_nd isC = true) (hn1 : va_nd isR = true) (hdis : ∀ i ∈ isR, i ∉ isC) (hn : As.length = n) (hstk : stk = As.reverse ++ rest) (hrest : (rest.map fun v => v.category).sum ≤ 8) (hl0 : Cond.methodLink own index y ∈ sw_tbl) (hcells : cells ≤ R.cells) (hslots : slots ≤ R.slots) (hw : ∀ u, wr ++ w1 cy u = ws1 u) (dg : decode cc pc = .ok (.invokestatic index, 3))
    (k : ∀ u, su_U p l e R s m args below meth c D A Q nL (pc + 3) lo rest (ws1 u) cells slots) : su_U p l e R s m args below meth c D A Q nL pc lo stk ws cells slots := fun H lcs ls hP hD hS hl => by
  obtain ⟨m1, m2, m4, m5, m6⟩ := M
  have hts := X.2.2.2.2.1
  have hK := X.2.2.2.2.2.1
  have hg : GoodIn sw_tbl (Cond.code y bytes maxL none :: sw_tbl) := sw_good m1
  have hcw : CallB R s args own index y bytes maxL none (Cond.code y bytes maxL none :: sw_tbl) (su_rm d1 0 0) 0 0 n ∧ (Cond.static y).before args s = true := ⟨callB_of n hts hg rfl rfl rfl (hts _ m4) (hts _ hl0) m5 hR, hts _ m2⟩
  have hDc : va_D A (wc cy) := hD.sub isC hnC hC
  have hPc : va_P D vwCl (wc cy) H := fun k q hq => by
    have h1 : (isC.map (fun i => ws[i]?))[k]? = some (some q) := by rw [hC, List.getElem?_map, hq]; rfl
    rw [List.getElem?_map] at h1
    cases hi : isC[k]? with
    | none => rw [hi] at h1; cases h1
    | some i => rw [hi] at h1; exact hP i q (Option.some.inj h1)
  have hFc := va_free (wc := wc cy) hD hS X.2.2.2.2.2.2 isC hC
  refine va_callv (va_runS (As := As) (rest := rest) ⟨X.1, X.2.1, X.2.2.1, X.2.2.2.1, hts⟩ (hc l D cy H.size) hcw ⟨su_blind D cy (wc cy) H.size _, fun U hU hW => ⟨rfl, by rw [hU], by rw [hU]; exact hPc, su_K.moved hW.alike hK, hDc.weaken (fun _ _ _ _ => trivial)⟩⟩ rfl hn hl.1 hstk (lv_room hrest) dg ⟨hcells, hslots⟩) hS (fun q _ h => hFc q h) hFc (fun u t H1 lcs1 ht hvm hw0 hB hz1 hk1 hS1 => ?_)
  obtain ⟨hP1, hK1, hD1⟩ := hB
  rw [ht] at hP1
  obtain ⟨hP2, hD2⟩ := va_join (wr := wr) (w1 := w1 cy u) hP hD isC isR hC hRr hn1 hdis hk1 hFc hP1 hD1
  rw [hw u] at hP2 hD2
  exact k u H1 lcs1 ls hP2 hD2 hS1 hl
end SUC
