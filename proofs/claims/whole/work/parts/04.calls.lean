def sw_B (g : sw_G) (st : sw_St) (t : State) : Prop := va_P g.2.1 vwCl (sw_W g st) t.heap ∧ va_K g.2.1 vwCl (sw_tys g) t
def sw_Pre (g : sw_G) (st : sw_St) (sz : Nat) : State → Prop := fun U => U.heap.size = sz ∧ sw_B g st U
def sw_MV (y : MethodName) (bytes : ByteArray) (maxL : Nat) (ret : Option FieldType) (n : Nat) (C : String) : Prop := Cond.code y bytes maxL ret ∈ sw_tbl ∧ Cond.instanceMethod y ∈ sw_tbl ∧ Cond.selects C y y ∈ sw_tbl ∧ Cond.initialized y.cls ∈ sw_tbl ∧ (y.cls ≠ "java/lang/invoke/MethodHandle" ∧ y.cls ≠ "java/lang/invoke/VarHandle" ∧ (parseMethodDescriptor y.desc).map (fun d => d.parameters.length) = some n) ∧ maxL ≤ 45
def sw_MS (y : MethodName) (bytes : ByteArray) (maxL : Nat) (ret : Option FieldType) (n : Nat) : Prop := Cond.code y bytes maxL ret ∈ sw_tbl ∧ Cond.static y ∈ sw_tbl ∧ Cond.initialized y.cls ∈ sw_tbl ∧ (y.cls ≠ "java/lang/invoke/MethodHandle" ∧ y.cls ≠ "java/lang/invoke/VarHandle" ∧ (parseMethodDescriptor y.desc).map (fun d => d.parameters.length) = some n) ∧ maxL ≤ 45
theorem sw_blind (g : sw_G) (st : sw_St) (sz : Nat) (av : List Value) : FrameBlind (va_Pc av (sw_Pre g st sz)) := fun a U f mk q => by
  obtain ⟨q0, q1, qP, qK⟩ := q
  exact ⟨q0, q1, qP, va_K.moved (u := U) (U := U.calling f mk a) (Vm.Alike.refl U.vm) qK⟩

def sw_CI (y : MethodName) (cw : Cond) (d : Nat) (av : sw_G → List Value) (st : sw_St) (r : Int32) (st1 : sw_St) : Prop := ∀ (l : Launch) (g : sw_G) (sz : Nat), sw_Inj g → Met l y (cw :: sw_tbl) (sw_rm d) (va_Pc (av g) (sw_Pre g st sz)) (va_Qi (fun (r' : Int32) (s' : sw_St) => r' = r ∧ s' = st1) (sw_B g) (sw_A g sz)) 0 0 (sw_A g sz)
def sw_QI (below : List Frame) (g : sw_G) (args : Array Value) (s : State) (r : Int32) (st1 : sw_St) : State → Prop := MQ below (va_Qi (fun (r' : Int32) (s' : sw_St) => r' = r ∧ s' = st1) (sw_B g) (sw_A g s.heap.size)) args s 0 0 (sw_A g s.heap.size)
theorem sw_entI {y : MethodName} {cc : ByteArray} {maxL d : Nat} {ret : Option FieldType} {av : sw_G → List Value} {st st1 : sw_St} {r : Int32} (own : String) (lo : sw_G → List (Nat × Value)) (hy : plainName y.cls = true) (ho : y.cls = own) (hlen : ∀ g, (lg_sl (av g)).length ≤ maxL) (hlo : ∀ g, lv_args 0 (av g) = lo g)
    (body : ∀ (p : Program) (l : Launch) (e : Env) (s : State) (m : MethodId) (args : Array Value) (below : List Frame) (meth : Method) (c : Code) (g : sw_G), sw_Ok p s m args c cc own maxL g (sw_A g s.heap.size) → meth.sig.returnType = ret → meth.locks = false → sw_V p l e d s m args below meth c g (sw_A g s.heap.size) (sw_QI below g args s r st1) maxL 0 (lo g) [] st) : sw_CI y (.code y cc maxL ret) d av st r st1 := by
  intro l g sz hinj
  refine Met.ofW (cc := cc) (maxL := maxL) (ret := ret) hy rfl ?_
  intro p e s m args below meth c s₁ B hml hv
  obtain ⟨rfl, hsz, hP, hK⟩ := hv
  subst hsz
  have hts := atoms_spec (ws := Cond.code y cc maxL ret :: sw_tbl) B.pre
  have hown : s.vm.findClass y.cls = some m.cls := findClass_of_methodNamed B.named
  rw [ho] at hown
  have hl := lv_entry (av g) (n := maxL) (hlen g)
  rw [lg_entry_eq]
  rw [hlo g] at hl
  exact body p l e s m _ below meth c g ⟨B.exec, B.bytes, hml, hown, fun w hw => hts w (List.mem_cons_of_mem _ hw), hK, hinj, fun i hi => Or.inl ⟨i, hi, rfl⟩, fun q h => Or.inr h⟩ B.returns B.notSynchronized s.heap [] _ hP va_S.rf hl
def sw_CL (y : MethodName) (cw : Cond) (d : Nat) (av : sw_G → List Value) (st : sw_St) (r : Int64) (st1 : sw_St) : Prop := ∀ (l : Launch) (g : sw_G) (sz : Nat), sw_Inj g → Met l y (cw :: sw_tbl) (sw_rm d) (va_Pc (av g) (sw_Pre g st sz)) (va_Ql (fun (r' : Int64) (s' : sw_St) => r' = r ∧ s' = st1) (sw_B g) (sw_A g sz)) 0 0 (sw_A g sz)
def sw_QL (below : List Frame) (g : sw_G) (args : Array Value) (s : State) (r : Int64) (st1 : sw_St) : State → Prop := MQ below (va_Ql (fun (r' : Int64) (s' : sw_St) => r' = r ∧ s' = st1) (sw_B g) (sw_A g s.heap.size)) args s 0 0 (sw_A g s.heap.size)
theorem sw_entL {y : MethodName} {cc : ByteArray} {maxL d : Nat} {ret : Option FieldType} {av : sw_G → List Value} {st st1 : sw_St} {r : Int64} (own : String) (lo : sw_G → List (Nat × Value)) (hy : plainName y.cls = true) (ho : y.cls = own) (hlen : ∀ g, (lg_sl (av g)).length ≤ maxL) (hlo : ∀ g, lv_args 0 (av g) = lo g)
    (body : ∀ (p : Program) (l : Launch) (e : Env) (s : State) (m : MethodId) (args : Array Value) (below : List Frame) (meth : Method) (c : Code) (g : sw_G), sw_Ok p s m args c cc own maxL g (sw_A g s.heap.size) → meth.sig.returnType = ret → meth.locks = false → sw_V p l e d s m args below meth c g (sw_A g s.heap.size) (sw_QL below g args s r st1) maxL 0 (lo g) [] st) : sw_CL y (.code y cc maxL ret) d av st r st1 := by
  intro l g sz hinj
  refine Met.ofW (cc := cc) (maxL := maxL) (ret := ret) hy rfl ?_
  intro p e s m args below meth c s₁ B hml hv
  obtain ⟨rfl, hsz, hP, hK⟩ := hv
  subst hsz
  have hts := atoms_spec (ws := Cond.code y cc maxL ret :: sw_tbl) B.pre
  have hown : s.vm.findClass y.cls = some m.cls := findClass_of_methodNamed B.named
  rw [ho] at hown
  have hl := lv_entry (av g) (n := maxL) (hlen g)
  rw [lg_entry_eq]
  rw [hlo g] at hl
  exact body p l e s m _ below meth c g ⟨B.exec, B.bytes, hml, hown, fun w hw => hts w (List.mem_cons_of_mem _ hw), hK, hinj, fun i hi => Or.inl ⟨i, hi, rfl⟩, fun q h => Or.inr h⟩ B.returns B.notSynchronized s.heap [] _ hP va_S.rf hl
def sw_CV (y : MethodName) (cw : Cond) (d : Nat) (av : sw_G → List Value) (st : sw_St) (st1 : sw_St) : Prop := ∀ (l : Launch) (g : sw_G) (sz : Nat), sw_Inj g → Met l y (cw :: sw_tbl) (sw_rm d) (va_Pc (av g) (sw_Pre g st sz)) (va_Qv (fun (s' : sw_St) => s' = st1) (sw_B g) (sw_A g sz)) 0 0 (sw_A g sz)
def sw_QV (below : List Frame) (g : sw_G) (args : Array Value) (s : State) (st1 : sw_St) : State → Prop := MQ below (va_Qv (fun (s' : sw_St) => s' = st1) (sw_B g) (sw_A g s.heap.size)) args s 0 0 (sw_A g s.heap.size)
theorem sw_entV {y : MethodName} {cc : ByteArray} {maxL d : Nat} {ret : Option FieldType} {av : sw_G → List Value} {st st1 : sw_St} (own : String) (lo : sw_G → List (Nat × Value)) (hy : plainName y.cls = true) (ho : y.cls = own) (hlen : ∀ g, (lg_sl (av g)).length ≤ maxL) (hlo : ∀ g, lv_args 0 (av g) = lo g)
    (body : ∀ (p : Program) (l : Launch) (e : Env) (s : State) (m : MethodId) (args : Array Value) (below : List Frame) (meth : Method) (c : Code) (g : sw_G), sw_Ok p s m args c cc own maxL g (sw_A g s.heap.size) → meth.sig.returnType = ret → meth.locks = false → sw_V p l e d s m args below meth c g (sw_A g s.heap.size) (sw_QV below g args s  st1) maxL 0 (lo g) [] st) : sw_CV y (.code y cc maxL ret) d av st  st1 := by
  intro l g sz hinj
  refine Met.ofW (cc := cc) (maxL := maxL) (ret := ret) hy rfl ?_
  intro p e s m args below meth c s₁ B hml hv
  obtain ⟨rfl, hsz, hP, hK⟩ := hv
  subst hsz
  have hts := atoms_spec (ws := Cond.code y cc maxL ret :: sw_tbl) B.pre
  have hown : s.vm.findClass y.cls = some m.cls := findClass_of_methodNamed B.named
  rw [ho] at hown
  have hl := lv_entry (av g) (n := maxL) (hlen g)
  rw [lg_entry_eq]
  rw [hlo g] at hl
  exact body p l e s m _ below meth c g ⟨B.exec, B.bytes, hml, hown, fun w hw => hts w (List.mem_cons_of_mem _ hw), hK, hinj, fun i hi => Or.inl ⟨i, hi, rfl⟩, fun q h => Or.inr h⟩ B.returns B.notSynchronized s.heap [] _ hP va_S.rf hl
section SWC
variable {p : Program} {l : Launch} {e : Env} {d : Nat} {s : State} {m : MethodId} {args : Array Value} {below : List Frame} {meth : Method} {c : Code} {cc : ByteArray} {own : String} {nL : Nat} {g : sw_G} {A : Nat → Prop} {Q : State → Prop} {pc : Nat} {lo : List (Nat × Value)} {rest : List Value} {st : sw_St}
theorem sw_iret (X : sw_Ok p s m args c cc own nL g (sw_A g s.heap.size)) {v r : Int32} {st1 : sw_St} (hr : meth.sig.returnType = some .int) (hlk : meth.locks = false) (dg : decode cc pc = .ok (.ireturn, 1)) (h : some (v, st) = some (r, st1)) : sw_V p l e d s m args below meth c g (sw_A g s.heap.size) (sw_QI below g args s r st1) nL pc lo [.int v] st := fun H lcs ls hP hS hl => by
  cases h
  exact W.iret X.1 X.2.1 hr (fun t ht hW => ⟨⟨_, _, rfl, ⟨rfl, rfl⟩, by rw [ht]; exact hP, va_K.moved hW.alike X.2.2.2.2.2.1⟩, hS.F ht⟩) hS.2.2 dg hlk
theorem sw_zret (X : sw_Ok p s m args c cc own nL g (sw_A g s.heap.size)) {v r : Int32} {st1 : sw_St} (hr : meth.sig.returnType = some .boolean) (hlk : meth.locks = false) (hv : v = 0 ∨ v = 1) (dg : decode cc pc = .ok (.ireturn, 1)) (h : some (v, st) = some (r, st1)) : sw_V p l e d s m args below meth c g (sw_A g s.heap.size) (sw_QI below g args s r st1) nL pc lo [.int v] st := fun H lcs ls hP hS hl => by
  cases h
  exact W.zret X.1 X.2.1 hr (by rcases hv with rfl | rfl <;> rfl) (fun t ht hW => ⟨⟨_, _, rfl, ⟨rfl, rfl⟩, by rw [ht]; exact hP, va_K.moved hW.alike X.2.2.2.2.2.1⟩, hS.F ht⟩) hS.2.2 dg hlk
theorem sw_lret (X : sw_Ok p s m args c cc own nL g (sw_A g s.heap.size)) {v r : Int64} {st1 : sw_St} (hr : meth.sig.returnType = some .long) (hlk : meth.locks = false) (dg : decode cc pc = .ok (.lreturn, 1)) (h : some (v, st) = some (r, st1)) : sw_V p l e d s m args below meth c g (sw_A g s.heap.size) (sw_QL below g args s r st1) nL pc lo [.long v] st := fun H lcs ls hP hS hl => by
  cases h
  exact W.lret X.1 X.2.1 hr (fun t ht hW => ⟨⟨_, _, rfl, ⟨rfl, rfl⟩, by rw [ht]; exact hP, va_K.moved hW.alike X.2.2.2.2.2.1⟩, hS.F ht⟩) hS.2.2 dg hlk
theorem sw_vret (X : sw_Ok p s m args c cc own nL g (sw_A g s.heap.size)) {st1 : sw_St} (hr : meth.sig.returnType = none) (hlk : meth.locks = false) (dg : decode cc pc = .ok (.return_, 1)) (h : some ((), st) = some ((), st1)) : sw_V p l e d s m args below meth c g (sw_A g s.heap.size) (sw_QV below g args s st1) nL pc lo [] st := fun H lcs ls hP hS hl => by
  cases h
  exact W.vret X.1 X.2.1 hr (fun t ht hW => ⟨⟨_, rfl, rfl, by rw [ht]; exact hP, va_K.moved hW.alike X.2.2.2.2.2.1⟩, hS.F ht⟩) hS.2.2 dg hlk
theorem sw_Asub (X : sw_Ok p s m args c cc own nL g A) {H : Heap} {lcs : List Loc} (hS : va_S A s.heap H lcs) : ∀ q, sw_A g H.size q → A q := fun q h => by
  rcases h with ⟨i, hi, rfl⟩ | h
  · exact X.2.2.2.2.2.2.2.1 i hi
  · exact X.2.2.2.2.2.2.2.2 q (Nat.le_trans hS.1 h)
theorem sw_callVI (X : sw_Ok p s m args c cc own nL g A) {y : MethodName} {bytes : ByteArray} {maxL n index o ci N d1 : Nat} {ret : Option FieldType} {C : String} {T : u_T} {ty : Nat → FieldType} {As : sw_G → List Value} {r : Int32} {st1 : sw_St} {stk : List Value} (K : sw_Cl ci C T N ty) (ho : sw_kd o = ci) (M : sw_MV y bytes maxL ret n C) (hd : d1 + 1 ≤ d) (hc : sw_CI y (.code y bytes maxL ret) d1 (fun g => .ref (g.1 o) :: As g) st r st1) (hn : (As g).length = n) (hstk : stk = (As g).reverse ++ .ref (g.1 o) :: rest) (hrest : (rest.map fun v => v.category).sum ≤ 8) (hl0 : Cond.methodLink own index y ∈ sw_tbl) (dg : decode cc pc = .ok (.invokevirtual index, 3)) (k : sw_V p l e d s m args below meth c g A Q nL (pc + 3) lo (.int r :: rest) st1) : sw_V p l e d s m args below meth c g A Q nL pc lo stk st := fun H lcs ls hP hS hl => by
  obtain ⟨hci, hcl, -⟩ := K
  obtain ⟨m1, m2, m3, m4, m5, m6⟩ := M
  have hts := X.2.2.2.2.1
  have hK := X.2.2.2.2.2.1
  have hg : GoodIn sw_tbl (Cond.code y bytes maxL ret :: sw_tbl) := sw_good m1
  have hcw : CallW (sw_rm d) s args own C index y bytes maxL ret (Cond.code y bytes maxL ret :: sw_tbl) (sw_rm d1) 0 0 n := ⟨callB_of n hts hg rfl rfl rfl (hts _ m4) (hts _ hl0) m5 ⟨hd, by show 8 + (maxL + 11) + 64 * d1 ≤ 64 * d; omega⟩, hts _ m2, hts _ m3⟩
  refine va_calli (va_runV (As := As g) (rest := rest) ⟨X.1, X.2.1, X.2.2.1, X.2.2.2.1, hts⟩ (hc l g H.size X.2.2.2.2.2.2.1) hcw ⟨sw_blind g st H.size _, va_recv hK hP hcl (by rw [sw_W_get g st (sw_ltk ho (by omega)), sw_cell_o g st ho hci]), fun U hU hW => ⟨rfl, by rw [hU], by rw [hU]; exact hP, va_K.moved hW.alike hK⟩⟩ rfl hn hl.1 hstk (lv_room hrest) dg ⟨Nat.le_refl _, Nat.le_refl _⟩) hS (fun q _ h => sw_Asub X hS q h) (sw_Asub X hS) (fun r_ u t H1 lcs1 ht hvm hw hB hz1 hk1 hS1 => ?_)
  obtain ⟨rfl, rfl⟩ := hw
  exact k H1 lcs1 ls (by rw [← ht]; exact hB.1) hS1 hl
theorem sw_callSI (X : sw_Ok p s m args c cc own nL g A) {y : MethodName} {bytes : ByteArray} {maxL n index d1 : Nat} {ret : Option FieldType} {As : sw_G → List Value} {r : Int32} {st1 : sw_St} {stk : List Value} (M : sw_MS y bytes maxL ret n) (hd : d1 + 1 ≤ d) (hc : sw_CI y (.code y bytes maxL ret) d1 As st r st1) (hn : (As g).length = n) (hstk : stk = (As g).reverse ++ rest) (hrest : (rest.map fun v => v.category).sum ≤ 8) (hl0 : Cond.methodLink own index y ∈ sw_tbl) (dg : decode cc pc = .ok (.invokestatic index, 3)) (k : sw_V p l e d s m args below meth c g A Q nL (pc + 3) lo (.int r :: rest) st1) : sw_V p l e d s m args below meth c g A Q nL pc lo stk st := fun H lcs ls hP hS hl => by
  obtain ⟨m1, m2, m4, m5, m6⟩ := M
  have hts := X.2.2.2.2.1
  have hK := X.2.2.2.2.2.1
  have hg : GoodIn sw_tbl (Cond.code y bytes maxL ret :: sw_tbl) := sw_good m1
  have hcw : CallB (sw_rm d) s args own index y bytes maxL ret (Cond.code y bytes maxL ret :: sw_tbl) (sw_rm d1) 0 0 n ∧ (Cond.static y).before args s = true := ⟨callB_of n hts hg rfl rfl rfl (hts _ m4) (hts _ hl0) m5 ⟨hd, by show 8 + (maxL + 11) + 64 * d1 ≤ 64 * d; omega⟩, hts _ m2⟩
  refine va_calli (va_runS (As := As g) (rest := rest) ⟨X.1, X.2.1, X.2.2.1, X.2.2.2.1, hts⟩ (hc l g H.size X.2.2.2.2.2.2.1) hcw ⟨sw_blind g st H.size _, fun U hU hW => ⟨rfl, by rw [hU], by rw [hU]; exact hP, va_K.moved hW.alike hK⟩⟩ rfl hn hl.1 hstk (lv_room hrest) dg ⟨Nat.le_refl _, Nat.le_refl _⟩) hS (fun q _ h => sw_Asub X hS q h) (sw_Asub X hS) (fun r_ u t H1 lcs1 ht hvm hw hB hz1 hk1 hS1 => ?_)
  obtain ⟨rfl, rfl⟩ := hw
  exact k H1 lcs1 ls (by rw [← ht]; exact hB.1) hS1 hl
theorem sw_callVL (X : sw_Ok p s m args c cc own nL g A) {y : MethodName} {bytes : ByteArray} {maxL n index o ci N d1 : Nat} {ret : Option FieldType} {C : String} {T : u_T} {ty : Nat → FieldType} {As : sw_G → List Value} {r : Int64} {st1 : sw_St} {stk : List Value} (K : sw_Cl ci C T N ty) (ho : sw_kd o = ci) (M : sw_MV y bytes maxL ret n C) (hd : d1 + 1 ≤ d) (hc : sw_CL y (.code y bytes maxL ret) d1 (fun g => .ref (g.1 o) :: As g) st r st1) (hn : (As g).length = n) (hstk : stk = (As g).reverse ++ .ref (g.1 o) :: rest) (hrest : (rest.map fun v => v.category).sum ≤ 8) (hl0 : Cond.methodLink own index y ∈ sw_tbl) (dg : decode cc pc = .ok (.invokevirtual index, 3)) (k : sw_V p l e d s m args below meth c g A Q nL (pc + 3) lo (.long r :: rest) st1) : sw_V p l e d s m args below meth c g A Q nL pc lo stk st := fun H lcs ls hP hS hl => by
  obtain ⟨hci, hcl, -⟩ := K
  obtain ⟨m1, m2, m3, m4, m5, m6⟩ := M
  have hts := X.2.2.2.2.1
  have hK := X.2.2.2.2.2.1
  have hg : GoodIn sw_tbl (Cond.code y bytes maxL ret :: sw_tbl) := sw_good m1
  have hcw : CallW (sw_rm d) s args own C index y bytes maxL ret (Cond.code y bytes maxL ret :: sw_tbl) (sw_rm d1) 0 0 n := ⟨callB_of n hts hg rfl rfl rfl (hts _ m4) (hts _ hl0) m5 ⟨hd, by show 8 + (maxL + 11) + 64 * d1 ≤ 64 * d; omega⟩, hts _ m2, hts _ m3⟩
  refine va_calll (va_runV (As := As g) (rest := rest) ⟨X.1, X.2.1, X.2.2.1, X.2.2.2.1, hts⟩ (hc l g H.size X.2.2.2.2.2.2.1) hcw ⟨sw_blind g st H.size _, va_recv hK hP hcl (by rw [sw_W_get g st (sw_ltk ho (by omega)), sw_cell_o g st ho hci]), fun U hU hW => ⟨rfl, by rw [hU], by rw [hU]; exact hP, va_K.moved hW.alike hK⟩⟩ rfl hn hl.1 hstk (lv_room hrest) dg ⟨Nat.le_refl _, Nat.le_refl _⟩) hS (fun q _ h => sw_Asub X hS q h) (sw_Asub X hS) (fun r_ u t H1 lcs1 ht hvm hw hB hz1 hk1 hS1 => ?_)
  obtain ⟨rfl, rfl⟩ := hw
  exact k H1 lcs1 ls (by rw [← ht]; exact hB.1) hS1 hl
theorem sw_callSL (X : sw_Ok p s m args c cc own nL g A) {y : MethodName} {bytes : ByteArray} {maxL n index d1 : Nat} {ret : Option FieldType} {As : sw_G → List Value} {r : Int64} {st1 : sw_St} {stk : List Value} (M : sw_MS y bytes maxL ret n) (hd : d1 + 1 ≤ d) (hc : sw_CL y (.code y bytes maxL ret) d1 As st r st1) (hn : (As g).length = n) (hstk : stk = (As g).reverse ++ rest) (hrest : (rest.map fun v => v.category).sum ≤ 8) (hl0 : Cond.methodLink own index y ∈ sw_tbl) (dg : decode cc pc = .ok (.invokestatic index, 3)) (k : sw_V p l e d s m args below meth c g A Q nL (pc + 3) lo (.long r :: rest) st1) : sw_V p l e d s m args below meth c g A Q nL pc lo stk st := fun H lcs ls hP hS hl => by
  obtain ⟨m1, m2, m4, m5, m6⟩ := M
  have hts := X.2.2.2.2.1
  have hK := X.2.2.2.2.2.1
  have hg : GoodIn sw_tbl (Cond.code y bytes maxL ret :: sw_tbl) := sw_good m1
  have hcw : CallB (sw_rm d) s args own index y bytes maxL ret (Cond.code y bytes maxL ret :: sw_tbl) (sw_rm d1) 0 0 n ∧ (Cond.static y).before args s = true := ⟨callB_of n hts hg rfl rfl rfl (hts _ m4) (hts _ hl0) m5 ⟨hd, by show 8 + (maxL + 11) + 64 * d1 ≤ 64 * d; omega⟩, hts _ m2⟩
  refine va_calll (va_runS (As := As g) (rest := rest) ⟨X.1, X.2.1, X.2.2.1, X.2.2.2.1, hts⟩ (hc l g H.size X.2.2.2.2.2.2.1) hcw ⟨sw_blind g st H.size _, fun U hU hW => ⟨rfl, by rw [hU], by rw [hU]; exact hP, va_K.moved hW.alike hK⟩⟩ rfl hn hl.1 hstk (lv_room hrest) dg ⟨Nat.le_refl _, Nat.le_refl _⟩) hS (fun q _ h => sw_Asub X hS q h) (sw_Asub X hS) (fun r_ u t H1 lcs1 ht hvm hw hB hz1 hk1 hS1 => ?_)
  obtain ⟨rfl, rfl⟩ := hw
  exact k H1 lcs1 ls (by rw [← ht]; exact hB.1) hS1 hl
theorem sw_callVV (X : sw_Ok p s m args c cc own nL g A) {y : MethodName} {bytes : ByteArray} {maxL n index o ci N d1 : Nat} {ret : Option FieldType} {C : String} {T : u_T} {ty : Nat → FieldType} {As : sw_G → List Value} {st1 : sw_St} {stk : List Value} (K : sw_Cl ci C T N ty) (ho : sw_kd o = ci) (M : sw_MV y bytes maxL ret n C) (hd : d1 + 1 ≤ d) (hc : sw_CV y (.code y bytes maxL ret) d1 (fun g => .ref (g.1 o) :: As g) st  st1) (hn : (As g).length = n) (hstk : stk = (As g).reverse ++ .ref (g.1 o) :: rest) (hrest : (rest.map fun v => v.category).sum ≤ 8) (hl0 : Cond.methodLink own index y ∈ sw_tbl) (dg : decode cc pc = .ok (.invokevirtual index, 3)) (k : sw_V p l e d s m args below meth c g A Q nL (pc + 3) lo (rest) st1) : sw_V p l e d s m args below meth c g A Q nL pc lo stk st := fun H lcs ls hP hS hl => by
  obtain ⟨hci, hcl, -⟩ := K
  obtain ⟨m1, m2, m3, m4, m5, m6⟩ := M
  have hts := X.2.2.2.2.1
  have hK := X.2.2.2.2.2.1
  have hg : GoodIn sw_tbl (Cond.code y bytes maxL ret :: sw_tbl) := sw_good m1
  have hcw : CallW (sw_rm d) s args own C index y bytes maxL ret (Cond.code y bytes maxL ret :: sw_tbl) (sw_rm d1) 0 0 n := ⟨callB_of n hts hg rfl rfl rfl (hts _ m4) (hts _ hl0) m5 ⟨hd, by show 8 + (maxL + 11) + 64 * d1 ≤ 64 * d; omega⟩, hts _ m2, hts _ m3⟩
  refine va_callv (va_runV (As := As g) (rest := rest) ⟨X.1, X.2.1, X.2.2.1, X.2.2.2.1, hts⟩ (hc l g H.size X.2.2.2.2.2.2.1) hcw ⟨sw_blind g st H.size _, va_recv hK hP hcl (by rw [sw_W_get g st (sw_ltk ho (by omega)), sw_cell_o g st ho hci]), fun U hU hW => ⟨rfl, by rw [hU], by rw [hU]; exact hP, va_K.moved hW.alike hK⟩⟩ rfl hn hl.1 hstk (lv_room hrest) dg ⟨Nat.le_refl _, Nat.le_refl _⟩) hS (fun q _ h => sw_Asub X hS q h) (sw_Asub X hS) (fun u t H1 lcs1 ht hvm hw hB hz1 hk1 hS1 => ?_)
  subst hw
  exact k H1 lcs1 ls (by rw [← ht]; exact hB.1) hS1 hl
theorem sw_callSV (X : sw_Ok p s m args c cc own nL g A) {y : MethodName} {bytes : ByteArray} {maxL n index d1 : Nat} {ret : Option FieldType} {As : sw_G → List Value} {st1 : sw_St} {stk : List Value} (M : sw_MS y bytes maxL ret n) (hd : d1 + 1 ≤ d) (hc : sw_CV y (.code y bytes maxL ret) d1 As st  st1) (hn : (As g).length = n) (hstk : stk = (As g).reverse ++ rest) (hrest : (rest.map fun v => v.category).sum ≤ 8) (hl0 : Cond.methodLink own index y ∈ sw_tbl) (dg : decode cc pc = .ok (.invokestatic index, 3)) (k : sw_V p l e d s m args below meth c g A Q nL (pc + 3) lo (rest) st1) : sw_V p l e d s m args below meth c g A Q nL pc lo stk st := fun H lcs ls hP hS hl => by
  obtain ⟨m1, m2, m4, m5, m6⟩ := M
  have hts := X.2.2.2.2.1
  have hK := X.2.2.2.2.2.1
  have hg : GoodIn sw_tbl (Cond.code y bytes maxL ret :: sw_tbl) := sw_good m1
  have hcw : CallB (sw_rm d) s args own index y bytes maxL ret (Cond.code y bytes maxL ret :: sw_tbl) (sw_rm d1) 0 0 n ∧ (Cond.static y).before args s = true := ⟨callB_of n hts hg rfl rfl rfl (hts _ m4) (hts _ hl0) m5 ⟨hd, by show 8 + (maxL + 11) + 64 * d1 ≤ 64 * d; omega⟩, hts _ m2⟩
  refine va_callv (va_runS (As := As g) (rest := rest) ⟨X.1, X.2.1, X.2.2.1, X.2.2.2.1, hts⟩ (hc l g H.size X.2.2.2.2.2.2.1) hcw ⟨sw_blind g st H.size _, fun U hU hW => ⟨rfl, by rw [hU], by rw [hU]; exact hP, va_K.moved hW.alike hK⟩⟩ rfl hn hl.1 hstk (lv_room hrest) dg ⟨Nat.le_refl _, Nat.le_refl _⟩) hS (fun q _ h => sw_Asub X hS q h) (sw_Asub X hS) (fun u t H1 lcs1 ht hvm hw hB hz1 hk1 hS1 => ?_)
  subst hw
  exact k H1 lcs1 ls (by rw [← ht]; exact hB.1) hS1 hl
theorem sw_mmax (X : sw_Ok p s m args c cc own nL g A) {x y : Int32} {index : Nat} (h1 : Cond.methodLink own index Lib.Math.max.name ∈ sw_tbl) (h2 : Cond.static Lib.Math.max.name ∈ sw_tbl) (h3 : Cond.initialized "java/lang/Math" ∈ sw_tbl) (h4 : Cond.code Lib.Math.max.name Lib.Math.max.code 2 (some .int) ∈ sw_tbl) (hd : 1 ≤ d) (hrest : (rest.map fun v => v.category).sum ≤ 8) (dg : decode cc pc = .ok (.invokestatic index, 3)) (k : sw_V p l e d s m args below meth c g A Q nL (pc + 3) lo (.int (if x < y then y else x) :: rest) st) : sw_V p l e d s m args below meth c g A Q nL pc lo (.int y :: .int x :: rest) st := fun H lcs ls hP hS hl =>
  va_mmax X.1 X.2.1 (X.2.2.1.trans hl.1.symm) X.2.2.2.1 (X.2.2.2.2.1 _ h1) (X.2.2.2.2.1 _ h2) (X.2.2.2.2.1 _ h3) (X.2.2.2.2.1 _ h4) hd (by show _ + 13 ≤ 64 * d; omega) (Nat.le_refl _) (Nat.le_refl _) dg (k H lcs ls hP hS hl)
theorem sw_mmin (X : sw_Ok p s m args c cc own nL g A) {x y : Int32} {index : Nat} (h1 : Cond.methodLink own index Lib.Math.min.name ∈ sw_tbl) (h2 : Cond.static Lib.Math.min.name ∈ sw_tbl) (h3 : Cond.initialized "java/lang/Math" ∈ sw_tbl) (h4 : Cond.code Lib.Math.min.name Lib.Math.min.code 2 (some .int) ∈ sw_tbl) (hd : 1 ≤ d) (hrest : (rest.map fun v => v.category).sum ≤ 8) (dg : decode cc pc = .ok (.invokestatic index, 3)) (k : sw_V p l e d s m args below meth c g A Q nL (pc + 3) lo (.int (if y < x then y else x) :: rest) st) : sw_V p l e d s m args below meth c g A Q nL pc lo (.int y :: .int x :: rest) st := fun H lcs ls hP hS hl =>
  va_mmin X.1 X.2.1 (X.2.2.1.trans hl.1.symm) X.2.2.2.1 (X.2.2.2.2.1 _ h1) (X.2.2.2.2.1 _ h2) (X.2.2.2.2.1 _ h3) (X.2.2.2.2.1 _ h4) hd (by show _ + 13 ≤ 64 * d; omega) (Nat.le_refl _) (Nat.le_refl _) dg (k H lcs ls hP hS hl)
theorem sw_copy (X : sw_Ok p s m args c cc own nL g A) {a b n0 n1 : Nat} {sp dp n : Int32} {index : Nat} (ha : sw_kd a = 8) (hn0 : sw_ln a = n0) (hb : sw_kd b = 8) (hn1 : sw_ln b = n1) (h1 : ¬ sp < 0) (h2 : ¬ dp < 0) (h3 : ¬ n < 0) (h4 : sp.toNatClampNeg + n.toNatClampNeg ≤ n0) (h5 : dp.toNatClampNeg + n.toNatClampNeg ≤ n1)
    (m1 : Cond.methodLink own index arraycopyName ∈ sw_tbl) (m2 : Cond.native arraycopyName ∈ sw_tbl) (m3 : Cond.static arraycopyName ∈ sw_tbl) (m4 : Cond.initialized "java/lang/System" ∈ sw_tbl) (hd : 1 ≤ d) (hrest : (rest.map fun v => v.category).sum ≤ 8) (dg : decode cc pc = .ok (.invokestatic index, 3))
    (k : ∀ st1, st1 = (sw_setA st b (va_cpy (st.1 a) (st.1 b) sp.toNatClampNeg dp.toNatClampNeg n.toNatClampNeg)) → sw_V p l e d s m args below meth c g A Q nL (pc + 3) lo rest st1) : sw_V p l e d s m args below meth c g A Q nL pc lo (.int n :: .int dp :: .ref (g.1 b) :: .int sp :: .ref (g.1 a) :: rest) st := fun H lcs ls hP hS hl => by
  refine va_copyi X.1 X.2.1 (X.2.2.1.trans hl.1.symm) X.2.2.2.1 (X.2.2.2.2.1 _ m1) (X.2.2.2.2.1 _ m2) (X.2.2.2.2.1 _ m3) (X.2.2.2.2.1 _ m4) X.2.2.2.2.2.1 hP (sw_W_D g A X.2.2.2.2.2.2.1 X.2.2.2.2.2.2.2.1 st) hS a b 1 1 (by rw [sw_W_get g st (sw_ltk ha (by decide)), sw_cell_a g st ha hn0 (by decide) (by decide)]) (by rw [sw_W_get g st (sw_ltk hb (by decide)), sw_cell_a g st hb hn1 (by decide) (by decide)]) rfl rfl rfl h1 h2 h3 h4 h5 (fun _ _ => rfl) hd ?_ dg (fun H1 lcs1 hP1 hD1 hS1 => ?_)
  · have e : nativeFrameWords "java/lang/System" "arraycopy" 5 + 11 ≤ 56 := by decide +kernel
    show _ + (nativeFrameWords "java/lang/System" "arraycopy" 5 + 11) ≤ 64 * d
    omega
  · rw [sw_set_a g st hb hn1 (by decide) (by decide)] at hP1
    exact k _ rfl H1 lcs1 ls hP1 hS1 hl
end SWC
