def R_law : String := "StrangersWindLaw"
def lw_P (b : Addr) (xs : List Int32) (args : Array Value) (s : State) : Prop := args = #[.ref b] ∧ s.IntsAt b xs ∧ xs.length ≤ 384 ∧ (Jvm.Cond.and given_1 narrow_1).before args s = true
def lw_Q (_ : Array Value) (s : State) (o : Outcome) (t : State) : Prop := o = .returned (some (.int 1)) ∧ Framed s o t [] 600000 7302250
def lw_Z (below : List Frame) (a : Array Value) (s : State) : State → Prop := fun t => ∃ o, t.status = .running ∧ Ended t below o ∧ lw_Q a s o t
/-- the law's own end, with 1 on the stack, nothing written that was there before, its room as the claim has it -/
theorem lw_ret {p : Program} {l : Launch} {e : Env} {s : State} {m : MethodId} {below : List Frame} {meth : Method} {c : Code} {b : Nat} (hx : p.tables.exec = Jvm.exec) (hb : c.code = code) (hr : meth.sig.returnType = ret) (hlocks : meth.locks = false) {pc : Nat} {H : Heap} {ls : Array Slot} (hdg : decode code pc = .ok (.ireturn, 1)) : W p l e room_1 s m #[Value.ref b] below meth c H [] 600000 7302250 (lw_Z below #[Value.ref b] s) (F0 m pc ls [.int 1]) := by
  intro T hT X
  obtain ⟨fs, hret, hrun, hended, hW, hframe⟩ := X.leave (v := some (.int 1)) (hlocks := hlocks) (fun h => by rw [hr] at h; cases h)
  have hmeth' : T.vm.method? m = some meth := X.method'
  refine ⟨T.setFrames fs, ?_, .returned (some (.int 1)), hrun, hended, rfl, ⟨_, rfl⟩, hW, hframe⟩
  jvm_step X.here [X.here.top, hx, hb, hdg, hmeth', hr, ret, narrow_b1]
  (try refine ⟨rfl, ?_⟩); (try refine ⟨rfl, ?_⟩)
  first | (intro acts; rw [hret _ acts rfl rfl rfl]) | rw [hret _ _ rfl rfl rfl]
  exact Steps.refl _
/-- what holds at the law's entry: the machine, the code, the tables' words (any of lw_tbl by 'hts w (by decide +kernel)'), the script of L ints xs at the cell b, what the Statement gives of the start (any of its parts by flat_of_before) -/
def lw_At (p : Program) (s : State) (m : MethodId) (meth : Method) (c : Code) (b L : Nat) (xs : Nat → Int32) : Prop :=
  p.tables.exec = Jvm.exec ∧ c.code = code ∧ meth.sig.returnType = ret ∧ c.maxLocals = 4 ∧ s.vm.findClass R_law = some m.cls ∧ (∀ w ∈ lw_tbl, w.before #[Value.ref b] s = true) ∧ va_X b L xs s s.heap ∧ b < s.heap.size ∧ meth.locks = false ∧ (Jvm.Cond.and given_1 narrow_1).before #[Value.ref b] s = true

/-- what stands through the law: the machine, the tables, the world's addresses -/
def lw_G (p : Program) (s : State) (m : MethodId) (c : Code) (b : Nat) (g : sw_G) : Prop := p.tables.exec = Jvm.exec ∧ c.code = code ∧ c.maxLocals = 4 ∧ s.vm.findClass R_law = some m.cls ∧ (∀ w ∈ sw_tbl, w.before #[Value.ref b] s = true) ∧ va_K g.2.1 vwCl (sw_tys g) s ∧ sw_Inj g ∧ (∀ i, i < 77 → s.heap.size ≤ g.1 i)
section LWC
variable {p : Program} {l : Launch} {e : Env} {s : State} {m : MethodId} {b : Nat} {below : List Frame} {meth : Method} {c : Code} {g : sw_G} {Q : State → Prop} {pc : Nat} {ls : Array Slot} {rest : List Value} {st : sw_St} {H : Heap} {lcs : List Loc}
theorem lw_callI (G : lw_G p s m c b g) {y : MethodName} {bytes : ByteArray} {maxL n index o ci N d1 : Nat} {ret : Option FieldType} {C : String} {T : u_T} {ty : Nat → FieldType} {As : sw_G → List Value} {r : Int32} {st1 : sw_St} {stk : List Value} (hP : va_P g.2.1 vwCl (sw_W g st) H) (hS : va_S (fun q : Nat => s.heap.size ≤ q) s.heap H lcs) (hsz : ls.size = 4) (K : sw_Cl ci C T N ty) (ho : sw_kd o = ci) (M : sw_MV y bytes maxL ret n C) (hd : d1 ≤ 100) (hc : sw_CI y (.code y bytes maxL ret) d1 (fun g => .ref (g.1 o) :: As g) st r st1) (hn : (As g).length = n) (hstk : stk = (As g).reverse ++ .ref (g.1 o) :: rest) (hrest : (rest.map fun v => v.category).sum ≤ 8) (hl0 : Cond.methodLink R_law index y ∈ sw_tbl) (dg : decode code pc = .ok (.invokevirtual index, 3))
    (k : ∀ (H1 : Heap) (lcs1 : List Loc), va_P g.2.1 vwCl (sw_W g st1) H1 → va_S (fun q : Nat => s.heap.size ≤ q) s.heap H1 lcs1 → W p l e room_1 s m #[Value.ref b] below meth c H1 lcs1 77 5047 Q (F0 m (pc + 3) ls (.int r :: rest))) : W p l e room_1 s m #[Value.ref b] below meth c H lcs 77 5047 Q (F0 m pc ls stk) := by
  obtain ⟨hx, hb, hml, hown, hts, hK, hinj, hA⟩ := G
  obtain ⟨hci, hcl, -⟩ := K
  obtain ⟨m1, m2, m3, m4, m5, m6⟩ := M
  have hg : GoodIn sw_tbl (Cond.code y bytes maxL ret :: sw_tbl) := sw_good m1
  have hcw : CallW room_1 s #[Value.ref b] R_law C index y bytes maxL ret (Cond.code y bytes maxL ret :: sw_tbl) (sw_rm d1) 0 0 n := ⟨callB_of n hts hg rfl rfl rfl (hts _ m4) (hts _ hl0) m5 ⟨by show d1 + 1 ≤ 2048; omega, by show 8 + (maxL + 11) + 64 * d1 ≤ 84000; omega⟩, hts _ m2, hts _ m3⟩
  have hsub : ∀ q, sw_A g H.size q → (fun q : Nat => s.heap.size ≤ q) q := fun q h => by
    rcases h with ⟨i, hi, rfl⟩ | h
    · exact hA i hi
    · exact Nat.le_trans hS.1 h
  refine va_calli (va_runV (As := As g) (rest := rest) ⟨hx, hb, hml, hown, hts⟩ (hc l g H.size hinj) hcw ⟨sw_blind g st H.size _, va_recv hK hP hcl (by rw [sw_W_get g st (sw_ltk ho (by omega)), sw_cell_o g st ho hci]), fun U hU hW => ⟨rfl, by rw [hU], by rw [hU]; exact hP, va_K.moved hW.alike hK⟩⟩ rfl hn hsz hstk (lv_room hrest) dg ⟨by decide, by decide⟩) hS (fun q _ h => hsub q h) hsub (fun r_ u t H1 lcs1 ht hvm hw hB hz1 hk1 hS1 => ?_)
  obtain ⟨rfl, rfl⟩ := hw
  exact k H1 lcs1 (by rw [← ht]; exact hB.1) hS1
theorem lw_callL (G : lw_G p s m c b g) {y : MethodName} {bytes : ByteArray} {maxL n index o ci N d1 : Nat} {ret : Option FieldType} {C : String} {T : u_T} {ty : Nat → FieldType} {As : sw_G → List Value} {r : Int64} {st1 : sw_St} {stk : List Value} (hP : va_P g.2.1 vwCl (sw_W g st) H) (hS : va_S (fun q : Nat => s.heap.size ≤ q) s.heap H lcs) (hsz : ls.size = 4) (K : sw_Cl ci C T N ty) (ho : sw_kd o = ci) (M : sw_MV y bytes maxL ret n C) (hd : d1 ≤ 100) (hc : sw_CL y (.code y bytes maxL ret) d1 (fun g => .ref (g.1 o) :: As g) st r st1) (hn : (As g).length = n) (hstk : stk = (As g).reverse ++ .ref (g.1 o) :: rest) (hrest : (rest.map fun v => v.category).sum ≤ 8) (hl0 : Cond.methodLink R_law index y ∈ sw_tbl) (dg : decode code pc = .ok (.invokevirtual index, 3))
    (k : ∀ (H1 : Heap) (lcs1 : List Loc), va_P g.2.1 vwCl (sw_W g st1) H1 → va_S (fun q : Nat => s.heap.size ≤ q) s.heap H1 lcs1 → W p l e room_1 s m #[Value.ref b] below meth c H1 lcs1 77 5047 Q (F0 m (pc + 3) ls (.long r :: rest))) : W p l e room_1 s m #[Value.ref b] below meth c H lcs 77 5047 Q (F0 m pc ls stk) := by
  obtain ⟨hx, hb, hml, hown, hts, hK, hinj, hA⟩ := G
  obtain ⟨hci, hcl, -⟩ := K
  obtain ⟨m1, m2, m3, m4, m5, m6⟩ := M
  have hg : GoodIn sw_tbl (Cond.code y bytes maxL ret :: sw_tbl) := sw_good m1
  have hcw : CallW room_1 s #[Value.ref b] R_law C index y bytes maxL ret (Cond.code y bytes maxL ret :: sw_tbl) (sw_rm d1) 0 0 n := ⟨callB_of n hts hg rfl rfl rfl (hts _ m4) (hts _ hl0) m5 ⟨by show d1 + 1 ≤ 2048; omega, by show 8 + (maxL + 11) + 64 * d1 ≤ 84000; omega⟩, hts _ m2, hts _ m3⟩
  have hsub : ∀ q, sw_A g H.size q → (fun q : Nat => s.heap.size ≤ q) q := fun q h => by
    rcases h with ⟨i, hi, rfl⟩ | h
    · exact hA i hi
    · exact Nat.le_trans hS.1 h
  refine va_calll (va_runV (As := As g) (rest := rest) ⟨hx, hb, hml, hown, hts⟩ (hc l g H.size hinj) hcw ⟨sw_blind g st H.size _, va_recv hK hP hcl (by rw [sw_W_get g st (sw_ltk ho (by omega)), sw_cell_o g st ho hci]), fun U hU hW => ⟨rfl, by rw [hU], by rw [hU]; exact hP, va_K.moved hW.alike hK⟩⟩ rfl hn hsz hstk (lv_room hrest) dg ⟨by decide, by decide⟩) hS (fun q _ h => hsub q h) hsub (fun r_ u t H1 lcs1 ht hvm hw hB hz1 hk1 hS1 => ?_)
  obtain ⟨rfl, rfl⟩ := hw
  exact k H1 lcs1 (by rw [← ht]; exact hB.1) hS1
end LWC
theorem lw_cmp0 (x : Int64) : lg_cmp x x = 0 := by
  unfold lg_cmp
  rw [if_neg (show ¬ x > x from Int64.lt_irrefl), if_pos rfl]
