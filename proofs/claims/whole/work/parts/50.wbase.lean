/-! the law's wrappers: methods with a table of handlers -/
def CtW (l : Launch) (y : MethodName) (wd : List Cond) (rm : Room) (G : GT) (av : List Value) (ws : va_W) (v : Option Value) (ws' : va_W) : Prop :=
  ∀ sz : Nat, Met l y wd rm (va_Pc av (cpX G ws sz)) (gQ G v ws' (va_A ws sz)) rm.cells rm.slots (va_A ws sz)
def wMQ (below : List Frame) (G : GT) (v : Option Value) (ws' : va_W) (A : Nat → Prop) (args : Array Value) (s : State) (mc ms : Nat) : State → Prop := MQ below (gQ G v ws' A) args s mc ms A
theorem CtW.ofW {l : Launch} {y : MethodName} {wd : List Cond} {rm : Room} {G : GT} {av : List Value} {ws : va_W} {v : Option Value} {ws' : va_W} {cc : ByteArray} {maxL : Nat} {ret : Option FieldType} {own : String} {hh : List (Nat × Nat × Nat × Nat)}
    (hy : plainName y.cls = true) (hw : wd = Cond.codeWith y cc maxL ret hh :: lw_g) (ho : y.cls = own) (hn : (lg_sl av).length ≤ maxL)
    (body : ∀ (p : Program) (e : Env) (s : State) (m : MethodId) (args : Array Value) (below : List Frame) (meth : Method) (c : Code) (A : Nat → Prop), p.tables.exec = Jvm.exec → c.code = cc → meth.sig.returnType = ret → c.maxLocals = maxL → (∀ w ∈ lw_g, w.before args s = true) → s.vm.findClass own = some m.cls → meth.locks = false → GK G s → va_P G.1 vwCl ws s.heap → va_D A ws → (∀ q : Nat, s.heap.size ≤ q → A q) → va_S A s.heap s.heap [] → c.exceptionTable.toList = tableOf hh → XZ A s s.heap → ∀ ls : Array Slot, lv_has ls maxL (lv_args 0 av) →
      W p l e rm s m args below meth c s.heap [] 0 0 (wMQ below G v ws' A args s rm.cells rm.slots) (F0 m 0 ls [])) : CtW l y wd rm G av ws v ws' := by
  intro sz
  refine MetFree.of_bodyS (code := cc) (maxLocals := maxL) (ret := ret) hy ?_ ?_
  · intro args s m h hn
    obtain ⟨m9, meth, c, hn9, h1, h2, h3, h4, -, h5, h6, -⟩ := Cond.codeWith_spec (atoms_spec (ws := wd) h _ (by rw [hw]; exact List.mem_cons_self))
    cases hn.symm.trans hn9
    exact ⟨meth, c, h1, h2, h3, h4, h5, h6⟩
  · intro p e s m args below meth c s₁ B hml hv _
    have hh0 : s₁.heap = s.heap := by rw [B.state]; rfl
    have htab : c.exceptionTable.toList = tableOf hh := vx_table (x := y) B (atoms_spec (ws := wd) B.pre (Cond.codeWith y cc maxL ret hh) (by rw [hw]; exact List.mem_cons_self))
    obtain ⟨rfl, ⟨hsz, hP, hK, hD0⟩, hZ⟩ := hv
    have hts := atoms_spec (ws := wd) B.pre
    have hown : s.vm.findClass own = some m.cls := by rw [← ho]; exact findClass_of_methodNamed B.named
    subst hsz
    have hl := lv_entry av (n := maxL) hn
    have K := body p e s m _ below meth c (va_A ws s.heap.size) B.exec B.bytes B.returns hml (fun w h => hts w (by rw [hw]; exact List.mem_cons_of_mem _ h)) hown B.notSynchronized hK hP hD0.self (fun q h => Or.inr h) va_S.rf htab hZ _ hl
    obtain ⟨t, a1, o, b1, b2, b3⟩ := K s₁ hh0 (Stand.of_body B)
    exact ⟨t, o, by rw [lg_entry_eq]; exact a1, b1, b2, b3.1, b3.2⟩
section GW
variable {p : Program} {l : Launch} {e : Env} {R : Room} {s : State} {m : MethodId} {args : Array Value} {below : List Frame} {meth : Method} {c : Code} {H : Heap} {locs : List Loc} {cells slots mc ms : Nat} {Q : State → Prop} {A : Nat → Prop} {G : GT} {ws' : va_W} {cc : ByteArray} {pc : Nat} {ls : Array Slot} {bs bc b1 bs' : List va_W}
theorem w_iret {v : Int32} (hx : p.tables.exec = Jvm.exec) (hb : c.code = cc) (hr : meth.sig.returnType = some .int) (hlocks : meth.locks = false) (hc : cells ≤ mc) (hs : slots ≤ ms) (hP : va_P G.1 vwCl ws' H) (hS : va_S A s.heap H locs) (hdg : decode cc pc = .ok (.ireturn, 1)) :
    W p l e R s m args below meth c H locs cells slots (wMQ below G (some (.int v)) ws' A args s mc ms) (F0 m pc ls [.int v]) :=
  W.widen hc hs (W.iret hx hb hr (fun t ht _ => ⟨rfl, by rw [ht]; exact hP, hS.F ht⟩) hS.2.2 hdg hlocks)
theorem w_preX {As : List Value} (is : List Nat) (hK : GK G s) (hZ : XZ A s s.heap) (hP : va_P G.1 vwCl bs.flatten H) (hD : va_D A bs.flatten) (hS : va_S A s.heap H locs) (hA : ∀ q : Nat, s.heap.size ≤ q → A q) (hC : is.map (fun i => bs[i]?) = bc.map some) (hDc : va_D (fun _ => True) bc.flatten) :
    ∀ U : State, U.heap = H → s.WarmedH U.vm → va_Pc As (cpX G bc.flatten H.size) As.toArray U := by
  intro U hU hW
  have hPc : va_P G.1 vwCl bc.flatten H := by
    intro k q hq
    obtain ⟨i, hi⟩ := List.getElem?_of_mem (blk_sub is hC q (List.mem_of_getElem? hq))
    exact hP i q hi
  exact ⟨rfl, ⟨by rw [hU], by rw [hU]; exact hPc, hK.moved hW, hDc⟩, by rw [hU]; exact XZ.moved hW.alike ((hZ.kept hS.2.1).narrow (blk_free (bc := bc) is hD hS hA hC))⟩
/-- a call of the class's method x, by its pure end: it has returned -/
theorem w_callR {y : MethodName} {bytes : ByteArray} {maxL nL n index : Nat} {ret : Option FieldType} {rm : Room} {own C : String} {b : Nat} {As rest st0 : List Value} {v : Option Value} {q : vw_C} {fs : List Value}
    (hx : p.tables.exec = Jvm.exec) (hb : c.code = cc) (hml : c.maxLocals = nL) (hown : s.vm.findClass own = some m.cls) (hts : ∀ w ∈ lw_g, w.before args s = true) (hK : GK G s) (hZ : XZ A s s.heap)
    (hM : CtP l y (Cond.code y bytes maxL ret :: lw_g) rm G (.ref b :: As) bc.flatten (.inr (v, b1.flatten)))
    (hc : Cond.code y bytes maxL ret ∈ lw_g) (hi : Cond.initialized y.cls ∈ lw_g) (hl : Cond.methodLink own index y ∈ lw_g) (hin : Cond.instanceMethod y ∈ lw_g) (hse : Cond.selects C y y ∈ lw_g)
    (hd : y.cls ≠ "java/lang/invoke/MethodHandle" ∧ y.cls ≠ "java/lang/invoke/VarHandle" ∧ (parseMethodDescriptor y.desc).map (fun d => d.parameters.length) = some n) (hR : rm.frames + 1 ≤ R.frames ∧ 8 + (maxL + 11) + rm.locals ≤ R.locals)
    (hP : va_P G.1 vwCl bs.flatten H) (hD : va_D A bs.flatten) (hS : va_S A s.heap H locs) (hA : ∀ q : Nat, s.heap.size ≤ q → A q) (is : List Nat) (hC : is.map (fun i => bs[i]?) = bc.map some) (hDc : va_D (fun _ => True) bc.flatten) (hadr : b1.map (List.map Prod.fst) = bc.map (List.map Prod.fst)) (hset : bset bs is b1 = bs')
    (ci q0 : Nat) (hq : vwCl[ci]? = some q) (hqC : q.1 = C) (he : bs.flatten[q0]? = some (b, .inr (ci, fs)))
    (hn : As.length = n) (hsz : ls.size = nL) (hst : st0 = As.reverse ++ .ref b :: rest) (hrm : (rest.map fun v => v.category).sum ≤ 8) (hdg : decode cc pc = .ok (.invokevirtual index, 3)) (hf : cells + rm.cells ≤ R.cells ∧ slots + rm.slots ≤ R.slots)
    (kk : ∀ (H1 : Heap) (locs1 : List Loc), va_P G.1 vwCl bs'.flatten H1 → va_D A bs'.flatten → va_S A s.heap H1 locs1 → W p l e R s m args below meth c H1 locs1 (cells + rm.cells) (slots + rm.slots) Q (F0 m (pc + 3) ls (v.toList ++ rest))) :
    W p l e R s m args below meth c H locs cells slots Q (F0 m pc ls st0) := by
  subst hst
  have hF := blk_free (bc := bc) is hD hS hA hC
  have hr := vx_runV (l := l) (p := p) (e := e) (below := below) (meth := meth) (locs := locs) (cells := cells) (slots := slots) (As := As) (rest := rest) (g := F0 m pc ls (As.reverse ++ .ref b :: rest)) ⟨hx, hb, hml, hown, hts⟩ (hM H.size) ⟨x_cb hts hc hi hl hd hR, hts _ hin, hts _ hse⟩
    ⟨cpX_blind, by rw [← hqC]; exact va_recv hK.1 hP hq he, w_preX is hK hZ hP hD hS hA hC hDc⟩ rfl hn hsz rfl (lv_room hrm) hdg hf
  intro T hT X
  rcases hr T hT X with ⟨v', st₀, t, T', L, h0, X', hL, e1, e2, ⟨v9, ws9, hv, ho, hP1, hz, hk⟩, st⟩ | ⟨q, st₀, t, T', L, E, ce, h0, X', hL, e1, e2, ⟨hv, hP1, hFr⟩, hce, hcv, hcl, st⟩
  · cases hv
    cases ho
    rw [h0] at hz hk
    obtain ⟨hP2, hD2⟩ := blk_ok hP hD is hC hadr hset hk hP1
    obtain ⟨t2, a1, b1'⟩ := kk T'.heap (locs ++ L) (by rw [e1]; exact hP2) hD2
      ⟨Nat.le_trans hS.1 (by rw [e1]; exact hz), fun q h1 h2 => by rw [e1, hk q (Nat.lt_of_lt_of_le h1 hS.1) (fun z => h2 (hF q z))]; exact hS.2.1 q h1 h2, fun q hq => by
        rcases List.mem_append.mp hq with h | h
        · exact hS.2.2 q h
        · exact hF _ (hL q h)⟩ T' rfl X'
    exact ⟨t2, st t2 a1, b1'⟩
  · cases hv
/-- .. it has thrown an E, which the handler x of this method's table takes -/
theorem w_callT {y : MethodName} {bytes : ByteArray} {maxL nL n index : Nat} {ret : Option FieldType} {rm : Room} {own C : String} {b : Nat} {As rest st0 : List Value} {q : vw_C} {fs : List Value} {E name : String}
    (hx : p.tables.exec = Jvm.exec) (hb : c.code = cc) (hml : c.maxLocals = nL) (hown : s.vm.findClass own = some m.cls) (hts : ∀ w ∈ lw_g, w.before args s = true) (hK : GK G s) (hZ : XZ A s s.heap)
    (hM : CtP l y (Cond.code y bytes maxL ret :: lw_g) rm G (.ref b :: As) bc.flatten (.inl E))
    (hc : Cond.code y bytes maxL ret ∈ lw_g) (hi : Cond.initialized y.cls ∈ lw_g) (hl : Cond.methodLink own index y ∈ lw_g) (hin : Cond.instanceMethod y ∈ lw_g) (hse : Cond.selects C y y ∈ lw_g)
    (hd : y.cls ≠ "java/lang/invoke/MethodHandle" ∧ y.cls ≠ "java/lang/invoke/VarHandle" ∧ (parseMethodDescriptor y.desc).map (fun d => d.parameters.length) = some n) (hR : rm.frames + 1 ≤ R.frames ∧ 8 + (maxL + 11) + rm.locals ≤ R.locals)
    (hP : va_P G.1 vwCl bs.flatten H) (hD : va_D A bs.flatten) (hS : va_S A s.heap H locs) (hA : ∀ q : Nat, s.heap.size ≤ q → A q) (is : List Nat) (hC : is.map (fun i => bs[i]?) = bc.map some) (hDc : va_D (fun _ => True) bc.flatten)
    (ci q0 : Nat) (hq : vwCl[ci]? = some q) (hqC : q.1 = C) (he : bs.flatten[q0]? = some (b, .inr (ci, fs)))
    (hn : As.length = n) (hsz : ls.size = nL) (hst : st0 = As.reverse ++ .ref b :: rest) (hrm : (rest.map fun v => v.category).sum ≤ 8) (hdg : decode cc pc = .ok (.invokevirtual index, 3)) (hf : cells + rm.cells ≤ R.cells ∧ slots + rm.slots ≤ R.slots)
    (pre : List ExceptionTableEntry) (x : ExceptionTableEntry) (suf : List ExceptionTableEntry) (hsplit : c.exceptionTable.toList = pre ++ x :: suf)
    (hpass : ∀ z ∈ pre, covers z pc = false ∨ (z.catchType ≠ 0 ∧ ∃ nm : String, (Cond.classLink own z.catchType nm).before args s = true ∧ va_Nc E nm s)) (hcov : covers x pc = true) (h0 : x.catchType ≠ 0)
    (hlink : (Cond.classLink own x.catchType name).before args s = true) (hcast : (Cond.castable E name).before args s = true)
    (kk : ∀ (H1 : Heap) (locs1 : List Loc) (q9 : Nat), va_P G.1 vwCl bs.flatten H1 → va_S A s.heap H1 locs1 → W p l e R s m args below meth c H1 locs1 (cells + rm.cells) (slots + rm.slots) Q (F0 m x.handlerPc ls [.ref q9])) :
    W p l e R s m args below meth c H locs cells slots Q (F0 m pc ls st0) := by
  subst hst
  have hF := blk_free (bc := bc) is hD hS hA hC
  have hr := vx_runV (l := l) (p := p) (e := e) (below := below) (meth := meth) (locs := locs) (cells := cells) (slots := slots) (As := As) (rest := rest) (g := F0 m pc ls (As.reverse ++ .ref b :: rest)) ⟨hx, hb, hml, hown, hts⟩ (hM H.size) ⟨x_cb hts hc hi hl hd hR, hts _ hin, hts _ hse⟩
    ⟨cpX_blind, by rw [← hqC]; exact va_recv hK.1 hP hq he, w_preX is hK hZ hP hD hS hA hC hDc⟩ rfl hn hsz rfl (lv_room hrm) hdg hf
  intro T hT X
  rcases hr T hT X with ⟨v', st₀, t, T', L, h0', X', hL, e1, e2, ⟨v9, ws9, hv, ho, hP1, hz, hk⟩, st⟩ | ⟨q, st₀, t, T', L, E9, ce, h0', X', hL, e1, e2, ⟨hv, hP1, hz, hk⟩, hce, hcv, hcl, st⟩
  · cases hv
  · cases hv
    rw [h0'] at hz hk
    have hset : bset bs is bc = bs := by
      apply List.ext_getElem?
      intro k
      have hl1 : is.length = bc.length := by have := congrArg List.length hC; simpa using this
      cases hq9 : (bset bs is bc)[k]? with
      | none =>
        rw [List.getElem?_eq_none_iff, bset_len] at hq9
        exact (List.getElem?_eq_none_iff.mpr hq9).symm
      | some z =>
        rcases bset_get is bc bs k z hl1 hq9 with ⟨j, h1, h2⟩ | ⟨h1, h2⟩
        · have h3 : (is.map (fun i => bs[i]?))[j]? = some (bs[k]?) := by rw [List.getElem?_map, h1]; rfl
          rw [hC, List.getElem?_map, h2] at h3
          exact Option.some.inj h3
        · exact h2.symm
    obtain ⟨hP2, hD2⟩ := blk_ok hP hD is hC rfl hset hk hP1
    have hS2 : va_S A s.heap T'.heap (locs ++ L) := ⟨Nat.le_trans hS.1 (by rw [e1]; exact hz), fun q h1 h2 => by rw [e1, hk q (Nat.lt_of_lt_of_le h1 hS.1) (fun z => h2 (hF q z))]; exact hS.2.1 q h1 h2, fun q hq => by
        rcases List.mem_append.mp hq with h | h
        · exact hS.2.2 q h
        · exact hF _ (hL q h)⟩
    obtain ⟨t2, a1, b1'⟩ := vx_catch (Q := Q) (ls := ls) (rest := rest) hown pre x suf hsplit hpass hcov h0 hlink hcast (by rw [e1]; exact hce) hcv hcl (kk T'.heap (locs ++ L) q (by rw [e1]; exact hP2) hS2) T' rfl X'
    exact ⟨t2, st.trans a1, b1'⟩
end GW
