/-! constructors: cells that come -/
def cpI (G : GT) (ws : va_W) (sz : Nat) (U : State) : Prop := cpre G ws sz U ∧ va_AO "InPlaceDelta$State" U
def iQ (G : GT) (A : Nat → Prop) (mk : (Nat → Nat) → va_W) : Array Value → State → Outcome → State → Prop := fun _ st oc t => oc = .returned none ∧ (∃ a : Nat → Nat, va_P G.1 vwCl (mk a) t.heap ∧ va_D A (mk a)) ∧ va_F A st t
/-- a constructor: from the cells ws it makes the cells mk a, for some addresses a -/
def CtI (l : Launch) (y : MethodName) (wd : List Cond) (rm : Room) (G : GT) (av : List Value) (ws : va_W) (mk : (Nat → Nat) → va_W) : Prop :=
  ∀ sz : Nat, Met l y wd rm (va_Pc av (cpI G ws sz)) (iQ G (va_A ws sz) mk) rm.cells rm.slots (va_A ws sz)
theorem cpI_blind {G : GT} {ws : va_W} {sz : Nat} {av : List Value} : FrameBlind (va_Pc av (cpI G ws sz)) := by
  intro a U g mk h
  obtain ⟨h0, ⟨h1, h2, h3, h4⟩, h5⟩ := h
  exact ⟨h0, ⟨h1, h2, GK.same (u := U) (U := U.calling g mk a) rfl h3, h4⟩, va_AO.moved (u := U) (U := U.calling g mk a) (Vm.Alike.refl U.vm) h5⟩
def iMQ (below : List Frame) (G : GT) (mk : (Nat → Nat) → va_W) (A : Nat → Prop) (args : Array Value) (s : State) (mc ms : Nat) : State → Prop := MQ below (iQ G A mk) args s mc ms A
theorem CtI.ofW {l : Launch} {y : MethodName} {wd : List Cond} {rm : Room} {G : GT} {av : List Value} {ws : va_W} {mk : (Nat → Nat) → va_W} {cc : ByteArray} {maxL : Nat} {own : String}
    (hy : plainName y.cls = true) (hw : wd = Cond.code y cc maxL none :: lw_g) (ho : y.cls = own) (hn : (lg_sl av).length ≤ maxL) (hi : y.name = "<init>")
    (body : ∀ (p : Program) (e : Env) (s : State) (m : MethodId) (args : Array Value) (below : List Frame) (meth : Method) (c : Code) (A : Nat → Prop), p.tables.exec = Jvm.exec → c.code = cc → meth.sig.returnType = none → c.maxLocals = maxL → (∀ w ∈ lw_g, w.before args s = true) → s.vm.findClass own = some m.cls → meth.locks = false → GK G s → va_P G.1 vwCl ws s.heap → va_D A ws → (∀ q : Nat, s.heap.size ≤ q → A q) → va_S A s.heap s.heap [] → va_AO "InPlaceDelta$State" s → meth.name = "<init>" → ∀ ls : Array Slot, lv_has ls maxL (lv_args 0 av) →
      W p l e rm s m args below meth c s.heap [] 0 0 (iMQ below G mk A args s rm.cells rm.slots) (F0 m 0 ls [])) : CtI l y wd rm G av ws mk := by
  intro sz
  refine Met.ofW (cc := cc) (maxL := maxL) (ret := none) hy hw ?_
  intro p e s m args below meth c s₁ B hml hv
  obtain ⟨rfl, ⟨hsz, hP, hK, hD0⟩, hO⟩ := hv
  have hts := atoms_spec (ws := wd) B.pre
  have hown : s.vm.findClass own = some m.cls := by rw [← ho]; exact findClass_of_methodNamed B.named
  have hin : meth.name = "<init>" := by rw [← hi]; exact (name_of_methodNamed B.named B.method).1
  subst hsz
  have hl := lv_entry av (n := maxL) hn
  rw [lg_entry_eq]
  exact body p e s m _ below meth c (va_A ws s.heap.size) B.exec B.bytes B.returns hml (fun w h => hts w (by rw [hw]; exact List.mem_cons_of_mem _ h)) hown B.notSynchronized hK hP hD0.self (fun q h => Or.inr h) va_S.rf hO hin _ hl
section GI
variable {p : Program} {l : Launch} {e : Env} {R : Room} {s : State} {m : MethodId} {args : Array Value} {below : List Frame} {meth : Method} {c : Code} {H : Heap} {locs : List Loc} {cells slots mc ms : Nat} {Q : State → Prop} {A : Nat → Prop} {G : GT} {ws : va_W} {cc : ByteArray} {pc : Nat} {ls : Array Slot} {mk : (Nat → Nat) → va_W}
theorem i_ret (hx : p.tables.exec = Jvm.exec) (hb : c.code = cc) (hr : meth.sig.returnType = none) (hlocks : meth.locks = false) (a : Nat → Nat) (hc : cells ≤ mc) (hs : slots ≤ ms) (hP : va_P G.1 vwCl (mk a) H) (hD : va_D A (mk a)) (hS : va_S A s.heap H locs) (hdg : decode cc pc = .ok (.return_, 1)) :
    W p l e R s m args below meth c H locs cells slots (iMQ below G mk A args s mc ms) (F0 m pc ls []) :=
  W.widen hc hs (W.vret hx hb hr (fun t ht _ => ⟨rfl, ⟨a, by rw [ht]; exact hP, hD⟩, hS.F ht⟩) hS.2.2 hdg hlocks)
/-- a call of a constructor on the cell that has just come -/
theorem i_call {y : MethodName} {bytes : ByteArray} {maxL nL n index ci b : Nat} {rm : Room} {own : String} {As rest st0 fs : List Value} {w0 : va_W}
    (hx : p.tables.exec = Jvm.exec) (hb : c.code = cc) (hml : c.maxLocals = nL) (hown : s.vm.findClass own = some m.cls) (hts : ∀ w ∈ lw_g, w.before args s = true) (hK : GK G s) (hO : va_AO "InPlaceDelta$State" s)
    (hM : CtI l y (Cond.code y bytes maxL none :: lw_g) rm G (.ref b :: As) [(b, .inr (ci, fs))] mk)
    (hc : Cond.code y bytes maxL none ∈ lw_g) (hi : Cond.initialized y.cls ∈ lw_g) (hl : Cond.methodLink own index y ∈ lw_g) (hin : Cond.instanceMethod y ∈ lw_g) (hy1 : y.name = "<init>")
    (hd : y.cls ≠ "java/lang/invoke/MethodHandle" ∧ y.cls ≠ "java/lang/invoke/VarHandle" ∧ (parseMethodDescriptor y.desc).map (fun d => d.parameters.length) = some n) (hR : rm.frames + 1 ≤ R.frames ∧ 8 + (maxL + 11) + rm.locals ≤ R.locals)
    (hP : va_P G.1 vwCl (w0 ++ [(b, .inr (ci, fs))]) H) (hD : va_D A (w0 ++ [(b, .inr (ci, fs))])) (hS : va_S A s.heap H locs) (hA : ∀ q : Nat, s.heap.size ≤ q → A q)
    (hn : As.length = n) (hsz : ls.size = nL) (hst : st0 = As.reverse ++ .ref b :: rest) (hrm : (rest.map fun v => v.category).sum ≤ 8) (hdg : decode cc pc = .ok (.invokespecial index, 3)) (hf : cells + rm.cells ≤ R.cells ∧ slots + rm.slots ≤ R.slots)
    (kk : ∀ (a : Nat → Nat) (H1 : Heap) (locs1 : List Loc), va_P G.1 vwCl (w0 ++ mk a) H1 → va_D A (w0 ++ mk a) → va_S A s.heap H1 locs1 → W p l e R s m args below meth c H1 locs1 (cells + rm.cells) (slots + rm.slots) Q (F0 m (pc + 3) ls rest)) :
    W p l e R s m args below meth c H locs cells slots Q (F0 m pc ls st0) := by
  subst hst
  have hPw : va_P G.1 vwCl w0 H := fun k q hk => hP k q (by rw [List.getElem?_append_left (List.getElem?_eq_some_iff.mp hk).1]; exact hk)
  have hPb : va_P G.1 vwCl [(b, .inr (ci, fs))] H := by
    intro k q hk
    exact hP (w0.length + k) q (by rw [List.getElem?_append_right (Nat.le_add_right _ _), Nat.add_sub_cancel_left]; exact hk)
  have hDw := vaD_iff.mp hD
  rw [List.map_append, List.pairwise_append] at hDw
  have hF : ∀ q, va_A [(b, .inr (ci, fs))] H.size q → A q := by
    intro q h
    rcases h with ⟨k, e, h⟩ | h
    · exact hDw.2 q (List.mem_append_right _ (List.mem_map.mpr ⟨(q, e), List.mem_of_getElem? h, rfl⟩))
    · exact hA q (Nat.le_trans hS.1 h)
  have hr := va_runI (l := l) (p := p) (e := e) (below := below) (meth := meth) (locs := locs) (cells := cells) (slots := slots) (As := As) (rest := rest) (g := F0 m pc ls (As.reverse ++ .ref b :: rest)) ⟨hx, hb, hml, hown, hts⟩ (hM H.size) ⟨x_cb hts hc hi hl hd hR, hy1, hts _ hin⟩
    ⟨cpI_blind, fun U hU hW => ⟨rfl, ⟨by rw [hU], by rw [hU]; exact hPb, hK.moved hW, ⟨fun i j p q h1 h2 _ => by
        have e1 := (List.getElem?_eq_some_iff.mp h1).1
        have e2 := (List.getElem?_eq_some_iff.mp h2).1
        simp only [List.length_singleton] at e1 e2
        omega, fun _ _ _ => trivial⟩⟩, va_AO.moved hW.alike hO⟩⟩ rfl hn hsz rfl (lv_room hrm) hdg hf
  intro T hT X
  obtain ⟨v', st₀, t, T', L, h0, X', hL, e1, e2, ⟨hv, ⟨a, hP1, hD1⟩, hz, hk⟩, st⟩ := hr T hT X
  cases hv
  rw [h0] at hz hk
  have apart : ∀ (k : Nat) (q : Nat × va_E), w0[k]? = some q → q.1 < H.size ∧ ¬ va_A [(b, .inr (ci, fs))] H.size q.1 := by
    intro k q hq
    have hlt := (hPw k q hq).lt
    refine ⟨hlt, fun z => ?_⟩
    rcases z with ⟨j, e, z⟩ | z
    · have hj := List.mem_singleton.mp (List.mem_of_getElem? z)
      have hqb : q.1 = b := congrArg Prod.fst hj
      exact hDw.1.2.2 q.1 (List.mem_map.mpr ⟨q, List.mem_of_getElem? hq, rfl⟩) b (by simp) hqb
    · omega
  obtain ⟨t2, a1, b1'⟩ := kk a T'.heap (locs ++ L)
    (by
      rw [e1]
      exact va_P.app (fun k q hq => (hPw k q hq).kept (hk q.1 (apart k q hq).1 (apart k q hq).2)) hP1)
    (va_D.app ⟨fun i j p q h1 h2 h3 => hD.1 i j p q (by rw [List.getElem?_append_left (List.getElem?_eq_some_iff.mp h1).1]; exact h1) (by rw [List.getElem?_append_left (List.getElem?_eq_some_iff.mp h2).1]; exact h2) h3, fun k q hq => hDw.2 q.1 (List.mem_append_left _ (List.mem_map.mpr ⟨q, List.mem_of_getElem? hq, rfl⟩))⟩ (hD1.weaken (fun k q _ h => hF q.1 h)) (fun i j x y hx9 hy9 hxy => (apart i x hx9).2 (by rw [hxy]; exact hD1.2 j y hy9)))
    ⟨Nat.le_trans hS.1 (by rw [e1]; exact hz), fun q h1 h2 => by rw [e1, hk q (Nat.lt_of_lt_of_le h1 hS.1) (fun z => h2 (hF q z))]; exact hS.2.1 q h1 h2, fun q hq => by
      rcases List.mem_append.mp hq with h | h
      · exact hS.2.2 q h
      · exact hF _ (hL q h)⟩ T' rfl X'
  exact ⟨t2, st t2 a1, b1'⟩
/-- new int[n], new boolean[n], new long[n], new State[n]: the class of the array is the known one -/
theorem i_newI {rest : List Value} (hexec : p.tables.exec = Jvm.exec) (hb : c.code = cc) (harr : (Cond.arrayClass .int).before args s = true) (hK : GK G s) (hP : va_P G.1 vwCl ws H) (hD : va_D A ws) (hS : va_S A s.heap H locs) (hA : ∀ q, s.heap.size ≤ q → A q)
    {n : Int32} {N' : Nat} (hn : ¬ n < 0) (hN : n.toNatClampNeg = N') (hbytes : N' * 4 ≤ 536870912) (hcells : cells + 1 ≤ R.cells) (hslots : slots + N' ≤ R.slots) (hdg : decode cc pc = .ok (.newarray .int, 2))
    (kk : ∀ (q : Nat) (H1 : Heap), va_P G.1 vwCl (ws ++ [(q, .inl (G.2.1, N', .inl (fun _ => 0)))]) H1 → va_D A (ws ++ [(q, .inl (G.2.1, N', .inl (fun _ => 0)))]) → va_S A s.heap H1 locs →
      W p l e R s m args below meth c H1 locs (cells + 1) (slots + N') Q (F0 m (pc + 2) ls (.ref q :: rest))) : W p l e R s m args below meth c H locs cells slots Q (F0 m pc ls (.int n :: rest)) := by
  refine va_newa (atype := .int) (ty := .int) (a0 := (N', .inl (fun _ => 0))) hexec hb harr rfl (va_K.sub (tys' := []) hK.1 [] rfl) hP hD hS hA (fun _ => rfl) hn hN hbytes hcells hslots hdg (fun q cA H1 hK2 hP2 hD2 hS2 => ?_)
  have h1 : s.vm.findClass ("[" ++ (FieldType.int).toString) = some cA := (hK2.2 0 (cA, .int) rfl).2
  have h2 : s.vm.findClass ("[" ++ (FieldType.int).toString) = some G.2.1 := (hK.1.2 0 (G.2.1, .int) rfl).2
  have h3 : cA = G.2.1 := Option.some.inj (h1.symm.trans h2)
  subst h3
  exact kk q H1 hP2 hD2 hS2
theorem i_newZ {rest : List Value} (hexec : p.tables.exec = Jvm.exec) (hb : c.code = cc) (harr : (Cond.arrayClass .boolean).before args s = true) (hK : GK G s) (hP : va_P G.1 vwCl ws H) (hD : va_D A ws) (hS : va_S A s.heap H locs) (hA : ∀ q, s.heap.size ≤ q → A q)
    {n : Int32} {N' : Nat} (hn : ¬ n < 0) (hN : n.toNatClampNeg = N') (hbytes : N' * 1 ≤ 536870912) (hcells : cells + 1 ≤ R.cells) (hslots : slots + N' ≤ R.slots) (hdg : decode cc pc = .ok (.newarray .boolean, 2))
    (kk : ∀ (q : Nat) (H1 : Heap), va_P G.1 vwCl (ws ++ [(q, .inl (G.2.2.1, N', .inl (fun _ => 0)))]) H1 → va_D A (ws ++ [(q, .inl (G.2.2.1, N', .inl (fun _ => 0)))]) → va_S A s.heap H1 locs →
      W p l e R s m args below meth c H1 locs (cells + 1) (slots + N') Q (F0 m (pc + 2) ls (.ref q :: rest))) : W p l e R s m args below meth c H locs cells slots Q (F0 m pc ls (.int n :: rest)) := by
  refine va_newa (atype := .boolean) (ty := .boolean) (a0 := (N', .inl (fun _ => 0))) hexec hb harr rfl (va_K.sub (tys' := []) hK.1 [] rfl) hP hD hS hA (fun _ => rfl) hn hN hbytes hcells hslots hdg (fun q cA H1 hK2 hP2 hD2 hS2 => ?_)
  have h1 : s.vm.findClass ("[" ++ (FieldType.boolean).toString) = some cA := (hK2.2 0 (cA, .boolean) rfl).2
  have h2 : s.vm.findClass ("[" ++ (FieldType.boolean).toString) = some G.2.2.1 := (hK.1.2 1 (G.2.2.1, .boolean) rfl).2
  have h3 : cA = G.2.2.1 := Option.some.inj (h1.symm.trans h2)
  subst h3
  exact kk q H1 hP2 hD2 hS2
theorem i_newJ {rest : List Value} (hexec : p.tables.exec = Jvm.exec) (hb : c.code = cc) (harr : (Cond.arrayClass .long).before args s = true) (hK : GK G s) (hP : va_P G.1 vwCl ws H) (hD : va_D A ws) (hS : va_S A s.heap H locs) (hA : ∀ q, s.heap.size ≤ q → A q)
    {n : Int32} {N' : Nat} (hn : ¬ n < 0) (hN : n.toNatClampNeg = N') (hbytes : N' * 8 ≤ 536870912) (hcells : cells + 1 ≤ R.cells) (hslots : slots + N' ≤ R.slots) (hdg : decode cc pc = .ok (.newarray .long, 2))
    (kk : ∀ (q : Nat) (H1 : Heap), va_P G.1 vwCl (ws ++ [(q, .inl (G.2.2.2.1, N', .inr (.inl (fun _ => 0))))]) H1 → va_D A (ws ++ [(q, .inl (G.2.2.2.1, N', .inr (.inl (fun _ => 0))))]) → va_S A s.heap H1 locs →
      W p l e R s m args below meth c H1 locs (cells + 1) (slots + N') Q (F0 m (pc + 2) ls (.ref q :: rest))) : W p l e R s m args below meth c H locs cells slots Q (F0 m pc ls (.int n :: rest)) := by
  refine va_newa (atype := .long) (ty := .long) (a0 := (N', .inr (.inl (fun _ => 0)))) hexec hb harr rfl (va_K.sub (tys' := []) hK.1 [] rfl) hP hD hS hA (fun _ => rfl) hn hN hbytes hcells hslots hdg (fun q cA H1 hK2 hP2 hD2 hS2 => ?_)
  have h1 : s.vm.findClass ("[" ++ (FieldType.long).toString) = some cA := (hK2.2 0 (cA, .long) rfl).2
  have h2 : s.vm.findClass ("[" ++ (FieldType.long).toString) = some G.2.2.2.1 := (hK.1.2 2 (G.2.2.2.1, .long) rfl).2
  have h3 : cA = G.2.2.2.1 := Option.some.inj (h1.symm.trans h2)
  subst h3
  exact kk q H1 hP2 hD2 hS2
theorem i_newS {rest : List Value} {own : String} {index : Nat} (hexec : p.tables.exec = Jvm.exec) (hb : c.code = cc) (hown : s.vm.findClass own = some m.cls) (hclink : (Cond.classLink own index "InPlaceDelta$State").before args s = true) (hO : va_AO "InPlaceDelta$State" s) (hK : GK G s) (hP : va_P G.1 vwCl ws H) (hD : va_D A ws) (hS : va_S A s.heap H locs) (hA : ∀ q, s.heap.size ≤ q → A q)
    {n : Int32} {N' : Nat} (hn : ¬ n < 0) (hN : n.toNatClampNeg = N') (hbytes : N' * 4 ≤ 536870912) (hcells : cells + 1 ≤ R.cells) (hslots : slots + N' ≤ R.slots) (hdg : decode cc pc = .ok (.anewarray index, 3))
    (kk : ∀ (q : Nat) (H1 : Heap), va_P G.1 vwCl (ws ++ [(q, .inl (G.2.2.2.2, N', .inr (.inr (.inr (.inr (fun _ => none))))))]) H1 → va_D A (ws ++ [(q, .inl (G.2.2.2.2, N', .inr (.inr (.inr (.inr (fun _ => none))))))]) → va_S A s.heap H1 locs →
      W p l e R s m args below meth c H1 locs (cells + 1) (slots + N') Q (F0 m (pc + 3) ls (.ref q :: rest))) : W p l e R s m args below meth c H locs cells slots Q (F0 m pc ls (.int n :: rest)) := by
  refine va_newq (C := "InPlaceDelta$State") hexec hb hown hclink hO (va_K.sub (tys' := []) hK.1 [] rfl) hP hD hS hA hn hN hbytes hcells hslots hdg (fun q cA H1 hK2 hP2 hD2 hS2 => ?_)
  obtain ⟨_, _, _, _, _, h1⟩ := (hK2.2 0 (cA, .object "InPlaceDelta$State") rfl).2
  obtain ⟨_, _, _, _, _, h2⟩ := (hK.1.2 3 (G.2.2.2.2, .object "InPlaceDelta$State") rfl).2
  have h3 : cA = G.2.2.2.2 := Option.some.inj (h1.symm.trans h2)
  subst h3
  exact kk q H1 hP2 hD2 hS2
end GI
