/-! methods that return or throw; nothing has been written where one throws -/
def XZ (A : Nat → Prop) (U : State) (H : Heap) : Prop := vx_Zq Bundle.tN "UNASSIGNED_STACK" Bundle.steD A U H ∧ vx_Zq Bundle.tN "SUPPRESSED_SENTINEL" Bundle.listD A U H
theorem XZ.moved {A : Nat → Prop} {u U : State} {H : Heap} (hvm : u.vm.Alike U.vm) (h : XZ A u H) : XZ A U H := ⟨vx_Zq.moved hvm h.1, vx_Zq.moved hvm h.2⟩
theorem XZ.kept {A : Nat → Prop} {U : State} {H H1 : Heap} (h : XZ A U H) (hq : ∀ a : Nat, a < H.size → ¬ A a → H1[a]? = H[a]?) : XZ A U H1 := ⟨h.1.kept hq, h.2.kept hq⟩
theorem XZ.narrow {A B : Nat → Prop} {U : State} {H : Heap} (h : XZ A U H) (hAB : ∀ q, B q → A q) : XZ B U H := ⟨h.1.narrow hAB, h.2.narrow hAB⟩
def cpX (G : GT) (ws : va_W) (sz : Nat) (U : State) : Prop := cpre G ws sz U ∧ XZ (va_A ws sz) U U.heap
/-- the end: .inl E: it has thrown an E, and the cells are as they were; .inr (v, ws'): it has answered v -/
abbrev XR : Type := String ⊕ (Option Value × va_W)
def pQ (G : GT) (A : Nat → Prop) (x : XR) : Array Value → State → Outcome → State → Prop := fun _ st oc t => ∃ v ws', x = .inr (v, ws') ∧ oc = .returned v ∧ va_P G.1 vwCl ws' t.heap ∧ va_F A st t
def pX (G : GT) (ws : va_W) (A : Nat → Prop) (x : XR) : String → State → State → Prop := fun E st t => x = .inl E ∧ va_P G.1 vwCl ws t.heap ∧ va_F A st t
/-- the end of a method that answers nothing and writes nothing; of one that answers and writes -/
def rR (ws : va_W) (x1 : Option String) : XR := match x1 with
  | none => .inr (none, ws)
  | some E => .inl E
def pR {α : Type} (v : α → Option Value) (w : α → va_W) (r : String ⊕ α) : XR := match r with
  | .inl E => .inl E
  | .inr z => .inr (v z, w z)
def CtP (l : Launch) (y : MethodName) (wd : List Cond) (rm : Room) (G : GT) (av : List Value) (ws : va_W) (x : XR) : Prop :=
  ∀ sz : Nat, vx_Met l y wd rm (va_Pc av (cpX G ws sz)) (pQ G (va_A ws sz) x) (pX G ws (va_A ws sz) x) rm.cells rm.slots (va_A ws sz)
theorem cpX_blind {G : GT} {ws : va_W} {sz : Nat} {av : List Value} : FrameBlind (va_Pc av (cpX G ws sz)) := by
  intro a U g mk h
  obtain ⟨h0, ⟨h1, h2, h3, h4⟩, h5⟩ := h
  exact ⟨h0, ⟨h1, h2, GK.same (u := U) (U := U.calling g mk a) rfl h3, h4⟩, XZ.moved (u := U) (U := U.calling g mk a) (Vm.Alike.refl U.vm) h5⟩
def xMQ (below : List Frame) (G : GT) (ws : va_W) (A : Nat → Prop) (x : XR) (args : Array Value) (s : State) (mc ms : Nat) : State → Prop := vx_MQ below (pQ G A x) (pX G ws A x) args s mc ms A
theorem CtP.ofW {l : Launch} {y : MethodName} {wd : List Cond} {rm : Room} {G : GT} {av : List Value} {ws : va_W} {x : XR} {cc : ByteArray} {maxL : Nat} {ret : Option FieldType} {own : String}
    (hy : plainName y.cls = true) (hw : wd = Cond.code y cc maxL ret :: lw_g) (ho : y.cls = own) (hn : (lg_sl av).length ≤ maxL)
    (body : ∀ (p : Program) (e : Env) (s : State) (m : MethodId) (args : Array Value) (below : List Frame) (meth : Method) (c : Code) (A : Nat → Prop), p.tables.exec = Jvm.exec → c.code = cc → meth.sig.returnType = ret → c.maxLocals = maxL → (∀ w ∈ lw_g, w.before args s = true) → s.vm.findClass own = some m.cls → meth.locks = false → GK G s → va_P G.1 vwCl ws s.heap → va_D A ws → (∀ q : Nat, s.heap.size ≤ q → A q) → va_S A s.heap s.heap [] → (∀ z ∈ c.exceptionTable.toList, False) → XZ A s s.heap → ∀ ls : Array Slot, lv_has ls maxL (lv_args 0 av) →
      W p l e rm s m args below meth c s.heap [] 0 0 (xMQ below G ws A x args s rm.cells rm.slots) (F0 m 0 ls [])) : CtP l y wd rm G av ws x := by
  intro sz
  refine vx_ofW (cc := cc) (maxL := maxL) (ret := ret) hy hw ?_
  intro p e s m args below meth c s₁ B hml ht hv
  obtain ⟨rfl, ⟨hsz, hP, hK, hD0⟩, hZ⟩ := hv
  have hts := atoms_spec (ws := wd) B.pre
  have hown : s.vm.findClass own = some m.cls := by rw [← ho]; exact findClass_of_methodNamed B.named
  subst hsz
  have hl := lv_entry av (n := maxL) hn
  rw [lg_entry_eq]
  exact body p e s m _ below meth c (va_A ws s.heap.size) B.exec B.bytes B.returns hml (fun w h => hts w (by rw [hw]; exact List.mem_cons_of_mem _ h)) hown B.notSynchronized hK hP hD0.self (fun q h => Or.inr h) va_S.rf ht hZ _ hl
section GX
variable {p : Program} {l : Launch} {e : Env} {R : Room} {s : State} {m : MethodId} {args : Array Value} {below : List Frame} {meth : Method} {c : Code} {H : Heap} {locs : List Loc} {cells slots mc ms : Nat} {Q : State → Prop} {A : Nat → Prop} {G : GT} {ws ws' : va_W} {cc : ByteArray} {pc : Nat} {ls : Array Slot} {x : XR}
theorem x_vret (hx : p.tables.exec = Jvm.exec) (hb : c.code = cc) (hr : meth.sig.returnType = none) (hlocks : meth.locks = false) (e9 : x = .inr (none, ws')) (hc : cells ≤ mc) (hs : slots ≤ ms) (hP : va_P G.1 vwCl ws' H) (hS : va_S A s.heap H locs) (hdg : decode cc pc = .ok (.return_, 1)) :
    W p l e R s m args below meth c H locs cells slots (xMQ below G ws A x args s mc ms) (F0 m pc ls []) :=
  vx_ret (W.widen hc hs (W.vret hx hb hr (fun t ht _ => ⟨_, _, e9, rfl, by rw [ht]; exact hP, hS.F ht⟩) hS.2.2 hdg hlocks))
theorem x_iret {v : Int32} (hx : p.tables.exec = Jvm.exec) (hb : c.code = cc) (hr : meth.sig.returnType = some .int) (hlocks : meth.locks = false) (e9 : x = .inr (some (.int v), ws')) (hc : cells ≤ mc) (hs : slots ≤ ms) (hP : va_P G.1 vwCl ws' H) (hS : va_S A s.heap H locs) (hdg : decode cc pc = .ok (.ireturn, 1)) :
    W p l e R s m args below meth c H locs cells slots (xMQ below G ws A x args s mc ms) (F0 m pc ls [.int v]) :=
  vx_ret (W.widen hc hs (W.iret hx hb hr (fun t ht _ => ⟨_, _, e9, rfl, by rw [ht]; exact hP, hS.F ht⟩) hS.2.2 hdg hlocks))
theorem x_zret {v : Int32} (hx : p.tables.exec = Jvm.exec) (hb : c.code = cc) (hr : meth.sig.returnType = some .boolean) (hlocks : meth.locks = false) (hv : narrow .boolean (.int v) = .int v) (e9 : x = .inr (some (.int v), ws')) (hc : cells ≤ mc) (hs : slots ≤ ms) (hP : va_P G.1 vwCl ws' H) (hS : va_S A s.heap H locs) (hdg : decode cc pc = .ok (.ireturn, 1)) :
    W p l e R s m args below meth c H locs cells slots (xMQ below G ws A x args s mc ms) (F0 m pc ls [.int v]) :=
  vx_ret (W.widen hc hs (W.zret hx hb hr hv (fun t ht _ => ⟨_, _, e9, rfl, by rw [ht]; exact hP, hS.F ht⟩) hS.2.2 hdg hlocks))
/-- 'throw new E(text)' -/
theorem x_throw {own cls text : String} {names : List String} {ik is ic : Nat} {rest : List Value} (hl : l.stackTraces = false) (hx : p.tables.exec = Jvm.exec) (hb : c.code = cc) (hown : s.vm.findClass own = some m.cls) (hts : ∀ w ∈ lw_g, w.before args s = true) (hK : GK G s)
    (hcls : Bundle.fit cls = true) (hnames : ∀ n ∈ names, Bundle.fit n = true) (hk : Cond.classLink own ik cls ∈ lw_g) (hini : Cond.initialized cls ∈ lw_g) (hown10 : own = RX10) (hstr : Cond.stringRef own is text ∈ tables_1)
    (hat1 : ∀ w ∈ (vx_atS own ic cls names).filter goodWord, w ∈ lw_g) (hat2 : ∀ w ∈ (vx_atS own ic cls names).filter (fun w => !goodWord w), w ∈ nsW) (hgood : ∀ w ∈ Cond.classLink own ik cls :: Cond.initialized cls :: vx_atS own ic cls names, vx_ot w = true)
    (hno : ∀ z ∈ c.exceptionTable.toList, False) (hZ : XZ A s s.heap) (hP : va_P G.1 vwCl ws H) (hS : va_S A s.heap H locs) (hsize : ls.size = c.maxLocals)
    (d0 : decode cc pc = .ok (.new ik, 3)) (d3 : decode cc (pc + 3) = .ok (.dup, 1)) (d4 : decode cc (pc + 4) = .ok (.ldc is, 2)) (d6 : decode cc (pc + 6) = .ok (.invokespecial ic, 3)) (d9 : decode cc (pc + 9) = .ok (.athrow, 1))
    (hRf : names.length + 3 < R.frames) (hRl : (rest.map fun v => v.category).sum + (13 * (names.length + 1) + 43) ≤ R.locals) (hRc : cells + 1 ≤ R.cells) (hRs : slots + 6 ≤ R.slots) (hlocks : meth.locks = false)
    (e9 : x = .inl cls) (hc : cells + 1 ≤ mc) (hs : slots + 6 ≤ ms) :
    W p l e R s m args below meth c H locs cells slots (xMQ below G ws A x args s mc ms) (F0 m pc ls rest) := by
  subst hown10
  obtain ⟨sa, hsa⟩ := hK.2.2.1 is text hstr
  refine vx_throwS (names := names) (cls := cls) (A := A) hx hb hl hown hcls hnames (hts _ hk) (hts _ hini) hsa ?_ hgood hZ.1 hZ.2 hS hsize d0 d3 d4 d6 d9 (fun z hz => (hno z hz).elim) hRf hRl hRc hRs hlocks ?_ hS.2.2 hc hs
  · intro w hw
    by_cases g : goodWord w = true
    · exact hts w (hat1 w (List.mem_filter.mpr ⟨hw, g⟩))
    · have h9 := hat2 w (List.mem_filter.mpr ⟨hw, by cases hgw : goodWord w; rfl; exact absurd hgw g⟩)
      have h8 := hK.2.1 w h9
      rcases (nsW_ok w h9).1 with ⟨a, i, b, n, d, q, e⟩ | ⟨a, i, x, q, e⟩ | ⟨x, e⟩ | ⟨a, b, e⟩
      · rw [e] at h8 ⊢; exact va_Nw.use rfl h8
      · rw [e] at h8 ⊢; exact va_Nw.use rfl h8
      · rw [e] at h8 ⊢; exact va_Nw.use rfl h8
      · rw [e] at h8 ⊢; exact va_Nw.use rfl h8
  · intro t hvm hz hq
    refine ⟨e9, hP.kept (fun k q hk9 => hq q.1 (hP k q hk9).lt), ?_⟩
    exact ⟨Nat.le_trans hS.1 hz, fun q h1 h2 => by rw [hq q (Nat.lt_of_lt_of_le h1 hS.1)]; exact hS.2.1 q h1 h2⟩
/-- a call of a method that returns nothing, or throws -/
theorem x_back {wc : va_W} {is : List Nat} {rest st0 : List Value} {a : Array Value} {x1 : Option String} {k1 k2 : Nat}
    (hr : vx_Run p l e R s m args below meth c H locs cells slots k1 k2 (F0 m pc ls st0) rest (pQ G (va_A wc H.size) (rR wc x1) a) (pX G wc (va_A wc H.size) (rR wc x1)) (va_A wc H.size))
    (hP : va_P G.1 vwCl ws H) (hD : va_D A ws) (hS : va_S A s.heap H locs) (hA : ∀ q : Nat, s.heap.size ≤ q → A q) (hC : is.map (fun i => ws[i]?) = wc.map some)
    (hno : ∀ z ∈ c.exceptionTable.toList, False) (hlocks : meth.locks = false) (e9 : ∀ E, x1 = some E → x = .inl E) (hc : cells + k1 ≤ mc) (hs : slots + k2 ≤ ms)
    (kk : x1 = none → ∀ (H1 : Heap) (locs1 : List Loc), va_P G.1 vwCl ws H1 → va_S A s.heap H1 locs1 → W p l e R s m args below meth c H1 locs1 (cells + k1) (slots + k2) (xMQ below G ws A x args s mc ms) (F0 m (pc + 3) ls rest)) :
    W p l e R s m args below meth c H locs cells slots (xMQ below G ws A x args s mc ms) (F0 m pc ls st0) := by
  have hF := va_free (wc := wc) hD hS hA is hC
  have keep : ∀ t : State, va_P G.1 vwCl wc t.heap → H.size ≤ t.heap.size → (∀ q : Nat, q < H.size → ¬ va_A wc H.size q → t.heap[q]? = H[q]?) → va_P G.1 vwCl ws t.heap := by
    intro t hP1 hz hk k q hq
    by_cases hw : ∃ j : Nat, wc[j]? = some q
    · obtain ⟨j, hj⟩ := hw
      exact hP1 j q hj
    · have hlt := (hP k q hq).lt
      refine (hP k q hq).kept (hk q.1 hlt (fun z => ?_))
      rcases z with ⟨j, e, hj⟩ | z
      · have h1 : (is.map (fun i => ws[i]?))[j]? = some (some (q.1, e)) := by rw [hC, List.getElem?_map, hj]; rfl
        rw [List.getElem?_map] at h1
        cases hi : is[j]? with
        | none => rw [hi] at h1; cases h1
        | some i =>
          rw [hi] at h1
          have h2 : ws[i]? = some (q.1, e) := Option.some.inj h1
          have h3 := hD.1 k i q (q.1, e) hq h2 rfl
          subst h3
          exact hw ⟨j, hj.trans (h2.symm.trans hq)⟩
      · omega
  intro T hT X
  rcases hr T hT X with ⟨v, st₀, t, T', L, h0, X', hL, e1, e2, ⟨v9, ws9, hv, ho, hP1, hFr⟩, st⟩ | ⟨q, st₀, t, T', L, E, ce, h0, X', hL, e1, e2, ⟨hv, hP1, hFr⟩, hce, hcv, hcl, st⟩
  · cases x1 with
    | some E => exact absurd (show (Sum.inl E : XR) = .inr (v9, ws9) from hv) (fun h => by cases h)
    | none =>
      have hv : (Sum.inr (none, wc) : XR) = .inr (v9, ws9) := hv
      cases hv
      cases ho
      obtain ⟨k1', k2', k3'⟩ := vx_keep h0 e1 hS (fun q _ z => hF q z) hF hL hFr
      obtain ⟨t2, a1, b1⟩ := kk rfl T'.heap (locs ++ L) (by rw [e1]; exact keep t hP1 (by rw [← e1]; exact k1') (fun q h1 h2 => by rw [← e1]; exact k2' q h1 h2)) k3' T' rfl X'
      exact ⟨t2, st t2 a1, b1⟩
  · cases x1 with
    | none => exact absurd (show (Sum.inr (none, wc) : XR) = .inl E from hv) (fun h => by cases h)
    | some E9 =>
      have hv : (Sum.inl E9 : XR) = .inl E := hv
      cases hv
      obtain ⟨k1', k2', k3'⟩ := vx_keep h0 e1 hS (fun q _ z => hF q z) hF hL hFr
      have hP2 : va_P G.1 vwCl ws T'.heap := by rw [e1]; exact keep t hP1 (by rw [← e1]; exact k1') (fun q h1 h2 => by rw [← e1]; exact k2' q h1 h2)
      obtain ⟨t2, a1, b1⟩ := vx_out (XC := pX G ws A x) (Qc := pQ G A x) (ls := ls) (rest := rest) (pc := pc) (free := A) (fun z hz => (hno z hz).elim) hlocks (by rw [e1]; exact hce) hcv hcl (fun t9 ht9 _ => ⟨e9 _ rfl, by rw [ht9]; exact hP2, k3'.F ht9⟩) k3'.2.2 hc hs T' rfl X'
      exact ⟨t2, st.trans a1, b1⟩
theorem x_pre {wc : va_W} {is : List Nat} {As : List Value} (hK : GK G s) (hZ : XZ A s s.heap) (hP : va_P G.1 vwCl ws H) (hD : va_D A ws) (hS : va_S A s.heap H locs) (hA : ∀ q : Nat, s.heap.size ≤ q → A q) (hC : is.map (fun i => ws[i]?) = wc.map some) (hnd : va_nd is = true) :
    ∀ U : State, U.heap = H → s.WarmedH U.vm → va_Pc As (cpX G wc H.size) As.toArray U := by
  intro U hU hW
  obtain ⟨h1, h2⟩ := g_pre (As := As) hK hP hD hC hnd U hU hW
  exact ⟨h1, h2, by rw [hU]; exact XZ.moved hW.alike ((hZ.kept hS.2.1).narrow (va_free (wc := wc) hD hS hA is hC))⟩
theorem x_cb {own : String} {index maxL n : Nat} {y : MethodName} {bytes : ByteArray} {ret : Option FieldType} {rm : Room} (hts : ∀ w ∈ lw_g, w.before args s = true)
    (hc : Cond.code y bytes maxL ret ∈ lw_g) (hi : Cond.initialized y.cls ∈ lw_g) (hl : Cond.methodLink own index y ∈ lw_g)
    (hd : y.cls ≠ "java/lang/invoke/MethodHandle" ∧ y.cls ≠ "java/lang/invoke/VarHandle" ∧ (parseMethodDescriptor y.desc).map (fun d => d.parameters.length) = some n) (hR : rm.frames + 1 ≤ R.frames ∧ 8 + (maxL + 11) + rm.locals ≤ R.locals) :
    CallB R s args own index y bytes maxL ret (Cond.code y bytes maxL ret :: lw_g) rm rm.cells rm.slots n := by
  refine callB_of (Ts := Cond.code y bytes maxL ret :: lw_g) n (fun w h => ?_) (wg_in hc) rfl rfl rfl (hts _ hi) (hts _ hl) hd hR
  rcases List.mem_cons.mp h with e | e
  · rw [e]; exact hts _ hc
  · exact hts w e
theorem x_callS {wc : va_W} {rest st0 As : List Value} {x1 : Option String} {y : MethodName} {bytes : ByteArray} {maxL nL n index : Nat} {ret : Option FieldType} {rm : Room} {own : String}
    (hx : p.tables.exec = Jvm.exec) (hb : c.code = cc) (hml : c.maxLocals = nL) (hown : s.vm.findClass own = some m.cls) (hts : ∀ w ∈ lw_g, w.before args s = true) (hK : GK G s) (hZ : XZ A s s.heap)
    (hM : CtP l y (Cond.code y bytes maxL ret :: lw_g) rm G As wc (rR wc x1))
    (hc : Cond.code y bytes maxL ret ∈ lw_g) (hi : Cond.initialized y.cls ∈ lw_g) (hl : Cond.methodLink own index y ∈ lw_g) (hst9 : Cond.static y ∈ lw_g)
    (hd : y.cls ≠ "java/lang/invoke/MethodHandle" ∧ y.cls ≠ "java/lang/invoke/VarHandle" ∧ (parseMethodDescriptor y.desc).map (fun d => d.parameters.length) = some n) (hR : rm.frames + 1 ≤ R.frames ∧ 8 + (maxL + 11) + rm.locals ≤ R.locals)
    (hP : va_P G.1 vwCl ws H) (hD : va_D A ws) (hS : va_S A s.heap H locs) (hA : ∀ q : Nat, s.heap.size ≤ q → A q) (is : List Nat) (hC : is.map (fun i => ws[i]?) = wc.map some) (hnd : va_nd is = true)
    (hno : ∀ z ∈ c.exceptionTable.toList, False) (hlocks : meth.locks = false) (e9 : ∀ E, x1 = some E → x = .inl E) (hmc : cells + rm.cells ≤ mc) (hms : slots + rm.slots ≤ ms)
    (hn : As.length = n) (hsz : ls.size = nL) (hst : st0 = As.reverse ++ rest) (hrm : (rest.map fun v => v.category).sum ≤ 8) (hdg : decode cc pc = .ok (.invokestatic index, 3)) (hf : cells + rm.cells ≤ R.cells ∧ slots + rm.slots ≤ R.slots)
    (kk : x1 = none → ∀ (H1 : Heap) (locs1 : List Loc), va_P G.1 vwCl ws H1 → va_S A s.heap H1 locs1 → W p l e R s m args below meth c H1 locs1 (cells + rm.cells) (slots + rm.slots) (xMQ below G ws A x args s mc ms) (F0 m (pc + 3) ls rest)) :
    W p l e R s m args below meth c H locs cells slots (xMQ below G ws A x args s mc ms) (F0 m pc ls st0) := by
  subst hst
  exact x_back (vx_runS (As := As) (rest := rest) ⟨hx, hb, hml, hown, hts⟩ (hM H.size) ⟨x_cb hts hc hi hl hd hR, hts _ hst9⟩
    ⟨cpX_blind, x_pre hK hZ hP hD hS hA hC hnd⟩ rfl hn hsz rfl (lv_room hrm) hdg hf) hP hD hS hA hC hno hlocks e9 hmc hms kk
theorem x_callV {wc : va_W} {rest st0 As : List Value} {x1 : Option String} {y : MethodName} {bytes : ByteArray} {maxL nL n index b : Nat} {ret : Option FieldType} {rm : Room} {own C : String} {q : vw_C} {fs : List Value}
    (hx : p.tables.exec = Jvm.exec) (hb : c.code = cc) (hml : c.maxLocals = nL) (hown : s.vm.findClass own = some m.cls) (hts : ∀ w ∈ lw_g, w.before args s = true) (hK : GK G s) (hZ : XZ A s s.heap)
    (hM : CtP l y (Cond.code y bytes maxL ret :: lw_g) rm G (.ref b :: As) wc (rR wc x1))
    (hc : Cond.code y bytes maxL ret ∈ lw_g) (hi : Cond.initialized y.cls ∈ lw_g) (hl : Cond.methodLink own index y ∈ lw_g) (hin : Cond.instanceMethod y ∈ lw_g) (hse : Cond.selects C y y ∈ lw_g)
    (hd : y.cls ≠ "java/lang/invoke/MethodHandle" ∧ y.cls ≠ "java/lang/invoke/VarHandle" ∧ (parseMethodDescriptor y.desc).map (fun d => d.parameters.length) = some n) (hR : rm.frames + 1 ≤ R.frames ∧ 8 + (maxL + 11) + rm.locals ≤ R.locals)
    (hP : va_P G.1 vwCl ws H) (hD : va_D A ws) (hS : va_S A s.heap H locs) (hA : ∀ q : Nat, s.heap.size ≤ q → A q) (is : List Nat) (hC : is.map (fun i => ws[i]?) = wc.map some) (hnd : va_nd is = true)
    (hno : ∀ z ∈ c.exceptionTable.toList, False) (hlocks : meth.locks = false) (e9 : ∀ E, x1 = some E → x = .inl E) (hmc : cells + rm.cells ≤ mc) (hms : slots + rm.slots ≤ ms)
    (ci q0 : Nat) (hq : vwCl[ci]? = some q) (hqC : q.1 = C) (he : ws[q0]? = some (b, .inr (ci, fs)))
    (hn : As.length = n) (hsz : ls.size = nL) (hst : st0 = As.reverse ++ .ref b :: rest) (hrm : (rest.map fun v => v.category).sum ≤ 8) (hdg : decode cc pc = .ok (.invokevirtual index, 3)) (hf : cells + rm.cells ≤ R.cells ∧ slots + rm.slots ≤ R.slots)
    (kk : x1 = none → ∀ (H1 : Heap) (locs1 : List Loc), va_P G.1 vwCl ws H1 → va_S A s.heap H1 locs1 → W p l e R s m args below meth c H1 locs1 (cells + rm.cells) (slots + rm.slots) (xMQ below G ws A x args s mc ms) (F0 m (pc + 3) ls rest)) :
    W p l e R s m args below meth c H locs cells slots (xMQ below G ws A x args s mc ms) (F0 m pc ls st0) := by
  subst hst
  exact x_back (vx_runV (As := As) (rest := rest) ⟨hx, hb, hml, hown, hts⟩ (hM H.size) ⟨x_cb hts hc hi hl hd hR, hts _ hin, hts _ hse⟩
    ⟨cpX_blind, by rw [← hqC]; exact va_recv hK.1 hP hq he, x_pre hK hZ hP hD hS hA hC hnd⟩ rfl hn hsz rfl (lv_room hrm) hdg hf) hP hD hS hA hC hno hlocks e9 hmc hms kk
end GX
/-! the words of each throw -/
abbrev xIAE : String := "java/lang/IllegalArgumentException"
abbrev xISE : String := "java/lang/IllegalStateException"
abbrev xIOB : String := "java/lang/IndexOutOfBoundsException"
abbrev xRE : List String := ["java/lang/RuntimeException", "java/lang/Exception"]
/-- a pure program that goes on, or throws -/
def rx {β : Type} (y : Option String) (k : Option (String ⊕ β)) : Option (String ⊕ β) := match y with
  | some E => some (.inl E)
  | none => k
theorem rx_E {β : Type} {y : Option String} {k : Option (String ⊕ β)} {z : String ⊕ β} (h : rx y k = some z) : ∀ E, y = some E → z = .inl E := by
  intro E e
  rw [e] at h
  exact (Option.some.inj h).symm
theorem rx_n {β : Type} {y : Option String} {k : Option (String ⊕ β)} {z : String ⊕ β} (h : rx y k = some z) (e : y = none) : k = some z := by
  rw [e] at h
  exact h
/-- the four saved states of a history -/
def sv4 (a b c d : Nat) : Nat → Option Nat
  | 0 => some a
  | 1 => some b
  | 2 => some c
  | _ => some d
theorem vin4_0 : vp_in (0 : Int32) 4 := by unfold vp_in; decide
theorem vin4_1 : vp_in (1 : Int32) 4 := by unfold vp_in; decide
theorem vin4_2 : vp_in (2 : Int32) 4 := by unfold vp_in; decide
theorem vin4_3 : vp_in (3 : Int32) 4 := by unfold vp_in; decide
section GA
variable {p : Program} {l : Launch} {e : Env} {R : Room} {s : State} {m : MethodId} {args : Array Value} {below : List Frame} {meth : Method} {c : Code} {H : Heap} {locs : List Loc} {cells slots : Nat} {Q : State → Prop} {D : va_G} {cl : List vw_C} {tys : List (ClassId × FieldType)} {ws : va_W} {cc : ByteArray} {pc a : Nat} {ls : Array Slot} {rest : List Value}
theorem g_aaload (hexec : p.tables.exec = Jvm.exec) (hb : c.code = cc) (hK : va_K D cl tys s) (hP : va_P D cl ws H) (q0 t0 : Nat) {cA : ClassId} {C : String} {n : Nat} {f : Nat → Option Nat} (ha : ws[q0]? = some (a, .inl (cA, n, .inr (.inr (.inr (.inr f)))))) (ht : tys[t0]? = some (cA, .object C)) {i : Int32} (hin : vp_in i n) {b : Nat} (hv : f i.toNatClampNeg = some b) (hdg : decode cc pc = .ok (.aaload, 1))
    (kk : W p l e R s m args below meth c H locs cells slots Q (F0 m (pc + 1) ls (.ref b :: rest))) : W p l e R s m args below meth c H locs cells slots Q (F0 m pc ls (.int i :: .ref a :: rest)) :=
  va_aldq hexec hb hK hP q0 t0 ha ht hin hdg (by rw [hv]; exact kk)
end GA
