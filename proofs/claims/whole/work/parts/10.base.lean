/-! the base: pictures of worlds, contracts by a pure function, calls -/
/-- what the tables say, at every state of a run -/
abbrev tys4 (cI cZ cJ cS : ClassId) : List (ClassId × FieldType) := [(cI, .int), (cZ, .boolean), (cJ, .long), (cS, .object "InPlaceDelta$State")]
abbrev GT : Type := va_G × ClassId × ClassId × ClassId × ClassId
abbrev gty (G : GT) : List (ClassId × FieldType) := tys4 G.2.1 G.2.2.1 G.2.2.2.1 G.2.2.2.2
/-- pairs of exceptions of which none is the other -/
def ncW : List Cond := [Cond.castable "java/lang/IllegalArgumentException" "java/lang/IllegalStateException", Cond.castable "java/lang/IllegalArgumentException" "java/lang/IndexOutOfBoundsException", Cond.castable "java/lang/IllegalStateException" "java/lang/IllegalArgumentException", Cond.castable "java/lang/IllegalStateException" "java/lang/IndexOutOfBoundsException", Cond.castable "java/lang/IndexOutOfBoundsException" "java/lang/IllegalArgumentException", Cond.castable "java/lang/IndexOutOfBoundsException" "java/lang/IllegalStateException"]
def GK (G : GT) (U : State) : Prop := va_K G.1 vwCl (gty G) U ∧ (∀ w ∈ nsW, va_Nw w U) ∧ (∀ (k : Nat) (tx : String), Cond.stringRef RX10 k tx ∈ tables_1 → ∃ sa, vk_R RX10 k tx sa U) ∧ (∀ E nm : String, Cond.castable E nm ∈ ncW → va_Nc E nm U)
theorem GK.moved {G : GT} {s U : State} (hW : s.WarmedH U.vm) (h : GK G s) : GK G U := by
  refine ⟨va_K.moved hW.alike h.1, fun w hw => ?_, fun k tx hk => ?_, fun E nm hn => (h.2.2.2 E nm hn).moved hW.alike⟩
  · have h2 := h.2.1 w hw
    rcases (nsW_ok w hw).1 with ⟨a, i, b, n, d, q, e⟩ | ⟨a, i, x, q, e⟩ | ⟨x, e⟩ | ⟨a, b, e⟩
    · rw [e] at h2 ⊢; exact va_Nw.warmF hW h2
    · rw [e] at h2 ⊢; exact va_Nw.warmM hW h2
    · rw [e] at h2 ⊢; exact va_Nw.warmD hW h2
    · rw [e] at h2 ⊢; exact va_Nw.warmC hW h2
  · obtain ⟨sa, h3⟩ := h.2.2.1 k tx hk
    exact ⟨sa, vk_R.warm hW h3⟩
theorem GK.same {G : GT} {u U : State} (hv : u.vm = U.vm) (h : GK G u) : GK G U := by
  have ha : u.vm.Alike U.vm := by rw [hv]; exact Vm.Alike.refl U.vm
  refine ⟨va_K.moved ha h.1, fun w hw => ?_, fun k tx hk => ?_, fun E nm hn => (h.2.2.2 E nm hn).moved ha⟩
  · have h2 := h.2.1 w hw
    rcases (nsW_ok w hw).1 with ⟨a, i, b, n, d, q, e⟩ | ⟨a, i, x, q, e⟩ | ⟨x, e⟩ | ⟨a, b, e⟩
    · rw [e] at h2 ⊢; exact va_Nw.same rfl hv h2
    · rw [e] at h2 ⊢; exact va_Nw.same rfl hv h2
    · rw [e] at h2 ⊢; exact va_Nw.same rfl hv h2
    · rw [e] at h2 ⊢; exact va_Nw.same rfl hv h2
  · obtain ⟨sa, h3⟩ := h.2.2.1 k tx hk
    exact ⟨sa, vk_R.same hv.symm h3⟩
/-- a world with some cells put anew, at their places -/
def wset : va_W → List Nat → va_W → va_W
  | ws, i :: is, c :: cs => wset (ws.set i c) is cs
  | ws, _, _ => ws
theorem wset_get : ∀ (is : List Nat) (w1 ws : va_W) (k : Nat) (q : Nat × va_E), is.length = w1.length → (wset ws is w1)[k]? = some q → (∃ j : Nat, is[j]? = some k ∧ w1[j]? = some q) ∨ (k ∉ is ∧ ws[k]? = some q)
  | [], w1, ws, k, q, _, h => Or.inr ⟨List.not_mem_nil, by unfold wset at h; exact h⟩
  | i :: is, [], ws, k, q, hl, h => by cases hl
  | i :: is, c :: cs, ws, k, q, hl, h => by
    have h : (wset (ws.set i c) is cs)[k]? = some q := h
    rcases wset_get is cs (ws.set i c) k q (Nat.succ.inj hl) h with ⟨j, h1, h2⟩ | ⟨h1, h2⟩
    · exact Or.inl ⟨j + 1, h1, h2⟩
    · by_cases hk : k = i
      · subst hk
        rw [List.getElem?_set] at h2
        simp only [if_true] at h2
        split at h2
        · exact Or.inl ⟨0, rfl, h2⟩
        · cases h2
      · rw [List.getElem?_set_ne (fun z => hk z.symm)] at h2
        exact Or.inr ⟨fun z => (List.mem_cons.mp z).elim hk h1, h2⟩
theorem wset_ok {A : Nat → Prop} {D : va_G} {cl : List vw_C} {ws wc w1 : va_W} {H H1 : Heap} (hP : va_P D cl ws H) (hD : va_D A ws) (is : List Nat) (hC : is.map (fun i => ws[i]?) = wc.map some) (hadr : w1.map Prod.fst = wc.map Prod.fst)
    (hk : ∀ q : Nat, q < H.size → ¬ va_A wc H.size q → H1[q]? = H[q]?) (hP1 : va_P D cl w1 H1) : va_P D cl (wset ws is w1) H1 ∧ va_D A (wset ws is w1) := by
  have hl1 : is.length = wc.length := by have := congrArg List.length hC; simpa using this
  have hl2 : w1.length = wc.length := by have := congrArg List.length hadr; simpa using this
  have hl : is.length = w1.length := by rw [hl1, hl2]
  have at' : ∀ (k i : Nat), is[k]? = some i → ∃ q, wc[k]? = some q ∧ ws[i]? = some q := by
    intro k i hi
    have h1 : (is.map (fun i => ws[i]?))[k]? = some (ws[i]?) := by rw [List.getElem?_map, hi]; rfl
    rw [hC, List.getElem?_map] at h1
    cases hq : wc[k]? with
    | none => rw [hq] at h1; cases h1
    | some q => rw [hq] at h1; exact ⟨q, rfl, (Option.some.inj h1).symm⟩
  have ad : ∀ (k : Nat) (q q0 : Nat × va_E), w1[k]? = some q → wc[k]? = some q0 → q.1 = q0.1 := by
    intro k q q0 h1 h2
    have h3 : (w1.map Prod.fst)[k]? = some q.1 := by rw [List.getElem?_map, h1]; rfl
    rw [hadr, List.getElem?_map, h2] at h3
    exact (Option.some.inj h3).symm
  have key : ∀ (k : Nat) (q : Nat × va_E), (wset ws is w1)[k]? = some q → ∃ q0, ws[k]? = some q0 ∧ q0.1 = q.1 := by
    intro k q hq
    rcases wset_get is w1 ws k q hl hq with ⟨j, h1, h2⟩ | ⟨h1, h2⟩
    · obtain ⟨q0, h3, h4⟩ := at' j k h1
      exact ⟨q0, h4, (ad j q q0 h2 h3).symm⟩
    · exact ⟨q, h2, rfl⟩
  refine ⟨fun k q hq => ?_, fun i j x y hi hj hxy => ?_, fun k q hk => ?_⟩
  · rcases wset_get is w1 ws k q hl hq with ⟨j, h1, h2⟩ | ⟨h1, h2⟩
    · exact hP1 j q h2
    · have hlt := (hP k q h2).lt
      refine (hP k q h2).kept (hk q.1 hlt (fun z => ?_))
      rcases z with ⟨j, e, hj⟩ | z
      · have hjl : j < is.length := by rw [hl1]; exact (List.getElem?_eq_some_iff.mp hj).1
        obtain ⟨q0, h3, h4⟩ := at' j is[j] (List.getElem?_eq_getElem hjl)
        rw [hj] at h3
        cases h3
        have hkj := hD.1 k is[j] q (q.1, e) h2 h4 rfl
        exact h1 (by rw [hkj]; exact List.getElem_mem hjl)
      · omega
  · obtain ⟨x0, h1, h2⟩ := key i x hi
    obtain ⟨y0, h3, h4⟩ := key j y hj
    exact hD.1 i j x0 y0 h1 h3 (h2.trans (hxy.trans h4.symm))
  · obtain ⟨q0, h1, h2⟩ := key k q hk
    rw [← h2]
    exact hD.2 k q0 h1
/-- a method's start, and its end: the answer, the cells, nothing else changed -/
def cpre (G : GT) (ws : va_W) (sz : Nat) (U : State) : Prop := U.heap.size = sz ∧ va_P G.1 vwCl ws U.heap ∧ GK G U ∧ va_D (fun _ => True) ws
def gQ (G : GT) (v : Option Value) (ws' : va_W) (A : Nat → Prop) : Array Value → State → Outcome → State → Prop := fun _ st oc t => oc = .returned v ∧ va_P G.1 vwCl ws' t.heap ∧ va_F A st t
/-- a contract: from the cells ws, with the values av, the method y answers v and leaves the cells ws' -/
def Ct (l : Launch) (y : MethodName) (wd : List Cond) (rm : Room) (G : GT) (av : List Value) (ws : va_W) (v : Option Value) (ws' : va_W) : Prop :=
  ∀ sz : Nat, Met l y wd rm (va_Pc av (cpre G ws sz)) (gQ G v ws' (va_A ws sz)) 0 0 (va_A ws sz)
theorem cpre_blind {G : GT} {ws : va_W} {sz : Nat} {av : List Value} : FrameBlind (va_Pc av (cpre G ws sz)) := by
  intro a U g mk h
  obtain ⟨h0, h1, h2, h3, h4⟩ := h
  exact ⟨h0, h1, h2, GK.same (u := U) (U := U.calling g mk a) rfl h3, h4⟩
/-- the end of a body, as a body owes it -/
def gMQ (below : List Frame) (G : GT) (v : Option Value) (ws' : va_W) (A : Nat → Prop) (args : Array Value) (s : State) : State → Prop := MQ below (gQ G v ws' A) args s 0 0 A
theorem Ct.ofW {l : Launch} {y : MethodName} {wd : List Cond} {rm : Room} {G : GT} {av : List Value} {ws : va_W} {v : Option Value} {ws' : va_W} {cc : ByteArray} {maxL : Nat} {ret : Option FieldType} {own : String}
    (hy : plainName y.cls = true) (hw : wd = Cond.code y cc maxL ret :: lw_g) (ho : y.cls = own) (hn : (lg_sl av).length ≤ maxL)
    (body : ∀ (p : Program) (e : Env) (s : State) (m : MethodId) (args : Array Value) (below : List Frame) (meth : Method) (c : Code) (A : Nat → Prop), p.tables.exec = Jvm.exec → c.code = cc → meth.sig.returnType = ret → c.maxLocals = maxL → (∀ w ∈ lw_g, w.before args s = true) → s.vm.findClass own = some m.cls → meth.locks = false → GK G s → va_P G.1 vwCl ws s.heap → va_D A ws → (∀ q : Nat, s.heap.size ≤ q → A q) → va_S A s.heap s.heap [] → ∀ ls : Array Slot, lv_has ls maxL (lv_args 0 av) →
      W p l e rm s m args below meth c s.heap [] 0 0 (gMQ below G v ws' A args s) (F0 m 0 ls [])) : Ct l y wd rm G av ws v ws' := by
  intro sz
  refine Met.ofW (cc := cc) (maxL := maxL) (ret := ret) hy hw ?_
  intro p e s m args below meth c s₁ B hml hv
  obtain ⟨rfl, hsz, hP, hK, hD0⟩ := hv
  have hts := atoms_spec (ws := wd) B.pre
  have hown : s.vm.findClass own = some m.cls := by rw [← ho]; exact findClass_of_methodNamed B.named
  subst hsz
  have hl := lv_entry av (n := maxL) hn
  rw [lg_entry_eq]
  exact body p e s m _ below meth c (va_A ws s.heap.size) B.exec B.bytes B.returns hml (fun w h => hts w (by rw [hw]; exact List.mem_cons_of_mem _ h)) hown B.notSynchronized hK hP hD0.self (fun q h => Or.inr h) va_S.rf _ hl
section GB
variable {p : Program} {l : Launch} {e : Env} {R : Room} {s : State} {m : MethodId} {args : Array Value} {below : List Frame} {meth : Method} {c : Code} {H : Heap} {locs : List Loc} {cells slots : Nat} {Q : State → Prop} {A : Nat → Prop} {G : GT} {ws' : va_W} {cc : ByteArray} {pc : Nat} {ls : Array Slot}
theorem g_vret (hx : p.tables.exec = Jvm.exec) (hb : c.code = cc) (hr : meth.sig.returnType = none) (hlocks : meth.locks = false) (hP : va_P G.1 vwCl ws' H) (hS : va_S A s.heap H locs) (hdg : decode cc pc = .ok (.return_, 1)) :
    W p l e R s m args below meth c H locs 0 0 (gMQ below G none ws' A args s) (F0 m pc ls []) :=
  W.vret hx hb hr (fun t ht _ => ⟨rfl, by rw [ht]; exact hP, hS.F ht⟩) hS.2.2 hdg hlocks
theorem g_iret {v : Int32} (hx : p.tables.exec = Jvm.exec) (hb : c.code = cc) (hr : meth.sig.returnType = some .int) (hlocks : meth.locks = false) (hP : va_P G.1 vwCl ws' H) (hS : va_S A s.heap H locs) (hdg : decode cc pc = .ok (.ireturn, 1)) :
    W p l e R s m args below meth c H locs 0 0 (gMQ below G (some (.int v)) ws' A args s) (F0 m pc ls [.int v]) :=
  W.iret hx hb hr (fun t ht _ => ⟨rfl, by rw [ht]; exact hP, hS.F ht⟩) hS.2.2 hdg hlocks
theorem g_zret {v : Int32} (hx : p.tables.exec = Jvm.exec) (hb : c.code = cc) (hr : meth.sig.returnType = some .boolean) (hlocks : meth.locks = false) (hv : narrow .boolean (.int v) = .int v) (hP : va_P G.1 vwCl ws' H) (hS : va_S A s.heap H locs) (hdg : decode cc pc = .ok (.ireturn, 1)) :
    W p l e R s m args below meth c H locs 0 0 (gMQ below G (some (.int v)) ws' A args s) (F0 m pc ls [.int v]) :=
  W.zret hx hb hr hv (fun t ht _ => ⟨rfl, by rw [ht]; exact hP, hS.F ht⟩) hS.2.2 hdg hlocks
theorem g_lret {v : Int64} (hx : p.tables.exec = Jvm.exec) (hb : c.code = cc) (hr : meth.sig.returnType = some .long) (hlocks : meth.locks = false) (hP : va_P G.1 vwCl ws' H) (hS : va_S A s.heap H locs) (hdg : decode cc pc = .ok (.lreturn, 1)) :
    W p l e R s m args below meth c H locs 0 0 (gMQ below G (some (.long v)) ws' A args s) (F0 m pc ls [.long v]) :=
  W.lret hx hb hr (fun t ht _ => ⟨rfl, by rw [ht]; exact hP, hS.F ht⟩) hS.2.2 hdg hlocks
theorem g_dret {v : UInt64} (hx : p.tables.exec = Jvm.exec) (hb : c.code = cc) (hr : meth.sig.returnType = some .double) (hlocks : meth.locks = false) (hP : va_P G.1 vwCl ws' H) (hS : va_S A s.heap H locs) (hdg : decode cc pc = .ok (.dreturn, 1)) :
    W p l e R s m args below meth c H locs 0 0 (gMQ below G (some (.double v)) ws' A args s) (F0 m pc ls [.double v]) :=
  W.dret hx hb hr (fun t ht _ => ⟨rfl, by rw [ht]; exact hP, hS.F ht⟩) hS.2.2 hdg hlocks
/-- behind a call -/
theorem g_back {v : Option Value} {ws wc w1 : va_W} {is : List Nat} {rest st0 : List Value} {a : Array Value}
    (hr : va_Run p l e R s m args below meth c H locs cells slots 0 0 (F0 m pc ls st0) rest (gQ G v w1 (va_A wc H.size) a) (va_A wc H.size))
    (hP : va_P G.1 vwCl ws H) (hD : va_D A ws) (hS : va_S A s.heap H locs) (hA : ∀ q : Nat, s.heap.size ≤ q → A q) (hC : is.map (fun i => ws[i]?) = wc.map some) (hadr : w1.map Prod.fst = wc.map Prod.fst) (hset : wset ws is w1 = ws')
    (kk : ∀ (H1 : Heap) (locs1 : List Loc), va_P G.1 vwCl ws' H1 → va_D A ws' → va_S A s.heap H1 locs1 → W p l e R s m args below meth c H1 locs1 cells slots Q (F0 m (pc + 3) ls (v.toList ++ rest))) :
    W p l e R s m args below meth c H locs cells slots Q (F0 m pc ls st0) := by
  have hF := va_free (wc := wc) hD hS hA is hC
  intro T hT X
  obtain ⟨v', st₀, t, T', L, h0, X', hL, e1, e2, ⟨hv, hP1, hz, hk⟩, st⟩ := hr T hT X
  cases hv
  rw [h0] at hz hk
  obtain ⟨hP2, hD2⟩ := wset_ok hP hD is hC hadr hk hP1
  rw [hset] at hP2 hD2
  obtain ⟨t2, a1, b1⟩ := kk T'.heap (locs ++ L) (by rw [e1]; exact hP2) hD2
    ⟨Nat.le_trans hS.1 (by rw [e1]; exact hz), fun q h1 h2 => by rw [e1, hk q (Nat.lt_of_lt_of_le h1 hS.1) (fun z => h2 (hF q z))]; exact hS.2.1 q h1 h2, fun q hq => by
      rcases List.mem_append.mp hq with h | h
      · exact hS.2.2 q h
      · exact hF _ (hL q h)⟩ T' rfl X'
  exact ⟨t2, st t2 a1, b1⟩
/-- what a call of a good method rests on -/
theorem g_cb {own : String} {index maxL n : Nat} {y : MethodName} {bytes : ByteArray} {ret : Option FieldType} {rm : Room} (hts : ∀ w ∈ lw_g, w.before args s = true)
    (hc : Cond.code y bytes maxL ret ∈ lw_g) (hi : Cond.initialized y.cls ∈ lw_g) (hl : Cond.methodLink own index y ∈ lw_g) (hrc : rm.cells = 0) (hrs : rm.slots = 0)
    (hd : y.cls ≠ "java/lang/invoke/MethodHandle" ∧ y.cls ≠ "java/lang/invoke/VarHandle" ∧ (parseMethodDescriptor y.desc).map (fun d => d.parameters.length) = some n) (hR : rm.frames + 1 ≤ R.frames ∧ 8 + (maxL + 11) + rm.locals ≤ R.locals) :
    CallB R s args own index y bytes maxL ret (Cond.code y bytes maxL ret :: lw_g) rm 0 0 n := by
  refine callB_of (Ts := Cond.code y bytes maxL ret :: lw_g) n (fun w h => ?_) (wg_in hc) rfl hrc hrs (hts _ hi) (hts _ hl) hd hR
  rcases List.mem_cons.mp h with e | e
  · rw [e]; exact hts _ hc
  · exact hts w e
theorem g_cn {own host : String} {index maxL n : Nat} {y : MethodName} {bytes : ByteArray} {ret : Option FieldType} {rm : Room} (hts : ∀ w ∈ lw_g, w.before args s = true)
    (hc : Cond.code y bytes maxL ret ∈ lw_g) (hi : Cond.initialized y.cls ∈ lw_g) (hl : va_Nw (.methodLinkNest own index y host) s) (hrc : rm.cells = 0) (hrs : rm.slots = 0)
    (hd : y.cls ≠ "java/lang/invoke/MethodHandle" ∧ y.cls ≠ "java/lang/invoke/VarHandle" ∧ (parseMethodDescriptor y.desc).map (fun d => d.parameters.length) = some n) (hR : rm.frames + 1 ≤ R.frames ∧ 8 + (maxL + 11) + rm.locals ≤ R.locals) :
    va_CN R s args own index y host bytes maxL ret (Cond.code y bytes maxL ret :: lw_g) rm 0 0 n := by
  refine va_cnB (Ts := Cond.code y bytes maxL ret :: lw_g) n (fun w h => ?_) (wg_in hc) rfl hrc hrs hl (hts _ hi) hd hR
  rcases List.mem_cons.mp h with e | e
  · rw [e]; exact hts _ hc
  · exact hts w e
theorem g_pre {ws wc : va_W} {is : List Nat} {As : List Value} (hK : GK G s) (hP : va_P G.1 vwCl ws H) (hD : va_D A ws) (hC : is.map (fun i => ws[i]?) = wc.map some) (hnd : va_nd is = true) :
    ∀ U : State, U.heap = H → s.WarmedH U.vm → va_Pc As (cpre G wc H.size) As.toArray U := by
  have hPc := hP.sub (ws' := wc) is (by
    have h9 : is.filterMap (fun i => ws[i]?) = (is.map (fun i => ws[i]?)).filterMap id := by rw [List.filterMap_map]; rfl
    rw [h9, hC, List.filterMap_map]
    show List.filterMap some wc = wc
    exact List.filterMap_some)
  have hDc : va_D (fun _ => True) wc := (hD.sub is hnd hC).weaken (fun _ _ _ _ => trivial)
  exact fun U hU hW => ⟨rfl, by rw [hU], by rw [hU]; exact hPc, hK.moved hW, hDc⟩
/-- a call of a method of an object, and of a static one; a nest mate's -/
theorem g_callV {y : MethodName} {bytes : ByteArray} {maxL nL n index : Nat} {ret : Option FieldType} {rm : Room} {own C : String} {b : Nat} {As rest st0 : List Value} {v : Option Value} {ws wc w1 : va_W} {q : vw_C} {fs : List Value}
    (hx : p.tables.exec = Jvm.exec) (hb : c.code = cc) (hml : c.maxLocals = nL) (hown : s.vm.findClass own = some m.cls) (hts : ∀ w ∈ lw_g, w.before args s = true) (hK : GK G s)
    (hM : Ct l y (Cond.code y bytes maxL ret :: lw_g) rm G (.ref b :: As) wc v w1)
    (hc : Cond.code y bytes maxL ret ∈ lw_g) (hi : Cond.initialized y.cls ∈ lw_g) (hl : Cond.methodLink own index y ∈ lw_g) (hin : Cond.instanceMethod y ∈ lw_g) (hse : Cond.selects C y y ∈ lw_g)
    (hd : y.cls ≠ "java/lang/invoke/MethodHandle" ∧ y.cls ≠ "java/lang/invoke/VarHandle" ∧ (parseMethodDescriptor y.desc).map (fun d => d.parameters.length) = some n) (hR : rm.cells = 0 ∧ rm.slots = 0 ∧ rm.frames + 1 ≤ R.frames ∧ 8 + (maxL + 11) + rm.locals ≤ R.locals)
    (hP : va_P G.1 vwCl ws H) (hD : va_D A ws) (hS : va_S A s.heap H locs) (hA : ∀ q : Nat, s.heap.size ≤ q → A q) (is : List Nat) (hC : is.map (fun i => ws[i]?) = wc.map some) (hnd : va_nd is = true) (hadr : w1.map Prod.fst = wc.map Prod.fst) (hset : wset ws is w1 = ws')
    (ci q0 : Nat) (hq : vwCl[ci]? = some q) (hqC : q.1 = C) (he : ws[q0]? = some (b, .inr (ci, fs)))
    (hn : As.length = n) (hsz : ls.size = nL) (hst : st0 = As.reverse ++ .ref b :: rest) (hrm : (rest.map fun v => v.category).sum ≤ 8) (hdg : decode cc pc = .ok (.invokevirtual index, 3)) (hf : cells ≤ R.cells ∧ slots ≤ R.slots)
    (kk : ∀ (H1 : Heap) (locs1 : List Loc), va_P G.1 vwCl ws' H1 → va_D A ws' → va_S A s.heap H1 locs1 → W p l e R s m args below meth c H1 locs1 cells slots Q (F0 m (pc + 3) ls (v.toList ++ rest))) :
    W p l e R s m args below meth c H locs cells slots Q (F0 m pc ls st0) := by
  subst hst
  exact g_back (v := v) (va_runV (As := As) (rest := rest) ⟨hx, hb, hml, hown, hts⟩ (hM H.size) ⟨g_cb hts hc hi hl hR.1 hR.2.1 hd hR.2.2, hts _ hin, hts _ hse⟩
    ⟨cpre_blind, by rw [← hqC]; exact va_recv hK.1 hP hq he, g_pre hK hP hD hC hnd⟩ rfl hn hsz rfl (lv_room hrm) hdg hf) hP hD hS hA hC hadr hset kk
theorem g_callVN {y : MethodName} {bytes : ByteArray} {maxL nL n index : Nat} {ret : Option FieldType} {rm : Room} {own C host : String} {b : Nat} {As rest st0 : List Value} {v : Option Value} {ws wc w1 : va_W} {q : vw_C} {fs : List Value}
    (hx : p.tables.exec = Jvm.exec) (hb : c.code = cc) (hml : c.maxLocals = nL) (hown : s.vm.findClass own = some m.cls) (hts : ∀ w ∈ lw_g, w.before args s = true) (hK : GK G s)
    (hM : Ct l y (Cond.code y bytes maxL ret :: lw_g) rm G (.ref b :: As) wc v w1)
    (hc : Cond.code y bytes maxL ret ∈ lw_g) (hi : Cond.initialized y.cls ∈ lw_g) (hl : va_Nw (.methodLinkNest own index y host) s) (hin : Cond.instanceMethod y ∈ lw_g) (hse : Cond.selects C y y ∈ lw_g)
    (hd : y.cls ≠ "java/lang/invoke/MethodHandle" ∧ y.cls ≠ "java/lang/invoke/VarHandle" ∧ (parseMethodDescriptor y.desc).map (fun d => d.parameters.length) = some n) (hR : rm.cells = 0 ∧ rm.slots = 0 ∧ rm.frames + 1 ≤ R.frames ∧ 8 + (maxL + 11) + rm.locals ≤ R.locals)
    (hP : va_P G.1 vwCl ws H) (hD : va_D A ws) (hS : va_S A s.heap H locs) (hA : ∀ q : Nat, s.heap.size ≤ q → A q) (is : List Nat) (hC : is.map (fun i => ws[i]?) = wc.map some) (hnd : va_nd is = true) (hadr : w1.map Prod.fst = wc.map Prod.fst) (hset : wset ws is w1 = ws')
    (ci q0 : Nat) (hq : vwCl[ci]? = some q) (hqC : q.1 = C) (he : ws[q0]? = some (b, .inr (ci, fs)))
    (hn : As.length = n) (hsz : ls.size = nL) (hst : st0 = As.reverse ++ .ref b :: rest) (hrm : (rest.map fun v => v.category).sum ≤ 8) (hdg : decode cc pc = .ok (.invokevirtual index, 3)) (hf : cells ≤ R.cells ∧ slots ≤ R.slots)
    (kk : ∀ (H1 : Heap) (locs1 : List Loc), va_P G.1 vwCl ws' H1 → va_D A ws' → va_S A s.heap H1 locs1 → W p l e R s m args below meth c H1 locs1 cells slots Q (F0 m (pc + 3) ls (v.toList ++ rest))) :
    W p l e R s m args below meth c H locs cells slots Q (F0 m pc ls st0) := by
  subst hst
  exact g_back (v := v) (va_runVN (As := As) (rest := rest) ⟨hx, hb, hml, hown, hts⟩ (hM H.size) ⟨g_cn hts hc hi hl hR.1 hR.2.1 hd hR.2.2, hts _ hin, hts _ hse⟩
    ⟨cpre_blind, by rw [← hqC]; exact va_recv hK.1 hP hq he, g_pre hK hP hD hC hnd⟩ rfl hn hsz rfl (lv_room hrm) hdg hf) hP hD hS hA hC hadr hset kk
theorem g_callS {y : MethodName} {bytes : ByteArray} {maxL nL n index : Nat} {ret : Option FieldType} {rm : Room} {own : String} {As rest st0 : List Value} {v : Option Value} {ws wc w1 : va_W}
    (hx : p.tables.exec = Jvm.exec) (hb : c.code = cc) (hml : c.maxLocals = nL) (hown : s.vm.findClass own = some m.cls) (hts : ∀ w ∈ lw_g, w.before args s = true) (hK : GK G s)
    (hM : Ct l y (Cond.code y bytes maxL ret :: lw_g) rm G As wc v w1)
    (hc : Cond.code y bytes maxL ret ∈ lw_g) (hi : Cond.initialized y.cls ∈ lw_g) (hl : Cond.methodLink own index y ∈ lw_g) (hst9 : Cond.static y ∈ lw_g)
    (hd : y.cls ≠ "java/lang/invoke/MethodHandle" ∧ y.cls ≠ "java/lang/invoke/VarHandle" ∧ (parseMethodDescriptor y.desc).map (fun d => d.parameters.length) = some n) (hR : rm.cells = 0 ∧ rm.slots = 0 ∧ rm.frames + 1 ≤ R.frames ∧ 8 + (maxL + 11) + rm.locals ≤ R.locals)
    (hP : va_P G.1 vwCl ws H) (hD : va_D A ws) (hS : va_S A s.heap H locs) (hA : ∀ q : Nat, s.heap.size ≤ q → A q) (is : List Nat) (hC : is.map (fun i => ws[i]?) = wc.map some) (hnd : va_nd is = true) (hadr : w1.map Prod.fst = wc.map Prod.fst) (hset : wset ws is w1 = ws')
    (hn : As.length = n) (hsz : ls.size = nL) (hst : st0 = As.reverse ++ rest) (hrm : (rest.map fun v => v.category).sum ≤ 8) (hdg : decode cc pc = .ok (.invokestatic index, 3)) (hf : cells ≤ R.cells ∧ slots ≤ R.slots)
    (kk : ∀ (H1 : Heap) (locs1 : List Loc), va_P G.1 vwCl ws' H1 → va_D A ws' → va_S A s.heap H1 locs1 → W p l e R s m args below meth c H1 locs1 cells slots Q (F0 m (pc + 3) ls (v.toList ++ rest))) :
    W p l e R s m args below meth c H locs cells slots Q (F0 m pc ls st0) := by
  subst hst
  exact g_back (v := v) (va_runS (As := As) (rest := rest) ⟨hx, hb, hml, hown, hts⟩ (hM H.size) ⟨g_cb hts hc hi hl hR.1 hR.2.1 hd hR.2.2, hts _ hst9⟩
    ⟨cpre_blind, g_pre hK hP hD hC hnd⟩ rfl hn hsz rfl (lv_room hrm) hdg hf) hP hD hS hA hC hadr hset kk
theorem g_callSN {y : MethodName} {bytes : ByteArray} {maxL nL n index : Nat} {ret : Option FieldType} {rm : Room} {own host : String} {As rest st0 : List Value} {v : Option Value} {ws wc w1 : va_W}
    (hx : p.tables.exec = Jvm.exec) (hb : c.code = cc) (hml : c.maxLocals = nL) (hown : s.vm.findClass own = some m.cls) (hts : ∀ w ∈ lw_g, w.before args s = true) (hK : GK G s)
    (hM : Ct l y (Cond.code y bytes maxL ret :: lw_g) rm G As wc v w1)
    (hc : Cond.code y bytes maxL ret ∈ lw_g) (hi : Cond.initialized y.cls ∈ lw_g) (hl : va_Nw (.methodLinkNest own index y host) s) (hst9 : Cond.static y ∈ lw_g)
    (hd : y.cls ≠ "java/lang/invoke/MethodHandle" ∧ y.cls ≠ "java/lang/invoke/VarHandle" ∧ (parseMethodDescriptor y.desc).map (fun d => d.parameters.length) = some n) (hR : rm.cells = 0 ∧ rm.slots = 0 ∧ rm.frames + 1 ≤ R.frames ∧ 8 + (maxL + 11) + rm.locals ≤ R.locals)
    (hP : va_P G.1 vwCl ws H) (hD : va_D A ws) (hS : va_S A s.heap H locs) (hA : ∀ q : Nat, s.heap.size ≤ q → A q) (is : List Nat) (hC : is.map (fun i => ws[i]?) = wc.map some) (hnd : va_nd is = true) (hadr : w1.map Prod.fst = wc.map Prod.fst) (hset : wset ws is w1 = ws')
    (hn : As.length = n) (hsz : ls.size = nL) (hst : st0 = As.reverse ++ rest) (hrm : (rest.map fun v => v.category).sum ≤ 8) (hdg : decode cc pc = .ok (.invokestatic index, 3)) (hf : cells ≤ R.cells ∧ slots ≤ R.slots)
    (kk : ∀ (H1 : Heap) (locs1 : List Loc), va_P G.1 vwCl ws' H1 → va_D A ws' → va_S A s.heap H1 locs1 → W p l e R s m args below meth c H1 locs1 cells slots Q (F0 m (pc + 3) ls (v.toList ++ rest))) :
    W p l e R s m args below meth c H locs cells slots Q (F0 m pc ls st0) := by
  subst hst
  exact g_back (v := v) (va_runSN (As := As) (rest := rest) ⟨hx, hb, hml, hown, hts⟩ (hM H.size) ⟨g_cn hts hc hi hl hR.1 hR.2.1 hd hR.2.2, hts _ hst9, trivial⟩
    ⟨cpre_blind, g_pre hK hP hD hC hnd⟩ rfl hn hsz rfl (lv_room hrm) hdg hf) hP hD hS hA hC hadr hset kk
/-- behind a call that leaves its cells as they were -/
theorem g_back0 {v : Option Value} {ws wc : va_W} {is : List Nat} {rest st0 : List Value} {a : Array Value}
    (hr : va_Run p l e R s m args below meth c H locs cells slots 0 0 (F0 m pc ls st0) rest (gQ G v wc (va_A wc H.size) a) (va_A wc H.size))
    (hP : va_P G.1 vwCl ws H) (hD : va_D A ws) (hS : va_S A s.heap H locs) (hA : ∀ q : Nat, s.heap.size ≤ q → A q) (hC : is.map (fun i => ws[i]?) = wc.map some)
    (kk : ∀ (H1 : Heap) (locs1 : List Loc), va_P G.1 vwCl ws H1 → va_S A s.heap H1 locs1 → W p l e R s m args below meth c H1 locs1 cells slots Q (F0 m (pc + 3) ls (v.toList ++ rest))) :
    W p l e R s m args below meth c H locs cells slots Q (F0 m pc ls st0) := by
  have hF := va_free (wc := wc) hD hS hA is hC
  intro T hT X
  obtain ⟨v', st₀, t, T', L, h0, X', hL, e1, e2, ⟨hv, hP1, hz, hk⟩, st⟩ := hr T hT X
  cases hv
  rw [h0] at hz hk
  have hP2 : va_P G.1 vwCl ws t.heap := by
    intro k q hq
    by_cases hw : ∃ j : Nat, wc[j]? = some q
    · obtain ⟨j, hj⟩ := hw
      exact hP1 j q hj
    · have hlt := (hP k q hq).lt
      refine (hP k q hq).kept (hk q.1 hlt (fun z => ?_))
      rcases z with ⟨j, e, hj⟩ | z
      · have h1 : (is.map (fun i => ws[i]?))[j]? = some (some (q.1, e)) := by rw [hC, List.getElem?_map, hj]; rfl
        rw [List.getElem?_map] at h1
        cases hi : is[j]? with
        | none => rw [hi] at h1; cases h1
        | some i =>
          rw [hi] at h1
          have h2 : ws[i]? = some (q.1, e) := Option.some.inj h1
          have h3 := hD.1 k i q (q.1, e) hq h2 rfl
          subst h3
          exact hw ⟨j, hj.trans (h2.symm.trans hq)⟩
      · omega
  obtain ⟨t2, a1, b1⟩ := kk T'.heap (locs ++ L) (by rw [e1]; exact hP2)
    ⟨Nat.le_trans hS.1 (by rw [e1]; exact hz), fun q h1 h2 => by rw [e1, hk q (Nat.lt_of_lt_of_le h1 hS.1) (fun z => h2 (hF q z))]; exact hS.2.1 q h1 h2, fun q hq => by
      rcases List.mem_append.mp hq with h | h
      · exact hS.2.2 q h
      · exact hF _ (hL q h)⟩ T' rfl X'
  exact ⟨t2, st t2 a1, b1⟩
theorem g_callV0 {y : MethodName} {bytes : ByteArray} {maxL nL n index : Nat} {ret : Option FieldType} {rm : Room} {own C : String} {b : Nat} {As rest st0 : List Value} {v : Option Value} {ws wc : va_W} {q : vw_C} {fs : List Value}
    (hx : p.tables.exec = Jvm.exec) (hb : c.code = cc) (hml : c.maxLocals = nL) (hown : s.vm.findClass own = some m.cls) (hts : ∀ w ∈ lw_g, w.before args s = true) (hK : GK G s)
    (hM : Ct l y (Cond.code y bytes maxL ret :: lw_g) rm G (.ref b :: As) wc v wc)
    (hc : Cond.code y bytes maxL ret ∈ lw_g) (hi : Cond.initialized y.cls ∈ lw_g) (hl : Cond.methodLink own index y ∈ lw_g) (hin : Cond.instanceMethod y ∈ lw_g) (hse : Cond.selects C y y ∈ lw_g)
    (hd : y.cls ≠ "java/lang/invoke/MethodHandle" ∧ y.cls ≠ "java/lang/invoke/VarHandle" ∧ (parseMethodDescriptor y.desc).map (fun d => d.parameters.length) = some n) (hR : rm.cells = 0 ∧ rm.slots = 0 ∧ rm.frames + 1 ≤ R.frames ∧ 8 + (maxL + 11) + rm.locals ≤ R.locals)
    (hP : va_P G.1 vwCl ws H) (hD : va_D A ws) (hS : va_S A s.heap H locs) (hA : ∀ q : Nat, s.heap.size ≤ q → A q) (is : List Nat) (hC : is.map (fun i => ws[i]?) = wc.map some) (hnd : va_nd is = true)
    (ci q0 : Nat) (hq : vwCl[ci]? = some q) (hqC : q.1 = C) (he : ws[q0]? = some (b, .inr (ci, fs)))
    (hn : As.length = n) (hsz : ls.size = nL) (hst : st0 = As.reverse ++ .ref b :: rest) (hrm : (rest.map fun v => v.category).sum ≤ 8) (hdg : decode cc pc = .ok (.invokevirtual index, 3)) (hf : cells ≤ R.cells ∧ slots ≤ R.slots)
    (kk : ∀ (H1 : Heap) (locs1 : List Loc), va_P G.1 vwCl ws H1 → va_S A s.heap H1 locs1 → W p l e R s m args below meth c H1 locs1 cells slots Q (F0 m (pc + 3) ls (v.toList ++ rest))) :
    W p l e R s m args below meth c H locs cells slots Q (F0 m pc ls st0) := by
  subst hst
  exact g_back0 (v := v) (va_runV (As := As) (rest := rest) ⟨hx, hb, hml, hown, hts⟩ (hM H.size) ⟨g_cb hts hc hi hl hR.1 hR.2.1 hd hR.2.2, hts _ hin, hts _ hse⟩
    ⟨cpre_blind, by rw [← hqC]; exact va_recv hK.1 hP hq he, g_pre hK hP hD hC hnd⟩ rfl hn hsz rfl (lv_room hrm) hdg hf) hP hD hS hA hC kk
theorem g_callVN0 {y : MethodName} {bytes : ByteArray} {maxL nL n index : Nat} {ret : Option FieldType} {rm : Room} {own C host : String} {b : Nat} {As rest st0 : List Value} {v : Option Value} {ws wc : va_W} {q : vw_C} {fs : List Value}
    (hx : p.tables.exec = Jvm.exec) (hb : c.code = cc) (hml : c.maxLocals = nL) (hown : s.vm.findClass own = some m.cls) (hts : ∀ w ∈ lw_g, w.before args s = true) (hK : GK G s)
    (hM : Ct l y (Cond.code y bytes maxL ret :: lw_g) rm G (.ref b :: As) wc v wc)
    (hc : Cond.code y bytes maxL ret ∈ lw_g) (hi : Cond.initialized y.cls ∈ lw_g) (hl : va_Nw (.methodLinkNest own index y host) s) (hin : Cond.instanceMethod y ∈ lw_g) (hse : Cond.selects C y y ∈ lw_g)
    (hd : y.cls ≠ "java/lang/invoke/MethodHandle" ∧ y.cls ≠ "java/lang/invoke/VarHandle" ∧ (parseMethodDescriptor y.desc).map (fun d => d.parameters.length) = some n) (hR : rm.cells = 0 ∧ rm.slots = 0 ∧ rm.frames + 1 ≤ R.frames ∧ 8 + (maxL + 11) + rm.locals ≤ R.locals)
    (hP : va_P G.1 vwCl ws H) (hD : va_D A ws) (hS : va_S A s.heap H locs) (hA : ∀ q : Nat, s.heap.size ≤ q → A q) (is : List Nat) (hC : is.map (fun i => ws[i]?) = wc.map some) (hnd : va_nd is = true)
    (ci q0 : Nat) (hq : vwCl[ci]? = some q) (hqC : q.1 = C) (he : ws[q0]? = some (b, .inr (ci, fs)))
    (hn : As.length = n) (hsz : ls.size = nL) (hst : st0 = As.reverse ++ .ref b :: rest) (hrm : (rest.map fun v => v.category).sum ≤ 8) (hdg : decode cc pc = .ok (.invokevirtual index, 3)) (hf : cells ≤ R.cells ∧ slots ≤ R.slots)
    (kk : ∀ (H1 : Heap) (locs1 : List Loc), va_P G.1 vwCl ws H1 → va_S A s.heap H1 locs1 → W p l e R s m args below meth c H1 locs1 cells slots Q (F0 m (pc + 3) ls (v.toList ++ rest))) :
    W p l e R s m args below meth c H locs cells slots Q (F0 m pc ls st0) := by
  subst hst
  exact g_back0 (v := v) (va_runVN (As := As) (rest := rest) ⟨hx, hb, hml, hown, hts⟩ (hM H.size) ⟨g_cn hts hc hi hl hR.1 hR.2.1 hd hR.2.2, hts _ hin, hts _ hse⟩
    ⟨cpre_blind, by rw [← hqC]; exact va_recv hK.1 hP hq he, g_pre hK hP hD hC hnd⟩ rfl hn hsz rfl (lv_room hrm) hdg hf) hP hD hS hA hC kk
theorem g_callS0 {y : MethodName} {bytes : ByteArray} {maxL nL n index : Nat} {ret : Option FieldType} {rm : Room} {own : String} {As rest st0 : List Value} {v : Option Value} {ws wc : va_W}
    (hx : p.tables.exec = Jvm.exec) (hb : c.code = cc) (hml : c.maxLocals = nL) (hown : s.vm.findClass own = some m.cls) (hts : ∀ w ∈ lw_g, w.before args s = true) (hK : GK G s)
    (hM : Ct l y (Cond.code y bytes maxL ret :: lw_g) rm G As wc v wc)
    (hc : Cond.code y bytes maxL ret ∈ lw_g) (hi : Cond.initialized y.cls ∈ lw_g) (hl : Cond.methodLink own index y ∈ lw_g) (hst9 : Cond.static y ∈ lw_g)
    (hd : y.cls ≠ "java/lang/invoke/MethodHandle" ∧ y.cls ≠ "java/lang/invoke/VarHandle" ∧ (parseMethodDescriptor y.desc).map (fun d => d.parameters.length) = some n) (hR : rm.cells = 0 ∧ rm.slots = 0 ∧ rm.frames + 1 ≤ R.frames ∧ 8 + (maxL + 11) + rm.locals ≤ R.locals)
    (hP : va_P G.1 vwCl ws H) (hD : va_D A ws) (hS : va_S A s.heap H locs) (hA : ∀ q : Nat, s.heap.size ≤ q → A q) (is : List Nat) (hC : is.map (fun i => ws[i]?) = wc.map some) (hnd : va_nd is = true)
    (hn : As.length = n) (hsz : ls.size = nL) (hst : st0 = As.reverse ++ rest) (hrm : (rest.map fun v => v.category).sum ≤ 8) (hdg : decode cc pc = .ok (.invokestatic index, 3)) (hf : cells ≤ R.cells ∧ slots ≤ R.slots)
    (kk : ∀ (H1 : Heap) (locs1 : List Loc), va_P G.1 vwCl ws H1 → va_S A s.heap H1 locs1 → W p l e R s m args below meth c H1 locs1 cells slots Q (F0 m (pc + 3) ls (v.toList ++ rest))) :
    W p l e R s m args below meth c H locs cells slots Q (F0 m pc ls st0) := by
  subst hst
  exact g_back0 (v := v) (va_runS (As := As) (rest := rest) ⟨hx, hb, hml, hown, hts⟩ (hM H.size) ⟨g_cb hts hc hi hl hR.1 hR.2.1 hd hR.2.2, hts _ hst9⟩
    ⟨cpre_blind, g_pre hK hP hD hC hnd⟩ rfl hn hsz rfl (lv_room hrm) hdg hf) hP hD hS hA hC kk
theorem g_callSN0 {y : MethodName} {bytes : ByteArray} {maxL nL n index : Nat} {ret : Option FieldType} {rm : Room} {own host : String} {As rest st0 : List Value} {v : Option Value} {ws wc : va_W}
    (hx : p.tables.exec = Jvm.exec) (hb : c.code = cc) (hml : c.maxLocals = nL) (hown : s.vm.findClass own = some m.cls) (hts : ∀ w ∈ lw_g, w.before args s = true) (hK : GK G s)
    (hM : Ct l y (Cond.code y bytes maxL ret :: lw_g) rm G As wc v wc)
    (hc : Cond.code y bytes maxL ret ∈ lw_g) (hi : Cond.initialized y.cls ∈ lw_g) (hl : va_Nw (.methodLinkNest own index y host) s) (hst9 : Cond.static y ∈ lw_g)
    (hd : y.cls ≠ "java/lang/invoke/MethodHandle" ∧ y.cls ≠ "java/lang/invoke/VarHandle" ∧ (parseMethodDescriptor y.desc).map (fun d => d.parameters.length) = some n) (hR : rm.cells = 0 ∧ rm.slots = 0 ∧ rm.frames + 1 ≤ R.frames ∧ 8 + (maxL + 11) + rm.locals ≤ R.locals)
    (hP : va_P G.1 vwCl ws H) (hD : va_D A ws) (hS : va_S A s.heap H locs) (hA : ∀ q : Nat, s.heap.size ≤ q → A q) (is : List Nat) (hC : is.map (fun i => ws[i]?) = wc.map some) (hnd : va_nd is = true)
    (hn : As.length = n) (hsz : ls.size = nL) (hst : st0 = As.reverse ++ rest) (hrm : (rest.map fun v => v.category).sum ≤ 8) (hdg : decode cc pc = .ok (.invokestatic index, 3)) (hf : cells ≤ R.cells ∧ slots ≤ R.slots)
    (kk : ∀ (H1 : Heap) (locs1 : List Loc), va_P G.1 vwCl ws H1 → va_S A s.heap H1 locs1 → W p l e R s m args below meth c H1 locs1 cells slots Q (F0 m (pc + 3) ls (v.toList ++ rest))) :
    W p l e R s m args below meth c H locs cells slots Q (F0 m pc ls st0) := by
  subst hst
  exact g_back0 (v := v) (va_runSN (As := As) (rest := rest) ⟨hx, hb, hml, hown, hts⟩ (hM H.size) ⟨g_cn hts hc hi hl hR.1 hR.2.1 hd hR.2.2, hts _ hst9, trivial⟩
    ⟨cpre_blind, g_pre hK hP hD hC hnd⟩ rfl hn hsz rfl (lv_room hrm) hdg hf) hP hD hS hA hC kk
end GB
/-! pure programs: guards, branches, names, loops -/
noncomputable def gd {α : Type} (c : Prop) (k : Option α) : Option α := @ite _ c (Classical.propDecidable c) k none
noncomputable def br {α : Type} (c : Prop) (a b : Option α) : Option α := @ite _ c (Classical.propDecidable c) a b
def nm {α β : Type} (t : α) (k : α → Option β) : Option β := k t
theorem gd_some {α : Type} {c : Prop} {k : Option α} {x : α} (h : gd c k = some x) : c ∧ k = some x := by
  unfold gd at h
  by_cases hc : c
  · rw [if_pos hc] at h; exact ⟨hc, h⟩
  · rw [if_neg hc] at h; cases h
theorem br_y {α : Type} {c : Prop} {a b : Option α} {x : α} (hc : c) (h : br c a b = some x) : a = some x := by
  unfold br at h
  rwa [if_pos hc] at h
theorem br_n {α : Type} {c : Prop} {a b : Option α} {x : α} (hc : ¬ c) (h : br c a b = some x) : b = some x := by
  unfold br at h
  rwa [if_neg hc] at h
theorem nm_some {α β : Type} {t : α} {k : α → Option β} {x : β} (h : nm t k = some x) {y : α} (e : y = t) : k y = some x := by rw [e]; exact h
theorem bn_some {α β : Type} {t : Option α} {k : α → Option β} {x : β} (h : t.bind k = some x) : ∃ y, t = some y ∧ k y = some x := Option.bind_eq_some_iff.mp h
theorem gd_eq {α : Type} {c : Prop} {k : Option α} (h : c) : gd c k = k := if_pos h
theorem br_eq {α : Type} {c : Prop} {a b : Option α} (h : c) : br c a b = a := if_pos h
theorem br_ne {α : Type} {c : Prop} {a b : Option α} (h : ¬ c) : br c a b = b := if_neg h
theorem nm_eq {α β : Type} {t : α} {k : α → Option β} : nm t k = k t := rfl
theorem fz01 {x : Int32} (h : x = 0 ∨ x = 1) : fits .boolean (.int x) = true := by rcases h with h | h <;> (rw [h]; rfl)
theorem nfw_47 {G : GT} {s : State} (h : GK G s) {args : Array Value} : (Cond.fieldLinkNest RX6 9 "InPlaceDelta$Bytes" "count" "I" "InPlaceDelta").before args s = true := va_Nw.use rfl (h.2.1 _ nw_47)
theorem nfw_48 {G : GT} {s : State} (h : GK G s) {args : Array Value} : (Cond.fieldLinkNest RX9 46 "InPlaceDelta$Bytes" "count" "I" "InPlaceDelta").before args s = true := va_Nw.use rfl (h.2.1 _ nw_48)
theorem nfw_49 {G : GT} {s : State} (h : GK G s) {args : Array Value} : (Cond.fieldLinkNest RX10 64 "InPlaceDelta$Bytes" "count" "I" "InPlaceDelta").before args s = true := va_Nw.use rfl (h.2.1 _ nw_49)
theorem nfw_50 {G : GT} {s : State} (h : GK G s) {args : Array Value} : (Cond.fieldLinkNest RX1 46 "InPlaceDelta$Bytes" "count" "I" "InPlaceDelta").before args s = true := va_Nw.use rfl (h.2.1 _ nw_50)
theorem nfw_69 {G : GT} {s : State} (h : GK G s) {args : Array Value} : (Cond.fieldLinkNest RX3 48 "InPlaceDelta$Delta" "sourceLength" "I" "InPlaceDelta").before args s = true := va_Nw.use rfl (h.2.1 _ nw_69)
theorem nfw_70 {G : GT} {s : State} (h : GK G s) {args : Array Value} : (Cond.fieldLinkNest RX1 68 "InPlaceDelta$Delta" "sourceLength" "I" "InPlaceDelta").before args s = true := va_Nw.use rfl (h.2.1 _ nw_70)
theorem nfw_71 {G : GT} {s : State} (h : GK G s) {args : Array Value} : (Cond.fieldLinkNest RX10 126 "InPlaceDelta$Delta" "sourceLength" "I" "InPlaceDelta").before args s = true := va_Nw.use rfl (h.2.1 _ nw_71)
theorem nfw_73 {G : GT} {s : State} (h : GK G s) {args : Array Value} : (Cond.fieldLinkNest RX9 51 "InPlaceDelta$Delta" "targetLength" "I" "InPlaceDelta").before args s = true := va_Nw.use rfl (h.2.1 _ nw_73)
theorem nfw_74 {G : GT} {s : State} (h : GK G s) {args : Array Value} : (Cond.fieldLinkNest RX3 51 "InPlaceDelta$Delta" "targetLength" "I" "InPlaceDelta").before args s = true := va_Nw.use rfl (h.2.1 _ nw_74)
theorem nfw_75 {G : GT} {s : State} (h : GK G s) {args : Array Value} : (Cond.fieldLinkNest RX1 71 "InPlaceDelta$Delta" "targetLength" "I" "InPlaceDelta").before args s = true := va_Nw.use rfl (h.2.1 _ nw_75)
theorem nfw_78 {G : GT} {s : State} (h : GK G s) {args : Array Value} : (Cond.fieldLinkNest RX3 15 "InPlaceDelta$Delta" "count" "I" "InPlaceDelta").before args s = true := va_Nw.use rfl (h.2.1 _ nw_78)
theorem nfw_79 {G : GT} {s : State} (h : GK G s) {args : Array Value} : (Cond.fieldLinkNest RX5 21 "InPlaceDelta$Delta" "count" "I" "InPlaceDelta").before args s = true := va_Nw.use rfl (h.2.1 _ nw_79)
theorem nfw_80 {G : GT} {s : State} (h : GK G s) {args : Array Value} : (Cond.fieldLinkNest RX7 46 "InPlaceDelta$Delta" "count" "I" "InPlaceDelta").before args s = true := va_Nw.use rfl (h.2.1 _ nw_80)
theorem nfw_81 {G : GT} {s : State} (h : GK G s) {args : Array Value} : (Cond.fieldLinkNest RX10 104 "InPlaceDelta$Delta" "count" "I" "InPlaceDelta").before args s = true := va_Nw.use rfl (h.2.1 _ nw_81)
theorem nfw_82 {G : GT} {s : State} (h : GK G s) {args : Array Value} : (Cond.fieldLinkNest RX5 9 "InPlaceDelta$Delta" "copySet" "I" "InPlaceDelta").before args s = true := va_Nw.use rfl (h.2.1 _ nw_82)
theorem nfw_84 {G : GT} {s : State} (h : GK G s) {args : Array Value} : (Cond.fieldLinkNest RX7 55 "InPlaceDelta$Delta" "copySet" "I" "InPlaceDelta").before args s = true := va_Nw.use rfl (h.2.1 _ nw_84)
theorem nfw_116 {G : GT} {s : State} (h : GK G s) {args : Array Value} : (Cond.fieldLinkNest RX8 47 "InPlaceDelta$Plan" "there" "Z" "InPlaceDelta").before args s = true := va_Nw.use rfl (h.2.1 _ nw_116)
theorem nfw_118 {G : GT} {s : State} (h : GK G s) {args : Array Value} : (Cond.fieldLinkNest RX10 248 "InPlaceDelta$Plan" "there" "Z" "InPlaceDelta").before args s = true := va_Nw.use rfl (h.2.1 _ nw_118)
theorem nfw_120 {G : GT} {s : State} (h : GK G s) {args : Array Value} : (Cond.fieldLinkNest RX9 30 "InPlaceDelta$Plan" "count" "I" "InPlaceDelta").before args s = true := va_Nw.use rfl (h.2.1 _ nw_120)
theorem nfw_121 {G : GT} {s : State} (h : GK G s) {args : Array Value} : (Cond.fieldLinkNest RX3 54 "InPlaceDelta$Plan" "count" "I" "InPlaceDelta").before args s = true := va_Nw.use rfl (h.2.1 _ nw_121)
theorem nfw_123 {G : GT} {s : State} (h : GK G s) {args : Array Value} : (Cond.fieldLinkNest RX10 141 "InPlaceDelta$Plan" "convertedSet" "I" "InPlaceDelta").before args s = true := va_Nw.use rfl (h.2.1 _ nw_123)
theorem nfw_125 {G : GT} {s : State} (h : GK G s) {args : Array Value} : (Cond.fieldLinkNest RX10 154 "InPlaceDelta$Plan" "lostLength" "I" "InPlaceDelta").before args s = true := va_Nw.use rfl (h.2.1 _ nw_125)
theorem nfw_146 {G : GT} {s : State} (h : GK G s) {args : Array Value} : (Cond.fieldLinkNest RX10 211 "InPlaceDelta$Work" "bytes" "LInPlaceDelta$Bytes;" "InPlaceDelta").before args s = true := va_Nw.use rfl (h.2.1 _ nw_146)
theorem nfw_148 {G : GT} {s : State} (h : GK G s) {args : Array Value} : (Cond.fieldLinkNest RX8 51 "InPlaceDelta$Work" "there" "Z" "InPlaceDelta").before args s = true := va_Nw.use rfl (h.2.1 _ nw_148)
theorem nfw_149 {G : GT} {s : State} (h : GK G s) {args : Array Value} : (Cond.fieldLinkNest RX10 254 "InPlaceDelta$Work" "there" "Z" "InPlaceDelta").before args s = true := va_Nw.use rfl (h.2.1 _ nw_149)
theorem nfw_151 {G : GT} {s : State} (h : GK G s) {args : Array Value} : (Cond.fieldLinkNest RX10 200 "InPlaceDelta$Work" "left" "I" "InPlaceDelta").before args s = true := va_Nw.use rfl (h.2.1 _ nw_151)
theorem nfw_160 {G : GT} {s : State} (h : GK G s) {args : Array Value} : (Cond.fieldLinkNest RX9 39 "InPlaceDelta$State" "oldVersion" "LInPlaceDelta$Bytes;" "InPlaceDelta").before args s = true := va_Nw.use rfl (h.2.1 _ nw_160)
theorem nfw_161 {G : GT} {s : State} (h : GK G s) {args : Array Value} : (Cond.fieldLinkNest RX10 91 "InPlaceDelta$State" "oldVersion" "LInPlaceDelta$Bytes;" "InPlaceDelta").before args s = true := va_Nw.use rfl (h.2.1 _ nw_161)
theorem nfw_163 {G : GT} {s : State} (h : GK G s) {args : Array Value} : (Cond.fieldLinkNest RX10 95 "InPlaceDelta$State" "newVersion" "LInPlaceDelta$Bytes;" "InPlaceDelta").before args s = true := va_Nw.use rfl (h.2.1 _ nw_163)
theorem nfw_165 {G : GT} {s : State} (h : GK G s) {args : Array Value} : (Cond.fieldLinkNest RX3 9 "InPlaceDelta$State" "delta" "LInPlaceDelta$Delta;" "InPlaceDelta").before args s = true := va_Nw.use rfl (h.2.1 _ nw_165)
theorem nfw_166 {G : GT} {s : State} (h : GK G s) {args : Array Value} : (Cond.fieldLinkNest RX9 47 "InPlaceDelta$State" "delta" "LInPlaceDelta$Delta;" "InPlaceDelta").before args s = true := va_Nw.use rfl (h.2.1 _ nw_166)
theorem nfw_167 {G : GT} {s : State} (h : GK G s) {args : Array Value} : (Cond.fieldLinkNest RX10 87 "InPlaceDelta$State" "delta" "LInPlaceDelta$Delta;" "InPlaceDelta").before args s = true := va_Nw.use rfl (h.2.1 _ nw_167)
theorem nfw_169 {G : GT} {s : State} (h : GK G s) {args : Array Value} : (Cond.fieldLinkNest RX9 24 "InPlaceDelta$State" "plan" "LInPlaceDelta$Plan;" "InPlaceDelta").before args s = true := va_Nw.use rfl (h.2.1 _ nw_169)
theorem nfw_170 {G : GT} {s : State} (h : GK G s) {args : Array Value} : (Cond.fieldLinkNest RX3 21 "InPlaceDelta$State" "plan" "LInPlaceDelta$Plan;" "InPlaceDelta").before args s = true := va_Nw.use rfl (h.2.1 _ nw_170)
theorem nfw_171 {G : GT} {s : State} (h : GK G s) {args : Array Value} : (Cond.fieldLinkNest RX10 131 "InPlaceDelta$State" "plan" "LInPlaceDelta$Plan;" "InPlaceDelta").before args s = true := va_Nw.use rfl (h.2.1 _ nw_171)
theorem nfw_173 {G : GT} {s : State} (h : GK G s) {args : Array Value} : (Cond.fieldLinkNest RX3 35 "InPlaceDelta$State" "code" "LInPlaceDelta$Bytes;" "InPlaceDelta").before args s = true := va_Nw.use rfl (h.2.1 _ nw_173)
theorem nfw_174 {G : GT} {s : State} (h : GK G s) {args : Array Value} : (Cond.fieldLinkNest RX10 171 "InPlaceDelta$State" "code" "LInPlaceDelta$Bytes;" "InPlaceDelta").before args s = true := va_Nw.use rfl (h.2.1 _ nw_174)
theorem nfw_176 {G : GT} {s : State} (h : GK G s) {args : Array Value} : (Cond.fieldLinkNest RX10 191 "InPlaceDelta$State" "work" "LInPlaceDelta$Work;" "InPlaceDelta").before args s = true := va_Nw.use rfl (h.2.1 _ nw_176)
theorem nfw_202 {G : GT} {s : State} (h : GK G s) {args : Array Value} : (Cond.fieldLinkNest RX10 218 "InPlaceDelta$History" "count" "I" "InPlaceDelta").before args s = true := va_Nw.use rfl (h.2.1 _ nw_202)
theorem nfw_219 {G : GT} {s : State} (h : GK G s) {args : Array Value} : (Cond.fieldLinkNest RX10 186 "InPlaceDelta$Decoder" "delta" "LInPlaceDelta$Delta;" "InPlaceDelta").before args s = true := va_Nw.use rfl (h.2.1 _ nw_219)
theorem nmw_331 {G : GT} {s : State} (h : GK G s) : va_Nw (Cond.methodLinkNest RX2 40 yX10_isIn "InPlaceDelta") s := h.2.1 _ nw_331
theorem nmw_354 {G : GT} {s : State} (h : GK G s) : va_Nw (Cond.methodLinkNest RX2 80 yX10_overlap "InPlaceDelta") s := h.2.1 _ nw_354
theorem nmw_389 {G : GT} {s : State} (h : GK G s) : va_Nw (Cond.methodLinkNest RX5 43 yX10_without "InPlaceDelta") s := h.2.1 _ nw_389
theorem nmw_392 {G : GT} {s : State} (h : GK G s) : va_Nw (Cond.methodLinkNest RX5 24 yX10_isIn "InPlaceDelta") s := h.2.1 _ nw_392
theorem nmw_452 {G : GT} {s : State} (h : GK G s) : va_Nw (Cond.methodLinkNest RX0 46 yX10_mix "InPlaceDelta") s := h.2.1 _ nw_452
theorem nmw_460 {G : GT} {s : State} (h : GK G s) : va_Nw (Cond.methodLinkNest RX2 99 yX10_mix "InPlaceDelta") s := h.2.1 _ nw_460
theorem nmw_478 {G : GT} {s : State} (h : GK G s) : va_Nw (Cond.methodLinkNest RX7 94 yX10_mix "InPlaceDelta") s := h.2.1 _ nw_478
theorem nmw_491 {G : GT} {s : State} (h : GK G s) : va_Nw (Cond.methodLinkNest RX9 95 yX10_mix "InPlaceDelta") s := h.2.1 _ nw_491
theorem nmw_693 {G : GT} {s : State} (h : GK G s) : va_Nw (Cond.methodLinkNest RX7 31 yX10_isIn "InPlaceDelta") s := h.2.1 _ nw_693
theorem nmw_707 {G : GT} {s : State} (h : GK G s) : va_Nw (Cond.methodLinkNest RX7 69 yX10_without "InPlaceDelta") s := h.2.1 _ nw_707
