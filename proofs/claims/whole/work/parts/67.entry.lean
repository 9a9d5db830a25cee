/-! the law's entry: what is known there, and the way to the loop's head -/
theorem K_cl {s : State} {args : Array Value} (hts : ∀ w ∈ lw_g, w.before args s = true) : ∃ D : va_G, ∀ (c : Nat) (q : vw_C), vwCl[c]? = some q → u_Kn s q.1 q.2.1 q.2.2 (D.1 c) (D.2 c) := by
  have h : ∀ c : Nat, ∃ d : ClassId × (Nat → Nat), ∀ q : vw_C, vwCl[c]? = some q → u_Kn s q.1 q.2.1 q.2.2 d.1 d.2 := by
    intro c
    match c with
    | 0 =>
      obtain ⟨a, b, h⟩ := u_known hts inX0 (hts _ wd_37)
      exact ⟨(a, b), fun q hq => by have hq : some (RX0, TX0, 2) = some q := hq; cases hq; exact h⟩
    | 1 =>
      obtain ⟨a, b, h⟩ := u_known hts inX1 (hts _ wd_211)
      exact ⟨(a, b), fun q hq => by have hq : some (RX1, TX1, 4) = some q := hq; cases hq; exact h⟩
    | 2 =>
      obtain ⟨a, b, h⟩ := u_known hts inX2 (hts _ wd_58)
      exact ⟨(a, b), fun q hq => by have hq : some (RX2, TX2, 11) = some q := hq; cases hq; exact h⟩
    | 3 =>
      obtain ⟨a, b, h⟩ := u_known hts inX4 (hts _ wd_191)
      exact ⟨(a, b), fun q hq => by have hq : some (RX4, TX4, 3) = some q := hq; cases hq; exact h⟩
    | 4 =>
      obtain ⟨a, b, h⟩ := u_known hts inX7 (hts _ wd_110)
      exact ⟨(a, b), fun q hq => by have hq : some (RX7, TX7, 5) = some q := hq; cases hq; exact h⟩
    | 5 =>
      obtain ⟨a, b, h⟩ := u_known hts inX8 (hts _ wd_31)
      exact ⟨(a, b), fun q hq => by have hq : some (RX8, TX8, 6) = some q := hq; cases hq; exact h⟩
    | 6 =>
      obtain ⟨a, b, h⟩ := u_known hts inX9 (hts _ wd_138)
      exact ⟨(a, b), fun q hq => by have hq : some (RX9, TX9, 3) = some q := hq; cases hq; exact h⟩
    | 7 =>
      obtain ⟨a, b, h⟩ := u_known hts inX10 (hts _ wd_23)
      exact ⟨(a, b), fun q hq => by have hq : some (RX10, TX10, 3) = some q := hq; cases hq; exact h⟩
    | 8 =>
      obtain ⟨a, b, h⟩ := u_known hts inX11 (hts _ wd_875)
      exact ⟨(a, b), fun q hq => by have hq : some (RX11, TX11, 14) = some q := hq; cases hq; exact h⟩
    | c + 9 =>
      obtain ⟨a, b, h⟩ := u_known hts inX0 (hts _ wd_37)
      exact ⟨(a, b), fun q hq => by have hq : none = some q := hq; cases hq⟩
  obtain ⟨d, hd⟩ := Classical.axiomOfChoice h
  exact ⟨(fun c => (d c).1, fun c => (d c).2), fun c q hq => hd c q hq⟩
theorem K_arr {s : State} {args : Array Value} {ty : FieldType} (h : (Cond.arrayClass ty).before args s = true) : ∃ (cA : ClassId) (kA : Class) (comp : ClassId), s.vm.findClass ("[" ++ ty.toString) = some cA ∧ s.vm.classes[cA]? = some kA ∧ kA.kind = .array comp ty := by
  obtain ⟨cA, kA, comp, h1, h2, h3⟩ := Cond.arrayClass_spec h
  exact ⟨cA, kA, comp, h1, h2, h3⟩
def strOK (w : Cond) : Bool := match w with
  | .stringRef o k _ => decide (Cond.exactly (.string o k) "java/lang/String" ∈ flatC narrow_1)
  | _ => true
theorem strs_ok : ∀ w ∈ tables_1, strOK w = true := by decide +kernel
theorem tbl_of {w : Cond} (h : w ∈ tables_1) : w ∈ lw_tbl := List.mem_append_right _ h
theorem K_nc {s : State} {args : Array Value} (hf : ∀ w ∈ flatC narrow_1, w.before args s = true) : ∀ E nm : String, Cond.castable E nm ∈ ncW → va_Nc E nm s := by
  intro E nm h
  simp only [ncW, List.mem_cons, List.not_mem_nil, or_false, Cond.castable.injEq] at h
  rcases h with ⟨rfl, rfl⟩ | ⟨rfl, rfl⟩ | ⟨rfl, rfl⟩ | ⟨rfl, rfl⟩ | ⟨rfl, rfl⟩ | ⟨rfl, rfl⟩ <;> exact va_Nc.of (hf _ (by decide +kernel))
theorem K_str {s : State} {args : Array Value} (hts : ∀ w ∈ lw_tbl, w.before args s = true) (hf : ∀ w ∈ flatC narrow_1, w.before args s = true) : ∀ (k : Nat) (tx : String), Cond.stringRef RX10 k tx ∈ tables_1 → ∃ sa, vk_R RX10 k tx sa s := by
  intro k tx h
  have h1 : Cond.exactly (.string RX10 k) "java/lang/String" ∈ flatC narrow_1 := of_decide_eq_true (strs_ok _ h)
  obtain ⟨a, c, cA, kA, q1, -⟩ := Cond.exactly_spec (args := args) (first := s) (o := none) (s := s) (idx := []) (t := .string RX10 k) (cls := "java/lang/String") (hf _ h1)
  exact ⟨a, vk_R.of (hts _ (tbl_of h)) q1⟩
theorem GK_of {s : State} {args : Array Value} (hts : ∀ w ∈ lw_tbl, w.before args s = true) (hf : ∀ w ∈ flatC narrow_1, w.before args s = true) : ∃ G : GT, GK G s := by
  have htg : ∀ w ∈ lw_g, w.before args s = true := fun w hw => hts w (List.mem_filter.mp hw).1
  obtain ⟨D, hD⟩ := K_cl htg
  obtain ⟨cI, kI, oI, i1, i2, i3⟩ := K_arr (htg _ wd_56)
  obtain ⟨cZ, kZ, oZ, z1, z2, z3⟩ := K_arr (htg _ wd_923)
  obtain ⟨cJ, kJ, oJ, j1, j2, j3⟩ := K_arr (htg _ wd_1166)
  have hov : (Cond.arrayOver (.object "InPlaceDelta$State")).before args s = true := hts _ (tbl_of (List.mem_of_getElem? (i := 197) (by decide +kernel)))
  obtain ⟨oS, cS, kS, s1, s2, s3, s4, s5⟩ := Cond.arrayOver_spec hov
  refine ⟨(D, cI, cZ, cJ, cS), ⟨hD, fun k q hq => ?_⟩, fun w hw => ?_, K_str hts hf, K_nc hf⟩
  · match k with
    | 0 => have hq : some (cI, FieldType.int) = some q := hq; cases hq; exact ⟨fun n z => ⟨fun k h => (by cases h), kI, i2, oI, i3⟩, i1⟩
    | 1 => have hq : some (cZ, FieldType.boolean) = some q := hq; cases hq; exact ⟨fun n z => ⟨fun k h => (by cases h), kZ, z2, oZ, z3⟩, z1⟩
    | 2 => have hq : some (cJ, FieldType.long) = some q := hq; cases hq; exact ⟨fun n z => ⟨fun k h => (by cases h), kJ, j2, oJ, j3⟩, j1⟩
    | 3 => have hq : some (cS, FieldType.object "InPlaceDelta$State") = some q := hq; cases hq; exact ⟨fun n z => ⟨fun k h => (by cases h), kS, s3, oS, s4⟩, kS, oS, s3, s4, s1, s5⟩
    | k + 4 => have hq : none = some q := hq; cases hq
  · obtain ⟨h1, h2⟩ := nsW_ok w hw
    have h3 := hts w (tbl_of h2)
    rcases h1 with ⟨a, i, b, n, d, q, e⟩ | ⟨a, i, x, q, e⟩ | ⟨x, e⟩ | ⟨a, b, e⟩ <;> (subst e; exact va_Nw.of rfl h3)
/-- the same cells in another order -/
theorem vaP_perm {D : va_G} {cl : List vw_C} {w w' : va_W} {H : Heap} (h : w.Perm w') (hP : va_P D cl w H) : va_P D cl w' H := by
  intro k q hq
  obtain ⟨i, hi⟩ := List.getElem?_of_mem (h.mem_iff.mpr (List.mem_of_getElem? hq))
  exact hP i q hi
theorem vaD_perm {A : Nat → Prop} {w w' : va_W} (h : w.Perm w') (hD : va_D A w) : va_D A w' := by
  rw [vaD_iff] at hD ⊢
  exact ⟨((h.map Prod.fst).pairwise_iff (fun e => e.symm)).mp hD.1, fun q hq => hD.2 q ((h.map Prod.fst).mem_iff.mpr hq)⟩
theorem l_perm {a b c d : va_W} : (([] ++ (a ++ b) ++ c) ++ d).Perm (a ++ (c ++ (d ++ b))) := by
  rw [List.nil_append, List.append_assoc, List.append_assoc]
  refine List.Perm.append_left a ?_
  exact (List.perm_append_comm (l₁ := b) (l₂ := c ++ d)).trans (by rw [List.append_assoc])

/-! THE CLAIM OUT OF ONE WALK OF THE LAW'S BODY. Your part is whole_start (and what it stands on); all else here is the same for every law, but numbers. -/
def R_law : String := "InPlaceDeltaLaw"
def lw_P (b : Addr) (xs : List Int32) (args : Array Value) (s : State) : Prop := args = #[.ref b] ∧ s.IntsAt b xs ∧ xs.length ≤ 2048 ∧ (Jvm.Cond.and given_1 narrow_1).before args s = true
/-- what a walk over the start with the record d0 says of its end, said of the start itself -/
theorem lw_closed {s t : State} {o : Outcome} {d0 : Drawn} {L : List Loc} {k n : Nat} (hd0 : s.drawn.sameBut d0 lw_cs) (hv : ∃ v, o = .returned v) (hW : (s.setDrawn d0).WarmedH t.vm) (hs : (s.setDrawn d0).sameButNew ({ t with vm := s.vm } : State) L k n) : State.butDraws s t lw_cs (fun t1 => Framed s o t1 L k n) := by
  have h2 : t.drawn = d0 := congrArg State.drawn hs.1
  refine ⟨⟨hv, hW, State.sameButNew.setDrawn hs s.drawn⟩, ?_, by decide⟩
  rw [h2]
  exact hd0
def lw_Q (_ : Array Value) (s : State) (o : Outcome) (t : State) : Prop := o = .returned (some (.int 1)) ∧ State.butDraws s t lw_cs (fun t1 => Framed s o t1 [] 601024 7293034)
def lw_Z (below : List Frame) (a : Array Value) (s : State) : State → Prop := fun t => ∃ o, t.status = .running ∧ Ended t below o ∧ lw_Q a s o t
/-- the law's own end, with 1 on the stack, nothing written that was there before, its room as the claim has it; d0: the record of draws at this point (at the entry s.drawn: begin with 'refine W.base ?_' and 'have hd0 := Drawn.sameBut.refl s.drawn lw_cs') -/
theorem lw_ret {p : Program} {l : Launch} {e : Env} {s : State} {m : MethodId} {below : List Frame} {meth : Method} {c : Code} {b : Nat} {d0 : Drawn} (hd0 : s.drawn.sameBut d0 lw_cs) (hx : p.tables.exec = Jvm.exec) (hb : c.code = code) (hr : meth.sig.returnType = ret) (hlocks : meth.locks = false) {pc : Nat} {H : Heap} {ls : Array Slot} (hdg : decode code pc = .ok (.ireturn, 1)) : W p l e room_1 (s.setDrawn d0) m #[Value.ref b] below meth c H [] 601024 7293034 (lw_Z below #[Value.ref b] s) (F0 m pc ls [.int 1]) := by
  intro T hT X
  obtain ⟨fs, hret, hrun, hended, hW, hframe⟩ := X.leave (v := some (.int 1)) (hlocks := hlocks) (fun h => by rw [hr] at h; cases h)
  have hmeth' : T.vm.method? m = some meth := X.method'
  refine ⟨T.setFrames fs, ?_, .returned (some (.int 1)), hrun, hended, rfl, lw_closed hd0 ⟨_, rfl⟩ hW hframe⟩
  jvm_step X.here [X.here.top, hx, hb, hdg, hmeth', hr, ret, narrow_b1]
  (try refine ⟨rfl, ?_⟩); (try refine ⟨rfl, ?_⟩)
  first | (intro acts; rw [hret _ acts rfl rfl rfl]) | rw [hret _ _ rfl rfl rfl]
  exact Steps.refl _
/-- what holds at the law's entry: the machine, the code, the tables' words (any of lw_tbl by 'hts w (by decide +kernel)'), the script of L ints xs at the cell b, what the Statement gives of the start (any of its parts by flat_of_before) -/
def lw_At (p : Program) (s : State) (m : MethodId) (meth : Method) (c : Code) (b L : Nat) (xs : Nat → Int32) : Prop :=
  p.tables.exec = Jvm.exec ∧ c.code = code ∧ meth.sig.returnType = ret ∧ c.maxLocals = 9 ∧ s.vm.findClass R_law = some m.cls ∧ (∀ w ∈ lw_tbl, w.before #[Value.ref b] s = true) ∧ va_X b L xs s s.heap ∧ b < s.heap.size ∧ meth.locks = false ∧ (Jvm.Cond.and given_1 narrow_1).before #[Value.ref b] s = true
set_option maxHeartbeats 4000000 in
set_option maxRecDepth 100000 in
theorem blk_eq (G : GT) (q1 q2 q3 : Nat) (A0 A1 A2 a2 : Nat → Nat) : [(q1, .inr (7, [.ref (A0 0), .ref (A1 0), .ref (A2 0)]))] ++ (mkMo G q2 a2 ++ ([(q3, .inl (G.2.2.2.1, 1, .inr (.inl (fun _ => 0))))] ++ (cSt G A0 st0 ++ (mkHi G (A1 0) (fun k => A1 (k + 1)) ++ mkDc G (A2 0) (fun k => A2 (k + 1)))))) = (List.flatten [[(q1, .inr (7, [.ref (A0 0), .ref (A1 0), .ref (A2 0)]))], cMo G q2 (a2 0) (a2 1) (a2 2) (a2 3) (a2 4) (a2 5) (a2 6) (a2 7) mo0, [(q3, .inl (G.2.2.2.1, 1, .inr (.inl (fun _ => 0))))], [((A0 0), .inr (5, [.ref (A0 1), .ref (A0 3), .ref (A0 5), .ref (A0 12), .ref (A0 14), .ref (A0 16)]))], cBy G (A0 1) (A0 2) 64 st0.1, cBy G (A0 3) (A0 4) 64 st0.2.1, cDe G (A0 5) (A0 6) (A0 7) (A0 8) (A0 9) (A0 10) (A0 11) st0.2.2.1, cPl G (A0 12) (A0 13) st0.2.2.2.1, cBy G (A0 14) (A0 15) 200 st0.2.2.2.2.1, [((A0 16), .inr (6, [.ref (A0 17), .int st0.2.2.2.2.2.2.1, .int st0.2.2.2.2.2.2.2]))], cBy G (A0 17) (A0 18) 64 st0.2.2.2.2.2.1, cHist G (A1 0) (A1 1) (fun k => A1 (5 * k + 2)) (fun k => A1 (5 * k + 3)) (fun k => A1 (5 * k + 4)) (fun k => A1 (5 * k + 5)) hi0, [((A2 0), .inr (1, [.ref (A2 1), .int dc0.2.1, .int dc0.2.2.1, .int dc0.2.2.2]))], cDe G (A2 1) (A2 2) (A2 3) (A2 4) (A2 5) (A2 6) (A2 7) dc0.1]) := rfl
set_option maxHeartbeats 4000000 in
set_option maxRecDepth 100000 in
theorem whole_from {p : Program} {e : Env} {s : State} {m : MethodId} {below : List Frame} {meth : Method} {c : Code} (l : Launch) (hflags : l.flags = flags0) {b L : Nat} {xs : Nat → Int32} (C0 : lw_At p s m meth c b L xs) (hpure : kLp xs L 600 0 st0 hi0 dc0 mo0 (fun _ => 0) = some ()) : W p l e room_1 s m #[Value.ref b] below meth c s.heap [] 0 0 (lw_Z below #[Value.ref b] s) (entryFrame m ([Value.ref b] : List Value).toArray 9) := by
  obtain ⟨hx, hb, hr, hml, hown, htt, hX, hbl, hlocks, hgv⟩ := C0
  have hb : c.code = cL_law := hb
  have hown : s.vm.findClass RL = some m.cls := hown
  have hl0 : l.stackTraces = false := by unfold Launch.stackTraces; rw [hflags]; decide
  have hfl0 := flat_of_before _ hgv
  have hfl : ∀ w ∈ flatC narrow_1, w.before #[Value.ref b] s = true := fun w hw => hfl0 w (by show w ∈ flatC given_1 ++ flatC narrow_1; exact List.mem_append_right _ hw)
  obtain ⟨G, hK⟩ := GK_of htt hfl
  have hts : ∀ w ∈ lw_g, w.before #[Value.ref b] s = true := fun w hw => htt w (List.mem_filter.mp hw).1
  have hO : va_AO "InPlaceDelta$State" s := va_AO.of (htt _ (tbl_of (List.mem_of_getElem? (i := 197) (by decide +kernel))))
  generalize hAA : (fun q : Nat => s.heap.size ≤ q) = A
  have hA : ∀ q : Nat, s.heap.size ≤ q → A q := fun q h => by rw [← hAA]; exact h
  have hA2 : ∀ a : Nat, a < s.heap.size → ¬ A a := fun a h => by rw [← hAA]; exact Nat.not_le.mpr h
  have hbA : ¬ A b := hA2 b hbl
  have hZ : XZ A s s.heap := ⟨vx_Zqof (htt _ (tbl_of (List.mem_of_getElem? (i := 532) (by decide +kernel)))) (htt _ (tbl_of (by decide +kernel : Cond.initialized Bundle.tN ∈ tables_1))) (hfl _ (by decide +kernel)) hA2, vx_Zqof (htt _ (tbl_of (List.mem_of_getElem? (i := 534) (by decide +kernel)))) (htt _ (tbl_of (by decide +kernel : Cond.initialized Bundle.tN ∈ tables_1))) (hfl _ (by decide +kernel)) hA2⟩
  have hl : lv_has _ 9 [(0, .ref b)] := lv_entry [Value.ref b] (n := 9) (Nat.le_of_ble_eq_true rfl)
  rw [lg_entry_eq]
  generalize (lg_sl [Value.ref b] ++ List.replicate (9 - (lg_sl [Value.ref b]).length) Slot.unset).toArray = ls at hl ⊢
  have hP : va_P G.1 vwCl [] s.heap := fun k q h => by cases h
  have hD : va_D A [] := ⟨fun i j x y h => (by cases h), fun k q h => (by cases h)⟩
  have hS : va_S A s.heap s.heap [] := va_S.rf
  generalize hH : s.heap = H at hP ⊢
  have hS : va_S A s.heap H [] := by rw [← hH]; exact hS
  refine va_new (pc := 0) (ci := 7) (fs := [.null, .null, .null]) (C := RX10) (T := TX10) (N := 3) hx hb hts inX10 tyX10 tyX10_ok hown (hts _ wd_22) (hts _ wd_23) (hts _ wd_1) hK.1 hP hD hS hA rfl (by decide +kernel) (Nat.le_of_ble_eq_true rfl) (Nat.le_of_ble_eq_true rfl) dL_law_0 (fun q1 H hP hD hS => ?_)
  refine W.widen (k := 1) (n := 3) (Nat.le_of_ble_eq_true rfl) (Nat.le_of_ble_eq_true rfl) ?_
  refine lv_dup (pc := 3) hx hb dL_law_3 rfl ?_
  refine i_call (pc := 4) (w0 := []) (rest := [.ref q1]) hx hb hml hown hts hK hO (c_X10_init l G q1) wd_26 wd_1 wd_24 wd_25 rfl hd_X10_init ⟨(Nat.le_of_ble_eq_true rfl), (Nat.le_of_ble_eq_true rfl)⟩ hP hD hS hA rfl hl.1 rfl (Nat.le_of_ble_eq_true rfl) dL_law_4 ⟨(Nat.le_of_ble_eq_true rfl), (Nat.le_of_ble_eq_true rfl)⟩ (fun a1 H locs hP hD hS => ?_)
  refine W.widen (k := 106) (n := 3584) (Nat.le_of_ble_eq_true rfl) (Nat.le_of_ble_eq_true rfl) ?_
  refine lv_astore_n (pc := 7) (lv' := [(1, .ref q1), (0, .ref b)]) hx hb dL_law_7 rfl hl (by decide) rfl (fun ls hl => ?_)
  refine va_new (pc := 8) (ci := 8) (fs := [.null, .null, .int 0, .int 0, .null, .null, .int 0, .int 0, .int 0, .null, .null, .null, .int 0, .null]) (C := RX11) (T := TX11) (N := 14) hx hb hts inX11 tyX11 tyX11_ok hown (hts _ wd_874) (hts _ wd_875) (hts _ wd_10) hK.1 hP hD hS hA rfl (by decide +kernel) (Nat.le_of_ble_eq_true rfl) (Nat.le_of_ble_eq_true rfl) dL_law_8 (fun q2 H hP hD hS => ?_)
  refine W.widen (k := 107) (n := 3598) (Nat.le_of_ble_eq_true rfl) (Nat.le_of_ble_eq_true rfl) ?_
  refine lv_dup (pc := 11) hx hb dL_law_11 rfl ?_
  refine i_call (pc := 12) (w0 := [] ++ mkMa G q1 a1) (rest := [.ref q2]) hx hb hml hown hts hK hO (c_X11_init l G q2) wd_878 wd_10 wd_876 wd_877 rfl hd_X11_init ⟨(Nat.le_of_ble_eq_true rfl), (Nat.le_of_ble_eq_true rfl)⟩ hP hD hS hA rfl hl.1 rfl (Nat.le_of_ble_eq_true rfl) dL_law_12 ⟨(Nat.le_of_ble_eq_true rfl), (Nat.le_of_ble_eq_true rfl)⟩ (fun a2 H locs hP hD hS => ?_)
  refine W.widen (k := 115) (n := 11025) (Nat.le_of_ble_eq_true rfl) (Nat.le_of_ble_eq_true rfl) ?_
  refine lv_astore_n (pc := 15) (lv' := [(2, .ref q2), (1, .ref q1), (0, .ref b)]) hx hb dL_law_15 rfl hl (by decide) rfl (fun ls hl => ?_)
  refine lv_iconst (pc := 16) (v := (1 : Int32)) hx hb dL_law_16 (by decide) ?_
  refine i_newJ (pc := 17) (N' := 1) hx hb (hts _ wd_1166) hK hP hD hS hA (by decide) rfl (Nat.le_of_ble_eq_true rfl) (Nat.le_of_ble_eq_true rfl) (Nat.le_of_ble_eq_true rfl) dL_law_17 (fun q3 H hP hD hS => ?_)
  refine W.widen (k := 116) (n := 11026) (Nat.le_of_ble_eq_true rfl) (Nat.le_of_ble_eq_true rfl) ?_
  refine lv_astore_n (pc := 19) (lv' := [(3, .ref q3), (2, .ref q2), (1, .ref q1), (0, .ref b)]) hx hb dL_law_19 rfl hl (by decide) rfl (fun ls hl => ?_)
  refine lv_iconst (pc := 20) (v := (0 : Int32)) hx hb dL_law_20 (by decide) ?_
  refine lv_istore (pc := 21) (lv' := [(4, .int (0 : Int32)), (3, .ref q3), (2, .ref q2), (1, .ref q1), (0, .ref b)]) hx hb dL_law_21 hl (by decide) rfl (fun ls hl => ?_)
  have hP := vaP_perm (l_perm (a := [(q1, .inr (7, [.ref (a1 0), .ref (a1 1), .ref (a1 2)]))])) hP
  have hD := vaD_perm (l_perm (a := [(q1, .inr (7, [.ref (a1 0), .ref (a1 1), .ref (a1 2)]))])) hD
  generalize hA0 : (fun k => a1 (3 * k)) = A0 at hP hD
  generalize hA1 : (fun k => a1 (3 * k + 1)) = A1 at hP hD
  generalize hA2' : (fun k => a1 (3 * k + 2)) = A2 at hP hD
  have e0 : a1 0 = A0 0 := by rw [← hA0]
  have e1 : a1 1 = A1 0 := by rw [← hA1]
  have e2 : a1 2 = A2 0 := by rw [← hA2']
  rw [e0, e1, e2] at hP hD
  refine law_L hl0 hx hb hml hown hts hK hZ hA hX hbl hbA q1 q2 (a2 0) (a2 1) (a2 2) (a2 3) (a2 4) (a2 5) (a2 6) (a2 7) q3 A0 (A1 0) (A1 1) (fun k => A1 (5 * k + 2)) (fun k => A1 (5 * k + 3)) (fun k => A1 (5 * k + 4)) (fun k => A1 (5 * k + 5)) (A2 0) (A2 1) (A2 2) (A2 3) (A2 4) (A2 5) (A2 6) (A2 7) ?_ 600 0 st0 hi0 dc0 mo0 (fun _ => 0) 116 11026 hpure (Nat.le_of_ble_eq_true rfl) (Nat.le_of_ble_eq_true rfl) H locs ?_ ?_ hS ls (lv_sub hl [4, 3, 2, 1, 0] rfl)
  · intro H locs ls cw sw hcw hsw hS
    refine lv_iconst (pc := 1281) (v := (1 : Int32)) hx hb dL_law_1281 (by decide) ?_
    refine va_forget (fun q hq => ?_) ?_
    · have h9 := hS.2.2 q hq
      rw [← hAA] at h9
      exact h9
    refine W.widen (k := 601024) (n := 7293034) (by omega) (by omega) ?_
    exact lw_ret (d0 := s.drawn) (Drawn.sameBut.refl s.drawn lw_cs) hx hb hr hlocks dL_law_1282
  · rw [← blk_eq]; exact hP
  · rw [← blk_eq]; exact hD
