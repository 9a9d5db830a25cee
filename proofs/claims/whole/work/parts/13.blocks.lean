/-! worlds as blocks of cells -/
theorem vaD_iff {A : Nat → Prop} {ws : va_W} : va_D A ws ↔ (ws.map Prod.fst).Pairwise (fun a b => a ≠ b) ∧ ∀ a ∈ ws.map Prod.fst, A a := by
  constructor
  · intro h
    refine ⟨?_, ?_⟩
    · rw [List.pairwise_iff_getElem]
      intro i j hi hj hij he
      have hi' : i < ws.length := by simpa using hi
      have hj' : j < ws.length := by simpa using hj
      have := h.1 i j ws[i] ws[j] (List.getElem?_eq_getElem hi') (List.getElem?_eq_getElem hj') (by simpa using he)
      omega
    · intro a ha
      obtain ⟨q, hq, rfl⟩ := List.mem_map.mp ha
      obtain ⟨i, hi⟩ := List.getElem?_of_mem hq
      exact h.2 i q hi
  · intro h
    refine ⟨fun i j p q hi hj he => ?_, fun k q hk => h.2 _ (List.mem_map.mpr ⟨q, List.mem_of_getElem? hk, rfl⟩)⟩
    obtain ⟨hi', rfl⟩ := List.getElem?_eq_some_iff.mp hi
    obtain ⟨hj', rfl⟩ := List.getElem?_eq_some_iff.mp hj
    have hp := List.pairwise_iff_getElem.mp h.1
    rcases Nat.lt_trichotomy i j with hlt | heq | hgt
    · have z := hp i j (by simpa using hi') (by simpa using hj') hlt
      exact absurd he (by simpa using z)
    · exact heq
    · have z := hp j i (by simpa using hj') (by simpa using hi') hgt
      exact absurd he.symm (by simpa using z)
theorem vaD_cong {A : Nat → Prop} {ws ws' : va_W} (h : va_D A ws) (e : ws'.map Prod.fst = ws.map Prod.fst) : va_D A ws' := by
  rw [vaD_iff] at h ⊢
  rw [e]
  exact h
def bset : List va_W → List Nat → List va_W → List va_W
  | bs, i :: is, c :: cs => bset (bs.set i c) is cs
  | bs, _, _ => bs
theorem bset_get : ∀ (is : List Nat) (b1 bs : List va_W) (k : Nat) (q : va_W), is.length = b1.length → (bset bs is b1)[k]? = some q → (∃ j : Nat, is[j]? = some k ∧ b1[j]? = some q) ∨ (k ∉ is ∧ bs[k]? = some q)
  | [], b1, bs, k, q, _, h => Or.inr ⟨List.not_mem_nil, by unfold bset at h; exact h⟩
  | i :: is, [], bs, k, q, hl, h => by cases hl
  | i :: is, c :: cs, bs, k, q, hl, h => by
    have h : (bset (bs.set i c) is cs)[k]? = some q := h
    rcases bset_get is cs (bs.set i c) k q (Nat.succ.inj hl) h with ⟨j, h1, h2⟩ | ⟨h1, h2⟩
    · exact Or.inl ⟨j + 1, h1, h2⟩
    · by_cases hk : k = i
      · subst hk
        rw [List.getElem?_set] at h2
        simp only [if_true] at h2
        split at h2
        · exact Or.inl ⟨0, rfl, h2⟩
        · cases h2
      · rw [List.getElem?_set_ne (fun z => hk z.symm)] at h2
        exact Or.inr ⟨fun z => (List.mem_cons.mp z).elim hk h1, h2⟩
theorem bset_len : ∀ (is : List Nat) (b1 bs : List va_W), (bset bs is b1).length = bs.length
  | [], b1, bs => by unfold bset; rfl
  | i :: is, [], bs => by unfold bset; rfl
  | i :: is, c :: cs, bs => by
    show (bset (bs.set i c) is cs).length = bs.length
    rw [bset_len is cs (bs.set i c), List.length_set]
theorem blk_ok {A : Nat → Prop} {D : va_G} {cl : List vw_C} {bs bc b1 bs' : List va_W} {H H1 : Heap} (hP : va_P D cl bs.flatten H) (hD : va_D A bs.flatten) (is : List Nat) (hC : is.map (fun i => bs[i]?) = bc.map some) (hadr : b1.map (List.map Prod.fst) = bc.map (List.map Prod.fst)) (hset : bset bs is b1 = bs')
    (hk : ∀ q : Nat, q < H.size → ¬ va_A bc.flatten H.size q → H1[q]? = H[q]?) (hP1 : va_P D cl b1.flatten H1) : va_P D cl bs'.flatten H1 ∧ va_D A bs'.flatten := by
  subst hset
  have hl1 : is.length = bc.length := by have := congrArg List.length hC; simpa using this
  have hl2 : b1.length = bc.length := by have := congrArg List.length hadr; simpa using this
  have hl : is.length = b1.length := by rw [hl1, hl2]
  have at' : ∀ (k i : Nat), is[k]? = some i → ∃ b, bc[k]? = some b ∧ bs[i]? = some b := by
    intro k i hi
    have h1 : (is.map (fun i => bs[i]?))[k]? = some (bs[i]?) := by rw [List.getElem?_map, hi]; rfl
    rw [hC, List.getElem?_map] at h1
    cases hq : bc[k]? with
    | none => rw [hq] at h1; cases h1
    | some q => rw [hq] at h1; exact ⟨q, rfl, (Option.some.inj h1).symm⟩
  have hfst : (bset bs is b1).map (List.map Prod.fst) = bs.map (List.map Prod.fst) := by
    apply List.ext_getElem?
    intro k
    rw [List.getElem?_map, List.getElem?_map]
    cases hq : (bset bs is b1)[k]? with
    | none =>
      have : bs[k]? = none := by
        rw [List.getElem?_eq_none_iff] at hq ⊢
        rw [bset_len] at hq
        exact hq
      rw [this]
    | some q =>
      rcases bset_get is b1 bs k q hl hq with ⟨j, h1, h2⟩ | ⟨h1, h2⟩
      · obtain ⟨b, h3, h4⟩ := at' j k h1
        rw [h4]
        have h5 : (b1.map (List.map Prod.fst))[j]? = some (q.map Prod.fst) := by rw [List.getElem?_map, h2]; rfl
        rw [hadr, List.getElem?_map, h3] at h5
        exact h5.symm
      · rw [h2]
  have hD2 : va_D A (bset bs is b1).flatten := by
    refine vaD_cong hD ?_
    rw [List.map_flatten, List.map_flatten, hfst]
  refine ⟨?_, hD2⟩
  have hmem : ∀ q ∈ (bset bs is b1).flatten, va_at D cl q H1 := by
    intro q hq
    obtain ⟨b, hb, hqb⟩ := List.mem_flatten.mp hq
    obtain ⟨k, hk9⟩ := List.getElem?_of_mem hb
    rcases bset_get is b1 bs k b hl hk9 with ⟨j, h1, h2⟩ | ⟨h1, h2⟩
    · obtain ⟨i, hi⟩ := List.getElem?_of_mem (List.mem_flatten.mpr ⟨b, List.mem_of_getElem? h2, hqb⟩)
      exact hP1 i q hi
    · obtain ⟨i, hi⟩ := List.getElem?_of_mem (List.mem_flatten.mpr ⟨b, List.mem_of_getElem? h2, hqb⟩)
      have hat := hP i q hi
      refine hat.kept (hk q.1 hat.lt (fun z => ?_))
      rcases z with ⟨j, e, hj⟩ | z
      · obtain ⟨b2, hb2, hqb2⟩ := List.mem_flatten.mp (List.mem_of_getElem? hj)
        obtain ⟨j2, hj2⟩ := List.getElem?_of_mem hb2
        have hjl : j2 < is.length := by rw [hl1]; exact (List.getElem?_eq_some_iff.mp hj2).1
        obtain ⟨b3, h3, h4⟩ := at' j2 is[j2] (List.getElem?_eq_getElem hjl)
        rw [hj2] at h3
        cases h3
        have hne : k ≠ is[j2] := fun z => h1 (by rw [z]; exact List.getElem_mem hjl)
        have hpw := (vaD_iff.mp hD).1
        rw [List.map_flatten] at hpw
        have hpw2 := (List.pairwise_flatten.mp hpw).2
        rw [List.pairwise_iff_getElem] at hpw2
        obtain ⟨hkl, hke⟩ := List.getElem?_eq_some_iff.mp h2
        obtain ⟨hil, hie⟩ := List.getElem?_eq_some_iff.mp h4
        have m1 : q.1 ∈ b.map Prod.fst := List.mem_map.mpr ⟨q, hqb, rfl⟩
        have m2 : q.1 ∈ b2.map Prod.fst := List.mem_map.mpr ⟨(q.1, e), hqb2, rfl⟩
        rcases Nat.lt_or_gt_of_ne hne with hlt | hgt
        · refine hpw2 k is[j2] (by simpa using hkl) (by simpa using hil) hlt q.1 ?_ q.1 ?_ rfl
          · simpa [hke] using m1
          · simpa [hie] using m2
        · refine hpw2 is[j2] k (by simpa using hil) (by simpa using hkl) hgt q.1 ?_ q.1 ?_ rfl
          · simpa [hie] using m2
          · simpa [hke] using m1
      · have := hat.lt
        omega
  exact fun i q hi => hmem q (List.mem_of_getElem? hi)
section GBB
variable {p : Program} {l : Launch} {e : Env} {R : Room} {s : State} {m : MethodId} {args : Array Value} {below : List Frame} {meth : Method} {c : Code} {H : Heap} {locs : List Loc} {cells slots : Nat} {Q : State → Prop} {A : Nat → Prop} {G : GT} {cc : ByteArray} {pc : Nat} {ls : Array Slot} {bs bc b1 bs' : List va_W}
theorem blk_sub (is : List Nat) (hC : is.map (fun i => bs[i]?) = bc.map some) : ∀ q ∈ bc.flatten, q ∈ bs.flatten := by
  intro q hq
  obtain ⟨b, hb, hqb⟩ := List.mem_flatten.mp hq
  obtain ⟨k, hk⟩ := List.getElem?_of_mem hb
  have h1 : (is.map (fun i => bs[i]?))[k]? = some (some b) := by rw [hC, List.getElem?_map, hk]; rfl
  rw [List.getElem?_map] at h1
  cases hi : is[k]? with
  | none => rw [hi] at h1; cases h1
  | some i => rw [hi] at h1; exact List.mem_flatten.mpr ⟨b, List.mem_of_getElem? (Option.some.inj h1), hqb⟩
theorem blk_free (is : List Nat) (hD : va_D A bs.flatten) (hS : va_S A s.heap H locs) (hA : ∀ q : Nat, s.heap.size ≤ q → A q) (hC : is.map (fun i => bs[i]?) = bc.map some) : ∀ q, va_A bc.flatten H.size q → A q := by
  intro q h
  rcases h with ⟨k, e, h⟩ | h
  · exact (vaD_iff.mp hD).2 q (List.mem_map.mpr ⟨(q, e), blk_sub is hC _ (List.mem_of_getElem? h), rfl⟩)
  · exact hA q (Nat.le_trans hS.1 h)
theorem g_callVB {y : MethodName} {bytes : ByteArray} {maxL nL n index : Nat} {ret : Option FieldType} {rm : Room} {own C : String} {b : Nat} {As rest st0 : List Value} {v : Option Value} {q : vw_C} {fs : List Value}
    (hx : p.tables.exec = Jvm.exec) (hb : c.code = cc) (hml : c.maxLocals = nL) (hown : s.vm.findClass own = some m.cls) (hts : ∀ w ∈ lw_g, w.before args s = true) (hK : GK G s)
    (hM : Ct l y (Cond.code y bytes maxL ret :: lw_g) rm G (.ref b :: As) bc.flatten v b1.flatten)
    (hc : Cond.code y bytes maxL ret ∈ lw_g) (hi : Cond.initialized y.cls ∈ lw_g) (hl : Cond.methodLink own index y ∈ lw_g) (hin : Cond.instanceMethod y ∈ lw_g) (hse : Cond.selects C y y ∈ lw_g)
    (hd : y.cls ≠ "java/lang/invoke/MethodHandle" ∧ y.cls ≠ "java/lang/invoke/VarHandle" ∧ (parseMethodDescriptor y.desc).map (fun d => d.parameters.length) = some n) (hR : rm.cells = 0 ∧ rm.slots = 0 ∧ rm.frames + 1 ≤ R.frames ∧ 8 + (maxL + 11) + rm.locals ≤ R.locals)
    (hP : va_P G.1 vwCl bs.flatten H) (hD : va_D A bs.flatten) (hS : va_S A s.heap H locs) (hA : ∀ q : Nat, s.heap.size ≤ q → A q) (is : List Nat) (hC : is.map (fun i => bs[i]?) = bc.map some) (hDc : va_D (fun _ => True) bc.flatten) (hadr : b1.map (List.map Prod.fst) = bc.map (List.map Prod.fst)) (hset : bset bs is b1 = bs')
    (ci q0 : Nat) (hq : vwCl[ci]? = some q) (hqC : q.1 = C) (he : bs.flatten[q0]? = some (b, .inr (ci, fs)))
    (hn : As.length = n) (hsz : ls.size = nL) (hst : st0 = As.reverse ++ .ref b :: rest) (hrm : (rest.map fun v => v.category).sum ≤ 8) (hdg : decode cc pc = .ok (.invokevirtual index, 3)) (hf : cells ≤ R.cells ∧ slots ≤ R.slots)
    (kk : ∀ (H1 : Heap) (locs1 : List Loc), va_P G.1 vwCl bs'.flatten H1 → va_D A bs'.flatten → va_S A s.heap H1 locs1 → W p l e R s m args below meth c H1 locs1 cells slots Q (F0 m (pc + 3) ls (v.toList ++ rest))) :
    W p l e R s m args below meth c H locs cells slots Q (F0 m pc ls st0) := by
  subst hst
  have hPc : va_P G.1 vwCl bc.flatten H := by
    intro k q hq
    obtain ⟨i, hi⟩ := List.getElem?_of_mem (blk_sub is hC q (List.mem_of_getElem? hq))
    exact hP i q hi
  have hr := va_runV (l := l) (p := p) (e := e) (below := below) (meth := meth) (locs := locs) (cells := cells) (slots := slots) (As := As) (rest := rest) (g := F0 m pc ls (As.reverse ++ .ref b :: rest)) ⟨hx, hb, hml, hown, hts⟩ (hM H.size) ⟨g_cb hts hc hi hl hR.1 hR.2.1 hd hR.2.2, hts _ hin, hts _ hse⟩
    ⟨cpre_blind, by rw [← hqC]; exact va_recv hK.1 hP hq he, fun U hU hW => ⟨rfl, by rw [hU], by rw [hU]; exact hPc, hK.moved hW, hDc⟩⟩ rfl hn hsz rfl (lv_room hrm) hdg hf
  have hF := blk_free (bc := bc) is hD hS hA hC
  intro T hT X
  obtain ⟨v', st₀, t, T', L, h0, X', hL, e1, e2, ⟨hv, hP1, hz, hk⟩, st⟩ := hr T hT X
  cases hv
  rw [h0] at hz hk
  obtain ⟨hP2, hD2⟩ := blk_ok hP hD is hC hadr hset hk hP1
  obtain ⟨t2, a1, b1'⟩ := kk T'.heap (locs ++ L) (by rw [e1]; exact hP2) hD2
    ⟨Nat.le_trans hS.1 (by rw [e1]; exact hz), fun q h1 h2 => by rw [e1, hk q (Nat.lt_of_lt_of_le h1 hS.1) (fun z => h2 (hF q z))]; exact hS.2.1 q h1 h2, fun q hq => by
      rcases List.mem_append.mp hq with h | h
      · exact hS.2.2 q h
      · exact hF _ (hL q h)⟩ T' rfl X'
  exact ⟨t2, st t2 a1, b1'⟩
theorem g_callSB {y : MethodName} {bytes : ByteArray} {maxL nL n index : Nat} {ret : Option FieldType} {rm : Room} {own : String} {As rest st0 : List Value} {v : Option Value}
    (hx : p.tables.exec = Jvm.exec) (hb : c.code = cc) (hml : c.maxLocals = nL) (hown : s.vm.findClass own = some m.cls) (hts : ∀ w ∈ lw_g, w.before args s = true) (hK : GK G s)
    (hM : Ct l y (Cond.code y bytes maxL ret :: lw_g) rm G As bc.flatten v b1.flatten)
    (hc : Cond.code y bytes maxL ret ∈ lw_g) (hi : Cond.initialized y.cls ∈ lw_g) (hl : Cond.methodLink own index y ∈ lw_g) (hst9 : Cond.static y ∈ lw_g)
    (hd : y.cls ≠ "java/lang/invoke/MethodHandle" ∧ y.cls ≠ "java/lang/invoke/VarHandle" ∧ (parseMethodDescriptor y.desc).map (fun d => d.parameters.length) = some n) (hR : rm.cells = 0 ∧ rm.slots = 0 ∧ rm.frames + 1 ≤ R.frames ∧ 8 + (maxL + 11) + rm.locals ≤ R.locals)
    (hP : va_P G.1 vwCl bs.flatten H) (hD : va_D A bs.flatten) (hS : va_S A s.heap H locs) (hA : ∀ q : Nat, s.heap.size ≤ q → A q) (is : List Nat) (hC : is.map (fun i => bs[i]?) = bc.map some) (hDc : va_D (fun _ => True) bc.flatten) (hadr : b1.map (List.map Prod.fst) = bc.map (List.map Prod.fst)) (hset : bset bs is b1 = bs')
    (hn : As.length = n) (hsz : ls.size = nL) (hst : st0 = As.reverse ++ rest) (hrm : (rest.map fun v => v.category).sum ≤ 8) (hdg : decode cc pc = .ok (.invokestatic index, 3)) (hf : cells ≤ R.cells ∧ slots ≤ R.slots)
    (kk : ∀ (H1 : Heap) (locs1 : List Loc), va_P G.1 vwCl bs'.flatten H1 → va_D A bs'.flatten → va_S A s.heap H1 locs1 → W p l e R s m args below meth c H1 locs1 cells slots Q (F0 m (pc + 3) ls (v.toList ++ rest))) :
    W p l e R s m args below meth c H locs cells slots Q (F0 m pc ls st0) := by
  subst hst
  have hPc : va_P G.1 vwCl bc.flatten H := by
    intro k q hq
    obtain ⟨i, hi⟩ := List.getElem?_of_mem (blk_sub is hC q (List.mem_of_getElem? hq))
    exact hP i q hi
  have hr := va_runS (l := l) (p := p) (e := e) (below := below) (meth := meth) (locs := locs) (cells := cells) (slots := slots) (As := As) (rest := rest) (g := F0 m pc ls (As.reverse ++ rest)) ⟨hx, hb, hml, hown, hts⟩ (hM H.size) ⟨g_cb hts hc hi hl hR.1 hR.2.1 hd hR.2.2, hts _ hst9⟩
    ⟨cpre_blind, fun U hU hW => ⟨rfl, by rw [hU], by rw [hU]; exact hPc, hK.moved hW, hDc⟩⟩ rfl hn hsz rfl (lv_room hrm) hdg hf
  have hF := blk_free (bc := bc) is hD hS hA hC
  intro T hT X
  obtain ⟨v', st₀, t, T', L, h0, X', hL, e1, e2, ⟨hv, hP1, hz, hk⟩, st⟩ := hr T hT X
  cases hv
  rw [h0] at hz hk
  obtain ⟨hP2, hD2⟩ := blk_ok hP hD is hC hadr hset hk hP1
  obtain ⟨t2, a1, b1'⟩ := kk T'.heap (locs ++ L) (by rw [e1]; exact hP2) hD2
    ⟨Nat.le_trans hS.1 (by rw [e1]; exact hz), fun q h1 h2 => by rw [e1, hk q (Nat.lt_of_lt_of_le h1 hS.1) (fun z => h2 (hF q z))]; exact hS.2.1 q h1 h2, fun q hq => by
      rcases List.mem_append.mp hq with h | h
      · exact hS.2.2 q h
      · exact hF _ (hL q h)⟩ T' rfl X'
  exact ⟨t2, st t2 a1, b1'⟩
/-- blocks of a world whose cells are apart are apart -/
theorem blk_D (is : List Nat) (hn : va_nd is = true) (hD : va_D A bs.flatten) (hC : is.map (fun i => bs[i]?) = bc.map some) : va_D (fun _ => True) bc.flatten := by
  rw [vaD_iff] at hD ⊢
  refine ⟨?_, fun _ _ => trivial⟩
  have hpw := hD.1
  rw [List.map_flatten] at hpw ⊢
  rw [List.pairwise_flatten] at hpw ⊢
  have at' : ∀ (k : Nat) (b : va_W), bc[k]? = some b → ∃ i, is[k]? = some i ∧ bs[i]? = some b := by
    intro k b hk
    have h1 : (is.map (fun i => bs[i]?))[k]? = some (some b) := by rw [hC, List.getElem?_map, hk]; rfl
    rw [List.getElem?_map] at h1
    cases hi : is[k]? with
    | none => rw [hi] at h1; cases h1
    | some i => rw [hi] at h1; exact ⟨i, rfl, Option.some.inj h1⟩
  refine ⟨?_, ?_⟩
  · intro l hl
    obtain ⟨b, hb, rfl⟩ := List.mem_map.mp hl
    obtain ⟨k, hk⟩ := List.getElem?_of_mem hb
    obtain ⟨i, -, hi⟩ := at' k b hk
    exact hpw.1 _ (List.mem_map.mpr ⟨b, List.mem_of_getElem? hi, rfl⟩)
  · have hpw2 := List.pairwise_iff_getElem.mp hpw.2
    rw [List.pairwise_iff_getElem]
    intro j k hj hk hjk x hx y hy hxy
    have hj' : j < bc.length := by simpa using hj
    have hk' : k < bc.length := by simpa using hk
    obtain ⟨i1, h1, h2⟩ := at' j bc[j] (List.getElem?_eq_getElem hj')
    obtain ⟨i2, h3, h4⟩ := at' k bc[k] (List.getElem?_eq_getElem hk')
    have hne : i1 ≠ i2 := fun z => by
      subst z
      have := va_nd_inj is hn j k i1 h1 h3
      omega
    obtain ⟨g1, e1⟩ := List.getElem?_eq_some_iff.mp h2
    obtain ⟨g2, e2⟩ := List.getElem?_eq_some_iff.mp h4
    have hx' : x ∈ (bs[i1]).map Prod.fst := by rw [e1]; simpa using hx
    have hy' : y ∈ (bs[i2]).map Prod.fst := by rw [e2]; simpa using hy
    rcases Nat.lt_or_gt_of_ne hne with hlt | hgt
    · exact hpw2 i1 i2 (by simpa using g1) (by simpa using g2) hlt x (by simpa using hx') y (by simpa using hy') hxy
    · exact hpw2 i2 i1 (by simpa using g2) (by simpa using g1) hgt y (by simpa using hy') x (by simpa using hx') hxy.symm
end GBB
