theorem hd_X0_isFull : yX0_isFull.cls ≠ "java/lang/invoke/MethodHandle" ∧ yX0_isFull.cls ≠ "java/lang/invoke/VarHandle" ∧ (parseMethodDescriptor yX0_isFull.desc).map (fun d => d.parameters.length) = some 0 := by decide +kernel
abbrev rm_X0_isFull : Room := { frames := 0, cells := 0, slots := 0, locals := 0 }
noncomputable def f_X0_isFull (n0 : Nat) (w0 : TBytes) : Option Int32 :=
  br (w0.2 < (nI n0)) (some (0 : Int32)) (some (1 : Int32))
set_option maxHeartbeats 4000000 in
set_option maxRecDepth 100000 in
theorem c_X0_isFull (l : Launch) (G : GT) (hw0_0 hw0_1 : Nat) (n0 : Nat) (w0 : TBytes) {r : Int32} (hf : f_X0_isFull n0 w0 = some r) : Ct l yX0_isFull (Cond.code yX0_isFull cX0_isFull 1 (some .boolean) :: lw_g) rm_X0_isFull G [.ref hw0_0] [(hw0_0, .inr (0, [.ref hw0_1, .int w0.2])), (hw0_1, .inl (G.2.1, n0, .inl w0.1))] (some (.int r)) [(hw0_0, .inr (0, [.ref hw0_1, .int w0.2])), (hw0_1, .inl (G.2.1, n0, .inl w0.1))] := by
  refine Ct.ofW (cc := cX0_isFull) (maxL := 1) (ret := (some .boolean)) (own := RX0) (by decide) rfl rfl (Nat.le_of_ble_eq_true rfl) ?_
  intro p e s m args below meth c A hx hb hr hml hts hown hlocks hK hP hD hA hS ls hl
  have hl : lv_has ls 1 [(0, .ref hw0_0)] := hl
  generalize hQ : gMQ below G _ _ A args s = Q
  generalize hH : s.heap = H at hP ⊢
  have hS : va_S A s.heap H [] := by rw [← hH]; exact hS
  generalize ([] : List Loc) = locs at hS ⊢
  unfold f_X0_isFull at hf
  refine lv_aload_n (pc := 0) hx hb dX0_isFull_0 rfl (lv_at hl 0 rfl) ?_
  refine va_get (pc := 1) (D := G.1) (ci := 0) (v := .int w0.2) (C := RX0) (T := TX0) (N := 2) hx hb hts inX0 hown hK.1 hP 0 rfl rfl 1 (by decide) (hts _ wd_46) (fun _ h9 => h9) rfl dX0_isFull_1 ?_
  refine lv_aload_n (pc := 4) hx hb dX0_isFull_4 rfl (lv_at hl 0 rfl) ?_
  refine va_get (pc := 5) (D := G.1) (ci := 0) (v := .ref hw0_1) (C := RX0) (T := TX0) (N := 2) hx hb hts inX0 hown hK.1 hP 0 rfl rfl 0 (by decide) (hts _ wd_45) (fun _ h9 => h9) rfl dX0_isFull_5 ?_
  refine va_alen (pc := 8) (v := (nI n0)) hx hb hK.1 hP 1 0 rfl (ty := .int) rfl rfl dX0_isFull_8 ?_
  refine lv_icmp_lt (pc := 9) (tgt := 16) hx hb dX0_isFull_9 (by decide) (fun hc => ?_) (fun hc => ?_)
  · have hf := br_y hc hf
    refine lv_iconst (pc := 16) (v := (0 : Int32)) hx hb dX0_isFull_16 (by decide) ?_
    have hf := Option.some.inj hf; subst hf
    rw [← hQ]
    exact g_zret (v := (0 : Int32)) hx hb hr hlocks rfl hP hS dX0_isFull_17
  · have hf := br_n hc hf
    refine lv_iconst (pc := 12) (v := (1 : Int32)) hx hb dX0_isFull_12 (by decide) ?_
    refine lv_goto (pc := 13) (tgt := 17) hx hb dX0_isFull_13 (by decide) ?_
    have hf := Option.some.inj hf; subst hf
    rw [← hQ]
    exact g_zret (v := (1 : Int32)) hx hb hr hlocks rfl hP hS dX0_isFull_17
theorem hd_X0_has : yX0_has.cls ≠ "java/lang/invoke/MethodHandle" ∧ yX0_has.cls ≠ "java/lang/invoke/VarHandle" ∧ (parseMethodDescriptor yX0_has.desc).map (fun d => d.parameters.length) = some 1 := by decide +kernel
abbrev rm_X0_has : Room := { frames := 0, cells := 0, slots := 0, locals := 0 }
noncomputable def f_X0_has (n0 : Nat) (w0 : TBytes) (p1 : Int32) : Option Int32 :=
  br (p1 < 0) (some (0 : Int32)) (br (w0.2 ≤ p1) (some (0 : Int32)) (some (1 : Int32)))
set_option maxHeartbeats 4000000 in
set_option maxRecDepth 100000 in
theorem c_X0_has (l : Launch) (G : GT) (hw0_0 hw0_1 : Nat) (n0 : Nat) (w0 : TBytes) (p1 : Int32) {r : Int32} (hf : f_X0_has n0 w0 p1 = some r) : Ct l yX0_has (Cond.code yX0_has cX0_has 2 (some .boolean) :: lw_g) rm_X0_has G [.ref hw0_0, .int p1] [(hw0_0, .inr (0, [.ref hw0_1, .int w0.2])), (hw0_1, .inl (G.2.1, n0, .inl w0.1))] (some (.int r)) [(hw0_0, .inr (0, [.ref hw0_1, .int w0.2])), (hw0_1, .inl (G.2.1, n0, .inl w0.1))] := by
  refine Ct.ofW (cc := cX0_has) (maxL := 2) (ret := (some .boolean)) (own := RX0) (by decide) rfl rfl (Nat.le_of_ble_eq_true rfl) ?_
  intro p e s m args below meth c A hx hb hr hml hts hown hlocks hK hP hD hA hS ls hl
  have hl : lv_has ls 2 [(0, .ref hw0_0), (1, .int p1)] := hl
  generalize hQ : gMQ below G _ _ A args s = Q
  generalize hH : s.heap = H at hP ⊢
  have hS : va_S A s.heap H [] := by rw [← hH]; exact hS
  generalize ([] : List Loc) = locs at hS ⊢
  unfold f_X0_has at hf
  refine lv_iload_n (pc := 0) hx hb dX0_has_0 rfl (lv_at hl 1 rfl) ?_
  refine lv_if_lt (pc := 1) (tgt := 16) hx hb dX0_has_1 (by decide) (fun hc => ?_) (fun hc => ?_)
  · have hf := br_y hc hf
    refine lv_iconst (pc := 16) (v := (0 : Int32)) hx hb dX0_has_16 (by decide) ?_
    have hf := Option.some.inj hf; subst hf
    rw [← hQ]
    exact g_zret (v := (0 : Int32)) hx hb hr hlocks rfl hP hS dX0_has_17
  · have hf := br_n hc hf
    refine lv_iload_n (pc := 4) hx hb dX0_has_4 rfl (lv_at hl 1 rfl) ?_
    refine lv_aload_n (pc := 5) hx hb dX0_has_5 rfl (lv_at hl 0 rfl) ?_
    refine va_get (pc := 6) (D := G.1) (ci := 0) (v := .int w0.2) (C := RX0) (T := TX0) (N := 2) hx hb hts inX0 hown hK.1 hP 0 rfl rfl 1 (by decide) (hts _ wd_46) (fun _ h9 => h9) rfl dX0_has_6 ?_
    refine lv_icmp_ge (pc := 9) (tgt := 16) hx hb dX0_has_9 (by decide) (fun hc => ?_) (fun hc => ?_)
    · have hf := br_y hc hf
      refine lv_iconst (pc := 16) (v := (0 : Int32)) hx hb dX0_has_16 (by decide) ?_
      have hf := Option.some.inj hf; subst hf
      rw [← hQ]
      exact g_zret (v := (0 : Int32)) hx hb hr hlocks rfl hP hS dX0_has_17
    · have hf := br_n hc hf
      refine lv_iconst (pc := 12) (v := (1 : Int32)) hx hb dX0_has_12 (by decide) ?_
      refine lv_goto (pc := 13) (tgt := 17) hx hb dX0_has_13 (by decide) ?_
      have hf := Option.some.inj hf; subst hf
      rw [← hQ]
      exact g_zret (v := (1 : Int32)) hx hb hr hlocks rfl hP hS dX0_has_17
theorem hd_X0_at : yX0_at.cls ≠ "java/lang/invoke/MethodHandle" ∧ yX0_at.cls ≠ "java/lang/invoke/VarHandle" ∧ (parseMethodDescriptor yX0_at.desc).map (fun d => d.parameters.length) = some 1 := by decide +kernel
abbrev rm_X0_at : Room := { frames := 1, cells := 0, slots := 0, locals := 21 }
noncomputable def f_X0_at (n0 : Nat) (w0 : TBytes) (p1 : Int32) : Option Int32 :=
  (f_X0_has n0 w0 p1).bind (fun x1 => br (x1 = 0) (some (-1 : Int32)) (gd (vp_in p1 n0) (some (w0.1 p1.toNatClampNeg))))
set_option maxHeartbeats 4000000 in
set_option maxRecDepth 100000 in
theorem c_X0_at (l : Launch) (G : GT) (hw0_0 hw0_1 : Nat) (n0 : Nat) (w0 : TBytes) (p1 : Int32) {r : Int32} (hf : f_X0_at n0 w0 p1 = some r) : Ct l yX0_at (Cond.code yX0_at cX0_at 2 (some .int) :: lw_g) rm_X0_at G [.ref hw0_0, .int p1] [(hw0_0, .inr (0, [.ref hw0_1, .int w0.2])), (hw0_1, .inl (G.2.1, n0, .inl w0.1))] (some (.int r)) [(hw0_0, .inr (0, [.ref hw0_1, .int w0.2])), (hw0_1, .inl (G.2.1, n0, .inl w0.1))] := by
  refine Ct.ofW (cc := cX0_at) (maxL := 2) (ret := (some .int)) (own := RX0) (by decide) rfl rfl (Nat.le_of_ble_eq_true rfl) ?_
  intro p e s m args below meth c A hx hb hr hml hts hown hlocks hK hP hD hA hS ls hl
  have hl : lv_has ls 2 [(0, .ref hw0_0), (1, .int p1)] := hl
  generalize hQ : gMQ below G _ _ A args s = Q
  generalize hH : s.heap = H at hP ⊢
  have hS : va_S A s.heap H [] := by rw [← hH]; exact hS
  generalize ([] : List Loc) = locs at hS ⊢
  unfold f_X0_at at hf
  refine lv_aload_n (pc := 0) hx hb dX0_at_0 rfl (lv_at hl 0 rfl) ?_
  refine lv_iload_n (pc := 1) hx hb dX0_at_1 rfl (lv_at hl 1 rfl) ?_
  obtain ⟨x1, hcx1, hf⟩ := bn_some hf
  refine g_callV0 (pc := 2) (rest := []) hx hb hml hown hts hK (c_X0_has l G hw0_0 hw0_1 n0 w0 p1 hcx1) wd_315 wd_3 wd_312 wd_313 wd_314 hd_X0_has ⟨rfl, rfl, Nat.le_of_ble_eq_true rfl, Nat.le_of_ble_eq_true rfl⟩ hP hD hS hA [0, 1] rfl rfl 0 0 rfl rfl rfl rfl hl.1 rfl (Nat.le_of_ble_eq_true rfl) dX0_at_2 ⟨Nat.zero_le _, Nat.zero_le _⟩ (fun H locs hP hS => ?_)
  refine lv_if_eq (pc := 5) (tgt := 17) hx hb dX0_at_5 (by decide) (fun hc => ?_) (fun hc => ?_)
  · have hf := br_y hc hf
    refine lv_iconst (pc := 17) (v := (-1 : Int32)) hx hb dX0_at_17 (by decide) ?_
    have hf := Option.some.inj hf; subst hf
    rw [← hQ]
    exact g_iret hx hb hr hlocks hP hS dX0_at_18
  · have hf := br_n hc hf
    refine lv_aload_n (pc := 8) hx hb dX0_at_8 rfl (lv_at hl 0 rfl) ?_
    refine va_get (pc := 9) (D := G.1) (ci := 0) (v := .ref hw0_1) (C := RX0) (T := TX0) (N := 2) hx hb hts inX0 hown hK.1 hP 0 rfl rfl 0 (by decide) (hts _ wd_45) (fun _ h9 => h9) rfl dX0_at_9 ?_
    refine lv_iload_n (pc := 12) hx hb dX0_at_12 rfl (lv_at hl 1 rfl) ?_
    obtain ⟨hg, hf⟩ := gd_some hf
    refine va_iald (pc := 13) hx hb hK.1 hP 1 0 rfl rfl hg dX0_at_13 ?_
    refine lv_goto (pc := 14) (tgt := 18) hx hb dX0_at_14 (by decide) ?_
    have hf := Option.some.inj hf; subst hf
    rw [← hQ]
    exact g_iret hx hb hr hlocks hP hS dX0_at_18
theorem hd_X0_atOrLength : yX0_atOrLength.cls ≠ "java/lang/invoke/MethodHandle" ∧ yX0_atOrLength.cls ≠ "java/lang/invoke/VarHandle" ∧ (parseMethodDescriptor yX0_atOrLength.desc).map (fun d => d.parameters.length) = some 1 := by decide +kernel
abbrev rm_X0_atOrLength : Room := { frames := 2, cells := 0, slots := 0, locals := 42 }
noncomputable def f_X0_atOrLength (n0 : Nat) (w0 : TBytes) (p1 : Int32) : Option Int32 :=
  br (p1 = (-1 : Int32)) (some w0.2) ((f_X0_at n0 w0 p1).bind (fun x1 => some x1))
set_option maxHeartbeats 4000000 in
set_option maxRecDepth 100000 in
theorem c_X0_atOrLength (l : Launch) (G : GT) (hw0_0 hw0_1 : Nat) (n0 : Nat) (w0 : TBytes) (p1 : Int32) {r : Int32} (hf : f_X0_atOrLength n0 w0 p1 = some r) : Ct l yX0_atOrLength (Cond.code yX0_atOrLength cX0_atOrLength 2 (some .int) :: lw_g) rm_X0_atOrLength G [.ref hw0_0, .int p1] [(hw0_0, .inr (0, [.ref hw0_1, .int w0.2])), (hw0_1, .inl (G.2.1, n0, .inl w0.1))] (some (.int r)) [(hw0_0, .inr (0, [.ref hw0_1, .int w0.2])), (hw0_1, .inl (G.2.1, n0, .inl w0.1))] := by
  refine Ct.ofW (cc := cX0_atOrLength) (maxL := 2) (ret := (some .int)) (own := RX0) (by decide) rfl rfl (Nat.le_of_ble_eq_true rfl) ?_
  intro p e s m args below meth c A hx hb hr hml hts hown hlocks hK hP hD hA hS ls hl
  have hl : lv_has ls 2 [(0, .ref hw0_0), (1, .int p1)] := hl
  generalize hQ : gMQ below G _ _ A args s = Q
  generalize hH : s.heap = H at hP ⊢
  have hS : va_S A s.heap H [] := by rw [← hH]; exact hS
  generalize ([] : List Loc) = locs at hS ⊢
  unfold f_X0_atOrLength at hf
  refine lv_iload_n (pc := 0) hx hb dX0_atOrLength_0 rfl (lv_at hl 1 rfl) ?_
  refine lv_iconst (pc := 1) (v := (-1 : Int32)) hx hb dX0_atOrLength_1 (by decide) ?_
  refine lv_icmp_ne (pc := 2) (tgt := 12) hx hb dX0_atOrLength_2 (by decide) (fun hc => ?_) (fun hc => ?_)
  · have hf := br_n hc hf
    refine lv_aload_n (pc := 12) hx hb dX0_atOrLength_12 rfl (lv_at hl 0 rfl) ?_
    refine lv_iload_n (pc := 13) hx hb dX0_atOrLength_13 rfl (lv_at hl 1 rfl) ?_
    obtain ⟨x1, hcx1, hf⟩ := bn_some hf
    refine g_callV0 (pc := 14) (rest := []) hx hb hml hown hts hK (c_X0_at l G hw0_0 hw0_1 n0 w0 p1 hcx1) wd_311 wd_3 wd_308 wd_309 wd_310 hd_X0_at ⟨rfl, rfl, Nat.le_of_ble_eq_true rfl, Nat.le_of_ble_eq_true rfl⟩ hP hD hS hA [0, 1] rfl rfl 0 0 rfl rfl rfl rfl hl.1 rfl (Nat.le_of_ble_eq_true rfl) dX0_atOrLength_14 ⟨Nat.zero_le _, Nat.zero_le _⟩ (fun H locs hP hS => ?_)
    have hf := Option.some.inj hf; subst hf
    rw [← hQ]
    exact g_iret hx hb hr hlocks hP hS dX0_atOrLength_17
  · have hf := br_y hc hf
    refine lv_aload_n (pc := 5) hx hb dX0_atOrLength_5 rfl (lv_at hl 0 rfl) ?_
    refine va_get (pc := 6) (D := G.1) (ci := 0) (v := .int w0.2) (C := RX0) (T := TX0) (N := 2) hx hb hts inX0 hown hK.1 hP 0 rfl rfl 1 (by decide) (hts _ wd_46) (fun _ h9 => h9) rfl dX0_atOrLength_6 ?_
    refine lv_goto (pc := 9) (tgt := 17) hx hb dX0_atOrLength_9 (by decide) ?_
    have hf := Option.some.inj hf; subst hf
    rw [← hQ]
    exact g_iret hx hb hr hlocks hP hS dX0_atOrLength_17
theorem hd_X0_put : yX0_put.cls ≠ "java/lang/invoke/MethodHandle" ∧ yX0_put.cls ≠ "java/lang/invoke/VarHandle" ∧ (parseMethodDescriptor yX0_put.desc).map (fun d => d.parameters.length) = some 2 := by decide +kernel
abbrev rm_X0_put : Room := { frames := 1, cells := 0, slots := 0, locals := 21 }
noncomputable def f_X0_put (n0 : Nat) (w0 : TBytes) (p1 : Int32) (p2 : Int32) : Option TBytes :=
  (f_X0_has n0 w0 p1).bind (fun x1 => br (x1 = 0) (some w0) (gd (vp_in p1 n0) (some ((upd w0.1 p1.toNatClampNeg p2), w0.2))))
set_option maxHeartbeats 4000000 in
set_option maxRecDepth 100000 in
theorem c_X0_put (l : Launch) (G : GT) (hw0_0 hw0_1 : Nat) (n0 : Nat) (w0 : TBytes) (p1 : Int32) (p2 : Int32) {r : TBytes} (hf : f_X0_put n0 w0 p1 p2 = some r) : Ct l yX0_put (Cond.code yX0_put cX0_put 3 none :: lw_g) rm_X0_put G [.ref hw0_0, .int p1, .int p2] [(hw0_0, .inr (0, [.ref hw0_1, .int w0.2])), (hw0_1, .inl (G.2.1, n0, .inl w0.1))] none [(hw0_0, .inr (0, [.ref hw0_1, .int r.2])), (hw0_1, .inl (G.2.1, n0, .inl r.1))] := by
  refine Ct.ofW (cc := cX0_put) (maxL := 3) (ret := none) (own := RX0) (by decide) rfl rfl (Nat.le_of_ble_eq_true rfl) ?_
  intro p e s m args below meth c A hx hb hr hml hts hown hlocks hK hP hD hA hS ls hl
  have hl : lv_has ls 3 [(0, .ref hw0_0), (1, .int p1), (2, .int p2)] := hl
  generalize hQ : gMQ below G _ _ A args s = Q
  generalize hH : s.heap = H at hP ⊢
  have hS : va_S A s.heap H [] := by rw [← hH]; exact hS
  generalize ([] : List Loc) = locs at hS ⊢
  unfold f_X0_put at hf
  refine lv_aload_n (pc := 0) hx hb dX0_put_0 rfl (lv_at hl 0 rfl) ?_
  refine lv_iload_n (pc := 1) hx hb dX0_put_1 rfl (lv_at hl 1 rfl) ?_
  obtain ⟨x1, hcx1, hf⟩ := bn_some hf
  refine g_callV0 (pc := 2) (rest := []) hx hb hml hown hts hK (c_X0_has l G hw0_0 hw0_1 n0 w0 p1 hcx1) wd_315 wd_3 wd_312 wd_313 wd_314 hd_X0_has ⟨rfl, rfl, Nat.le_of_ble_eq_true rfl, Nat.le_of_ble_eq_true rfl⟩ hP hD hS hA [0, 1] rfl rfl 0 0 rfl rfl rfl rfl hl.1 rfl (Nat.le_of_ble_eq_true rfl) dX0_put_2 ⟨Nat.zero_le _, Nat.zero_le _⟩ (fun H locs hP hS => ?_)
  refine lv_if_eq (pc := 5) (tgt := 15) hx hb dX0_put_5 (by decide) (fun hc => ?_) (fun hc => ?_)
  · have hf := br_y hc hf
    have hf := Option.some.inj hf; subst hf
    rw [← hQ]
    exact g_vret hx hb hr hlocks hP hS dX0_put_15
  · have hf := br_n hc hf
    refine lv_aload_n (pc := 8) hx hb dX0_put_8 rfl (lv_at hl 0 rfl) ?_
    refine va_get (pc := 9) (D := G.1) (ci := 0) (v := .ref hw0_1) (C := RX0) (T := TX0) (N := 2) hx hb hts inX0 hown hK.1 hP 0 rfl rfl 0 (by decide) (hts _ wd_45) (fun _ h9 => h9) rfl dX0_put_9 ?_
    refine lv_iload_n (pc := 12) hx hb dX0_put_12 rfl (lv_at hl 1 rfl) ?_
    refine lv_iload_n (pc := 13) hx hb dX0_put_13 rfl (lv_at hl 2 rfl) ?_
    obtain ⟨hg, hf⟩ := gd_some hf
    refine va_iast (pc := 14) hx hb hK.1 hP hD hS 1 0 rfl rfl hg dX0_put_14 (fun H locs hP hD hS => ?_)
    have hP : va_P G.1 vwCl [(hw0_0, .inr (0, [.ref hw0_1, .int w0.2])), (hw0_1, .inl (G.2.1, n0, .inl (upd w0.1 p1.toNatClampNeg p2)))] H := hP
    have hD : va_D A [(hw0_0, .inr (0, [.ref hw0_1, .int w0.2])), (hw0_1, .inl (G.2.1, n0, .inl (upd w0.1 p1.toNatClampNeg p2)))] := hD
    have hf := Option.some.inj hf; subst hf
    rw [← hQ]
    exact g_vret hx hb hr hlocks hP hS dX0_put_15
theorem hd_X0_push : yX0_push.cls ≠ "java/lang/invoke/MethodHandle" ∧ yX0_push.cls ≠ "java/lang/invoke/VarHandle" ∧ (parseMethodDescriptor yX0_push.desc).map (fun d => d.parameters.length) = some 1 := by decide +kernel
abbrev rm_X0_push : Room := { frames := 1, cells := 0, slots := 0, locals := 20 }
noncomputable def f_X0_push (n0 : Nat) (w0 : TBytes) (p1 : Int32) : Option TBytes :=
  (f_X0_isFull n0 w0).bind (fun x1 => br (x1 = 0) (gd (vp_in w0.2 n0) (some ((upd w0.1 w0.2.toNatClampNeg p1), (w0.2 + (1 : Int32))))) (some w0))
set_option maxHeartbeats 4000000 in
set_option maxRecDepth 100000 in
theorem c_X0_push (l : Launch) (G : GT) (hw0_0 hw0_1 : Nat) (n0 : Nat) (w0 : TBytes) (p1 : Int32) {r : TBytes} (hf : f_X0_push n0 w0 p1 = some r) : Ct l yX0_push (Cond.code yX0_push cX0_push 2 none :: lw_g) rm_X0_push G [.ref hw0_0, .int p1] [(hw0_0, .inr (0, [.ref hw0_1, .int w0.2])), (hw0_1, .inl (G.2.1, n0, .inl w0.1))] none [(hw0_0, .inr (0, [.ref hw0_1, .int r.2])), (hw0_1, .inl (G.2.1, n0, .inl r.1))] := by
  refine Ct.ofW (cc := cX0_push) (maxL := 2) (ret := none) (own := RX0) (by decide) rfl rfl (Nat.le_of_ble_eq_true rfl) ?_
  intro p e s m args below meth c A hx hb hr hml hts hown hlocks hK hP hD hA hS ls hl
  have hl : lv_has ls 2 [(0, .ref hw0_0), (1, .int p1)] := hl
  generalize hQ : gMQ below G _ _ A args s = Q
  generalize hH : s.heap = H at hP ⊢
  have hS : va_S A s.heap H [] := by rw [← hH]; exact hS
  generalize ([] : List Loc) = locs at hS ⊢
  unfold f_X0_push at hf
  refine lv_aload_n (pc := 0) hx hb dX0_push_0 rfl (lv_at hl 0 rfl) ?_
  obtain ⟨x1, hcx1, hf⟩ := bn_some hf
  refine g_callV0 (pc := 1) (rest := []) hx hb hml hown hts hK (c_X0_isFull l G hw0_0 hw0_1 n0 w0 hcx1) wd_584 wd_3 wd_605 wd_582 wd_583 hd_X0_isFull ⟨rfl, rfl, Nat.le_of_ble_eq_true rfl, Nat.le_of_ble_eq_true rfl⟩ hP hD hS hA [0, 1] rfl rfl 0 0 rfl rfl rfl rfl hl.1 rfl (Nat.le_of_ble_eq_true rfl) dX0_push_1 ⟨Nat.zero_le _, Nat.zero_le _⟩ (fun H locs hP hS => ?_)
  refine lv_if_ne (pc := 4) (tgt := 27) hx hb dX0_push_4 (by decide) (fun hc => ?_) (fun hc => ?_)
  · have hf := br_n hc hf
    have hf := Option.some.inj hf; subst hf
    rw [← hQ]
    exact g_vret hx hb hr hlocks hP hS dX0_push_27
  · have hf := br_y hc hf
    refine lv_aload_n (pc := 7) hx hb dX0_push_7 rfl (lv_at hl 0 rfl) ?_
    refine va_get (pc := 8) (D := G.1) (ci := 0) (v := .ref hw0_1) (C := RX0) (T := TX0) (N := 2) hx hb hts inX0 hown hK.1 hP 0 rfl rfl 0 (by decide) (hts _ wd_45) (fun _ h9 => h9) rfl dX0_push_8 ?_
    refine lv_aload_n (pc := 11) hx hb dX0_push_11 rfl (lv_at hl 0 rfl) ?_
    refine va_get (pc := 12) (D := G.1) (ci := 0) (v := .int w0.2) (C := RX0) (T := TX0) (N := 2) hx hb hts inX0 hown hK.1 hP 0 rfl rfl 1 (by decide) (hts _ wd_46) (fun _ h9 => h9) rfl dX0_push_12 ?_
    refine lv_iload_n (pc := 15) hx hb dX0_push_15 rfl (lv_at hl 1 rfl) ?_
    obtain ⟨hg, hf⟩ := gd_some hf
    refine va_iast (pc := 16) hx hb hK.1 hP hD hS 1 0 rfl rfl hg dX0_push_16 (fun H locs hP hD hS => ?_)
    have hP : va_P G.1 vwCl [(hw0_0, .inr (0, [.ref hw0_1, .int w0.2])), (hw0_1, .inl (G.2.1, n0, .inl (upd w0.1 w0.2.toNatClampNeg p1)))] H := hP
    have hD : va_D A [(hw0_0, .inr (0, [.ref hw0_1, .int w0.2])), (hw0_1, .inl (G.2.1, n0, .inl (upd w0.1 w0.2.toNatClampNeg p1)))] := hD
    refine lv_aload_n (pc := 17) hx hb dX0_push_17 rfl (lv_at hl 0 rfl) ?_
    refine lv_dup (pc := 18) hx hb dX0_push_18 rfl ?_
    refine va_get (pc := 19) (D := G.1) (ci := 0) (v := .int w0.2) (C := RX0) (T := TX0) (N := 2) hx hb hts inX0 hown hK.1 hP 0 rfl rfl 1 (by decide) (hts _ wd_46) (fun _ h9 => h9) rfl dX0_push_19 ?_
    refine lv_iconst (pc := 22) (v := (1 : Int32)) hx hb dX0_push_22 (by decide) ?_
    refine lv_iadd (pc := 23) hx hb dX0_push_23 ?_
    refine va_put (pc := 24) (D := G.1) (ci := 0) (v := .int (w0.2 + (1 : Int32))) (ty := .int) (C := RX0) (T := TX0) (N := 2) hx hb hts inX0 tyX0 tyX0_ok nmX0 hown hK.1 hP hD hS 0 rfl rfl 1 (by decide) (hts _ wd_46) (fun _ h9 => h9) rfl (by decide +kernel) rfl rfl (Nat.le_of_ble_eq_true rfl) dX0_push_24 (fun H locs hP hD hS => ?_)
    have hP : va_P G.1 vwCl [(hw0_0, .inr (0, [.ref hw0_1, .int (w0.2 + (1 : Int32))])), (hw0_1, .inl (G.2.1, n0, .inl (upd w0.1 w0.2.toNatClampNeg p1)))] H := hP
    have hD : va_D A [(hw0_0, .inr (0, [.ref hw0_1, .int (w0.2 + (1 : Int32))])), (hw0_1, .inl (G.2.1, n0, .inl (upd w0.1 w0.2.toNatClampNeg p1)))] := hD
    have hf := Option.some.inj hf; subst hf
    rw [← hQ]
    exact g_vret hx hb hr hlocks hP hS dX0_push_27
theorem hd_X0_cut : yX0_cut.cls ≠ "java/lang/invoke/MethodHandle" ∧ yX0_cut.cls ≠ "java/lang/invoke/VarHandle" ∧ (parseMethodDescriptor yX0_cut.desc).map (fun d => d.parameters.length) = some 1 := by decide +kernel
abbrev rm_X0_cut : Room := { frames := 1, cells := 0, slots := 0, locals := 24 }
noncomputable def f_X0_cut (n0 : Nat) (w0 : TBytes) (p1 : Int32) : Option TBytes :=
  some (w0.1, (if (0 : Int32) < (if p1 < w0.2 then p1 else w0.2) then (if p1 < w0.2 then p1 else w0.2) else (0 : Int32)))
set_option maxHeartbeats 4000000 in
set_option maxRecDepth 100000 in
theorem c_X0_cut (l : Launch) (G : GT) (hw0_0 hw0_1 : Nat) (n0 : Nat) (w0 : TBytes) (p1 : Int32) {r : TBytes} (hf : f_X0_cut n0 w0 p1 = some r) : Ct l yX0_cut (Cond.code yX0_cut cX0_cut 2 none :: lw_g) rm_X0_cut G [.ref hw0_0, .int p1] [(hw0_0, .inr (0, [.ref hw0_1, .int w0.2])), (hw0_1, .inl (G.2.1, n0, .inl w0.1))] none [(hw0_0, .inr (0, [.ref hw0_1, .int r.2])), (hw0_1, .inl (G.2.1, n0, .inl r.1))] := by
  refine Ct.ofW (cc := cX0_cut) (maxL := 2) (ret := none) (own := RX0) (by decide) rfl rfl (Nat.le_of_ble_eq_true rfl) ?_
  intro p e s m args below meth c A hx hb hr hml hts hown hlocks hK hP hD hA hS ls hl
  have hl : lv_has ls 2 [(0, .ref hw0_0), (1, .int p1)] := hl
  generalize hQ : gMQ below G _ _ A args s = Q
  generalize hH : s.heap = H at hP ⊢
  have hS : va_S A s.heap H [] := by rw [← hH]; exact hS
  generalize ([] : List Loc) = locs at hS ⊢
  unfold f_X0_cut at hf
  refine lv_aload_n (pc := 0) hx hb dX0_cut_0 rfl (lv_at hl 0 rfl) ?_
  refine lv_iconst (pc := 1) (v := (0 : Int32)) hx hb dX0_cut_1 (by decide) ?_
  refine lv_aload_n (pc := 2) hx hb dX0_cut_2 rfl (lv_at hl 0 rfl) ?_
  refine va_get (pc := 3) (D := G.1) (ci := 0) (v := .int w0.2) (C := RX0) (T := TX0) (N := 2) hx hb hts inX0 hown hK.1 hP 0 rfl rfl 1 (by decide) (hts _ wd_46) (fun _ h9 => h9) rfl dX0_cut_3 ?_
  refine lv_iload_n (pc := 6) hx hb dX0_cut_6 rfl (lv_at hl 1 rfl) ?_
  refine va_mmin (pc := 7) hx hb (hml.trans hl.1.symm) hown (hts _ wd_258) (hts _ wd_259) (hts _ wd_4) (hts _ wd_260) (Nat.le_of_ble_eq_true rfl) (Nat.le_of_ble_eq_true rfl) (Nat.le_of_ble_eq_true rfl) (Nat.le_of_ble_eq_true rfl) dX0_cut_7 ?_
  refine va_mmax (pc := 10) hx hb (hml.trans hl.1.symm) hown (hts _ wd_42) (hts _ wd_43) (hts _ wd_4) (hts _ wd_44) (Nat.le_of_ble_eq_true rfl) (Nat.le_of_ble_eq_true rfl) (Nat.le_of_ble_eq_true rfl) (Nat.le_of_ble_eq_true rfl) dX0_cut_10 ?_
  refine va_put (pc := 13) (D := G.1) (ci := 0) (v := .int (if (0 : Int32) < (if p1 < w0.2 then p1 else w0.2) then (if p1 < w0.2 then p1 else w0.2) else (0 : Int32))) (ty := .int) (C := RX0) (T := TX0) (N := 2) hx hb hts inX0 tyX0 tyX0_ok nmX0 hown hK.1 hP hD hS 0 rfl rfl 1 (by decide) (hts _ wd_46) (fun _ h9 => h9) rfl (by decide +kernel) rfl rfl (Nat.le_of_ble_eq_true rfl) dX0_cut_13 (fun H locs hP hD hS => ?_)
  have hP : va_P G.1 vwCl [(hw0_0, .inr (0, [.ref hw0_1, .int (if (0 : Int32) < (if p1 < w0.2 then p1 else w0.2) then (if p1 < w0.2 then p1 else w0.2) else (0 : Int32))])), (hw0_1, .inl (G.2.1, n0, .inl w0.1))] H := hP
  have hD : va_D A [(hw0_0, .inr (0, [.ref hw0_1, .int (if (0 : Int32) < (if p1 < w0.2 then p1 else w0.2) then (if p1 < w0.2 then p1 else w0.2) else (0 : Int32))])), (hw0_1, .inl (G.2.1, n0, .inl w0.1))] := hD
  have hf := Option.some.inj hf; subst hf
  rw [← hQ]
  exact g_vret hx hb hr hlocks hP hS dX0_cut_16
theorem hd_X0_move : yX0_move.cls ≠ "java/lang/invoke/MethodHandle" ∧ yX0_move.cls ≠ "java/lang/invoke/VarHandle" ∧ (parseMethodDescriptor yX0_move.desc).map (fun d => d.parameters.length) = some 3 := by decide +kernel
abbrev rm_X0_move : Room := { frames := 1, cells := 0, slots := 0, locals := 64 }
noncomputable def f_X0_move (n0 : Nat) (w0 : TBytes) (p1 : Int32) (p2 : Int32) (p3 : Int32) : Option TBytes :=
  br (p1 < 0) (some w0) (br (p2 < 0) (some w0) (br (p3 < 0) (some w0) (br (w0.2 < (p1 + p3)) (some w0) (br (w0.2 < (p2 + p3)) (some w0) (gd (¬ p1 < 0 ∧ ¬ p2 < 0 ∧ ¬ p3 < 0 ∧ p1.toNatClampNeg + p3.toNatClampNeg ≤ n0 ∧ p2.toNatClampNeg + p3.toNatClampNeg ≤ n0) (some ((va_cpy w0.1 w0.1 p1.toNatClampNeg p2.toNatClampNeg p3.toNatClampNeg), w0.2)))))))
set_option maxHeartbeats 4000000 in
set_option maxRecDepth 100000 in
theorem c_X0_move (l : Launch) (G : GT) (hw0_0 hw0_1 : Nat) (n0 : Nat) (w0 : TBytes) (p1 : Int32) (p2 : Int32) (p3 : Int32) {r : TBytes} (hf : f_X0_move n0 w0 p1 p2 p3 = some r) : Ct l yX0_move (Cond.code yX0_move cX0_move 4 none :: lw_g) rm_X0_move G [.ref hw0_0, .int p1, .int p2, .int p3] [(hw0_0, .inr (0, [.ref hw0_1, .int w0.2])), (hw0_1, .inl (G.2.1, n0, .inl w0.1))] none [(hw0_0, .inr (0, [.ref hw0_1, .int r.2])), (hw0_1, .inl (G.2.1, n0, .inl r.1))] := by
  refine Ct.ofW (cc := cX0_move) (maxL := 4) (ret := none) (own := RX0) (by decide) rfl rfl (Nat.le_of_ble_eq_true rfl) ?_
  intro p e s m args below meth c A hx hb hr hml hts hown hlocks hK hP hD hA hS ls hl
  have hl : lv_has ls 4 [(0, .ref hw0_0), (1, .int p1), (2, .int p2), (3, .int p3)] := hl
  generalize hQ : gMQ below G _ _ A args s = Q
  generalize hH : s.heap = H at hP ⊢
  have hS : va_S A s.heap H [] := by rw [← hH]; exact hS
  generalize ([] : List Loc) = locs at hS ⊢
  unfold f_X0_move at hf
  refine lv_iload_n (pc := 0) hx hb dX0_move_0 rfl (lv_at hl 1 rfl) ?_
  refine lv_if_lt (pc := 1) (tgt := 46) hx hb dX0_move_1 (by decide) (fun hc => ?_) (fun hc => ?_)
  · have hf := br_y hc hf
    have hf := Option.some.inj hf; subst hf
    rw [← hQ]
    exact g_vret hx hb hr hlocks hP hS dX0_move_46
  · have hf := br_n hc hf
    refine lv_iload_n (pc := 4) hx hb dX0_move_4 rfl (lv_at hl 2 rfl) ?_
    refine lv_if_lt (pc := 5) (tgt := 46) hx hb dX0_move_5 (by decide) (fun hc => ?_) (fun hc => ?_)
    · have hf := br_y hc hf
      have hf := Option.some.inj hf; subst hf
      rw [← hQ]
      exact g_vret hx hb hr hlocks hP hS dX0_move_46
    · have hf := br_n hc hf
      refine lv_iload_n (pc := 8) hx hb dX0_move_8 rfl (lv_at hl 3 rfl) ?_
      refine lv_if_lt (pc := 9) (tgt := 46) hx hb dX0_move_9 (by decide) (fun hc => ?_) (fun hc => ?_)
      · have hf := br_y hc hf
        have hf := Option.some.inj hf; subst hf
        rw [← hQ]
        exact g_vret hx hb hr hlocks hP hS dX0_move_46
      · have hf := br_n hc hf
        refine lv_iload_n (pc := 12) hx hb dX0_move_12 rfl (lv_at hl 1 rfl) ?_
        refine lv_iload_n (pc := 13) hx hb dX0_move_13 rfl (lv_at hl 3 rfl) ?_
        refine lv_iadd (pc := 14) hx hb dX0_move_14 ?_
        refine lv_aload_n (pc := 15) hx hb dX0_move_15 rfl (lv_at hl 0 rfl) ?_
        refine va_get (pc := 16) (D := G.1) (ci := 0) (v := .int w0.2) (C := RX0) (T := TX0) (N := 2) hx hb hts inX0 hown hK.1 hP 0 rfl rfl 1 (by decide) (hts _ wd_46) (fun _ h9 => h9) rfl dX0_move_16 ?_
        refine lv_icmp_gt (pc := 19) (tgt := 46) hx hb dX0_move_19 (by decide) (fun hc => ?_) (fun hc => ?_)
        · have hf := br_y hc hf
          have hf := Option.some.inj hf; subst hf
          rw [← hQ]
          exact g_vret hx hb hr hlocks hP hS dX0_move_46
        · have hf := br_n hc hf
          refine lv_iload_n (pc := 22) hx hb dX0_move_22 rfl (lv_at hl 2 rfl) ?_
          refine lv_iload_n (pc := 23) hx hb dX0_move_23 rfl (lv_at hl 3 rfl) ?_
          refine lv_iadd (pc := 24) hx hb dX0_move_24 ?_
          refine lv_aload_n (pc := 25) hx hb dX0_move_25 rfl (lv_at hl 0 rfl) ?_
          refine va_get (pc := 26) (D := G.1) (ci := 0) (v := .int w0.2) (C := RX0) (T := TX0) (N := 2) hx hb hts inX0 hown hK.1 hP 0 rfl rfl 1 (by decide) (hts _ wd_46) (fun _ h9 => h9) rfl dX0_move_26 ?_
          refine lv_icmp_gt (pc := 29) (tgt := 46) hx hb dX0_move_29 (by decide) (fun hc => ?_) (fun hc => ?_)
          · have hf := br_y hc hf
            have hf := Option.some.inj hf; subst hf
            rw [← hQ]
            exact g_vret hx hb hr hlocks hP hS dX0_move_46
          · have hf := br_n hc hf
            refine lv_aload_n (pc := 32) hx hb dX0_move_32 rfl (lv_at hl 0 rfl) ?_
            refine va_get (pc := 33) (D := G.1) (ci := 0) (v := .ref hw0_1) (C := RX0) (T := TX0) (N := 2) hx hb hts inX0 hown hK.1 hP 0 rfl rfl 0 (by decide) (hts _ wd_45) (fun _ h9 => h9) rfl dX0_move_33 ?_
            refine lv_iload_n (pc := 36) hx hb dX0_move_36 rfl (lv_at hl 1 rfl) ?_
            refine lv_aload_n (pc := 37) hx hb dX0_move_37 rfl (lv_at hl 0 rfl) ?_
            refine va_get (pc := 38) (D := G.1) (ci := 0) (v := .ref hw0_1) (C := RX0) (T := TX0) (N := 2) hx hb hts inX0 hown hK.1 hP 0 rfl rfl 0 (by decide) (hts _ wd_45) (fun _ h9 => h9) rfl dX0_move_38 ?_
            refine lv_iload_n (pc := 41) hx hb dX0_move_41 rfl (lv_at hl 2 rfl) ?_
            refine lv_iload_n (pc := 42) hx hb dX0_move_42 rfl (lv_at hl 3 rfl) ?_
            obtain ⟨⟨hg1, hg2, hg3, hg4, hg5⟩, hf⟩ := gd_some hf
            refine va_copyi (pc := 43) (ty := .int) hx hb (hml.trans hl.1.symm) hown (hts _ wd_261) (hts _ wd_263) (hts _ wd_262) (hts _ wd_16) hK.1 hP hD hS 1 1 0 0 rfl rfl rfl rfl rfl hg1 hg2 hg3 hg4 hg5 (fun _ _ => rfl) (Nat.le_of_ble_eq_true rfl) (by decide +kernel) dX0_move_43 (fun H locs hP hD hS => ?_)
            have hP : va_P G.1 vwCl [(hw0_0, .inr (0, [.ref hw0_1, .int w0.2])), (hw0_1, .inl (G.2.1, n0, .inl (va_cpy w0.1 w0.1 p1.toNatClampNeg p2.toNatClampNeg p3.toNatClampNeg)))] H := hP
            have hD : va_D A [(hw0_0, .inr (0, [.ref hw0_1, .int w0.2])), (hw0_1, .inl (G.2.1, n0, .inl (va_cpy w0.1 w0.1 p1.toNatClampNeg p2.toNatClampNeg p3.toNatClampNeg)))] := hD
            have hf := Option.some.inj hf; subst hf
            rw [← hQ]
            exact g_vret hx hb hr hlocks hP hS dX0_move_46
theorem hd_X0_take : yX0_take.cls ≠ "java/lang/invoke/MethodHandle" ∧ yX0_take.cls ≠ "java/lang/invoke/VarHandle" ∧ (parseMethodDescriptor yX0_take.desc).map (fun d => d.parameters.length) = some 1 := by decide +kernel
abbrev rm_X0_take : Room := { frames := 1, cells := 0, slots := 0, locals := 64 }
noncomputable def f_X0_take (n0 : Nat) (w0 : TBytes) (n1 : Nat) (w1 : TBytes) : Option TBytes :=
  gd (¬ (0 : Int32) < 0 ∧ ¬ (0 : Int32) < 0 ∧ ¬ (if (nI n0) < w1.2 then (nI n0) else w1.2) < 0 ∧ (0 : Int32).toNatClampNeg + (if (nI n0) < w1.2 then (nI n0) else w1.2).toNatClampNeg ≤ n1 ∧ (0 : Int32).toNatClampNeg + (if (nI n0) < w1.2 then (nI n0) else w1.2).toNatClampNeg ≤ n0) (some ((va_cpy w1.1 w0.1 (0 : Int32).toNatClampNeg (0 : Int32).toNatClampNeg (if (nI n0) < w1.2 then (nI n0) else w1.2).toNatClampNeg), (if (nI n0) < w1.2 then (nI n0) else w1.2)))
set_option maxHeartbeats 4000000 in
set_option maxRecDepth 100000 in
theorem c_X0_take (l : Launch) (G : GT) (hw0_0 hw0_1 : Nat) (hw1_0 hw1_1 : Nat) (n0 : Nat) (w0 : TBytes) (n1 : Nat) (w1 : TBytes) {r : TBytes} (hf : f_X0_take n0 w0 n1 w1 = some r) : Ct l yX0_take (Cond.code yX0_take cX0_take 2 none :: lw_g) rm_X0_take G [.ref hw0_0, .ref hw1_0] [(hw0_0, .inr (0, [.ref hw0_1, .int w0.2])), (hw0_1, .inl (G.2.1, n0, .inl w0.1)), (hw1_0, .inr (0, [.ref hw1_1, .int w1.2])), (hw1_1, .inl (G.2.1, n1, .inl w1.1))] none [(hw0_0, .inr (0, [.ref hw0_1, .int r.2])), (hw0_1, .inl (G.2.1, n0, .inl r.1)), (hw1_0, .inr (0, [.ref hw1_1, .int w1.2])), (hw1_1, .inl (G.2.1, n1, .inl w1.1))] := by
  refine Ct.ofW (cc := cX0_take) (maxL := 2) (ret := none) (own := RX0) (by decide) rfl rfl (Nat.le_of_ble_eq_true rfl) ?_
  intro p e s m args below meth c A hx hb hr hml hts hown hlocks hK hP hD hA hS ls hl
  have hl : lv_has ls 2 [(0, .ref hw0_0), (1, .ref hw1_0)] := hl
  generalize hQ : gMQ below G _ _ A args s = Q
  generalize hH : s.heap = H at hP ⊢
  have hS : va_S A s.heap H [] := by rw [← hH]; exact hS
  generalize ([] : List Loc) = locs at hS ⊢
  unfold f_X0_take at hf
  refine lv_aload_n (pc := 0) hx hb dX0_take_0 rfl (lv_at hl 0 rfl) ?_
  refine lv_aload_n (pc := 1) hx hb dX0_take_1 rfl (lv_at hl 1 rfl) ?_
  refine va_get (pc := 2) (D := G.1) (ci := 0) (v := .int w1.2) (C := RX0) (T := TX0) (N := 2) hx hb hts inX0 hown hK.1 hP 2 rfl rfl 1 (by decide) (hts _ wd_46) (fun _ h9 => h9) rfl dX0_take_2 ?_
  refine lv_aload_n (pc := 5) hx hb dX0_take_5 rfl (lv_at hl 0 rfl) ?_
  refine va_get (pc := 6) (D := G.1) (ci := 0) (v := .ref hw0_1) (C := RX0) (T := TX0) (N := 2) hx hb hts inX0 hown hK.1 hP 0 rfl rfl 0 (by decide) (hts _ wd_45) (fun _ h9 => h9) rfl dX0_take_6 ?_
  refine va_alen (pc := 9) (v := (nI n0)) hx hb hK.1 hP 1 0 rfl (ty := .int) rfl rfl dX0_take_9 ?_
  refine va_mmin (pc := 10) hx hb (hml.trans hl.1.symm) hown (hts _ wd_258) (hts _ wd_259) (hts _ wd_4) (hts _ wd_260) (Nat.le_of_ble_eq_true rfl) (Nat.le_of_ble_eq_true rfl) (Nat.le_of_ble_eq_true rfl) (Nat.le_of_ble_eq_true rfl) dX0_take_10 ?_
  refine va_put (pc := 13) (D := G.1) (ci := 0) (v := .int (if (nI n0) < w1.2 then (nI n0) else w1.2)) (ty := .int) (C := RX0) (T := TX0) (N := 2) hx hb hts inX0 tyX0 tyX0_ok nmX0 hown hK.1 hP hD hS 0 rfl rfl 1 (by decide) (hts _ wd_46) (fun _ h9 => h9) rfl (by decide +kernel) rfl rfl (Nat.le_of_ble_eq_true rfl) dX0_take_13 (fun H locs hP hD hS => ?_)
  have hP : va_P G.1 vwCl [(hw0_0, .inr (0, [.ref hw0_1, .int (if (nI n0) < w1.2 then (nI n0) else w1.2)])), (hw0_1, .inl (G.2.1, n0, .inl w0.1)), (hw1_0, .inr (0, [.ref hw1_1, .int w1.2])), (hw1_1, .inl (G.2.1, n1, .inl w1.1))] H := hP
  have hD : va_D A [(hw0_0, .inr (0, [.ref hw0_1, .int (if (nI n0) < w1.2 then (nI n0) else w1.2)])), (hw0_1, .inl (G.2.1, n0, .inl w0.1)), (hw1_0, .inr (0, [.ref hw1_1, .int w1.2])), (hw1_1, .inl (G.2.1, n1, .inl w1.1))] := hD
  refine lv_aload_n (pc := 16) hx hb dX0_take_16 rfl (lv_at hl 1 rfl) ?_
  refine va_get (pc := 17) (D := G.1) (ci := 0) (v := .ref hw1_1) (C := RX0) (T := TX0) (N := 2) hx hb hts inX0 hown hK.1 hP 2 rfl rfl 0 (by decide) (hts _ wd_45) (fun _ h9 => h9) rfl dX0_take_17 ?_
  refine lv_iconst (pc := 20) (v := (0 : Int32)) hx hb dX0_take_20 (by decide) ?_
  refine lv_aload_n (pc := 21) hx hb dX0_take_21 rfl (lv_at hl 0 rfl) ?_
  refine va_get (pc := 22) (D := G.1) (ci := 0) (v := .ref hw0_1) (C := RX0) (T := TX0) (N := 2) hx hb hts inX0 hown hK.1 hP 0 rfl rfl 0 (by decide) (hts _ wd_45) (fun _ h9 => h9) rfl dX0_take_22 ?_
  refine lv_iconst (pc := 25) (v := (0 : Int32)) hx hb dX0_take_25 (by decide) ?_
  refine lv_aload_n (pc := 26) hx hb dX0_take_26 rfl (lv_at hl 0 rfl) ?_
  refine va_get (pc := 27) (D := G.1) (ci := 0) (v := .int (if (nI n0) < w1.2 then (nI n0) else w1.2)) (C := RX0) (T := TX0) (N := 2) hx hb hts inX0 hown hK.1 hP 0 rfl rfl 1 (by decide) (hts _ wd_46) (fun _ h9 => h9) rfl dX0_take_27 ?_
  obtain ⟨⟨hg1, hg2, hg3, hg4, hg5⟩, hf⟩ := gd_some hf
  refine va_copyi (pc := 30) (ty := .int) hx hb (hml.trans hl.1.symm) hown (hts _ wd_261) (hts _ wd_263) (hts _ wd_262) (hts _ wd_16) hK.1 hP hD hS 3 1 0 0 rfl rfl rfl rfl rfl hg1 hg2 hg3 hg4 hg5 (fun _ _ => rfl) (Nat.le_of_ble_eq_true rfl) (by decide +kernel) dX0_take_30 (fun H locs hP hD hS => ?_)
  have hP : va_P G.1 vwCl [(hw0_0, .inr (0, [.ref hw0_1, .int (if (nI n0) < w1.2 then (nI n0) else w1.2)])), (hw0_1, .inl (G.2.1, n0, .inl (va_cpy w1.1 w0.1 (0 : Int32).toNatClampNeg (0 : Int32).toNatClampNeg (if (nI n0) < w1.2 then (nI n0) else w1.2).toNatClampNeg))), (hw1_0, .inr (0, [.ref hw1_1, .int w1.2])), (hw1_1, .inl (G.2.1, n1, .inl w1.1))] H := hP
  have hD : va_D A [(hw0_0, .inr (0, [.ref hw0_1, .int (if (nI n0) < w1.2 then (nI n0) else w1.2)])), (hw0_1, .inl (G.2.1, n0, .inl (va_cpy w1.1 w0.1 (0 : Int32).toNatClampNeg (0 : Int32).toNatClampNeg (if (nI n0) < w1.2 then (nI n0) else w1.2).toNatClampNeg))), (hw1_0, .inr (0, [.ref hw1_1, .int w1.2])), (hw1_1, .inl (G.2.1, n1, .inl w1.1))] := hD
  have hf := Option.some.inj hf; subst hf
  rw [← hQ]
  exact g_vret hx hb hr hlocks hP hS dX0_take_33
theorem hd_X0_common : yX0_common.cls ≠ "java/lang/invoke/MethodHandle" ∧ yX0_common.cls ≠ "java/lang/invoke/VarHandle" ∧ (parseMethodDescriptor yX0_common.desc).map (fun d => d.parameters.length) = some 3 := by decide +kernel
abbrev rm_X0_common : Room := { frames := 2, cells := 0, slots := 0, locals := 42 }
noncomputable def f_X0_common_L20 (n0 : Nat) (n2 : Nat) (w0 : TBytes) (w2 : TBytes) (p1 : Int32) (p3 : Int32)  : Nat → Int32 → Int32 → Option Int32
  | 0, _, _ => none
  | k20 + 1, v5, v4 =>
    br (v4 ≤ v5) (some v5) ((f_X0_at n0 w0 (p1 + v5)).bind (fun x2 => (f_X0_at n2 w2 (p3 + v5)).bind (fun x3 => br (x2 = x3) (f_X0_common_L20 n0 n2 w0 w2 p1 p3  k20 (v5 + (1 : Int32)) v4) (some v5))))
noncomputable def f_X0_common (n0 : Nat) (w0 : TBytes) (n2 : Nat) (w2 : TBytes) (p1 : Int32) (p3 : Int32) : Option Int32 :=
  nm (if (w2.2 - p3) < (w0.2 - p1) then (w2.2 - p3) else (w0.2 - p1)) (fun x1 => f_X0_common_L20 n0 n2 w0 w2 p1 p3 FUEL (0 : Int32) x1)
set_option maxHeartbeats 4000000 in
set_option maxRecDepth 100000 in
theorem c_X0_common (l : Launch) (G : GT) (hw0_0 hw0_1 : Nat) (hw2_0 hw2_1 : Nat) (n0 : Nat) (w0 : TBytes) (n2 : Nat) (w2 : TBytes) (p1 : Int32) (p3 : Int32) {r : Int32} (hf : f_X0_common n0 w0 n2 w2 p1 p3 = some r) : Ct l yX0_common (Cond.code yX0_common cX0_common 6 (some .int) :: lw_g) rm_X0_common G [.ref hw0_0, .int p1, .ref hw2_0, .int p3] [(hw0_0, .inr (0, [.ref hw0_1, .int w0.2])), (hw0_1, .inl (G.2.1, n0, .inl w0.1)), (hw2_0, .inr (0, [.ref hw2_1, .int w2.2])), (hw2_1, .inl (G.2.1, n2, .inl w2.1))] (some (.int r)) [(hw0_0, .inr (0, [.ref hw0_1, .int w0.2])), (hw0_1, .inl (G.2.1, n0, .inl w0.1)), (hw2_0, .inr (0, [.ref hw2_1, .int w2.2])), (hw2_1, .inl (G.2.1, n2, .inl w2.1))] := by
  refine Ct.ofW (cc := cX0_common) (maxL := 6) (ret := (some .int)) (own := RX0) (by decide) rfl rfl (Nat.le_of_ble_eq_true rfl) ?_
  intro p e s m args below meth c A hx hb hr hml hts hown hlocks hK hP hD hA hS ls hl
  have hl : lv_has ls 6 [(0, .ref hw0_0), (1, .int p1), (2, .ref hw2_0), (3, .int p3)] := hl
  generalize hQ : gMQ below G _ _ A args s = Q
  generalize hH : s.heap = H at hP ⊢
  have hS : va_S A s.heap H [] := by rw [← hH]; exact hS
  generalize ([] : List Loc) = locs at hS ⊢
  unfold f_X0_common at hf
  have hL20 : ∀ (k20 : Nat) (v5 : Int32) (v4 : Int32), f_X0_common_L20 n0 n2 w0 w2 p1 p3  k20 v5 v4 = some r → ∀ (H : Heap) (locs : List Loc), va_P G.1 vwCl [(hw0_0, .inr (0, [.ref hw0_1, .int w0.2])), (hw0_1, .inl (G.2.1, n0, .inl w0.1)), (hw2_0, .inr (0, [.ref hw2_1, .int w2.2])), (hw2_1, .inl (G.2.1, n2, .inl w2.1))] H → va_D A [(hw0_0, .inr (0, [.ref hw0_1, .int w0.2])), (hw0_1, .inl (G.2.1, n0, .inl w0.1)), (hw2_0, .inr (0, [.ref hw2_1, .int w2.2])), (hw2_1, .inl (G.2.1, n2, .inl w2.1))] → va_S A s.heap H locs → ∀ (ls : Array Slot), lv_has ls 6 [(5, .int v5), (4, .int v4), (0, .ref hw0_0), (1, .int p1), (2, .ref hw2_0), (3, .int p3)] → W p l e (rm_X0_common) s m args below meth c H locs 0 0 Q (F0 m 20 ls []) := by
    intro k20
    induction k20 with
    | zero =>
      intro v5 v4 hf
      rw [f_X0_common_L20.eq_1] at hf; cases hf
    | succ k20 ih20 =>
      intro v5 v4 hf H locs hP hD hS ls hl
      rw [f_X0_common_L20.eq_2] at hf
      refine lv_iload (pc := 20) hx hb dX0_common_20 (lv_at hl 0 rfl) ?_
      refine lv_iload (pc := 22) hx hb dX0_common_22 (lv_at hl 1 rfl) ?_
      refine lv_icmp_ge (pc := 24) (tgt := 52) hx hb dX0_common_24 (by decide) (fun hc => ?_) (fun hc => ?_)
      · have hf := br_y hc hf
        refine lv_iload (pc := 52) hx hb dX0_common_52 (lv_at hl 0 rfl) ?_
        have hf := Option.some.inj hf; subst hf
        rw [← hQ]
        exact g_iret hx hb hr hlocks hP hS dX0_common_54
      · have hf := br_n hc hf
        refine lv_aload_n (pc := 27) hx hb dX0_common_27 rfl (lv_at hl 2 rfl) ?_
        refine lv_iload_n (pc := 28) hx hb dX0_common_28 rfl (lv_at hl 3 rfl) ?_
        refine lv_iload (pc := 29) hx hb dX0_common_29 (lv_at hl 0 rfl) ?_
        refine lv_iadd (pc := 31) hx hb dX0_common_31 ?_
        obtain ⟨x2, hcx2, hf⟩ := bn_some hf
        refine g_callV0 (pc := 32) (rest := []) hx hb hml hown hts hK (c_X0_at l G hw0_0 hw0_1 n0 w0 (p1 + v5) hcx2) wd_311 wd_3 wd_308 wd_309 wd_310 hd_X0_at ⟨rfl, rfl, Nat.le_of_ble_eq_true rfl, Nat.le_of_ble_eq_true rfl⟩ hP hD hS hA [0, 1] rfl rfl 0 0 rfl rfl rfl rfl hl.1 rfl (Nat.le_of_ble_eq_true rfl) dX0_common_32 ⟨Nat.zero_le _, Nat.zero_le _⟩ (fun H locs hP hS => ?_)
        refine lv_aload_n (pc := 35) hx hb dX0_common_35 rfl (lv_at hl 4 rfl) ?_
        refine lv_iload_n (pc := 36) hx hb dX0_common_36 rfl (lv_at hl 5 rfl) ?_
        refine lv_iload (pc := 37) hx hb dX0_common_37 (lv_at hl 0 rfl) ?_
        refine lv_iadd (pc := 39) hx hb dX0_common_39 ?_
        obtain ⟨x3, hcx3, hf⟩ := bn_some hf
        refine g_callV0 (pc := 40) (rest := [.int x2]) hx hb hml hown hts hK (c_X0_at l G hw2_0 hw2_1 n2 w2 (p3 + v5) hcx3) wd_311 wd_3 wd_308 wd_309 wd_310 hd_X0_at ⟨rfl, rfl, Nat.le_of_ble_eq_true rfl, Nat.le_of_ble_eq_true rfl⟩ hP hD hS hA [2, 3] rfl rfl 0 2 rfl rfl rfl rfl hl.1 rfl (Nat.le_of_ble_eq_true rfl) dX0_common_40 ⟨Nat.zero_le _, Nat.zero_le _⟩ (fun H locs hP hS => ?_)
        refine lv_icmp_ne (pc := 43) (tgt := 52) hx hb dX0_common_43 (by decide) (fun hc => ?_) (fun hc => ?_)
        · have hf := br_n hc hf
          refine lv_iload (pc := 52) hx hb dX0_common_52 (lv_at hl 0 rfl) ?_
          have hf := Option.some.inj hf; subst hf
          rw [← hQ]
          exact g_iret hx hb hr hlocks hP hS dX0_common_54
        · have hf := br_y hc hf
          refine lv_iinc (pc := 46) (v := (v5 + (1 : Int32))) (lv' := [(5, .int (v5 + (1 : Int32))), (4, .int v4), (0, .ref hw0_0), (1, .int p1), (2, .ref hw2_0), (3, .int p3)]) hx hb dX0_common_46 hl (k := 0) rfl rfl (by decide) rfl (fun ls hl => ?_)
          refine lv_goto (pc := 49) (tgt := 20) hx hb dX0_common_49 (by decide) ?_
          exact ih20 (v5 + (1 : Int32)) v4 hf H locs hP hD hS ls (lv_sub hl [0, 1, 2, 3, 4, 5] rfl)
  refine lv_aload_n (pc := 0) hx hb dX0_common_0 rfl (lv_at hl 0 rfl) ?_
  refine va_get (pc := 1) (D := G.1) (ci := 0) (v := .int w0.2) (C := RX0) (T := TX0) (N := 2) hx hb hts inX0 hown hK.1 hP 0 rfl rfl 1 (by decide) (hts _ wd_46) (fun _ h9 => h9) rfl dX0_common_1 ?_
  refine lv_iload_n (pc := 4) hx hb dX0_common_4 rfl (lv_at hl 1 rfl) ?_
  refine lv_isub (pc := 5) hx hb dX0_common_5 ?_
  refine lv_aload_n (pc := 6) hx hb dX0_common_6 rfl (lv_at hl 2 rfl) ?_
  refine va_get (pc := 7) (D := G.1) (ci := 0) (v := .int w2.2) (C := RX0) (T := TX0) (N := 2) hx hb hts inX0 hown hK.1 hP 2 rfl rfl 1 (by decide) (hts _ wd_46) (fun _ h9 => h9) rfl dX0_common_7 ?_
  refine lv_iload_n (pc := 10) hx hb dX0_common_10 rfl (lv_at hl 3 rfl) ?_
  refine lv_isub (pc := 11) hx hb dX0_common_11 ?_
  refine va_mmin (pc := 12) hx hb (hml.trans hl.1.symm) hown (hts _ wd_258) (hts _ wd_259) (hts _ wd_4) (hts _ wd_260) (Nat.le_of_ble_eq_true rfl) (Nat.le_of_ble_eq_true rfl) (Nat.le_of_ble_eq_true rfl) (Nat.le_of_ble_eq_true rfl) dX0_common_12 ?_
  refine lv_topi (fun x1 ex1 => ?_)
  have hf := nm_some hf ex1
  refine lv_istore (pc := 15) (lv' := [(4, .int x1), (0, .ref hw0_0), (1, .int p1), (2, .ref hw2_0), (3, .int p3)]) hx hb dX0_common_15 hl (by decide) rfl (fun ls hl => ?_)
  refine lv_iconst (pc := 17) (v := (0 : Int32)) hx hb dX0_common_17 (by decide) ?_
  refine lv_istore (pc := 18) (lv' := [(5, .int (0 : Int32)), (4, .int x1), (0, .ref hw0_0), (1, .int p1), (2, .ref hw2_0), (3, .int p3)]) hx hb dX0_common_18 hl (by decide) rfl (fun ls hl => ?_)
  exact hL20 FUEL (0 : Int32) x1 hf H locs hP hD hS ls (lv_sub hl [0, 1, 2, 3, 4, 5] rfl)
theorem hd_X0_sum : yX0_sum.cls ≠ "java/lang/invoke/MethodHandle" ∧ yX0_sum.cls ≠ "java/lang/invoke/VarHandle" ∧ (parseMethodDescriptor yX0_sum.desc).map (fun d => d.parameters.length) = some 0 := by decide +kernel
abbrev rm_X0_sum : Room := { frames := 2, cells := 0, slots := 0, locals := 42 }
noncomputable def f_X0_sum_L4 (n0 : Nat) (w0 : TBytes)  : Nat → Int32 → Int32 → Option Int32
  | 0, _, _ => none
  | k4 + 1, v2, v1 =>
    br (w0.2 ≤ v2) (some v1) ((f_X0_at n0 w0 v2).bind (fun x1 => f_X0_sum_L4 n0 w0  k4 (v2 + (1 : Int32)) (v1 + x1)))
noncomputable def f_X0_sum (n0 : Nat) (w0 : TBytes) : Option Int32 :=
  f_X0_sum_L4 n0 w0 FUEL (0 : Int32) (0 : Int32)
set_option maxHeartbeats 4000000 in
set_option maxRecDepth 100000 in
theorem c_X0_sum (l : Launch) (G : GT) (hw0_0 hw0_1 : Nat) (n0 : Nat) (w0 : TBytes) {r : Int32} (hf : f_X0_sum n0 w0 = some r) : Ct l yX0_sum (Cond.code yX0_sum cX0_sum 3 (some .int) :: lw_g) rm_X0_sum G [.ref hw0_0] [(hw0_0, .inr (0, [.ref hw0_1, .int w0.2])), (hw0_1, .inl (G.2.1, n0, .inl w0.1))] (some (.int r)) [(hw0_0, .inr (0, [.ref hw0_1, .int w0.2])), (hw0_1, .inl (G.2.1, n0, .inl w0.1))] := by
  refine Ct.ofW (cc := cX0_sum) (maxL := 3) (ret := (some .int)) (own := RX0) (by decide) rfl rfl (Nat.le_of_ble_eq_true rfl) ?_
  intro p e s m args below meth c A hx hb hr hml hts hown hlocks hK hP hD hA hS ls hl
  have hl : lv_has ls 3 [(0, .ref hw0_0)] := hl
  generalize hQ : gMQ below G _ _ A args s = Q
  generalize hH : s.heap = H at hP ⊢
  have hS : va_S A s.heap H [] := by rw [← hH]; exact hS
  generalize ([] : List Loc) = locs at hS ⊢
  unfold f_X0_sum at hf
  have hL4 : ∀ (k4 : Nat) (v2 : Int32) (v1 : Int32), f_X0_sum_L4 n0 w0  k4 v2 v1 = some r → ∀ (H : Heap) (locs : List Loc), va_P G.1 vwCl [(hw0_0, .inr (0, [.ref hw0_1, .int w0.2])), (hw0_1, .inl (G.2.1, n0, .inl w0.1))] H → va_D A [(hw0_0, .inr (0, [.ref hw0_1, .int w0.2])), (hw0_1, .inl (G.2.1, n0, .inl w0.1))] → va_S A s.heap H locs → ∀ (ls : Array Slot), lv_has ls 3 [(2, .int v2), (1, .int v1), (0, .ref hw0_0)] → W p l e (rm_X0_sum) s m args below meth c H locs 0 0 Q (F0 m 4 ls []) := by
    intro k4
    induction k4 with
    | zero =>
      intro v2 v1 hf
      rw [f_X0_sum_L4.eq_1] at hf; cases hf
    | succ k4 ih4 =>
      intro v2 v1 hf H locs hP hD hS ls hl
      rw [f_X0_sum_L4.eq_2] at hf
      refine lv_iload_n (pc := 4) hx hb dX0_sum_4 rfl (lv_at hl 0 rfl) ?_
      refine lv_aload_n (pc := 5) hx hb dX0_sum_5 rfl (lv_at hl 2 rfl) ?_
      refine va_get (pc := 6) (D := G.1) (ci := 0) (v := .int w0.2) (C := RX0) (T := TX0) (N := 2) hx hb hts inX0 hown hK.1 hP 0 rfl rfl 1 (by decide) (hts _ wd_46) (fun _ h9 => h9) rfl dX0_sum_6 ?_
      refine lv_icmp_ge (pc := 9) (tgt := 26) hx hb dX0_sum_9 (by decide) (fun hc => ?_) (fun hc => ?_)
      · have hf := br_y hc hf
        refine lv_iload_n (pc := 26) hx hb dX0_sum_26 rfl (lv_at hl 1 rfl) ?_
        have hf := Option.some.inj hf; subst hf
        rw [← hQ]
        exact g_iret hx hb hr hlocks hP hS dX0_sum_27
      · have hf := br_n hc hf
        refine lv_iload_n (pc := 12) hx hb dX0_sum_12 rfl (lv_at hl 1 rfl) ?_
        refine lv_aload_n (pc := 13) hx hb dX0_sum_13 rfl (lv_at hl 2 rfl) ?_
        refine lv_iload_n (pc := 14) hx hb dX0_sum_14 rfl (lv_at hl 0 rfl) ?_
        obtain ⟨x1, hcx1, hf⟩ := bn_some hf
        refine g_callV0 (pc := 15) (rest := [.int v1]) hx hb hml hown hts hK (c_X0_at l G hw0_0 hw0_1 n0 w0 v2 hcx1) wd_311 wd_3 wd_308 wd_309 wd_310 hd_X0_at ⟨rfl, rfl, Nat.le_of_ble_eq_true rfl, Nat.le_of_ble_eq_true rfl⟩ hP hD hS hA [0, 1] rfl rfl 0 0 rfl rfl rfl rfl hl.1 rfl (Nat.le_of_ble_eq_true rfl) dX0_sum_15 ⟨Nat.zero_le _, Nat.zero_le _⟩ (fun H locs hP hS => ?_)
        refine lv_iadd (pc := 18) hx hb dX0_sum_18 ?_
        refine lv_istore_n (pc := 19) (lv' := [(1, .int (v1 + x1)), (2, .int v2), (0, .ref hw0_0)]) hx hb dX0_sum_19 rfl hl (by decide) rfl (fun ls hl => ?_)
        refine lv_iinc (pc := 20) (v := (v2 + (1 : Int32))) (lv' := [(2, .int (v2 + (1 : Int32))), (1, .int (v1 + x1)), (0, .ref hw0_0)]) hx hb dX0_sum_20 hl (k := 1) rfl rfl (by decide) rfl (fun ls hl => ?_)
        refine lv_goto (pc := 23) (tgt := 4) hx hb dX0_sum_23 (by decide) ?_
        exact ih4 (v2 + (1 : Int32)) (v1 + x1) hf H locs hP hD hS ls (lv_sub hl [0, 1, 2] rfl)
  refine lv_iconst (pc := 0) (v := (0 : Int32)) hx hb dX0_sum_0 (by decide) ?_
  refine lv_istore_n (pc := 1) (lv' := [(1, .int (0 : Int32)), (0, .ref hw0_0)]) hx hb dX0_sum_1 rfl hl (by decide) rfl (fun ls hl => ?_)
  refine lv_iconst (pc := 2) (v := (0 : Int32)) hx hb dX0_sum_2 (by decide) ?_
  refine lv_istore_n (pc := 3) (lv' := [(2, .int (0 : Int32)), (1, .int (0 : Int32)), (0, .ref hw0_0)]) hx hb dX0_sum_3 rfl hl (by decide) rfl (fun ls hl => ?_)
  exact hL4 FUEL (0 : Int32) (0 : Int32) hf H locs hP hD hS ls (lv_sub hl [0, 1, 2] rfl)
theorem hd_X0_mixInto : yX0_mixInto.cls ≠ "java/lang/invoke/MethodHandle" ∧ yX0_mixInto.cls ≠ "java/lang/invoke/VarHandle" ∧ (parseMethodDescriptor yX0_mixInto.desc).map (fun d => d.parameters.length) = some 1 := by decide +kernel
abbrev rm_X0_mixInto : Room := { frames := 2, cells := 0, slots := 0, locals := 42 }
noncomputable def f_X0_mixInto_L13 (n0 : Nat) (w0 : TBytes) (p1 : Int64)  : Nat → Int32 → Int64 → Option Int64
  | 0, _, _ => none
  | k13 + 1, v5, v3 =>
    br (w0.2 ≤ v5) (some v3) ((f_X0_at n0 w0 v5).bind (fun x2 => (f_X10_mix v3 x2.toInt64).bind (fun x3 => f_X0_mixInto_L13 n0 w0 p1  k13 (v5 + (1 : Int32)) x3)))
noncomputable def f_X0_mixInto (n0 : Nat) (w0 : TBytes) (p1 : Int64) : Option Int64 :=
  (f_X10_mix p1 w0.2.toInt64).bind (fun x1 => f_X0_mixInto_L13 n0 w0 p1 FUEL (0 : Int32) x1)
set_option maxHeartbeats 4000000 in
set_option maxRecDepth 100000 in
theorem c_X0_mixInto (l : Launch) (G : GT) (hw0_0 hw0_1 : Nat) (n0 : Nat) (w0 : TBytes) (p1 : Int64) {r : Int64} (hf : f_X0_mixInto n0 w0 p1 = some r) : Ct l yX0_mixInto (Cond.code yX0_mixInto cX0_mixInto 6 (some .long) :: lw_g) rm_X0_mixInto G [.ref hw0_0, .long p1] [(hw0_0, .inr (0, [.ref hw0_1, .int w0.2])), (hw0_1, .inl (G.2.1, n0, .inl w0.1))] (some (.long r)) [(hw0_0, .inr (0, [.ref hw0_1, .int w0.2])), (hw0_1, .inl (G.2.1, n0, .inl w0.1))] := by
  refine Ct.ofW (cc := cX0_mixInto) (maxL := 6) (ret := (some .long)) (own := RX0) (by decide) rfl rfl (Nat.le_of_ble_eq_true rfl) ?_
  intro p e s m args below meth c A hx hb hr hml hts hown hlocks hK hP hD hA hS ls hl
  have hl : lv_has ls 6 [(0, .ref hw0_0), (1, .long p1)] := hl
  generalize hQ : gMQ below G _ _ A args s = Q
  generalize hH : s.heap = H at hP ⊢
  have hS : va_S A s.heap H [] := by rw [← hH]; exact hS
  generalize ([] : List Loc) = locs at hS ⊢
  unfold f_X0_mixInto at hf
  have hL13 : ∀ (k13 : Nat) (v5 : Int32) (v3 : Int64), f_X0_mixInto_L13 n0 w0 p1  k13 v5 v3 = some r → ∀ (H : Heap) (locs : List Loc), va_P G.1 vwCl [(hw0_0, .inr (0, [.ref hw0_1, .int w0.2])), (hw0_1, .inl (G.2.1, n0, .inl w0.1))] H → va_D A [(hw0_0, .inr (0, [.ref hw0_1, .int w0.2])), (hw0_1, .inl (G.2.1, n0, .inl w0.1))] → va_S A s.heap H locs → ∀ (ls : Array Slot), lv_has ls 6 [(5, .int v5), (3, .long v3), (0, .ref hw0_0)] → W p l e (rm_X0_mixInto) s m args below meth c H locs 0 0 Q (F0 m 13 ls []) := by
    intro k13
    induction k13 with
    | zero =>
      intro v5 v3 hf
      rw [f_X0_mixInto_L13.eq_1] at hf; cases hf
    | succ k13 ih13 =>
      intro v5 v3 hf H locs hP hD hS ls hl
      rw [f_X0_mixInto_L13.eq_2] at hf
      refine lv_iload (pc := 13) hx hb dX0_mixInto_13 (lv_at hl 0 rfl) ?_
      refine lv_aload_n (pc := 15) hx hb dX0_mixInto_15 rfl (lv_at hl 2 rfl) ?_
      refine va_get (pc := 16) (D := G.1) (ci := 0) (v := .int w0.2) (C := RX0) (T := TX0) (N := 2) hx hb hts inX0 hown hK.1 hP 0 rfl rfl 1 (by decide) (hts _ wd_46) (fun _ h9 => h9) rfl dX0_mixInto_16 ?_
      refine lv_icmp_ge (pc := 19) (tgt := 40) hx hb dX0_mixInto_19 (by decide) (fun hc => ?_) (fun hc => ?_)
      · have hf := br_y hc hf
        refine lv_lload_n (pc := 40) hx hb dX0_mixInto_40 rfl (lv_at hl 1 rfl) ?_
        have hf := Option.some.inj hf; subst hf
        rw [← hQ]
        exact g_lret hx hb hr hlocks hP hS dX0_mixInto_41
      · have hf := br_n hc hf
        refine lv_lload_n (pc := 22) hx hb dX0_mixInto_22 rfl (lv_at hl 1 rfl) ?_
        refine lv_aload_n (pc := 23) hx hb dX0_mixInto_23 rfl (lv_at hl 2 rfl) ?_
        refine lv_iload (pc := 24) hx hb dX0_mixInto_24 (lv_at hl 0 rfl) ?_
        obtain ⟨x2, hcx2, hf⟩ := bn_some hf
        refine g_callV0 (pc := 26) (rest := [.long v3]) hx hb hml hown hts hK (c_X0_at l G hw0_0 hw0_1 n0 w0 v5 hcx2) wd_311 wd_3 wd_308 wd_309 wd_310 hd_X0_at ⟨rfl, rfl, Nat.le_of_ble_eq_true rfl, Nat.le_of_ble_eq_true rfl⟩ hP hD hS hA [0, 1] rfl rfl 0 0 rfl rfl rfl rfl hl.1 rfl (Nat.le_of_ble_eq_true rfl) dX0_mixInto_26 ⟨Nat.zero_le _, Nat.zero_le _⟩ (fun H locs hP hS => ?_)
        refine lv_i2l (pc := 29) (v := x2.toInt64) hx hb dX0_mixInto_29 rfl ?_
        obtain ⟨x3, hcx3, hf⟩ := bn_some hf
        refine g_callSN0 (pc := 30) (rest := []) hx hb hml hown hts hK (c_X10_mix l G  v3 x2.toInt64 hcx3) wd_454 wd_1 (nmw_452 hK) wd_453 hd_X10_mix ⟨rfl, rfl, Nat.le_of_ble_eq_true rfl, Nat.le_of_ble_eq_true rfl⟩ hP hD hS hA [] rfl rfl rfl hl.1 rfl (Nat.le_of_ble_eq_true rfl) dX0_mixInto_30 ⟨Nat.zero_le _, Nat.zero_le _⟩ (fun H locs hP hS => ?_)
        refine lv_lstore_n (pc := 33) (lv' := [(3, .long x3), (5, .int v5), (0, .ref hw0_0)]) hx hb dX0_mixInto_33 rfl hl (by decide) rfl (fun ls hl => ?_)
        refine lv_iinc (pc := 34) (v := (v5 + (1 : Int32))) (lv' := [(5, .int (v5 + (1 : Int32))), (3, .long x3), (0, .ref hw0_0)]) hx hb dX0_mixInto_34 hl (k := 1) rfl rfl (by decide) rfl (fun ls hl => ?_)
        refine lv_goto (pc := 37) (tgt := 13) hx hb dX0_mixInto_37 (by decide) ?_
        exact ih13 (v5 + (1 : Int32)) x3 hf H locs hP hD hS ls (lv_sub hl [0, 1, 2] rfl)
  refine lv_lload_n (pc := 0) hx hb dX0_mixInto_0 rfl (lv_at hl 1 rfl) ?_
  refine lv_aload_n (pc := 1) hx hb dX0_mixInto_1 rfl (lv_at hl 0 rfl) ?_
  refine va_get (pc := 2) (D := G.1) (ci := 0) (v := .int w0.2) (C := RX0) (T := TX0) (N := 2) hx hb hts inX0 hown hK.1 hP 0 rfl rfl 1 (by decide) (hts _ wd_46) (fun _ h9 => h9) rfl dX0_mixInto_2 ?_
  refine lv_i2l (pc := 5) (v := w0.2.toInt64) hx hb dX0_mixInto_5 rfl ?_
  obtain ⟨x1, hcx1, hf⟩ := bn_some hf
  refine g_callSN0 (pc := 6) (rest := []) hx hb hml hown hts hK (c_X10_mix l G  p1 w0.2.toInt64 hcx1) wd_454 wd_1 (nmw_452 hK) wd_453 hd_X10_mix ⟨rfl, rfl, Nat.le_of_ble_eq_true rfl, Nat.le_of_ble_eq_true rfl⟩ hP hD hS hA [] rfl rfl rfl hl.1 rfl (Nat.le_of_ble_eq_true rfl) dX0_mixInto_6 ⟨Nat.zero_le _, Nat.zero_le _⟩ (fun H locs hP hS => ?_)
  refine lv_lstore_n (pc := 9) (lv' := [(3, .long x1), (0, .ref hw0_0), (1, .long p1)]) hx hb dX0_mixInto_9 rfl hl (by decide) rfl (fun ls hl => ?_)
  refine lv_iconst (pc := 10) (v := (0 : Int32)) hx hb dX0_mixInto_10 (by decide) ?_
  refine lv_istore (pc := 11) (lv' := [(5, .int (0 : Int32)), (3, .long x1), (0, .ref hw0_0), (1, .long p1)]) hx hb dX0_mixInto_11 hl (by decide) rfl (fun ls hl => ?_)
  exact hL13 FUEL (0 : Int32) x1 hf H locs hP hD hS ls (lv_sub hl [0, 1, 2] rfl)
