theorem hd_X11_thrown : yX11_thrown.cls ≠ "java/lang/invoke/MethodHandle" ∧ yX11_thrown.cls ≠ "java/lang/invoke/VarHandle" ∧ (parseMethodDescriptor yX11_thrown.desc).map (fun d => d.parameters.length) = some 0 := by decide +kernel
abbrev rm_X11_thrown : Room := { frames := 0, cells := 0, slots := 0, locals := 0 }
noncomputable def f_X11_thrown (w0 : TModel) : Option Int32 :=
  some w0.2.2.2.1
set_option maxHeartbeats 4000000 in
set_option maxRecDepth 100000 in
theorem c_X11_thrown (l : Launch) (G : GT) (hw0_0 hw0_1 hw0_2 hw0_3 hw0_4 hw0_5 hw0_6 hw0_7 hw0_8 : Nat) (w0 : TModel) {r : Int32} (hf : f_X11_thrown w0 = some r) : Ct l yX11_thrown (Cond.code yX11_thrown cX11_thrown 1 (some .int) :: lw_g) rm_X11_thrown G [.ref hw0_0] [(hw0_0, .inr (8, [.ref hw0_1, .ref hw0_2, .int w0.2.2.1, .int w0.2.2.2.1, .ref hw0_3, .ref hw0_4, .int w0.2.2.2.2.2.2.1, .int w0.2.2.2.2.2.2.2.1, .int w0.2.2.2.2.2.2.2.2.1, .ref hw0_5, .ref hw0_6, .ref hw0_7, .int w0.2.2.2.2.2.2.2.2.2.2.2.2.1, .ref hw0_8])), (hw0_1, .inl (G.2.1, 617, .inl w0.1)), (hw0_2, .inl (G.2.1, 2468, .inl w0.2.1)), (hw0_3, .inl (G.2.1, 30, .inl w0.2.2.2.2.1)), (hw0_4, .inl (G.2.1, 4000, .inl w0.2.2.2.2.2.1)), (hw0_5, .inl (G.2.1, 120, .inl w0.2.2.2.2.2.2.2.2.2.1)), (hw0_6, .inl (G.2.1, 64, .inl w0.2.2.2.2.2.2.2.2.2.2.1)), (hw0_7, .inl (G.2.2.1, 64, .inl w0.2.2.2.2.2.2.2.2.2.2.2.1)), (hw0_8, .inl (G.2.1, 64, .inl w0.2.2.2.2.2.2.2.2.2.2.2.2.2))] (some (.int r)) [(hw0_0, .inr (8, [.ref hw0_1, .ref hw0_2, .int w0.2.2.1, .int w0.2.2.2.1, .ref hw0_3, .ref hw0_4, .int w0.2.2.2.2.2.2.1, .int w0.2.2.2.2.2.2.2.1, .int w0.2.2.2.2.2.2.2.2.1, .ref hw0_5, .ref hw0_6, .ref hw0_7, .int w0.2.2.2.2.2.2.2.2.2.2.2.2.1, .ref hw0_8])), (hw0_1, .inl (G.2.1, 617, .inl w0.1)), (hw0_2, .inl (G.2.1, 2468, .inl w0.2.1)), (hw0_3, .inl (G.2.1, 30, .inl w0.2.2.2.2.1)), (hw0_4, .inl (G.2.1, 4000, .inl w0.2.2.2.2.2.1)), (hw0_5, .inl (G.2.1, 120, .inl w0.2.2.2.2.2.2.2.2.2.1)), (hw0_6, .inl (G.2.1, 64, .inl w0.2.2.2.2.2.2.2.2.2.2.1)), (hw0_7, .inl (G.2.2.1, 64, .inl w0.2.2.2.2.2.2.2.2.2.2.2.1)), (hw0_8, .inl (G.2.1, 64, .inl w0.2.2.2.2.2.2.2.2.2.2.2.2.2))] := by
  refine Ct.ofW (cc := cX11_thrown) (maxL := 1) (ret := (some .int)) (own := RX11) (by decide) rfl rfl (Nat.le_of_ble_eq_true rfl) ?_
  intro p e s m args below meth c A hx hb hr hml hts hown hlocks hK hP hD hA hS ls hl
  have hl : lv_has ls 1 [(0, .ref hw0_0)] := hl
  generalize hQ : gMQ below G _ _ A args s = Q
  generalize hH : s.heap = H at hP ⊢
  have hS : va_S A s.heap H [] := by rw [← hH]; exact hS
  generalize ([] : List Loc) = locs at hS ⊢
  unfold f_X11_thrown at hf
  refine lv_aload_n (pc := 0) hx hb dX11_thrown_0 rfl (lv_at hl 0 rfl) ?_
  refine va_get (pc := 1) (D := G.1) (ci := 8) (v := .int w0.2.2.2.1) (C := RX11) (T := TX11) (N := 14) hx hb hts inX11 hown hK.1 hP 0 rfl rfl 3 (by decide) (hts _ wd_883) (fun _ h9 => h9) rfl dX11_thrown_1 ?_
  have hf := Option.some.inj hf; subst hf
  rw [← hQ]
  exact g_iret hx hb hr hlocks hP hS dX11_thrown_4
theorem hd_X11_in : yX11_in.cls ≠ "java/lang/invoke/MethodHandle" ∧ yX11_in.cls ≠ "java/lang/invoke/VarHandle" ∧ (parseMethodDescriptor yX11_in.desc).map (fun d => d.parameters.length) = some 3 := by decide +kernel
abbrev rm_X11_in : Room := { frames := 0, cells := 0, slots := 0, locals := 0 }
noncomputable def f_X11_in (p0 : Int64) (p1 : Int64) (p2 : Int64) : Option Int32 :=
  br ((lg_cmp p0 p1) < 0) (some (0 : Int32)) (br (0 < (lg_cmp p0 p2)) (some (0 : Int32)) (some (1 : Int32)))
set_option maxHeartbeats 4000000 in
set_option maxRecDepth 100000 in
theorem c_X11_in (l : Launch) (G : GT)  (p0 : Int64) (p1 : Int64) (p2 : Int64) {r : Int32} (hf : f_X11_in p0 p1 p2 = some r) : Ct l yX11_in (Cond.code yX11_in cX11_in 6 (some .boolean) :: lw_g) rm_X11_in G [.long p0, .long p1, .long p2] [] (some (.int r)) [] := by
  refine Ct.ofW (cc := cX11_in) (maxL := 6) (ret := (some .boolean)) (own := RX11) (by decide) rfl rfl (Nat.le_of_ble_eq_true rfl) ?_
  intro p e s m args below meth c A hx hb hr hml hts hown hlocks hK hP hD hA hS ls hl
  have hl : lv_has ls 6 [(0, .long p0), (2, .long p1), (4, .long p2)] := hl
  generalize hQ : gMQ below G _ _ A args s = Q
  generalize hH : s.heap = H at hP ⊢
  have hS : va_S A s.heap H [] := by rw [← hH]; exact hS
  generalize ([] : List Loc) = locs at hS ⊢
  unfold f_X11_in at hf
  refine lv_lload_n (pc := 0) hx hb dX11_in_0 rfl (lv_at hl 0 rfl) ?_
  refine lv_lload_n (pc := 1) hx hb dX11_in_1 rfl (lv_at hl 1 rfl) ?_
  refine W.lcmp (pc := 2) hx hb dX11_in_2 ?_
  refine lv_if_lt (pc := 3) (tgt := 17) hx hb dX11_in_3 (by decide) (fun hc => ?_) (fun hc => ?_)
  · have hf := br_y hc hf
    refine lv_iconst (pc := 17) (v := (0 : Int32)) hx hb dX11_in_17 (by decide) ?_
    have hf := Option.some.inj hf; subst hf
    rw [← hQ]
    exact g_zret (v := (0 : Int32)) hx hb hr hlocks rfl hP hS dX11_in_18
  · have hf := br_n hc hf
    refine lv_lload_n (pc := 6) hx hb dX11_in_6 rfl (lv_at hl 0 rfl) ?_
    refine lv_lload (pc := 7) hx hb dX11_in_7 (lv_at hl 2 rfl) ?_
    refine W.lcmp (pc := 9) hx hb dX11_in_9 ?_
    refine lv_if_gt (pc := 10) (tgt := 17) hx hb dX11_in_10 (by decide) (fun hc => ?_) (fun hc => ?_)
    · have hf := br_y hc hf
      refine lv_iconst (pc := 17) (v := (0 : Int32)) hx hb dX11_in_17 (by decide) ?_
      have hf := Option.some.inj hf; subst hf
      rw [← hQ]
      exact g_zret (v := (0 : Int32)) hx hb hr hlocks rfl hP hS dX11_in_18
    · have hf := br_n hc hf
      refine lv_iconst (pc := 13) (v := (1 : Int32)) hx hb dX11_in_13 (by decide) ?_
      refine lv_goto (pc := 14) (tgt := 18) hx hb dX11_in_14 (by decide) ?_
      have hf := Option.some.inj hf; subst hf
      rw [← hQ]
      exact g_zret (v := (1 : Int32)) hx hb hr hlocks rfl hP hS dX11_in_18
theorem hd_X11_goes : yX11_goes.cls ≠ "java/lang/invoke/MethodHandle" ∧ yX11_goes.cls ≠ "java/lang/invoke/VarHandle" ∧ (parseMethodDescriptor yX11_goes.desc).map (fun d => d.parameters.length) = some 2 := by decide +kernel
abbrev rm_X11_goes : Room := { frames := 0, cells := 0, slots := 0, locals := 0 }
noncomputable def f_X11_goes_J18 (p1 : Int32) (p2 : Int32)  (w0 : TModel) (s0 : Int32) : Option (Int32 × TModel) :=
  br (s0 = 0) (some ((1 : Int32), (w0.1, w0.2.1, w0.2.2.1, s0, w0.2.2.2.2.1, w0.2.2.2.2.2.1, w0.2.2.2.2.2.2.1, w0.2.2.2.2.2.2.2.1, w0.2.2.2.2.2.2.2.2.1, w0.2.2.2.2.2.2.2.2.2.1, w0.2.2.2.2.2.2.2.2.2.2.1, w0.2.2.2.2.2.2.2.2.2.2.2.1, w0.2.2.2.2.2.2.2.2.2.2.2.2.1, w0.2.2.2.2.2.2.2.2.2.2.2.2.2))) (some ((0 : Int32), (w0.1, w0.2.1, w0.2.2.1, s0, w0.2.2.2.2.1, w0.2.2.2.2.2.1, w0.2.2.2.2.2.2.1, w0.2.2.2.2.2.2.2.1, w0.2.2.2.2.2.2.2.2.1, w0.2.2.2.2.2.2.2.2.2.1, w0.2.2.2.2.2.2.2.2.2.2.1, w0.2.2.2.2.2.2.2.2.2.2.2.1, w0.2.2.2.2.2.2.2.2.2.2.2.2.1, w0.2.2.2.2.2.2.2.2.2.2.2.2.2)))
noncomputable def f_X11_goes (w0 : TModel) (p1 : Int32) (p2 : Int32) : Option (Int32 × TModel) :=
  br (p1 = 0) (f_X11_goes_J18 p1 p2 w0 (1 : Int32)) (br (p2 = 0) (f_X11_goes_J18 p1 p2 w0 (2 : Int32)) (f_X11_goes_J18 p1 p2 w0 (0 : Int32)))
set_option maxHeartbeats 4000000 in
set_option maxRecDepth 100000 in
theorem c_X11_goes (l : Launch) (G : GT) (hw0_0 hw0_1 hw0_2 hw0_3 hw0_4 hw0_5 hw0_6 hw0_7 hw0_8 : Nat) (w0 : TModel) (p1 : Int32) (p2 : Int32) {r : Int32 × TModel} (hf : f_X11_goes w0 p1 p2 = some r) : Ct l yX11_goes (Cond.code yX11_goes cX11_goes 3 (some .boolean) :: lw_g) rm_X11_goes G [.ref hw0_0, .int p1, .int p2] [(hw0_0, .inr (8, [.ref hw0_1, .ref hw0_2, .int w0.2.2.1, .int w0.2.2.2.1, .ref hw0_3, .ref hw0_4, .int w0.2.2.2.2.2.2.1, .int w0.2.2.2.2.2.2.2.1, .int w0.2.2.2.2.2.2.2.2.1, .ref hw0_5, .ref hw0_6, .ref hw0_7, .int w0.2.2.2.2.2.2.2.2.2.2.2.2.1, .ref hw0_8])), (hw0_1, .inl (G.2.1, 617, .inl w0.1)), (hw0_2, .inl (G.2.1, 2468, .inl w0.2.1)), (hw0_3, .inl (G.2.1, 30, .inl w0.2.2.2.2.1)), (hw0_4, .inl (G.2.1, 4000, .inl w0.2.2.2.2.2.1)), (hw0_5, .inl (G.2.1, 120, .inl w0.2.2.2.2.2.2.2.2.2.1)), (hw0_6, .inl (G.2.1, 64, .inl w0.2.2.2.2.2.2.2.2.2.2.1)), (hw0_7, .inl (G.2.2.1, 64, .inl w0.2.2.2.2.2.2.2.2.2.2.2.1)), (hw0_8, .inl (G.2.1, 64, .inl w0.2.2.2.2.2.2.2.2.2.2.2.2.2))] (some (.int r.1)) [(hw0_0, .inr (8, [.ref hw0_1, .ref hw0_2, .int r.2.2.2.1, .int r.2.2.2.2.1, .ref hw0_3, .ref hw0_4, .int r.2.2.2.2.2.2.2.1, .int r.2.2.2.2.2.2.2.2.1, .int r.2.2.2.2.2.2.2.2.2.1, .ref hw0_5, .ref hw0_6, .ref hw0_7, .int r.2.2.2.2.2.2.2.2.2.2.2.2.2.1, .ref hw0_8])), (hw0_1, .inl (G.2.1, 617, .inl r.2.1)), (hw0_2, .inl (G.2.1, 2468, .inl r.2.2.1)), (hw0_3, .inl (G.2.1, 30, .inl r.2.2.2.2.2.1)), (hw0_4, .inl (G.2.1, 4000, .inl r.2.2.2.2.2.2.1)), (hw0_5, .inl (G.2.1, 120, .inl r.2.2.2.2.2.2.2.2.2.2.1)), (hw0_6, .inl (G.2.1, 64, .inl r.2.2.2.2.2.2.2.2.2.2.2.1)), (hw0_7, .inl (G.2.2.1, 64, .inl r.2.2.2.2.2.2.2.2.2.2.2.2.1)), (hw0_8, .inl (G.2.1, 64, .inl r.2.2.2.2.2.2.2.2.2.2.2.2.2.2))] := by
  refine Ct.ofW (cc := cX11_goes) (maxL := 3) (ret := (some .boolean)) (own := RX11) (by decide) rfl rfl (Nat.le_of_ble_eq_true rfl) ?_
  intro p e s m args below meth c A hx hb hr hml hts hown hlocks hK hP hD hA hS ls hl
  have hl : lv_has ls 3 [(0, .ref hw0_0), (1, .int p1), (2, .int p2)] := hl
  generalize hQ : gMQ below G _ _ A args s = Q
  generalize hH : s.heap = H at hP ⊢
  have hS : va_S A s.heap H [] := by rw [← hH]; exact hS
  generalize ([] : List Loc) = locs at hS ⊢
  unfold f_X11_goes at hf
  have hJ18 : ∀ (w0 : TModel) (s0 : Int32), f_X11_goes_J18 p1 p2  w0 s0 = some r → ∀ (H : Heap) (locs : List Loc), va_P G.1 vwCl [(hw0_0, .inr (8, [.ref hw0_1, .ref hw0_2, .int w0.2.2.1, .int w0.2.2.2.1, .ref hw0_3, .ref hw0_4, .int w0.2.2.2.2.2.2.1, .int w0.2.2.2.2.2.2.2.1, .int w0.2.2.2.2.2.2.2.2.1, .ref hw0_5, .ref hw0_6, .ref hw0_7, .int w0.2.2.2.2.2.2.2.2.2.2.2.2.1, .ref hw0_8])), (hw0_1, .inl (G.2.1, 617, .inl w0.1)), (hw0_2, .inl (G.2.1, 2468, .inl w0.2.1)), (hw0_3, .inl (G.2.1, 30, .inl w0.2.2.2.2.1)), (hw0_4, .inl (G.2.1, 4000, .inl w0.2.2.2.2.2.1)), (hw0_5, .inl (G.2.1, 120, .inl w0.2.2.2.2.2.2.2.2.2.1)), (hw0_6, .inl (G.2.1, 64, .inl w0.2.2.2.2.2.2.2.2.2.2.1)), (hw0_7, .inl (G.2.2.1, 64, .inl w0.2.2.2.2.2.2.2.2.2.2.2.1)), (hw0_8, .inl (G.2.1, 64, .inl w0.2.2.2.2.2.2.2.2.2.2.2.2.2))] H → va_D A [(hw0_0, .inr (8, [.ref hw0_1, .ref hw0_2, .int w0.2.2.1, .int w0.2.2.2.1, .ref hw0_3, .ref hw0_4, .int w0.2.2.2.2.2.2.1, .int w0.2.2.2.2.2.2.2.1, .int w0.2.2.2.2.2.2.2.2.1, .ref hw0_5, .ref hw0_6, .ref hw0_7, .int w0.2.2.2.2.2.2.2.2.2.2.2.2.1, .ref hw0_8])), (hw0_1, .inl (G.2.1, 617, .inl w0.1)), (hw0_2, .inl (G.2.1, 2468, .inl w0.2.1)), (hw0_3, .inl (G.2.1, 30, .inl w0.2.2.2.2.1)), (hw0_4, .inl (G.2.1, 4000, .inl w0.2.2.2.2.2.1)), (hw0_5, .inl (G.2.1, 120, .inl w0.2.2.2.2.2.2.2.2.2.1)), (hw0_6, .inl (G.2.1, 64, .inl w0.2.2.2.2.2.2.2.2.2.2.1)), (hw0_7, .inl (G.2.2.1, 64, .inl w0.2.2.2.2.2.2.2.2.2.2.2.1)), (hw0_8, .inl (G.2.1, 64, .inl w0.2.2.2.2.2.2.2.2.2.2.2.2.2))] → va_S A s.heap H locs → ∀ (ls : Array Slot), lv_has ls 3 [(0, .ref hw0_0)] → W p l e (rm_X11_goes) s m args below meth c H locs 0 0 Q (F0 m 18 ls [.int s0, .ref hw0_0]) := by
    intro w0 s0 hf H locs hP hD hS ls hl
    unfold f_X11_goes_J18 at hf
    refine va_put (pc := 18) (D := G.1) (ci := 8) (v := .int s0) (ty := .int) (C := RX11) (T := TX11) (N := 14) hx hb hts inX11 tyX11 tyX11_ok nmX11 hown hK.1 hP hD hS 0 rfl rfl 3 (by decide) (hts _ wd_883) (fun _ h9 => h9) rfl (by decide +kernel) rfl rfl (Nat.le_of_ble_eq_true rfl) dX11_goes_18 (fun H locs hP hD hS => ?_)
    have hP : va_P G.1 vwCl [(hw0_0, .inr (8, [.ref hw0_1, .ref hw0_2, .int w0.2.2.1, .int s0, .ref hw0_3, .ref hw0_4, .int w0.2.2.2.2.2.2.1, .int w0.2.2.2.2.2.2.2.1, .int w0.2.2.2.2.2.2.2.2.1, .ref hw0_5, .ref hw0_6, .ref hw0_7, .int w0.2.2.2.2.2.2.2.2.2.2.2.2.1, .ref hw0_8])), (hw0_1, .inl (G.2.1, 617, .inl w0.1)), (hw0_2, .inl (G.2.1, 2468, .inl w0.2.1)), (hw0_3, .inl (G.2.1, 30, .inl w0.2.2.2.2.1)), (hw0_4, .inl (G.2.1, 4000, .inl w0.2.2.2.2.2.1)), (hw0_5, .inl (G.2.1, 120, .inl w0.2.2.2.2.2.2.2.2.2.1)), (hw0_6, .inl (G.2.1, 64, .inl w0.2.2.2.2.2.2.2.2.2.2.1)), (hw0_7, .inl (G.2.2.1, 64, .inl w0.2.2.2.2.2.2.2.2.2.2.2.1)), (hw0_8, .inl (G.2.1, 64, .inl w0.2.2.2.2.2.2.2.2.2.2.2.2.2))] H := hP
    have hD : va_D A [(hw0_0, .inr (8, [.ref hw0_1, .ref hw0_2, .int w0.2.2.1, .int s0, .ref hw0_3, .ref hw0_4, .int w0.2.2.2.2.2.2.1, .int w0.2.2.2.2.2.2.2.1, .int w0.2.2.2.2.2.2.2.2.1, .ref hw0_5, .ref hw0_6, .ref hw0_7, .int w0.2.2.2.2.2.2.2.2.2.2.2.2.1, .ref hw0_8])), (hw0_1, .inl (G.2.1, 617, .inl w0.1)), (hw0_2, .inl (G.2.1, 2468, .inl w0.2.1)), (hw0_3, .inl (G.2.1, 30, .inl w0.2.2.2.2.1)), (hw0_4, .inl (G.2.1, 4000, .inl w0.2.2.2.2.2.1)), (hw0_5, .inl (G.2.1, 120, .inl w0.2.2.2.2.2.2.2.2.2.1)), (hw0_6, .inl (G.2.1, 64, .inl w0.2.2.2.2.2.2.2.2.2.2.1)), (hw0_7, .inl (G.2.2.1, 64, .inl w0.2.2.2.2.2.2.2.2.2.2.2.1)), (hw0_8, .inl (G.2.1, 64, .inl w0.2.2.2.2.2.2.2.2.2.2.2.2.2))] := hD
    refine lv_aload_n (pc := 21) hx hb dX11_goes_21 rfl (lv_at hl 0 rfl) ?_
    refine va_get (pc := 22) (D := G.1) (ci := 8) (v := .int s0) (C := RX11) (T := TX11) (N := 14) hx hb hts inX11 hown hK.1 hP 0 rfl rfl 3 (by decide) (hts _ wd_883) (fun _ h9 => h9) rfl dX11_goes_22 ?_
    refine lv_if_ne (pc := 25) (tgt := 32) hx hb dX11_goes_25 (by decide) (fun hc => ?_) (fun hc => ?_)
    · have hf := br_n hc hf
      refine lv_iconst (pc := 32) (v := (0 : Int32)) hx hb dX11_goes_32 (by decide) ?_
      have hf := Option.some.inj hf; subst hf
      rw [← hQ]
      exact g_zret (v := (0 : Int32)) hx hb hr hlocks rfl hP hS dX11_goes_33
    · have hf := br_y hc hf
      refine lv_iconst (pc := 28) (v := (1 : Int32)) hx hb dX11_goes_28 (by decide) ?_
      refine lv_goto (pc := 29) (tgt := 33) hx hb dX11_goes_29 (by decide) ?_
      have hf := Option.some.inj hf; subst hf
      rw [← hQ]
      exact g_zret (v := (1 : Int32)) hx hb hr hlocks rfl hP hS dX11_goes_33
  refine lv_aload_n (pc := 0) hx hb dX11_goes_0 rfl (lv_at hl 0 rfl) ?_
  refine lv_iload_n (pc := 1) hx hb dX11_goes_1 rfl (lv_at hl 1 rfl) ?_
  refine lv_if_ne (pc := 2) (tgt := 9) hx hb dX11_goes_2 (by decide) (fun hc => ?_) (fun hc => ?_)
  · have hf := br_n hc hf
    refine lv_iload_n (pc := 9) hx hb dX11_goes_9 rfl (lv_at hl 2 rfl) ?_
    refine lv_if_ne (pc := 10) (tgt := 17) hx hb dX11_goes_10 (by decide) (fun hc => ?_) (fun hc => ?_)
    · have hf := br_n hc hf
      refine lv_iconst (pc := 17) (v := (0 : Int32)) hx hb dX11_goes_17 (by decide) ?_
      exact hJ18 w0 (0 : Int32) hf H locs hP hD hS ls (lv_sub hl [0] rfl)
    · have hf := br_y hc hf
      refine lv_iconst (pc := 13) (v := (2 : Int32)) hx hb dX11_goes_13 (by decide) ?_
      refine lv_goto (pc := 14) (tgt := 18) hx hb dX11_goes_14 (by decide) ?_
      exact hJ18 w0 (2 : Int32) hf H locs hP hD hS ls (lv_sub hl [0] rfl)
  · have hf := br_y hc hf
    refine lv_iconst (pc := 5) (v := (1 : Int32)) hx hb dX11_goes_5 (by decide) ?_
    refine lv_goto (pc := 6) (tgt := 18) hx hb dX11_goes_6 (by decide) ?_
    exact hJ18 w0 (1 : Int32) hf H locs hP hD hS ls (lv_sub hl [0] rfl)
theorem hd_X11_save : yX11_save.cls ≠ "java/lang/invoke/MethodHandle" ∧ yX11_save.cls ≠ "java/lang/invoke/VarHandle" ∧ (parseMethodDescriptor yX11_save.desc).map (fun d => d.parameters.length) = some 0 := by decide +kernel
abbrev rm_X11_save : Room := { frames := 0, cells := 0, slots := 0, locals := 0 }
noncomputable def f_X11_save_L51   : Nat → TModel → Int32 → Option TModel
  | 0, _, _ => none
  | k51 + 1, w0, v1 =>
    br ((617 : Int32) ≤ v1) (some (w0.1, w0.2.1, (w0.2.2.1 + (1 : Int32)), w0.2.2.2.1, w0.2.2.2.2.1, w0.2.2.2.2.2.1, w0.2.2.2.2.2.2.1, w0.2.2.2.2.2.2.2.1, w0.2.2.2.2.2.2.2.2.1, w0.2.2.2.2.2.2.2.2.2.1, w0.2.2.2.2.2.2.2.2.2.2.1, w0.2.2.2.2.2.2.2.2.2.2.2.1, w0.2.2.2.2.2.2.2.2.2.2.2.2.1, w0.2.2.2.2.2.2.2.2.2.2.2.2.2)) (gd (vp_in v1 617) (gd (vp_in (((617 : Int32) * w0.2.2.1) + v1) 2468) (f_X11_save_L51   k51 (w0.1, (upd w0.2.1 (((617 : Int32) * w0.2.2.1) + v1).toNatClampNeg (w0.1 v1.toNatClampNeg)), w0.2.2.1, w0.2.2.2.1, w0.2.2.2.2.1, w0.2.2.2.2.2.1, w0.2.2.2.2.2.2.1, w0.2.2.2.2.2.2.2.1, w0.2.2.2.2.2.2.2.2.1, w0.2.2.2.2.2.2.2.2.2.1, w0.2.2.2.2.2.2.2.2.2.2.1, w0.2.2.2.2.2.2.2.2.2.2.2.1, w0.2.2.2.2.2.2.2.2.2.2.2.2.1, w0.2.2.2.2.2.2.2.2.2.2.2.2.2) (v1 + (1 : Int32)))))
noncomputable def f_X11_save_J49   (w0 : TModel) : Option TModel :=
  f_X11_save_L51  FUEL w0 (0 : Int32)
noncomputable def f_X11_save_L10   : Nat → TModel → Int32 → Option TModel
  | 0, _, _ => none
  | k10 + 1, w0, v1 =>
    br ((1851 : Int32) ≤ v1) (f_X11_save_J49  (w0.1, w0.2.1, (w0.2.2.1 - (1 : Int32)), w0.2.2.2.1, w0.2.2.2.2.1, w0.2.2.2.2.2.1, w0.2.2.2.2.2.2.1, w0.2.2.2.2.2.2.2.1, w0.2.2.2.2.2.2.2.2.1, w0.2.2.2.2.2.2.2.2.2.1, w0.2.2.2.2.2.2.2.2.2.2.1, w0.2.2.2.2.2.2.2.2.2.2.2.1, w0.2.2.2.2.2.2.2.2.2.2.2.2.1, w0.2.2.2.2.2.2.2.2.2.2.2.2.2)) (gd (vp_in (v1 + (617 : Int32)) 2468) (gd (vp_in v1 2468) (f_X11_save_L10   k10 (w0.1, (upd w0.2.1 v1.toNatClampNeg (w0.2.1 (v1 + (617 : Int32)).toNatClampNeg)), w0.2.2.1, w0.2.2.2.1, w0.2.2.2.2.1, w0.2.2.2.2.2.1, w0.2.2.2.2.2.2.1, w0.2.2.2.2.2.2.2.1, w0.2.2.2.2.2.2.2.2.1, w0.2.2.2.2.2.2.2.2.2.1, w0.2.2.2.2.2.2.2.2.2.2.1, w0.2.2.2.2.2.2.2.2.2.2.2.1, w0.2.2.2.2.2.2.2.2.2.2.2.2.1, w0.2.2.2.2.2.2.2.2.2.2.2.2.2) (v1 + (1 : Int32)))))
noncomputable def f_X11_save (w0 : TModel) : Option TModel :=
  br (w0.2.2.1 = (4 : Int32)) (f_X11_save_L10  FUEL w0 (0 : Int32)) (f_X11_save_J49  w0)
set_option maxHeartbeats 4000000 in
set_option maxRecDepth 100000 in
theorem c_X11_save (l : Launch) (G : GT) (hw0_0 hw0_1 hw0_2 hw0_3 hw0_4 hw0_5 hw0_6 hw0_7 hw0_8 : Nat) (w0 : TModel) {r : TModel} (hf : f_X11_save w0 = some r) : Ct l yX11_save (Cond.code yX11_save cX11_save 2 none :: lw_g) rm_X11_save G [.ref hw0_0] [(hw0_0, .inr (8, [.ref hw0_1, .ref hw0_2, .int w0.2.2.1, .int w0.2.2.2.1, .ref hw0_3, .ref hw0_4, .int w0.2.2.2.2.2.2.1, .int w0.2.2.2.2.2.2.2.1, .int w0.2.2.2.2.2.2.2.2.1, .ref hw0_5, .ref hw0_6, .ref hw0_7, .int w0.2.2.2.2.2.2.2.2.2.2.2.2.1, .ref hw0_8])), (hw0_1, .inl (G.2.1, 617, .inl w0.1)), (hw0_2, .inl (G.2.1, 2468, .inl w0.2.1)), (hw0_3, .inl (G.2.1, 30, .inl w0.2.2.2.2.1)), (hw0_4, .inl (G.2.1, 4000, .inl w0.2.2.2.2.2.1)), (hw0_5, .inl (G.2.1, 120, .inl w0.2.2.2.2.2.2.2.2.2.1)), (hw0_6, .inl (G.2.1, 64, .inl w0.2.2.2.2.2.2.2.2.2.2.1)), (hw0_7, .inl (G.2.2.1, 64, .inl w0.2.2.2.2.2.2.2.2.2.2.2.1)), (hw0_8, .inl (G.2.1, 64, .inl w0.2.2.2.2.2.2.2.2.2.2.2.2.2))] none [(hw0_0, .inr (8, [.ref hw0_1, .ref hw0_2, .int r.2.2.1, .int r.2.2.2.1, .ref hw0_3, .ref hw0_4, .int r.2.2.2.2.2.2.1, .int r.2.2.2.2.2.2.2.1, .int r.2.2.2.2.2.2.2.2.1, .ref hw0_5, .ref hw0_6, .ref hw0_7, .int r.2.2.2.2.2.2.2.2.2.2.2.2.1, .ref hw0_8])), (hw0_1, .inl (G.2.1, 617, .inl r.1)), (hw0_2, .inl (G.2.1, 2468, .inl r.2.1)), (hw0_3, .inl (G.2.1, 30, .inl r.2.2.2.2.1)), (hw0_4, .inl (G.2.1, 4000, .inl r.2.2.2.2.2.1)), (hw0_5, .inl (G.2.1, 120, .inl r.2.2.2.2.2.2.2.2.2.1)), (hw0_6, .inl (G.2.1, 64, .inl r.2.2.2.2.2.2.2.2.2.2.1)), (hw0_7, .inl (G.2.2.1, 64, .inl r.2.2.2.2.2.2.2.2.2.2.2.1)), (hw0_8, .inl (G.2.1, 64, .inl r.2.2.2.2.2.2.2.2.2.2.2.2.2))] := by
  refine Ct.ofW (cc := cX11_save) (maxL := 2) (ret := none) (own := RX11) (by decide) rfl rfl (Nat.le_of_ble_eq_true rfl) ?_
  intro p e s m args below meth c A hx hb hr hml hts hown hlocks hK hP hD hA hS ls hl
  have hl : lv_has ls 2 [(0, .ref hw0_0)] := hl
  generalize hQ : gMQ below G _ _ A args s = Q
  generalize hH : s.heap = H at hP ⊢
  have hS : va_S A s.heap H [] := by rw [← hH]; exact hS
  generalize ([] : List Loc) = locs at hS ⊢
  unfold f_X11_save at hf
  have hL51 : ∀ (k51 : Nat) (w0 : TModel) (v1 : Int32), f_X11_save_L51   k51 w0 v1 = some r → ∀ (H : Heap) (locs : List Loc), va_P G.1 vwCl [(hw0_0, .inr (8, [.ref hw0_1, .ref hw0_2, .int w0.2.2.1, .int w0.2.2.2.1, .ref hw0_3, .ref hw0_4, .int w0.2.2.2.2.2.2.1, .int w0.2.2.2.2.2.2.2.1, .int w0.2.2.2.2.2.2.2.2.1, .ref hw0_5, .ref hw0_6, .ref hw0_7, .int w0.2.2.2.2.2.2.2.2.2.2.2.2.1, .ref hw0_8])), (hw0_1, .inl (G.2.1, 617, .inl w0.1)), (hw0_2, .inl (G.2.1, 2468, .inl w0.2.1)), (hw0_3, .inl (G.2.1, 30, .inl w0.2.2.2.2.1)), (hw0_4, .inl (G.2.1, 4000, .inl w0.2.2.2.2.2.1)), (hw0_5, .inl (G.2.1, 120, .inl w0.2.2.2.2.2.2.2.2.2.1)), (hw0_6, .inl (G.2.1, 64, .inl w0.2.2.2.2.2.2.2.2.2.2.1)), (hw0_7, .inl (G.2.2.1, 64, .inl w0.2.2.2.2.2.2.2.2.2.2.2.1)), (hw0_8, .inl (G.2.1, 64, .inl w0.2.2.2.2.2.2.2.2.2.2.2.2.2))] H → va_D A [(hw0_0, .inr (8, [.ref hw0_1, .ref hw0_2, .int w0.2.2.1, .int w0.2.2.2.1, .ref hw0_3, .ref hw0_4, .int w0.2.2.2.2.2.2.1, .int w0.2.2.2.2.2.2.2.1, .int w0.2.2.2.2.2.2.2.2.1, .ref hw0_5, .ref hw0_6, .ref hw0_7, .int w0.2.2.2.2.2.2.2.2.2.2.2.2.1, .ref hw0_8])), (hw0_1, .inl (G.2.1, 617, .inl w0.1)), (hw0_2, .inl (G.2.1, 2468, .inl w0.2.1)), (hw0_3, .inl (G.2.1, 30, .inl w0.2.2.2.2.1)), (hw0_4, .inl (G.2.1, 4000, .inl w0.2.2.2.2.2.1)), (hw0_5, .inl (G.2.1, 120, .inl w0.2.2.2.2.2.2.2.2.2.1)), (hw0_6, .inl (G.2.1, 64, .inl w0.2.2.2.2.2.2.2.2.2.2.1)), (hw0_7, .inl (G.2.2.1, 64, .inl w0.2.2.2.2.2.2.2.2.2.2.2.1)), (hw0_8, .inl (G.2.1, 64, .inl w0.2.2.2.2.2.2.2.2.2.2.2.2.2))] → va_S A s.heap H locs → ∀ (ls : Array Slot), lv_has ls 2 [(1, .int v1), (0, .ref hw0_0)] → W p l e (rm_X11_save) s m args below meth c H locs 0 0 Q (F0 m 51 ls []) := by
    intro k51
    induction k51 with
    | zero =>
      intro w0 v1 hf
      rw [f_X11_save_L51.eq_1] at hf; cases hf
    | succ k51 ih51 =>
      intro w0 v1 hf H locs hP hD hS ls hl
      rw [f_X11_save_L51.eq_2] at hf
      refine lv_iload_n (pc := 51) hx hb dX11_save_51 rfl (lv_at hl 0 rfl) ?_
      refine lv_sipush (pc := 52) (v := (617 : Int32)) hx hb dX11_save_52 (by decide) ?_
      refine lv_icmp_ge (pc := 55) (tgt := 85) hx hb dX11_save_55 (by decide) (fun hc => ?_) (fun hc => ?_)
      · have hf := br_y hc hf
        refine lv_aload_n (pc := 85) hx hb dX11_save_85 rfl (lv_at hl 1 rfl) ?_
        refine lv_dup (pc := 86) hx hb dX11_save_86 rfl ?_
        refine va_get (pc := 87) (D := G.1) (ci := 8) (v := .int w0.2.2.1) (C := RX11) (T := TX11) (N := 14) hx hb hts inX11 hown hK.1 hP 0 rfl rfl 2 (by decide) (hts _ wd_882) (fun _ h9 => h9) rfl dX11_save_87 ?_
        refine lv_iconst (pc := 90) (v := (1 : Int32)) hx hb dX11_save_90 (by decide) ?_
        refine lv_iadd (pc := 91) hx hb dX11_save_91 ?_
        refine va_put (pc := 92) (D := G.1) (ci := 8) (v := .int (w0.2.2.1 + (1 : Int32))) (ty := .int) (C := RX11) (T := TX11) (N := 14) hx hb hts inX11 tyX11 tyX11_ok nmX11 hown hK.1 hP hD hS 0 rfl rfl 2 (by decide) (hts _ wd_882) (fun _ h9 => h9) rfl (by decide +kernel) rfl rfl (Nat.le_of_ble_eq_true rfl) dX11_save_92 (fun H locs hP hD hS => ?_)
        have hP : va_P G.1 vwCl [(hw0_0, .inr (8, [.ref hw0_1, .ref hw0_2, .int (w0.2.2.1 + (1 : Int32)), .int w0.2.2.2.1, .ref hw0_3, .ref hw0_4, .int w0.2.2.2.2.2.2.1, .int w0.2.2.2.2.2.2.2.1, .int w0.2.2.2.2.2.2.2.2.1, .ref hw0_5, .ref hw0_6, .ref hw0_7, .int w0.2.2.2.2.2.2.2.2.2.2.2.2.1, .ref hw0_8])), (hw0_1, .inl (G.2.1, 617, .inl w0.1)), (hw0_2, .inl (G.2.1, 2468, .inl w0.2.1)), (hw0_3, .inl (G.2.1, 30, .inl w0.2.2.2.2.1)), (hw0_4, .inl (G.2.1, 4000, .inl w0.2.2.2.2.2.1)), (hw0_5, .inl (G.2.1, 120, .inl w0.2.2.2.2.2.2.2.2.2.1)), (hw0_6, .inl (G.2.1, 64, .inl w0.2.2.2.2.2.2.2.2.2.2.1)), (hw0_7, .inl (G.2.2.1, 64, .inl w0.2.2.2.2.2.2.2.2.2.2.2.1)), (hw0_8, .inl (G.2.1, 64, .inl w0.2.2.2.2.2.2.2.2.2.2.2.2.2))] H := hP
        have hD : va_D A [(hw0_0, .inr (8, [.ref hw0_1, .ref hw0_2, .int (w0.2.2.1 + (1 : Int32)), .int w0.2.2.2.1, .ref hw0_3, .ref hw0_4, .int w0.2.2.2.2.2.2.1, .int w0.2.2.2.2.2.2.2.1, .int w0.2.2.2.2.2.2.2.2.1, .ref hw0_5, .ref hw0_6, .ref hw0_7, .int w0.2.2.2.2.2.2.2.2.2.2.2.2.1, .ref hw0_8])), (hw0_1, .inl (G.2.1, 617, .inl w0.1)), (hw0_2, .inl (G.2.1, 2468, .inl w0.2.1)), (hw0_3, .inl (G.2.1, 30, .inl w0.2.2.2.2.1)), (hw0_4, .inl (G.2.1, 4000, .inl w0.2.2.2.2.2.1)), (hw0_5, .inl (G.2.1, 120, .inl w0.2.2.2.2.2.2.2.2.2.1)), (hw0_6, .inl (G.2.1, 64, .inl w0.2.2.2.2.2.2.2.2.2.2.1)), (hw0_7, .inl (G.2.2.1, 64, .inl w0.2.2.2.2.2.2.2.2.2.2.2.1)), (hw0_8, .inl (G.2.1, 64, .inl w0.2.2.2.2.2.2.2.2.2.2.2.2.2))] := hD
        have hf := Option.some.inj hf; subst hf
        rw [← hQ]
        exact g_vret hx hb hr hlocks hP hS dX11_save_95
      · have hf := br_n hc hf
        refine lv_aload_n (pc := 58) hx hb dX11_save_58 rfl (lv_at hl 1 rfl) ?_
        refine va_get (pc := 59) (D := G.1) (ci := 8) (v := .ref hw0_2) (C := RX11) (T := TX11) (N := 14) hx hb hts inX11 hown hK.1 hP 0 rfl rfl 1 (by decide) (hts _ wd_881) (fun _ h9 => h9) rfl dX11_save_59 ?_
        refine lv_sipush (pc := 62) (v := (617 : Int32)) hx hb dX11_save_62 (by decide) ?_
        refine lv_aload_n (pc := 65) hx hb dX11_save_65 rfl (lv_at hl 1 rfl) ?_
        refine va_get (pc := 66) (D := G.1) (ci := 8) (v := .int w0.2.2.1) (C := RX11) (T := TX11) (N := 14) hx hb hts inX11 hown hK.1 hP 0 rfl rfl 2 (by decide) (hts _ wd_882) (fun _ h9 => h9) rfl dX11_save_66 ?_
        refine lv_imul (pc := 69) hx hb dX11_save_69 ?_
        refine lv_iload_n (pc := 70) hx hb dX11_save_70 rfl (lv_at hl 0 rfl) ?_
        refine lv_iadd (pc := 71) hx hb dX11_save_71 ?_
        refine lv_aload_n (pc := 72) hx hb dX11_save_72 rfl (lv_at hl 1 rfl) ?_
        refine va_get (pc := 73) (D := G.1) (ci := 8) (v := .ref hw0_1) (C := RX11) (T := TX11) (N := 14) hx hb hts inX11 hown hK.1 hP 0 rfl rfl 0 (by decide) (hts _ wd_880) (fun _ h9 => h9) rfl dX11_save_73 ?_
        refine lv_iload_n (pc := 76) hx hb dX11_save_76 rfl (lv_at hl 0 rfl) ?_
        obtain ⟨hg, hf⟩ := gd_some hf
        refine va_iald (pc := 77) hx hb hK.1 hP 1 0 rfl rfl hg dX11_save_77 ?_
        obtain ⟨hg, hf⟩ := gd_some hf
        refine va_iast (pc := 78) hx hb hK.1 hP hD hS 2 0 rfl rfl hg dX11_save_78 (fun H locs hP hD hS => ?_)
        have hP : va_P G.1 vwCl [(hw0_0, .inr (8, [.ref hw0_1, .ref hw0_2, .int w0.2.2.1, .int w0.2.2.2.1, .ref hw0_3, .ref hw0_4, .int w0.2.2.2.2.2.2.1, .int w0.2.2.2.2.2.2.2.1, .int w0.2.2.2.2.2.2.2.2.1, .ref hw0_5, .ref hw0_6, .ref hw0_7, .int w0.2.2.2.2.2.2.2.2.2.2.2.2.1, .ref hw0_8])), (hw0_1, .inl (G.2.1, 617, .inl w0.1)), (hw0_2, .inl (G.2.1, 2468, .inl (upd w0.2.1 (((617 : Int32) * w0.2.2.1) + v1).toNatClampNeg (w0.1 v1.toNatClampNeg)))), (hw0_3, .inl (G.2.1, 30, .inl w0.2.2.2.2.1)), (hw0_4, .inl (G.2.1, 4000, .inl w0.2.2.2.2.2.1)), (hw0_5, .inl (G.2.1, 120, .inl w0.2.2.2.2.2.2.2.2.2.1)), (hw0_6, .inl (G.2.1, 64, .inl w0.2.2.2.2.2.2.2.2.2.2.1)), (hw0_7, .inl (G.2.2.1, 64, .inl w0.2.2.2.2.2.2.2.2.2.2.2.1)), (hw0_8, .inl (G.2.1, 64, .inl w0.2.2.2.2.2.2.2.2.2.2.2.2.2))] H := hP
        have hD : va_D A [(hw0_0, .inr (8, [.ref hw0_1, .ref hw0_2, .int w0.2.2.1, .int w0.2.2.2.1, .ref hw0_3, .ref hw0_4, .int w0.2.2.2.2.2.2.1, .int w0.2.2.2.2.2.2.2.1, .int w0.2.2.2.2.2.2.2.2.1, .ref hw0_5, .ref hw0_6, .ref hw0_7, .int w0.2.2.2.2.2.2.2.2.2.2.2.2.1, .ref hw0_8])), (hw0_1, .inl (G.2.1, 617, .inl w0.1)), (hw0_2, .inl (G.2.1, 2468, .inl (upd w0.2.1 (((617 : Int32) * w0.2.2.1) + v1).toNatClampNeg (w0.1 v1.toNatClampNeg)))), (hw0_3, .inl (G.2.1, 30, .inl w0.2.2.2.2.1)), (hw0_4, .inl (G.2.1, 4000, .inl w0.2.2.2.2.2.1)), (hw0_5, .inl (G.2.1, 120, .inl w0.2.2.2.2.2.2.2.2.2.1)), (hw0_6, .inl (G.2.1, 64, .inl w0.2.2.2.2.2.2.2.2.2.2.1)), (hw0_7, .inl (G.2.2.1, 64, .inl w0.2.2.2.2.2.2.2.2.2.2.2.1)), (hw0_8, .inl (G.2.1, 64, .inl w0.2.2.2.2.2.2.2.2.2.2.2.2.2))] := hD
        refine lv_iinc (pc := 79) (v := (v1 + (1 : Int32))) (lv' := [(1, .int (v1 + (1 : Int32))), (0, .ref hw0_0)]) hx hb dX11_save_79 hl (k := 0) rfl rfl (by decide) rfl (fun ls hl => ?_)
        refine lv_goto (pc := 82) (tgt := 51) hx hb dX11_save_82 (by decide) ?_
        exact ih51 (w0.1, (upd w0.2.1 (((617 : Int32) * w0.2.2.1) + v1).toNatClampNeg (w0.1 v1.toNatClampNeg)), w0.2.2.1, w0.2.2.2.1, w0.2.2.2.2.1, w0.2.2.2.2.2.1, w0.2.2.2.2.2.2.1, w0.2.2.2.2.2.2.2.1, w0.2.2.2.2.2.2.2.2.1, w0.2.2.2.2.2.2.2.2.2.1, w0.2.2.2.2.2.2.2.2.2.2.1, w0.2.2.2.2.2.2.2.2.2.2.2.1, w0.2.2.2.2.2.2.2.2.2.2.2.2.1, w0.2.2.2.2.2.2.2.2.2.2.2.2.2) (v1 + (1 : Int32)) hf H locs hP hD hS ls (lv_sub hl [0, 1] rfl)
  have hJ49 : ∀ (w0 : TModel), f_X11_save_J49   w0 = some r → ∀ (H : Heap) (locs : List Loc), va_P G.1 vwCl [(hw0_0, .inr (8, [.ref hw0_1, .ref hw0_2, .int w0.2.2.1, .int w0.2.2.2.1, .ref hw0_3, .ref hw0_4, .int w0.2.2.2.2.2.2.1, .int w0.2.2.2.2.2.2.2.1, .int w0.2.2.2.2.2.2.2.2.1, .ref hw0_5, .ref hw0_6, .ref hw0_7, .int w0.2.2.2.2.2.2.2.2.2.2.2.2.1, .ref hw0_8])), (hw0_1, .inl (G.2.1, 617, .inl w0.1)), (hw0_2, .inl (G.2.1, 2468, .inl w0.2.1)), (hw0_3, .inl (G.2.1, 30, .inl w0.2.2.2.2.1)), (hw0_4, .inl (G.2.1, 4000, .inl w0.2.2.2.2.2.1)), (hw0_5, .inl (G.2.1, 120, .inl w0.2.2.2.2.2.2.2.2.2.1)), (hw0_6, .inl (G.2.1, 64, .inl w0.2.2.2.2.2.2.2.2.2.2.1)), (hw0_7, .inl (G.2.2.1, 64, .inl w0.2.2.2.2.2.2.2.2.2.2.2.1)), (hw0_8, .inl (G.2.1, 64, .inl w0.2.2.2.2.2.2.2.2.2.2.2.2.2))] H → va_D A [(hw0_0, .inr (8, [.ref hw0_1, .ref hw0_2, .int w0.2.2.1, .int w0.2.2.2.1, .ref hw0_3, .ref hw0_4, .int w0.2.2.2.2.2.2.1, .int w0.2.2.2.2.2.2.2.1, .int w0.2.2.2.2.2.2.2.2.1, .ref hw0_5, .ref hw0_6, .ref hw0_7, .int w0.2.2.2.2.2.2.2.2.2.2.2.2.1, .ref hw0_8])), (hw0_1, .inl (G.2.1, 617, .inl w0.1)), (hw0_2, .inl (G.2.1, 2468, .inl w0.2.1)), (hw0_3, .inl (G.2.1, 30, .inl w0.2.2.2.2.1)), (hw0_4, .inl (G.2.1, 4000, .inl w0.2.2.2.2.2.1)), (hw0_5, .inl (G.2.1, 120, .inl w0.2.2.2.2.2.2.2.2.2.1)), (hw0_6, .inl (G.2.1, 64, .inl w0.2.2.2.2.2.2.2.2.2.2.1)), (hw0_7, .inl (G.2.2.1, 64, .inl w0.2.2.2.2.2.2.2.2.2.2.2.1)), (hw0_8, .inl (G.2.1, 64, .inl w0.2.2.2.2.2.2.2.2.2.2.2.2.2))] → va_S A s.heap H locs → ∀ (ls : Array Slot), lv_has ls 2 [(0, .ref hw0_0)] → W p l e (rm_X11_save) s m args below meth c H locs 0 0 Q (F0 m 49 ls []) := by
    intro w0 hf H locs hP hD hS ls hl
    unfold f_X11_save_J49 at hf
    refine lv_iconst (pc := 49) (v := (0 : Int32)) hx hb dX11_save_49 (by decide) ?_
    refine lv_istore_n (pc := 50) (lv' := [(1, .int (0 : Int32)), (0, .ref hw0_0)]) hx hb dX11_save_50 rfl hl (by decide) rfl (fun ls hl => ?_)
    exact hL51 FUEL w0 (0 : Int32) hf H locs hP hD hS ls (lv_sub hl [0, 1] rfl)
  have hL10 : ∀ (k10 : Nat) (w0 : TModel) (v1 : Int32), f_X11_save_L10   k10 w0 v1 = some r → ∀ (H : Heap) (locs : List Loc), va_P G.1 vwCl [(hw0_0, .inr (8, [.ref hw0_1, .ref hw0_2, .int w0.2.2.1, .int w0.2.2.2.1, .ref hw0_3, .ref hw0_4, .int w0.2.2.2.2.2.2.1, .int w0.2.2.2.2.2.2.2.1, .int w0.2.2.2.2.2.2.2.2.1, .ref hw0_5, .ref hw0_6, .ref hw0_7, .int w0.2.2.2.2.2.2.2.2.2.2.2.2.1, .ref hw0_8])), (hw0_1, .inl (G.2.1, 617, .inl w0.1)), (hw0_2, .inl (G.2.1, 2468, .inl w0.2.1)), (hw0_3, .inl (G.2.1, 30, .inl w0.2.2.2.2.1)), (hw0_4, .inl (G.2.1, 4000, .inl w0.2.2.2.2.2.1)), (hw0_5, .inl (G.2.1, 120, .inl w0.2.2.2.2.2.2.2.2.2.1)), (hw0_6, .inl (G.2.1, 64, .inl w0.2.2.2.2.2.2.2.2.2.2.1)), (hw0_7, .inl (G.2.2.1, 64, .inl w0.2.2.2.2.2.2.2.2.2.2.2.1)), (hw0_8, .inl (G.2.1, 64, .inl w0.2.2.2.2.2.2.2.2.2.2.2.2.2))] H → va_D A [(hw0_0, .inr (8, [.ref hw0_1, .ref hw0_2, .int w0.2.2.1, .int w0.2.2.2.1, .ref hw0_3, .ref hw0_4, .int w0.2.2.2.2.2.2.1, .int w0.2.2.2.2.2.2.2.1, .int w0.2.2.2.2.2.2.2.2.1, .ref hw0_5, .ref hw0_6, .ref hw0_7, .int w0.2.2.2.2.2.2.2.2.2.2.2.2.1, .ref hw0_8])), (hw0_1, .inl (G.2.1, 617, .inl w0.1)), (hw0_2, .inl (G.2.1, 2468, .inl w0.2.1)), (hw0_3, .inl (G.2.1, 30, .inl w0.2.2.2.2.1)), (hw0_4, .inl (G.2.1, 4000, .inl w0.2.2.2.2.2.1)), (hw0_5, .inl (G.2.1, 120, .inl w0.2.2.2.2.2.2.2.2.2.1)), (hw0_6, .inl (G.2.1, 64, .inl w0.2.2.2.2.2.2.2.2.2.2.1)), (hw0_7, .inl (G.2.2.1, 64, .inl w0.2.2.2.2.2.2.2.2.2.2.2.1)), (hw0_8, .inl (G.2.1, 64, .inl w0.2.2.2.2.2.2.2.2.2.2.2.2.2))] → va_S A s.heap H locs → ∀ (ls : Array Slot), lv_has ls 2 [(1, .int v1), (0, .ref hw0_0)] → W p l e (rm_X11_save) s m args below meth c H locs 0 0 Q (F0 m 10 ls []) := by
    intro k10
    induction k10 with
    | zero =>
      intro w0 v1 hf
      rw [f_X11_save_L10.eq_1] at hf; cases hf
    | succ k10 ih10 =>
      intro w0 v1 hf H locs hP hD hS ls hl
      rw [f_X11_save_L10.eq_2] at hf
      refine lv_iload_n (pc := 10) hx hb dX11_save_10 rfl (lv_at hl 0 rfl) ?_
      refine lv_sipush (pc := 11) (v := (1851 : Int32)) hx hb dX11_save_11 (by decide) ?_
      refine lv_icmp_ge (pc := 14) (tgt := 39) hx hb dX11_save_14 (by decide) (fun hc => ?_) (fun hc => ?_)
      · have hf := br_y hc hf
        refine lv_aload_n (pc := 39) hx hb dX11_save_39 rfl (lv_at hl 1 rfl) ?_
        refine lv_dup (pc := 40) hx hb dX11_save_40 rfl ?_
        refine va_get (pc := 41) (D := G.1) (ci := 8) (v := .int w0.2.2.1) (C := RX11) (T := TX11) (N := 14) hx hb hts inX11 hown hK.1 hP 0 rfl rfl 2 (by decide) (hts _ wd_882) (fun _ h9 => h9) rfl dX11_save_41 ?_
        refine lv_iconst (pc := 44) (v := (1 : Int32)) hx hb dX11_save_44 (by decide) ?_
        refine lv_isub (pc := 45) hx hb dX11_save_45 ?_
        refine va_put (pc := 46) (D := G.1) (ci := 8) (v := .int (w0.2.2.1 - (1 : Int32))) (ty := .int) (C := RX11) (T := TX11) (N := 14) hx hb hts inX11 tyX11 tyX11_ok nmX11 hown hK.1 hP hD hS 0 rfl rfl 2 (by decide) (hts _ wd_882) (fun _ h9 => h9) rfl (by decide +kernel) rfl rfl (Nat.le_of_ble_eq_true rfl) dX11_save_46 (fun H locs hP hD hS => ?_)
        have hP : va_P G.1 vwCl [(hw0_0, .inr (8, [.ref hw0_1, .ref hw0_2, .int (w0.2.2.1 - (1 : Int32)), .int w0.2.2.2.1, .ref hw0_3, .ref hw0_4, .int w0.2.2.2.2.2.2.1, .int w0.2.2.2.2.2.2.2.1, .int w0.2.2.2.2.2.2.2.2.1, .ref hw0_5, .ref hw0_6, .ref hw0_7, .int w0.2.2.2.2.2.2.2.2.2.2.2.2.1, .ref hw0_8])), (hw0_1, .inl (G.2.1, 617, .inl w0.1)), (hw0_2, .inl (G.2.1, 2468, .inl w0.2.1)), (hw0_3, .inl (G.2.1, 30, .inl w0.2.2.2.2.1)), (hw0_4, .inl (G.2.1, 4000, .inl w0.2.2.2.2.2.1)), (hw0_5, .inl (G.2.1, 120, .inl w0.2.2.2.2.2.2.2.2.2.1)), (hw0_6, .inl (G.2.1, 64, .inl w0.2.2.2.2.2.2.2.2.2.2.1)), (hw0_7, .inl (G.2.2.1, 64, .inl w0.2.2.2.2.2.2.2.2.2.2.2.1)), (hw0_8, .inl (G.2.1, 64, .inl w0.2.2.2.2.2.2.2.2.2.2.2.2.2))] H := hP
        have hD : va_D A [(hw0_0, .inr (8, [.ref hw0_1, .ref hw0_2, .int (w0.2.2.1 - (1 : Int32)), .int w0.2.2.2.1, .ref hw0_3, .ref hw0_4, .int w0.2.2.2.2.2.2.1, .int w0.2.2.2.2.2.2.2.1, .int w0.2.2.2.2.2.2.2.2.1, .ref hw0_5, .ref hw0_6, .ref hw0_7, .int w0.2.2.2.2.2.2.2.2.2.2.2.2.1, .ref hw0_8])), (hw0_1, .inl (G.2.1, 617, .inl w0.1)), (hw0_2, .inl (G.2.1, 2468, .inl w0.2.1)), (hw0_3, .inl (G.2.1, 30, .inl w0.2.2.2.2.1)), (hw0_4, .inl (G.2.1, 4000, .inl w0.2.2.2.2.2.1)), (hw0_5, .inl (G.2.1, 120, .inl w0.2.2.2.2.2.2.2.2.2.1)), (hw0_6, .inl (G.2.1, 64, .inl w0.2.2.2.2.2.2.2.2.2.2.1)), (hw0_7, .inl (G.2.2.1, 64, .inl w0.2.2.2.2.2.2.2.2.2.2.2.1)), (hw0_8, .inl (G.2.1, 64, .inl w0.2.2.2.2.2.2.2.2.2.2.2.2.2))] := hD
        exact hJ49 (w0.1, w0.2.1, (w0.2.2.1 - (1 : Int32)), w0.2.2.2.1, w0.2.2.2.2.1, w0.2.2.2.2.2.1, w0.2.2.2.2.2.2.1, w0.2.2.2.2.2.2.2.1, w0.2.2.2.2.2.2.2.2.1, w0.2.2.2.2.2.2.2.2.2.1, w0.2.2.2.2.2.2.2.2.2.2.1, w0.2.2.2.2.2.2.2.2.2.2.2.1, w0.2.2.2.2.2.2.2.2.2.2.2.2.1, w0.2.2.2.2.2.2.2.2.2.2.2.2.2) hf H locs hP hD hS ls (lv_sub hl [1] rfl)
      · have hf := br_n hc hf
        refine lv_aload_n (pc := 17) hx hb dX11_save_17 rfl (lv_at hl 1 rfl) ?_
        refine va_get (pc := 18) (D := G.1) (ci := 8) (v := .ref hw0_2) (C := RX11) (T := TX11) (N := 14) hx hb hts inX11 hown hK.1 hP 0 rfl rfl 1 (by decide) (hts _ wd_881) (fun _ h9 => h9) rfl dX11_save_18 ?_
        refine lv_iload_n (pc := 21) hx hb dX11_save_21 rfl (lv_at hl 0 rfl) ?_
        refine lv_aload_n (pc := 22) hx hb dX11_save_22 rfl (lv_at hl 1 rfl) ?_
        refine va_get (pc := 23) (D := G.1) (ci := 8) (v := .ref hw0_2) (C := RX11) (T := TX11) (N := 14) hx hb hts inX11 hown hK.1 hP 0 rfl rfl 1 (by decide) (hts _ wd_881) (fun _ h9 => h9) rfl dX11_save_23 ?_
        refine lv_iload_n (pc := 26) hx hb dX11_save_26 rfl (lv_at hl 0 rfl) ?_
        refine lv_sipush (pc := 27) (v := (617 : Int32)) hx hb dX11_save_27 (by decide) ?_
        refine lv_iadd (pc := 30) hx hb dX11_save_30 ?_
        obtain ⟨hg, hf⟩ := gd_some hf
        refine va_iald (pc := 31) hx hb hK.1 hP 2 0 rfl rfl hg dX11_save_31 ?_
        obtain ⟨hg, hf⟩ := gd_some hf
        refine va_iast (pc := 32) hx hb hK.1 hP hD hS 2 0 rfl rfl hg dX11_save_32 (fun H locs hP hD hS => ?_)
        have hP : va_P G.1 vwCl [(hw0_0, .inr (8, [.ref hw0_1, .ref hw0_2, .int w0.2.2.1, .int w0.2.2.2.1, .ref hw0_3, .ref hw0_4, .int w0.2.2.2.2.2.2.1, .int w0.2.2.2.2.2.2.2.1, .int w0.2.2.2.2.2.2.2.2.1, .ref hw0_5, .ref hw0_6, .ref hw0_7, .int w0.2.2.2.2.2.2.2.2.2.2.2.2.1, .ref hw0_8])), (hw0_1, .inl (G.2.1, 617, .inl w0.1)), (hw0_2, .inl (G.2.1, 2468, .inl (upd w0.2.1 v1.toNatClampNeg (w0.2.1 (v1 + (617 : Int32)).toNatClampNeg)))), (hw0_3, .inl (G.2.1, 30, .inl w0.2.2.2.2.1)), (hw0_4, .inl (G.2.1, 4000, .inl w0.2.2.2.2.2.1)), (hw0_5, .inl (G.2.1, 120, .inl w0.2.2.2.2.2.2.2.2.2.1)), (hw0_6, .inl (G.2.1, 64, .inl w0.2.2.2.2.2.2.2.2.2.2.1)), (hw0_7, .inl (G.2.2.1, 64, .inl w0.2.2.2.2.2.2.2.2.2.2.2.1)), (hw0_8, .inl (G.2.1, 64, .inl w0.2.2.2.2.2.2.2.2.2.2.2.2.2))] H := hP
        have hD : va_D A [(hw0_0, .inr (8, [.ref hw0_1, .ref hw0_2, .int w0.2.2.1, .int w0.2.2.2.1, .ref hw0_3, .ref hw0_4, .int w0.2.2.2.2.2.2.1, .int w0.2.2.2.2.2.2.2.1, .int w0.2.2.2.2.2.2.2.2.1, .ref hw0_5, .ref hw0_6, .ref hw0_7, .int w0.2.2.2.2.2.2.2.2.2.2.2.2.1, .ref hw0_8])), (hw0_1, .inl (G.2.1, 617, .inl w0.1)), (hw0_2, .inl (G.2.1, 2468, .inl (upd w0.2.1 v1.toNatClampNeg (w0.2.1 (v1 + (617 : Int32)).toNatClampNeg)))), (hw0_3, .inl (G.2.1, 30, .inl w0.2.2.2.2.1)), (hw0_4, .inl (G.2.1, 4000, .inl w0.2.2.2.2.2.1)), (hw0_5, .inl (G.2.1, 120, .inl w0.2.2.2.2.2.2.2.2.2.1)), (hw0_6, .inl (G.2.1, 64, .inl w0.2.2.2.2.2.2.2.2.2.2.1)), (hw0_7, .inl (G.2.2.1, 64, .inl w0.2.2.2.2.2.2.2.2.2.2.2.1)), (hw0_8, .inl (G.2.1, 64, .inl w0.2.2.2.2.2.2.2.2.2.2.2.2.2))] := hD
        refine lv_iinc (pc := 33) (v := (v1 + (1 : Int32))) (lv' := [(1, .int (v1 + (1 : Int32))), (0, .ref hw0_0)]) hx hb dX11_save_33 hl (k := 0) rfl rfl (by decide) rfl (fun ls hl => ?_)
        refine lv_goto (pc := 36) (tgt := 10) hx hb dX11_save_36 (by decide) ?_
        exact ih10 (w0.1, (upd w0.2.1 v1.toNatClampNeg (w0.2.1 (v1 + (617 : Int32)).toNatClampNeg)), w0.2.2.1, w0.2.2.2.1, w0.2.2.2.2.1, w0.2.2.2.2.2.1, w0.2.2.2.2.2.2.1, w0.2.2.2.2.2.2.2.1, w0.2.2.2.2.2.2.2.2.1, w0.2.2.2.2.2.2.2.2.2.1, w0.2.2.2.2.2.2.2.2.2.2.1, w0.2.2.2.2.2.2.2.2.2.2.2.1, w0.2.2.2.2.2.2.2.2.2.2.2.2.1, w0.2.2.2.2.2.2.2.2.2.2.2.2.2) (v1 + (1 : Int32)) hf H locs hP hD hS ls (lv_sub hl [0, 1] rfl)
  refine lv_aload_n (pc := 0) hx hb dX11_save_0 rfl (lv_at hl 0 rfl) ?_
  refine va_get (pc := 1) (D := G.1) (ci := 8) (v := .int w0.2.2.1) (C := RX11) (T := TX11) (N := 14) hx hb hts inX11 hown hK.1 hP 0 rfl rfl 2 (by decide) (hts _ wd_882) (fun _ h9 => h9) rfl dX11_save_1 ?_
  refine lv_iconst (pc := 4) (v := (4 : Int32)) hx hb dX11_save_4 (by decide) ?_
  refine lv_icmp_ne (pc := 5) (tgt := 49) hx hb dX11_save_5 (by decide) (fun hc => ?_) (fun hc => ?_)
  · have hf := br_n hc hf
    exact hJ49 w0 hf H locs hP hD hS ls (lv_sub hl [0] rfl)
  · have hf := br_y hc hf
    refine lv_iconst (pc := 8) (v := (0 : Int32)) hx hb dX11_save_8 (by decide) ?_
    refine lv_istore_n (pc := 9) (lv' := [(1, .int (0 : Int32)), (0, .ref hw0_0)]) hx hb dX11_save_9 rfl hl (by decide) rfl (fun ls hl => ?_)
    exact hL10 FUEL w0 (0 : Int32) hf H locs hP hD hS ls (lv_sub hl [0, 1] rfl)
theorem hd_X11_isByte : yX11_isByte.cls ≠ "java/lang/invoke/MethodHandle" ∧ yX11_isByte.cls ≠ "java/lang/invoke/VarHandle" ∧ (parseMethodDescriptor yX11_isByte.desc).map (fun d => d.parameters.length) = some 1 := by decide +kernel
abbrev rm_X11_isByte : Room := { frames := 1, cells := 0, slots := 0, locals := 25 }
noncomputable def f_X11_isByte (p0 : Int32) : Option Int32 :=
  (f_X11_in p0.toInt64 (0 : Int64) (255 : Int64)).bind (fun x1 => gd (x1 = 0 ∨ x1 = 1) (some x1))
set_option maxHeartbeats 4000000 in
set_option maxRecDepth 100000 in
theorem c_X11_isByte (l : Launch) (G : GT)  (p0 : Int32) {r : Int32} (hf : f_X11_isByte p0 = some r) : Ct l yX11_isByte (Cond.code yX11_isByte cX11_isByte 1 (some .boolean) :: lw_g) rm_X11_isByte G [.int p0] [] (some (.int r)) [] := by
  refine Ct.ofW (cc := cX11_isByte) (maxL := 1) (ret := (some .boolean)) (own := RX11) (by decide) rfl rfl (Nat.le_of_ble_eq_true rfl) ?_
  intro p e s m args below meth c A hx hb hr hml hts hown hlocks hK hP hD hA hS ls hl
  have hl : lv_has ls 1 [(0, .int p0)] := hl
  generalize hQ : gMQ below G _ _ A args s = Q
  generalize hH : s.heap = H at hP ⊢
  have hS : va_S A s.heap H [] := by rw [← hH]; exact hS
  generalize ([] : List Loc) = locs at hS ⊢
  unfold f_X11_isByte at hf
  refine lv_iload_n (pc := 0) hx hb dX11_isByte_0 rfl (lv_at hl 0 rfl) ?_
  refine lv_i2l (pc := 1) (v := p0.toInt64) hx hb dX11_isByte_1 rfl ?_
  refine lv_lconst (pc := 2) (v := (0 : Int64)) hx hb dX11_isByte_2 (by decide) ?_
  refine lv_ldc2 (pc := 3) (v := (255 : Int64)) hx hb hown (hts _ wd_941) dX11_isByte_3 ?_
  obtain ⟨x1, hcx1, hf⟩ := bn_some hf
  refine g_callS0 (pc := 6) (rest := []) hx hb hml hown hts hK (c_X11_in l G  p0.toInt64 (0 : Int64) (255 : Int64) hcx1) wd_937 wd_10 wd_935 wd_936 hd_X11_in ⟨rfl, rfl, Nat.le_of_ble_eq_true rfl, Nat.le_of_ble_eq_true rfl⟩ hP hD hS hA [] rfl rfl rfl hl.1 rfl (Nat.le_of_ble_eq_true rfl) dX11_isByte_6 ⟨Nat.zero_le _, Nat.zero_le _⟩ (fun H locs hP hS => ?_)
  obtain ⟨hg, hf⟩ := gd_some hf
  have hf := Option.some.inj hf; subst hf
  rw [← hQ]
  exact g_zret hx hb hr hlocks (z01 hg) hP hS dX11_isByte_9
theorem hd_X11_isVersion : yX11_isVersion.cls ≠ "java/lang/invoke/MethodHandle" ∧ yX11_isVersion.cls ≠ "java/lang/invoke/VarHandle" ∧ (parseMethodDescriptor yX11_isVersion.desc).map (fun d => d.parameters.length) = some 1 := by decide +kernel
abbrev rm_X11_isVersion : Room := { frames := 1, cells := 0, slots := 0, locals := 25 }
noncomputable def f_X11_isVersion (p0 : Int32) : Option Int32 :=
  (f_X11_in p0.toInt64 (0 : Int64) (1 : Int64)).bind (fun x1 => gd (x1 = 0 ∨ x1 = 1) (some x1))
set_option maxHeartbeats 4000000 in
set_option maxRecDepth 100000 in
theorem c_X11_isVersion (l : Launch) (G : GT)  (p0 : Int32) {r : Int32} (hf : f_X11_isVersion p0 = some r) : Ct l yX11_isVersion (Cond.code yX11_isVersion cX11_isVersion 1 (some .boolean) :: lw_g) rm_X11_isVersion G [.int p0] [] (some (.int r)) [] := by
  refine Ct.ofW (cc := cX11_isVersion) (maxL := 1) (ret := (some .boolean)) (own := RX11) (by decide) rfl rfl (Nat.le_of_ble_eq_true rfl) ?_
  intro p e s m args below meth c A hx hb hr hml hts hown hlocks hK hP hD hA hS ls hl
  have hl : lv_has ls 1 [(0, .int p0)] := hl
  generalize hQ : gMQ below G _ _ A args s = Q
  generalize hH : s.heap = H at hP ⊢
  have hS : va_S A s.heap H [] := by rw [← hH]; exact hS
  generalize ([] : List Loc) = locs at hS ⊢
  unfold f_X11_isVersion at hf
  refine lv_iload_n (pc := 0) hx hb dX11_isVersion_0 rfl (lv_at hl 0 rfl) ?_
  refine lv_i2l (pc := 1) (v := p0.toInt64) hx hb dX11_isVersion_1 rfl ?_
  refine lv_lconst (pc := 2) (v := (0 : Int64)) hx hb dX11_isVersion_2 (by decide) ?_
  refine lv_lconst (pc := 3) (v := (1 : Int64)) hx hb dX11_isVersion_3 (by decide) ?_
  obtain ⟨x1, hcx1, hf⟩ := bn_some hf
  refine g_callS0 (pc := 4) (rest := []) hx hb hml hown hts hK (c_X11_in l G  p0.toInt64 (0 : Int64) (1 : Int64) hcx1) wd_937 wd_10 wd_935 wd_936 hd_X11_in ⟨rfl, rfl, Nat.le_of_ble_eq_true rfl, Nat.le_of_ble_eq_true rfl⟩ hP hD hS hA [] rfl rfl rfl hl.1 rfl (Nat.le_of_ble_eq_true rfl) dX11_isVersion_4 ⟨Nat.zero_le _, Nat.zero_le _⟩ (fun H locs hP hS => ?_)
  obtain ⟨hg, hf⟩ := gd_some hf
  have hf := Option.some.inj hf; subst hf
  rw [← hQ]
  exact g_zret hx hb hr hlocks (z01 hg) hP hS dX11_isVersion_7
theorem hd_X11_dropsPlan : yX11_dropsPlan.cls ≠ "java/lang/invoke/MethodHandle" ∧ yX11_dropsPlan.cls ≠ "java/lang/invoke/VarHandle" ∧ (parseMethodDescriptor yX11_dropsPlan.desc).map (fun d => d.parameters.length) = some 0 := by decide +kernel
abbrev rm_X11_dropsPlan : Room := { frames := 0, cells := 0, slots := 0, locals := 0 }
noncomputable def f_X11_dropsPlan (w0 : TModel) : Option TModel :=
  gd (vp_in (317 : Int32) 617) (gd (vp_in (550 : Int32) 617) (some ((upd (upd w0.1 (317 : Int32).toNatClampNeg (0 : Int32)) (550 : Int32).toNatClampNeg (0 : Int32)), w0.2.1, w0.2.2.1, w0.2.2.2.1, w0.2.2.2.2.1, w0.2.2.2.2.2.1, w0.2.2.2.2.2.2.1, w0.2.2.2.2.2.2.2.1, w0.2.2.2.2.2.2.2.2.1, w0.2.2.2.2.2.2.2.2.2.1, w0.2.2.2.2.2.2.2.2.2.2.1, w0.2.2.2.2.2.2.2.2.2.2.2.1, w0.2.2.2.2.2.2.2.2.2.2.2.2.1, w0.2.2.2.2.2.2.2.2.2.2.2.2.2)))
set_option maxHeartbeats 4000000 in
set_option maxRecDepth 100000 in
theorem c_X11_dropsPlan (l : Launch) (G : GT) (hw0_0 hw0_1 hw0_2 hw0_3 hw0_4 hw0_5 hw0_6 hw0_7 hw0_8 : Nat) (w0 : TModel) {r : TModel} (hf : f_X11_dropsPlan w0 = some r) : Ct l yX11_dropsPlan (Cond.code yX11_dropsPlan cX11_dropsPlan 1 none :: lw_g) rm_X11_dropsPlan G [.ref hw0_0] [(hw0_0, .inr (8, [.ref hw0_1, .ref hw0_2, .int w0.2.2.1, .int w0.2.2.2.1, .ref hw0_3, .ref hw0_4, .int w0.2.2.2.2.2.2.1, .int w0.2.2.2.2.2.2.2.1, .int w0.2.2.2.2.2.2.2.2.1, .ref hw0_5, .ref hw0_6, .ref hw0_7, .int w0.2.2.2.2.2.2.2.2.2.2.2.2.1, .ref hw0_8])), (hw0_1, .inl (G.2.1, 617, .inl w0.1)), (hw0_2, .inl (G.2.1, 2468, .inl w0.2.1)), (hw0_3, .inl (G.2.1, 30, .inl w0.2.2.2.2.1)), (hw0_4, .inl (G.2.1, 4000, .inl w0.2.2.2.2.2.1)), (hw0_5, .inl (G.2.1, 120, .inl w0.2.2.2.2.2.2.2.2.2.1)), (hw0_6, .inl (G.2.1, 64, .inl w0.2.2.2.2.2.2.2.2.2.2.1)), (hw0_7, .inl (G.2.2.1, 64, .inl w0.2.2.2.2.2.2.2.2.2.2.2.1)), (hw0_8, .inl (G.2.1, 64, .inl w0.2.2.2.2.2.2.2.2.2.2.2.2.2))] none [(hw0_0, .inr (8, [.ref hw0_1, .ref hw0_2, .int r.2.2.1, .int r.2.2.2.1, .ref hw0_3, .ref hw0_4, .int r.2.2.2.2.2.2.1, .int r.2.2.2.2.2.2.2.1, .int r.2.2.2.2.2.2.2.2.1, .ref hw0_5, .ref hw0_6, .ref hw0_7, .int r.2.2.2.2.2.2.2.2.2.2.2.2.1, .ref hw0_8])), (hw0_1, .inl (G.2.1, 617, .inl r.1)), (hw0_2, .inl (G.2.1, 2468, .inl r.2.1)), (hw0_3, .inl (G.2.1, 30, .inl r.2.2.2.2.1)), (hw0_4, .inl (G.2.1, 4000, .inl r.2.2.2.2.2.1)), (hw0_5, .inl (G.2.1, 120, .inl r.2.2.2.2.2.2.2.2.2.1)), (hw0_6, .inl (G.2.1, 64, .inl r.2.2.2.2.2.2.2.2.2.2.1)), (hw0_7, .inl (G.2.2.1, 64, .inl r.2.2.2.2.2.2.2.2.2.2.2.1)), (hw0_8, .inl (G.2.1, 64, .inl r.2.2.2.2.2.2.2.2.2.2.2.2.2))] := by
  refine Ct.ofW (cc := cX11_dropsPlan) (maxL := 1) (ret := none) (own := RX11) (by decide) rfl rfl (Nat.le_of_ble_eq_true rfl) ?_
  intro p e s m args below meth c A hx hb hr hml hts hown hlocks hK hP hD hA hS ls hl
  have hl : lv_has ls 1 [(0, .ref hw0_0)] := hl
  generalize hQ : gMQ below G _ _ A args s = Q
  generalize hH : s.heap = H at hP ⊢
  have hS : va_S A s.heap H [] := by rw [← hH]; exact hS
  generalize ([] : List Loc) = locs at hS ⊢
  unfold f_X11_dropsPlan at hf
  refine lv_aload_n (pc := 0) hx hb dX11_dropsPlan_0 rfl (lv_at hl 0 rfl) ?_
  refine va_get (pc := 1) (D := G.1) (ci := 8) (v := .ref hw0_1) (C := RX11) (T := TX11) (N := 14) hx hb hts inX11 hown hK.1 hP 0 rfl rfl 0 (by decide) (hts _ wd_880) (fun _ h9 => h9) rfl dX11_dropsPlan_1 ?_
  refine lv_sipush (pc := 4) (v := (317 : Int32)) hx hb dX11_dropsPlan_4 (by decide) ?_
  refine lv_iconst (pc := 7) (v := (0 : Int32)) hx hb dX11_dropsPlan_7 (by decide) ?_
  obtain ⟨hg, hf⟩ := gd_some hf
  refine va_iast (pc := 8) hx hb hK.1 hP hD hS 1 0 rfl rfl hg dX11_dropsPlan_8 (fun H locs hP hD hS => ?_)
  have hP : va_P G.1 vwCl [(hw0_0, .inr (8, [.ref hw0_1, .ref hw0_2, .int w0.2.2.1, .int w0.2.2.2.1, .ref hw0_3, .ref hw0_4, .int w0.2.2.2.2.2.2.1, .int w0.2.2.2.2.2.2.2.1, .int w0.2.2.2.2.2.2.2.2.1, .ref hw0_5, .ref hw0_6, .ref hw0_7, .int w0.2.2.2.2.2.2.2.2.2.2.2.2.1, .ref hw0_8])), (hw0_1, .inl (G.2.1, 617, .inl (upd w0.1 (317 : Int32).toNatClampNeg (0 : Int32)))), (hw0_2, .inl (G.2.1, 2468, .inl w0.2.1)), (hw0_3, .inl (G.2.1, 30, .inl w0.2.2.2.2.1)), (hw0_4, .inl (G.2.1, 4000, .inl w0.2.2.2.2.2.1)), (hw0_5, .inl (G.2.1, 120, .inl w0.2.2.2.2.2.2.2.2.2.1)), (hw0_6, .inl (G.2.1, 64, .inl w0.2.2.2.2.2.2.2.2.2.2.1)), (hw0_7, .inl (G.2.2.1, 64, .inl w0.2.2.2.2.2.2.2.2.2.2.2.1)), (hw0_8, .inl (G.2.1, 64, .inl w0.2.2.2.2.2.2.2.2.2.2.2.2.2))] H := hP
  have hD : va_D A [(hw0_0, .inr (8, [.ref hw0_1, .ref hw0_2, .int w0.2.2.1, .int w0.2.2.2.1, .ref hw0_3, .ref hw0_4, .int w0.2.2.2.2.2.2.1, .int w0.2.2.2.2.2.2.2.1, .int w0.2.2.2.2.2.2.2.2.1, .ref hw0_5, .ref hw0_6, .ref hw0_7, .int w0.2.2.2.2.2.2.2.2.2.2.2.2.1, .ref hw0_8])), (hw0_1, .inl (G.2.1, 617, .inl (upd w0.1 (317 : Int32).toNatClampNeg (0 : Int32)))), (hw0_2, .inl (G.2.1, 2468, .inl w0.2.1)), (hw0_3, .inl (G.2.1, 30, .inl w0.2.2.2.2.1)), (hw0_4, .inl (G.2.1, 4000, .inl w0.2.2.2.2.2.1)), (hw0_5, .inl (G.2.1, 120, .inl w0.2.2.2.2.2.2.2.2.2.1)), (hw0_6, .inl (G.2.1, 64, .inl w0.2.2.2.2.2.2.2.2.2.2.1)), (hw0_7, .inl (G.2.2.1, 64, .inl w0.2.2.2.2.2.2.2.2.2.2.2.1)), (hw0_8, .inl (G.2.1, 64, .inl w0.2.2.2.2.2.2.2.2.2.2.2.2.2))] := hD
  refine lv_aload_n (pc := 9) hx hb dX11_dropsPlan_9 rfl (lv_at hl 0 rfl) ?_
  refine va_get (pc := 10) (D := G.1) (ci := 8) (v := .ref hw0_1) (C := RX11) (T := TX11) (N := 14) hx hb hts inX11 hown hK.1 hP 0 rfl rfl 0 (by decide) (hts _ wd_880) (fun _ h9 => h9) rfl dX11_dropsPlan_10 ?_
  refine lv_sipush (pc := 13) (v := (550 : Int32)) hx hb dX11_dropsPlan_13 (by decide) ?_
  refine lv_iconst (pc := 16) (v := (0 : Int32)) hx hb dX11_dropsPlan_16 (by decide) ?_
  obtain ⟨hg, hf⟩ := gd_some hf
  refine va_iast (pc := 17) hx hb hK.1 hP hD hS 1 0 rfl rfl hg dX11_dropsPlan_17 (fun H locs hP hD hS => ?_)
  have hP : va_P G.1 vwCl [(hw0_0, .inr (8, [.ref hw0_1, .ref hw0_2, .int w0.2.2.1, .int w0.2.2.2.1, .ref hw0_3, .ref hw0_4, .int w0.2.2.2.2.2.2.1, .int w0.2.2.2.2.2.2.2.1, .int w0.2.2.2.2.2.2.2.2.1, .ref hw0_5, .ref hw0_6, .ref hw0_7, .int w0.2.2.2.2.2.2.2.2.2.2.2.2.1, .ref hw0_8])), (hw0_1, .inl (G.2.1, 617, .inl (upd (upd w0.1 (317 : Int32).toNatClampNeg (0 : Int32)) (550 : Int32).toNatClampNeg (0 : Int32)))), (hw0_2, .inl (G.2.1, 2468, .inl w0.2.1)), (hw0_3, .inl (G.2.1, 30, .inl w0.2.2.2.2.1)), (hw0_4, .inl (G.2.1, 4000, .inl w0.2.2.2.2.2.1)), (hw0_5, .inl (G.2.1, 120, .inl w0.2.2.2.2.2.2.2.2.2.1)), (hw0_6, .inl (G.2.1, 64, .inl w0.2.2.2.2.2.2.2.2.2.2.1)), (hw0_7, .inl (G.2.2.1, 64, .inl w0.2.2.2.2.2.2.2.2.2.2.2.1)), (hw0_8, .inl (G.2.1, 64, .inl w0.2.2.2.2.2.2.2.2.2.2.2.2.2))] H := hP
  have hD : va_D A [(hw0_0, .inr (8, [.ref hw0_1, .ref hw0_2, .int w0.2.2.1, .int w0.2.2.2.1, .ref hw0_3, .ref hw0_4, .int w0.2.2.2.2.2.2.1, .int w0.2.2.2.2.2.2.2.1, .int w0.2.2.2.2.2.2.2.2.1, .ref hw0_5, .ref hw0_6, .ref hw0_7, .int w0.2.2.2.2.2.2.2.2.2.2.2.2.1, .ref hw0_8])), (hw0_1, .inl (G.2.1, 617, .inl (upd (upd w0.1 (317 : Int32).toNatClampNeg (0 : Int32)) (550 : Int32).toNatClampNeg (0 : Int32)))), (hw0_2, .inl (G.2.1, 2468, .inl w0.2.1)), (hw0_3, .inl (G.2.1, 30, .inl w0.2.2.2.2.1)), (hw0_4, .inl (G.2.1, 4000, .inl w0.2.2.2.2.2.1)), (hw0_5, .inl (G.2.1, 120, .inl w0.2.2.2.2.2.2.2.2.2.1)), (hw0_6, .inl (G.2.1, 64, .inl w0.2.2.2.2.2.2.2.2.2.2.1)), (hw0_7, .inl (G.2.2.1, 64, .inl w0.2.2.2.2.2.2.2.2.2.2.2.1)), (hw0_8, .inl (G.2.1, 64, .inl w0.2.2.2.2.2.2.2.2.2.2.2.2.2))] := hD
  have hf := Option.some.inj hf; subst hf
  rw [← hQ]
  exact g_vret hx hb hr hlocks hP hS dX11_dropsPlan_18
theorem hd_X11_longOf : yX11_longOf.cls ≠ "java/lang/invoke/MethodHandle" ∧ yX11_longOf.cls ≠ "java/lang/invoke/VarHandle" ∧ (parseMethodDescriptor yX11_longOf.desc).map (fun d => d.parameters.length) = some 1 := by decide +kernel
abbrev rm_X11_longOf : Room := { frames := 0, cells := 0, slots := 0, locals := 0 }
noncomputable def f_X11_longOf (w0 : TModel) (p1 : Int32) : Option Int32 :=
  gd (vp_in ((0 : Int32) + p1) 617) (some (w0.1 ((0 : Int32) + p1).toNatClampNeg))
set_option maxHeartbeats 4000000 in
set_option maxRecDepth 100000 in
theorem c_X11_longOf (l : Launch) (G : GT) (hw0_0 hw0_1 hw0_2 hw0_3 hw0_4 hw0_5 hw0_6 hw0_7 hw0_8 : Nat) (w0 : TModel) (p1 : Int32) {r : Int32} (hf : f_X11_longOf w0 p1 = some r) : Ct l yX11_longOf (Cond.code yX11_longOf cX11_longOf 2 (some .int) :: lw_g) rm_X11_longOf G [.ref hw0_0, .int p1] [(hw0_0, .inr (8, [.ref hw0_1, .ref hw0_2, .int w0.2.2.1, .int w0.2.2.2.1, .ref hw0_3, .ref hw0_4, .int w0.2.2.2.2.2.2.1, .int w0.2.2.2.2.2.2.2.1, .int w0.2.2.2.2.2.2.2.2.1, .ref hw0_5, .ref hw0_6, .ref hw0_7, .int w0.2.2.2.2.2.2.2.2.2.2.2.2.1, .ref hw0_8])), (hw0_1, .inl (G.2.1, 617, .inl w0.1)), (hw0_2, .inl (G.2.1, 2468, .inl w0.2.1)), (hw0_3, .inl (G.2.1, 30, .inl w0.2.2.2.2.1)), (hw0_4, .inl (G.2.1, 4000, .inl w0.2.2.2.2.2.1)), (hw0_5, .inl (G.2.1, 120, .inl w0.2.2.2.2.2.2.2.2.2.1)), (hw0_6, .inl (G.2.1, 64, .inl w0.2.2.2.2.2.2.2.2.2.2.1)), (hw0_7, .inl (G.2.2.1, 64, .inl w0.2.2.2.2.2.2.2.2.2.2.2.1)), (hw0_8, .inl (G.2.1, 64, .inl w0.2.2.2.2.2.2.2.2.2.2.2.2.2))] (some (.int r)) [(hw0_0, .inr (8, [.ref hw0_1, .ref hw0_2, .int w0.2.2.1, .int w0.2.2.2.1, .ref hw0_3, .ref hw0_4, .int w0.2.2.2.2.2.2.1, .int w0.2.2.2.2.2.2.2.1, .int w0.2.2.2.2.2.2.2.2.1, .ref hw0_5, .ref hw0_6, .ref hw0_7, .int w0.2.2.2.2.2.2.2.2.2.2.2.2.1, .ref hw0_8])), (hw0_1, .inl (G.2.1, 617, .inl w0.1)), (hw0_2, .inl (G.2.1, 2468, .inl w0.2.1)), (hw0_3, .inl (G.2.1, 30, .inl w0.2.2.2.2.1)), (hw0_4, .inl (G.2.1, 4000, .inl w0.2.2.2.2.2.1)), (hw0_5, .inl (G.2.1, 120, .inl w0.2.2.2.2.2.2.2.2.2.1)), (hw0_6, .inl (G.2.1, 64, .inl w0.2.2.2.2.2.2.2.2.2.2.1)), (hw0_7, .inl (G.2.2.1, 64, .inl w0.2.2.2.2.2.2.2.2.2.2.2.1)), (hw0_8, .inl (G.2.1, 64, .inl w0.2.2.2.2.2.2.2.2.2.2.2.2.2))] := by
  refine Ct.ofW (cc := cX11_longOf) (maxL := 2) (ret := (some .int)) (own := RX11) (by decide) rfl rfl (Nat.le_of_ble_eq_true rfl) ?_
  intro p e s m args below meth c A hx hb hr hml hts hown hlocks hK hP hD hA hS ls hl
  have hl : lv_has ls 2 [(0, .ref hw0_0), (1, .int p1)] := hl
  generalize hQ : gMQ below G _ _ A args s = Q
  generalize hH : s.heap = H at hP ⊢
  have hS : va_S A s.heap H [] := by rw [← hH]; exact hS
  generalize ([] : List Loc) = locs at hS ⊢
  unfold f_X11_longOf at hf
  refine lv_aload_n (pc := 0) hx hb dX11_longOf_0 rfl (lv_at hl 0 rfl) ?_
  refine va_get (pc := 1) (D := G.1) (ci := 8) (v := .ref hw0_1) (C := RX11) (T := TX11) (N := 14) hx hb hts inX11 hown hK.1 hP 0 rfl rfl 0 (by decide) (hts _ wd_880) (fun _ h9 => h9) rfl dX11_longOf_1 ?_
  refine lv_iconst (pc := 4) (v := (0 : Int32)) hx hb dX11_longOf_4 (by decide) ?_
  refine lv_iload_n (pc := 5) hx hb dX11_longOf_5 rfl (lv_at hl 1 rfl) ?_
  refine lv_iadd (pc := 6) hx hb dX11_longOf_6 ?_
  obtain ⟨hg, hf⟩ := gd_some hf
  refine va_iald (pc := 7) hx hb hK.1 hP 1 0 rfl rfl hg dX11_longOf_7 ?_
  have hf := Option.some.inj hf; subst hf
  rw [← hQ]
  exact g_iret hx hb hr hlocks hP hS dX11_longOf_8
theorem hd_X11_byteAt : yX11_byteAt.cls ≠ "java/lang/invoke/MethodHandle" ∧ yX11_byteAt.cls ≠ "java/lang/invoke/VarHandle" ∧ (parseMethodDescriptor yX11_byteAt.desc).map (fun d => d.parameters.length) = some 2 := by decide +kernel
abbrev rm_X11_byteAt : Room := { frames := 0, cells := 0, slots := 0, locals := 0 }
noncomputable def f_X11_byteAt (w0 : TModel) (p1 : Int32) (p2 : Int32) : Option Int32 :=
  gd (vp_in (((2 : Int32) + ((64 : Int32) * p1)) + p2) 617) (some (w0.1 (((2 : Int32) + ((64 : Int32) * p1)) + p2).toNatClampNeg))
set_option maxHeartbeats 4000000 in
set_option maxRecDepth 100000 in
theorem c_X11_byteAt (l : Launch) (G : GT) (hw0_0 hw0_1 hw0_2 hw0_3 hw0_4 hw0_5 hw0_6 hw0_7 hw0_8 : Nat) (w0 : TModel) (p1 : Int32) (p2 : Int32) {r : Int32} (hf : f_X11_byteAt w0 p1 p2 = some r) : Ct l yX11_byteAt (Cond.code yX11_byteAt cX11_byteAt 3 (some .int) :: lw_g) rm_X11_byteAt G [.ref hw0_0, .int p1, .int p2] [(hw0_0, .inr (8, [.ref hw0_1, .ref hw0_2, .int w0.2.2.1, .int w0.2.2.2.1, .ref hw0_3, .ref hw0_4, .int w0.2.2.2.2.2.2.1, .int w0.2.2.2.2.2.2.2.1, .int w0.2.2.2.2.2.2.2.2.1, .ref hw0_5, .ref hw0_6, .ref hw0_7, .int w0.2.2.2.2.2.2.2.2.2.2.2.2.1, .ref hw0_8])), (hw0_1, .inl (G.2.1, 617, .inl w0.1)), (hw0_2, .inl (G.2.1, 2468, .inl w0.2.1)), (hw0_3, .inl (G.2.1, 30, .inl w0.2.2.2.2.1)), (hw0_4, .inl (G.2.1, 4000, .inl w0.2.2.2.2.2.1)), (hw0_5, .inl (G.2.1, 120, .inl w0.2.2.2.2.2.2.2.2.2.1)), (hw0_6, .inl (G.2.1, 64, .inl w0.2.2.2.2.2.2.2.2.2.2.1)), (hw0_7, .inl (G.2.2.1, 64, .inl w0.2.2.2.2.2.2.2.2.2.2.2.1)), (hw0_8, .inl (G.2.1, 64, .inl w0.2.2.2.2.2.2.2.2.2.2.2.2.2))] (some (.int r)) [(hw0_0, .inr (8, [.ref hw0_1, .ref hw0_2, .int w0.2.2.1, .int w0.2.2.2.1, .ref hw0_3, .ref hw0_4, .int w0.2.2.2.2.2.2.1, .int w0.2.2.2.2.2.2.2.1, .int w0.2.2.2.2.2.2.2.2.1, .ref hw0_5, .ref hw0_6, .ref hw0_7, .int w0.2.2.2.2.2.2.2.2.2.2.2.2.1, .ref hw0_8])), (hw0_1, .inl (G.2.1, 617, .inl w0.1)), (hw0_2, .inl (G.2.1, 2468, .inl w0.2.1)), (hw0_3, .inl (G.2.1, 30, .inl w0.2.2.2.2.1)), (hw0_4, .inl (G.2.1, 4000, .inl w0.2.2.2.2.2.1)), (hw0_5, .inl (G.2.1, 120, .inl w0.2.2.2.2.2.2.2.2.2.1)), (hw0_6, .inl (G.2.1, 64, .inl w0.2.2.2.2.2.2.2.2.2.2.1)), (hw0_7, .inl (G.2.2.1, 64, .inl w0.2.2.2.2.2.2.2.2.2.2.2.1)), (hw0_8, .inl (G.2.1, 64, .inl w0.2.2.2.2.2.2.2.2.2.2.2.2.2))] := by
  refine Ct.ofW (cc := cX11_byteAt) (maxL := 3) (ret := (some .int)) (own := RX11) (by decide) rfl rfl (Nat.le_of_ble_eq_true rfl) ?_
  intro p e s m args below meth c A hx hb hr hml hts hown hlocks hK hP hD hA hS ls hl
  have hl : lv_has ls 3 [(0, .ref hw0_0), (1, .int p1), (2, .int p2)] := hl
  generalize hQ : gMQ below G _ _ A args s = Q
  generalize hH : s.heap = H at hP ⊢
  have hS : va_S A s.heap H [] := by rw [← hH]; exact hS
  generalize ([] : List Loc) = locs at hS ⊢
  unfold f_X11_byteAt at hf
  refine lv_aload_n (pc := 0) hx hb dX11_byteAt_0 rfl (lv_at hl 0 rfl) ?_
  refine va_get (pc := 1) (D := G.1) (ci := 8) (v := .ref hw0_1) (C := RX11) (T := TX11) (N := 14) hx hb hts inX11 hown hK.1 hP 0 rfl rfl 0 (by decide) (hts _ wd_880) (fun _ h9 => h9) rfl dX11_byteAt_1 ?_
  refine lv_iconst (pc := 4) (v := (2 : Int32)) hx hb dX11_byteAt_4 (by decide) ?_
  refine lv_bipush (pc := 5) (v := (64 : Int32)) hx hb dX11_byteAt_5 (by decide) ?_
  refine lv_iload_n (pc := 7) hx hb dX11_byteAt_7 rfl (lv_at hl 1 rfl) ?_
  refine lv_imul (pc := 8) hx hb dX11_byteAt_8 ?_
  refine lv_iadd (pc := 9) hx hb dX11_byteAt_9 ?_
  refine lv_iload_n (pc := 10) hx hb dX11_byteAt_10 rfl (lv_at hl 2 rfl) ?_
  refine lv_iadd (pc := 11) hx hb dX11_byteAt_11 ?_
  obtain ⟨hg, hf⟩ := gd_some hf
  refine va_iald (pc := 12) hx hb hK.1 hP 1 0 rfl rfl hg dX11_byteAt_12 ?_
  have hf := Option.some.inj hf; subst hf
  rw [← hQ]
  exact g_iret hx hb hr hlocks hP hS dX11_byteAt_13
theorem hd_X11_append : yX11_append.cls ≠ "java/lang/invoke/MethodHandle" ∧ yX11_append.cls ≠ "java/lang/invoke/VarHandle" ∧ (parseMethodDescriptor yX11_append.desc).map (fun d => d.parameters.length) = some 2 := by decide +kernel
abbrev rm_X11_append : Room := { frames := 2, cells := 0, slots := 0, locals := 45 }
noncomputable def f_X11_append_J42 (p1 : Int32) (p2 : Int32)  (w0 : TModel) (s0 : Int32) (s1 : Int32) : Option (Int32 × TModel) :=
  (f_X11_goes w0 s1 s0).bind (fun x3 => br (x3.1 = 0) (some ((0 : Int32), x3.2)) ((f_X11_save x3.2).bind (fun x4 => (f_X11_longOf x4 p1).bind (fun x5 => gd (vp_in (((2 : Int32) + ((64 : Int32) * p1)) + x5) 617) (gd (vp_in ((0 : Int32) + p1) 617) (gd (vp_in ((0 : Int32) + p1) 617) ((f_X11_dropsPlan ((upd (upd x4.1 (((2 : Int32) + ((64 : Int32) * p1)) + x5).toNatClampNeg p2) ((0 : Int32) + p1).toNatClampNeg (((upd x4.1 (((2 : Int32) + ((64 : Int32) * p1)) + x5).toNatClampNeg p2) ((0 : Int32) + p1).toNatClampNeg) + (1 : Int32))), x4.2.1, x4.2.2.1, x4.2.2.2.1, x4.2.2.2.2.1, x4.2.2.2.2.2.1, x4.2.2.2.2.2.2.1, x4.2.2.2.2.2.2.2.1, x4.2.2.2.2.2.2.2.2.1, x4.2.2.2.2.2.2.2.2.2.1, x4.2.2.2.2.2.2.2.2.2.2.1, x4.2.2.2.2.2.2.2.2.2.2.2.1, x4.2.2.2.2.2.2.2.2.2.2.2.2.1, x4.2.2.2.2.2.2.2.2.2.2.2.2.2)).bind (fun x6 => (f_X11_longOf x6 p1).bind (fun x7 => some (x7, x6))))))))))
noncomputable def f_X11_append_J37 (p1 : Int32) (p2 : Int32)  (w0 : TModel) (s0 : Int32) : Option (Int32 × TModel) :=
  f_X11_append_J42 p1 p2 w0 (1 : Int32) s0
noncomputable def f_X11_append_J20 (p1 : Int32) (p2 : Int32)  (w0 : TModel) (s0 : Int32) : Option (Int32 × TModel) :=
  (f_X11_isVersion p1).bind (fun x2 => br (x2 = 0) (f_X11_append_J37 p1 p2 w0 s0) ((f_X11_longOf w0 p1).bind (fun x8 => br ((64 : Int32) ≤ x8) (f_X11_append_J42 p1 p2 w0 (0 : Int32) s0) (f_X11_append_J37 p1 p2 w0 s0))))
noncomputable def f_X11_append_J19 (p1 : Int32) (p2 : Int32)  (w0 : TModel) : Option (Int32 × TModel) :=
  f_X11_append_J20 p1 p2 w0 (0 : Int32)
noncomputable def f_X11_append (w0 : TModel) (p1 : Int32) (p2 : Int32) : Option (Int32 × TModel) :=
  (f_X11_isVersion p1).bind (fun x1 => br (x1 = 0) (f_X11_append_J19 p1 p2 w0) ((f_X11_isByte p2).bind (fun x9 => br (x9 = 0) (f_X11_append_J19 p1 p2 w0) (f_X11_append_J20 p1 p2 w0 (1 : Int32)))))
set_option maxHeartbeats 4000000 in
set_option maxRecDepth 100000 in
theorem c_X11_append (l : Launch) (G : GT) (hw0_0 hw0_1 hw0_2 hw0_3 hw0_4 hw0_5 hw0_6 hw0_7 hw0_8 : Nat) (w0 : TModel) (p1 : Int32) (p2 : Int32) {r : Int32 × TModel} (hf : f_X11_append w0 p1 p2 = some r) : Ct l yX11_append (Cond.code yX11_append cX11_append 3 (some .int) :: lw_g) rm_X11_append G [.ref hw0_0, .int p1, .int p2] [(hw0_0, .inr (8, [.ref hw0_1, .ref hw0_2, .int w0.2.2.1, .int w0.2.2.2.1, .ref hw0_3, .ref hw0_4, .int w0.2.2.2.2.2.2.1, .int w0.2.2.2.2.2.2.2.1, .int w0.2.2.2.2.2.2.2.2.1, .ref hw0_5, .ref hw0_6, .ref hw0_7, .int w0.2.2.2.2.2.2.2.2.2.2.2.2.1, .ref hw0_8])), (hw0_1, .inl (G.2.1, 617, .inl w0.1)), (hw0_2, .inl (G.2.1, 2468, .inl w0.2.1)), (hw0_3, .inl (G.2.1, 30, .inl w0.2.2.2.2.1)), (hw0_4, .inl (G.2.1, 4000, .inl w0.2.2.2.2.2.1)), (hw0_5, .inl (G.2.1, 120, .inl w0.2.2.2.2.2.2.2.2.2.1)), (hw0_6, .inl (G.2.1, 64, .inl w0.2.2.2.2.2.2.2.2.2.2.1)), (hw0_7, .inl (G.2.2.1, 64, .inl w0.2.2.2.2.2.2.2.2.2.2.2.1)), (hw0_8, .inl (G.2.1, 64, .inl w0.2.2.2.2.2.2.2.2.2.2.2.2.2))] (some (.int r.1)) [(hw0_0, .inr (8, [.ref hw0_1, .ref hw0_2, .int r.2.2.2.1, .int r.2.2.2.2.1, .ref hw0_3, .ref hw0_4, .int r.2.2.2.2.2.2.2.1, .int r.2.2.2.2.2.2.2.2.1, .int r.2.2.2.2.2.2.2.2.2.1, .ref hw0_5, .ref hw0_6, .ref hw0_7, .int r.2.2.2.2.2.2.2.2.2.2.2.2.2.1, .ref hw0_8])), (hw0_1, .inl (G.2.1, 617, .inl r.2.1)), (hw0_2, .inl (G.2.1, 2468, .inl r.2.2.1)), (hw0_3, .inl (G.2.1, 30, .inl r.2.2.2.2.2.1)), (hw0_4, .inl (G.2.1, 4000, .inl r.2.2.2.2.2.2.1)), (hw0_5, .inl (G.2.1, 120, .inl r.2.2.2.2.2.2.2.2.2.2.1)), (hw0_6, .inl (G.2.1, 64, .inl r.2.2.2.2.2.2.2.2.2.2.2.1)), (hw0_7, .inl (G.2.2.1, 64, .inl r.2.2.2.2.2.2.2.2.2.2.2.2.1)), (hw0_8, .inl (G.2.1, 64, .inl r.2.2.2.2.2.2.2.2.2.2.2.2.2.2))] := by
  refine Ct.ofW (cc := cX11_append) (maxL := 3) (ret := (some .int)) (own := RX11) (by decide) rfl rfl (Nat.le_of_ble_eq_true rfl) ?_
  intro p e s m args below meth c A hx hb hr hml hts hown hlocks hK hP hD hA hS ls hl
  have hl : lv_has ls 3 [(0, .ref hw0_0), (1, .int p1), (2, .int p2)] := hl
  generalize hQ : gMQ below G _ _ A args s = Q
  generalize hH : s.heap = H at hP ⊢
  have hS : va_S A s.heap H [] := by rw [← hH]; exact hS
  generalize ([] : List Loc) = locs at hS ⊢
  unfold f_X11_append at hf
  have hJ42 : ∀ (w0 : TModel) (s0 : Int32) (s1 : Int32), f_X11_append_J42 p1 p2  w0 s0 s1 = some r → ∀ (H : Heap) (locs : List Loc), va_P G.1 vwCl [(hw0_0, .inr (8, [.ref hw0_1, .ref hw0_2, .int w0.2.2.1, .int w0.2.2.2.1, .ref hw0_3, .ref hw0_4, .int w0.2.2.2.2.2.2.1, .int w0.2.2.2.2.2.2.2.1, .int w0.2.2.2.2.2.2.2.2.1, .ref hw0_5, .ref hw0_6, .ref hw0_7, .int w0.2.2.2.2.2.2.2.2.2.2.2.2.1, .ref hw0_8])), (hw0_1, .inl (G.2.1, 617, .inl w0.1)), (hw0_2, .inl (G.2.1, 2468, .inl w0.2.1)), (hw0_3, .inl (G.2.1, 30, .inl w0.2.2.2.2.1)), (hw0_4, .inl (G.2.1, 4000, .inl w0.2.2.2.2.2.1)), (hw0_5, .inl (G.2.1, 120, .inl w0.2.2.2.2.2.2.2.2.2.1)), (hw0_6, .inl (G.2.1, 64, .inl w0.2.2.2.2.2.2.2.2.2.2.1)), (hw0_7, .inl (G.2.2.1, 64, .inl w0.2.2.2.2.2.2.2.2.2.2.2.1)), (hw0_8, .inl (G.2.1, 64, .inl w0.2.2.2.2.2.2.2.2.2.2.2.2.2))] H → va_D A [(hw0_0, .inr (8, [.ref hw0_1, .ref hw0_2, .int w0.2.2.1, .int w0.2.2.2.1, .ref hw0_3, .ref hw0_4, .int w0.2.2.2.2.2.2.1, .int w0.2.2.2.2.2.2.2.1, .int w0.2.2.2.2.2.2.2.2.1, .ref hw0_5, .ref hw0_6, .ref hw0_7, .int w0.2.2.2.2.2.2.2.2.2.2.2.2.1, .ref hw0_8])), (hw0_1, .inl (G.2.1, 617, .inl w0.1)), (hw0_2, .inl (G.2.1, 2468, .inl w0.2.1)), (hw0_3, .inl (G.2.1, 30, .inl w0.2.2.2.2.1)), (hw0_4, .inl (G.2.1, 4000, .inl w0.2.2.2.2.2.1)), (hw0_5, .inl (G.2.1, 120, .inl w0.2.2.2.2.2.2.2.2.2.1)), (hw0_6, .inl (G.2.1, 64, .inl w0.2.2.2.2.2.2.2.2.2.2.1)), (hw0_7, .inl (G.2.2.1, 64, .inl w0.2.2.2.2.2.2.2.2.2.2.2.1)), (hw0_8, .inl (G.2.1, 64, .inl w0.2.2.2.2.2.2.2.2.2.2.2.2.2))] → va_S A s.heap H locs → ∀ (ls : Array Slot), lv_has ls 3 [(0, .ref hw0_0), (1, .int p1), (2, .int p2)] → W p l e (rm_X11_append) s m args below meth c H locs 0 0 Q (F0 m 42 ls [.int s0, .int s1, .ref hw0_0]) := by
    intro w0 s0 s1 hf H locs hP hD hS ls hl
    unfold f_X11_append_J42 at hf
    obtain ⟨x3, hcx3, hf⟩ := bn_some hf
    refine g_callV (pc := 42) (ws' := [(hw0_0, .inr (8, [.ref hw0_1, .ref hw0_2, .int x3.2.2.2.1, .int x3.2.2.2.2.1, .ref hw0_3, .ref hw0_4, .int x3.2.2.2.2.2.2.2.1, .int x3.2.2.2.2.2.2.2.2.1, .int x3.2.2.2.2.2.2.2.2.2.1, .ref hw0_5, .ref hw0_6, .ref hw0_7, .int x3.2.2.2.2.2.2.2.2.2.2.2.2.2.1, .ref hw0_8])), (hw0_1, .inl (G.2.1, 617, .inl x3.2.1)), (hw0_2, .inl (G.2.1, 2468, .inl x3.2.2.1)), (hw0_3, .inl (G.2.1, 30, .inl x3.2.2.2.2.2.1)), (hw0_4, .inl (G.2.1, 4000, .inl x3.2.2.2.2.2.2.1)), (hw0_5, .inl (G.2.1, 120, .inl x3.2.2.2.2.2.2.2.2.2.2.1)), (hw0_6, .inl (G.2.1, 64, .inl x3.2.2.2.2.2.2.2.2.2.2.2.1)), (hw0_7, .inl (G.2.2.1, 64, .inl x3.2.2.2.2.2.2.2.2.2.2.2.2.1)), (hw0_8, .inl (G.2.1, 64, .inl x3.2.2.2.2.2.2.2.2.2.2.2.2.2.2))]) (rest := []) hx hb hml hown hts hK (c_X11_goes l G hw0_0 hw0_1 hw0_2 hw0_3 hw0_4 hw0_5 hw0_6 hw0_7 hw0_8 w0 s1 s0 hcx3) wd_949 wd_10 wd_946 wd_948 ws_13 hd_X11_goes ⟨rfl, rfl, Nat.le_of_ble_eq_true rfl, Nat.le_of_ble_eq_true rfl⟩ hP hD hS hA [0, 1, 2, 3, 4, 5, 6, 7, 8] rfl rfl rfl rfl 8 0 rfl rfl rfl rfl hl.1 rfl (Nat.le_of_ble_eq_true rfl) dX11_append_42 ⟨Nat.zero_le _, Nat.zero_le _⟩ (fun H locs hP hD hS => ?_)
    refine lv_if_ne (pc := 45) (tgt := 50) hx hb dX11_append_45 (by decide) (fun hc => ?_) (fun hc => ?_)
    · have hf := br_n hc hf
      refine lv_aload_n (pc := 50) hx hb dX11_append_50 rfl (lv_at hl 0 rfl) ?_
      obtain ⟨x4, hcx4, hf⟩ := bn_some hf
      refine g_callV (pc := 51) (ws' := [(hw0_0, .inr (8, [.ref hw0_1, .ref hw0_2, .int x4.2.2.1, .int x4.2.2.2.1, .ref hw0_3, .ref hw0_4, .int x4.2.2.2.2.2.2.1, .int x4.2.2.2.2.2.2.2.1, .int x4.2.2.2.2.2.2.2.2.1, .ref hw0_5, .ref hw0_6, .ref hw0_7, .int x4.2.2.2.2.2.2.2.2.2.2.2.2.1, .ref hw0_8])), (hw0_1, .inl (G.2.1, 617, .inl x4.1)), (hw0_2, .inl (G.2.1, 2468, .inl x4.2.1)), (hw0_3, .inl (G.2.1, 30, .inl x4.2.2.2.2.1)), (hw0_4, .inl (G.2.1, 4000, .inl x4.2.2.2.2.2.1)), (hw0_5, .inl (G.2.1, 120, .inl x4.2.2.2.2.2.2.2.2.2.1)), (hw0_6, .inl (G.2.1, 64, .inl x4.2.2.2.2.2.2.2.2.2.2.1)), (hw0_7, .inl (G.2.2.1, 64, .inl x4.2.2.2.2.2.2.2.2.2.2.2.1)), (hw0_8, .inl (G.2.1, 64, .inl x4.2.2.2.2.2.2.2.2.2.2.2.2.2))]) (rest := []) hx hb hml hown hts hK (c_X11_save l G hw0_0 hw0_1 hw0_2 hw0_3 hw0_4 hw0_5 hw0_6 hw0_7 hw0_8 x3.2 hcx4) wd_953 wd_10 wd_950 wd_952 ws_14 hd_X11_save ⟨rfl, rfl, Nat.le_of_ble_eq_true rfl, Nat.le_of_ble_eq_true rfl⟩ hP hD hS hA [0, 1, 2, 3, 4, 5, 6, 7, 8] rfl rfl rfl rfl 8 0 rfl rfl rfl rfl hl.1 rfl (Nat.le_of_ble_eq_true rfl) dX11_append_51 ⟨Nat.zero_le _, Nat.zero_le _⟩ (fun H locs hP hD hS => ?_)
      refine lv_aload_n (pc := 54) hx hb dX11_append_54 rfl (lv_at hl 0 rfl) ?_
      refine va_get (pc := 55) (D := G.1) (ci := 8) (v := .ref hw0_1) (C := RX11) (T := TX11) (N := 14) hx hb hts inX11 hown hK.1 hP 0 rfl rfl 0 (by decide) (hts _ wd_880) (fun _ h9 => h9) rfl dX11_append_55 ?_
      refine lv_iconst (pc := 58) (v := (2 : Int32)) hx hb dX11_append_58 (by decide) ?_
      refine lv_bipush (pc := 59) (v := (64 : Int32)) hx hb dX11_append_59 (by decide) ?_
      refine lv_iload_n (pc := 61) hx hb dX11_append_61 rfl (lv_at hl 1 rfl) ?_
      refine lv_imul (pc := 62) hx hb dX11_append_62 ?_
      refine lv_iadd (pc := 63) hx hb dX11_append_63 ?_
      refine lv_aload_n (pc := 64) hx hb dX11_append_64 rfl (lv_at hl 0 rfl) ?_
      refine lv_iload_n (pc := 65) hx hb dX11_append_65 rfl (lv_at hl 1 rfl) ?_
      obtain ⟨x5, hcx5, hf⟩ := bn_some hf
      refine g_callV0 (pc := 66) (rest := [.int ((2 : Int32) + ((64 : Int32) * p1)), .ref hw0_1]) hx hb hml hown hts hK (c_X11_longOf l G hw0_0 hw0_1 hw0_2 hw0_3 hw0_4 hw0_5 hw0_6 hw0_7 hw0_8 x4 p1 hcx5) wd_945 wd_10 wd_942 wd_944 ws_12 hd_X11_longOf ⟨rfl, rfl, Nat.le_of_ble_eq_true rfl, Nat.le_of_ble_eq_true rfl⟩ hP hD hS hA [0, 1, 2, 3, 4, 5, 6, 7, 8] rfl rfl 8 0 rfl rfl rfl rfl hl.1 rfl (Nat.le_of_ble_eq_true rfl) dX11_append_66 ⟨Nat.zero_le _, Nat.zero_le _⟩ (fun H locs hP hS => ?_)
      refine lv_iadd (pc := 69) hx hb dX11_append_69 ?_
      refine lv_iload_n (pc := 70) hx hb dX11_append_70 rfl (lv_at hl 2 rfl) ?_
      obtain ⟨hg, hf⟩ := gd_some hf
      refine va_iast (pc := 71) hx hb hK.1 hP hD hS 1 0 rfl rfl hg dX11_append_71 (fun H locs hP hD hS => ?_)
      have hP : va_P G.1 vwCl [(hw0_0, .inr (8, [.ref hw0_1, .ref hw0_2, .int x4.2.2.1, .int x4.2.2.2.1, .ref hw0_3, .ref hw0_4, .int x4.2.2.2.2.2.2.1, .int x4.2.2.2.2.2.2.2.1, .int x4.2.2.2.2.2.2.2.2.1, .ref hw0_5, .ref hw0_6, .ref hw0_7, .int x4.2.2.2.2.2.2.2.2.2.2.2.2.1, .ref hw0_8])), (hw0_1, .inl (G.2.1, 617, .inl (upd x4.1 (((2 : Int32) + ((64 : Int32) * p1)) + x5).toNatClampNeg p2))), (hw0_2, .inl (G.2.1, 2468, .inl x4.2.1)), (hw0_3, .inl (G.2.1, 30, .inl x4.2.2.2.2.1)), (hw0_4, .inl (G.2.1, 4000, .inl x4.2.2.2.2.2.1)), (hw0_5, .inl (G.2.1, 120, .inl x4.2.2.2.2.2.2.2.2.2.1)), (hw0_6, .inl (G.2.1, 64, .inl x4.2.2.2.2.2.2.2.2.2.2.1)), (hw0_7, .inl (G.2.2.1, 64, .inl x4.2.2.2.2.2.2.2.2.2.2.2.1)), (hw0_8, .inl (G.2.1, 64, .inl x4.2.2.2.2.2.2.2.2.2.2.2.2.2))] H := hP
      have hD : va_D A [(hw0_0, .inr (8, [.ref hw0_1, .ref hw0_2, .int x4.2.2.1, .int x4.2.2.2.1, .ref hw0_3, .ref hw0_4, .int x4.2.2.2.2.2.2.1, .int x4.2.2.2.2.2.2.2.1, .int x4.2.2.2.2.2.2.2.2.1, .ref hw0_5, .ref hw0_6, .ref hw0_7, .int x4.2.2.2.2.2.2.2.2.2.2.2.2.1, .ref hw0_8])), (hw0_1, .inl (G.2.1, 617, .inl (upd x4.1 (((2 : Int32) + ((64 : Int32) * p1)) + x5).toNatClampNeg p2))), (hw0_2, .inl (G.2.1, 2468, .inl x4.2.1)), (hw0_3, .inl (G.2.1, 30, .inl x4.2.2.2.2.1)), (hw0_4, .inl (G.2.1, 4000, .inl x4.2.2.2.2.2.1)), (hw0_5, .inl (G.2.1, 120, .inl x4.2.2.2.2.2.2.2.2.2.1)), (hw0_6, .inl (G.2.1, 64, .inl x4.2.2.2.2.2.2.2.2.2.2.1)), (hw0_7, .inl (G.2.2.1, 64, .inl x4.2.2.2.2.2.2.2.2.2.2.2.1)), (hw0_8, .inl (G.2.1, 64, .inl x4.2.2.2.2.2.2.2.2.2.2.2.2.2))] := hD
      refine lv_aload_n (pc := 72) hx hb dX11_append_72 rfl (lv_at hl 0 rfl) ?_
      refine va_get (pc := 73) (D := G.1) (ci := 8) (v := .ref hw0_1) (C := RX11) (T := TX11) (N := 14) hx hb hts inX11 hown hK.1 hP 0 rfl rfl 0 (by decide) (hts _ wd_880) (fun _ h9 => h9) rfl dX11_append_73 ?_
      refine lv_iconst (pc := 76) (v := (0 : Int32)) hx hb dX11_append_76 (by decide) ?_
      refine lv_iload_n (pc := 77) hx hb dX11_append_77 rfl (lv_at hl 1 rfl) ?_
      refine lv_iadd (pc := 78) hx hb dX11_append_78 ?_
      refine lv_dup2_11 (pc := 79) hx hb dX11_append_79 rfl rfl ?_
      obtain ⟨hg, hf⟩ := gd_some hf
      refine va_iald (pc := 80) hx hb hK.1 hP 1 0 rfl rfl hg dX11_append_80 ?_
      refine lv_iconst (pc := 81) (v := (1 : Int32)) hx hb dX11_append_81 (by decide) ?_
      refine lv_iadd (pc := 82) hx hb dX11_append_82 ?_
      obtain ⟨hg, hf⟩ := gd_some hf
      refine va_iast (pc := 83) hx hb hK.1 hP hD hS 1 0 rfl rfl hg dX11_append_83 (fun H locs hP hD hS => ?_)
      have hP : va_P G.1 vwCl [(hw0_0, .inr (8, [.ref hw0_1, .ref hw0_2, .int x4.2.2.1, .int x4.2.2.2.1, .ref hw0_3, .ref hw0_4, .int x4.2.2.2.2.2.2.1, .int x4.2.2.2.2.2.2.2.1, .int x4.2.2.2.2.2.2.2.2.1, .ref hw0_5, .ref hw0_6, .ref hw0_7, .int x4.2.2.2.2.2.2.2.2.2.2.2.2.1, .ref hw0_8])), (hw0_1, .inl (G.2.1, 617, .inl (upd (upd x4.1 (((2 : Int32) + ((64 : Int32) * p1)) + x5).toNatClampNeg p2) ((0 : Int32) + p1).toNatClampNeg (((upd x4.1 (((2 : Int32) + ((64 : Int32) * p1)) + x5).toNatClampNeg p2) ((0 : Int32) + p1).toNatClampNeg) + (1 : Int32))))), (hw0_2, .inl (G.2.1, 2468, .inl x4.2.1)), (hw0_3, .inl (G.2.1, 30, .inl x4.2.2.2.2.1)), (hw0_4, .inl (G.2.1, 4000, .inl x4.2.2.2.2.2.1)), (hw0_5, .inl (G.2.1, 120, .inl x4.2.2.2.2.2.2.2.2.2.1)), (hw0_6, .inl (G.2.1, 64, .inl x4.2.2.2.2.2.2.2.2.2.2.1)), (hw0_7, .inl (G.2.2.1, 64, .inl x4.2.2.2.2.2.2.2.2.2.2.2.1)), (hw0_8, .inl (G.2.1, 64, .inl x4.2.2.2.2.2.2.2.2.2.2.2.2.2))] H := hP
      have hD : va_D A [(hw0_0, .inr (8, [.ref hw0_1, .ref hw0_2, .int x4.2.2.1, .int x4.2.2.2.1, .ref hw0_3, .ref hw0_4, .int x4.2.2.2.2.2.2.1, .int x4.2.2.2.2.2.2.2.1, .int x4.2.2.2.2.2.2.2.2.1, .ref hw0_5, .ref hw0_6, .ref hw0_7, .int x4.2.2.2.2.2.2.2.2.2.2.2.2.1, .ref hw0_8])), (hw0_1, .inl (G.2.1, 617, .inl (upd (upd x4.1 (((2 : Int32) + ((64 : Int32) * p1)) + x5).toNatClampNeg p2) ((0 : Int32) + p1).toNatClampNeg (((upd x4.1 (((2 : Int32) + ((64 : Int32) * p1)) + x5).toNatClampNeg p2) ((0 : Int32) + p1).toNatClampNeg) + (1 : Int32))))), (hw0_2, .inl (G.2.1, 2468, .inl x4.2.1)), (hw0_3, .inl (G.2.1, 30, .inl x4.2.2.2.2.1)), (hw0_4, .inl (G.2.1, 4000, .inl x4.2.2.2.2.2.1)), (hw0_5, .inl (G.2.1, 120, .inl x4.2.2.2.2.2.2.2.2.2.1)), (hw0_6, .inl (G.2.1, 64, .inl x4.2.2.2.2.2.2.2.2.2.2.1)), (hw0_7, .inl (G.2.2.1, 64, .inl x4.2.2.2.2.2.2.2.2.2.2.2.1)), (hw0_8, .inl (G.2.1, 64, .inl x4.2.2.2.2.2.2.2.2.2.2.2.2.2))] := hD
      refine lv_aload_n (pc := 84) hx hb dX11_append_84 rfl (lv_at hl 0 rfl) ?_
      obtain ⟨x6, hcx6, hf⟩ := bn_some hf
      refine g_callV (pc := 85) (ws' := [(hw0_0, .inr (8, [.ref hw0_1, .ref hw0_2, .int x6.2.2.1, .int x6.2.2.2.1, .ref hw0_3, .ref hw0_4, .int x6.2.2.2.2.2.2.1, .int x6.2.2.2.2.2.2.2.1, .int x6.2.2.2.2.2.2.2.2.1, .ref hw0_5, .ref hw0_6, .ref hw0_7, .int x6.2.2.2.2.2.2.2.2.2.2.2.2.1, .ref hw0_8])), (hw0_1, .inl (G.2.1, 617, .inl x6.1)), (hw0_2, .inl (G.2.1, 2468, .inl x6.2.1)), (hw0_3, .inl (G.2.1, 30, .inl x6.2.2.2.2.1)), (hw0_4, .inl (G.2.1, 4000, .inl x6.2.2.2.2.2.1)), (hw0_5, .inl (G.2.1, 120, .inl x6.2.2.2.2.2.2.2.2.2.1)), (hw0_6, .inl (G.2.1, 64, .inl x6.2.2.2.2.2.2.2.2.2.2.1)), (hw0_7, .inl (G.2.2.1, 64, .inl x6.2.2.2.2.2.2.2.2.2.2.2.1)), (hw0_8, .inl (G.2.1, 64, .inl x6.2.2.2.2.2.2.2.2.2.2.2.2.2))]) (rest := []) hx hb hml hown hts hK (c_X11_dropsPlan l G hw0_0 hw0_1 hw0_2 hw0_3 hw0_4 hw0_5 hw0_6 hw0_7 hw0_8 ((upd (upd x4.1 (((2 : Int32) + ((64 : Int32) * p1)) + x5).toNatClampNeg p2) ((0 : Int32) + p1).toNatClampNeg (((upd x4.1 (((2 : Int32) + ((64 : Int32) * p1)) + x5).toNatClampNeg p2) ((0 : Int32) + p1).toNatClampNeg) + (1 : Int32))), x4.2.1, x4.2.2.1, x4.2.2.2.1, x4.2.2.2.2.1, x4.2.2.2.2.2.1, x4.2.2.2.2.2.2.1, x4.2.2.2.2.2.2.2.1, x4.2.2.2.2.2.2.2.2.1, x4.2.2.2.2.2.2.2.2.2.1, x4.2.2.2.2.2.2.2.2.2.2.1, x4.2.2.2.2.2.2.2.2.2.2.2.1, x4.2.2.2.2.2.2.2.2.2.2.2.2.1, x4.2.2.2.2.2.2.2.2.2.2.2.2.2) hcx6) wd_957 wd_10 wd_954 wd_956 ws_15 hd_X11_dropsPlan ⟨rfl, rfl, Nat.le_of_ble_eq_true rfl, Nat.le_of_ble_eq_true rfl⟩ hP hD hS hA [0, 1, 2, 3, 4, 5, 6, 7, 8] rfl rfl rfl rfl 8 0 rfl rfl rfl rfl hl.1 rfl (Nat.le_of_ble_eq_true rfl) dX11_append_85 ⟨Nat.zero_le _, Nat.zero_le _⟩ (fun H locs hP hD hS => ?_)
      refine lv_aload_n (pc := 88) hx hb dX11_append_88 rfl (lv_at hl 0 rfl) ?_
      refine lv_iload_n (pc := 89) hx hb dX11_append_89 rfl (lv_at hl 1 rfl) ?_
      obtain ⟨x7, hcx7, hf⟩ := bn_some hf
      refine g_callV0 (pc := 90) (rest := []) hx hb hml hown hts hK (c_X11_longOf l G hw0_0 hw0_1 hw0_2 hw0_3 hw0_4 hw0_5 hw0_6 hw0_7 hw0_8 x6 p1 hcx7) wd_945 wd_10 wd_942 wd_944 ws_12 hd_X11_longOf ⟨rfl, rfl, Nat.le_of_ble_eq_true rfl, Nat.le_of_ble_eq_true rfl⟩ hP hD hS hA [0, 1, 2, 3, 4, 5, 6, 7, 8] rfl rfl 8 0 rfl rfl rfl rfl hl.1 rfl (Nat.le_of_ble_eq_true rfl) dX11_append_90 ⟨Nat.zero_le _, Nat.zero_le _⟩ (fun H locs hP hS => ?_)
      have hf := Option.some.inj hf; subst hf
      rw [← hQ]
      exact g_iret hx hb hr hlocks hP hS dX11_append_93
    · have hf := br_y hc hf
      refine lv_iconst (pc := 48) (v := (0 : Int32)) hx hb dX11_append_48 (by decide) ?_
      have hf := Option.some.inj hf; subst hf
      rw [← hQ]
      exact g_iret hx hb hr hlocks hP hS dX11_append_49
  have hJ37 : ∀ (w0 : TModel) (s0 : Int32), f_X11_append_J37 p1 p2  w0 s0 = some r → ∀ (H : Heap) (locs : List Loc), va_P G.1 vwCl [(hw0_0, .inr (8, [.ref hw0_1, .ref hw0_2, .int w0.2.2.1, .int w0.2.2.2.1, .ref hw0_3, .ref hw0_4, .int w0.2.2.2.2.2.2.1, .int w0.2.2.2.2.2.2.2.1, .int w0.2.2.2.2.2.2.2.2.1, .ref hw0_5, .ref hw0_6, .ref hw0_7, .int w0.2.2.2.2.2.2.2.2.2.2.2.2.1, .ref hw0_8])), (hw0_1, .inl (G.2.1, 617, .inl w0.1)), (hw0_2, .inl (G.2.1, 2468, .inl w0.2.1)), (hw0_3, .inl (G.2.1, 30, .inl w0.2.2.2.2.1)), (hw0_4, .inl (G.2.1, 4000, .inl w0.2.2.2.2.2.1)), (hw0_5, .inl (G.2.1, 120, .inl w0.2.2.2.2.2.2.2.2.2.1)), (hw0_6, .inl (G.2.1, 64, .inl w0.2.2.2.2.2.2.2.2.2.2.1)), (hw0_7, .inl (G.2.2.1, 64, .inl w0.2.2.2.2.2.2.2.2.2.2.2.1)), (hw0_8, .inl (G.2.1, 64, .inl w0.2.2.2.2.2.2.2.2.2.2.2.2.2))] H → va_D A [(hw0_0, .inr (8, [.ref hw0_1, .ref hw0_2, .int w0.2.2.1, .int w0.2.2.2.1, .ref hw0_3, .ref hw0_4, .int w0.2.2.2.2.2.2.1, .int w0.2.2.2.2.2.2.2.1, .int w0.2.2.2.2.2.2.2.2.1, .ref hw0_5, .ref hw0_6, .ref hw0_7, .int w0.2.2.2.2.2.2.2.2.2.2.2.2.1, .ref hw0_8])), (hw0_1, .inl (G.2.1, 617, .inl w0.1)), (hw0_2, .inl (G.2.1, 2468, .inl w0.2.1)), (hw0_3, .inl (G.2.1, 30, .inl w0.2.2.2.2.1)), (hw0_4, .inl (G.2.1, 4000, .inl w0.2.2.2.2.2.1)), (hw0_5, .inl (G.2.1, 120, .inl w0.2.2.2.2.2.2.2.2.2.1)), (hw0_6, .inl (G.2.1, 64, .inl w0.2.2.2.2.2.2.2.2.2.2.1)), (hw0_7, .inl (G.2.2.1, 64, .inl w0.2.2.2.2.2.2.2.2.2.2.2.1)), (hw0_8, .inl (G.2.1, 64, .inl w0.2.2.2.2.2.2.2.2.2.2.2.2.2))] → va_S A s.heap H locs → ∀ (ls : Array Slot), lv_has ls 3 [(0, .ref hw0_0), (1, .int p1), (2, .int p2)] → W p l e (rm_X11_append) s m args below meth c H locs 0 0 Q (F0 m 37 ls [.int s0, .ref hw0_0]) := by
    intro w0 s0 hf H locs hP hD hS ls hl
    unfold f_X11_append_J37 at hf
    refine lv_iconst (pc := 37) (v := (1 : Int32)) hx hb dX11_append_37 (by decide) ?_
    refine lv_goto (pc := 38) (tgt := 42) hx hb dX11_append_38 (by decide) ?_
    exact hJ42 w0 (1 : Int32) s0 hf H locs hP hD hS ls (lv_sub hl [0, 1, 2] rfl)
  have hJ20 : ∀ (w0 : TModel) (s0 : Int32), f_X11_append_J20 p1 p2  w0 s0 = some r → ∀ (H : Heap) (locs : List Loc), va_P G.1 vwCl [(hw0_0, .inr (8, [.ref hw0_1, .ref hw0_2, .int w0.2.2.1, .int w0.2.2.2.1, .ref hw0_3, .ref hw0_4, .int w0.2.2.2.2.2.2.1, .int w0.2.2.2.2.2.2.2.1, .int w0.2.2.2.2.2.2.2.2.1, .ref hw0_5, .ref hw0_6, .ref hw0_7, .int w0.2.2.2.2.2.2.2.2.2.2.2.2.1, .ref hw0_8])), (hw0_1, .inl (G.2.1, 617, .inl w0.1)), (hw0_2, .inl (G.2.1, 2468, .inl w0.2.1)), (hw0_3, .inl (G.2.1, 30, .inl w0.2.2.2.2.1)), (hw0_4, .inl (G.2.1, 4000, .inl w0.2.2.2.2.2.1)), (hw0_5, .inl (G.2.1, 120, .inl w0.2.2.2.2.2.2.2.2.2.1)), (hw0_6, .inl (G.2.1, 64, .inl w0.2.2.2.2.2.2.2.2.2.2.1)), (hw0_7, .inl (G.2.2.1, 64, .inl w0.2.2.2.2.2.2.2.2.2.2.2.1)), (hw0_8, .inl (G.2.1, 64, .inl w0.2.2.2.2.2.2.2.2.2.2.2.2.2))] H → va_D A [(hw0_0, .inr (8, [.ref hw0_1, .ref hw0_2, .int w0.2.2.1, .int w0.2.2.2.1, .ref hw0_3, .ref hw0_4, .int w0.2.2.2.2.2.2.1, .int w0.2.2.2.2.2.2.2.1, .int w0.2.2.2.2.2.2.2.2.1, .ref hw0_5, .ref hw0_6, .ref hw0_7, .int w0.2.2.2.2.2.2.2.2.2.2.2.2.1, .ref hw0_8])), (hw0_1, .inl (G.2.1, 617, .inl w0.1)), (hw0_2, .inl (G.2.1, 2468, .inl w0.2.1)), (hw0_3, .inl (G.2.1, 30, .inl w0.2.2.2.2.1)), (hw0_4, .inl (G.2.1, 4000, .inl w0.2.2.2.2.2.1)), (hw0_5, .inl (G.2.1, 120, .inl w0.2.2.2.2.2.2.2.2.2.1)), (hw0_6, .inl (G.2.1, 64, .inl w0.2.2.2.2.2.2.2.2.2.2.1)), (hw0_7, .inl (G.2.2.1, 64, .inl w0.2.2.2.2.2.2.2.2.2.2.2.1)), (hw0_8, .inl (G.2.1, 64, .inl w0.2.2.2.2.2.2.2.2.2.2.2.2.2))] → va_S A s.heap H locs → ∀ (ls : Array Slot), lv_has ls 3 [(0, .ref hw0_0), (1, .int p1), (2, .int p2)] → W p l e (rm_X11_append) s m args below meth c H locs 0 0 Q (F0 m 20 ls [.int s0, .ref hw0_0]) := by
    intro w0 s0 hf H locs hP hD hS ls hl
    unfold f_X11_append_J20 at hf
    refine lv_iload_n (pc := 20) hx hb dX11_append_20 rfl (lv_at hl 1 rfl) ?_
    obtain ⟨x2, hcx2, hf⟩ := bn_some hf
    refine g_callS0 (pc := 21) (rest := [.int s0, .ref hw0_0]) hx hb hml hown hts hK (c_X11_isVersion l G  p1 hcx2) wd_934 wd_10 wd_932 wd_933 hd_X11_isVersion ⟨rfl, rfl, Nat.le_of_ble_eq_true rfl, Nat.le_of_ble_eq_true rfl⟩ hP hD hS hA [] rfl rfl rfl hl.1 rfl (Nat.le_of_ble_eq_true rfl) dX11_append_21 ⟨Nat.zero_le _, Nat.zero_le _⟩ (fun H locs hP hS => ?_)
    refine lv_if_eq (pc := 24) (tgt := 37) hx hb dX11_append_24 (by decide) (fun hc => ?_) (fun hc => ?_)
    · have hf := br_y hc hf
      exact hJ37 w0 s0 hf H locs hP hD hS ls (lv_sub hl [0, 1, 2] rfl)
    · have hf := br_n hc hf
      refine lv_aload_n (pc := 27) hx hb dX11_append_27 rfl (lv_at hl 0 rfl) ?_
      refine lv_iload_n (pc := 28) hx hb dX11_append_28 rfl (lv_at hl 1 rfl) ?_
      obtain ⟨x8, hcx8, hf⟩ := bn_some hf
      refine g_callV0 (pc := 29) (rest := [.int s0, .ref hw0_0]) hx hb hml hown hts hK (c_X11_longOf l G hw0_0 hw0_1 hw0_2 hw0_3 hw0_4 hw0_5 hw0_6 hw0_7 hw0_8 w0 p1 hcx8) wd_945 wd_10 wd_942 wd_944 ws_12 hd_X11_longOf ⟨rfl, rfl, Nat.le_of_ble_eq_true rfl, Nat.le_of_ble_eq_true rfl⟩ hP hD hS hA [0, 1, 2, 3, 4, 5, 6, 7, 8] rfl rfl 8 0 rfl rfl rfl rfl hl.1 rfl (Nat.le_of_ble_eq_true rfl) dX11_append_29 ⟨Nat.zero_le _, Nat.zero_le _⟩ (fun H locs hP hS => ?_)
      refine lv_bipush (pc := 32) (v := (64 : Int32)) hx hb dX11_append_32 (by decide) ?_
      refine lv_icmp_ge (pc := 34) (tgt := 41) hx hb dX11_append_34 (by decide) (fun hc => ?_) (fun hc => ?_)
      · have hf := br_y hc hf
        refine lv_iconst (pc := 41) (v := (0 : Int32)) hx hb dX11_append_41 (by decide) ?_
        exact hJ42 w0 (0 : Int32) s0 hf H locs hP hD hS ls (lv_sub hl [0, 1, 2] rfl)
      · have hf := br_n hc hf
        exact hJ37 w0 s0 hf H locs hP hD hS ls (lv_sub hl [0, 1, 2] rfl)
  have hJ19 : ∀ (w0 : TModel), f_X11_append_J19 p1 p2  w0 = some r → ∀ (H : Heap) (locs : List Loc), va_P G.1 vwCl [(hw0_0, .inr (8, [.ref hw0_1, .ref hw0_2, .int w0.2.2.1, .int w0.2.2.2.1, .ref hw0_3, .ref hw0_4, .int w0.2.2.2.2.2.2.1, .int w0.2.2.2.2.2.2.2.1, .int w0.2.2.2.2.2.2.2.2.1, .ref hw0_5, .ref hw0_6, .ref hw0_7, .int w0.2.2.2.2.2.2.2.2.2.2.2.2.1, .ref hw0_8])), (hw0_1, .inl (G.2.1, 617, .inl w0.1)), (hw0_2, .inl (G.2.1, 2468, .inl w0.2.1)), (hw0_3, .inl (G.2.1, 30, .inl w0.2.2.2.2.1)), (hw0_4, .inl (G.2.1, 4000, .inl w0.2.2.2.2.2.1)), (hw0_5, .inl (G.2.1, 120, .inl w0.2.2.2.2.2.2.2.2.2.1)), (hw0_6, .inl (G.2.1, 64, .inl w0.2.2.2.2.2.2.2.2.2.2.1)), (hw0_7, .inl (G.2.2.1, 64, .inl w0.2.2.2.2.2.2.2.2.2.2.2.1)), (hw0_8, .inl (G.2.1, 64, .inl w0.2.2.2.2.2.2.2.2.2.2.2.2.2))] H → va_D A [(hw0_0, .inr (8, [.ref hw0_1, .ref hw0_2, .int w0.2.2.1, .int w0.2.2.2.1, .ref hw0_3, .ref hw0_4, .int w0.2.2.2.2.2.2.1, .int w0.2.2.2.2.2.2.2.1, .int w0.2.2.2.2.2.2.2.2.1, .ref hw0_5, .ref hw0_6, .ref hw0_7, .int w0.2.2.2.2.2.2.2.2.2.2.2.2.1, .ref hw0_8])), (hw0_1, .inl (G.2.1, 617, .inl w0.1)), (hw0_2, .inl (G.2.1, 2468, .inl w0.2.1)), (hw0_3, .inl (G.2.1, 30, .inl w0.2.2.2.2.1)), (hw0_4, .inl (G.2.1, 4000, .inl w0.2.2.2.2.2.1)), (hw0_5, .inl (G.2.1, 120, .inl w0.2.2.2.2.2.2.2.2.2.1)), (hw0_6, .inl (G.2.1, 64, .inl w0.2.2.2.2.2.2.2.2.2.2.1)), (hw0_7, .inl (G.2.2.1, 64, .inl w0.2.2.2.2.2.2.2.2.2.2.2.1)), (hw0_8, .inl (G.2.1, 64, .inl w0.2.2.2.2.2.2.2.2.2.2.2.2.2))] → va_S A s.heap H locs → ∀ (ls : Array Slot), lv_has ls 3 [(0, .ref hw0_0), (1, .int p1), (2, .int p2)] → W p l e (rm_X11_append) s m args below meth c H locs 0 0 Q (F0 m 19 ls [.ref hw0_0]) := by
    intro w0 hf H locs hP hD hS ls hl
    unfold f_X11_append_J19 at hf
    refine lv_iconst (pc := 19) (v := (0 : Int32)) hx hb dX11_append_19 (by decide) ?_
    exact hJ20 w0 (0 : Int32) hf H locs hP hD hS ls (lv_sub hl [0, 1, 2] rfl)
  refine lv_aload_n (pc := 0) hx hb dX11_append_0 rfl (lv_at hl 0 rfl) ?_
  refine lv_iload_n (pc := 1) hx hb dX11_append_1 rfl (lv_at hl 1 rfl) ?_
  obtain ⟨x1, hcx1, hf⟩ := bn_some hf
  refine g_callS0 (pc := 2) (rest := [.ref hw0_0]) hx hb hml hown hts hK (c_X11_isVersion l G  p1 hcx1) wd_934 wd_10 wd_932 wd_933 hd_X11_isVersion ⟨rfl, rfl, Nat.le_of_ble_eq_true rfl, Nat.le_of_ble_eq_true rfl⟩ hP hD hS hA [] rfl rfl rfl hl.1 rfl (Nat.le_of_ble_eq_true rfl) dX11_append_2 ⟨Nat.zero_le _, Nat.zero_le _⟩ (fun H locs hP hS => ?_)
  refine lv_if_eq (pc := 5) (tgt := 19) hx hb dX11_append_5 (by decide) (fun hc => ?_) (fun hc => ?_)
  · have hf := br_y hc hf
    exact hJ19 w0 hf H locs hP hD hS ls (lv_sub hl [0, 1, 2] rfl)
  · have hf := br_n hc hf
    refine lv_iload_n (pc := 8) hx hb dX11_append_8 rfl (lv_at hl 2 rfl) ?_
    obtain ⟨x9, hcx9, hf⟩ := bn_some hf
    refine g_callS0 (pc := 9) (rest := [.ref hw0_0]) hx hb hml hown hts hK (c_X11_isByte l G  p2 hcx9) wd_940 wd_10 wd_938 wd_939 hd_X11_isByte ⟨rfl, rfl, Nat.le_of_ble_eq_true rfl, Nat.le_of_ble_eq_true rfl⟩ hP hD hS hA [] rfl rfl rfl hl.1 rfl (Nat.le_of_ble_eq_true rfl) dX11_append_9 ⟨Nat.zero_le _, Nat.zero_le _⟩ (fun H locs hP hS => ?_)
    refine lv_if_eq (pc := 12) (tgt := 19) hx hb dX11_append_12 (by decide) (fun hc => ?_) (fun hc => ?_)
    · have hf := br_y hc hf
      exact hJ19 w0 hf H locs hP hD hS ls (lv_sub hl [0, 1, 2] rfl)
    · have hf := br_n hc hf
      refine lv_iconst (pc := 15) (v := (1 : Int32)) hx hb dX11_append_15 (by decide) ?_
      refine lv_goto (pc := 16) (tgt := 20) hx hb dX11_append_16 (by decide) ?_
      exact hJ20 w0 (1 : Int32) hf H locs hP hD hS ls (lv_sub hl [0, 1, 2] rfl)
theorem hd_X11_hasByte : yX11_hasByte.cls ≠ "java/lang/invoke/MethodHandle" ∧ yX11_hasByte.cls ≠ "java/lang/invoke/VarHandle" ∧ (parseMethodDescriptor yX11_hasByte.desc).map (fun d => d.parameters.length) = some 2 := by decide +kernel
abbrev rm_X11_hasByte : Room := { frames := 2, cells := 0, slots := 0, locals := 45 }
noncomputable def f_X11_hasByte_J24 (w0 : TModel) (p1 : Int32) (p2 : Int32)   : Option Int32 :=
  some (1 : Int32)
noncomputable def f_X11_hasByte (w0 : TModel) (p1 : Int32) (p2 : Int32) : Option Int32 :=
  (f_X11_isVersion p1).bind (fun x1 => br (x1 = 0) (f_X11_hasByte_J24 w0 p1 p2) ((f_X11_longOf w0 p1).bind (fun x2 => (f_X11_in p2.toInt64 (0 : Int64) ((x2 - (1 : Int32)).toInt64)).bind (fun x3 => br (x3 = 0) (some (0 : Int32)) (f_X11_hasByte_J24 w0 p1 p2)))))
set_option maxHeartbeats 4000000 in
set_option maxRecDepth 100000 in
theorem c_X11_hasByte (l : Launch) (G : GT) (hw0_0 hw0_1 hw0_2 hw0_3 hw0_4 hw0_5 hw0_6 hw0_7 hw0_8 : Nat) (w0 : TModel) (p1 : Int32) (p2 : Int32) {r : Int32} (hf : f_X11_hasByte w0 p1 p2 = some r) : Ct l yX11_hasByte (Cond.code yX11_hasByte cX11_hasByte 3 (some .boolean) :: lw_g) rm_X11_hasByte G [.ref hw0_0, .int p1, .int p2] [(hw0_0, .inr (8, [.ref hw0_1, .ref hw0_2, .int w0.2.2.1, .int w0.2.2.2.1, .ref hw0_3, .ref hw0_4, .int w0.2.2.2.2.2.2.1, .int w0.2.2.2.2.2.2.2.1, .int w0.2.2.2.2.2.2.2.2.1, .ref hw0_5, .ref hw0_6, .ref hw0_7, .int w0.2.2.2.2.2.2.2.2.2.2.2.2.1, .ref hw0_8])), (hw0_1, .inl (G.2.1, 617, .inl w0.1)), (hw0_2, .inl (G.2.1, 2468, .inl w0.2.1)), (hw0_3, .inl (G.2.1, 30, .inl w0.2.2.2.2.1)), (hw0_4, .inl (G.2.1, 4000, .inl w0.2.2.2.2.2.1)), (hw0_5, .inl (G.2.1, 120, .inl w0.2.2.2.2.2.2.2.2.2.1)), (hw0_6, .inl (G.2.1, 64, .inl w0.2.2.2.2.2.2.2.2.2.2.1)), (hw0_7, .inl (G.2.2.1, 64, .inl w0.2.2.2.2.2.2.2.2.2.2.2.1)), (hw0_8, .inl (G.2.1, 64, .inl w0.2.2.2.2.2.2.2.2.2.2.2.2.2))] (some (.int r)) [(hw0_0, .inr (8, [.ref hw0_1, .ref hw0_2, .int w0.2.2.1, .int w0.2.2.2.1, .ref hw0_3, .ref hw0_4, .int w0.2.2.2.2.2.2.1, .int w0.2.2.2.2.2.2.2.1, .int w0.2.2.2.2.2.2.2.2.1, .ref hw0_5, .ref hw0_6, .ref hw0_7, .int w0.2.2.2.2.2.2.2.2.2.2.2.2.1, .ref hw0_8])), (hw0_1, .inl (G.2.1, 617, .inl w0.1)), (hw0_2, .inl (G.2.1, 2468, .inl w0.2.1)), (hw0_3, .inl (G.2.1, 30, .inl w0.2.2.2.2.1)), (hw0_4, .inl (G.2.1, 4000, .inl w0.2.2.2.2.2.1)), (hw0_5, .inl (G.2.1, 120, .inl w0.2.2.2.2.2.2.2.2.2.1)), (hw0_6, .inl (G.2.1, 64, .inl w0.2.2.2.2.2.2.2.2.2.2.1)), (hw0_7, .inl (G.2.2.1, 64, .inl w0.2.2.2.2.2.2.2.2.2.2.2.1)), (hw0_8, .inl (G.2.1, 64, .inl w0.2.2.2.2.2.2.2.2.2.2.2.2.2))] := by
  refine Ct.ofW (cc := cX11_hasByte) (maxL := 3) (ret := (some .boolean)) (own := RX11) (by decide) rfl rfl (Nat.le_of_ble_eq_true rfl) ?_
  intro p e s m args below meth c A hx hb hr hml hts hown hlocks hK hP hD hA hS ls hl
  have hl : lv_has ls 3 [(0, .ref hw0_0), (1, .int p1), (2, .int p2)] := hl
  generalize hQ : gMQ below G _ _ A args s = Q
  generalize hH : s.heap = H at hP ⊢
  have hS : va_S A s.heap H [] := by rw [← hH]; exact hS
  generalize ([] : List Loc) = locs at hS ⊢
  unfold f_X11_hasByte at hf
  have hJ24 : f_X11_hasByte_J24 w0 p1 p2   = some r → ∀ (H : Heap) (locs : List Loc), va_P G.1 vwCl [(hw0_0, .inr (8, [.ref hw0_1, .ref hw0_2, .int w0.2.2.1, .int w0.2.2.2.1, .ref hw0_3, .ref hw0_4, .int w0.2.2.2.2.2.2.1, .int w0.2.2.2.2.2.2.2.1, .int w0.2.2.2.2.2.2.2.2.1, .ref hw0_5, .ref hw0_6, .ref hw0_7, .int w0.2.2.2.2.2.2.2.2.2.2.2.2.1, .ref hw0_8])), (hw0_1, .inl (G.2.1, 617, .inl w0.1)), (hw0_2, .inl (G.2.1, 2468, .inl w0.2.1)), (hw0_3, .inl (G.2.1, 30, .inl w0.2.2.2.2.1)), (hw0_4, .inl (G.2.1, 4000, .inl w0.2.2.2.2.2.1)), (hw0_5, .inl (G.2.1, 120, .inl w0.2.2.2.2.2.2.2.2.2.1)), (hw0_6, .inl (G.2.1, 64, .inl w0.2.2.2.2.2.2.2.2.2.2.1)), (hw0_7, .inl (G.2.2.1, 64, .inl w0.2.2.2.2.2.2.2.2.2.2.2.1)), (hw0_8, .inl (G.2.1, 64, .inl w0.2.2.2.2.2.2.2.2.2.2.2.2.2))] H → va_D A [(hw0_0, .inr (8, [.ref hw0_1, .ref hw0_2, .int w0.2.2.1, .int w0.2.2.2.1, .ref hw0_3, .ref hw0_4, .int w0.2.2.2.2.2.2.1, .int w0.2.2.2.2.2.2.2.1, .int w0.2.2.2.2.2.2.2.2.1, .ref hw0_5, .ref hw0_6, .ref hw0_7, .int w0.2.2.2.2.2.2.2.2.2.2.2.2.1, .ref hw0_8])), (hw0_1, .inl (G.2.1, 617, .inl w0.1)), (hw0_2, .inl (G.2.1, 2468, .inl w0.2.1)), (hw0_3, .inl (G.2.1, 30, .inl w0.2.2.2.2.1)), (hw0_4, .inl (G.2.1, 4000, .inl w0.2.2.2.2.2.1)), (hw0_5, .inl (G.2.1, 120, .inl w0.2.2.2.2.2.2.2.2.2.1)), (hw0_6, .inl (G.2.1, 64, .inl w0.2.2.2.2.2.2.2.2.2.2.1)), (hw0_7, .inl (G.2.2.1, 64, .inl w0.2.2.2.2.2.2.2.2.2.2.2.1)), (hw0_8, .inl (G.2.1, 64, .inl w0.2.2.2.2.2.2.2.2.2.2.2.2.2))] → va_S A s.heap H locs → ∀ (ls : Array Slot), lv_has ls 3 [] → W p l e (rm_X11_hasByte) s m args below meth c H locs 0 0 Q (F0 m 24 ls []) := by
    intro  hf H locs hP hD hS ls hl
    unfold f_X11_hasByte_J24 at hf
    refine lv_iconst (pc := 24) (v := (1 : Int32)) hx hb dX11_hasByte_24 (by decide) ?_
    refine lv_goto (pc := 25) (tgt := 29) hx hb dX11_hasByte_25 (by decide) ?_
    have hf := Option.some.inj hf; subst hf
    rw [← hQ]
    exact g_zret (v := (1 : Int32)) hx hb hr hlocks rfl hP hS dX11_hasByte_29
  refine lv_iload_n (pc := 0) hx hb dX11_hasByte_0 rfl (lv_at hl 1 rfl) ?_
  obtain ⟨x1, hcx1, hf⟩ := bn_some hf
  refine g_callS0 (pc := 1) (rest := []) hx hb hml hown hts hK (c_X11_isVersion l G  p1 hcx1) wd_934 wd_10 wd_932 wd_933 hd_X11_isVersion ⟨rfl, rfl, Nat.le_of_ble_eq_true rfl, Nat.le_of_ble_eq_true rfl⟩ hP hD hS hA [] rfl rfl rfl hl.1 rfl (Nat.le_of_ble_eq_true rfl) dX11_hasByte_1 ⟨Nat.zero_le _, Nat.zero_le _⟩ (fun H locs hP hS => ?_)
  refine lv_if_eq (pc := 4) (tgt := 24) hx hb dX11_hasByte_4 (by decide) (fun hc => ?_) (fun hc => ?_)
  · have hf := br_y hc hf
    exact hJ24  hf H locs hP hD hS ls (lv_sub hl [] rfl)
  · have hf := br_n hc hf
    refine lv_iload_n (pc := 7) hx hb dX11_hasByte_7 rfl (lv_at hl 2 rfl) ?_
    refine lv_i2l (pc := 8) (v := p2.toInt64) hx hb dX11_hasByte_8 rfl ?_
    refine lv_lconst (pc := 9) (v := (0 : Int64)) hx hb dX11_hasByte_9 (by decide) ?_
    refine lv_aload_n (pc := 10) hx hb dX11_hasByte_10 rfl (lv_at hl 0 rfl) ?_
    refine lv_iload_n (pc := 11) hx hb dX11_hasByte_11 rfl (lv_at hl 1 rfl) ?_
    obtain ⟨x2, hcx2, hf⟩ := bn_some hf
    refine g_callV0 (pc := 12) (rest := [.long (0 : Int64), .long p2.toInt64]) hx hb hml hown hts hK (c_X11_longOf l G hw0_0 hw0_1 hw0_2 hw0_3 hw0_4 hw0_5 hw0_6 hw0_7 hw0_8 w0 p1 hcx2) wd_945 wd_10 wd_942 wd_944 ws_12 hd_X11_longOf ⟨rfl, rfl, Nat.le_of_ble_eq_true rfl, Nat.le_of_ble_eq_true rfl⟩ hP hD hS hA [0, 1, 2, 3, 4, 5, 6, 7, 8] rfl rfl 8 0 rfl rfl rfl rfl hl.1 rfl (Nat.le_of_ble_eq_true rfl) dX11_hasByte_12 ⟨Nat.zero_le _, Nat.zero_le _⟩ (fun H locs hP hS => ?_)
    refine lv_iconst (pc := 15) (v := (1 : Int32)) hx hb dX11_hasByte_15 (by decide) ?_
    refine lv_isub (pc := 16) hx hb dX11_hasByte_16 ?_
    refine lv_i2l (pc := 17) (v := (x2 - (1 : Int32)).toInt64) hx hb dX11_hasByte_17 rfl ?_
    obtain ⟨x3, hcx3, hf⟩ := bn_some hf
    refine g_callS0 (pc := 18) (rest := []) hx hb hml hown hts hK (c_X11_in l G  p2.toInt64 (0 : Int64) ((x2 - (1 : Int32)).toInt64) hcx3) wd_937 wd_10 wd_935 wd_936 hd_X11_in ⟨rfl, rfl, Nat.le_of_ble_eq_true rfl, Nat.le_of_ble_eq_true rfl⟩ hP hD hS hA [] rfl rfl rfl hl.1 rfl (Nat.le_of_ble_eq_true rfl) dX11_hasByte_18 ⟨Nat.zero_le _, Nat.zero_le _⟩ (fun H locs hP hS => ?_)
    refine lv_if_eq (pc := 21) (tgt := 28) hx hb dX11_hasByte_21 (by decide) (fun hc => ?_) (fun hc => ?_)
    · have hf := br_y hc hf
      refine lv_iconst (pc := 28) (v := (0 : Int32)) hx hb dX11_hasByte_28 (by decide) ?_
      have hf := Option.some.inj hf; subst hf
      rw [← hQ]
      exact g_zret (v := (0 : Int32)) hx hb hr hlocks rfl hP hS dX11_hasByte_29
    · have hf := br_n hc hf
      exact hJ24  hf H locs hP hD hS ls (lv_sub hl [] rfl)
theorem hd_X11_patch : yX11_patch.cls ≠ "java/lang/invoke/MethodHandle" ∧ yX11_patch.cls ≠ "java/lang/invoke/VarHandle" ∧ (parseMethodDescriptor yX11_patch.desc).map (fun d => d.parameters.length) = some 3 := by decide +kernel
abbrev rm_X11_patch : Room := { frames := 3, cells := 0, slots := 0, locals := 67 }
noncomputable def f_X11_patch_J20 (p1 : Int32) (p2 : Int32) (p3 : Int32)  (w0 : TModel) (s0 : Int32) : Option (Int32 × TModel) :=
  (f_X11_hasByte w0 p1 p2).bind (fun x2 => (f_X11_goes w0 s0 x2).bind (fun x3 => br (x3.1 = 0) (some ((0 : Int32), x3.2)) ((f_X11_save x3.2).bind (fun x4 => (f_X11_byteAt x4 p1 p2).bind (fun x5 => gd (vp_in (((2 : Int32) + ((64 : Int32) * p1)) + p2) 617) ((f_X11_dropsPlan ((upd x4.1 (((2 : Int32) + ((64 : Int32) * p1)) + p2).toNatClampNeg p3), x4.2.1, x4.2.2.1, x4.2.2.2.1, x4.2.2.2.2.1, x4.2.2.2.2.2.1, x4.2.2.2.2.2.2.1, x4.2.2.2.2.2.2.2.1, x4.2.2.2.2.2.2.2.2.1, x4.2.2.2.2.2.2.2.2.2.1, x4.2.2.2.2.2.2.2.2.2.2.1, x4.2.2.2.2.2.2.2.2.2.2.2.1, x4.2.2.2.2.2.2.2.2.2.2.2.2.1, x4.2.2.2.2.2.2.2.2.2.2.2.2.2)).bind (fun x6 => some (x5, x6))))))))
noncomputable def f_X11_patch_J19 (p1 : Int32) (p2 : Int32) (p3 : Int32)  (w0 : TModel) : Option (Int32 × TModel) :=
  f_X11_patch_J20 p1 p2 p3 w0 (0 : Int32)
noncomputable def f_X11_patch (w0 : TModel) (p1 : Int32) (p2 : Int32) (p3 : Int32) : Option (Int32 × TModel) :=
  (f_X11_isVersion p1).bind (fun x1 => br (x1 = 0) (f_X11_patch_J19 p1 p2 p3 w0) ((f_X11_isByte p3).bind (fun x7 => br (x7 = 0) (f_X11_patch_J19 p1 p2 p3 w0) (f_X11_patch_J20 p1 p2 p3 w0 (1 : Int32)))))
set_option maxHeartbeats 4000000 in
set_option maxRecDepth 100000 in
theorem c_X11_patch (l : Launch) (G : GT) (hw0_0 hw0_1 hw0_2 hw0_3 hw0_4 hw0_5 hw0_6 hw0_7 hw0_8 : Nat) (w0 : TModel) (p1 : Int32) (p2 : Int32) (p3 : Int32) {r : Int32 × TModel} (hf : f_X11_patch w0 p1 p2 p3 = some r) : Ct l yX11_patch (Cond.code yX11_patch cX11_patch 5 (some .int) :: lw_g) rm_X11_patch G [.ref hw0_0, .int p1, .int p2, .int p3] [(hw0_0, .inr (8, [.ref hw0_1, .ref hw0_2, .int w0.2.2.1, .int w0.2.2.2.1, .ref hw0_3, .ref hw0_4, .int w0.2.2.2.2.2.2.1, .int w0.2.2.2.2.2.2.2.1, .int w0.2.2.2.2.2.2.2.2.1, .ref hw0_5, .ref hw0_6, .ref hw0_7, .int w0.2.2.2.2.2.2.2.2.2.2.2.2.1, .ref hw0_8])), (hw0_1, .inl (G.2.1, 617, .inl w0.1)), (hw0_2, .inl (G.2.1, 2468, .inl w0.2.1)), (hw0_3, .inl (G.2.1, 30, .inl w0.2.2.2.2.1)), (hw0_4, .inl (G.2.1, 4000, .inl w0.2.2.2.2.2.1)), (hw0_5, .inl (G.2.1, 120, .inl w0.2.2.2.2.2.2.2.2.2.1)), (hw0_6, .inl (G.2.1, 64, .inl w0.2.2.2.2.2.2.2.2.2.2.1)), (hw0_7, .inl (G.2.2.1, 64, .inl w0.2.2.2.2.2.2.2.2.2.2.2.1)), (hw0_8, .inl (G.2.1, 64, .inl w0.2.2.2.2.2.2.2.2.2.2.2.2.2))] (some (.int r.1)) [(hw0_0, .inr (8, [.ref hw0_1, .ref hw0_2, .int r.2.2.2.1, .int r.2.2.2.2.1, .ref hw0_3, .ref hw0_4, .int r.2.2.2.2.2.2.2.1, .int r.2.2.2.2.2.2.2.2.1, .int r.2.2.2.2.2.2.2.2.2.1, .ref hw0_5, .ref hw0_6, .ref hw0_7, .int r.2.2.2.2.2.2.2.2.2.2.2.2.2.1, .ref hw0_8])), (hw0_1, .inl (G.2.1, 617, .inl r.2.1)), (hw0_2, .inl (G.2.1, 2468, .inl r.2.2.1)), (hw0_3, .inl (G.2.1, 30, .inl r.2.2.2.2.2.1)), (hw0_4, .inl (G.2.1, 4000, .inl r.2.2.2.2.2.2.1)), (hw0_5, .inl (G.2.1, 120, .inl r.2.2.2.2.2.2.2.2.2.2.1)), (hw0_6, .inl (G.2.1, 64, .inl r.2.2.2.2.2.2.2.2.2.2.2.1)), (hw0_7, .inl (G.2.2.1, 64, .inl r.2.2.2.2.2.2.2.2.2.2.2.2.1)), (hw0_8, .inl (G.2.1, 64, .inl r.2.2.2.2.2.2.2.2.2.2.2.2.2.2))] := by
  refine Ct.ofW (cc := cX11_patch) (maxL := 5) (ret := (some .int)) (own := RX11) (by decide) rfl rfl (Nat.le_of_ble_eq_true rfl) ?_
  intro p e s m args below meth c A hx hb hr hml hts hown hlocks hK hP hD hA hS ls hl
  have hl : lv_has ls 5 [(0, .ref hw0_0), (1, .int p1), (2, .int p2), (3, .int p3)] := hl
  generalize hQ : gMQ below G _ _ A args s = Q
  generalize hH : s.heap = H at hP ⊢
  have hS : va_S A s.heap H [] := by rw [← hH]; exact hS
  generalize ([] : List Loc) = locs at hS ⊢
  unfold f_X11_patch at hf
  have hJ20 : ∀ (w0 : TModel) (s0 : Int32), f_X11_patch_J20 p1 p2 p3  w0 s0 = some r → ∀ (H : Heap) (locs : List Loc), va_P G.1 vwCl [(hw0_0, .inr (8, [.ref hw0_1, .ref hw0_2, .int w0.2.2.1, .int w0.2.2.2.1, .ref hw0_3, .ref hw0_4, .int w0.2.2.2.2.2.2.1, .int w0.2.2.2.2.2.2.2.1, .int w0.2.2.2.2.2.2.2.2.1, .ref hw0_5, .ref hw0_6, .ref hw0_7, .int w0.2.2.2.2.2.2.2.2.2.2.2.2.1, .ref hw0_8])), (hw0_1, .inl (G.2.1, 617, .inl w0.1)), (hw0_2, .inl (G.2.1, 2468, .inl w0.2.1)), (hw0_3, .inl (G.2.1, 30, .inl w0.2.2.2.2.1)), (hw0_4, .inl (G.2.1, 4000, .inl w0.2.2.2.2.2.1)), (hw0_5, .inl (G.2.1, 120, .inl w0.2.2.2.2.2.2.2.2.2.1)), (hw0_6, .inl (G.2.1, 64, .inl w0.2.2.2.2.2.2.2.2.2.2.1)), (hw0_7, .inl (G.2.2.1, 64, .inl w0.2.2.2.2.2.2.2.2.2.2.2.1)), (hw0_8, .inl (G.2.1, 64, .inl w0.2.2.2.2.2.2.2.2.2.2.2.2.2))] H → va_D A [(hw0_0, .inr (8, [.ref hw0_1, .ref hw0_2, .int w0.2.2.1, .int w0.2.2.2.1, .ref hw0_3, .ref hw0_4, .int w0.2.2.2.2.2.2.1, .int w0.2.2.2.2.2.2.2.1, .int w0.2.2.2.2.2.2.2.2.1, .ref hw0_5, .ref hw0_6, .ref hw0_7, .int w0.2.2.2.2.2.2.2.2.2.2.2.2.1, .ref hw0_8])), (hw0_1, .inl (G.2.1, 617, .inl w0.1)), (hw0_2, .inl (G.2.1, 2468, .inl w0.2.1)), (hw0_3, .inl (G.2.1, 30, .inl w0.2.2.2.2.1)), (hw0_4, .inl (G.2.1, 4000, .inl w0.2.2.2.2.2.1)), (hw0_5, .inl (G.2.1, 120, .inl w0.2.2.2.2.2.2.2.2.2.1)), (hw0_6, .inl (G.2.1, 64, .inl w0.2.2.2.2.2.2.2.2.2.2.1)), (hw0_7, .inl (G.2.2.1, 64, .inl w0.2.2.2.2.2.2.2.2.2.2.2.1)), (hw0_8, .inl (G.2.1, 64, .inl w0.2.2.2.2.2.2.2.2.2.2.2.2.2))] → va_S A s.heap H locs → ∀ (ls : Array Slot), lv_has ls 5 [(0, .ref hw0_0), (1, .int p1), (2, .int p2), (3, .int p3)] → W p l e (rm_X11_patch) s m args below meth c H locs 0 0 Q (F0 m 20 ls [.int s0, .ref hw0_0]) := by
    intro w0 s0 hf H locs hP hD hS ls hl
    unfold f_X11_patch_J20 at hf
    refine lv_aload_n (pc := 20) hx hb dX11_patch_20 rfl (lv_at hl 0 rfl) ?_
    refine lv_iload_n (pc := 21) hx hb dX11_patch_21 rfl (lv_at hl 1 rfl) ?_
    refine lv_iload_n (pc := 22) hx hb dX11_patch_22 rfl (lv_at hl 2 rfl) ?_
    obtain ⟨x2, hcx2, hf⟩ := bn_some hf
    refine g_callV0 (pc := 23) (rest := [.int s0, .ref hw0_0]) hx hb hml hown hts hK (c_X11_hasByte l G hw0_0 hw0_1 hw0_2 hw0_3 hw0_4 hw0_5 hw0_6 hw0_7 hw0_8 w0 p1 p2 hcx2) wd_965 wd_10 wd_962 wd_964 ws_16 hd_X11_hasByte ⟨rfl, rfl, Nat.le_of_ble_eq_true rfl, Nat.le_of_ble_eq_true rfl⟩ hP hD hS hA [0, 1, 2, 3, 4, 5, 6, 7, 8] rfl rfl 8 0 rfl rfl rfl rfl hl.1 rfl (Nat.le_of_ble_eq_true rfl) dX11_patch_23 ⟨Nat.zero_le _, Nat.zero_le _⟩ (fun H locs hP hS => ?_)
    obtain ⟨x3, hcx3, hf⟩ := bn_some hf
    refine g_callV (pc := 26) (ws' := [(hw0_0, .inr (8, [.ref hw0_1, .ref hw0_2, .int x3.2.2.2.1, .int x3.2.2.2.2.1, .ref hw0_3, .ref hw0_4, .int x3.2.2.2.2.2.2.2.1, .int x3.2.2.2.2.2.2.2.2.1, .int x3.2.2.2.2.2.2.2.2.2.1, .ref hw0_5, .ref hw0_6, .ref hw0_7, .int x3.2.2.2.2.2.2.2.2.2.2.2.2.2.1, .ref hw0_8])), (hw0_1, .inl (G.2.1, 617, .inl x3.2.1)), (hw0_2, .inl (G.2.1, 2468, .inl x3.2.2.1)), (hw0_3, .inl (G.2.1, 30, .inl x3.2.2.2.2.2.1)), (hw0_4, .inl (G.2.1, 4000, .inl x3.2.2.2.2.2.2.1)), (hw0_5, .inl (G.2.1, 120, .inl x3.2.2.2.2.2.2.2.2.2.2.1)), (hw0_6, .inl (G.2.1, 64, .inl x3.2.2.2.2.2.2.2.2.2.2.2.1)), (hw0_7, .inl (G.2.2.1, 64, .inl x3.2.2.2.2.2.2.2.2.2.2.2.2.1)), (hw0_8, .inl (G.2.1, 64, .inl x3.2.2.2.2.2.2.2.2.2.2.2.2.2.2))]) (rest := []) hx hb hml hown hts hK (c_X11_goes l G hw0_0 hw0_1 hw0_2 hw0_3 hw0_4 hw0_5 hw0_6 hw0_7 hw0_8 w0 s0 x2 hcx3) wd_949 wd_10 wd_946 wd_948 ws_13 hd_X11_goes ⟨rfl, rfl, Nat.le_of_ble_eq_true rfl, Nat.le_of_ble_eq_true rfl⟩ hP hD hS hA [0, 1, 2, 3, 4, 5, 6, 7, 8] rfl rfl rfl rfl 8 0 rfl rfl rfl rfl hl.1 rfl (Nat.le_of_ble_eq_true rfl) dX11_patch_26 ⟨Nat.zero_le _, Nat.zero_le _⟩ (fun H locs hP hD hS => ?_)
    refine lv_if_ne (pc := 29) (tgt := 34) hx hb dX11_patch_29 (by decide) (fun hc => ?_) (fun hc => ?_)
    · have hf := br_n hc hf
      refine lv_aload_n (pc := 34) hx hb dX11_patch_34 rfl (lv_at hl 0 rfl) ?_
      obtain ⟨x4, hcx4, hf⟩ := bn_some hf
      refine g_callV (pc := 35) (ws' := [(hw0_0, .inr (8, [.ref hw0_1, .ref hw0_2, .int x4.2.2.1, .int x4.2.2.2.1, .ref hw0_3, .ref hw0_4, .int x4.2.2.2.2.2.2.1, .int x4.2.2.2.2.2.2.2.1, .int x4.2.2.2.2.2.2.2.2.1, .ref hw0_5, .ref hw0_6, .ref hw0_7, .int x4.2.2.2.2.2.2.2.2.2.2.2.2.1, .ref hw0_8])), (hw0_1, .inl (G.2.1, 617, .inl x4.1)), (hw0_2, .inl (G.2.1, 2468, .inl x4.2.1)), (hw0_3, .inl (G.2.1, 30, .inl x4.2.2.2.2.1)), (hw0_4, .inl (G.2.1, 4000, .inl x4.2.2.2.2.2.1)), (hw0_5, .inl (G.2.1, 120, .inl x4.2.2.2.2.2.2.2.2.2.1)), (hw0_6, .inl (G.2.1, 64, .inl x4.2.2.2.2.2.2.2.2.2.2.1)), (hw0_7, .inl (G.2.2.1, 64, .inl x4.2.2.2.2.2.2.2.2.2.2.2.1)), (hw0_8, .inl (G.2.1, 64, .inl x4.2.2.2.2.2.2.2.2.2.2.2.2.2))]) (rest := []) hx hb hml hown hts hK (c_X11_save l G hw0_0 hw0_1 hw0_2 hw0_3 hw0_4 hw0_5 hw0_6 hw0_7 hw0_8 x3.2 hcx4) wd_953 wd_10 wd_950 wd_952 ws_14 hd_X11_save ⟨rfl, rfl, Nat.le_of_ble_eq_true rfl, Nat.le_of_ble_eq_true rfl⟩ hP hD hS hA [0, 1, 2, 3, 4, 5, 6, 7, 8] rfl rfl rfl rfl 8 0 rfl rfl rfl rfl hl.1 rfl (Nat.le_of_ble_eq_true rfl) dX11_patch_35 ⟨Nat.zero_le _, Nat.zero_le _⟩ (fun H locs hP hD hS => ?_)
      refine lv_aload_n (pc := 38) hx hb dX11_patch_38 rfl (lv_at hl 0 rfl) ?_
      refine lv_iload_n (pc := 39) hx hb dX11_patch_39 rfl (lv_at hl 1 rfl) ?_
      refine lv_iload_n (pc := 40) hx hb dX11_patch_40 rfl (lv_at hl 2 rfl) ?_
      obtain ⟨x5, hcx5, hf⟩ := bn_some hf
      refine g_callV0 (pc := 41) (rest := []) hx hb hml hown hts hK (c_X11_byteAt l G hw0_0 hw0_1 hw0_2 hw0_3 hw0_4 hw0_5 hw0_6 hw0_7 hw0_8 x4 p1 p2 hcx5) wd_969 wd_10 wd_966 wd_968 ws_17 hd_X11_byteAt ⟨rfl, rfl, Nat.le_of_ble_eq_true rfl, Nat.le_of_ble_eq_true rfl⟩ hP hD hS hA [0, 1, 2, 3, 4, 5, 6, 7, 8] rfl rfl 8 0 rfl rfl rfl rfl hl.1 rfl (Nat.le_of_ble_eq_true rfl) dX11_patch_41 ⟨Nat.zero_le _, Nat.zero_le _⟩ (fun H locs hP hS => ?_)
      refine lv_istore (pc := 44) (lv' := [(4, .int x5), (0, .ref hw0_0), (1, .int p1), (2, .int p2), (3, .int p3)]) hx hb dX11_patch_44 hl (by decide) rfl (fun ls hl => ?_)
      refine lv_aload_n (pc := 46) hx hb dX11_patch_46 rfl (lv_at hl 1 rfl) ?_
      refine va_get (pc := 47) (D := G.1) (ci := 8) (v := .ref hw0_1) (C := RX11) (T := TX11) (N := 14) hx hb hts inX11 hown hK.1 hP 0 rfl rfl 0 (by decide) (hts _ wd_880) (fun _ h9 => h9) rfl dX11_patch_47 ?_
      refine lv_iconst (pc := 50) (v := (2 : Int32)) hx hb dX11_patch_50 (by decide) ?_
      refine lv_bipush (pc := 51) (v := (64 : Int32)) hx hb dX11_patch_51 (by decide) ?_
      refine lv_iload_n (pc := 53) hx hb dX11_patch_53 rfl (lv_at hl 2 rfl) ?_
      refine lv_imul (pc := 54) hx hb dX11_patch_54 ?_
      refine lv_iadd (pc := 55) hx hb dX11_patch_55 ?_
      refine lv_iload_n (pc := 56) hx hb dX11_patch_56 rfl (lv_at hl 3 rfl) ?_
      refine lv_iadd (pc := 57) hx hb dX11_patch_57 ?_
      refine lv_iload_n (pc := 58) hx hb dX11_patch_58 rfl (lv_at hl 4 rfl) ?_
      obtain ⟨hg, hf⟩ := gd_some hf
      refine va_iast (pc := 59) hx hb hK.1 hP hD hS 1 0 rfl rfl hg dX11_patch_59 (fun H locs hP hD hS => ?_)
      have hP : va_P G.1 vwCl [(hw0_0, .inr (8, [.ref hw0_1, .ref hw0_2, .int x4.2.2.1, .int x4.2.2.2.1, .ref hw0_3, .ref hw0_4, .int x4.2.2.2.2.2.2.1, .int x4.2.2.2.2.2.2.2.1, .int x4.2.2.2.2.2.2.2.2.1, .ref hw0_5, .ref hw0_6, .ref hw0_7, .int x4.2.2.2.2.2.2.2.2.2.2.2.2.1, .ref hw0_8])), (hw0_1, .inl (G.2.1, 617, .inl (upd x4.1 (((2 : Int32) + ((64 : Int32) * p1)) + p2).toNatClampNeg p3))), (hw0_2, .inl (G.2.1, 2468, .inl x4.2.1)), (hw0_3, .inl (G.2.1, 30, .inl x4.2.2.2.2.1)), (hw0_4, .inl (G.2.1, 4000, .inl x4.2.2.2.2.2.1)), (hw0_5, .inl (G.2.1, 120, .inl x4.2.2.2.2.2.2.2.2.2.1)), (hw0_6, .inl (G.2.1, 64, .inl x4.2.2.2.2.2.2.2.2.2.2.1)), (hw0_7, .inl (G.2.2.1, 64, .inl x4.2.2.2.2.2.2.2.2.2.2.2.1)), (hw0_8, .inl (G.2.1, 64, .inl x4.2.2.2.2.2.2.2.2.2.2.2.2.2))] H := hP
      have hD : va_D A [(hw0_0, .inr (8, [.ref hw0_1, .ref hw0_2, .int x4.2.2.1, .int x4.2.2.2.1, .ref hw0_3, .ref hw0_4, .int x4.2.2.2.2.2.2.1, .int x4.2.2.2.2.2.2.2.1, .int x4.2.2.2.2.2.2.2.2.1, .ref hw0_5, .ref hw0_6, .ref hw0_7, .int x4.2.2.2.2.2.2.2.2.2.2.2.2.1, .ref hw0_8])), (hw0_1, .inl (G.2.1, 617, .inl (upd x4.1 (((2 : Int32) + ((64 : Int32) * p1)) + p2).toNatClampNeg p3))), (hw0_2, .inl (G.2.1, 2468, .inl x4.2.1)), (hw0_3, .inl (G.2.1, 30, .inl x4.2.2.2.2.1)), (hw0_4, .inl (G.2.1, 4000, .inl x4.2.2.2.2.2.1)), (hw0_5, .inl (G.2.1, 120, .inl x4.2.2.2.2.2.2.2.2.2.1)), (hw0_6, .inl (G.2.1, 64, .inl x4.2.2.2.2.2.2.2.2.2.2.1)), (hw0_7, .inl (G.2.2.1, 64, .inl x4.2.2.2.2.2.2.2.2.2.2.2.1)), (hw0_8, .inl (G.2.1, 64, .inl x4.2.2.2.2.2.2.2.2.2.2.2.2.2))] := hD
      refine lv_aload_n (pc := 60) hx hb dX11_patch_60 rfl (lv_at hl 1 rfl) ?_
      obtain ⟨x6, hcx6, hf⟩ := bn_some hf
      refine g_callV (pc := 61) (ws' := [(hw0_0, .inr (8, [.ref hw0_1, .ref hw0_2, .int x6.2.2.1, .int x6.2.2.2.1, .ref hw0_3, .ref hw0_4, .int x6.2.2.2.2.2.2.1, .int x6.2.2.2.2.2.2.2.1, .int x6.2.2.2.2.2.2.2.2.1, .ref hw0_5, .ref hw0_6, .ref hw0_7, .int x6.2.2.2.2.2.2.2.2.2.2.2.2.1, .ref hw0_8])), (hw0_1, .inl (G.2.1, 617, .inl x6.1)), (hw0_2, .inl (G.2.1, 2468, .inl x6.2.1)), (hw0_3, .inl (G.2.1, 30, .inl x6.2.2.2.2.1)), (hw0_4, .inl (G.2.1, 4000, .inl x6.2.2.2.2.2.1)), (hw0_5, .inl (G.2.1, 120, .inl x6.2.2.2.2.2.2.2.2.2.1)), (hw0_6, .inl (G.2.1, 64, .inl x6.2.2.2.2.2.2.2.2.2.2.1)), (hw0_7, .inl (G.2.2.1, 64, .inl x6.2.2.2.2.2.2.2.2.2.2.2.1)), (hw0_8, .inl (G.2.1, 64, .inl x6.2.2.2.2.2.2.2.2.2.2.2.2.2))]) (rest := []) hx hb hml hown hts hK (c_X11_dropsPlan l G hw0_0 hw0_1 hw0_2 hw0_3 hw0_4 hw0_5 hw0_6 hw0_7 hw0_8 ((upd x4.1 (((2 : Int32) + ((64 : Int32) * p1)) + p2).toNatClampNeg p3), x4.2.1, x4.2.2.1, x4.2.2.2.1, x4.2.2.2.2.1, x4.2.2.2.2.2.1, x4.2.2.2.2.2.2.1, x4.2.2.2.2.2.2.2.1, x4.2.2.2.2.2.2.2.2.1, x4.2.2.2.2.2.2.2.2.2.1, x4.2.2.2.2.2.2.2.2.2.2.1, x4.2.2.2.2.2.2.2.2.2.2.2.1, x4.2.2.2.2.2.2.2.2.2.2.2.2.1, x4.2.2.2.2.2.2.2.2.2.2.2.2.2) hcx6) wd_957 wd_10 wd_954 wd_956 ws_15 hd_X11_dropsPlan ⟨rfl, rfl, Nat.le_of_ble_eq_true rfl, Nat.le_of_ble_eq_true rfl⟩ hP hD hS hA [0, 1, 2, 3, 4, 5, 6, 7, 8] rfl rfl rfl rfl 8 0 rfl rfl rfl rfl hl.1 rfl (Nat.le_of_ble_eq_true rfl) dX11_patch_61 ⟨Nat.zero_le _, Nat.zero_le _⟩ (fun H locs hP hD hS => ?_)
      refine lv_iload (pc := 64) hx hb dX11_patch_64 (lv_at hl 0 rfl) ?_
      have hf := Option.some.inj hf; subst hf
      rw [← hQ]
      exact g_iret hx hb hr hlocks hP hS dX11_patch_66
    · have hf := br_y hc hf
      refine lv_iconst (pc := 32) (v := (0 : Int32)) hx hb dX11_patch_32 (by decide) ?_
      have hf := Option.some.inj hf; subst hf
      rw [← hQ]
      exact g_iret hx hb hr hlocks hP hS dX11_patch_33
  have hJ19 : ∀ (w0 : TModel), f_X11_patch_J19 p1 p2 p3  w0 = some r → ∀ (H : Heap) (locs : List Loc), va_P G.1 vwCl [(hw0_0, .inr (8, [.ref hw0_1, .ref hw0_2, .int w0.2.2.1, .int w0.2.2.2.1, .ref hw0_3, .ref hw0_4, .int w0.2.2.2.2.2.2.1, .int w0.2.2.2.2.2.2.2.1, .int w0.2.2.2.2.2.2.2.2.1, .ref hw0_5, .ref hw0_6, .ref hw0_7, .int w0.2.2.2.2.2.2.2.2.2.2.2.2.1, .ref hw0_8])), (hw0_1, .inl (G.2.1, 617, .inl w0.1)), (hw0_2, .inl (G.2.1, 2468, .inl w0.2.1)), (hw0_3, .inl (G.2.1, 30, .inl w0.2.2.2.2.1)), (hw0_4, .inl (G.2.1, 4000, .inl w0.2.2.2.2.2.1)), (hw0_5, .inl (G.2.1, 120, .inl w0.2.2.2.2.2.2.2.2.2.1)), (hw0_6, .inl (G.2.1, 64, .inl w0.2.2.2.2.2.2.2.2.2.2.1)), (hw0_7, .inl (G.2.2.1, 64, .inl w0.2.2.2.2.2.2.2.2.2.2.2.1)), (hw0_8, .inl (G.2.1, 64, .inl w0.2.2.2.2.2.2.2.2.2.2.2.2.2))] H → va_D A [(hw0_0, .inr (8, [.ref hw0_1, .ref hw0_2, .int w0.2.2.1, .int w0.2.2.2.1, .ref hw0_3, .ref hw0_4, .int w0.2.2.2.2.2.2.1, .int w0.2.2.2.2.2.2.2.1, .int w0.2.2.2.2.2.2.2.2.1, .ref hw0_5, .ref hw0_6, .ref hw0_7, .int w0.2.2.2.2.2.2.2.2.2.2.2.2.1, .ref hw0_8])), (hw0_1, .inl (G.2.1, 617, .inl w0.1)), (hw0_2, .inl (G.2.1, 2468, .inl w0.2.1)), (hw0_3, .inl (G.2.1, 30, .inl w0.2.2.2.2.1)), (hw0_4, .inl (G.2.1, 4000, .inl w0.2.2.2.2.2.1)), (hw0_5, .inl (G.2.1, 120, .inl w0.2.2.2.2.2.2.2.2.2.1)), (hw0_6, .inl (G.2.1, 64, .inl w0.2.2.2.2.2.2.2.2.2.2.1)), (hw0_7, .inl (G.2.2.1, 64, .inl w0.2.2.2.2.2.2.2.2.2.2.2.1)), (hw0_8, .inl (G.2.1, 64, .inl w0.2.2.2.2.2.2.2.2.2.2.2.2.2))] → va_S A s.heap H locs → ∀ (ls : Array Slot), lv_has ls 5 [(0, .ref hw0_0), (1, .int p1), (2, .int p2), (3, .int p3)] → W p l e (rm_X11_patch) s m args below meth c H locs 0 0 Q (F0 m 19 ls [.ref hw0_0]) := by
    intro w0 hf H locs hP hD hS ls hl
    unfold f_X11_patch_J19 at hf
    refine lv_iconst (pc := 19) (v := (0 : Int32)) hx hb dX11_patch_19 (by decide) ?_
    exact hJ20 w0 (0 : Int32) hf H locs hP hD hS ls (lv_sub hl [0, 1, 2, 3] rfl)
  refine lv_aload_n (pc := 0) hx hb dX11_patch_0 rfl (lv_at hl 0 rfl) ?_
  refine lv_iload_n (pc := 1) hx hb dX11_patch_1 rfl (lv_at hl 1 rfl) ?_
  obtain ⟨x1, hcx1, hf⟩ := bn_some hf
  refine g_callS0 (pc := 2) (rest := [.ref hw0_0]) hx hb hml hown hts hK (c_X11_isVersion l G  p1 hcx1) wd_934 wd_10 wd_932 wd_933 hd_X11_isVersion ⟨rfl, rfl, Nat.le_of_ble_eq_true rfl, Nat.le_of_ble_eq_true rfl⟩ hP hD hS hA [] rfl rfl rfl hl.1 rfl (Nat.le_of_ble_eq_true rfl) dX11_patch_2 ⟨Nat.zero_le _, Nat.zero_le _⟩ (fun H locs hP hS => ?_)
  refine lv_if_eq (pc := 5) (tgt := 19) hx hb dX11_patch_5 (by decide) (fun hc => ?_) (fun hc => ?_)
  · have hf := br_y hc hf
    exact hJ19 w0 hf H locs hP hD hS ls (lv_sub hl [0, 1, 2, 3] rfl)
  · have hf := br_n hc hf
    refine lv_iload_n (pc := 8) hx hb dX11_patch_8 rfl (lv_at hl 3 rfl) ?_
    obtain ⟨x7, hcx7, hf⟩ := bn_some hf
    refine g_callS0 (pc := 9) (rest := [.ref hw0_0]) hx hb hml hown hts hK (c_X11_isByte l G  p3 hcx7) wd_940 wd_10 wd_938 wd_939 hd_X11_isByte ⟨rfl, rfl, Nat.le_of_ble_eq_true rfl, Nat.le_of_ble_eq_true rfl⟩ hP hD hS hA [] rfl rfl rfl hl.1 rfl (Nat.le_of_ble_eq_true rfl) dX11_patch_9 ⟨Nat.zero_le _, Nat.zero_le _⟩ (fun H locs hP hS => ?_)
    refine lv_if_eq (pc := 12) (tgt := 19) hx hb dX11_patch_12 (by decide) (fun hc => ?_) (fun hc => ?_)
    · have hf := br_y hc hf
      exact hJ19 w0 hf H locs hP hD hS ls (lv_sub hl [0, 1, 2, 3] rfl)
    · have hf := br_n hc hf
      refine lv_iconst (pc := 15) (v := (1 : Int32)) hx hb dX11_patch_15 (by decide) ?_
      refine lv_goto (pc := 16) (tgt := 20) hx hb dX11_patch_16 (by decide) ?_
      exact hJ20 w0 (1 : Int32) hf H locs hP hD hS ls (lv_sub hl [0, 1, 2, 3] rfl)
theorem hd_X11_clear : yX11_clear.cls ≠ "java/lang/invoke/MethodHandle" ∧ yX11_clear.cls ≠ "java/lang/invoke/VarHandle" ∧ (parseMethodDescriptor yX11_clear.desc).map (fun d => d.parameters.length) = some 1 := by decide +kernel
abbrev rm_X11_clear : Room := { frames := 2, cells := 0, slots := 0, locals := 45 }
noncomputable def f_X11_clear (w0 : TModel) (p1 : Int32) : Option (Int32 × TModel) :=
  (f_X11_isVersion p1).bind (fun x1 => (f_X11_goes w0 x1 (1 : Int32)).bind (fun x2 => br (x2.1 = 0) (some ((0 : Int32), x2.2)) ((f_X11_save x2.2).bind (fun x3 => (f_X11_longOf x3 p1).bind (fun x4 => gd (vp_in ((0 : Int32) + p1) 617) ((f_X11_dropsPlan ((upd x3.1 ((0 : Int32) + p1).toNatClampNeg (0 : Int32)), x3.2.1, x3.2.2.1, x3.2.2.2.1, x3.2.2.2.2.1, x3.2.2.2.2.2.1, x3.2.2.2.2.2.2.1, x3.2.2.2.2.2.2.2.1, x3.2.2.2.2.2.2.2.2.1, x3.2.2.2.2.2.2.2.2.2.1, x3.2.2.2.2.2.2.2.2.2.2.1, x3.2.2.2.2.2.2.2.2.2.2.2.1, x3.2.2.2.2.2.2.2.2.2.2.2.2.1, x3.2.2.2.2.2.2.2.2.2.2.2.2.2)).bind (fun x5 => some (x4, x5))))))))
set_option maxHeartbeats 4000000 in
set_option maxRecDepth 100000 in
theorem c_X11_clear (l : Launch) (G : GT) (hw0_0 hw0_1 hw0_2 hw0_3 hw0_4 hw0_5 hw0_6 hw0_7 hw0_8 : Nat) (w0 : TModel) (p1 : Int32) {r : Int32 × TModel} (hf : f_X11_clear w0 p1 = some r) : Ct l yX11_clear (Cond.code yX11_clear cX11_clear 3 (some .int) :: lw_g) rm_X11_clear G [.ref hw0_0, .int p1] [(hw0_0, .inr (8, [.ref hw0_1, .ref hw0_2, .int w0.2.2.1, .int w0.2.2.2.1, .ref hw0_3, .ref hw0_4, .int w0.2.2.2.2.2.2.1, .int w0.2.2.2.2.2.2.2.1, .int w0.2.2.2.2.2.2.2.2.1, .ref hw0_5, .ref hw0_6, .ref hw0_7, .int w0.2.2.2.2.2.2.2.2.2.2.2.2.1, .ref hw0_8])), (hw0_1, .inl (G.2.1, 617, .inl w0.1)), (hw0_2, .inl (G.2.1, 2468, .inl w0.2.1)), (hw0_3, .inl (G.2.1, 30, .inl w0.2.2.2.2.1)), (hw0_4, .inl (G.2.1, 4000, .inl w0.2.2.2.2.2.1)), (hw0_5, .inl (G.2.1, 120, .inl w0.2.2.2.2.2.2.2.2.2.1)), (hw0_6, .inl (G.2.1, 64, .inl w0.2.2.2.2.2.2.2.2.2.2.1)), (hw0_7, .inl (G.2.2.1, 64, .inl w0.2.2.2.2.2.2.2.2.2.2.2.1)), (hw0_8, .inl (G.2.1, 64, .inl w0.2.2.2.2.2.2.2.2.2.2.2.2.2))] (some (.int r.1)) [(hw0_0, .inr (8, [.ref hw0_1, .ref hw0_2, .int r.2.2.2.1, .int r.2.2.2.2.1, .ref hw0_3, .ref hw0_4, .int r.2.2.2.2.2.2.2.1, .int r.2.2.2.2.2.2.2.2.1, .int r.2.2.2.2.2.2.2.2.2.1, .ref hw0_5, .ref hw0_6, .ref hw0_7, .int r.2.2.2.2.2.2.2.2.2.2.2.2.2.1, .ref hw0_8])), (hw0_1, .inl (G.2.1, 617, .inl r.2.1)), (hw0_2, .inl (G.2.1, 2468, .inl r.2.2.1)), (hw0_3, .inl (G.2.1, 30, .inl r.2.2.2.2.2.1)), (hw0_4, .inl (G.2.1, 4000, .inl r.2.2.2.2.2.2.1)), (hw0_5, .inl (G.2.1, 120, .inl r.2.2.2.2.2.2.2.2.2.2.1)), (hw0_6, .inl (G.2.1, 64, .inl r.2.2.2.2.2.2.2.2.2.2.2.1)), (hw0_7, .inl (G.2.2.1, 64, .inl r.2.2.2.2.2.2.2.2.2.2.2.2.1)), (hw0_8, .inl (G.2.1, 64, .inl r.2.2.2.2.2.2.2.2.2.2.2.2.2.2))] := by
  refine Ct.ofW (cc := cX11_clear) (maxL := 3) (ret := (some .int)) (own := RX11) (by decide) rfl rfl (Nat.le_of_ble_eq_true rfl) ?_
  intro p e s m args below meth c A hx hb hr hml hts hown hlocks hK hP hD hA hS ls hl
  have hl : lv_has ls 3 [(0, .ref hw0_0), (1, .int p1)] := hl
  generalize hQ : gMQ below G _ _ A args s = Q
  generalize hH : s.heap = H at hP ⊢
  have hS : va_S A s.heap H [] := by rw [← hH]; exact hS
  generalize ([] : List Loc) = locs at hS ⊢
  unfold f_X11_clear at hf
  refine lv_aload_n (pc := 0) hx hb dX11_clear_0 rfl (lv_at hl 0 rfl) ?_
  refine lv_iload_n (pc := 1) hx hb dX11_clear_1 rfl (lv_at hl 1 rfl) ?_
  obtain ⟨x1, hcx1, hf⟩ := bn_some hf
  refine g_callS0 (pc := 2) (rest := [.ref hw0_0]) hx hb hml hown hts hK (c_X11_isVersion l G  p1 hcx1) wd_934 wd_10 wd_932 wd_933 hd_X11_isVersion ⟨rfl, rfl, Nat.le_of_ble_eq_true rfl, Nat.le_of_ble_eq_true rfl⟩ hP hD hS hA [] rfl rfl rfl hl.1 rfl (Nat.le_of_ble_eq_true rfl) dX11_clear_2 ⟨Nat.zero_le _, Nat.zero_le _⟩ (fun H locs hP hS => ?_)
  refine lv_iconst (pc := 5) (v := (1 : Int32)) hx hb dX11_clear_5 (by decide) ?_
  obtain ⟨x2, hcx2, hf⟩ := bn_some hf
  refine g_callV (pc := 6) (ws' := [(hw0_0, .inr (8, [.ref hw0_1, .ref hw0_2, .int x2.2.2.2.1, .int x2.2.2.2.2.1, .ref hw0_3, .ref hw0_4, .int x2.2.2.2.2.2.2.2.1, .int x2.2.2.2.2.2.2.2.2.1, .int x2.2.2.2.2.2.2.2.2.2.1, .ref hw0_5, .ref hw0_6, .ref hw0_7, .int x2.2.2.2.2.2.2.2.2.2.2.2.2.2.1, .ref hw0_8])), (hw0_1, .inl (G.2.1, 617, .inl x2.2.1)), (hw0_2, .inl (G.2.1, 2468, .inl x2.2.2.1)), (hw0_3, .inl (G.2.1, 30, .inl x2.2.2.2.2.2.1)), (hw0_4, .inl (G.2.1, 4000, .inl x2.2.2.2.2.2.2.1)), (hw0_5, .inl (G.2.1, 120, .inl x2.2.2.2.2.2.2.2.2.2.2.1)), (hw0_6, .inl (G.2.1, 64, .inl x2.2.2.2.2.2.2.2.2.2.2.2.1)), (hw0_7, .inl (G.2.2.1, 64, .inl x2.2.2.2.2.2.2.2.2.2.2.2.2.1)), (hw0_8, .inl (G.2.1, 64, .inl x2.2.2.2.2.2.2.2.2.2.2.2.2.2.2))]) (rest := []) hx hb hml hown hts hK (c_X11_goes l G hw0_0 hw0_1 hw0_2 hw0_3 hw0_4 hw0_5 hw0_6 hw0_7 hw0_8 w0 x1 (1 : Int32) hcx2) wd_949 wd_10 wd_946 wd_948 ws_13 hd_X11_goes ⟨rfl, rfl, Nat.le_of_ble_eq_true rfl, Nat.le_of_ble_eq_true rfl⟩ hP hD hS hA [0, 1, 2, 3, 4, 5, 6, 7, 8] rfl rfl rfl rfl 8 0 rfl rfl rfl rfl hl.1 rfl (Nat.le_of_ble_eq_true rfl) dX11_clear_6 ⟨Nat.zero_le _, Nat.zero_le _⟩ (fun H locs hP hD hS => ?_)
  refine lv_if_ne (pc := 9) (tgt := 14) hx hb dX11_clear_9 (by decide) (fun hc => ?_) (fun hc => ?_)
  · have hf := br_n hc hf
    refine lv_aload_n (pc := 14) hx hb dX11_clear_14 rfl (lv_at hl 0 rfl) ?_
    obtain ⟨x3, hcx3, hf⟩ := bn_some hf
    refine g_callV (pc := 15) (ws' := [(hw0_0, .inr (8, [.ref hw0_1, .ref hw0_2, .int x3.2.2.1, .int x3.2.2.2.1, .ref hw0_3, .ref hw0_4, .int x3.2.2.2.2.2.2.1, .int x3.2.2.2.2.2.2.2.1, .int x3.2.2.2.2.2.2.2.2.1, .ref hw0_5, .ref hw0_6, .ref hw0_7, .int x3.2.2.2.2.2.2.2.2.2.2.2.2.1, .ref hw0_8])), (hw0_1, .inl (G.2.1, 617, .inl x3.1)), (hw0_2, .inl (G.2.1, 2468, .inl x3.2.1)), (hw0_3, .inl (G.2.1, 30, .inl x3.2.2.2.2.1)), (hw0_4, .inl (G.2.1, 4000, .inl x3.2.2.2.2.2.1)), (hw0_5, .inl (G.2.1, 120, .inl x3.2.2.2.2.2.2.2.2.2.1)), (hw0_6, .inl (G.2.1, 64, .inl x3.2.2.2.2.2.2.2.2.2.2.1)), (hw0_7, .inl (G.2.2.1, 64, .inl x3.2.2.2.2.2.2.2.2.2.2.2.1)), (hw0_8, .inl (G.2.1, 64, .inl x3.2.2.2.2.2.2.2.2.2.2.2.2.2))]) (rest := []) hx hb hml hown hts hK (c_X11_save l G hw0_0 hw0_1 hw0_2 hw0_3 hw0_4 hw0_5 hw0_6 hw0_7 hw0_8 x2.2 hcx3) wd_953 wd_10 wd_950 wd_952 ws_14 hd_X11_save ⟨rfl, rfl, Nat.le_of_ble_eq_true rfl, Nat.le_of_ble_eq_true rfl⟩ hP hD hS hA [0, 1, 2, 3, 4, 5, 6, 7, 8] rfl rfl rfl rfl 8 0 rfl rfl rfl rfl hl.1 rfl (Nat.le_of_ble_eq_true rfl) dX11_clear_15 ⟨Nat.zero_le _, Nat.zero_le _⟩ (fun H locs hP hD hS => ?_)
    refine lv_aload_n (pc := 18) hx hb dX11_clear_18 rfl (lv_at hl 0 rfl) ?_
    refine lv_iload_n (pc := 19) hx hb dX11_clear_19 rfl (lv_at hl 1 rfl) ?_
    obtain ⟨x4, hcx4, hf⟩ := bn_some hf
    refine g_callV0 (pc := 20) (rest := []) hx hb hml hown hts hK (c_X11_longOf l G hw0_0 hw0_1 hw0_2 hw0_3 hw0_4 hw0_5 hw0_6 hw0_7 hw0_8 x3 p1 hcx4) wd_945 wd_10 wd_942 wd_944 ws_12 hd_X11_longOf ⟨rfl, rfl, Nat.le_of_ble_eq_true rfl, Nat.le_of_ble_eq_true rfl⟩ hP hD hS hA [0, 1, 2, 3, 4, 5, 6, 7, 8] rfl rfl 8 0 rfl rfl rfl rfl hl.1 rfl (Nat.le_of_ble_eq_true rfl) dX11_clear_20 ⟨Nat.zero_le _, Nat.zero_le _⟩ (fun H locs hP hS => ?_)
    refine lv_istore_n (pc := 23) (lv' := [(2, .int x4), (0, .ref hw0_0), (1, .int p1)]) hx hb dX11_clear_23 rfl hl (by decide) rfl (fun ls hl => ?_)
    refine lv_aload_n (pc := 24) hx hb dX11_clear_24 rfl (lv_at hl 1 rfl) ?_
    refine va_get (pc := 25) (D := G.1) (ci := 8) (v := .ref hw0_1) (C := RX11) (T := TX11) (N := 14) hx hb hts inX11 hown hK.1 hP 0 rfl rfl 0 (by decide) (hts _ wd_880) (fun _ h9 => h9) rfl dX11_clear_25 ?_
    refine lv_iconst (pc := 28) (v := (0 : Int32)) hx hb dX11_clear_28 (by decide) ?_
    refine lv_iload_n (pc := 29) hx hb dX11_clear_29 rfl (lv_at hl 2 rfl) ?_
    refine lv_iadd (pc := 30) hx hb dX11_clear_30 ?_
    refine lv_iconst (pc := 31) (v := (0 : Int32)) hx hb dX11_clear_31 (by decide) ?_
    obtain ⟨hg, hf⟩ := gd_some hf
    refine va_iast (pc := 32) hx hb hK.1 hP hD hS 1 0 rfl rfl hg dX11_clear_32 (fun H locs hP hD hS => ?_)
    have hP : va_P G.1 vwCl [(hw0_0, .inr (8, [.ref hw0_1, .ref hw0_2, .int x3.2.2.1, .int x3.2.2.2.1, .ref hw0_3, .ref hw0_4, .int x3.2.2.2.2.2.2.1, .int x3.2.2.2.2.2.2.2.1, .int x3.2.2.2.2.2.2.2.2.1, .ref hw0_5, .ref hw0_6, .ref hw0_7, .int x3.2.2.2.2.2.2.2.2.2.2.2.2.1, .ref hw0_8])), (hw0_1, .inl (G.2.1, 617, .inl (upd x3.1 ((0 : Int32) + p1).toNatClampNeg (0 : Int32)))), (hw0_2, .inl (G.2.1, 2468, .inl x3.2.1)), (hw0_3, .inl (G.2.1, 30, .inl x3.2.2.2.2.1)), (hw0_4, .inl (G.2.1, 4000, .inl x3.2.2.2.2.2.1)), (hw0_5, .inl (G.2.1, 120, .inl x3.2.2.2.2.2.2.2.2.2.1)), (hw0_6, .inl (G.2.1, 64, .inl x3.2.2.2.2.2.2.2.2.2.2.1)), (hw0_7, .inl (G.2.2.1, 64, .inl x3.2.2.2.2.2.2.2.2.2.2.2.1)), (hw0_8, .inl (G.2.1, 64, .inl x3.2.2.2.2.2.2.2.2.2.2.2.2.2))] H := hP
    have hD : va_D A [(hw0_0, .inr (8, [.ref hw0_1, .ref hw0_2, .int x3.2.2.1, .int x3.2.2.2.1, .ref hw0_3, .ref hw0_4, .int x3.2.2.2.2.2.2.1, .int x3.2.2.2.2.2.2.2.1, .int x3.2.2.2.2.2.2.2.2.1, .ref hw0_5, .ref hw0_6, .ref hw0_7, .int x3.2.2.2.2.2.2.2.2.2.2.2.2.1, .ref hw0_8])), (hw0_1, .inl (G.2.1, 617, .inl (upd x3.1 ((0 : Int32) + p1).toNatClampNeg (0 : Int32)))), (hw0_2, .inl (G.2.1, 2468, .inl x3.2.1)), (hw0_3, .inl (G.2.1, 30, .inl x3.2.2.2.2.1)), (hw0_4, .inl (G.2.1, 4000, .inl x3.2.2.2.2.2.1)), (hw0_5, .inl (G.2.1, 120, .inl x3.2.2.2.2.2.2.2.2.2.1)), (hw0_6, .inl (G.2.1, 64, .inl x3.2.2.2.2.2.2.2.2.2.2.1)), (hw0_7, .inl (G.2.2.1, 64, .inl x3.2.2.2.2.2.2.2.2.2.2.2.1)), (hw0_8, .inl (G.2.1, 64, .inl x3.2.2.2.2.2.2.2.2.2.2.2.2.2))] := hD
    refine lv_aload_n (pc := 33) hx hb dX11_clear_33 rfl (lv_at hl 1 rfl) ?_
    obtain ⟨x5, hcx5, hf⟩ := bn_some hf
    refine g_callV (pc := 34) (ws' := [(hw0_0, .inr (8, [.ref hw0_1, .ref hw0_2, .int x5.2.2.1, .int x5.2.2.2.1, .ref hw0_3, .ref hw0_4, .int x5.2.2.2.2.2.2.1, .int x5.2.2.2.2.2.2.2.1, .int x5.2.2.2.2.2.2.2.2.1, .ref hw0_5, .ref hw0_6, .ref hw0_7, .int x5.2.2.2.2.2.2.2.2.2.2.2.2.1, .ref hw0_8])), (hw0_1, .inl (G.2.1, 617, .inl x5.1)), (hw0_2, .inl (G.2.1, 2468, .inl x5.2.1)), (hw0_3, .inl (G.2.1, 30, .inl x5.2.2.2.2.1)), (hw0_4, .inl (G.2.1, 4000, .inl x5.2.2.2.2.2.1)), (hw0_5, .inl (G.2.1, 120, .inl x5.2.2.2.2.2.2.2.2.2.1)), (hw0_6, .inl (G.2.1, 64, .inl x5.2.2.2.2.2.2.2.2.2.2.1)), (hw0_7, .inl (G.2.2.1, 64, .inl x5.2.2.2.2.2.2.2.2.2.2.2.1)), (hw0_8, .inl (G.2.1, 64, .inl x5.2.2.2.2.2.2.2.2.2.2.2.2.2))]) (rest := []) hx hb hml hown hts hK (c_X11_dropsPlan l G hw0_0 hw0_1 hw0_2 hw0_3 hw0_4 hw0_5 hw0_6 hw0_7 hw0_8 ((upd x3.1 ((0 : Int32) + p1).toNatClampNeg (0 : Int32)), x3.2.1, x3.2.2.1, x3.2.2.2.1, x3.2.2.2.2.1, x3.2.2.2.2.2.1, x3.2.2.2.2.2.2.1, x3.2.2.2.2.2.2.2.1, x3.2.2.2.2.2.2.2.2.1, x3.2.2.2.2.2.2.2.2.2.1, x3.2.2.2.2.2.2.2.2.2.2.1, x3.2.2.2.2.2.2.2.2.2.2.2.1, x3.2.2.2.2.2.2.2.2.2.2.2.2.1, x3.2.2.2.2.2.2.2.2.2.2.2.2.2) hcx5) wd_957 wd_10 wd_954 wd_956 ws_15 hd_X11_dropsPlan ⟨rfl, rfl, Nat.le_of_ble_eq_true rfl, Nat.le_of_ble_eq_true rfl⟩ hP hD hS hA [0, 1, 2, 3, 4, 5, 6, 7, 8] rfl rfl rfl rfl 8 0 rfl rfl rfl rfl hl.1 rfl (Nat.le_of_ble_eq_true rfl) dX11_clear_34 ⟨Nat.zero_le _, Nat.zero_le _⟩ (fun H locs hP hD hS => ?_)
    refine lv_iload_n (pc := 37) hx hb dX11_clear_37 rfl (lv_at hl 0 rfl) ?_
    have hf := Option.some.inj hf; subst hf
    rw [← hQ]
    exact g_iret hx hb hr hlocks hP hS dX11_clear_38
  · have hf := br_y hc hf
    refine lv_iconst (pc := 12) (v := (0 : Int32)) hx hb dX11_clear_12 (by decide) ?_
    have hf := Option.some.inj hf; subst hf
    rw [← hQ]
    exact g_iret hx hb hr hlocks hP hS dX11_clear_13
theorem hd_X11_byteOf : yX11_byteOf.cls ≠ "java/lang/invoke/MethodHandle" ∧ yX11_byteOf.cls ≠ "java/lang/invoke/VarHandle" ∧ (parseMethodDescriptor yX11_byteOf.desc).map (fun d => d.parameters.length) = some 2 := by decide +kernel
abbrev rm_X11_byteOf : Room := { frames := 3, cells := 0, slots := 0, locals := 67 }
noncomputable def f_X11_byteOf (w0 : TModel) (p1 : Int32) (p2 : Int32) : Option (Int32 × TModel) :=
  (f_X11_isVersion p1).bind (fun x1 => (f_X11_hasByte w0 p1 p2).bind (fun x2 => (f_X11_goes w0 x1 x2).bind (fun x3 => br (x3.1 = 0) (some ((0 : Int32), x3.2)) ((f_X11_byteAt x3.2 p1 p2).bind (fun x4 => some (x4, x3.2))))))
set_option maxHeartbeats 4000000 in
set_option maxRecDepth 100000 in
theorem c_X11_byteOf (l : Launch) (G : GT) (hw0_0 hw0_1 hw0_2 hw0_3 hw0_4 hw0_5 hw0_6 hw0_7 hw0_8 : Nat) (w0 : TModel) (p1 : Int32) (p2 : Int32) {r : Int32 × TModel} (hf : f_X11_byteOf w0 p1 p2 = some r) : Ct l yX11_byteOf (Cond.code yX11_byteOf cX11_byteOf 3 (some .int) :: lw_g) rm_X11_byteOf G [.ref hw0_0, .int p1, .int p2] [(hw0_0, .inr (8, [.ref hw0_1, .ref hw0_2, .int w0.2.2.1, .int w0.2.2.2.1, .ref hw0_3, .ref hw0_4, .int w0.2.2.2.2.2.2.1, .int w0.2.2.2.2.2.2.2.1, .int w0.2.2.2.2.2.2.2.2.1, .ref hw0_5, .ref hw0_6, .ref hw0_7, .int w0.2.2.2.2.2.2.2.2.2.2.2.2.1, .ref hw0_8])), (hw0_1, .inl (G.2.1, 617, .inl w0.1)), (hw0_2, .inl (G.2.1, 2468, .inl w0.2.1)), (hw0_3, .inl (G.2.1, 30, .inl w0.2.2.2.2.1)), (hw0_4, .inl (G.2.1, 4000, .inl w0.2.2.2.2.2.1)), (hw0_5, .inl (G.2.1, 120, .inl w0.2.2.2.2.2.2.2.2.2.1)), (hw0_6, .inl (G.2.1, 64, .inl w0.2.2.2.2.2.2.2.2.2.2.1)), (hw0_7, .inl (G.2.2.1, 64, .inl w0.2.2.2.2.2.2.2.2.2.2.2.1)), (hw0_8, .inl (G.2.1, 64, .inl w0.2.2.2.2.2.2.2.2.2.2.2.2.2))] (some (.int r.1)) [(hw0_0, .inr (8, [.ref hw0_1, .ref hw0_2, .int r.2.2.2.1, .int r.2.2.2.2.1, .ref hw0_3, .ref hw0_4, .int r.2.2.2.2.2.2.2.1, .int r.2.2.2.2.2.2.2.2.1, .int r.2.2.2.2.2.2.2.2.2.1, .ref hw0_5, .ref hw0_6, .ref hw0_7, .int r.2.2.2.2.2.2.2.2.2.2.2.2.2.1, .ref hw0_8])), (hw0_1, .inl (G.2.1, 617, .inl r.2.1)), (hw0_2, .inl (G.2.1, 2468, .inl r.2.2.1)), (hw0_3, .inl (G.2.1, 30, .inl r.2.2.2.2.2.1)), (hw0_4, .inl (G.2.1, 4000, .inl r.2.2.2.2.2.2.1)), (hw0_5, .inl (G.2.1, 120, .inl r.2.2.2.2.2.2.2.2.2.2.1)), (hw0_6, .inl (G.2.1, 64, .inl r.2.2.2.2.2.2.2.2.2.2.2.1)), (hw0_7, .inl (G.2.2.1, 64, .inl r.2.2.2.2.2.2.2.2.2.2.2.2.1)), (hw0_8, .inl (G.2.1, 64, .inl r.2.2.2.2.2.2.2.2.2.2.2.2.2.2))] := by
  refine Ct.ofW (cc := cX11_byteOf) (maxL := 3) (ret := (some .int)) (own := RX11) (by decide) rfl rfl (Nat.le_of_ble_eq_true rfl) ?_
  intro p e s m args below meth c A hx hb hr hml hts hown hlocks hK hP hD hA hS ls hl
  have hl : lv_has ls 3 [(0, .ref hw0_0), (1, .int p1), (2, .int p2)] := hl
  generalize hQ : gMQ below G _ _ A args s = Q
  generalize hH : s.heap = H at hP ⊢
  have hS : va_S A s.heap H [] := by rw [← hH]; exact hS
  generalize ([] : List Loc) = locs at hS ⊢
  unfold f_X11_byteOf at hf
  refine lv_aload_n (pc := 0) hx hb dX11_byteOf_0 rfl (lv_at hl 0 rfl) ?_
  refine lv_iload_n (pc := 1) hx hb dX11_byteOf_1 rfl (lv_at hl 1 rfl) ?_
  obtain ⟨x1, hcx1, hf⟩ := bn_some hf
  refine g_callS0 (pc := 2) (rest := [.ref hw0_0]) hx hb hml hown hts hK (c_X11_isVersion l G  p1 hcx1) wd_934 wd_10 wd_932 wd_933 hd_X11_isVersion ⟨rfl, rfl, Nat.le_of_ble_eq_true rfl, Nat.le_of_ble_eq_true rfl⟩ hP hD hS hA [] rfl rfl rfl hl.1 rfl (Nat.le_of_ble_eq_true rfl) dX11_byteOf_2 ⟨Nat.zero_le _, Nat.zero_le _⟩ (fun H locs hP hS => ?_)
  refine lv_aload_n (pc := 5) hx hb dX11_byteOf_5 rfl (lv_at hl 0 rfl) ?_
  refine lv_iload_n (pc := 6) hx hb dX11_byteOf_6 rfl (lv_at hl 1 rfl) ?_
  refine lv_iload_n (pc := 7) hx hb dX11_byteOf_7 rfl (lv_at hl 2 rfl) ?_
  obtain ⟨x2, hcx2, hf⟩ := bn_some hf
  refine g_callV0 (pc := 8) (rest := [.int x1, .ref hw0_0]) hx hb hml hown hts hK (c_X11_hasByte l G hw0_0 hw0_1 hw0_2 hw0_3 hw0_4 hw0_5 hw0_6 hw0_7 hw0_8 w0 p1 p2 hcx2) wd_965 wd_10 wd_962 wd_964 ws_16 hd_X11_hasByte ⟨rfl, rfl, Nat.le_of_ble_eq_true rfl, Nat.le_of_ble_eq_true rfl⟩ hP hD hS hA [0, 1, 2, 3, 4, 5, 6, 7, 8] rfl rfl 8 0 rfl rfl rfl rfl hl.1 rfl (Nat.le_of_ble_eq_true rfl) dX11_byteOf_8 ⟨Nat.zero_le _, Nat.zero_le _⟩ (fun H locs hP hS => ?_)
  obtain ⟨x3, hcx3, hf⟩ := bn_some hf
  refine g_callV (pc := 11) (ws' := [(hw0_0, .inr (8, [.ref hw0_1, .ref hw0_2, .int x3.2.2.2.1, .int x3.2.2.2.2.1, .ref hw0_3, .ref hw0_4, .int x3.2.2.2.2.2.2.2.1, .int x3.2.2.2.2.2.2.2.2.1, .int x3.2.2.2.2.2.2.2.2.2.1, .ref hw0_5, .ref hw0_6, .ref hw0_7, .int x3.2.2.2.2.2.2.2.2.2.2.2.2.2.1, .ref hw0_8])), (hw0_1, .inl (G.2.1, 617, .inl x3.2.1)), (hw0_2, .inl (G.2.1, 2468, .inl x3.2.2.1)), (hw0_3, .inl (G.2.1, 30, .inl x3.2.2.2.2.2.1)), (hw0_4, .inl (G.2.1, 4000, .inl x3.2.2.2.2.2.2.1)), (hw0_5, .inl (G.2.1, 120, .inl x3.2.2.2.2.2.2.2.2.2.2.1)), (hw0_6, .inl (G.2.1, 64, .inl x3.2.2.2.2.2.2.2.2.2.2.2.1)), (hw0_7, .inl (G.2.2.1, 64, .inl x3.2.2.2.2.2.2.2.2.2.2.2.2.1)), (hw0_8, .inl (G.2.1, 64, .inl x3.2.2.2.2.2.2.2.2.2.2.2.2.2.2))]) (rest := []) hx hb hml hown hts hK (c_X11_goes l G hw0_0 hw0_1 hw0_2 hw0_3 hw0_4 hw0_5 hw0_6 hw0_7 hw0_8 w0 x1 x2 hcx3) wd_949 wd_10 wd_946 wd_948 ws_13 hd_X11_goes ⟨rfl, rfl, Nat.le_of_ble_eq_true rfl, Nat.le_of_ble_eq_true rfl⟩ hP hD hS hA [0, 1, 2, 3, 4, 5, 6, 7, 8] rfl rfl rfl rfl 8 0 rfl rfl rfl rfl hl.1 rfl (Nat.le_of_ble_eq_true rfl) dX11_byteOf_11 ⟨Nat.zero_le _, Nat.zero_le _⟩ (fun H locs hP hD hS => ?_)
  refine lv_if_eq (pc := 14) (tgt := 26) hx hb dX11_byteOf_14 (by decide) (fun hc => ?_) (fun hc => ?_)
  · have hf := br_y hc hf
    refine lv_iconst (pc := 26) (v := (0 : Int32)) hx hb dX11_byteOf_26 (by decide) ?_
    have hf := Option.some.inj hf; subst hf
    rw [← hQ]
    exact g_iret hx hb hr hlocks hP hS dX11_byteOf_27
  · have hf := br_n hc hf
    refine lv_aload_n (pc := 17) hx hb dX11_byteOf_17 rfl (lv_at hl 0 rfl) ?_
    refine lv_iload_n (pc := 18) hx hb dX11_byteOf_18 rfl (lv_at hl 1 rfl) ?_
    refine lv_iload_n (pc := 19) hx hb dX11_byteOf_19 rfl (lv_at hl 2 rfl) ?_
    obtain ⟨x4, hcx4, hf⟩ := bn_some hf
    refine g_callV0 (pc := 20) (rest := []) hx hb hml hown hts hK (c_X11_byteAt l G hw0_0 hw0_1 hw0_2 hw0_3 hw0_4 hw0_5 hw0_6 hw0_7 hw0_8 x3.2 p1 p2 hcx4) wd_969 wd_10 wd_966 wd_968 ws_17 hd_X11_byteAt ⟨rfl, rfl, Nat.le_of_ble_eq_true rfl, Nat.le_of_ble_eq_true rfl⟩ hP hD hS hA [0, 1, 2, 3, 4, 5, 6, 7, 8] rfl rfl 8 0 rfl rfl rfl rfl hl.1 rfl (Nat.le_of_ble_eq_true rfl) dX11_byteOf_20 ⟨Nat.zero_le _, Nat.zero_le _⟩ (fun H locs hP hS => ?_)
    refine lv_goto (pc := 23) (tgt := 27) hx hb dX11_byteOf_23 (by decide) ?_
    have hf := Option.some.inj hf; subst hf
    rw [← hQ]
    exact g_iret hx hb hr hlocks hP hS dX11_byteOf_27
theorem hd_X11_of : yX11_of.cls ≠ "java/lang/invoke/MethodHandle" ∧ yX11_of.cls ≠ "java/lang/invoke/VarHandle" ∧ (parseMethodDescriptor yX11_of.desc).map (fun d => d.parameters.length) = some 2 := by decide +kernel
abbrev rm_X11_of : Room := { frames := 0, cells := 0, slots := 0, locals := 0 }
noncomputable def f_X11_of (w0 : TModel) (p1 : Int32) (p2 : Int32) : Option Int32 :=
  gd (vp_in (((133 : Int32) + ((4 : Int32) * p1)) + p2) 617) (some (w0.1 (((133 : Int32) + ((4 : Int32) * p1)) + p2).toNatClampNeg))
set_option maxHeartbeats 4000000 in
set_option maxRecDepth 100000 in
theorem c_X11_of (l : Launch) (G : GT) (hw0_0 hw0_1 hw0_2 hw0_3 hw0_4 hw0_5 hw0_6 hw0_7 hw0_8 : Nat) (w0 : TModel) (p1 : Int32) (p2 : Int32) {r : Int32} (hf : f_X11_of w0 p1 p2 = some r) : Ct l yX11_of (Cond.code yX11_of cX11_of 3 (some .int) :: lw_g) rm_X11_of G [.ref hw0_0, .int p1, .int p2] [(hw0_0, .inr (8, [.ref hw0_1, .ref hw0_2, .int w0.2.2.1, .int w0.2.2.2.1, .ref hw0_3, .ref hw0_4, .int w0.2.2.2.2.2.2.1, .int w0.2.2.2.2.2.2.2.1, .int w0.2.2.2.2.2.2.2.2.1, .ref hw0_5, .ref hw0_6, .ref hw0_7, .int w0.2.2.2.2.2.2.2.2.2.2.2.2.1, .ref hw0_8])), (hw0_1, .inl (G.2.1, 617, .inl w0.1)), (hw0_2, .inl (G.2.1, 2468, .inl w0.2.1)), (hw0_3, .inl (G.2.1, 30, .inl w0.2.2.2.2.1)), (hw0_4, .inl (G.2.1, 4000, .inl w0.2.2.2.2.2.1)), (hw0_5, .inl (G.2.1, 120, .inl w0.2.2.2.2.2.2.2.2.2.1)), (hw0_6, .inl (G.2.1, 64, .inl w0.2.2.2.2.2.2.2.2.2.2.1)), (hw0_7, .inl (G.2.2.1, 64, .inl w0.2.2.2.2.2.2.2.2.2.2.2.1)), (hw0_8, .inl (G.2.1, 64, .inl w0.2.2.2.2.2.2.2.2.2.2.2.2.2))] (some (.int r)) [(hw0_0, .inr (8, [.ref hw0_1, .ref hw0_2, .int w0.2.2.1, .int w0.2.2.2.1, .ref hw0_3, .ref hw0_4, .int w0.2.2.2.2.2.2.1, .int w0.2.2.2.2.2.2.2.1, .int w0.2.2.2.2.2.2.2.2.1, .ref hw0_5, .ref hw0_6, .ref hw0_7, .int w0.2.2.2.2.2.2.2.2.2.2.2.2.1, .ref hw0_8])), (hw0_1, .inl (G.2.1, 617, .inl w0.1)), (hw0_2, .inl (G.2.1, 2468, .inl w0.2.1)), (hw0_3, .inl (G.2.1, 30, .inl w0.2.2.2.2.1)), (hw0_4, .inl (G.2.1, 4000, .inl w0.2.2.2.2.2.1)), (hw0_5, .inl (G.2.1, 120, .inl w0.2.2.2.2.2.2.2.2.2.1)), (hw0_6, .inl (G.2.1, 64, .inl w0.2.2.2.2.2.2.2.2.2.2.1)), (hw0_7, .inl (G.2.2.1, 64, .inl w0.2.2.2.2.2.2.2.2.2.2.2.1)), (hw0_8, .inl (G.2.1, 64, .inl w0.2.2.2.2.2.2.2.2.2.2.2.2.2))] := by
  refine Ct.ofW (cc := cX11_of) (maxL := 3) (ret := (some .int)) (own := RX11) (by decide) rfl rfl (Nat.le_of_ble_eq_true rfl) ?_
  intro p e s m args below meth c A hx hb hr hml hts hown hlocks hK hP hD hA hS ls hl
  have hl : lv_has ls 3 [(0, .ref hw0_0), (1, .int p1), (2, .int p2)] := hl
  generalize hQ : gMQ below G _ _ A args s = Q
  generalize hH : s.heap = H at hP ⊢
  have hS : va_S A s.heap H [] := by rw [← hH]; exact hS
  generalize ([] : List Loc) = locs at hS ⊢
  unfold f_X11_of at hf
  refine lv_aload_n (pc := 0) hx hb dX11_of_0 rfl (lv_at hl 0 rfl) ?_
  refine va_get (pc := 1) (D := G.1) (ci := 8) (v := .ref hw0_1) (C := RX11) (T := TX11) (N := 14) hx hb hts inX11 hown hK.1 hP 0 rfl rfl 0 (by decide) (hts _ wd_880) (fun _ h9 => h9) rfl dX11_of_1 ?_
  refine lv_sipush (pc := 4) (v := (133 : Int32)) hx hb dX11_of_4 (by decide) ?_
  refine lv_iconst (pc := 7) (v := (4 : Int32)) hx hb dX11_of_7 (by decide) ?_
  refine lv_iload_n (pc := 8) hx hb dX11_of_8 rfl (lv_at hl 1 rfl) ?_
  refine lv_imul (pc := 9) hx hb dX11_of_9 ?_
  refine lv_iadd (pc := 10) hx hb dX11_of_10 ?_
  refine lv_iload_n (pc := 11) hx hb dX11_of_11 rfl (lv_at hl 2 rfl) ?_
  refine lv_iadd (pc := 12) hx hb dX11_of_12 ?_
  obtain ⟨hg, hf⟩ := gd_some hf
  refine va_iald (pc := 13) hx hb hK.1 hP 1 0 rfl rfl hg dX11_of_13 ?_
  have hf := Option.some.inj hf; subst hf
  rw [← hQ]
  exact g_iret hx hb hr hlocks hP hS dX11_of_14
theorem hd_X11_isCopy : yX11_isCopy.cls ≠ "java/lang/invoke/MethodHandle" ∧ yX11_isCopy.cls ≠ "java/lang/invoke/VarHandle" ∧ (parseMethodDescriptor yX11_isCopy.desc).map (fun d => d.parameters.length) = some 1 := by decide +kernel
abbrev rm_X11_isCopy : Room := { frames := 1, cells := 0, slots := 0, locals := 22 }
noncomputable def f_X11_isCopy (w0 : TModel) (p1 : Int32) : Option Int32 :=
  (f_X11_of w0 p1 (0 : Int32)).bind (fun x1 => br (x1 = (1 : Int32)) (some (1 : Int32)) (some (0 : Int32)))
set_option maxHeartbeats 4000000 in
set_option maxRecDepth 100000 in
theorem c_X11_isCopy (l : Launch) (G : GT) (hw0_0 hw0_1 hw0_2 hw0_3 hw0_4 hw0_5 hw0_6 hw0_7 hw0_8 : Nat) (w0 : TModel) (p1 : Int32) {r : Int32} (hf : f_X11_isCopy w0 p1 = some r) : Ct l yX11_isCopy (Cond.code yX11_isCopy cX11_isCopy 2 (some .boolean) :: lw_g) rm_X11_isCopy G [.ref hw0_0, .int p1] [(hw0_0, .inr (8, [.ref hw0_1, .ref hw0_2, .int w0.2.2.1, .int w0.2.2.2.1, .ref hw0_3, .ref hw0_4, .int w0.2.2.2.2.2.2.1, .int w0.2.2.2.2.2.2.2.1, .int w0.2.2.2.2.2.2.2.2.1, .ref hw0_5, .ref hw0_6, .ref hw0_7, .int w0.2.2.2.2.2.2.2.2.2.2.2.2.1, .ref hw0_8])), (hw0_1, .inl (G.2.1, 617, .inl w0.1)), (hw0_2, .inl (G.2.1, 2468, .inl w0.2.1)), (hw0_3, .inl (G.2.1, 30, .inl w0.2.2.2.2.1)), (hw0_4, .inl (G.2.1, 4000, .inl w0.2.2.2.2.2.1)), (hw0_5, .inl (G.2.1, 120, .inl w0.2.2.2.2.2.2.2.2.2.1)), (hw0_6, .inl (G.2.1, 64, .inl w0.2.2.2.2.2.2.2.2.2.2.1)), (hw0_7, .inl (G.2.2.1, 64, .inl w0.2.2.2.2.2.2.2.2.2.2.2.1)), (hw0_8, .inl (G.2.1, 64, .inl w0.2.2.2.2.2.2.2.2.2.2.2.2.2))] (some (.int r)) [(hw0_0, .inr (8, [.ref hw0_1, .ref hw0_2, .int w0.2.2.1, .int w0.2.2.2.1, .ref hw0_3, .ref hw0_4, .int w0.2.2.2.2.2.2.1, .int w0.2.2.2.2.2.2.2.1, .int w0.2.2.2.2.2.2.2.2.1, .ref hw0_5, .ref hw0_6, .ref hw0_7, .int w0.2.2.2.2.2.2.2.2.2.2.2.2.1, .ref hw0_8])), (hw0_1, .inl (G.2.1, 617, .inl w0.1)), (hw0_2, .inl (G.2.1, 2468, .inl w0.2.1)), (hw0_3, .inl (G.2.1, 30, .inl w0.2.2.2.2.1)), (hw0_4, .inl (G.2.1, 4000, .inl w0.2.2.2.2.2.1)), (hw0_5, .inl (G.2.1, 120, .inl w0.2.2.2.2.2.2.2.2.2.1)), (hw0_6, .inl (G.2.1, 64, .inl w0.2.2.2.2.2.2.2.2.2.2.1)), (hw0_7, .inl (G.2.2.1, 64, .inl w0.2.2.2.2.2.2.2.2.2.2.2.1)), (hw0_8, .inl (G.2.1, 64, .inl w0.2.2.2.2.2.2.2.2.2.2.2.2.2))] := by
  refine Ct.ofW (cc := cX11_isCopy) (maxL := 2) (ret := (some .boolean)) (own := RX11) (by decide) rfl rfl (Nat.le_of_ble_eq_true rfl) ?_
  intro p e s m args below meth c A hx hb hr hml hts hown hlocks hK hP hD hA hS ls hl
  have hl : lv_has ls 2 [(0, .ref hw0_0), (1, .int p1)] := hl
  generalize hQ : gMQ below G _ _ A args s = Q
  generalize hH : s.heap = H at hP ⊢
  have hS : va_S A s.heap H [] := by rw [← hH]; exact hS
  generalize ([] : List Loc) = locs at hS ⊢
  unfold f_X11_isCopy at hf
  refine lv_aload_n (pc := 0) hx hb dX11_isCopy_0 rfl (lv_at hl 0 rfl) ?_
  refine lv_iload_n (pc := 1) hx hb dX11_isCopy_1 rfl (lv_at hl 1 rfl) ?_
  refine lv_iconst (pc := 2) (v := (0 : Int32)) hx hb dX11_isCopy_2 (by decide) ?_
  obtain ⟨x1, hcx1, hf⟩ := bn_some hf
  refine g_callV0 (pc := 3) (rest := []) hx hb hml hown hts hK (c_X11_of l G hw0_0 hw0_1 hw0_2 hw0_3 hw0_4 hw0_5 hw0_6 hw0_7 hw0_8 w0 p1 (0 : Int32) hcx1) wd_1010 wd_10 wd_1007 wd_1009 ws_22 hd_X11_of ⟨rfl, rfl, Nat.le_of_ble_eq_true rfl, Nat.le_of_ble_eq_true rfl⟩ hP hD hS hA [0, 1, 2, 3, 4, 5, 6, 7, 8] rfl rfl 8 0 rfl rfl rfl rfl hl.1 rfl (Nat.le_of_ble_eq_true rfl) dX11_isCopy_3 ⟨Nat.zero_le _, Nat.zero_le _⟩ (fun H locs hP hS => ?_)
  refine lv_iconst (pc := 6) (v := (1 : Int32)) hx hb dX11_isCopy_6 (by decide) ?_
  refine lv_icmp_ne (pc := 7) (tgt := 14) hx hb dX11_isCopy_7 (by decide) (fun hc => ?_) (fun hc => ?_)
  · have hf := br_n hc hf
    refine lv_iconst (pc := 14) (v := (0 : Int32)) hx hb dX11_isCopy_14 (by decide) ?_
    have hf := Option.some.inj hf; subst hf
    rw [← hQ]
    exact g_zret (v := (0 : Int32)) hx hb hr hlocks rfl hP hS dX11_isCopy_15
  · have hf := br_y hc hf
    refine lv_iconst (pc := 10) (v := (1 : Int32)) hx hb dX11_isCopy_10 (by decide) ?_
    refine lv_goto (pc := 11) (tgt := 15) hx hb dX11_isCopy_11 (by decide) ?_
    have hf := Option.some.inj hf; subst hf
    rw [← hQ]
    exact g_zret (v := (1 : Int32)) hx hb hr hlocks rfl hP hS dX11_isCopy_15
theorem hd_X11_appends : yX11_appends.cls ≠ "java/lang/invoke/MethodHandle" ∧ yX11_appends.cls ≠ "java/lang/invoke/VarHandle" ∧ (parseMethodDescriptor yX11_appends.desc).map (fun d => d.parameters.length) = some 4 := by decide +kernel
abbrev rm_X11_appends : Room := { frames := 0, cells := 0, slots := 0, locals := 0 }
noncomputable def f_X11_appends (w0 : TModel) (p1 : Int32) (p2 : Int32) (p3 : Int32) (p4 : Int32) : Option TModel :=
  gd (vp_in (132 : Int32) 617) (nm ((133 : Int32) + ((4 : Int32) * (w0.1 (132 : Int32).toNatClampNeg))) (fun x1 => gd (vp_in x1 617) (gd (vp_in (x1 + (1 : Int32)) 617) (gd (vp_in (x1 + (2 : Int32)) 617) (gd (vp_in (x1 + (3 : Int32)) 617) (gd (vp_in (132 : Int32) 617) (gd (vp_in (132 : Int32) 617) (some ((upd (upd (upd (upd (upd w0.1 x1.toNatClampNeg p1) (x1 + (1 : Int32)).toNatClampNeg p2) (x1 + (2 : Int32)).toNatClampNeg p3) (x1 + (3 : Int32)).toNatClampNeg p4) (132 : Int32).toNatClampNeg (((upd (upd (upd (upd w0.1 x1.toNatClampNeg p1) (x1 + (1 : Int32)).toNatClampNeg p2) (x1 + (2 : Int32)).toNatClampNeg p3) (x1 + (3 : Int32)).toNatClampNeg p4) (132 : Int32).toNatClampNeg) + (1 : Int32))), w0.2.1, w0.2.2.1, w0.2.2.2.1, w0.2.2.2.2.1, w0.2.2.2.2.2.1, w0.2.2.2.2.2.2.1, w0.2.2.2.2.2.2.2.1, w0.2.2.2.2.2.2.2.2.1, w0.2.2.2.2.2.2.2.2.2.1, w0.2.2.2.2.2.2.2.2.2.2.1, w0.2.2.2.2.2.2.2.2.2.2.2.1, w0.2.2.2.2.2.2.2.2.2.2.2.2.1, w0.2.2.2.2.2.2.2.2.2.2.2.2.2)))))))))
set_option maxHeartbeats 4000000 in
set_option maxRecDepth 100000 in
theorem c_X11_appends (l : Launch) (G : GT) (hw0_0 hw0_1 hw0_2 hw0_3 hw0_4 hw0_5 hw0_6 hw0_7 hw0_8 : Nat) (w0 : TModel) (p1 : Int32) (p2 : Int32) (p3 : Int32) (p4 : Int32) {r : TModel} (hf : f_X11_appends w0 p1 p2 p3 p4 = some r) : Ct l yX11_appends (Cond.code yX11_appends cX11_appends 6 none :: lw_g) rm_X11_appends G [.ref hw0_0, .int p1, .int p2, .int p3, .int p4] [(hw0_0, .inr (8, [.ref hw0_1, .ref hw0_2, .int w0.2.2.1, .int w0.2.2.2.1, .ref hw0_3, .ref hw0_4, .int w0.2.2.2.2.2.2.1, .int w0.2.2.2.2.2.2.2.1, .int w0.2.2.2.2.2.2.2.2.1, .ref hw0_5, .ref hw0_6, .ref hw0_7, .int w0.2.2.2.2.2.2.2.2.2.2.2.2.1, .ref hw0_8])), (hw0_1, .inl (G.2.1, 617, .inl w0.1)), (hw0_2, .inl (G.2.1, 2468, .inl w0.2.1)), (hw0_3, .inl (G.2.1, 30, .inl w0.2.2.2.2.1)), (hw0_4, .inl (G.2.1, 4000, .inl w0.2.2.2.2.2.1)), (hw0_5, .inl (G.2.1, 120, .inl w0.2.2.2.2.2.2.2.2.2.1)), (hw0_6, .inl (G.2.1, 64, .inl w0.2.2.2.2.2.2.2.2.2.2.1)), (hw0_7, .inl (G.2.2.1, 64, .inl w0.2.2.2.2.2.2.2.2.2.2.2.1)), (hw0_8, .inl (G.2.1, 64, .inl w0.2.2.2.2.2.2.2.2.2.2.2.2.2))] none [(hw0_0, .inr (8, [.ref hw0_1, .ref hw0_2, .int r.2.2.1, .int r.2.2.2.1, .ref hw0_3, .ref hw0_4, .int r.2.2.2.2.2.2.1, .int r.2.2.2.2.2.2.2.1, .int r.2.2.2.2.2.2.2.2.1, .ref hw0_5, .ref hw0_6, .ref hw0_7, .int r.2.2.2.2.2.2.2.2.2.2.2.2.1, .ref hw0_8])), (hw0_1, .inl (G.2.1, 617, .inl r.1)), (hw0_2, .inl (G.2.1, 2468, .inl r.2.1)), (hw0_3, .inl (G.2.1, 30, .inl r.2.2.2.2.1)), (hw0_4, .inl (G.2.1, 4000, .inl r.2.2.2.2.2.1)), (hw0_5, .inl (G.2.1, 120, .inl r.2.2.2.2.2.2.2.2.2.1)), (hw0_6, .inl (G.2.1, 64, .inl r.2.2.2.2.2.2.2.2.2.2.1)), (hw0_7, .inl (G.2.2.1, 64, .inl r.2.2.2.2.2.2.2.2.2.2.2.1)), (hw0_8, .inl (G.2.1, 64, .inl r.2.2.2.2.2.2.2.2.2.2.2.2.2))] := by
  refine Ct.ofW (cc := cX11_appends) (maxL := 6) (ret := none) (own := RX11) (by decide) rfl rfl (Nat.le_of_ble_eq_true rfl) ?_
  intro p e s m args below meth c A hx hb hr hml hts hown hlocks hK hP hD hA hS ls hl
  have hl : lv_has ls 6 [(0, .ref hw0_0), (1, .int p1), (2, .int p2), (3, .int p3), (4, .int p4)] := hl
  generalize hQ : gMQ below G _ _ A args s = Q
  generalize hH : s.heap = H at hP ⊢
  have hS : va_S A s.heap H [] := by rw [← hH]; exact hS
  generalize ([] : List Loc) = locs at hS ⊢
  unfold f_X11_appends at hf
  refine lv_sipush (pc := 0) (v := (133 : Int32)) hx hb dX11_appends_0 (by decide) ?_
  refine lv_iconst (pc := 3) (v := (4 : Int32)) hx hb dX11_appends_3 (by decide) ?_
  refine lv_aload_n (pc := 4) hx hb dX11_appends_4 rfl (lv_at hl 0 rfl) ?_
  refine va_get (pc := 5) (D := G.1) (ci := 8) (v := .ref hw0_1) (C := RX11) (T := TX11) (N := 14) hx hb hts inX11 hown hK.1 hP 0 rfl rfl 0 (by decide) (hts _ wd_880) (fun _ h9 => h9) rfl dX11_appends_5 ?_
  refine lv_sipush (pc := 8) (v := (132 : Int32)) hx hb dX11_appends_8 (by decide) ?_
  obtain ⟨hg, hf⟩ := gd_some hf
  refine va_iald (pc := 11) hx hb hK.1 hP 1 0 rfl rfl hg dX11_appends_11 ?_
  refine lv_imul (pc := 12) hx hb dX11_appends_12 ?_
  refine lv_iadd (pc := 13) hx hb dX11_appends_13 ?_
  refine lv_topi (fun x1 ex1 => ?_)
  have hf := nm_some hf ex1
  refine lv_istore (pc := 14) (lv' := [(5, .int x1), (0, .ref hw0_0), (1, .int p1), (2, .int p2), (3, .int p3), (4, .int p4)]) hx hb dX11_appends_14 hl (by decide) rfl (fun ls hl => ?_)
  refine lv_aload_n (pc := 16) hx hb dX11_appends_16 rfl (lv_at hl 1 rfl) ?_
  refine va_get (pc := 17) (D := G.1) (ci := 8) (v := .ref hw0_1) (C := RX11) (T := TX11) (N := 14) hx hb hts inX11 hown hK.1 hP 0 rfl rfl 0 (by decide) (hts _ wd_880) (fun _ h9 => h9) rfl dX11_appends_17 ?_
  refine lv_iload (pc := 20) hx hb dX11_appends_20 (lv_at hl 0 rfl) ?_
  refine lv_iload_n (pc := 22) hx hb dX11_appends_22 rfl (lv_at hl 2 rfl) ?_
  obtain ⟨hg, hf⟩ := gd_some hf
  refine va_iast (pc := 23) hx hb hK.1 hP hD hS 1 0 rfl rfl hg dX11_appends_23 (fun H locs hP hD hS => ?_)
  have hP : va_P G.1 vwCl [(hw0_0, .inr (8, [.ref hw0_1, .ref hw0_2, .int w0.2.2.1, .int w0.2.2.2.1, .ref hw0_3, .ref hw0_4, .int w0.2.2.2.2.2.2.1, .int w0.2.2.2.2.2.2.2.1, .int w0.2.2.2.2.2.2.2.2.1, .ref hw0_5, .ref hw0_6, .ref hw0_7, .int w0.2.2.2.2.2.2.2.2.2.2.2.2.1, .ref hw0_8])), (hw0_1, .inl (G.2.1, 617, .inl (upd w0.1 x1.toNatClampNeg p1))), (hw0_2, .inl (G.2.1, 2468, .inl w0.2.1)), (hw0_3, .inl (G.2.1, 30, .inl w0.2.2.2.2.1)), (hw0_4, .inl (G.2.1, 4000, .inl w0.2.2.2.2.2.1)), (hw0_5, .inl (G.2.1, 120, .inl w0.2.2.2.2.2.2.2.2.2.1)), (hw0_6, .inl (G.2.1, 64, .inl w0.2.2.2.2.2.2.2.2.2.2.1)), (hw0_7, .inl (G.2.2.1, 64, .inl w0.2.2.2.2.2.2.2.2.2.2.2.1)), (hw0_8, .inl (G.2.1, 64, .inl w0.2.2.2.2.2.2.2.2.2.2.2.2.2))] H := hP
  have hD : va_D A [(hw0_0, .inr (8, [.ref hw0_1, .ref hw0_2, .int w0.2.2.1, .int w0.2.2.2.1, .ref hw0_3, .ref hw0_4, .int w0.2.2.2.2.2.2.1, .int w0.2.2.2.2.2.2.2.1, .int w0.2.2.2.2.2.2.2.2.1, .ref hw0_5, .ref hw0_6, .ref hw0_7, .int w0.2.2.2.2.2.2.2.2.2.2.2.2.1, .ref hw0_8])), (hw0_1, .inl (G.2.1, 617, .inl (upd w0.1 x1.toNatClampNeg p1))), (hw0_2, .inl (G.2.1, 2468, .inl w0.2.1)), (hw0_3, .inl (G.2.1, 30, .inl w0.2.2.2.2.1)), (hw0_4, .inl (G.2.1, 4000, .inl w0.2.2.2.2.2.1)), (hw0_5, .inl (G.2.1, 120, .inl w0.2.2.2.2.2.2.2.2.2.1)), (hw0_6, .inl (G.2.1, 64, .inl w0.2.2.2.2.2.2.2.2.2.2.1)), (hw0_7, .inl (G.2.2.1, 64, .inl w0.2.2.2.2.2.2.2.2.2.2.2.1)), (hw0_8, .inl (G.2.1, 64, .inl w0.2.2.2.2.2.2.2.2.2.2.2.2.2))] := hD
  refine lv_aload_n (pc := 24) hx hb dX11_appends_24 rfl (lv_at hl 1 rfl) ?_
  refine va_get (pc := 25) (D := G.1) (ci := 8) (v := .ref hw0_1) (C := RX11) (T := TX11) (N := 14) hx hb hts inX11 hown hK.1 hP 0 rfl rfl 0 (by decide) (hts _ wd_880) (fun _ h9 => h9) rfl dX11_appends_25 ?_
  refine lv_iload (pc := 28) hx hb dX11_appends_28 (lv_at hl 0 rfl) ?_
  refine lv_iconst (pc := 30) (v := (1 : Int32)) hx hb dX11_appends_30 (by decide) ?_
  refine lv_iadd (pc := 31) hx hb dX11_appends_31 ?_
  refine lv_iload_n (pc := 32) hx hb dX11_appends_32 rfl (lv_at hl 3 rfl) ?_
  obtain ⟨hg, hf⟩ := gd_some hf
  refine va_iast (pc := 33) hx hb hK.1 hP hD hS 1 0 rfl rfl hg dX11_appends_33 (fun H locs hP hD hS => ?_)
  have hP : va_P G.1 vwCl [(hw0_0, .inr (8, [.ref hw0_1, .ref hw0_2, .int w0.2.2.1, .int w0.2.2.2.1, .ref hw0_3, .ref hw0_4, .int w0.2.2.2.2.2.2.1, .int w0.2.2.2.2.2.2.2.1, .int w0.2.2.2.2.2.2.2.2.1, .ref hw0_5, .ref hw0_6, .ref hw0_7, .int w0.2.2.2.2.2.2.2.2.2.2.2.2.1, .ref hw0_8])), (hw0_1, .inl (G.2.1, 617, .inl (upd (upd w0.1 x1.toNatClampNeg p1) (x1 + (1 : Int32)).toNatClampNeg p2))), (hw0_2, .inl (G.2.1, 2468, .inl w0.2.1)), (hw0_3, .inl (G.2.1, 30, .inl w0.2.2.2.2.1)), (hw0_4, .inl (G.2.1, 4000, .inl w0.2.2.2.2.2.1)), (hw0_5, .inl (G.2.1, 120, .inl w0.2.2.2.2.2.2.2.2.2.1)), (hw0_6, .inl (G.2.1, 64, .inl w0.2.2.2.2.2.2.2.2.2.2.1)), (hw0_7, .inl (G.2.2.1, 64, .inl w0.2.2.2.2.2.2.2.2.2.2.2.1)), (hw0_8, .inl (G.2.1, 64, .inl w0.2.2.2.2.2.2.2.2.2.2.2.2.2))] H := hP
  have hD : va_D A [(hw0_0, .inr (8, [.ref hw0_1, .ref hw0_2, .int w0.2.2.1, .int w0.2.2.2.1, .ref hw0_3, .ref hw0_4, .int w0.2.2.2.2.2.2.1, .int w0.2.2.2.2.2.2.2.1, .int w0.2.2.2.2.2.2.2.2.1, .ref hw0_5, .ref hw0_6, .ref hw0_7, .int w0.2.2.2.2.2.2.2.2.2.2.2.2.1, .ref hw0_8])), (hw0_1, .inl (G.2.1, 617, .inl (upd (upd w0.1 x1.toNatClampNeg p1) (x1 + (1 : Int32)).toNatClampNeg p2))), (hw0_2, .inl (G.2.1, 2468, .inl w0.2.1)), (hw0_3, .inl (G.2.1, 30, .inl w0.2.2.2.2.1)), (hw0_4, .inl (G.2.1, 4000, .inl w0.2.2.2.2.2.1)), (hw0_5, .inl (G.2.1, 120, .inl w0.2.2.2.2.2.2.2.2.2.1)), (hw0_6, .inl (G.2.1, 64, .inl w0.2.2.2.2.2.2.2.2.2.2.1)), (hw0_7, .inl (G.2.2.1, 64, .inl w0.2.2.2.2.2.2.2.2.2.2.2.1)), (hw0_8, .inl (G.2.1, 64, .inl w0.2.2.2.2.2.2.2.2.2.2.2.2.2))] := hD
  refine lv_aload_n (pc := 34) hx hb dX11_appends_34 rfl (lv_at hl 1 rfl) ?_
  refine va_get (pc := 35) (D := G.1) (ci := 8) (v := .ref hw0_1) (C := RX11) (T := TX11) (N := 14) hx hb hts inX11 hown hK.1 hP 0 rfl rfl 0 (by decide) (hts _ wd_880) (fun _ h9 => h9) rfl dX11_appends_35 ?_
  refine lv_iload (pc := 38) hx hb dX11_appends_38 (lv_at hl 0 rfl) ?_
  refine lv_iconst (pc := 40) (v := (2 : Int32)) hx hb dX11_appends_40 (by decide) ?_
  refine lv_iadd (pc := 41) hx hb dX11_appends_41 ?_
  refine lv_iload_n (pc := 42) hx hb dX11_appends_42 rfl (lv_at hl 4 rfl) ?_
  obtain ⟨hg, hf⟩ := gd_some hf
  refine va_iast (pc := 43) hx hb hK.1 hP hD hS 1 0 rfl rfl hg dX11_appends_43 (fun H locs hP hD hS => ?_)
  have hP : va_P G.1 vwCl [(hw0_0, .inr (8, [.ref hw0_1, .ref hw0_2, .int w0.2.2.1, .int w0.2.2.2.1, .ref hw0_3, .ref hw0_4, .int w0.2.2.2.2.2.2.1, .int w0.2.2.2.2.2.2.2.1, .int w0.2.2.2.2.2.2.2.2.1, .ref hw0_5, .ref hw0_6, .ref hw0_7, .int w0.2.2.2.2.2.2.2.2.2.2.2.2.1, .ref hw0_8])), (hw0_1, .inl (G.2.1, 617, .inl (upd (upd (upd w0.1 x1.toNatClampNeg p1) (x1 + (1 : Int32)).toNatClampNeg p2) (x1 + (2 : Int32)).toNatClampNeg p3))), (hw0_2, .inl (G.2.1, 2468, .inl w0.2.1)), (hw0_3, .inl (G.2.1, 30, .inl w0.2.2.2.2.1)), (hw0_4, .inl (G.2.1, 4000, .inl w0.2.2.2.2.2.1)), (hw0_5, .inl (G.2.1, 120, .inl w0.2.2.2.2.2.2.2.2.2.1)), (hw0_6, .inl (G.2.1, 64, .inl w0.2.2.2.2.2.2.2.2.2.2.1)), (hw0_7, .inl (G.2.2.1, 64, .inl w0.2.2.2.2.2.2.2.2.2.2.2.1)), (hw0_8, .inl (G.2.1, 64, .inl w0.2.2.2.2.2.2.2.2.2.2.2.2.2))] H := hP
  have hD : va_D A [(hw0_0, .inr (8, [.ref hw0_1, .ref hw0_2, .int w0.2.2.1, .int w0.2.2.2.1, .ref hw0_3, .ref hw0_4, .int w0.2.2.2.2.2.2.1, .int w0.2.2.2.2.2.2.2.1, .int w0.2.2.2.2.2.2.2.2.1, .ref hw0_5, .ref hw0_6, .ref hw0_7, .int w0.2.2.2.2.2.2.2.2.2.2.2.2.1, .ref hw0_8])), (hw0_1, .inl (G.2.1, 617, .inl (upd (upd (upd w0.1 x1.toNatClampNeg p1) (x1 + (1 : Int32)).toNatClampNeg p2) (x1 + (2 : Int32)).toNatClampNeg p3))), (hw0_2, .inl (G.2.1, 2468, .inl w0.2.1)), (hw0_3, .inl (G.2.1, 30, .inl w0.2.2.2.2.1)), (hw0_4, .inl (G.2.1, 4000, .inl w0.2.2.2.2.2.1)), (hw0_5, .inl (G.2.1, 120, .inl w0.2.2.2.2.2.2.2.2.2.1)), (hw0_6, .inl (G.2.1, 64, .inl w0.2.2.2.2.2.2.2.2.2.2.1)), (hw0_7, .inl (G.2.2.1, 64, .inl w0.2.2.2.2.2.2.2.2.2.2.2.1)), (hw0_8, .inl (G.2.1, 64, .inl w0.2.2.2.2.2.2.2.2.2.2.2.2.2))] := hD
  refine lv_aload_n (pc := 44) hx hb dX11_appends_44 rfl (lv_at hl 1 rfl) ?_
  refine va_get (pc := 45) (D := G.1) (ci := 8) (v := .ref hw0_1) (C := RX11) (T := TX11) (N := 14) hx hb hts inX11 hown hK.1 hP 0 rfl rfl 0 (by decide) (hts _ wd_880) (fun _ h9 => h9) rfl dX11_appends_45 ?_
  refine lv_iload (pc := 48) hx hb dX11_appends_48 (lv_at hl 0 rfl) ?_
  refine lv_iconst (pc := 50) (v := (3 : Int32)) hx hb dX11_appends_50 (by decide) ?_
  refine lv_iadd (pc := 51) hx hb dX11_appends_51 ?_
  refine lv_iload (pc := 52) hx hb dX11_appends_52 (lv_at hl 5 rfl) ?_
  obtain ⟨hg, hf⟩ := gd_some hf
  refine va_iast (pc := 54) hx hb hK.1 hP hD hS 1 0 rfl rfl hg dX11_appends_54 (fun H locs hP hD hS => ?_)
  have hP : va_P G.1 vwCl [(hw0_0, .inr (8, [.ref hw0_1, .ref hw0_2, .int w0.2.2.1, .int w0.2.2.2.1, .ref hw0_3, .ref hw0_4, .int w0.2.2.2.2.2.2.1, .int w0.2.2.2.2.2.2.2.1, .int w0.2.2.2.2.2.2.2.2.1, .ref hw0_5, .ref hw0_6, .ref hw0_7, .int w0.2.2.2.2.2.2.2.2.2.2.2.2.1, .ref hw0_8])), (hw0_1, .inl (G.2.1, 617, .inl (upd (upd (upd (upd w0.1 x1.toNatClampNeg p1) (x1 + (1 : Int32)).toNatClampNeg p2) (x1 + (2 : Int32)).toNatClampNeg p3) (x1 + (3 : Int32)).toNatClampNeg p4))), (hw0_2, .inl (G.2.1, 2468, .inl w0.2.1)), (hw0_3, .inl (G.2.1, 30, .inl w0.2.2.2.2.1)), (hw0_4, .inl (G.2.1, 4000, .inl w0.2.2.2.2.2.1)), (hw0_5, .inl (G.2.1, 120, .inl w0.2.2.2.2.2.2.2.2.2.1)), (hw0_6, .inl (G.2.1, 64, .inl w0.2.2.2.2.2.2.2.2.2.2.1)), (hw0_7, .inl (G.2.2.1, 64, .inl w0.2.2.2.2.2.2.2.2.2.2.2.1)), (hw0_8, .inl (G.2.1, 64, .inl w0.2.2.2.2.2.2.2.2.2.2.2.2.2))] H := hP
  have hD : va_D A [(hw0_0, .inr (8, [.ref hw0_1, .ref hw0_2, .int w0.2.2.1, .int w0.2.2.2.1, .ref hw0_3, .ref hw0_4, .int w0.2.2.2.2.2.2.1, .int w0.2.2.2.2.2.2.2.1, .int w0.2.2.2.2.2.2.2.2.1, .ref hw0_5, .ref hw0_6, .ref hw0_7, .int w0.2.2.2.2.2.2.2.2.2.2.2.2.1, .ref hw0_8])), (hw0_1, .inl (G.2.1, 617, .inl (upd (upd (upd (upd w0.1 x1.toNatClampNeg p1) (x1 + (1 : Int32)).toNatClampNeg p2) (x1 + (2 : Int32)).toNatClampNeg p3) (x1 + (3 : Int32)).toNatClampNeg p4))), (hw0_2, .inl (G.2.1, 2468, .inl w0.2.1)), (hw0_3, .inl (G.2.1, 30, .inl w0.2.2.2.2.1)), (hw0_4, .inl (G.2.1, 4000, .inl w0.2.2.2.2.2.1)), (hw0_5, .inl (G.2.1, 120, .inl w0.2.2.2.2.2.2.2.2.2.1)), (hw0_6, .inl (G.2.1, 64, .inl w0.2.2.2.2.2.2.2.2.2.2.1)), (hw0_7, .inl (G.2.2.1, 64, .inl w0.2.2.2.2.2.2.2.2.2.2.2.1)), (hw0_8, .inl (G.2.1, 64, .inl w0.2.2.2.2.2.2.2.2.2.2.2.2.2))] := hD
  refine lv_aload_n (pc := 55) hx hb dX11_appends_55 rfl (lv_at hl 1 rfl) ?_
  refine va_get (pc := 56) (D := G.1) (ci := 8) (v := .ref hw0_1) (C := RX11) (T := TX11) (N := 14) hx hb hts inX11 hown hK.1 hP 0 rfl rfl 0 (by decide) (hts _ wd_880) (fun _ h9 => h9) rfl dX11_appends_56 ?_
  refine lv_sipush (pc := 59) (v := (132 : Int32)) hx hb dX11_appends_59 (by decide) ?_
  refine lv_dup2_11 (pc := 62) hx hb dX11_appends_62 rfl rfl ?_
  obtain ⟨hg, hf⟩ := gd_some hf
  refine va_iald (pc := 63) hx hb hK.1 hP 1 0 rfl rfl hg dX11_appends_63 ?_
  refine lv_iconst (pc := 64) (v := (1 : Int32)) hx hb dX11_appends_64 (by decide) ?_
  refine lv_iadd (pc := 65) hx hb dX11_appends_65 ?_
  obtain ⟨hg, hf⟩ := gd_some hf
  refine va_iast (pc := 66) hx hb hK.1 hP hD hS 1 0 rfl rfl hg dX11_appends_66 (fun H locs hP hD hS => ?_)
  have hP : va_P G.1 vwCl [(hw0_0, .inr (8, [.ref hw0_1, .ref hw0_2, .int w0.2.2.1, .int w0.2.2.2.1, .ref hw0_3, .ref hw0_4, .int w0.2.2.2.2.2.2.1, .int w0.2.2.2.2.2.2.2.1, .int w0.2.2.2.2.2.2.2.2.1, .ref hw0_5, .ref hw0_6, .ref hw0_7, .int w0.2.2.2.2.2.2.2.2.2.2.2.2.1, .ref hw0_8])), (hw0_1, .inl (G.2.1, 617, .inl (upd (upd (upd (upd (upd w0.1 x1.toNatClampNeg p1) (x1 + (1 : Int32)).toNatClampNeg p2) (x1 + (2 : Int32)).toNatClampNeg p3) (x1 + (3 : Int32)).toNatClampNeg p4) (132 : Int32).toNatClampNeg (((upd (upd (upd (upd w0.1 x1.toNatClampNeg p1) (x1 + (1 : Int32)).toNatClampNeg p2) (x1 + (2 : Int32)).toNatClampNeg p3) (x1 + (3 : Int32)).toNatClampNeg p4) (132 : Int32).toNatClampNeg) + (1 : Int32))))), (hw0_2, .inl (G.2.1, 2468, .inl w0.2.1)), (hw0_3, .inl (G.2.1, 30, .inl w0.2.2.2.2.1)), (hw0_4, .inl (G.2.1, 4000, .inl w0.2.2.2.2.2.1)), (hw0_5, .inl (G.2.1, 120, .inl w0.2.2.2.2.2.2.2.2.2.1)), (hw0_6, .inl (G.2.1, 64, .inl w0.2.2.2.2.2.2.2.2.2.2.1)), (hw0_7, .inl (G.2.2.1, 64, .inl w0.2.2.2.2.2.2.2.2.2.2.2.1)), (hw0_8, .inl (G.2.1, 64, .inl w0.2.2.2.2.2.2.2.2.2.2.2.2.2))] H := hP
  have hD : va_D A [(hw0_0, .inr (8, [.ref hw0_1, .ref hw0_2, .int w0.2.2.1, .int w0.2.2.2.1, .ref hw0_3, .ref hw0_4, .int w0.2.2.2.2.2.2.1, .int w0.2.2.2.2.2.2.2.1, .int w0.2.2.2.2.2.2.2.2.1, .ref hw0_5, .ref hw0_6, .ref hw0_7, .int w0.2.2.2.2.2.2.2.2.2.2.2.2.1, .ref hw0_8])), (hw0_1, .inl (G.2.1, 617, .inl (upd (upd (upd (upd (upd w0.1 x1.toNatClampNeg p1) (x1 + (1 : Int32)).toNatClampNeg p2) (x1 + (2 : Int32)).toNatClampNeg p3) (x1 + (3 : Int32)).toNatClampNeg p4) (132 : Int32).toNatClampNeg (((upd (upd (upd (upd w0.1 x1.toNatClampNeg p1) (x1 + (1 : Int32)).toNatClampNeg p2) (x1 + (2 : Int32)).toNatClampNeg p3) (x1 + (3 : Int32)).toNatClampNeg p4) (132 : Int32).toNatClampNeg) + (1 : Int32))))), (hw0_2, .inl (G.2.1, 2468, .inl w0.2.1)), (hw0_3, .inl (G.2.1, 30, .inl w0.2.2.2.2.1)), (hw0_4, .inl (G.2.1, 4000, .inl w0.2.2.2.2.2.1)), (hw0_5, .inl (G.2.1, 120, .inl w0.2.2.2.2.2.2.2.2.2.1)), (hw0_6, .inl (G.2.1, 64, .inl w0.2.2.2.2.2.2.2.2.2.2.1)), (hw0_7, .inl (G.2.2.1, 64, .inl w0.2.2.2.2.2.2.2.2.2.2.2.1)), (hw0_8, .inl (G.2.1, 64, .inl w0.2.2.2.2.2.2.2.2.2.2.2.2.2))] := hD
  have hf := Option.some.inj hf; subst hf
  rw [← hQ]
  exact g_vret hx hb hr hlocks hP hS dX11_appends_67
theorem hd_X11_matchLong : yX11_matchLong.cls ≠ "java/lang/invoke/MethodHandle" ∧ yX11_matchLong.cls ≠ "java/lang/invoke/VarHandle" ∧ (parseMethodDescriptor yX11_matchLong.desc).map (fun d => d.parameters.length) = some 2 := by decide +kernel
abbrev rm_X11_matchLong : Room := { frames := 1, cells := 0, slots := 0, locals := 22 }
noncomputable def f_X11_matchLong_L2 (w0 : TModel) (p1 : Int32) (p2 : Int32)  : Nat → Int32 → Option Int32
  | 0, _ => none
  | k2 + 1, v3 =>
    (f_X11_longOf w0 (0 : Int32)).bind (fun x1 => br (x1 ≤ (p1 + v3)) (some v3) ((f_X11_longOf w0 (1 : Int32)).bind (fun x2 => br (x2 ≤ (p2 + v3)) (some v3) ((f_X11_byteAt w0 (0 : Int32) (p1 + v3)).bind (fun x3 => (f_X11_byteAt w0 (1 : Int32) (p2 + v3)).bind (fun x4 => br (x3 = x4) (f_X11_matchLong_L2 w0 p1 p2  k2 (v3 + (1 : Int32))) (some v3)))))))
noncomputable def f_X11_matchLong (w0 : TModel) (p1 : Int32) (p2 : Int32) : Option Int32 :=
  f_X11_matchLong_L2 w0 p1 p2 FUEL (0 : Int32)
set_option maxHeartbeats 4000000 in
set_option maxRecDepth 100000 in
theorem c_X11_matchLong (l : Launch) (G : GT) (hw0_0 hw0_1 hw0_2 hw0_3 hw0_4 hw0_5 hw0_6 hw0_7 hw0_8 : Nat) (w0 : TModel) (p1 : Int32) (p2 : Int32) {r : Int32} (hf : f_X11_matchLong w0 p1 p2 = some r) : Ct l yX11_matchLong (Cond.code yX11_matchLong cX11_matchLong 4 (some .int) :: lw_g) rm_X11_matchLong G [.ref hw0_0, .int p1, .int p2] [(hw0_0, .inr (8, [.ref hw0_1, .ref hw0_2, .int w0.2.2.1, .int w0.2.2.2.1, .ref hw0_3, .ref hw0_4, .int w0.2.2.2.2.2.2.1, .int w0.2.2.2.2.2.2.2.1, .int w0.2.2.2.2.2.2.2.2.1, .ref hw0_5, .ref hw0_6, .ref hw0_7, .int w0.2.2.2.2.2.2.2.2.2.2.2.2.1, .ref hw0_8])), (hw0_1, .inl (G.2.1, 617, .inl w0.1)), (hw0_2, .inl (G.2.1, 2468, .inl w0.2.1)), (hw0_3, .inl (G.2.1, 30, .inl w0.2.2.2.2.1)), (hw0_4, .inl (G.2.1, 4000, .inl w0.2.2.2.2.2.1)), (hw0_5, .inl (G.2.1, 120, .inl w0.2.2.2.2.2.2.2.2.2.1)), (hw0_6, .inl (G.2.1, 64, .inl w0.2.2.2.2.2.2.2.2.2.2.1)), (hw0_7, .inl (G.2.2.1, 64, .inl w0.2.2.2.2.2.2.2.2.2.2.2.1)), (hw0_8, .inl (G.2.1, 64, .inl w0.2.2.2.2.2.2.2.2.2.2.2.2.2))] (some (.int r)) [(hw0_0, .inr (8, [.ref hw0_1, .ref hw0_2, .int w0.2.2.1, .int w0.2.2.2.1, .ref hw0_3, .ref hw0_4, .int w0.2.2.2.2.2.2.1, .int w0.2.2.2.2.2.2.2.1, .int w0.2.2.2.2.2.2.2.2.1, .ref hw0_5, .ref hw0_6, .ref hw0_7, .int w0.2.2.2.2.2.2.2.2.2.2.2.2.1, .ref hw0_8])), (hw0_1, .inl (G.2.1, 617, .inl w0.1)), (hw0_2, .inl (G.2.1, 2468, .inl w0.2.1)), (hw0_3, .inl (G.2.1, 30, .inl w0.2.2.2.2.1)), (hw0_4, .inl (G.2.1, 4000, .inl w0.2.2.2.2.2.1)), (hw0_5, .inl (G.2.1, 120, .inl w0.2.2.2.2.2.2.2.2.2.1)), (hw0_6, .inl (G.2.1, 64, .inl w0.2.2.2.2.2.2.2.2.2.2.1)), (hw0_7, .inl (G.2.2.1, 64, .inl w0.2.2.2.2.2.2.2.2.2.2.2.1)), (hw0_8, .inl (G.2.1, 64, .inl w0.2.2.2.2.2.2.2.2.2.2.2.2.2))] := by
  refine Ct.ofW (cc := cX11_matchLong) (maxL := 4) (ret := (some .int)) (own := RX11) (by decide) rfl rfl (Nat.le_of_ble_eq_true rfl) ?_
  intro p e s m args below meth c A hx hb hr hml hts hown hlocks hK hP hD hA hS ls hl
  have hl : lv_has ls 4 [(0, .ref hw0_0), (1, .int p1), (2, .int p2)] := hl
  generalize hQ : gMQ below G _ _ A args s = Q
  generalize hH : s.heap = H at hP ⊢
  have hS : va_S A s.heap H [] := by rw [← hH]; exact hS
  generalize ([] : List Loc) = locs at hS ⊢
  unfold f_X11_matchLong at hf
  have hL2 : ∀ (k2 : Nat) (v3 : Int32), f_X11_matchLong_L2 w0 p1 p2  k2 v3 = some r → ∀ (H : Heap) (locs : List Loc), va_P G.1 vwCl [(hw0_0, .inr (8, [.ref hw0_1, .ref hw0_2, .int w0.2.2.1, .int w0.2.2.2.1, .ref hw0_3, .ref hw0_4, .int w0.2.2.2.2.2.2.1, .int w0.2.2.2.2.2.2.2.1, .int w0.2.2.2.2.2.2.2.2.1, .ref hw0_5, .ref hw0_6, .ref hw0_7, .int w0.2.2.2.2.2.2.2.2.2.2.2.2.1, .ref hw0_8])), (hw0_1, .inl (G.2.1, 617, .inl w0.1)), (hw0_2, .inl (G.2.1, 2468, .inl w0.2.1)), (hw0_3, .inl (G.2.1, 30, .inl w0.2.2.2.2.1)), (hw0_4, .inl (G.2.1, 4000, .inl w0.2.2.2.2.2.1)), (hw0_5, .inl (G.2.1, 120, .inl w0.2.2.2.2.2.2.2.2.2.1)), (hw0_6, .inl (G.2.1, 64, .inl w0.2.2.2.2.2.2.2.2.2.2.1)), (hw0_7, .inl (G.2.2.1, 64, .inl w0.2.2.2.2.2.2.2.2.2.2.2.1)), (hw0_8, .inl (G.2.1, 64, .inl w0.2.2.2.2.2.2.2.2.2.2.2.2.2))] H → va_D A [(hw0_0, .inr (8, [.ref hw0_1, .ref hw0_2, .int w0.2.2.1, .int w0.2.2.2.1, .ref hw0_3, .ref hw0_4, .int w0.2.2.2.2.2.2.1, .int w0.2.2.2.2.2.2.2.1, .int w0.2.2.2.2.2.2.2.2.1, .ref hw0_5, .ref hw0_6, .ref hw0_7, .int w0.2.2.2.2.2.2.2.2.2.2.2.2.1, .ref hw0_8])), (hw0_1, .inl (G.2.1, 617, .inl w0.1)), (hw0_2, .inl (G.2.1, 2468, .inl w0.2.1)), (hw0_3, .inl (G.2.1, 30, .inl w0.2.2.2.2.1)), (hw0_4, .inl (G.2.1, 4000, .inl w0.2.2.2.2.2.1)), (hw0_5, .inl (G.2.1, 120, .inl w0.2.2.2.2.2.2.2.2.2.1)), (hw0_6, .inl (G.2.1, 64, .inl w0.2.2.2.2.2.2.2.2.2.2.1)), (hw0_7, .inl (G.2.2.1, 64, .inl w0.2.2.2.2.2.2.2.2.2.2.2.1)), (hw0_8, .inl (G.2.1, 64, .inl w0.2.2.2.2.2.2.2.2.2.2.2.2.2))] → va_S A s.heap H locs → ∀ (ls : Array Slot), lv_has ls 4 [(3, .int v3), (0, .ref hw0_0), (1, .int p1), (2, .int p2)] → W p l e (rm_X11_matchLong) s m args below meth c H locs 0 0 Q (F0 m 2 ls []) := by
    intro k2
    induction k2 with
    | zero =>
      intro v3 hf
      rw [f_X11_matchLong_L2.eq_1] at hf; cases hf
    | succ k2 ih2 =>
      intro v3 hf H locs hP hD hS ls hl
      rw [f_X11_matchLong_L2.eq_2] at hf
      refine lv_iload_n (pc := 2) hx hb dX11_matchLong_2 rfl (lv_at hl 2 rfl) ?_
      refine lv_iload_n (pc := 3) hx hb dX11_matchLong_3 rfl (lv_at hl 0 rfl) ?_
      refine lv_iadd (pc := 4) hx hb dX11_matchLong_4 ?_
      refine lv_aload_n (pc := 5) hx hb dX11_matchLong_5 rfl (lv_at hl 1 rfl) ?_
      refine lv_iconst (pc := 6) (v := (0 : Int32)) hx hb dX11_matchLong_6 (by decide) ?_
      obtain ⟨x1, hcx1, hf⟩ := bn_some hf
      refine g_callV0 (pc := 7) (rest := [.int (p1 + v3)]) hx hb hml hown hts hK (c_X11_longOf l G hw0_0 hw0_1 hw0_2 hw0_3 hw0_4 hw0_5 hw0_6 hw0_7 hw0_8 w0 (0 : Int32) hcx1) wd_945 wd_10 wd_942 wd_944 ws_12 hd_X11_longOf ⟨rfl, rfl, Nat.le_of_ble_eq_true rfl, Nat.le_of_ble_eq_true rfl⟩ hP hD hS hA [0, 1, 2, 3, 4, 5, 6, 7, 8] rfl rfl 8 0 rfl rfl rfl rfl hl.1 rfl (Nat.le_of_ble_eq_true rfl) dX11_matchLong_7 ⟨Nat.zero_le _, Nat.zero_le _⟩ (fun H locs hP hS => ?_)
      refine lv_icmp_ge (pc := 10) (tgt := 49) hx hb dX11_matchLong_10 (by decide) (fun hc => ?_) (fun hc => ?_)
      · have hf := br_y hc hf
        refine lv_iload_n (pc := 49) hx hb dX11_matchLong_49 rfl (lv_at hl 0 rfl) ?_
        have hf := Option.some.inj hf; subst hf
        rw [← hQ]
        exact g_iret hx hb hr hlocks hP hS dX11_matchLong_50
      · have hf := br_n hc hf
        refine lv_iload_n (pc := 13) hx hb dX11_matchLong_13 rfl (lv_at hl 3 rfl) ?_
        refine lv_iload_n (pc := 14) hx hb dX11_matchLong_14 rfl (lv_at hl 0 rfl) ?_
        refine lv_iadd (pc := 15) hx hb dX11_matchLong_15 ?_
        refine lv_aload_n (pc := 16) hx hb dX11_matchLong_16 rfl (lv_at hl 1 rfl) ?_
        refine lv_iconst (pc := 17) (v := (1 : Int32)) hx hb dX11_matchLong_17 (by decide) ?_
        obtain ⟨x2, hcx2, hf⟩ := bn_some hf
        refine g_callV0 (pc := 18) (rest := [.int (p2 + v3)]) hx hb hml hown hts hK (c_X11_longOf l G hw0_0 hw0_1 hw0_2 hw0_3 hw0_4 hw0_5 hw0_6 hw0_7 hw0_8 w0 (1 : Int32) hcx2) wd_945 wd_10 wd_942 wd_944 ws_12 hd_X11_longOf ⟨rfl, rfl, Nat.le_of_ble_eq_true rfl, Nat.le_of_ble_eq_true rfl⟩ hP hD hS hA [0, 1, 2, 3, 4, 5, 6, 7, 8] rfl rfl 8 0 rfl rfl rfl rfl hl.1 rfl (Nat.le_of_ble_eq_true rfl) dX11_matchLong_18 ⟨Nat.zero_le _, Nat.zero_le _⟩ (fun H locs hP hS => ?_)
        refine lv_icmp_ge (pc := 21) (tgt := 49) hx hb dX11_matchLong_21 (by decide) (fun hc => ?_) (fun hc => ?_)
        · have hf := br_y hc hf
          refine lv_iload_n (pc := 49) hx hb dX11_matchLong_49 rfl (lv_at hl 0 rfl) ?_
          have hf := Option.some.inj hf; subst hf
          rw [← hQ]
          exact g_iret hx hb hr hlocks hP hS dX11_matchLong_50
        · have hf := br_n hc hf
          refine lv_aload_n (pc := 24) hx hb dX11_matchLong_24 rfl (lv_at hl 1 rfl) ?_
          refine lv_iconst (pc := 25) (v := (0 : Int32)) hx hb dX11_matchLong_25 (by decide) ?_
          refine lv_iload_n (pc := 26) hx hb dX11_matchLong_26 rfl (lv_at hl 2 rfl) ?_
          refine lv_iload_n (pc := 27) hx hb dX11_matchLong_27 rfl (lv_at hl 0 rfl) ?_
          refine lv_iadd (pc := 28) hx hb dX11_matchLong_28 ?_
          obtain ⟨x3, hcx3, hf⟩ := bn_some hf
          refine g_callV0 (pc := 29) (rest := []) hx hb hml hown hts hK (c_X11_byteAt l G hw0_0 hw0_1 hw0_2 hw0_3 hw0_4 hw0_5 hw0_6 hw0_7 hw0_8 w0 (0 : Int32) (p1 + v3) hcx3) wd_969 wd_10 wd_966 wd_968 ws_17 hd_X11_byteAt ⟨rfl, rfl, Nat.le_of_ble_eq_true rfl, Nat.le_of_ble_eq_true rfl⟩ hP hD hS hA [0, 1, 2, 3, 4, 5, 6, 7, 8] rfl rfl 8 0 rfl rfl rfl rfl hl.1 rfl (Nat.le_of_ble_eq_true rfl) dX11_matchLong_29 ⟨Nat.zero_le _, Nat.zero_le _⟩ (fun H locs hP hS => ?_)
          refine lv_aload_n (pc := 32) hx hb dX11_matchLong_32 rfl (lv_at hl 1 rfl) ?_
          refine lv_iconst (pc := 33) (v := (1 : Int32)) hx hb dX11_matchLong_33 (by decide) ?_
          refine lv_iload_n (pc := 34) hx hb dX11_matchLong_34 rfl (lv_at hl 3 rfl) ?_
          refine lv_iload_n (pc := 35) hx hb dX11_matchLong_35 rfl (lv_at hl 0 rfl) ?_
          refine lv_iadd (pc := 36) hx hb dX11_matchLong_36 ?_
          obtain ⟨x4, hcx4, hf⟩ := bn_some hf
          refine g_callV0 (pc := 37) (rest := [.int x3]) hx hb hml hown hts hK (c_X11_byteAt l G hw0_0 hw0_1 hw0_2 hw0_3 hw0_4 hw0_5 hw0_6 hw0_7 hw0_8 w0 (1 : Int32) (p2 + v3) hcx4) wd_969 wd_10 wd_966 wd_968 ws_17 hd_X11_byteAt ⟨rfl, rfl, Nat.le_of_ble_eq_true rfl, Nat.le_of_ble_eq_true rfl⟩ hP hD hS hA [0, 1, 2, 3, 4, 5, 6, 7, 8] rfl rfl 8 0 rfl rfl rfl rfl hl.1 rfl (Nat.le_of_ble_eq_true rfl) dX11_matchLong_37 ⟨Nat.zero_le _, Nat.zero_le _⟩ (fun H locs hP hS => ?_)
          refine lv_icmp_ne (pc := 40) (tgt := 49) hx hb dX11_matchLong_40 (by decide) (fun hc => ?_) (fun hc => ?_)
          · have hf := br_n hc hf
            refine lv_iload_n (pc := 49) hx hb dX11_matchLong_49 rfl (lv_at hl 0 rfl) ?_
            have hf := Option.some.inj hf; subst hf
            rw [← hQ]
            exact g_iret hx hb hr hlocks hP hS dX11_matchLong_50
          · have hf := br_y hc hf
            refine lv_iinc (pc := 43) (v := (v3 + (1 : Int32))) (lv' := [(3, .int (v3 + (1 : Int32))), (0, .ref hw0_0), (1, .int p1), (2, .int p2)]) hx hb dX11_matchLong_43 hl (k := 0) rfl rfl (by decide) rfl (fun ls hl => ?_)
            refine lv_goto (pc := 46) (tgt := 2) hx hb dX11_matchLong_46 (by decide) ?_
            exact ih2 (v3 + (1 : Int32)) hf H locs hP hD hS ls (lv_sub hl [0, 1, 2, 3] rfl)
  refine lv_iconst (pc := 0) (v := (0 : Int32)) hx hb dX11_matchLong_0 (by decide) ?_
  refine lv_istore_n (pc := 1) (lv' := [(3, .int (0 : Int32)), (0, .ref hw0_0), (1, .int p1), (2, .int p2)]) hx hb dX11_matchLong_1 rfl hl (by decide) rfl (fun ls hl => ?_)
  exact hL2 FUEL (0 : Int32) hf H locs hP hD hS ls (lv_sub hl [0, 1, 2, 3] rfl)
theorem hd_X11_adds : yX11_adds.cls ≠ "java/lang/invoke/MethodHandle" ∧ yX11_adds.cls ≠ "java/lang/invoke/VarHandle" ∧ (parseMethodDescriptor yX11_adds.desc).map (fun d => d.parameters.length) = some 2 := by decide +kernel
abbrev rm_X11_adds : Room := { frames := 1, cells := 0, slots := 0, locals := 25 }
noncomputable def f_X11_adds (w0 : TModel) (p1 : Int32) (p2 : Int32) : Option TModel :=
  br (p2 ≤ 0) (some w0) ((f_X11_appends w0 (2 : Int32) (-1 : Int32) p1 p2).bind (fun x1 => some x1))
set_option maxHeartbeats 4000000 in
set_option maxRecDepth 100000 in
theorem c_X11_adds (l : Launch) (G : GT) (hw0_0 hw0_1 hw0_2 hw0_3 hw0_4 hw0_5 hw0_6 hw0_7 hw0_8 : Nat) (w0 : TModel) (p1 : Int32) (p2 : Int32) {r : TModel} (hf : f_X11_adds w0 p1 p2 = some r) : Ct l yX11_adds (Cond.code yX11_adds cX11_adds 3 none :: lw_g) rm_X11_adds G [.ref hw0_0, .int p1, .int p2] [(hw0_0, .inr (8, [.ref hw0_1, .ref hw0_2, .int w0.2.2.1, .int w0.2.2.2.1, .ref hw0_3, .ref hw0_4, .int w0.2.2.2.2.2.2.1, .int w0.2.2.2.2.2.2.2.1, .int w0.2.2.2.2.2.2.2.2.1, .ref hw0_5, .ref hw0_6, .ref hw0_7, .int w0.2.2.2.2.2.2.2.2.2.2.2.2.1, .ref hw0_8])), (hw0_1, .inl (G.2.1, 617, .inl w0.1)), (hw0_2, .inl (G.2.1, 2468, .inl w0.2.1)), (hw0_3, .inl (G.2.1, 30, .inl w0.2.2.2.2.1)), (hw0_4, .inl (G.2.1, 4000, .inl w0.2.2.2.2.2.1)), (hw0_5, .inl (G.2.1, 120, .inl w0.2.2.2.2.2.2.2.2.2.1)), (hw0_6, .inl (G.2.1, 64, .inl w0.2.2.2.2.2.2.2.2.2.2.1)), (hw0_7, .inl (G.2.2.1, 64, .inl w0.2.2.2.2.2.2.2.2.2.2.2.1)), (hw0_8, .inl (G.2.1, 64, .inl w0.2.2.2.2.2.2.2.2.2.2.2.2.2))] none [(hw0_0, .inr (8, [.ref hw0_1, .ref hw0_2, .int r.2.2.1, .int r.2.2.2.1, .ref hw0_3, .ref hw0_4, .int r.2.2.2.2.2.2.1, .int r.2.2.2.2.2.2.2.1, .int r.2.2.2.2.2.2.2.2.1, .ref hw0_5, .ref hw0_6, .ref hw0_7, .int r.2.2.2.2.2.2.2.2.2.2.2.2.1, .ref hw0_8])), (hw0_1, .inl (G.2.1, 617, .inl r.1)), (hw0_2, .inl (G.2.1, 2468, .inl r.2.1)), (hw0_3, .inl (G.2.1, 30, .inl r.2.2.2.2.1)), (hw0_4, .inl (G.2.1, 4000, .inl r.2.2.2.2.2.1)), (hw0_5, .inl (G.2.1, 120, .inl r.2.2.2.2.2.2.2.2.2.1)), (hw0_6, .inl (G.2.1, 64, .inl r.2.2.2.2.2.2.2.2.2.2.1)), (hw0_7, .inl (G.2.2.1, 64, .inl r.2.2.2.2.2.2.2.2.2.2.2.1)), (hw0_8, .inl (G.2.1, 64, .inl r.2.2.2.2.2.2.2.2.2.2.2.2.2))] := by
  refine Ct.ofW (cc := cX11_adds) (maxL := 3) (ret := none) (own := RX11) (by decide) rfl rfl (Nat.le_of_ble_eq_true rfl) ?_
  intro p e s m args below meth c A hx hb hr hml hts hown hlocks hK hP hD hA hS ls hl
  have hl : lv_has ls 3 [(0, .ref hw0_0), (1, .int p1), (2, .int p2)] := hl
  generalize hQ : gMQ below G _ _ A args s = Q
  generalize hH : s.heap = H at hP ⊢
  have hS : va_S A s.heap H [] := by rw [← hH]; exact hS
  generalize ([] : List Loc) = locs at hS ⊢
  unfold f_X11_adds at hf
  refine lv_iload_n (pc := 0) hx hb dX11_adds_0 rfl (lv_at hl 2 rfl) ?_
  refine lv_if_le (pc := 1) (tgt := 12) hx hb dX11_adds_1 (by decide) (fun hc => ?_) (fun hc => ?_)
  · have hf := br_y hc hf
    have hf := Option.some.inj hf; subst hf
    rw [← hQ]
    exact g_vret hx hb hr hlocks hP hS dX11_adds_12
  · have hf := br_n hc hf
    refine lv_aload_n (pc := 4) hx hb dX11_adds_4 rfl (lv_at hl 0 rfl) ?_
    refine lv_iconst (pc := 5) (v := (2 : Int32)) hx hb dX11_adds_5 (by decide) ?_
    refine lv_iconst (pc := 6) (v := (-1 : Int32)) hx hb dX11_adds_6 (by decide) ?_
    refine lv_iload_n (pc := 7) hx hb dX11_adds_7 rfl (lv_at hl 1 rfl) ?_
    refine lv_iload_n (pc := 8) hx hb dX11_adds_8 rfl (lv_at hl 2 rfl) ?_
    obtain ⟨x1, hcx1, hf⟩ := bn_some hf
    refine g_callV (pc := 9) (ws' := [(hw0_0, .inr (8, [.ref hw0_1, .ref hw0_2, .int x1.2.2.1, .int x1.2.2.2.1, .ref hw0_3, .ref hw0_4, .int x1.2.2.2.2.2.2.1, .int x1.2.2.2.2.2.2.2.1, .int x1.2.2.2.2.2.2.2.2.1, .ref hw0_5, .ref hw0_6, .ref hw0_7, .int x1.2.2.2.2.2.2.2.2.2.2.2.2.1, .ref hw0_8])), (hw0_1, .inl (G.2.1, 617, .inl x1.1)), (hw0_2, .inl (G.2.1, 2468, .inl x1.2.1)), (hw0_3, .inl (G.2.1, 30, .inl x1.2.2.2.2.1)), (hw0_4, .inl (G.2.1, 4000, .inl x1.2.2.2.2.2.1)), (hw0_5, .inl (G.2.1, 120, .inl x1.2.2.2.2.2.2.2.2.2.1)), (hw0_6, .inl (G.2.1, 64, .inl x1.2.2.2.2.2.2.2.2.2.2.1)), (hw0_7, .inl (G.2.2.1, 64, .inl x1.2.2.2.2.2.2.2.2.2.2.2.1)), (hw0_8, .inl (G.2.1, 64, .inl x1.2.2.2.2.2.2.2.2.2.2.2.2.2))]) (rest := []) hx hb hml hown hts hK (c_X11_appends l G hw0_0 hw0_1 hw0_2 hw0_3 hw0_4 hw0_5 hw0_6 hw0_7 hw0_8 w0 (2 : Int32) (-1 : Int32) p1 p2 hcx1) wd_993 wd_10 wd_990 wd_992 ws_20 hd_X11_appends ⟨rfl, rfl, Nat.le_of_ble_eq_true rfl, Nat.le_of_ble_eq_true rfl⟩ hP hD hS hA [0, 1, 2, 3, 4, 5, 6, 7, 8] rfl rfl rfl rfl 8 0 rfl rfl rfl rfl hl.1 rfl (Nat.le_of_ble_eq_true rfl) dX11_adds_9 ⟨Nat.zero_le _, Nat.zero_le _⟩ (fun H locs hP hD hS => ?_)
    have hf := Option.some.inj hf; subst hf
    rw [← hQ]
    exact g_vret hx hb hr hlocks hP hS dX11_adds_12
theorem hd_X11_make : yX11_make.cls ≠ "java/lang/invoke/MethodHandle" ∧ yX11_make.cls ≠ "java/lang/invoke/VarHandle" ∧ (parseMethodDescriptor yX11_make.desc).map (fun d => d.parameters.length) = some 0 := by decide +kernel
abbrev rm_X11_make : Room := { frames := 2, cells := 0, slots := 0, locals := 47 }
noncomputable def f_X11_make_J185  (rec54 : TModel → Int32 → Int32 → Int32 → Option (Int32 × TModel)) (w0 : TModel) (v3 : Int32) (v2 : Int32) (v1 : Int32) : Option (Int32 × TModel) :=
  rec54 w0 v3 v2 v1
noncomputable def f_X11_make_J163  (rec54 : TModel → Int32 → Int32 → Int32 → Option (Int32 × TModel)) (w0 : TModel) (v3 : Int32) (v2 : Int32) (v1 : Int32) : Option (Int32 × TModel) :=
  (f_X11_byteAt w0 (1 : Int32) v3).bind (fun x9 => gd (vp_in ((253 : Int32) + v3) 617) (f_X11_make_J185  rec54 ((upd w0.1 ((253 : Int32) + v3).toNatClampNeg x9), w0.2.1, w0.2.2.1, w0.2.2.2.1, w0.2.2.2.2.1, w0.2.2.2.2.2.1, w0.2.2.2.2.2.2.1, w0.2.2.2.2.2.2.2.1, w0.2.2.2.2.2.2.2.2.1, w0.2.2.2.2.2.2.2.2.2.1, w0.2.2.2.2.2.2.2.2.2.2.1, w0.2.2.2.2.2.2.2.2.2.2.2.1, w0.2.2.2.2.2.2.2.2.2.2.2.2.1, w0.2.2.2.2.2.2.2.2.2.2.2.2.2) (v3 + (1 : Int32)) (v2 + (1 : Int32)) v1))
noncomputable def f_X11_make_J103  (rec54 : TModel → Int32 → Int32 → Int32 → Option (Int32 × TModel)) (rec69 : TModel → Int32 → Int32 → Int32 → Int32 → Int32 → Option (Int32 × TModel)) (w0 : TModel) (v5 : Int32) (v3 : Int32) (v2 : Int32) (v1 : Int32) (s0 : Int32) : Option (Int32 × TModel) :=
  rec69 w0 (v5 + (1 : Int32)) s0 v3 v2 v1
noncomputable def f_X11_make_L69  (rec54 : TModel → Int32 → Int32 → Int32 → Option (Int32 × TModel)) : Nat → TModel → Int32 → Int32 → Int32 → Int32 → Int32 → Option (Int32 × TModel)
  | 0, _, _, _, _, _, _ => none
  | k69 + 1, w0, v5, v4, v3, v2, v1 =>
    (f_X11_longOf w0 (0 : Int32)).bind (fun x7 => br (x7 ≤ v5) ((f_X11_matchLong w0 v4 v3).bind (fun x8 => br (x8 < (4 : Int32)) (f_X11_make_J163  rec54 w0 v3 v2 v1) (br ((12 : Int32) ≤ v1) (f_X11_make_J163  rec54 w0 v3 v2 v1) ((f_X11_adds w0 (v3 - v2) v2).bind (fun x10 => (f_X11_appends x10 (1 : Int32) v4 v3 x8).bind (fun x11 => f_X11_make_J185  rec54 x11 (v3 + x8) (0 : Int32) (v1 + (1 : Int32)))))))) ((f_X11_matchLong w0 v5 v3).bind (fun x12 => (f_X11_matchLong w0 v4 v3).bind (fun x13 => br (x12 ≤ x13) (f_X11_make_J103  rec54 (f_X11_make_L69  rec54 k69) w0 v5 v3 v2 v1 v4) (f_X11_make_J103  rec54 (f_X11_make_L69  rec54 k69) w0 v5 v3 v2 v1 v5)))))
noncomputable def f_X11_make_L54   : Nat → TModel → Int32 → Int32 → Int32 → Option (Int32 × TModel)
  | 0, _, _, _, _ => none
  | k54 + 1, w0, v3, v2, v1 =>
    (f_X11_longOf w0 (1 : Int32)).bind (fun x5 => br (x5 ≤ v3) ((f_X11_adds w0 (v3 - v2) v2).bind (fun x6 => gd (vp_in (132 : Int32) 617) (some ((x6.1 (132 : Int32).toNatClampNeg), x6)))) (f_X11_make_L69  (f_X11_make_L54   k54) FUEL w0 (1 : Int32) (0 : Int32) v3 v2 v1))
noncomputable def f_X11_make (w0 : TModel) : Option (Int32 × TModel) :=
  (f_X11_save (w0.1, w0.2.1, w0.2.2.1, (0 : Int32), w0.2.2.2.2.1, w0.2.2.2.2.2.1, w0.2.2.2.2.2.2.1, w0.2.2.2.2.2.2.2.1, w0.2.2.2.2.2.2.2.2.1, w0.2.2.2.2.2.2.2.2.2.1, w0.2.2.2.2.2.2.2.2.2.2.1, w0.2.2.2.2.2.2.2.2.2.2.2.1, w0.2.2.2.2.2.2.2.2.2.2.2.2.1, w0.2.2.2.2.2.2.2.2.2.2.2.2.2)).bind (fun x1 => (f_X11_dropsPlan x1).bind (fun x2 => gd (vp_in (132 : Int32) 617) ((f_X11_longOf ((upd x2.1 (132 : Int32).toNatClampNeg (0 : Int32)), x2.2.1, x2.2.2.1, x2.2.2.2.1, x2.2.2.2.2.1, x2.2.2.2.2.2.1, x2.2.2.2.2.2.2.1, x2.2.2.2.2.2.2.2.1, x2.2.2.2.2.2.2.2.2.1, x2.2.2.2.2.2.2.2.2.2.1, x2.2.2.2.2.2.2.2.2.2.2.1, x2.2.2.2.2.2.2.2.2.2.2.2.1, x2.2.2.2.2.2.2.2.2.2.2.2.2.1, x2.2.2.2.2.2.2.2.2.2.2.2.2.2) (0 : Int32)).bind (fun x3 => gd (vp_in (130 : Int32) 617) ((f_X11_longOf ((upd (upd x2.1 (132 : Int32).toNatClampNeg (0 : Int32)) (130 : Int32).toNatClampNeg x3), x2.2.1, x2.2.2.1, x2.2.2.2.1, x2.2.2.2.2.1, x2.2.2.2.2.2.1, x2.2.2.2.2.2.2.1, x2.2.2.2.2.2.2.2.1, x2.2.2.2.2.2.2.2.2.1, x2.2.2.2.2.2.2.2.2.2.1, x2.2.2.2.2.2.2.2.2.2.2.1, x2.2.2.2.2.2.2.2.2.2.2.2.1, x2.2.2.2.2.2.2.2.2.2.2.2.2.1, x2.2.2.2.2.2.2.2.2.2.2.2.2.2) (1 : Int32)).bind (fun x4 => gd (vp_in (131 : Int32) 617) (f_X11_make_L54  FUEL ((upd (upd (upd x2.1 (132 : Int32).toNatClampNeg (0 : Int32)) (130 : Int32).toNatClampNeg x3) (131 : Int32).toNatClampNeg x4), x2.2.1, x2.2.2.1, x2.2.2.2.1, x2.2.2.2.2.1, x2.2.2.2.2.2.1, x2.2.2.2.2.2.2.1, x2.2.2.2.2.2.2.2.1, x2.2.2.2.2.2.2.2.2.1, x2.2.2.2.2.2.2.2.2.2.1, x2.2.2.2.2.2.2.2.2.2.2.1, x2.2.2.2.2.2.2.2.2.2.2.2.1, x2.2.2.2.2.2.2.2.2.2.2.2.2.1, x2.2.2.2.2.2.2.2.2.2.2.2.2.2) (0 : Int32) (0 : Int32) (0 : Int32))))))))
set_option maxHeartbeats 4000000 in
set_option maxRecDepth 100000 in
theorem c_X11_make (l : Launch) (G : GT) (hw0_0 hw0_1 hw0_2 hw0_3 hw0_4 hw0_5 hw0_6 hw0_7 hw0_8 : Nat) (w0 : TModel) {r : Int32 × TModel} (hf : f_X11_make w0 = some r) : Ct l yX11_make (Cond.code yX11_make cX11_make 6 (some .int) :: lw_g) rm_X11_make G [.ref hw0_0] [(hw0_0, .inr (8, [.ref hw0_1, .ref hw0_2, .int w0.2.2.1, .int w0.2.2.2.1, .ref hw0_3, .ref hw0_4, .int w0.2.2.2.2.2.2.1, .int w0.2.2.2.2.2.2.2.1, .int w0.2.2.2.2.2.2.2.2.1, .ref hw0_5, .ref hw0_6, .ref hw0_7, .int w0.2.2.2.2.2.2.2.2.2.2.2.2.1, .ref hw0_8])), (hw0_1, .inl (G.2.1, 617, .inl w0.1)), (hw0_2, .inl (G.2.1, 2468, .inl w0.2.1)), (hw0_3, .inl (G.2.1, 30, .inl w0.2.2.2.2.1)), (hw0_4, .inl (G.2.1, 4000, .inl w0.2.2.2.2.2.1)), (hw0_5, .inl (G.2.1, 120, .inl w0.2.2.2.2.2.2.2.2.2.1)), (hw0_6, .inl (G.2.1, 64, .inl w0.2.2.2.2.2.2.2.2.2.2.1)), (hw0_7, .inl (G.2.2.1, 64, .inl w0.2.2.2.2.2.2.2.2.2.2.2.1)), (hw0_8, .inl (G.2.1, 64, .inl w0.2.2.2.2.2.2.2.2.2.2.2.2.2))] (some (.int r.1)) [(hw0_0, .inr (8, [.ref hw0_1, .ref hw0_2, .int r.2.2.2.1, .int r.2.2.2.2.1, .ref hw0_3, .ref hw0_4, .int r.2.2.2.2.2.2.2.1, .int r.2.2.2.2.2.2.2.2.1, .int r.2.2.2.2.2.2.2.2.2.1, .ref hw0_5, .ref hw0_6, .ref hw0_7, .int r.2.2.2.2.2.2.2.2.2.2.2.2.2.1, .ref hw0_8])), (hw0_1, .inl (G.2.1, 617, .inl r.2.1)), (hw0_2, .inl (G.2.1, 2468, .inl r.2.2.1)), (hw0_3, .inl (G.2.1, 30, .inl r.2.2.2.2.2.1)), (hw0_4, .inl (G.2.1, 4000, .inl r.2.2.2.2.2.2.1)), (hw0_5, .inl (G.2.1, 120, .inl r.2.2.2.2.2.2.2.2.2.2.1)), (hw0_6, .inl (G.2.1, 64, .inl r.2.2.2.2.2.2.2.2.2.2.2.1)), (hw0_7, .inl (G.2.2.1, 64, .inl r.2.2.2.2.2.2.2.2.2.2.2.2.1)), (hw0_8, .inl (G.2.1, 64, .inl r.2.2.2.2.2.2.2.2.2.2.2.2.2.2))] := by
  refine Ct.ofW (cc := cX11_make) (maxL := 6) (ret := (some .int)) (own := RX11) (by decide) rfl rfl (Nat.le_of_ble_eq_true rfl) ?_
  intro p e s m args below meth c A hx hb hr hml hts hown hlocks hK hP hD hA hS ls hl
  have hl : lv_has ls 6 [(0, .ref hw0_0)] := hl
  generalize hQ : gMQ below G _ _ A args s = Q
  generalize hH : s.heap = H at hP ⊢
  have hS : va_S A s.heap H [] := by rw [← hH]; exact hS
  generalize ([] : List Loc) = locs at hS ⊢
  unfold f_X11_make at hf
  have hL54 : ∀ (k54 : Nat) (w0 : TModel) (v3 : Int32) (v2 : Int32) (v1 : Int32), f_X11_make_L54   k54 w0 v3 v2 v1 = some r → ∀ (H : Heap) (locs : List Loc), va_P G.1 vwCl [(hw0_0, .inr (8, [.ref hw0_1, .ref hw0_2, .int w0.2.2.1, .int w0.2.2.2.1, .ref hw0_3, .ref hw0_4, .int w0.2.2.2.2.2.2.1, .int w0.2.2.2.2.2.2.2.1, .int w0.2.2.2.2.2.2.2.2.1, .ref hw0_5, .ref hw0_6, .ref hw0_7, .int w0.2.2.2.2.2.2.2.2.2.2.2.2.1, .ref hw0_8])), (hw0_1, .inl (G.2.1, 617, .inl w0.1)), (hw0_2, .inl (G.2.1, 2468, .inl w0.2.1)), (hw0_3, .inl (G.2.1, 30, .inl w0.2.2.2.2.1)), (hw0_4, .inl (G.2.1, 4000, .inl w0.2.2.2.2.2.1)), (hw0_5, .inl (G.2.1, 120, .inl w0.2.2.2.2.2.2.2.2.2.1)), (hw0_6, .inl (G.2.1, 64, .inl w0.2.2.2.2.2.2.2.2.2.2.1)), (hw0_7, .inl (G.2.2.1, 64, .inl w0.2.2.2.2.2.2.2.2.2.2.2.1)), (hw0_8, .inl (G.2.1, 64, .inl w0.2.2.2.2.2.2.2.2.2.2.2.2.2))] H → va_D A [(hw0_0, .inr (8, [.ref hw0_1, .ref hw0_2, .int w0.2.2.1, .int w0.2.2.2.1, .ref hw0_3, .ref hw0_4, .int w0.2.2.2.2.2.2.1, .int w0.2.2.2.2.2.2.2.1, .int w0.2.2.2.2.2.2.2.2.1, .ref hw0_5, .ref hw0_6, .ref hw0_7, .int w0.2.2.2.2.2.2.2.2.2.2.2.2.1, .ref hw0_8])), (hw0_1, .inl (G.2.1, 617, .inl w0.1)), (hw0_2, .inl (G.2.1, 2468, .inl w0.2.1)), (hw0_3, .inl (G.2.1, 30, .inl w0.2.2.2.2.1)), (hw0_4, .inl (G.2.1, 4000, .inl w0.2.2.2.2.2.1)), (hw0_5, .inl (G.2.1, 120, .inl w0.2.2.2.2.2.2.2.2.2.1)), (hw0_6, .inl (G.2.1, 64, .inl w0.2.2.2.2.2.2.2.2.2.2.1)), (hw0_7, .inl (G.2.2.1, 64, .inl w0.2.2.2.2.2.2.2.2.2.2.2.1)), (hw0_8, .inl (G.2.1, 64, .inl w0.2.2.2.2.2.2.2.2.2.2.2.2.2))] → va_S A s.heap H locs → ∀ (ls : Array Slot), lv_has ls 6 [(3, .int v3), (2, .int v2), (1, .int v1), (0, .ref hw0_0)] → W p l e (rm_X11_make) s m args below meth c H locs 0 0 Q (F0 m 54 ls []) := by
    intro k54
    induction k54 with
    | zero =>
      intro w0 v3 v2 v1 hf
      rw [f_X11_make_L54.eq_1] at hf; cases hf
    | succ k54 ih54 =>
      have hJ185 : ∀ (w0 : TModel) (v3 : Int32) (v2 : Int32) (v1 : Int32), f_X11_make_J185  (f_X11_make_L54 k54) w0 v3 v2 v1 = some r → ∀ (H : Heap) (locs : List Loc), va_P G.1 vwCl [(hw0_0, .inr (8, [.ref hw0_1, .ref hw0_2, .int w0.2.2.1, .int w0.2.2.2.1, .ref hw0_3, .ref hw0_4, .int w0.2.2.2.2.2.2.1, .int w0.2.2.2.2.2.2.2.1, .int w0.2.2.2.2.2.2.2.2.1, .ref hw0_5, .ref hw0_6, .ref hw0_7, .int w0.2.2.2.2.2.2.2.2.2.2.2.2.1, .ref hw0_8])), (hw0_1, .inl (G.2.1, 617, .inl w0.1)), (hw0_2, .inl (G.2.1, 2468, .inl w0.2.1)), (hw0_3, .inl (G.2.1, 30, .inl w0.2.2.2.2.1)), (hw0_4, .inl (G.2.1, 4000, .inl w0.2.2.2.2.2.1)), (hw0_5, .inl (G.2.1, 120, .inl w0.2.2.2.2.2.2.2.2.2.1)), (hw0_6, .inl (G.2.1, 64, .inl w0.2.2.2.2.2.2.2.2.2.2.1)), (hw0_7, .inl (G.2.2.1, 64, .inl w0.2.2.2.2.2.2.2.2.2.2.2.1)), (hw0_8, .inl (G.2.1, 64, .inl w0.2.2.2.2.2.2.2.2.2.2.2.2.2))] H → va_D A [(hw0_0, .inr (8, [.ref hw0_1, .ref hw0_2, .int w0.2.2.1, .int w0.2.2.2.1, .ref hw0_3, .ref hw0_4, .int w0.2.2.2.2.2.2.1, .int w0.2.2.2.2.2.2.2.1, .int w0.2.2.2.2.2.2.2.2.1, .ref hw0_5, .ref hw0_6, .ref hw0_7, .int w0.2.2.2.2.2.2.2.2.2.2.2.2.1, .ref hw0_8])), (hw0_1, .inl (G.2.1, 617, .inl w0.1)), (hw0_2, .inl (G.2.1, 2468, .inl w0.2.1)), (hw0_3, .inl (G.2.1, 30, .inl w0.2.2.2.2.1)), (hw0_4, .inl (G.2.1, 4000, .inl w0.2.2.2.2.2.1)), (hw0_5, .inl (G.2.1, 120, .inl w0.2.2.2.2.2.2.2.2.2.1)), (hw0_6, .inl (G.2.1, 64, .inl w0.2.2.2.2.2.2.2.2.2.2.1)), (hw0_7, .inl (G.2.2.1, 64, .inl w0.2.2.2.2.2.2.2.2.2.2.2.1)), (hw0_8, .inl (G.2.1, 64, .inl w0.2.2.2.2.2.2.2.2.2.2.2.2.2))] → va_S A s.heap H locs → ∀ (ls : Array Slot), lv_has ls 6 [(3, .int v3), (2, .int v2), (1, .int v1), (0, .ref hw0_0)] → W p l e (rm_X11_make) s m args below meth c H locs 0 0 Q (F0 m 185 ls []) := by
        intro w0 v3 v2 v1 hf H locs hP hD hS ls hl
        unfold f_X11_make_J185 at hf
        refine lv_goto (pc := 185) (tgt := 54) hx hb dX11_make_185 (by decide) ?_
        exact ih54 w0 v3 v2 v1 hf H locs hP hD hS ls (lv_sub hl [0, 1, 2, 3] rfl)
      have hJ163 : ∀ (w0 : TModel) (v3 : Int32) (v2 : Int32) (v1 : Int32), f_X11_make_J163  (f_X11_make_L54 k54) w0 v3 v2 v1 = some r → ∀ (H : Heap) (locs : List Loc), va_P G.1 vwCl [(hw0_0, .inr (8, [.ref hw0_1, .ref hw0_2, .int w0.2.2.1, .int w0.2.2.2.1, .ref hw0_3, .ref hw0_4, .int w0.2.2.2.2.2.2.1, .int w0.2.2.2.2.2.2.2.1, .int w0.2.2.2.2.2.2.2.2.1, .ref hw0_5, .ref hw0_6, .ref hw0_7, .int w0.2.2.2.2.2.2.2.2.2.2.2.2.1, .ref hw0_8])), (hw0_1, .inl (G.2.1, 617, .inl w0.1)), (hw0_2, .inl (G.2.1, 2468, .inl w0.2.1)), (hw0_3, .inl (G.2.1, 30, .inl w0.2.2.2.2.1)), (hw0_4, .inl (G.2.1, 4000, .inl w0.2.2.2.2.2.1)), (hw0_5, .inl (G.2.1, 120, .inl w0.2.2.2.2.2.2.2.2.2.1)), (hw0_6, .inl (G.2.1, 64, .inl w0.2.2.2.2.2.2.2.2.2.2.1)), (hw0_7, .inl (G.2.2.1, 64, .inl w0.2.2.2.2.2.2.2.2.2.2.2.1)), (hw0_8, .inl (G.2.1, 64, .inl w0.2.2.2.2.2.2.2.2.2.2.2.2.2))] H → va_D A [(hw0_0, .inr (8, [.ref hw0_1, .ref hw0_2, .int w0.2.2.1, .int w0.2.2.2.1, .ref hw0_3, .ref hw0_4, .int w0.2.2.2.2.2.2.1, .int w0.2.2.2.2.2.2.2.1, .int w0.2.2.2.2.2.2.2.2.1, .ref hw0_5, .ref hw0_6, .ref hw0_7, .int w0.2.2.2.2.2.2.2.2.2.2.2.2.1, .ref hw0_8])), (hw0_1, .inl (G.2.1, 617, .inl w0.1)), (hw0_2, .inl (G.2.1, 2468, .inl w0.2.1)), (hw0_3, .inl (G.2.1, 30, .inl w0.2.2.2.2.1)), (hw0_4, .inl (G.2.1, 4000, .inl w0.2.2.2.2.2.1)), (hw0_5, .inl (G.2.1, 120, .inl w0.2.2.2.2.2.2.2.2.2.1)), (hw0_6, .inl (G.2.1, 64, .inl w0.2.2.2.2.2.2.2.2.2.2.1)), (hw0_7, .inl (G.2.2.1, 64, .inl w0.2.2.2.2.2.2.2.2.2.2.2.1)), (hw0_8, .inl (G.2.1, 64, .inl w0.2.2.2.2.2.2.2.2.2.2.2.2.2))] → va_S A s.heap H locs → ∀ (ls : Array Slot), lv_has ls 6 [(3, .int v3), (2, .int v2), (1, .int v1), (0, .ref hw0_0)] → W p l e (rm_X11_make) s m args below meth c H locs 0 0 Q (F0 m 163 ls []) := by
        intro w0 v3 v2 v1 hf H locs hP hD hS ls hl
        unfold f_X11_make_J163 at hf
        refine lv_aload_n (pc := 163) hx hb dX11_make_163 rfl (lv_at hl 3 rfl) ?_
        refine va_get (pc := 164) (D := G.1) (ci := 8) (v := .ref hw0_1) (C := RX11) (T := TX11) (N := 14) hx hb hts inX11 hown hK.1 hP 0 rfl rfl 0 (by decide) (hts _ wd_880) (fun _ h9 => h9) rfl dX11_make_164 ?_
        refine lv_sipush (pc := 167) (v := (253 : Int32)) hx hb dX11_make_167 (by decide) ?_
        refine lv_iload_n (pc := 170) hx hb dX11_make_170 rfl (lv_at hl 0 rfl) ?_
        refine lv_iadd (pc := 171) hx hb dX11_make_171 ?_
        refine lv_aload_n (pc := 172) hx hb dX11_make_172 rfl (lv_at hl 3 rfl) ?_
        refine lv_iconst (pc := 173) (v := (1 : Int32)) hx hb dX11_make_173 (by decide) ?_
        refine lv_iload_n (pc := 174) hx hb dX11_make_174 rfl (lv_at hl 0 rfl) ?_
        obtain ⟨x9, hcx9, hf⟩ := bn_some hf
        refine g_callV0 (pc := 175) (rest := [.int ((253 : Int32) + v3), .ref hw0_1]) hx hb hml hown hts hK (c_X11_byteAt l G hw0_0 hw0_1 hw0_2 hw0_3 hw0_4 hw0_5 hw0_6 hw0_7 hw0_8 w0 (1 : Int32) v3 hcx9) wd_969 wd_10 wd_966 wd_968 ws_17 hd_X11_byteAt ⟨rfl, rfl, Nat.le_of_ble_eq_true rfl, Nat.le_of_ble_eq_true rfl⟩ hP hD hS hA [0, 1, 2, 3, 4, 5, 6, 7, 8] rfl rfl 8 0 rfl rfl rfl rfl hl.1 rfl (Nat.le_of_ble_eq_true rfl) dX11_make_175 ⟨Nat.zero_le _, Nat.zero_le _⟩ (fun H locs hP hS => ?_)
        obtain ⟨hg, hf⟩ := gd_some hf
        refine va_iast (pc := 178) hx hb hK.1 hP hD hS 1 0 rfl rfl hg dX11_make_178 (fun H locs hP hD hS => ?_)
        have hP : va_P G.1 vwCl [(hw0_0, .inr (8, [.ref hw0_1, .ref hw0_2, .int w0.2.2.1, .int w0.2.2.2.1, .ref hw0_3, .ref hw0_4, .int w0.2.2.2.2.2.2.1, .int w0.2.2.2.2.2.2.2.1, .int w0.2.2.2.2.2.2.2.2.1, .ref hw0_5, .ref hw0_6, .ref hw0_7, .int w0.2.2.2.2.2.2.2.2.2.2.2.2.1, .ref hw0_8])), (hw0_1, .inl (G.2.1, 617, .inl (upd w0.1 ((253 : Int32) + v3).toNatClampNeg x9))), (hw0_2, .inl (G.2.1, 2468, .inl w0.2.1)), (hw0_3, .inl (G.2.1, 30, .inl w0.2.2.2.2.1)), (hw0_4, .inl (G.2.1, 4000, .inl w0.2.2.2.2.2.1)), (hw0_5, .inl (G.2.1, 120, .inl w0.2.2.2.2.2.2.2.2.2.1)), (hw0_6, .inl (G.2.1, 64, .inl w0.2.2.2.2.2.2.2.2.2.2.1)), (hw0_7, .inl (G.2.2.1, 64, .inl w0.2.2.2.2.2.2.2.2.2.2.2.1)), (hw0_8, .inl (G.2.1, 64, .inl w0.2.2.2.2.2.2.2.2.2.2.2.2.2))] H := hP
        have hD : va_D A [(hw0_0, .inr (8, [.ref hw0_1, .ref hw0_2, .int w0.2.2.1, .int w0.2.2.2.1, .ref hw0_3, .ref hw0_4, .int w0.2.2.2.2.2.2.1, .int w0.2.2.2.2.2.2.2.1, .int w0.2.2.2.2.2.2.2.2.1, .ref hw0_5, .ref hw0_6, .ref hw0_7, .int w0.2.2.2.2.2.2.2.2.2.2.2.2.1, .ref hw0_8])), (hw0_1, .inl (G.2.1, 617, .inl (upd w0.1 ((253 : Int32) + v3).toNatClampNeg x9))), (hw0_2, .inl (G.2.1, 2468, .inl w0.2.1)), (hw0_3, .inl (G.2.1, 30, .inl w0.2.2.2.2.1)), (hw0_4, .inl (G.2.1, 4000, .inl w0.2.2.2.2.2.1)), (hw0_5, .inl (G.2.1, 120, .inl w0.2.2.2.2.2.2.2.2.2.1)), (hw0_6, .inl (G.2.1, 64, .inl w0.2.2.2.2.2.2.2.2.2.2.1)), (hw0_7, .inl (G.2.2.1, 64, .inl w0.2.2.2.2.2.2.2.2.2.2.2.1)), (hw0_8, .inl (G.2.1, 64, .inl w0.2.2.2.2.2.2.2.2.2.2.2.2.2))] := hD
        refine lv_iinc (pc := 179) (v := (v2 + (1 : Int32))) (lv' := [(2, .int (v2 + (1 : Int32))), (3, .int v3), (1, .int v1), (0, .ref hw0_0)]) hx hb dX11_make_179 hl (k := 1) rfl rfl (by decide) rfl (fun ls hl => ?_)
        refine lv_iinc (pc := 182) (v := (v3 + (1 : Int32))) (lv' := [(3, .int (v3 + (1 : Int32))), (2, .int (v2 + (1 : Int32))), (1, .int v1), (0, .ref hw0_0)]) hx hb dX11_make_182 hl (k := 1) rfl rfl (by decide) rfl (fun ls hl => ?_)
        exact hJ185 ((upd w0.1 ((253 : Int32) + v3).toNatClampNeg x9), w0.2.1, w0.2.2.1, w0.2.2.2.1, w0.2.2.2.2.1, w0.2.2.2.2.2.1, w0.2.2.2.2.2.2.1, w0.2.2.2.2.2.2.2.1, w0.2.2.2.2.2.2.2.2.1, w0.2.2.2.2.2.2.2.2.2.1, w0.2.2.2.2.2.2.2.2.2.2.1, w0.2.2.2.2.2.2.2.2.2.2.2.1, w0.2.2.2.2.2.2.2.2.2.2.2.2.1, w0.2.2.2.2.2.2.2.2.2.2.2.2.2) (v3 + (1 : Int32)) (v2 + (1 : Int32)) v1 hf H locs hP hD hS ls (lv_sub hl [0, 1, 2, 3] rfl)
      have hL69 : ∀ (k69 : Nat) (w0 : TModel) (v5 : Int32) (v4 : Int32) (v3 : Int32) (v2 : Int32) (v1 : Int32), f_X11_make_L69  (f_X11_make_L54 k54) k69 w0 v5 v4 v3 v2 v1 = some r → ∀ (H : Heap) (locs : List Loc), va_P G.1 vwCl [(hw0_0, .inr (8, [.ref hw0_1, .ref hw0_2, .int w0.2.2.1, .int w0.2.2.2.1, .ref hw0_3, .ref hw0_4, .int w0.2.2.2.2.2.2.1, .int w0.2.2.2.2.2.2.2.1, .int w0.2.2.2.2.2.2.2.2.1, .ref hw0_5, .ref hw0_6, .ref hw0_7, .int w0.2.2.2.2.2.2.2.2.2.2.2.2.1, .ref hw0_8])), (hw0_1, .inl (G.2.1, 617, .inl w0.1)), (hw0_2, .inl (G.2.1, 2468, .inl w0.2.1)), (hw0_3, .inl (G.2.1, 30, .inl w0.2.2.2.2.1)), (hw0_4, .inl (G.2.1, 4000, .inl w0.2.2.2.2.2.1)), (hw0_5, .inl (G.2.1, 120, .inl w0.2.2.2.2.2.2.2.2.2.1)), (hw0_6, .inl (G.2.1, 64, .inl w0.2.2.2.2.2.2.2.2.2.2.1)), (hw0_7, .inl (G.2.2.1, 64, .inl w0.2.2.2.2.2.2.2.2.2.2.2.1)), (hw0_8, .inl (G.2.1, 64, .inl w0.2.2.2.2.2.2.2.2.2.2.2.2.2))] H → va_D A [(hw0_0, .inr (8, [.ref hw0_1, .ref hw0_2, .int w0.2.2.1, .int w0.2.2.2.1, .ref hw0_3, .ref hw0_4, .int w0.2.2.2.2.2.2.1, .int w0.2.2.2.2.2.2.2.1, .int w0.2.2.2.2.2.2.2.2.1, .ref hw0_5, .ref hw0_6, .ref hw0_7, .int w0.2.2.2.2.2.2.2.2.2.2.2.2.1, .ref hw0_8])), (hw0_1, .inl (G.2.1, 617, .inl w0.1)), (hw0_2, .inl (G.2.1, 2468, .inl w0.2.1)), (hw0_3, .inl (G.2.1, 30, .inl w0.2.2.2.2.1)), (hw0_4, .inl (G.2.1, 4000, .inl w0.2.2.2.2.2.1)), (hw0_5, .inl (G.2.1, 120, .inl w0.2.2.2.2.2.2.2.2.2.1)), (hw0_6, .inl (G.2.1, 64, .inl w0.2.2.2.2.2.2.2.2.2.2.1)), (hw0_7, .inl (G.2.2.1, 64, .inl w0.2.2.2.2.2.2.2.2.2.2.2.1)), (hw0_8, .inl (G.2.1, 64, .inl w0.2.2.2.2.2.2.2.2.2.2.2.2.2))] → va_S A s.heap H locs → ∀ (ls : Array Slot), lv_has ls 6 [(5, .int v5), (4, .int v4), (3, .int v3), (2, .int v2), (1, .int v1), (0, .ref hw0_0)] → W p l e (rm_X11_make) s m args below meth c H locs 0 0 Q (F0 m 69 ls []) := by
        intro k69
        induction k69 with
        | zero =>
          intro w0 v5 v4 v3 v2 v1 hf
          rw [f_X11_make_L69.eq_1] at hf; cases hf
        | succ k69 ih69 =>
          have hJ103 : ∀ (w0 : TModel) (v5 : Int32) (v3 : Int32) (v2 : Int32) (v1 : Int32) (s0 : Int32), f_X11_make_J103  (f_X11_make_L54 k54) (f_X11_make_L69 (f_X11_make_L54 k54) k69) w0 v5 v3 v2 v1 s0 = some r → ∀ (H : Heap) (locs : List Loc), va_P G.1 vwCl [(hw0_0, .inr (8, [.ref hw0_1, .ref hw0_2, .int w0.2.2.1, .int w0.2.2.2.1, .ref hw0_3, .ref hw0_4, .int w0.2.2.2.2.2.2.1, .int w0.2.2.2.2.2.2.2.1, .int w0.2.2.2.2.2.2.2.2.1, .ref hw0_5, .ref hw0_6, .ref hw0_7, .int w0.2.2.2.2.2.2.2.2.2.2.2.2.1, .ref hw0_8])), (hw0_1, .inl (G.2.1, 617, .inl w0.1)), (hw0_2, .inl (G.2.1, 2468, .inl w0.2.1)), (hw0_3, .inl (G.2.1, 30, .inl w0.2.2.2.2.1)), (hw0_4, .inl (G.2.1, 4000, .inl w0.2.2.2.2.2.1)), (hw0_5, .inl (G.2.1, 120, .inl w0.2.2.2.2.2.2.2.2.2.1)), (hw0_6, .inl (G.2.1, 64, .inl w0.2.2.2.2.2.2.2.2.2.2.1)), (hw0_7, .inl (G.2.2.1, 64, .inl w0.2.2.2.2.2.2.2.2.2.2.2.1)), (hw0_8, .inl (G.2.1, 64, .inl w0.2.2.2.2.2.2.2.2.2.2.2.2.2))] H → va_D A [(hw0_0, .inr (8, [.ref hw0_1, .ref hw0_2, .int w0.2.2.1, .int w0.2.2.2.1, .ref hw0_3, .ref hw0_4, .int w0.2.2.2.2.2.2.1, .int w0.2.2.2.2.2.2.2.1, .int w0.2.2.2.2.2.2.2.2.1, .ref hw0_5, .ref hw0_6, .ref hw0_7, .int w0.2.2.2.2.2.2.2.2.2.2.2.2.1, .ref hw0_8])), (hw0_1, .inl (G.2.1, 617, .inl w0.1)), (hw0_2, .inl (G.2.1, 2468, .inl w0.2.1)), (hw0_3, .inl (G.2.1, 30, .inl w0.2.2.2.2.1)), (hw0_4, .inl (G.2.1, 4000, .inl w0.2.2.2.2.2.1)), (hw0_5, .inl (G.2.1, 120, .inl w0.2.2.2.2.2.2.2.2.2.1)), (hw0_6, .inl (G.2.1, 64, .inl w0.2.2.2.2.2.2.2.2.2.2.1)), (hw0_7, .inl (G.2.2.1, 64, .inl w0.2.2.2.2.2.2.2.2.2.2.2.1)), (hw0_8, .inl (G.2.1, 64, .inl w0.2.2.2.2.2.2.2.2.2.2.2.2.2))] → va_S A s.heap H locs → ∀ (ls : Array Slot), lv_has ls 6 [(5, .int v5), (3, .int v3), (2, .int v2), (1, .int v1), (0, .ref hw0_0)] → W p l e (rm_X11_make) s m args below meth c H locs 0 0 Q (F0 m 103 ls [.int s0]) := by
            intro w0 v5 v3 v2 v1 s0 hf H locs hP hD hS ls hl
            unfold f_X11_make_J103 at hf
            refine lv_istore (pc := 103) (lv' := [(4, .int s0), (5, .int v5), (3, .int v3), (2, .int v2), (1, .int v1), (0, .ref hw0_0)]) hx hb dX11_make_103 hl (by decide) rfl (fun ls hl => ?_)
            refine lv_iinc (pc := 105) (v := (v5 + (1 : Int32))) (lv' := [(5, .int (v5 + (1 : Int32))), (4, .int s0), (3, .int v3), (2, .int v2), (1, .int v1), (0, .ref hw0_0)]) hx hb dX11_make_105 hl (k := 1) rfl rfl (by decide) rfl (fun ls hl => ?_)
            refine lv_goto (pc := 108) (tgt := 69) hx hb dX11_make_108 (by decide) ?_
            exact ih69 w0 (v5 + (1 : Int32)) s0 v3 v2 v1 hf H locs hP hD hS ls (lv_sub hl [0, 1, 2, 3, 4, 5] rfl)
          intro w0 v5 v4 v3 v2 v1 hf H locs hP hD hS ls hl
          rw [f_X11_make_L69.eq_2] at hf
          refine lv_iload (pc := 69) hx hb dX11_make_69 (lv_at hl 0 rfl) ?_
          refine lv_aload_n (pc := 71) hx hb dX11_make_71 rfl (lv_at hl 5 rfl) ?_
          refine lv_iconst (pc := 72) (v := (0 : Int32)) hx hb dX11_make_72 (by decide) ?_
          obtain ⟨x7, hcx7, hf⟩ := bn_some hf
          refine g_callV0 (pc := 73) (rest := [.int v5]) hx hb hml hown hts hK (c_X11_longOf l G hw0_0 hw0_1 hw0_2 hw0_3 hw0_4 hw0_5 hw0_6 hw0_7 hw0_8 w0 (0 : Int32) hcx7) wd_945 wd_10 wd_942 wd_944 ws_12 hd_X11_longOf ⟨rfl, rfl, Nat.le_of_ble_eq_true rfl, Nat.le_of_ble_eq_true rfl⟩ hP hD hS hA [0, 1, 2, 3, 4, 5, 6, 7, 8] rfl rfl 8 0 rfl rfl rfl rfl hl.1 rfl (Nat.le_of_ble_eq_true rfl) dX11_make_73 ⟨Nat.zero_le _, Nat.zero_le _⟩ (fun H locs hP hS => ?_)
          refine lv_icmp_ge (pc := 76) (tgt := 111) hx hb dX11_make_76 (by decide) (fun hc => ?_) (fun hc => ?_)
          · have hf := br_y hc hf
            refine lv_aload_n (pc := 111) hx hb dX11_make_111 rfl (lv_at hl 5 rfl) ?_
            refine lv_iload (pc := 112) hx hb dX11_make_112 (lv_at hl 1 rfl) ?_
            refine lv_iload_n (pc := 114) hx hb dX11_make_114 rfl (lv_at hl 2 rfl) ?_
            obtain ⟨x8, hcx8, hf⟩ := bn_some hf
            refine g_callV0 (pc := 115) (rest := []) hx hb hml hown hts hK (c_X11_matchLong l G hw0_0 hw0_1 hw0_2 hw0_3 hw0_4 hw0_5 hw0_6 hw0_7 hw0_8 w0 v4 v3 hcx8) wd_985 wd_10 wd_982 wd_984 ws_18 hd_X11_matchLong ⟨rfl, rfl, Nat.le_of_ble_eq_true rfl, Nat.le_of_ble_eq_true rfl⟩ hP hD hS hA [0, 1, 2, 3, 4, 5, 6, 7, 8] rfl rfl 8 0 rfl rfl rfl rfl hl.1 rfl (Nat.le_of_ble_eq_true rfl) dX11_make_115 ⟨Nat.zero_le _, Nat.zero_le _⟩ (fun H locs hP hS => ?_)
            refine lv_istore (pc := 118) (lv' := [(5, .int x8), (4, .int v4), (3, .int v3), (2, .int v2), (1, .int v1), (0, .ref hw0_0)]) hx hb dX11_make_118 hl (by decide) rfl (fun ls hl => ?_)
            refine lv_iload (pc := 120) hx hb dX11_make_120 (lv_at hl 0 rfl) ?_
            refine lv_iconst (pc := 122) (v := (4 : Int32)) hx hb dX11_make_122 (by decide) ?_
            refine lv_icmp_lt (pc := 123) (tgt := 163) hx hb dX11_make_123 (by decide) (fun hc => ?_) (fun hc => ?_)
            · have hf := br_y hc hf
              exact hJ163 w0 v3 v2 v1 hf H locs hP hD hS ls (lv_sub hl [2, 3, 4, 5] rfl)
            · have hf := br_n hc hf
              refine lv_iload_n (pc := 126) hx hb dX11_make_126 rfl (lv_at hl 4 rfl) ?_
              refine lv_bipush (pc := 127) (v := (12 : Int32)) hx hb dX11_make_127 (by decide) ?_
              refine lv_icmp_ge (pc := 129) (tgt := 163) hx hb dX11_make_129 (by decide) (fun hc => ?_) (fun hc => ?_)
              · have hf := br_y hc hf
                exact hJ163 w0 v3 v2 v1 hf H locs hP hD hS ls (lv_sub hl [2, 3, 4, 5] rfl)
              · have hf := br_n hc hf
                refine lv_aload_n (pc := 132) hx hb dX11_make_132 rfl (lv_at hl 5 rfl) ?_
                refine lv_iload_n (pc := 133) hx hb dX11_make_133 rfl (lv_at hl 2 rfl) ?_
                refine lv_iload_n (pc := 134) hx hb dX11_make_134 rfl (lv_at hl 3 rfl) ?_
                refine lv_isub (pc := 135) hx hb dX11_make_135 ?_
                refine lv_iload_n (pc := 136) hx hb dX11_make_136 rfl (lv_at hl 3 rfl) ?_
                obtain ⟨x10, hcx10, hf⟩ := bn_some hf
                refine g_callV (pc := 137) (ws' := [(hw0_0, .inr (8, [.ref hw0_1, .ref hw0_2, .int x10.2.2.1, .int x10.2.2.2.1, .ref hw0_3, .ref hw0_4, .int x10.2.2.2.2.2.2.1, .int x10.2.2.2.2.2.2.2.1, .int x10.2.2.2.2.2.2.2.2.1, .ref hw0_5, .ref hw0_6, .ref hw0_7, .int x10.2.2.2.2.2.2.2.2.2.2.2.2.1, .ref hw0_8])), (hw0_1, .inl (G.2.1, 617, .inl x10.1)), (hw0_2, .inl (G.2.1, 2468, .inl x10.2.1)), (hw0_3, .inl (G.2.1, 30, .inl x10.2.2.2.2.1)), (hw0_4, .inl (G.2.1, 4000, .inl x10.2.2.2.2.2.1)), (hw0_5, .inl (G.2.1, 120, .inl x10.2.2.2.2.2.2.2.2.2.1)), (hw0_6, .inl (G.2.1, 64, .inl x10.2.2.2.2.2.2.2.2.2.2.1)), (hw0_7, .inl (G.2.2.1, 64, .inl x10.2.2.2.2.2.2.2.2.2.2.2.1)), (hw0_8, .inl (G.2.1, 64, .inl x10.2.2.2.2.2.2.2.2.2.2.2.2.2))]) (rest := []) hx hb hml hown hts hK (c_X11_adds l G hw0_0 hw0_1 hw0_2 hw0_3 hw0_4 hw0_5 hw0_6 hw0_7 hw0_8 w0 (v3 - v2) v2 hcx10) wd_989 wd_10 wd_986 wd_988 ws_19 hd_X11_adds ⟨rfl, rfl, Nat.le_of_ble_eq_true rfl, Nat.le_of_ble_eq_true rfl⟩ hP hD hS hA [0, 1, 2, 3, 4, 5, 6, 7, 8] rfl rfl rfl rfl 8 0 rfl rfl rfl rfl hl.1 rfl (Nat.le_of_ble_eq_true rfl) dX11_make_137 ⟨Nat.zero_le _, Nat.zero_le _⟩ (fun H locs hP hD hS => ?_)
                refine lv_iconst (pc := 140) (v := (0 : Int32)) hx hb dX11_make_140 (by decide) ?_
                refine lv_istore_n (pc := 141) (lv' := [(2, .int (0 : Int32)), (5, .int x8), (4, .int v4), (3, .int v3), (1, .int v1), (0, .ref hw0_0)]) hx hb dX11_make_141 rfl hl (by decide) rfl (fun ls hl => ?_)
                refine lv_aload_n (pc := 142) hx hb dX11_make_142 rfl (lv_at hl 5 rfl) ?_
                refine lv_iconst (pc := 143) (v := (1 : Int32)) hx hb dX11_make_143 (by decide) ?_
                refine lv_iload (pc := 144) hx hb dX11_make_144 (lv_at hl 2 rfl) ?_
                refine lv_iload_n (pc := 146) hx hb dX11_make_146 rfl (lv_at hl 3 rfl) ?_
                refine lv_iload (pc := 147) hx hb dX11_make_147 (lv_at hl 1 rfl) ?_
                obtain ⟨x11, hcx11, hf⟩ := bn_some hf
                refine g_callV (pc := 149) (ws' := [(hw0_0, .inr (8, [.ref hw0_1, .ref hw0_2, .int x11.2.2.1, .int x11.2.2.2.1, .ref hw0_3, .ref hw0_4, .int x11.2.2.2.2.2.2.1, .int x11.2.2.2.2.2.2.2.1, .int x11.2.2.2.2.2.2.2.2.1, .ref hw0_5, .ref hw0_6, .ref hw0_7, .int x11.2.2.2.2.2.2.2.2.2.2.2.2.1, .ref hw0_8])), (hw0_1, .inl (G.2.1, 617, .inl x11.1)), (hw0_2, .inl (G.2.1, 2468, .inl x11.2.1)), (hw0_3, .inl (G.2.1, 30, .inl x11.2.2.2.2.1)), (hw0_4, .inl (G.2.1, 4000, .inl x11.2.2.2.2.2.1)), (hw0_5, .inl (G.2.1, 120, .inl x11.2.2.2.2.2.2.2.2.2.1)), (hw0_6, .inl (G.2.1, 64, .inl x11.2.2.2.2.2.2.2.2.2.2.1)), (hw0_7, .inl (G.2.2.1, 64, .inl x11.2.2.2.2.2.2.2.2.2.2.2.1)), (hw0_8, .inl (G.2.1, 64, .inl x11.2.2.2.2.2.2.2.2.2.2.2.2.2))]) (rest := []) hx hb hml hown hts hK (c_X11_appends l G hw0_0 hw0_1 hw0_2 hw0_3 hw0_4 hw0_5 hw0_6 hw0_7 hw0_8 x10 (1 : Int32) v4 v3 x8 hcx11) wd_993 wd_10 wd_990 wd_992 ws_20 hd_X11_appends ⟨rfl, rfl, Nat.le_of_ble_eq_true rfl, Nat.le_of_ble_eq_true rfl⟩ hP hD hS hA [0, 1, 2, 3, 4, 5, 6, 7, 8] rfl rfl rfl rfl 8 0 rfl rfl rfl rfl hl.1 rfl (Nat.le_of_ble_eq_true rfl) dX11_make_149 ⟨Nat.zero_le _, Nat.zero_le _⟩ (fun H locs hP hD hS => ?_)
                refine lv_iinc (pc := 152) (v := (v1 + (1 : Int32))) (lv' := [(1, .int (v1 + (1 : Int32))), (2, .int (0 : Int32)), (5, .int x8), (4, .int v4), (3, .int v3), (0, .ref hw0_0)]) hx hb dX11_make_152 hl (k := 4) rfl rfl (by decide) rfl (fun ls hl => ?_)
                refine lv_iload_n (pc := 155) hx hb dX11_make_155 rfl (lv_at hl 4 rfl) ?_
                refine lv_iload (pc := 156) hx hb dX11_make_156 (lv_at hl 2 rfl) ?_
                refine lv_iadd (pc := 158) hx hb dX11_make_158 ?_
                refine lv_istore_n (pc := 159) (lv' := [(3, .int (v3 + x8)), (1, .int (v1 + (1 : Int32))), (2, .int (0 : Int32)), (5, .int x8), (4, .int v4), (0, .ref hw0_0)]) hx hb dX11_make_159 rfl hl (by decide) rfl (fun ls hl => ?_)
                refine lv_goto (pc := 160) (tgt := 185) hx hb dX11_make_160 (by decide) ?_
                exact hJ185 x11 (v3 + x8) (0 : Int32) (v1 + (1 : Int32)) hf H locs hP hD hS ls (lv_sub hl [0, 2, 1, 5] rfl)
          · have hf := br_n hc hf
            refine lv_aload_n (pc := 79) hx hb dX11_make_79 rfl (lv_at hl 5 rfl) ?_
            refine lv_iload (pc := 80) hx hb dX11_make_80 (lv_at hl 0 rfl) ?_
            refine lv_iload_n (pc := 82) hx hb dX11_make_82 rfl (lv_at hl 2 rfl) ?_
            obtain ⟨x12, hcx12, hf⟩ := bn_some hf
            refine g_callV0 (pc := 83) (rest := []) hx hb hml hown hts hK (c_X11_matchLong l G hw0_0 hw0_1 hw0_2 hw0_3 hw0_4 hw0_5 hw0_6 hw0_7 hw0_8 w0 v5 v3 hcx12) wd_985 wd_10 wd_982 wd_984 ws_18 hd_X11_matchLong ⟨rfl, rfl, Nat.le_of_ble_eq_true rfl, Nat.le_of_ble_eq_true rfl⟩ hP hD hS hA [0, 1, 2, 3, 4, 5, 6, 7, 8] rfl rfl 8 0 rfl rfl rfl rfl hl.1 rfl (Nat.le_of_ble_eq_true rfl) dX11_make_83 ⟨Nat.zero_le _, Nat.zero_le _⟩ (fun H locs hP hS => ?_)
            refine lv_aload_n (pc := 86) hx hb dX11_make_86 rfl (lv_at hl 5 rfl) ?_
            refine lv_iload (pc := 87) hx hb dX11_make_87 (lv_at hl 1 rfl) ?_
            refine lv_iload_n (pc := 89) hx hb dX11_make_89 rfl (lv_at hl 2 rfl) ?_
            obtain ⟨x13, hcx13, hf⟩ := bn_some hf
            refine g_callV0 (pc := 90) (rest := [.int x12]) hx hb hml hown hts hK (c_X11_matchLong l G hw0_0 hw0_1 hw0_2 hw0_3 hw0_4 hw0_5 hw0_6 hw0_7 hw0_8 w0 v4 v3 hcx13) wd_985 wd_10 wd_982 wd_984 ws_18 hd_X11_matchLong ⟨rfl, rfl, Nat.le_of_ble_eq_true rfl, Nat.le_of_ble_eq_true rfl⟩ hP hD hS hA [0, 1, 2, 3, 4, 5, 6, 7, 8] rfl rfl 8 0 rfl rfl rfl rfl hl.1 rfl (Nat.le_of_ble_eq_true rfl) dX11_make_90 ⟨Nat.zero_le _, Nat.zero_le _⟩ (fun H locs hP hS => ?_)
            refine lv_icmp_le (pc := 93) (tgt := 101) hx hb dX11_make_93 (by decide) (fun hc => ?_) (fun hc => ?_)
            · have hf := br_y hc hf
              refine lv_iload (pc := 101) hx hb dX11_make_101 (lv_at hl 1 rfl) ?_
              exact hJ103 w0 v5 v3 v2 v1 v4 hf H locs hP hD hS ls (lv_sub hl [0, 2, 3, 4, 5] rfl)
            · have hf := br_n hc hf
              refine lv_iload (pc := 96) hx hb dX11_make_96 (lv_at hl 0 rfl) ?_
              refine lv_goto (pc := 98) (tgt := 103) hx hb dX11_make_98 (by decide) ?_
              exact hJ103 w0 v5 v3 v2 v1 v5 hf H locs hP hD hS ls (lv_sub hl [0, 2, 3, 4, 5] rfl)
      intro w0 v3 v2 v1 hf H locs hP hD hS ls hl
      rw [f_X11_make_L54.eq_2] at hf
      refine lv_iload_n (pc := 54) hx hb dX11_make_54 rfl (lv_at hl 0 rfl) ?_
      refine lv_aload_n (pc := 55) hx hb dX11_make_55 rfl (lv_at hl 3 rfl) ?_
      refine lv_iconst (pc := 56) (v := (1 : Int32)) hx hb dX11_make_56 (by decide) ?_
      obtain ⟨x5, hcx5, hf⟩ := bn_some hf
      refine g_callV0 (pc := 57) (rest := [.int v3]) hx hb hml hown hts hK (c_X11_longOf l G hw0_0 hw0_1 hw0_2 hw0_3 hw0_4 hw0_5 hw0_6 hw0_7 hw0_8 w0 (1 : Int32) hcx5) wd_945 wd_10 wd_942 wd_944 ws_12 hd_X11_longOf ⟨rfl, rfl, Nat.le_of_ble_eq_true rfl, Nat.le_of_ble_eq_true rfl⟩ hP hD hS hA [0, 1, 2, 3, 4, 5, 6, 7, 8] rfl rfl 8 0 rfl rfl rfl rfl hl.1 rfl (Nat.le_of_ble_eq_true rfl) dX11_make_57 ⟨Nat.zero_le _, Nat.zero_le _⟩ (fun H locs hP hS => ?_)
      refine lv_icmp_ge (pc := 60) (tgt := 188) hx hb dX11_make_60 (by decide) (fun hc => ?_) (fun hc => ?_)
      · have hf := br_y hc hf
        refine lv_aload_n (pc := 188) hx hb dX11_make_188 rfl (lv_at hl 3 rfl) ?_
        refine lv_iload_n (pc := 189) hx hb dX11_make_189 rfl (lv_at hl 0 rfl) ?_
        refine lv_iload_n (pc := 190) hx hb dX11_make_190 rfl (lv_at hl 1 rfl) ?_
        refine lv_isub (pc := 191) hx hb dX11_make_191 ?_
        refine lv_iload_n (pc := 192) hx hb dX11_make_192 rfl (lv_at hl 1 rfl) ?_
        obtain ⟨x6, hcx6, hf⟩ := bn_some hf
        refine g_callV (pc := 193) (ws' := [(hw0_0, .inr (8, [.ref hw0_1, .ref hw0_2, .int x6.2.2.1, .int x6.2.2.2.1, .ref hw0_3, .ref hw0_4, .int x6.2.2.2.2.2.2.1, .int x6.2.2.2.2.2.2.2.1, .int x6.2.2.2.2.2.2.2.2.1, .ref hw0_5, .ref hw0_6, .ref hw0_7, .int x6.2.2.2.2.2.2.2.2.2.2.2.2.1, .ref hw0_8])), (hw0_1, .inl (G.2.1, 617, .inl x6.1)), (hw0_2, .inl (G.2.1, 2468, .inl x6.2.1)), (hw0_3, .inl (G.2.1, 30, .inl x6.2.2.2.2.1)), (hw0_4, .inl (G.2.1, 4000, .inl x6.2.2.2.2.2.1)), (hw0_5, .inl (G.2.1, 120, .inl x6.2.2.2.2.2.2.2.2.2.1)), (hw0_6, .inl (G.2.1, 64, .inl x6.2.2.2.2.2.2.2.2.2.2.1)), (hw0_7, .inl (G.2.2.1, 64, .inl x6.2.2.2.2.2.2.2.2.2.2.2.1)), (hw0_8, .inl (G.2.1, 64, .inl x6.2.2.2.2.2.2.2.2.2.2.2.2.2))]) (rest := []) hx hb hml hown hts hK (c_X11_adds l G hw0_0 hw0_1 hw0_2 hw0_3 hw0_4 hw0_5 hw0_6 hw0_7 hw0_8 w0 (v3 - v2) v2 hcx6) wd_989 wd_10 wd_986 wd_988 ws_19 hd_X11_adds ⟨rfl, rfl, Nat.le_of_ble_eq_true rfl, Nat.le_of_ble_eq_true rfl⟩ hP hD hS hA [0, 1, 2, 3, 4, 5, 6, 7, 8] rfl rfl rfl rfl 8 0 rfl rfl rfl rfl hl.1 rfl (Nat.le_of_ble_eq_true rfl) dX11_make_193 ⟨Nat.zero_le _, Nat.zero_le _⟩ (fun H locs hP hD hS => ?_)
        refine lv_aload_n (pc := 196) hx hb dX11_make_196 rfl (lv_at hl 3 rfl) ?_
        refine va_get (pc := 197) (D := G.1) (ci := 8) (v := .ref hw0_1) (C := RX11) (T := TX11) (N := 14) hx hb hts inX11 hown hK.1 hP 0 rfl rfl 0 (by decide) (hts _ wd_880) (fun _ h9 => h9) rfl dX11_make_197 ?_
        refine lv_sipush (pc := 200) (v := (132 : Int32)) hx hb dX11_make_200 (by decide) ?_
        obtain ⟨hg, hf⟩ := gd_some hf
        refine va_iald (pc := 203) hx hb hK.1 hP 1 0 rfl rfl hg dX11_make_203 ?_
        have hf := Option.some.inj hf; subst hf
        rw [← hQ]
        exact g_iret hx hb hr hlocks hP hS dX11_make_204
      · have hf := br_n hc hf
        refine lv_iconst (pc := 63) (v := (0 : Int32)) hx hb dX11_make_63 (by decide) ?_
        refine lv_istore (pc := 64) (lv' := [(4, .int (0 : Int32)), (3, .int v3), (2, .int v2), (1, .int v1), (0, .ref hw0_0)]) hx hb dX11_make_64 hl (by decide) rfl (fun ls hl => ?_)
        refine lv_iconst (pc := 66) (v := (1 : Int32)) hx hb dX11_make_66 (by decide) ?_
        refine lv_istore (pc := 67) (lv' := [(5, .int (1 : Int32)), (4, .int (0 : Int32)), (3, .int v3), (2, .int v2), (1, .int v1), (0, .ref hw0_0)]) hx hb dX11_make_67 hl (by decide) rfl (fun ls hl => ?_)
        exact hL69 FUEL w0 (1 : Int32) (0 : Int32) v3 v2 v1 hf H locs hP hD hS ls (lv_sub hl [0, 1, 2, 3, 4, 5] rfl)
  refine lv_aload_n (pc := 0) hx hb dX11_make_0 rfl (lv_at hl 0 rfl) ?_
  refine lv_iconst (pc := 1) (v := (0 : Int32)) hx hb dX11_make_1 (by decide) ?_
  refine va_put (pc := 2) (D := G.1) (ci := 8) (v := .int (0 : Int32)) (ty := .int) (C := RX11) (T := TX11) (N := 14) hx hb hts inX11 tyX11 tyX11_ok nmX11 hown hK.1 hP hD hS 0 rfl rfl 3 (by decide) (hts _ wd_883) (fun _ h9 => h9) rfl (by decide +kernel) rfl rfl (Nat.le_of_ble_eq_true rfl) dX11_make_2 (fun H locs hP hD hS => ?_)
  have hP : va_P G.1 vwCl [(hw0_0, .inr (8, [.ref hw0_1, .ref hw0_2, .int w0.2.2.1, .int (0 : Int32), .ref hw0_3, .ref hw0_4, .int w0.2.2.2.2.2.2.1, .int w0.2.2.2.2.2.2.2.1, .int w0.2.2.2.2.2.2.2.2.1, .ref hw0_5, .ref hw0_6, .ref hw0_7, .int w0.2.2.2.2.2.2.2.2.2.2.2.2.1, .ref hw0_8])), (hw0_1, .inl (G.2.1, 617, .inl w0.1)), (hw0_2, .inl (G.2.1, 2468, .inl w0.2.1)), (hw0_3, .inl (G.2.1, 30, .inl w0.2.2.2.2.1)), (hw0_4, .inl (G.2.1, 4000, .inl w0.2.2.2.2.2.1)), (hw0_5, .inl (G.2.1, 120, .inl w0.2.2.2.2.2.2.2.2.2.1)), (hw0_6, .inl (G.2.1, 64, .inl w0.2.2.2.2.2.2.2.2.2.2.1)), (hw0_7, .inl (G.2.2.1, 64, .inl w0.2.2.2.2.2.2.2.2.2.2.2.1)), (hw0_8, .inl (G.2.1, 64, .inl w0.2.2.2.2.2.2.2.2.2.2.2.2.2))] H := hP
  have hD : va_D A [(hw0_0, .inr (8, [.ref hw0_1, .ref hw0_2, .int w0.2.2.1, .int (0 : Int32), .ref hw0_3, .ref hw0_4, .int w0.2.2.2.2.2.2.1, .int w0.2.2.2.2.2.2.2.1, .int w0.2.2.2.2.2.2.2.2.1, .ref hw0_5, .ref hw0_6, .ref hw0_7, .int w0.2.2.2.2.2.2.2.2.2.2.2.2.1, .ref hw0_8])), (hw0_1, .inl (G.2.1, 617, .inl w0.1)), (hw0_2, .inl (G.2.1, 2468, .inl w0.2.1)), (hw0_3, .inl (G.2.1, 30, .inl w0.2.2.2.2.1)), (hw0_4, .inl (G.2.1, 4000, .inl w0.2.2.2.2.2.1)), (hw0_5, .inl (G.2.1, 120, .inl w0.2.2.2.2.2.2.2.2.2.1)), (hw0_6, .inl (G.2.1, 64, .inl w0.2.2.2.2.2.2.2.2.2.2.1)), (hw0_7, .inl (G.2.2.1, 64, .inl w0.2.2.2.2.2.2.2.2.2.2.2.1)), (hw0_8, .inl (G.2.1, 64, .inl w0.2.2.2.2.2.2.2.2.2.2.2.2.2))] := hD
  refine lv_aload_n (pc := 5) hx hb dX11_make_5 rfl (lv_at hl 0 rfl) ?_
  obtain ⟨x1, hcx1, hf⟩ := bn_some hf
  refine g_callV (pc := 6) (ws' := [(hw0_0, .inr (8, [.ref hw0_1, .ref hw0_2, .int x1.2.2.1, .int x1.2.2.2.1, .ref hw0_3, .ref hw0_4, .int x1.2.2.2.2.2.2.1, .int x1.2.2.2.2.2.2.2.1, .int x1.2.2.2.2.2.2.2.2.1, .ref hw0_5, .ref hw0_6, .ref hw0_7, .int x1.2.2.2.2.2.2.2.2.2.2.2.2.1, .ref hw0_8])), (hw0_1, .inl (G.2.1, 617, .inl x1.1)), (hw0_2, .inl (G.2.1, 2468, .inl x1.2.1)), (hw0_3, .inl (G.2.1, 30, .inl x1.2.2.2.2.1)), (hw0_4, .inl (G.2.1, 4000, .inl x1.2.2.2.2.2.1)), (hw0_5, .inl (G.2.1, 120, .inl x1.2.2.2.2.2.2.2.2.2.1)), (hw0_6, .inl (G.2.1, 64, .inl x1.2.2.2.2.2.2.2.2.2.2.1)), (hw0_7, .inl (G.2.2.1, 64, .inl x1.2.2.2.2.2.2.2.2.2.2.2.1)), (hw0_8, .inl (G.2.1, 64, .inl x1.2.2.2.2.2.2.2.2.2.2.2.2.2))]) (rest := []) hx hb hml hown hts hK (c_X11_save l G hw0_0 hw0_1 hw0_2 hw0_3 hw0_4 hw0_5 hw0_6 hw0_7 hw0_8 (w0.1, w0.2.1, w0.2.2.1, (0 : Int32), w0.2.2.2.2.1, w0.2.2.2.2.2.1, w0.2.2.2.2.2.2.1, w0.2.2.2.2.2.2.2.1, w0.2.2.2.2.2.2.2.2.1, w0.2.2.2.2.2.2.2.2.2.1, w0.2.2.2.2.2.2.2.2.2.2.1, w0.2.2.2.2.2.2.2.2.2.2.2.1, w0.2.2.2.2.2.2.2.2.2.2.2.2.1, w0.2.2.2.2.2.2.2.2.2.2.2.2.2) hcx1) wd_953 wd_10 wd_950 wd_952 ws_14 hd_X11_save ⟨rfl, rfl, Nat.le_of_ble_eq_true rfl, Nat.le_of_ble_eq_true rfl⟩ hP hD hS hA [0, 1, 2, 3, 4, 5, 6, 7, 8] rfl rfl rfl rfl 8 0 rfl rfl rfl rfl hl.1 rfl (Nat.le_of_ble_eq_true rfl) dX11_make_6 ⟨Nat.zero_le _, Nat.zero_le _⟩ (fun H locs hP hD hS => ?_)
  refine lv_aload_n (pc := 9) hx hb dX11_make_9 rfl (lv_at hl 0 rfl) ?_
  obtain ⟨x2, hcx2, hf⟩ := bn_some hf
  refine g_callV (pc := 10) (ws' := [(hw0_0, .inr (8, [.ref hw0_1, .ref hw0_2, .int x2.2.2.1, .int x2.2.2.2.1, .ref hw0_3, .ref hw0_4, .int x2.2.2.2.2.2.2.1, .int x2.2.2.2.2.2.2.2.1, .int x2.2.2.2.2.2.2.2.2.1, .ref hw0_5, .ref hw0_6, .ref hw0_7, .int x2.2.2.2.2.2.2.2.2.2.2.2.2.1, .ref hw0_8])), (hw0_1, .inl (G.2.1, 617, .inl x2.1)), (hw0_2, .inl (G.2.1, 2468, .inl x2.2.1)), (hw0_3, .inl (G.2.1, 30, .inl x2.2.2.2.2.1)), (hw0_4, .inl (G.2.1, 4000, .inl x2.2.2.2.2.2.1)), (hw0_5, .inl (G.2.1, 120, .inl x2.2.2.2.2.2.2.2.2.2.1)), (hw0_6, .inl (G.2.1, 64, .inl x2.2.2.2.2.2.2.2.2.2.2.1)), (hw0_7, .inl (G.2.2.1, 64, .inl x2.2.2.2.2.2.2.2.2.2.2.2.1)), (hw0_8, .inl (G.2.1, 64, .inl x2.2.2.2.2.2.2.2.2.2.2.2.2.2))]) (rest := []) hx hb hml hown hts hK (c_X11_dropsPlan l G hw0_0 hw0_1 hw0_2 hw0_3 hw0_4 hw0_5 hw0_6 hw0_7 hw0_8 x1 hcx2) wd_957 wd_10 wd_954 wd_956 ws_15 hd_X11_dropsPlan ⟨rfl, rfl, Nat.le_of_ble_eq_true rfl, Nat.le_of_ble_eq_true rfl⟩ hP hD hS hA [0, 1, 2, 3, 4, 5, 6, 7, 8] rfl rfl rfl rfl 8 0 rfl rfl rfl rfl hl.1 rfl (Nat.le_of_ble_eq_true rfl) dX11_make_10 ⟨Nat.zero_le _, Nat.zero_le _⟩ (fun H locs hP hD hS => ?_)
  refine lv_aload_n (pc := 13) hx hb dX11_make_13 rfl (lv_at hl 0 rfl) ?_
  refine va_get (pc := 14) (D := G.1) (ci := 8) (v := .ref hw0_1) (C := RX11) (T := TX11) (N := 14) hx hb hts inX11 hown hK.1 hP 0 rfl rfl 0 (by decide) (hts _ wd_880) (fun _ h9 => h9) rfl dX11_make_14 ?_
  refine lv_sipush (pc := 17) (v := (132 : Int32)) hx hb dX11_make_17 (by decide) ?_
  refine lv_iconst (pc := 20) (v := (0 : Int32)) hx hb dX11_make_20 (by decide) ?_
  obtain ⟨hg, hf⟩ := gd_some hf
  refine va_iast (pc := 21) hx hb hK.1 hP hD hS 1 0 rfl rfl hg dX11_make_21 (fun H locs hP hD hS => ?_)
  have hP : va_P G.1 vwCl [(hw0_0, .inr (8, [.ref hw0_1, .ref hw0_2, .int x2.2.2.1, .int x2.2.2.2.1, .ref hw0_3, .ref hw0_4, .int x2.2.2.2.2.2.2.1, .int x2.2.2.2.2.2.2.2.1, .int x2.2.2.2.2.2.2.2.2.1, .ref hw0_5, .ref hw0_6, .ref hw0_7, .int x2.2.2.2.2.2.2.2.2.2.2.2.2.1, .ref hw0_8])), (hw0_1, .inl (G.2.1, 617, .inl (upd x2.1 (132 : Int32).toNatClampNeg (0 : Int32)))), (hw0_2, .inl (G.2.1, 2468, .inl x2.2.1)), (hw0_3, .inl (G.2.1, 30, .inl x2.2.2.2.2.1)), (hw0_4, .inl (G.2.1, 4000, .inl x2.2.2.2.2.2.1)), (hw0_5, .inl (G.2.1, 120, .inl x2.2.2.2.2.2.2.2.2.2.1)), (hw0_6, .inl (G.2.1, 64, .inl x2.2.2.2.2.2.2.2.2.2.2.1)), (hw0_7, .inl (G.2.2.1, 64, .inl x2.2.2.2.2.2.2.2.2.2.2.2.1)), (hw0_8, .inl (G.2.1, 64, .inl x2.2.2.2.2.2.2.2.2.2.2.2.2.2))] H := hP
  have hD : va_D A [(hw0_0, .inr (8, [.ref hw0_1, .ref hw0_2, .int x2.2.2.1, .int x2.2.2.2.1, .ref hw0_3, .ref hw0_4, .int x2.2.2.2.2.2.2.1, .int x2.2.2.2.2.2.2.2.1, .int x2.2.2.2.2.2.2.2.2.1, .ref hw0_5, .ref hw0_6, .ref hw0_7, .int x2.2.2.2.2.2.2.2.2.2.2.2.2.1, .ref hw0_8])), (hw0_1, .inl (G.2.1, 617, .inl (upd x2.1 (132 : Int32).toNatClampNeg (0 : Int32)))), (hw0_2, .inl (G.2.1, 2468, .inl x2.2.1)), (hw0_3, .inl (G.2.1, 30, .inl x2.2.2.2.2.1)), (hw0_4, .inl (G.2.1, 4000, .inl x2.2.2.2.2.2.1)), (hw0_5, .inl (G.2.1, 120, .inl x2.2.2.2.2.2.2.2.2.2.1)), (hw0_6, .inl (G.2.1, 64, .inl x2.2.2.2.2.2.2.2.2.2.2.1)), (hw0_7, .inl (G.2.2.1, 64, .inl x2.2.2.2.2.2.2.2.2.2.2.2.1)), (hw0_8, .inl (G.2.1, 64, .inl x2.2.2.2.2.2.2.2.2.2.2.2.2.2))] := hD
  refine lv_aload_n (pc := 22) hx hb dX11_make_22 rfl (lv_at hl 0 rfl) ?_
  refine va_get (pc := 23) (D := G.1) (ci := 8) (v := .ref hw0_1) (C := RX11) (T := TX11) (N := 14) hx hb hts inX11 hown hK.1 hP 0 rfl rfl 0 (by decide) (hts _ wd_880) (fun _ h9 => h9) rfl dX11_make_23 ?_
  refine lv_sipush (pc := 26) (v := (130 : Int32)) hx hb dX11_make_26 (by decide) ?_
  refine lv_aload_n (pc := 29) hx hb dX11_make_29 rfl (lv_at hl 0 rfl) ?_
  refine lv_iconst (pc := 30) (v := (0 : Int32)) hx hb dX11_make_30 (by decide) ?_
  obtain ⟨x3, hcx3, hf⟩ := bn_some hf
  refine g_callV0 (pc := 31) (rest := [.int (130 : Int32), .ref hw0_1]) hx hb hml hown hts hK (c_X11_longOf l G hw0_0 hw0_1 hw0_2 hw0_3 hw0_4 hw0_5 hw0_6 hw0_7 hw0_8 ((upd x2.1 (132 : Int32).toNatClampNeg (0 : Int32)), x2.2.1, x2.2.2.1, x2.2.2.2.1, x2.2.2.2.2.1, x2.2.2.2.2.2.1, x2.2.2.2.2.2.2.1, x2.2.2.2.2.2.2.2.1, x2.2.2.2.2.2.2.2.2.1, x2.2.2.2.2.2.2.2.2.2.1, x2.2.2.2.2.2.2.2.2.2.2.1, x2.2.2.2.2.2.2.2.2.2.2.2.1, x2.2.2.2.2.2.2.2.2.2.2.2.2.1, x2.2.2.2.2.2.2.2.2.2.2.2.2.2) (0 : Int32) hcx3) wd_945 wd_10 wd_942 wd_944 ws_12 hd_X11_longOf ⟨rfl, rfl, Nat.le_of_ble_eq_true rfl, Nat.le_of_ble_eq_true rfl⟩ hP hD hS hA [0, 1, 2, 3, 4, 5, 6, 7, 8] rfl rfl 8 0 rfl rfl rfl rfl hl.1 rfl (Nat.le_of_ble_eq_true rfl) dX11_make_31 ⟨Nat.zero_le _, Nat.zero_le _⟩ (fun H locs hP hS => ?_)
  obtain ⟨hg, hf⟩ := gd_some hf
  refine va_iast (pc := 34) hx hb hK.1 hP hD hS 1 0 rfl rfl hg dX11_make_34 (fun H locs hP hD hS => ?_)
  have hP : va_P G.1 vwCl [(hw0_0, .inr (8, [.ref hw0_1, .ref hw0_2, .int x2.2.2.1, .int x2.2.2.2.1, .ref hw0_3, .ref hw0_4, .int x2.2.2.2.2.2.2.1, .int x2.2.2.2.2.2.2.2.1, .int x2.2.2.2.2.2.2.2.2.1, .ref hw0_5, .ref hw0_6, .ref hw0_7, .int x2.2.2.2.2.2.2.2.2.2.2.2.2.1, .ref hw0_8])), (hw0_1, .inl (G.2.1, 617, .inl (upd (upd x2.1 (132 : Int32).toNatClampNeg (0 : Int32)) (130 : Int32).toNatClampNeg x3))), (hw0_2, .inl (G.2.1, 2468, .inl x2.2.1)), (hw0_3, .inl (G.2.1, 30, .inl x2.2.2.2.2.1)), (hw0_4, .inl (G.2.1, 4000, .inl x2.2.2.2.2.2.1)), (hw0_5, .inl (G.2.1, 120, .inl x2.2.2.2.2.2.2.2.2.2.1)), (hw0_6, .inl (G.2.1, 64, .inl x2.2.2.2.2.2.2.2.2.2.2.1)), (hw0_7, .inl (G.2.2.1, 64, .inl x2.2.2.2.2.2.2.2.2.2.2.2.1)), (hw0_8, .inl (G.2.1, 64, .inl x2.2.2.2.2.2.2.2.2.2.2.2.2.2))] H := hP
  have hD : va_D A [(hw0_0, .inr (8, [.ref hw0_1, .ref hw0_2, .int x2.2.2.1, .int x2.2.2.2.1, .ref hw0_3, .ref hw0_4, .int x2.2.2.2.2.2.2.1, .int x2.2.2.2.2.2.2.2.1, .int x2.2.2.2.2.2.2.2.2.1, .ref hw0_5, .ref hw0_6, .ref hw0_7, .int x2.2.2.2.2.2.2.2.2.2.2.2.2.1, .ref hw0_8])), (hw0_1, .inl (G.2.1, 617, .inl (upd (upd x2.1 (132 : Int32).toNatClampNeg (0 : Int32)) (130 : Int32).toNatClampNeg x3))), (hw0_2, .inl (G.2.1, 2468, .inl x2.2.1)), (hw0_3, .inl (G.2.1, 30, .inl x2.2.2.2.2.1)), (hw0_4, .inl (G.2.1, 4000, .inl x2.2.2.2.2.2.1)), (hw0_5, .inl (G.2.1, 120, .inl x2.2.2.2.2.2.2.2.2.2.1)), (hw0_6, .inl (G.2.1, 64, .inl x2.2.2.2.2.2.2.2.2.2.2.1)), (hw0_7, .inl (G.2.2.1, 64, .inl x2.2.2.2.2.2.2.2.2.2.2.2.1)), (hw0_8, .inl (G.2.1, 64, .inl x2.2.2.2.2.2.2.2.2.2.2.2.2.2))] := hD
  refine lv_aload_n (pc := 35) hx hb dX11_make_35 rfl (lv_at hl 0 rfl) ?_
  refine va_get (pc := 36) (D := G.1) (ci := 8) (v := .ref hw0_1) (C := RX11) (T := TX11) (N := 14) hx hb hts inX11 hown hK.1 hP 0 rfl rfl 0 (by decide) (hts _ wd_880) (fun _ h9 => h9) rfl dX11_make_36 ?_
  refine lv_sipush (pc := 39) (v := (131 : Int32)) hx hb dX11_make_39 (by decide) ?_
  refine lv_aload_n (pc := 42) hx hb dX11_make_42 rfl (lv_at hl 0 rfl) ?_
  refine lv_iconst (pc := 43) (v := (1 : Int32)) hx hb dX11_make_43 (by decide) ?_
  obtain ⟨x4, hcx4, hf⟩ := bn_some hf
  refine g_callV0 (pc := 44) (rest := [.int (131 : Int32), .ref hw0_1]) hx hb hml hown hts hK (c_X11_longOf l G hw0_0 hw0_1 hw0_2 hw0_3 hw0_4 hw0_5 hw0_6 hw0_7 hw0_8 ((upd (upd x2.1 (132 : Int32).toNatClampNeg (0 : Int32)) (130 : Int32).toNatClampNeg x3), x2.2.1, x2.2.2.1, x2.2.2.2.1, x2.2.2.2.2.1, x2.2.2.2.2.2.1, x2.2.2.2.2.2.2.1, x2.2.2.2.2.2.2.2.1, x2.2.2.2.2.2.2.2.2.1, x2.2.2.2.2.2.2.2.2.2.1, x2.2.2.2.2.2.2.2.2.2.2.1, x2.2.2.2.2.2.2.2.2.2.2.2.1, x2.2.2.2.2.2.2.2.2.2.2.2.2.1, x2.2.2.2.2.2.2.2.2.2.2.2.2.2) (1 : Int32) hcx4) wd_945 wd_10 wd_942 wd_944 ws_12 hd_X11_longOf ⟨rfl, rfl, Nat.le_of_ble_eq_true rfl, Nat.le_of_ble_eq_true rfl⟩ hP hD hS hA [0, 1, 2, 3, 4, 5, 6, 7, 8] rfl rfl 8 0 rfl rfl rfl rfl hl.1 rfl (Nat.le_of_ble_eq_true rfl) dX11_make_44 ⟨Nat.zero_le _, Nat.zero_le _⟩ (fun H locs hP hS => ?_)
  obtain ⟨hg, hf⟩ := gd_some hf
  refine va_iast (pc := 47) hx hb hK.1 hP hD hS 1 0 rfl rfl hg dX11_make_47 (fun H locs hP hD hS => ?_)
  have hP : va_P G.1 vwCl [(hw0_0, .inr (8, [.ref hw0_1, .ref hw0_2, .int x2.2.2.1, .int x2.2.2.2.1, .ref hw0_3, .ref hw0_4, .int x2.2.2.2.2.2.2.1, .int x2.2.2.2.2.2.2.2.1, .int x2.2.2.2.2.2.2.2.2.1, .ref hw0_5, .ref hw0_6, .ref hw0_7, .int x2.2.2.2.2.2.2.2.2.2.2.2.2.1, .ref hw0_8])), (hw0_1, .inl (G.2.1, 617, .inl (upd (upd (upd x2.1 (132 : Int32).toNatClampNeg (0 : Int32)) (130 : Int32).toNatClampNeg x3) (131 : Int32).toNatClampNeg x4))), (hw0_2, .inl (G.2.1, 2468, .inl x2.2.1)), (hw0_3, .inl (G.2.1, 30, .inl x2.2.2.2.2.1)), (hw0_4, .inl (G.2.1, 4000, .inl x2.2.2.2.2.2.1)), (hw0_5, .inl (G.2.1, 120, .inl x2.2.2.2.2.2.2.2.2.2.1)), (hw0_6, .inl (G.2.1, 64, .inl x2.2.2.2.2.2.2.2.2.2.2.1)), (hw0_7, .inl (G.2.2.1, 64, .inl x2.2.2.2.2.2.2.2.2.2.2.2.1)), (hw0_8, .inl (G.2.1, 64, .inl x2.2.2.2.2.2.2.2.2.2.2.2.2.2))] H := hP
  have hD : va_D A [(hw0_0, .inr (8, [.ref hw0_1, .ref hw0_2, .int x2.2.2.1, .int x2.2.2.2.1, .ref hw0_3, .ref hw0_4, .int x2.2.2.2.2.2.2.1, .int x2.2.2.2.2.2.2.2.1, .int x2.2.2.2.2.2.2.2.2.1, .ref hw0_5, .ref hw0_6, .ref hw0_7, .int x2.2.2.2.2.2.2.2.2.2.2.2.2.1, .ref hw0_8])), (hw0_1, .inl (G.2.1, 617, .inl (upd (upd (upd x2.1 (132 : Int32).toNatClampNeg (0 : Int32)) (130 : Int32).toNatClampNeg x3) (131 : Int32).toNatClampNeg x4))), (hw0_2, .inl (G.2.1, 2468, .inl x2.2.1)), (hw0_3, .inl (G.2.1, 30, .inl x2.2.2.2.2.1)), (hw0_4, .inl (G.2.1, 4000, .inl x2.2.2.2.2.2.1)), (hw0_5, .inl (G.2.1, 120, .inl x2.2.2.2.2.2.2.2.2.2.1)), (hw0_6, .inl (G.2.1, 64, .inl x2.2.2.2.2.2.2.2.2.2.2.1)), (hw0_7, .inl (G.2.2.1, 64, .inl x2.2.2.2.2.2.2.2.2.2.2.2.1)), (hw0_8, .inl (G.2.1, 64, .inl x2.2.2.2.2.2.2.2.2.2.2.2.2.2))] := hD
  refine lv_iconst (pc := 48) (v := (0 : Int32)) hx hb dX11_make_48 (by decide) ?_
  refine lv_istore_n (pc := 49) (lv' := [(1, .int (0 : Int32)), (0, .ref hw0_0)]) hx hb dX11_make_49 rfl hl (by decide) rfl (fun ls hl => ?_)
  refine lv_iconst (pc := 50) (v := (0 : Int32)) hx hb dX11_make_50 (by decide) ?_
  refine lv_istore_n (pc := 51) (lv' := [(2, .int (0 : Int32)), (1, .int (0 : Int32)), (0, .ref hw0_0)]) hx hb dX11_make_51 rfl hl (by decide) rfl (fun ls hl => ?_)
  refine lv_iconst (pc := 52) (v := (0 : Int32)) hx hb dX11_make_52 (by decide) ?_
  refine lv_istore_n (pc := 53) (lv' := [(3, .int (0 : Int32)), (2, .int (0 : Int32)), (1, .int (0 : Int32)), (0, .ref hw0_0)]) hx hb dX11_make_53 rfl hl (by decide) rfl (fun ls hl => ?_)
  exact hL54 FUEL ((upd (upd (upd x2.1 (132 : Int32).toNatClampNeg (0 : Int32)) (130 : Int32).toNatClampNeg x3) (131 : Int32).toNatClampNeg x4), x2.2.1, x2.2.2.1, x2.2.2.2.1, x2.2.2.2.2.1, x2.2.2.2.2.2.1, x2.2.2.2.2.2.2.1, x2.2.2.2.2.2.2.2.1, x2.2.2.2.2.2.2.2.2.1, x2.2.2.2.2.2.2.2.2.2.1, x2.2.2.2.2.2.2.2.2.2.2.1, x2.2.2.2.2.2.2.2.2.2.2.2.1, x2.2.2.2.2.2.2.2.2.2.2.2.2.1, x2.2.2.2.2.2.2.2.2.2.2.2.2.2) (0 : Int32) (0 : Int32) (0 : Int32) hf H locs hP hD hS ls (lv_sub hl [0, 1, 2, 3] rfl)
theorem hd_X11_commands : yX11_commands.cls ≠ "java/lang/invoke/MethodHandle" ∧ yX11_commands.cls ≠ "java/lang/invoke/VarHandle" ∧ (parseMethodDescriptor yX11_commands.desc).map (fun d => d.parameters.length) = some 0 := by decide +kernel
abbrev rm_X11_commands : Room := { frames := 0, cells := 0, slots := 0, locals := 0 }
noncomputable def f_X11_commands (w0 : TModel) : Option (Int32 × TModel) :=
  gd (vp_in (132 : Int32) 617) (some ((w0.1 (132 : Int32).toNatClampNeg), (w0.1, w0.2.1, w0.2.2.1, (0 : Int32), w0.2.2.2.2.1, w0.2.2.2.2.2.1, w0.2.2.2.2.2.2.1, w0.2.2.2.2.2.2.2.1, w0.2.2.2.2.2.2.2.2.1, w0.2.2.2.2.2.2.2.2.2.1, w0.2.2.2.2.2.2.2.2.2.2.1, w0.2.2.2.2.2.2.2.2.2.2.2.1, w0.2.2.2.2.2.2.2.2.2.2.2.2.1, w0.2.2.2.2.2.2.2.2.2.2.2.2.2)))
set_option maxHeartbeats 4000000 in
set_option maxRecDepth 100000 in
theorem c_X11_commands (l : Launch) (G : GT) (hw0_0 hw0_1 hw0_2 hw0_3 hw0_4 hw0_5 hw0_6 hw0_7 hw0_8 : Nat) (w0 : TModel) {r : Int32 × TModel} (hf : f_X11_commands w0 = some r) : Ct l yX11_commands (Cond.code yX11_commands cX11_commands 1 (some .int) :: lw_g) rm_X11_commands G [.ref hw0_0] [(hw0_0, .inr (8, [.ref hw0_1, .ref hw0_2, .int w0.2.2.1, .int w0.2.2.2.1, .ref hw0_3, .ref hw0_4, .int w0.2.2.2.2.2.2.1, .int w0.2.2.2.2.2.2.2.1, .int w0.2.2.2.2.2.2.2.2.1, .ref hw0_5, .ref hw0_6, .ref hw0_7, .int w0.2.2.2.2.2.2.2.2.2.2.2.2.1, .ref hw0_8])), (hw0_1, .inl (G.2.1, 617, .inl w0.1)), (hw0_2, .inl (G.2.1, 2468, .inl w0.2.1)), (hw0_3, .inl (G.2.1, 30, .inl w0.2.2.2.2.1)), (hw0_4, .inl (G.2.1, 4000, .inl w0.2.2.2.2.2.1)), (hw0_5, .inl (G.2.1, 120, .inl w0.2.2.2.2.2.2.2.2.2.1)), (hw0_6, .inl (G.2.1, 64, .inl w0.2.2.2.2.2.2.2.2.2.2.1)), (hw0_7, .inl (G.2.2.1, 64, .inl w0.2.2.2.2.2.2.2.2.2.2.2.1)), (hw0_8, .inl (G.2.1, 64, .inl w0.2.2.2.2.2.2.2.2.2.2.2.2.2))] (some (.int r.1)) [(hw0_0, .inr (8, [.ref hw0_1, .ref hw0_2, .int r.2.2.2.1, .int r.2.2.2.2.1, .ref hw0_3, .ref hw0_4, .int r.2.2.2.2.2.2.2.1, .int r.2.2.2.2.2.2.2.2.1, .int r.2.2.2.2.2.2.2.2.2.1, .ref hw0_5, .ref hw0_6, .ref hw0_7, .int r.2.2.2.2.2.2.2.2.2.2.2.2.2.1, .ref hw0_8])), (hw0_1, .inl (G.2.1, 617, .inl r.2.1)), (hw0_2, .inl (G.2.1, 2468, .inl r.2.2.1)), (hw0_3, .inl (G.2.1, 30, .inl r.2.2.2.2.2.1)), (hw0_4, .inl (G.2.1, 4000, .inl r.2.2.2.2.2.2.1)), (hw0_5, .inl (G.2.1, 120, .inl r.2.2.2.2.2.2.2.2.2.2.1)), (hw0_6, .inl (G.2.1, 64, .inl r.2.2.2.2.2.2.2.2.2.2.2.1)), (hw0_7, .inl (G.2.2.1, 64, .inl r.2.2.2.2.2.2.2.2.2.2.2.2.1)), (hw0_8, .inl (G.2.1, 64, .inl r.2.2.2.2.2.2.2.2.2.2.2.2.2.2))] := by
  refine Ct.ofW (cc := cX11_commands) (maxL := 1) (ret := (some .int)) (own := RX11) (by decide) rfl rfl (Nat.le_of_ble_eq_true rfl) ?_
  intro p e s m args below meth c A hx hb hr hml hts hown hlocks hK hP hD hA hS ls hl
  have hl : lv_has ls 1 [(0, .ref hw0_0)] := hl
  generalize hQ : gMQ below G _ _ A args s = Q
  generalize hH : s.heap = H at hP ⊢
  have hS : va_S A s.heap H [] := by rw [← hH]; exact hS
  generalize ([] : List Loc) = locs at hS ⊢
  unfold f_X11_commands at hf
  refine lv_aload_n (pc := 0) hx hb dX11_commands_0 rfl (lv_at hl 0 rfl) ?_
  refine lv_iconst (pc := 1) (v := (0 : Int32)) hx hb dX11_commands_1 (by decide) ?_
  refine va_put (pc := 2) (D := G.1) (ci := 8) (v := .int (0 : Int32)) (ty := .int) (C := RX11) (T := TX11) (N := 14) hx hb hts inX11 tyX11 tyX11_ok nmX11 hown hK.1 hP hD hS 0 rfl rfl 3 (by decide) (hts _ wd_883) (fun _ h9 => h9) rfl (by decide +kernel) rfl rfl (Nat.le_of_ble_eq_true rfl) dX11_commands_2 (fun H locs hP hD hS => ?_)
  have hP : va_P G.1 vwCl [(hw0_0, .inr (8, [.ref hw0_1, .ref hw0_2, .int w0.2.2.1, .int (0 : Int32), .ref hw0_3, .ref hw0_4, .int w0.2.2.2.2.2.2.1, .int w0.2.2.2.2.2.2.2.1, .int w0.2.2.2.2.2.2.2.2.1, .ref hw0_5, .ref hw0_6, .ref hw0_7, .int w0.2.2.2.2.2.2.2.2.2.2.2.2.1, .ref hw0_8])), (hw0_1, .inl (G.2.1, 617, .inl w0.1)), (hw0_2, .inl (G.2.1, 2468, .inl w0.2.1)), (hw0_3, .inl (G.2.1, 30, .inl w0.2.2.2.2.1)), (hw0_4, .inl (G.2.1, 4000, .inl w0.2.2.2.2.2.1)), (hw0_5, .inl (G.2.1, 120, .inl w0.2.2.2.2.2.2.2.2.2.1)), (hw0_6, .inl (G.2.1, 64, .inl w0.2.2.2.2.2.2.2.2.2.2.1)), (hw0_7, .inl (G.2.2.1, 64, .inl w0.2.2.2.2.2.2.2.2.2.2.2.1)), (hw0_8, .inl (G.2.1, 64, .inl w0.2.2.2.2.2.2.2.2.2.2.2.2.2))] H := hP
  have hD : va_D A [(hw0_0, .inr (8, [.ref hw0_1, .ref hw0_2, .int w0.2.2.1, .int (0 : Int32), .ref hw0_3, .ref hw0_4, .int w0.2.2.2.2.2.2.1, .int w0.2.2.2.2.2.2.2.1, .int w0.2.2.2.2.2.2.2.2.1, .ref hw0_5, .ref hw0_6, .ref hw0_7, .int w0.2.2.2.2.2.2.2.2.2.2.2.2.1, .ref hw0_8])), (hw0_1, .inl (G.2.1, 617, .inl w0.1)), (hw0_2, .inl (G.2.1, 2468, .inl w0.2.1)), (hw0_3, .inl (G.2.1, 30, .inl w0.2.2.2.2.1)), (hw0_4, .inl (G.2.1, 4000, .inl w0.2.2.2.2.2.1)), (hw0_5, .inl (G.2.1, 120, .inl w0.2.2.2.2.2.2.2.2.2.1)), (hw0_6, .inl (G.2.1, 64, .inl w0.2.2.2.2.2.2.2.2.2.2.1)), (hw0_7, .inl (G.2.2.1, 64, .inl w0.2.2.2.2.2.2.2.2.2.2.2.1)), (hw0_8, .inl (G.2.1, 64, .inl w0.2.2.2.2.2.2.2.2.2.2.2.2.2))] := hD
  refine lv_aload_n (pc := 5) hx hb dX11_commands_5 rfl (lv_at hl 0 rfl) ?_
  refine va_get (pc := 6) (D := G.1) (ci := 8) (v := .ref hw0_1) (C := RX11) (T := TX11) (N := 14) hx hb hts inX11 hown hK.1 hP 0 rfl rfl 0 (by decide) (hts _ wd_880) (fun _ h9 => h9) rfl dX11_commands_6 ?_
  refine lv_sipush (pc := 9) (v := (132 : Int32)) hx hb dX11_commands_9 (by decide) ?_
  obtain ⟨hg, hf⟩ := gd_some hf
  refine va_iald (pc := 12) hx hb hK.1 hP 1 0 rfl rfl hg dX11_commands_12 ?_
  have hf := Option.some.inj hf; subst hf
  rw [← hQ]
  exact g_iret hx hb hr hlocks hP hS dX11_commands_13
theorem hd_X11_isCommand : yX11_isCommand.cls ≠ "java/lang/invoke/MethodHandle" ∧ yX11_isCommand.cls ≠ "java/lang/invoke/VarHandle" ∧ (parseMethodDescriptor yX11_isCommand.desc).map (fun d => d.parameters.length) = some 1 := by decide +kernel
abbrev rm_X11_isCommand : Room := { frames := 1, cells := 0, slots := 0, locals := 25 }
noncomputable def f_X11_isCommand (w0 : TModel) (p1 : Int32) : Option Int32 :=
  gd (vp_in (132 : Int32) 617) ((f_X11_in p1.toInt64 (0 : Int64) (((w0.1 (132 : Int32).toNatClampNeg) - (1 : Int32)).toInt64)).bind (fun x1 => gd (x1 = 0 ∨ x1 = 1) (some x1)))
set_option maxHeartbeats 4000000 in
set_option maxRecDepth 100000 in
theorem c_X11_isCommand (l : Launch) (G : GT) (hw0_0 hw0_1 hw0_2 hw0_3 hw0_4 hw0_5 hw0_6 hw0_7 hw0_8 : Nat) (w0 : TModel) (p1 : Int32) {r : Int32} (hf : f_X11_isCommand w0 p1 = some r) : Ct l yX11_isCommand (Cond.code yX11_isCommand cX11_isCommand 2 (some .boolean) :: lw_g) rm_X11_isCommand G [.ref hw0_0, .int p1] [(hw0_0, .inr (8, [.ref hw0_1, .ref hw0_2, .int w0.2.2.1, .int w0.2.2.2.1, .ref hw0_3, .ref hw0_4, .int w0.2.2.2.2.2.2.1, .int w0.2.2.2.2.2.2.2.1, .int w0.2.2.2.2.2.2.2.2.1, .ref hw0_5, .ref hw0_6, .ref hw0_7, .int w0.2.2.2.2.2.2.2.2.2.2.2.2.1, .ref hw0_8])), (hw0_1, .inl (G.2.1, 617, .inl w0.1)), (hw0_2, .inl (G.2.1, 2468, .inl w0.2.1)), (hw0_3, .inl (G.2.1, 30, .inl w0.2.2.2.2.1)), (hw0_4, .inl (G.2.1, 4000, .inl w0.2.2.2.2.2.1)), (hw0_5, .inl (G.2.1, 120, .inl w0.2.2.2.2.2.2.2.2.2.1)), (hw0_6, .inl (G.2.1, 64, .inl w0.2.2.2.2.2.2.2.2.2.2.1)), (hw0_7, .inl (G.2.2.1, 64, .inl w0.2.2.2.2.2.2.2.2.2.2.2.1)), (hw0_8, .inl (G.2.1, 64, .inl w0.2.2.2.2.2.2.2.2.2.2.2.2.2))] (some (.int r)) [(hw0_0, .inr (8, [.ref hw0_1, .ref hw0_2, .int w0.2.2.1, .int w0.2.2.2.1, .ref hw0_3, .ref hw0_4, .int w0.2.2.2.2.2.2.1, .int w0.2.2.2.2.2.2.2.1, .int w0.2.2.2.2.2.2.2.2.1, .ref hw0_5, .ref hw0_6, .ref hw0_7, .int w0.2.2.2.2.2.2.2.2.2.2.2.2.1, .ref hw0_8])), (hw0_1, .inl (G.2.1, 617, .inl w0.1)), (hw0_2, .inl (G.2.1, 2468, .inl w0.2.1)), (hw0_3, .inl (G.2.1, 30, .inl w0.2.2.2.2.1)), (hw0_4, .inl (G.2.1, 4000, .inl w0.2.2.2.2.2.1)), (hw0_5, .inl (G.2.1, 120, .inl w0.2.2.2.2.2.2.2.2.2.1)), (hw0_6, .inl (G.2.1, 64, .inl w0.2.2.2.2.2.2.2.2.2.2.1)), (hw0_7, .inl (G.2.2.1, 64, .inl w0.2.2.2.2.2.2.2.2.2.2.2.1)), (hw0_8, .inl (G.2.1, 64, .inl w0.2.2.2.2.2.2.2.2.2.2.2.2.2))] := by
  refine Ct.ofW (cc := cX11_isCommand) (maxL := 2) (ret := (some .boolean)) (own := RX11) (by decide) rfl rfl (Nat.le_of_ble_eq_true rfl) ?_
  intro p e s m args below meth c A hx hb hr hml hts hown hlocks hK hP hD hA hS ls hl
  have hl : lv_has ls 2 [(0, .ref hw0_0), (1, .int p1)] := hl
  generalize hQ : gMQ below G _ _ A args s = Q
  generalize hH : s.heap = H at hP ⊢
  have hS : va_S A s.heap H [] := by rw [← hH]; exact hS
  generalize ([] : List Loc) = locs at hS ⊢
  unfold f_X11_isCommand at hf
  refine lv_iload_n (pc := 0) hx hb dX11_isCommand_0 rfl (lv_at hl 1 rfl) ?_
  refine lv_i2l (pc := 1) (v := p1.toInt64) hx hb dX11_isCommand_1 rfl ?_
  refine lv_lconst (pc := 2) (v := (0 : Int64)) hx hb dX11_isCommand_2 (by decide) ?_
  refine lv_aload_n (pc := 3) hx hb dX11_isCommand_3 rfl (lv_at hl 0 rfl) ?_
  refine va_get (pc := 4) (D := G.1) (ci := 8) (v := .ref hw0_1) (C := RX11) (T := TX11) (N := 14) hx hb hts inX11 hown hK.1 hP 0 rfl rfl 0 (by decide) (hts _ wd_880) (fun _ h9 => h9) rfl dX11_isCommand_4 ?_
  refine lv_sipush (pc := 7) (v := (132 : Int32)) hx hb dX11_isCommand_7 (by decide) ?_
  obtain ⟨hg, hf⟩ := gd_some hf
  refine va_iald (pc := 10) hx hb hK.1 hP 1 0 rfl rfl hg dX11_isCommand_10 ?_
  refine lv_iconst (pc := 11) (v := (1 : Int32)) hx hb dX11_isCommand_11 (by decide) ?_
  refine lv_isub (pc := 12) hx hb dX11_isCommand_12 ?_
  refine lv_i2l (pc := 13) (v := ((w0.1 (132 : Int32).toNatClampNeg) - (1 : Int32)).toInt64) hx hb dX11_isCommand_13 rfl ?_
  obtain ⟨x1, hcx1, hf⟩ := bn_some hf
  refine g_callS0 (pc := 14) (rest := []) hx hb hml hown hts hK (c_X11_in l G  p1.toInt64 (0 : Int64) (((w0.1 (132 : Int32).toNatClampNeg) - (1 : Int32)).toInt64) hcx1) wd_937 wd_10 wd_935 wd_936 hd_X11_in ⟨rfl, rfl, Nat.le_of_ble_eq_true rfl, Nat.le_of_ble_eq_true rfl⟩ hP hD hS hA [] rfl rfl rfl hl.1 rfl (Nat.le_of_ble_eq_true rfl) dX11_isCommand_14 ⟨Nat.zero_le _, Nat.zero_le _⟩ (fun H locs hP hS => ?_)
  obtain ⟨hg, hf⟩ := gd_some hf
  have hf := Option.some.inj hf; subst hf
  rw [← hQ]
  exact g_zret hx hb hr hlocks (z01 hg) hP hS dX11_isCommand_17
theorem hd_X11_command : yX11_command.cls ≠ "java/lang/invoke/MethodHandle" ∧ yX11_command.cls ≠ "java/lang/invoke/VarHandle" ∧ (parseMethodDescriptor yX11_command.desc).map (fun d => d.parameters.length) = some 2 := by decide +kernel
abbrev rm_X11_command : Room := { frames := 2, cells := 0, slots := 0, locals := 46 }
noncomputable def f_X11_command (w0 : TModel) (p1 : Int32) (p2 : Int32) : Option (Int32 × TModel) :=
  (f_X11_isCommand w0 p1).bind (fun x1 => (f_X11_in p2.toInt64 (0 : Int64) (3 : Int64)).bind (fun x2 => (f_X11_goes w0 x1 x2).bind (fun x3 => br (x3.1 = 0) (some ((0 : Int32), x3.2)) ((f_X11_of x3.2 p1 p2).bind (fun x4 => some (x4, x3.2))))))
set_option maxHeartbeats 4000000 in
set_option maxRecDepth 100000 in
theorem c_X11_command (l : Launch) (G : GT) (hw0_0 hw0_1 hw0_2 hw0_3 hw0_4 hw0_5 hw0_6 hw0_7 hw0_8 : Nat) (w0 : TModel) (p1 : Int32) (p2 : Int32) {r : Int32 × TModel} (hf : f_X11_command w0 p1 p2 = some r) : Ct l yX11_command (Cond.code yX11_command cX11_command 3 (some .int) :: lw_g) rm_X11_command G [.ref hw0_0, .int p1, .int p2] [(hw0_0, .inr (8, [.ref hw0_1, .ref hw0_2, .int w0.2.2.1, .int w0.2.2.2.1, .ref hw0_3, .ref hw0_4, .int w0.2.2.2.2.2.2.1, .int w0.2.2.2.2.2.2.2.1, .int w0.2.2.2.2.2.2.2.2.1, .ref hw0_5, .ref hw0_6, .ref hw0_7, .int w0.2.2.2.2.2.2.2.2.2.2.2.2.1, .ref hw0_8])), (hw0_1, .inl (G.2.1, 617, .inl w0.1)), (hw0_2, .inl (G.2.1, 2468, .inl w0.2.1)), (hw0_3, .inl (G.2.1, 30, .inl w0.2.2.2.2.1)), (hw0_4, .inl (G.2.1, 4000, .inl w0.2.2.2.2.2.1)), (hw0_5, .inl (G.2.1, 120, .inl w0.2.2.2.2.2.2.2.2.2.1)), (hw0_6, .inl (G.2.1, 64, .inl w0.2.2.2.2.2.2.2.2.2.2.1)), (hw0_7, .inl (G.2.2.1, 64, .inl w0.2.2.2.2.2.2.2.2.2.2.2.1)), (hw0_8, .inl (G.2.1, 64, .inl w0.2.2.2.2.2.2.2.2.2.2.2.2.2))] (some (.int r.1)) [(hw0_0, .inr (8, [.ref hw0_1, .ref hw0_2, .int r.2.2.2.1, .int r.2.2.2.2.1, .ref hw0_3, .ref hw0_4, .int r.2.2.2.2.2.2.2.1, .int r.2.2.2.2.2.2.2.2.1, .int r.2.2.2.2.2.2.2.2.2.1, .ref hw0_5, .ref hw0_6, .ref hw0_7, .int r.2.2.2.2.2.2.2.2.2.2.2.2.2.1, .ref hw0_8])), (hw0_1, .inl (G.2.1, 617, .inl r.2.1)), (hw0_2, .inl (G.2.1, 2468, .inl r.2.2.1)), (hw0_3, .inl (G.2.1, 30, .inl r.2.2.2.2.2.1)), (hw0_4, .inl (G.2.1, 4000, .inl r.2.2.2.2.2.2.1)), (hw0_5, .inl (G.2.1, 120, .inl r.2.2.2.2.2.2.2.2.2.2.1)), (hw0_6, .inl (G.2.1, 64, .inl r.2.2.2.2.2.2.2.2.2.2.2.1)), (hw0_7, .inl (G.2.2.1, 64, .inl r.2.2.2.2.2.2.2.2.2.2.2.2.1)), (hw0_8, .inl (G.2.1, 64, .inl r.2.2.2.2.2.2.2.2.2.2.2.2.2.2))] := by
  refine Ct.ofW (cc := cX11_command) (maxL := 3) (ret := (some .int)) (own := RX11) (by decide) rfl rfl (Nat.le_of_ble_eq_true rfl) ?_
  intro p e s m args below meth c A hx hb hr hml hts hown hlocks hK hP hD hA hS ls hl
  have hl : lv_has ls 3 [(0, .ref hw0_0), (1, .int p1), (2, .int p2)] := hl
  generalize hQ : gMQ below G _ _ A args s = Q
  generalize hH : s.heap = H at hP ⊢
  have hS : va_S A s.heap H [] := by rw [← hH]; exact hS
  generalize ([] : List Loc) = locs at hS ⊢
  unfold f_X11_command at hf
  refine lv_aload_n (pc := 0) hx hb dX11_command_0 rfl (lv_at hl 0 rfl) ?_
  refine lv_aload_n (pc := 1) hx hb dX11_command_1 rfl (lv_at hl 0 rfl) ?_
  refine lv_iload_n (pc := 2) hx hb dX11_command_2 rfl (lv_at hl 1 rfl) ?_
  obtain ⟨x1, hcx1, hf⟩ := bn_some hf
  refine g_callV0 (pc := 3) (rest := [.ref hw0_0]) hx hb hml hown hts hK (c_X11_isCommand l G hw0_0 hw0_1 hw0_2 hw0_3 hw0_4 hw0_5 hw0_6 hw0_7 hw0_8 w0 p1 hcx1) wd_1005 wd_10 wd_1002 wd_1004 ws_21 hd_X11_isCommand ⟨rfl, rfl, Nat.le_of_ble_eq_true rfl, Nat.le_of_ble_eq_true rfl⟩ hP hD hS hA [0, 1, 2, 3, 4, 5, 6, 7, 8] rfl rfl 8 0 rfl rfl rfl rfl hl.1 rfl (Nat.le_of_ble_eq_true rfl) dX11_command_3 ⟨Nat.zero_le _, Nat.zero_le _⟩ (fun H locs hP hS => ?_)
  refine lv_iload_n (pc := 6) hx hb dX11_command_6 rfl (lv_at hl 2 rfl) ?_
  refine lv_i2l (pc := 7) (v := p2.toInt64) hx hb dX11_command_7 rfl ?_
  refine lv_lconst (pc := 8) (v := (0 : Int64)) hx hb dX11_command_8 (by decide) ?_
  refine lv_ldc2 (pc := 9) (v := (3 : Int64)) hx hb hown (hts _ wd_1006) dX11_command_9 ?_
  obtain ⟨x2, hcx2, hf⟩ := bn_some hf
  refine g_callS0 (pc := 12) (rest := [.int x1, .ref hw0_0]) hx hb hml hown hts hK (c_X11_in l G  p2.toInt64 (0 : Int64) (3 : Int64) hcx2) wd_937 wd_10 wd_935 wd_936 hd_X11_in ⟨rfl, rfl, Nat.le_of_ble_eq_true rfl, Nat.le_of_ble_eq_true rfl⟩ hP hD hS hA [] rfl rfl rfl hl.1 rfl (Nat.le_of_ble_eq_true rfl) dX11_command_12 ⟨Nat.zero_le _, Nat.zero_le _⟩ (fun H locs hP hS => ?_)
  obtain ⟨x3, hcx3, hf⟩ := bn_some hf
  refine g_callV (pc := 15) (ws' := [(hw0_0, .inr (8, [.ref hw0_1, .ref hw0_2, .int x3.2.2.2.1, .int x3.2.2.2.2.1, .ref hw0_3, .ref hw0_4, .int x3.2.2.2.2.2.2.2.1, .int x3.2.2.2.2.2.2.2.2.1, .int x3.2.2.2.2.2.2.2.2.2.1, .ref hw0_5, .ref hw0_6, .ref hw0_7, .int x3.2.2.2.2.2.2.2.2.2.2.2.2.2.1, .ref hw0_8])), (hw0_1, .inl (G.2.1, 617, .inl x3.2.1)), (hw0_2, .inl (G.2.1, 2468, .inl x3.2.2.1)), (hw0_3, .inl (G.2.1, 30, .inl x3.2.2.2.2.2.1)), (hw0_4, .inl (G.2.1, 4000, .inl x3.2.2.2.2.2.2.1)), (hw0_5, .inl (G.2.1, 120, .inl x3.2.2.2.2.2.2.2.2.2.2.1)), (hw0_6, .inl (G.2.1, 64, .inl x3.2.2.2.2.2.2.2.2.2.2.2.1)), (hw0_7, .inl (G.2.2.1, 64, .inl x3.2.2.2.2.2.2.2.2.2.2.2.2.1)), (hw0_8, .inl (G.2.1, 64, .inl x3.2.2.2.2.2.2.2.2.2.2.2.2.2.2))]) (rest := []) hx hb hml hown hts hK (c_X11_goes l G hw0_0 hw0_1 hw0_2 hw0_3 hw0_4 hw0_5 hw0_6 hw0_7 hw0_8 w0 x1 x2 hcx3) wd_949 wd_10 wd_946 wd_948 ws_13 hd_X11_goes ⟨rfl, rfl, Nat.le_of_ble_eq_true rfl, Nat.le_of_ble_eq_true rfl⟩ hP hD hS hA [0, 1, 2, 3, 4, 5, 6, 7, 8] rfl rfl rfl rfl 8 0 rfl rfl rfl rfl hl.1 rfl (Nat.le_of_ble_eq_true rfl) dX11_command_15 ⟨Nat.zero_le _, Nat.zero_le _⟩ (fun H locs hP hD hS => ?_)
  refine lv_if_eq (pc := 18) (tgt := 30) hx hb dX11_command_18 (by decide) (fun hc => ?_) (fun hc => ?_)
  · have hf := br_y hc hf
    refine lv_iconst (pc := 30) (v := (0 : Int32)) hx hb dX11_command_30 (by decide) ?_
    have hf := Option.some.inj hf; subst hf
    rw [← hQ]
    exact g_iret hx hb hr hlocks hP hS dX11_command_31
  · have hf := br_n hc hf
    refine lv_aload_n (pc := 21) hx hb dX11_command_21 rfl (lv_at hl 0 rfl) ?_
    refine lv_iload_n (pc := 22) hx hb dX11_command_22 rfl (lv_at hl 1 rfl) ?_
    refine lv_iload_n (pc := 23) hx hb dX11_command_23 rfl (lv_at hl 2 rfl) ?_
    obtain ⟨x4, hcx4, hf⟩ := bn_some hf
    refine g_callV0 (pc := 24) (rest := []) hx hb hml hown hts hK (c_X11_of l G hw0_0 hw0_1 hw0_2 hw0_3 hw0_4 hw0_5 hw0_6 hw0_7 hw0_8 x3.2 p1 p2 hcx4) wd_1010 wd_10 wd_1007 wd_1009 ws_22 hd_X11_of ⟨rfl, rfl, Nat.le_of_ble_eq_true rfl, Nat.le_of_ble_eq_true rfl⟩ hP hD hS hA [0, 1, 2, 3, 4, 5, 6, 7, 8] rfl rfl 8 0 rfl rfl rfl rfl hl.1 rfl (Nat.le_of_ble_eq_true rfl) dX11_command_24 ⟨Nat.zero_le _, Nat.zero_le _⟩ (fun H locs hP hS => ?_)
    refine lv_goto (pc := 27) (tgt := 31) hx hb dX11_command_27 (by decide) ?_
    have hf := Option.some.inj hf; subst hf
    rw [← hQ]
    exact g_iret hx hb hr hlocks hP hS dX11_command_31
theorem hd_X11_precedes : yX11_precedes.cls ≠ "java/lang/invoke/MethodHandle" ∧ yX11_precedes.cls ≠ "java/lang/invoke/VarHandle" ∧ (parseMethodDescriptor yX11_precedes.desc).map (fun d => d.parameters.length) = some 2 := by decide +kernel
abbrev rm_X11_precedes : Room := { frames := 2, cells := 0, slots := 0, locals := 43 }
noncomputable def f_X11_precedes (w0 : TModel) (p1 : Int32) (p2 : Int32) : Option Int32 :=
  br (p1 = p2) (some (0 : Int32)) ((f_X11_isCopy w0 p1).bind (fun x1 => br (x1 = 0) (some (0 : Int32)) ((f_X11_isCopy w0 p2).bind (fun x2 => br (x2 = 0) (some (0 : Int32)) ((f_X11_of w0 p1 (1 : Int32)).bind (fun x3 => (f_X11_of w0 p2 (2 : Int32)).bind (fun x4 => (f_X11_of w0 p2 (3 : Int32)).bind (fun x5 => br ((x4 + x5) ≤ x3) (some (0 : Int32)) ((f_X11_of w0 p2 (2 : Int32)).bind (fun x6 => (f_X11_of w0 p1 (1 : Int32)).bind (fun x7 => (f_X11_of w0 p1 (3 : Int32)).bind (fun x8 => br ((x7 + x8) ≤ x6) (some (0 : Int32)) (some (1 : Int32))))))))))))))
set_option maxHeartbeats 4000000 in
set_option maxRecDepth 100000 in
theorem c_X11_precedes (l : Launch) (G : GT) (hw0_0 hw0_1 hw0_2 hw0_3 hw0_4 hw0_5 hw0_6 hw0_7 hw0_8 : Nat) (w0 : TModel) (p1 : Int32) (p2 : Int32) {r : Int32} (hf : f_X11_precedes w0 p1 p2 = some r) : Ct l yX11_precedes (Cond.code yX11_precedes cX11_precedes 3 (some .boolean) :: lw_g) rm_X11_precedes G [.ref hw0_0, .int p1, .int p2] [(hw0_0, .inr (8, [.ref hw0_1, .ref hw0_2, .int w0.2.2.1, .int w0.2.2.2.1, .ref hw0_3, .ref hw0_4, .int w0.2.2.2.2.2.2.1, .int w0.2.2.2.2.2.2.2.1, .int w0.2.2.2.2.2.2.2.2.1, .ref hw0_5, .ref hw0_6, .ref hw0_7, .int w0.2.2.2.2.2.2.2.2.2.2.2.2.1, .ref hw0_8])), (hw0_1, .inl (G.2.1, 617, .inl w0.1)), (hw0_2, .inl (G.2.1, 2468, .inl w0.2.1)), (hw0_3, .inl (G.2.1, 30, .inl w0.2.2.2.2.1)), (hw0_4, .inl (G.2.1, 4000, .inl w0.2.2.2.2.2.1)), (hw0_5, .inl (G.2.1, 120, .inl w0.2.2.2.2.2.2.2.2.2.1)), (hw0_6, .inl (G.2.1, 64, .inl w0.2.2.2.2.2.2.2.2.2.2.1)), (hw0_7, .inl (G.2.2.1, 64, .inl w0.2.2.2.2.2.2.2.2.2.2.2.1)), (hw0_8, .inl (G.2.1, 64, .inl w0.2.2.2.2.2.2.2.2.2.2.2.2.2))] (some (.int r)) [(hw0_0, .inr (8, [.ref hw0_1, .ref hw0_2, .int w0.2.2.1, .int w0.2.2.2.1, .ref hw0_3, .ref hw0_4, .int w0.2.2.2.2.2.2.1, .int w0.2.2.2.2.2.2.2.1, .int w0.2.2.2.2.2.2.2.2.1, .ref hw0_5, .ref hw0_6, .ref hw0_7, .int w0.2.2.2.2.2.2.2.2.2.2.2.2.1, .ref hw0_8])), (hw0_1, .inl (G.2.1, 617, .inl w0.1)), (hw0_2, .inl (G.2.1, 2468, .inl w0.2.1)), (hw0_3, .inl (G.2.1, 30, .inl w0.2.2.2.2.1)), (hw0_4, .inl (G.2.1, 4000, .inl w0.2.2.2.2.2.1)), (hw0_5, .inl (G.2.1, 120, .inl w0.2.2.2.2.2.2.2.2.2.1)), (hw0_6, .inl (G.2.1, 64, .inl w0.2.2.2.2.2.2.2.2.2.2.1)), (hw0_7, .inl (G.2.2.1, 64, .inl w0.2.2.2.2.2.2.2.2.2.2.2.1)), (hw0_8, .inl (G.2.1, 64, .inl w0.2.2.2.2.2.2.2.2.2.2.2.2.2))] := by
  refine Ct.ofW (cc := cX11_precedes) (maxL := 3) (ret := (some .boolean)) (own := RX11) (by decide) rfl rfl (Nat.le_of_ble_eq_true rfl) ?_
  intro p e s m args below meth c A hx hb hr hml hts hown hlocks hK hP hD hA hS ls hl
  have hl : lv_has ls 3 [(0, .ref hw0_0), (1, .int p1), (2, .int p2)] := hl
  generalize hQ : gMQ below G _ _ A args s = Q
  generalize hH : s.heap = H at hP ⊢
  have hS : va_S A s.heap H [] := by rw [← hH]; exact hS
  generalize ([] : List Loc) = locs at hS ⊢
  unfold f_X11_precedes at hf
  refine lv_iload_n (pc := 0) hx hb dX11_precedes_0 rfl (lv_at hl 1 rfl) ?_
  refine lv_iload_n (pc := 1) hx hb dX11_precedes_1 rfl (lv_at hl 2 rfl) ?_
  refine lv_icmp_eq (pc := 2) (tgt := 69) hx hb dX11_precedes_2 (by decide) (fun hc => ?_) (fun hc => ?_)
  · have hf := br_y hc hf
    refine lv_iconst (pc := 69) (v := (0 : Int32)) hx hb dX11_precedes_69 (by decide) ?_
    have hf := Option.some.inj hf; subst hf
    rw [← hQ]
    exact g_zret (v := (0 : Int32)) hx hb hr hlocks rfl hP hS dX11_precedes_70
  · have hf := br_n hc hf
    refine lv_aload_n (pc := 5) hx hb dX11_precedes_5 rfl (lv_at hl 0 rfl) ?_
    refine lv_iload_n (pc := 6) hx hb dX11_precedes_6 rfl (lv_at hl 1 rfl) ?_
    obtain ⟨x1, hcx1, hf⟩ := bn_some hf
    refine g_callV0 (pc := 7) (rest := []) hx hb hml hown hts hK (c_X11_isCopy l G hw0_0 hw0_1 hw0_2 hw0_3 hw0_4 hw0_5 hw0_6 hw0_7 hw0_8 w0 p1 hcx1) wd_1022 wd_10 wd_1019 wd_1021 ws_24 hd_X11_isCopy ⟨rfl, rfl, Nat.le_of_ble_eq_true rfl, Nat.le_of_ble_eq_true rfl⟩ hP hD hS hA [0, 1, 2, 3, 4, 5, 6, 7, 8] rfl rfl 8 0 rfl rfl rfl rfl hl.1 rfl (Nat.le_of_ble_eq_true rfl) dX11_precedes_7 ⟨Nat.zero_le _, Nat.zero_le _⟩ (fun H locs hP hS => ?_)
    refine lv_if_eq (pc := 10) (tgt := 69) hx hb dX11_precedes_10 (by decide) (fun hc => ?_) (fun hc => ?_)
    · have hf := br_y hc hf
      refine lv_iconst (pc := 69) (v := (0 : Int32)) hx hb dX11_precedes_69 (by decide) ?_
      have hf := Option.some.inj hf; subst hf
      rw [← hQ]
      exact g_zret (v := (0 : Int32)) hx hb hr hlocks rfl hP hS dX11_precedes_70
    · have hf := br_n hc hf
      refine lv_aload_n (pc := 13) hx hb dX11_precedes_13 rfl (lv_at hl 0 rfl) ?_
      refine lv_iload_n (pc := 14) hx hb dX11_precedes_14 rfl (lv_at hl 2 rfl) ?_
      obtain ⟨x2, hcx2, hf⟩ := bn_some hf
      refine g_callV0 (pc := 15) (rest := []) hx hb hml hown hts hK (c_X11_isCopy l G hw0_0 hw0_1 hw0_2 hw0_3 hw0_4 hw0_5 hw0_6 hw0_7 hw0_8 w0 p2 hcx2) wd_1022 wd_10 wd_1019 wd_1021 ws_24 hd_X11_isCopy ⟨rfl, rfl, Nat.le_of_ble_eq_true rfl, Nat.le_of_ble_eq_true rfl⟩ hP hD hS hA [0, 1, 2, 3, 4, 5, 6, 7, 8] rfl rfl 8 0 rfl rfl rfl rfl hl.1 rfl (Nat.le_of_ble_eq_true rfl) dX11_precedes_15 ⟨Nat.zero_le _, Nat.zero_le _⟩ (fun H locs hP hS => ?_)
      refine lv_if_eq (pc := 18) (tgt := 69) hx hb dX11_precedes_18 (by decide) (fun hc => ?_) (fun hc => ?_)
      · have hf := br_y hc hf
        refine lv_iconst (pc := 69) (v := (0 : Int32)) hx hb dX11_precedes_69 (by decide) ?_
        have hf := Option.some.inj hf; subst hf
        rw [← hQ]
        exact g_zret (v := (0 : Int32)) hx hb hr hlocks rfl hP hS dX11_precedes_70
      · have hf := br_n hc hf
        refine lv_aload_n (pc := 21) hx hb dX11_precedes_21 rfl (lv_at hl 0 rfl) ?_
        refine lv_iload_n (pc := 22) hx hb dX11_precedes_22 rfl (lv_at hl 1 rfl) ?_
        refine lv_iconst (pc := 23) (v := (1 : Int32)) hx hb dX11_precedes_23 (by decide) ?_
        obtain ⟨x3, hcx3, hf⟩ := bn_some hf
        refine g_callV0 (pc := 24) (rest := []) hx hb hml hown hts hK (c_X11_of l G hw0_0 hw0_1 hw0_2 hw0_3 hw0_4 hw0_5 hw0_6 hw0_7 hw0_8 w0 p1 (1 : Int32) hcx3) wd_1010 wd_10 wd_1007 wd_1009 ws_22 hd_X11_of ⟨rfl, rfl, Nat.le_of_ble_eq_true rfl, Nat.le_of_ble_eq_true rfl⟩ hP hD hS hA [0, 1, 2, 3, 4, 5, 6, 7, 8] rfl rfl 8 0 rfl rfl rfl rfl hl.1 rfl (Nat.le_of_ble_eq_true rfl) dX11_precedes_24 ⟨Nat.zero_le _, Nat.zero_le _⟩ (fun H locs hP hS => ?_)
        refine lv_aload_n (pc := 27) hx hb dX11_precedes_27 rfl (lv_at hl 0 rfl) ?_
        refine lv_iload_n (pc := 28) hx hb dX11_precedes_28 rfl (lv_at hl 2 rfl) ?_
        refine lv_iconst (pc := 29) (v := (2 : Int32)) hx hb dX11_precedes_29 (by decide) ?_
        obtain ⟨x4, hcx4, hf⟩ := bn_some hf
        refine g_callV0 (pc := 30) (rest := [.int x3]) hx hb hml hown hts hK (c_X11_of l G hw0_0 hw0_1 hw0_2 hw0_3 hw0_4 hw0_5 hw0_6 hw0_7 hw0_8 w0 p2 (2 : Int32) hcx4) wd_1010 wd_10 wd_1007 wd_1009 ws_22 hd_X11_of ⟨rfl, rfl, Nat.le_of_ble_eq_true rfl, Nat.le_of_ble_eq_true rfl⟩ hP hD hS hA [0, 1, 2, 3, 4, 5, 6, 7, 8] rfl rfl 8 0 rfl rfl rfl rfl hl.1 rfl (Nat.le_of_ble_eq_true rfl) dX11_precedes_30 ⟨Nat.zero_le _, Nat.zero_le _⟩ (fun H locs hP hS => ?_)
        refine lv_aload_n (pc := 33) hx hb dX11_precedes_33 rfl (lv_at hl 0 rfl) ?_
        refine lv_iload_n (pc := 34) hx hb dX11_precedes_34 rfl (lv_at hl 2 rfl) ?_
        refine lv_iconst (pc := 35) (v := (3 : Int32)) hx hb dX11_precedes_35 (by decide) ?_
        obtain ⟨x5, hcx5, hf⟩ := bn_some hf
        refine g_callV0 (pc := 36) (rest := [.int x4, .int x3]) hx hb hml hown hts hK (c_X11_of l G hw0_0 hw0_1 hw0_2 hw0_3 hw0_4 hw0_5 hw0_6 hw0_7 hw0_8 w0 p2 (3 : Int32) hcx5) wd_1010 wd_10 wd_1007 wd_1009 ws_22 hd_X11_of ⟨rfl, rfl, Nat.le_of_ble_eq_true rfl, Nat.le_of_ble_eq_true rfl⟩ hP hD hS hA [0, 1, 2, 3, 4, 5, 6, 7, 8] rfl rfl 8 0 rfl rfl rfl rfl hl.1 rfl (Nat.le_of_ble_eq_true rfl) dX11_precedes_36 ⟨Nat.zero_le _, Nat.zero_le _⟩ (fun H locs hP hS => ?_)
        refine lv_iadd (pc := 39) hx hb dX11_precedes_39 ?_
        refine lv_icmp_ge (pc := 40) (tgt := 69) hx hb dX11_precedes_40 (by decide) (fun hc => ?_) (fun hc => ?_)
        · have hf := br_y hc hf
          refine lv_iconst (pc := 69) (v := (0 : Int32)) hx hb dX11_precedes_69 (by decide) ?_
          have hf := Option.some.inj hf; subst hf
          rw [← hQ]
          exact g_zret (v := (0 : Int32)) hx hb hr hlocks rfl hP hS dX11_precedes_70
        · have hf := br_n hc hf
          refine lv_aload_n (pc := 43) hx hb dX11_precedes_43 rfl (lv_at hl 0 rfl) ?_
          refine lv_iload_n (pc := 44) hx hb dX11_precedes_44 rfl (lv_at hl 2 rfl) ?_
          refine lv_iconst (pc := 45) (v := (2 : Int32)) hx hb dX11_precedes_45 (by decide) ?_
          obtain ⟨x6, hcx6, hf⟩ := bn_some hf
          refine g_callV0 (pc := 46) (rest := []) hx hb hml hown hts hK (c_X11_of l G hw0_0 hw0_1 hw0_2 hw0_3 hw0_4 hw0_5 hw0_6 hw0_7 hw0_8 w0 p2 (2 : Int32) hcx6) wd_1010 wd_10 wd_1007 wd_1009 ws_22 hd_X11_of ⟨rfl, rfl, Nat.le_of_ble_eq_true rfl, Nat.le_of_ble_eq_true rfl⟩ hP hD hS hA [0, 1, 2, 3, 4, 5, 6, 7, 8] rfl rfl 8 0 rfl rfl rfl rfl hl.1 rfl (Nat.le_of_ble_eq_true rfl) dX11_precedes_46 ⟨Nat.zero_le _, Nat.zero_le _⟩ (fun H locs hP hS => ?_)
          refine lv_aload_n (pc := 49) hx hb dX11_precedes_49 rfl (lv_at hl 0 rfl) ?_
          refine lv_iload_n (pc := 50) hx hb dX11_precedes_50 rfl (lv_at hl 1 rfl) ?_
          refine lv_iconst (pc := 51) (v := (1 : Int32)) hx hb dX11_precedes_51 (by decide) ?_
          obtain ⟨x7, hcx7, hf⟩ := bn_some hf
          refine g_callV0 (pc := 52) (rest := [.int x6]) hx hb hml hown hts hK (c_X11_of l G hw0_0 hw0_1 hw0_2 hw0_3 hw0_4 hw0_5 hw0_6 hw0_7 hw0_8 w0 p1 (1 : Int32) hcx7) wd_1010 wd_10 wd_1007 wd_1009 ws_22 hd_X11_of ⟨rfl, rfl, Nat.le_of_ble_eq_true rfl, Nat.le_of_ble_eq_true rfl⟩ hP hD hS hA [0, 1, 2, 3, 4, 5, 6, 7, 8] rfl rfl 8 0 rfl rfl rfl rfl hl.1 rfl (Nat.le_of_ble_eq_true rfl) dX11_precedes_52 ⟨Nat.zero_le _, Nat.zero_le _⟩ (fun H locs hP hS => ?_)
          refine lv_aload_n (pc := 55) hx hb dX11_precedes_55 rfl (lv_at hl 0 rfl) ?_
          refine lv_iload_n (pc := 56) hx hb dX11_precedes_56 rfl (lv_at hl 1 rfl) ?_
          refine lv_iconst (pc := 57) (v := (3 : Int32)) hx hb dX11_precedes_57 (by decide) ?_
          obtain ⟨x8, hcx8, hf⟩ := bn_some hf
          refine g_callV0 (pc := 58) (rest := [.int x7, .int x6]) hx hb hml hown hts hK (c_X11_of l G hw0_0 hw0_1 hw0_2 hw0_3 hw0_4 hw0_5 hw0_6 hw0_7 hw0_8 w0 p1 (3 : Int32) hcx8) wd_1010 wd_10 wd_1007 wd_1009 ws_22 hd_X11_of ⟨rfl, rfl, Nat.le_of_ble_eq_true rfl, Nat.le_of_ble_eq_true rfl⟩ hP hD hS hA [0, 1, 2, 3, 4, 5, 6, 7, 8] rfl rfl 8 0 rfl rfl rfl rfl hl.1 rfl (Nat.le_of_ble_eq_true rfl) dX11_precedes_58 ⟨Nat.zero_le _, Nat.zero_le _⟩ (fun H locs hP hS => ?_)
          refine lv_iadd (pc := 61) hx hb dX11_precedes_61 ?_
          refine lv_icmp_ge (pc := 62) (tgt := 69) hx hb dX11_precedes_62 (by decide) (fun hc => ?_) (fun hc => ?_)
          · have hf := br_y hc hf
            refine lv_iconst (pc := 69) (v := (0 : Int32)) hx hb dX11_precedes_69 (by decide) ?_
            have hf := Option.some.inj hf; subst hf
            rw [← hQ]
            exact g_zret (v := (0 : Int32)) hx hb hr hlocks rfl hP hS dX11_precedes_70
          · have hf := br_n hc hf
            refine lv_iconst (pc := 65) (v := (1 : Int32)) hx hb dX11_precedes_65 (by decide) ?_
            refine lv_goto (pc := 66) (tgt := 70) hx hb dX11_precedes_66 (by decide) ?_
            have hf := Option.some.inj hf; subst hf
            rw [← hQ]
            exact g_zret (v := (1 : Int32)) hx hb hr hlocks rfl hP hS dX11_precedes_70
theorem hd_X11_mustPrecede : yX11_mustPrecede.cls ≠ "java/lang/invoke/MethodHandle" ∧ yX11_mustPrecede.cls ≠ "java/lang/invoke/VarHandle" ∧ (parseMethodDescriptor yX11_mustPrecede.desc).map (fun d => d.parameters.length) = some 2 := by decide +kernel
abbrev rm_X11_mustPrecede : Room := { frames := 3, cells := 0, slots := 0, locals := 65 }
noncomputable def f_X11_mustPrecede_J22 (p1 : Int32) (p2 : Int32)  (w0 : TModel) (s0 : Int32) : Option (Int32 × TModel) :=
  (f_X11_goes w0 s0 (1 : Int32)).bind (fun x2 => br (x2.1 = 0) (some ((0 : Int32), x2.2)) ((f_X11_precedes x2.2 p1 p2).bind (fun x3 => br (x3 = 0) (some ((0 : Int32), x2.2)) (some ((1 : Int32), x2.2)))))
noncomputable def f_X11_mustPrecede_J21 (p1 : Int32) (p2 : Int32)  (w0 : TModel) : Option (Int32 × TModel) :=
  f_X11_mustPrecede_J22 p1 p2 w0 (0 : Int32)
noncomputable def f_X11_mustPrecede (w0 : TModel) (p1 : Int32) (p2 : Int32) : Option (Int32 × TModel) :=
  (f_X11_isCommand w0 p1).bind (fun x1 => br (x1 = 0) (f_X11_mustPrecede_J21 p1 p2 w0) ((f_X11_isCommand w0 p2).bind (fun x4 => br (x4 = 0) (f_X11_mustPrecede_J21 p1 p2 w0) (f_X11_mustPrecede_J22 p1 p2 w0 (1 : Int32)))))
set_option maxHeartbeats 4000000 in
set_option maxRecDepth 100000 in
theorem c_X11_mustPrecede (l : Launch) (G : GT) (hw0_0 hw0_1 hw0_2 hw0_3 hw0_4 hw0_5 hw0_6 hw0_7 hw0_8 : Nat) (w0 : TModel) (p1 : Int32) (p2 : Int32) {r : Int32 × TModel} (hf : f_X11_mustPrecede w0 p1 p2 = some r) : Ct l yX11_mustPrecede (Cond.code yX11_mustPrecede cX11_mustPrecede 3 (some .boolean) :: lw_g) rm_X11_mustPrecede G [.ref hw0_0, .int p1, .int p2] [(hw0_0, .inr (8, [.ref hw0_1, .ref hw0_2, .int w0.2.2.1, .int w0.2.2.2.1, .ref hw0_3, .ref hw0_4, .int w0.2.2.2.2.2.2.1, .int w0.2.2.2.2.2.2.2.1, .int w0.2.2.2.2.2.2.2.2.1, .ref hw0_5, .ref hw0_6, .ref hw0_7, .int w0.2.2.2.2.2.2.2.2.2.2.2.2.1, .ref hw0_8])), (hw0_1, .inl (G.2.1, 617, .inl w0.1)), (hw0_2, .inl (G.2.1, 2468, .inl w0.2.1)), (hw0_3, .inl (G.2.1, 30, .inl w0.2.2.2.2.1)), (hw0_4, .inl (G.2.1, 4000, .inl w0.2.2.2.2.2.1)), (hw0_5, .inl (G.2.1, 120, .inl w0.2.2.2.2.2.2.2.2.2.1)), (hw0_6, .inl (G.2.1, 64, .inl w0.2.2.2.2.2.2.2.2.2.2.1)), (hw0_7, .inl (G.2.2.1, 64, .inl w0.2.2.2.2.2.2.2.2.2.2.2.1)), (hw0_8, .inl (G.2.1, 64, .inl w0.2.2.2.2.2.2.2.2.2.2.2.2.2))] (some (.int r.1)) [(hw0_0, .inr (8, [.ref hw0_1, .ref hw0_2, .int r.2.2.2.1, .int r.2.2.2.2.1, .ref hw0_3, .ref hw0_4, .int r.2.2.2.2.2.2.2.1, .int r.2.2.2.2.2.2.2.2.1, .int r.2.2.2.2.2.2.2.2.2.1, .ref hw0_5, .ref hw0_6, .ref hw0_7, .int r.2.2.2.2.2.2.2.2.2.2.2.2.2.1, .ref hw0_8])), (hw0_1, .inl (G.2.1, 617, .inl r.2.1)), (hw0_2, .inl (G.2.1, 2468, .inl r.2.2.1)), (hw0_3, .inl (G.2.1, 30, .inl r.2.2.2.2.2.1)), (hw0_4, .inl (G.2.1, 4000, .inl r.2.2.2.2.2.2.1)), (hw0_5, .inl (G.2.1, 120, .inl r.2.2.2.2.2.2.2.2.2.2.1)), (hw0_6, .inl (G.2.1, 64, .inl r.2.2.2.2.2.2.2.2.2.2.2.1)), (hw0_7, .inl (G.2.2.1, 64, .inl r.2.2.2.2.2.2.2.2.2.2.2.2.1)), (hw0_8, .inl (G.2.1, 64, .inl r.2.2.2.2.2.2.2.2.2.2.2.2.2.2))] := by
  refine Ct.ofW (cc := cX11_mustPrecede) (maxL := 3) (ret := (some .boolean)) (own := RX11) (by decide) rfl rfl (Nat.le_of_ble_eq_true rfl) ?_
  intro p e s m args below meth c A hx hb hr hml hts hown hlocks hK hP hD hA hS ls hl
  have hl : lv_has ls 3 [(0, .ref hw0_0), (1, .int p1), (2, .int p2)] := hl
  generalize hQ : gMQ below G _ _ A args s = Q
  generalize hH : s.heap = H at hP ⊢
  have hS : va_S A s.heap H [] := by rw [← hH]; exact hS
  generalize ([] : List Loc) = locs at hS ⊢
  unfold f_X11_mustPrecede at hf
  have hJ22 : ∀ (w0 : TModel) (s0 : Int32), f_X11_mustPrecede_J22 p1 p2  w0 s0 = some r → ∀ (H : Heap) (locs : List Loc), va_P G.1 vwCl [(hw0_0, .inr (8, [.ref hw0_1, .ref hw0_2, .int w0.2.2.1, .int w0.2.2.2.1, .ref hw0_3, .ref hw0_4, .int w0.2.2.2.2.2.2.1, .int w0.2.2.2.2.2.2.2.1, .int w0.2.2.2.2.2.2.2.2.1, .ref hw0_5, .ref hw0_6, .ref hw0_7, .int w0.2.2.2.2.2.2.2.2.2.2.2.2.1, .ref hw0_8])), (hw0_1, .inl (G.2.1, 617, .inl w0.1)), (hw0_2, .inl (G.2.1, 2468, .inl w0.2.1)), (hw0_3, .inl (G.2.1, 30, .inl w0.2.2.2.2.1)), (hw0_4, .inl (G.2.1, 4000, .inl w0.2.2.2.2.2.1)), (hw0_5, .inl (G.2.1, 120, .inl w0.2.2.2.2.2.2.2.2.2.1)), (hw0_6, .inl (G.2.1, 64, .inl w0.2.2.2.2.2.2.2.2.2.2.1)), (hw0_7, .inl (G.2.2.1, 64, .inl w0.2.2.2.2.2.2.2.2.2.2.2.1)), (hw0_8, .inl (G.2.1, 64, .inl w0.2.2.2.2.2.2.2.2.2.2.2.2.2))] H → va_D A [(hw0_0, .inr (8, [.ref hw0_1, .ref hw0_2, .int w0.2.2.1, .int w0.2.2.2.1, .ref hw0_3, .ref hw0_4, .int w0.2.2.2.2.2.2.1, .int w0.2.2.2.2.2.2.2.1, .int w0.2.2.2.2.2.2.2.2.1, .ref hw0_5, .ref hw0_6, .ref hw0_7, .int w0.2.2.2.2.2.2.2.2.2.2.2.2.1, .ref hw0_8])), (hw0_1, .inl (G.2.1, 617, .inl w0.1)), (hw0_2, .inl (G.2.1, 2468, .inl w0.2.1)), (hw0_3, .inl (G.2.1, 30, .inl w0.2.2.2.2.1)), (hw0_4, .inl (G.2.1, 4000, .inl w0.2.2.2.2.2.1)), (hw0_5, .inl (G.2.1, 120, .inl w0.2.2.2.2.2.2.2.2.2.1)), (hw0_6, .inl (G.2.1, 64, .inl w0.2.2.2.2.2.2.2.2.2.2.1)), (hw0_7, .inl (G.2.2.1, 64, .inl w0.2.2.2.2.2.2.2.2.2.2.2.1)), (hw0_8, .inl (G.2.1, 64, .inl w0.2.2.2.2.2.2.2.2.2.2.2.2.2))] → va_S A s.heap H locs → ∀ (ls : Array Slot), lv_has ls 3 [(0, .ref hw0_0), (1, .int p1), (2, .int p2)] → W p l e (rm_X11_mustPrecede) s m args below meth c H locs 0 0 Q (F0 m 22 ls [.int s0, .ref hw0_0]) := by
    intro w0 s0 hf H locs hP hD hS ls hl
    unfold f_X11_mustPrecede_J22 at hf
    refine lv_iconst (pc := 22) (v := (1 : Int32)) hx hb dX11_mustPrecede_22 (by decide) ?_
    obtain ⟨x2, hcx2, hf⟩ := bn_some hf
    refine g_callV (pc := 23) (ws' := [(hw0_0, .inr (8, [.ref hw0_1, .ref hw0_2, .int x2.2.2.2.1, .int x2.2.2.2.2.1, .ref hw0_3, .ref hw0_4, .int x2.2.2.2.2.2.2.2.1, .int x2.2.2.2.2.2.2.2.2.1, .int x2.2.2.2.2.2.2.2.2.2.1, .ref hw0_5, .ref hw0_6, .ref hw0_7, .int x2.2.2.2.2.2.2.2.2.2.2.2.2.2.1, .ref hw0_8])), (hw0_1, .inl (G.2.1, 617, .inl x2.2.1)), (hw0_2, .inl (G.2.1, 2468, .inl x2.2.2.1)), (hw0_3, .inl (G.2.1, 30, .inl x2.2.2.2.2.2.1)), (hw0_4, .inl (G.2.1, 4000, .inl x2.2.2.2.2.2.2.1)), (hw0_5, .inl (G.2.1, 120, .inl x2.2.2.2.2.2.2.2.2.2.2.1)), (hw0_6, .inl (G.2.1, 64, .inl x2.2.2.2.2.2.2.2.2.2.2.2.1)), (hw0_7, .inl (G.2.2.1, 64, .inl x2.2.2.2.2.2.2.2.2.2.2.2.2.1)), (hw0_8, .inl (G.2.1, 64, .inl x2.2.2.2.2.2.2.2.2.2.2.2.2.2.2))]) (rest := []) hx hb hml hown hts hK (c_X11_goes l G hw0_0 hw0_1 hw0_2 hw0_3 hw0_4 hw0_5 hw0_6 hw0_7 hw0_8 w0 s0 (1 : Int32) hcx2) wd_949 wd_10 wd_946 wd_948 ws_13 hd_X11_goes ⟨rfl, rfl, Nat.le_of_ble_eq_true rfl, Nat.le_of_ble_eq_true rfl⟩ hP hD hS hA [0, 1, 2, 3, 4, 5, 6, 7, 8] rfl rfl rfl rfl 8 0 rfl rfl rfl rfl hl.1 rfl (Nat.le_of_ble_eq_true rfl) dX11_mustPrecede_23 ⟨Nat.zero_le _, Nat.zero_le _⟩ (fun H locs hP hD hS => ?_)
    refine lv_if_eq (pc := 26) (tgt := 42) hx hb dX11_mustPrecede_26 (by decide) (fun hc => ?_) (fun hc => ?_)
    · have hf := br_y hc hf
      refine lv_iconst (pc := 42) (v := (0 : Int32)) hx hb dX11_mustPrecede_42 (by decide) ?_
      have hf := Option.some.inj hf; subst hf
      rw [← hQ]
      exact g_zret (v := (0 : Int32)) hx hb hr hlocks rfl hP hS dX11_mustPrecede_43
    · have hf := br_n hc hf
      refine lv_aload_n (pc := 29) hx hb dX11_mustPrecede_29 rfl (lv_at hl 0 rfl) ?_
      refine lv_iload_n (pc := 30) hx hb dX11_mustPrecede_30 rfl (lv_at hl 1 rfl) ?_
      refine lv_iload_n (pc := 31) hx hb dX11_mustPrecede_31 rfl (lv_at hl 2 rfl) ?_
      obtain ⟨x3, hcx3, hf⟩ := bn_some hf
      refine g_callV0 (pc := 32) (rest := []) hx hb hml hown hts hK (c_X11_precedes l G hw0_0 hw0_1 hw0_2 hw0_3 hw0_4 hw0_5 hw0_6 hw0_7 hw0_8 x2.2 p1 p2 hcx3) wd_1018 wd_10 wd_1015 wd_1017 ws_23 hd_X11_precedes ⟨rfl, rfl, Nat.le_of_ble_eq_true rfl, Nat.le_of_ble_eq_true rfl⟩ hP hD hS hA [0, 1, 2, 3, 4, 5, 6, 7, 8] rfl rfl 8 0 rfl rfl rfl rfl hl.1 rfl (Nat.le_of_ble_eq_true rfl) dX11_mustPrecede_32 ⟨Nat.zero_le _, Nat.zero_le _⟩ (fun H locs hP hS => ?_)
      refine lv_if_eq (pc := 35) (tgt := 42) hx hb dX11_mustPrecede_35 (by decide) (fun hc => ?_) (fun hc => ?_)
      · have hf := br_y hc hf
        refine lv_iconst (pc := 42) (v := (0 : Int32)) hx hb dX11_mustPrecede_42 (by decide) ?_
        have hf := Option.some.inj hf; subst hf
        rw [← hQ]
        exact g_zret (v := (0 : Int32)) hx hb hr hlocks rfl hP hS dX11_mustPrecede_43
      · have hf := br_n hc hf
        refine lv_iconst (pc := 38) (v := (1 : Int32)) hx hb dX11_mustPrecede_38 (by decide) ?_
        refine lv_goto (pc := 39) (tgt := 43) hx hb dX11_mustPrecede_39 (by decide) ?_
        have hf := Option.some.inj hf; subst hf
        rw [← hQ]
        exact g_zret (v := (1 : Int32)) hx hb hr hlocks rfl hP hS dX11_mustPrecede_43
  have hJ21 : ∀ (w0 : TModel), f_X11_mustPrecede_J21 p1 p2  w0 = some r → ∀ (H : Heap) (locs : List Loc), va_P G.1 vwCl [(hw0_0, .inr (8, [.ref hw0_1, .ref hw0_2, .int w0.2.2.1, .int w0.2.2.2.1, .ref hw0_3, .ref hw0_4, .int w0.2.2.2.2.2.2.1, .int w0.2.2.2.2.2.2.2.1, .int w0.2.2.2.2.2.2.2.2.1, .ref hw0_5, .ref hw0_6, .ref hw0_7, .int w0.2.2.2.2.2.2.2.2.2.2.2.2.1, .ref hw0_8])), (hw0_1, .inl (G.2.1, 617, .inl w0.1)), (hw0_2, .inl (G.2.1, 2468, .inl w0.2.1)), (hw0_3, .inl (G.2.1, 30, .inl w0.2.2.2.2.1)), (hw0_4, .inl (G.2.1, 4000, .inl w0.2.2.2.2.2.1)), (hw0_5, .inl (G.2.1, 120, .inl w0.2.2.2.2.2.2.2.2.2.1)), (hw0_6, .inl (G.2.1, 64, .inl w0.2.2.2.2.2.2.2.2.2.2.1)), (hw0_7, .inl (G.2.2.1, 64, .inl w0.2.2.2.2.2.2.2.2.2.2.2.1)), (hw0_8, .inl (G.2.1, 64, .inl w0.2.2.2.2.2.2.2.2.2.2.2.2.2))] H → va_D A [(hw0_0, .inr (8, [.ref hw0_1, .ref hw0_2, .int w0.2.2.1, .int w0.2.2.2.1, .ref hw0_3, .ref hw0_4, .int w0.2.2.2.2.2.2.1, .int w0.2.2.2.2.2.2.2.1, .int w0.2.2.2.2.2.2.2.2.1, .ref hw0_5, .ref hw0_6, .ref hw0_7, .int w0.2.2.2.2.2.2.2.2.2.2.2.2.1, .ref hw0_8])), (hw0_1, .inl (G.2.1, 617, .inl w0.1)), (hw0_2, .inl (G.2.1, 2468, .inl w0.2.1)), (hw0_3, .inl (G.2.1, 30, .inl w0.2.2.2.2.1)), (hw0_4, .inl (G.2.1, 4000, .inl w0.2.2.2.2.2.1)), (hw0_5, .inl (G.2.1, 120, .inl w0.2.2.2.2.2.2.2.2.2.1)), (hw0_6, .inl (G.2.1, 64, .inl w0.2.2.2.2.2.2.2.2.2.2.1)), (hw0_7, .inl (G.2.2.1, 64, .inl w0.2.2.2.2.2.2.2.2.2.2.2.1)), (hw0_8, .inl (G.2.1, 64, .inl w0.2.2.2.2.2.2.2.2.2.2.2.2.2))] → va_S A s.heap H locs → ∀ (ls : Array Slot), lv_has ls 3 [(0, .ref hw0_0), (1, .int p1), (2, .int p2)] → W p l e (rm_X11_mustPrecede) s m args below meth c H locs 0 0 Q (F0 m 21 ls [.ref hw0_0]) := by
    intro w0 hf H locs hP hD hS ls hl
    unfold f_X11_mustPrecede_J21 at hf
    refine lv_iconst (pc := 21) (v := (0 : Int32)) hx hb dX11_mustPrecede_21 (by decide) ?_
    exact hJ22 w0 (0 : Int32) hf H locs hP hD hS ls (lv_sub hl [0, 1, 2] rfl)
  refine lv_aload_n (pc := 0) hx hb dX11_mustPrecede_0 rfl (lv_at hl 0 rfl) ?_
  refine lv_aload_n (pc := 1) hx hb dX11_mustPrecede_1 rfl (lv_at hl 0 rfl) ?_
  refine lv_iload_n (pc := 2) hx hb dX11_mustPrecede_2 rfl (lv_at hl 1 rfl) ?_
  obtain ⟨x1, hcx1, hf⟩ := bn_some hf
  refine g_callV0 (pc := 3) (rest := [.ref hw0_0]) hx hb hml hown hts hK (c_X11_isCommand l G hw0_0 hw0_1 hw0_2 hw0_3 hw0_4 hw0_5 hw0_6 hw0_7 hw0_8 w0 p1 hcx1) wd_1005 wd_10 wd_1002 wd_1004 ws_21 hd_X11_isCommand ⟨rfl, rfl, Nat.le_of_ble_eq_true rfl, Nat.le_of_ble_eq_true rfl⟩ hP hD hS hA [0, 1, 2, 3, 4, 5, 6, 7, 8] rfl rfl 8 0 rfl rfl rfl rfl hl.1 rfl (Nat.le_of_ble_eq_true rfl) dX11_mustPrecede_3 ⟨Nat.zero_le _, Nat.zero_le _⟩ (fun H locs hP hS => ?_)
  refine lv_if_eq (pc := 6) (tgt := 21) hx hb dX11_mustPrecede_6 (by decide) (fun hc => ?_) (fun hc => ?_)
  · have hf := br_y hc hf
    exact hJ21 w0 hf H locs hP hD hS ls (lv_sub hl [0, 1, 2] rfl)
  · have hf := br_n hc hf
    refine lv_aload_n (pc := 9) hx hb dX11_mustPrecede_9 rfl (lv_at hl 0 rfl) ?_
    refine lv_iload_n (pc := 10) hx hb dX11_mustPrecede_10 rfl (lv_at hl 2 rfl) ?_
    obtain ⟨x4, hcx4, hf⟩ := bn_some hf
    refine g_callV0 (pc := 11) (rest := [.ref hw0_0]) hx hb hml hown hts hK (c_X11_isCommand l G hw0_0 hw0_1 hw0_2 hw0_3 hw0_4 hw0_5 hw0_6 hw0_7 hw0_8 w0 p2 hcx4) wd_1005 wd_10 wd_1002 wd_1004 ws_21 hd_X11_isCommand ⟨rfl, rfl, Nat.le_of_ble_eq_true rfl, Nat.le_of_ble_eq_true rfl⟩ hP hD hS hA [0, 1, 2, 3, 4, 5, 6, 7, 8] rfl rfl 8 0 rfl rfl rfl rfl hl.1 rfl (Nat.le_of_ble_eq_true rfl) dX11_mustPrecede_11 ⟨Nat.zero_le _, Nat.zero_le _⟩ (fun H locs hP hS => ?_)
    refine lv_if_eq (pc := 14) (tgt := 21) hx hb dX11_mustPrecede_14 (by decide) (fun hc => ?_) (fun hc => ?_)
    · have hf := br_y hc hf
      exact hJ21 w0 hf H locs hP hD hS ls (lv_sub hl [0, 1, 2] rfl)
    · have hf := br_n hc hf
      refine lv_iconst (pc := 17) (v := (1 : Int32)) hx hb dX11_mustPrecede_17 (by decide) ?_
      refine lv_goto (pc := 18) (tgt := 22) hx hb dX11_mustPrecede_18 (by decide) ?_
      exact hJ22 w0 (1 : Int32) hf H locs hP hD hS ls (lv_sub hl [0, 1, 2] rfl)
