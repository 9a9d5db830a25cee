theorem hd_X2_has : yX2_has.cls ≠ "java/lang/invoke/MethodHandle" ∧ yX2_has.cls ≠ "java/lang/invoke/VarHandle" ∧ (parseMethodDescriptor yX2_has.desc).map (fun d => d.parameters.length) = some 1 := by decide +kernel
abbrev rm_X2_has : Room := { frames := 0, cells := 0, slots := 0, locals := 0 }
noncomputable def f_X2_has (w0 : TDelta) (p1 : Int32) : Option Int32 :=
  br (p1 < 0) (some (0 : Int32)) (br (w0.2.2.2.2.2.2.2.2.1 ≤ p1) (some (0 : Int32)) (some (1 : Int32)))
set_option maxHeartbeats 4000000 in
set_option maxRecDepth 100000 in
theorem c_X2_has (l : Launch) (G : GT) (hw0_0 hw0_1 hw0_2 hw0_3 hw0_4 hw0_5 hw0_6 : Nat) (w0 : TDelta) (p1 : Int32) {r : Int32} (hf : f_X2_has w0 p1 = some r) : Ct l yX2_has (Cond.code yX2_has cX2_has 2 (some .boolean) :: lw_g) rm_X2_has G [.ref hw0_0, .int p1] [(hw0_0, .inr (2, [.ref hw0_1, .ref hw0_2, .ref hw0_3, .ref hw0_4, .ref hw0_5, .ref hw0_6, .int w0.2.2.2.2.2.2.1, .int w0.2.2.2.2.2.2.2.1, .int w0.2.2.2.2.2.2.2.2.1, .int w0.2.2.2.2.2.2.2.2.2.1, .int w0.2.2.2.2.2.2.2.2.2.2])), (hw0_1, .inl (G.2.1, 30, .inl w0.1)), (hw0_2, .inl (G.2.1, 30, .inl w0.2.1)), (hw0_3, .inl (G.2.1, 30, .inl w0.2.2.1)), (hw0_4, .inl (G.2.1, 30, .inl w0.2.2.2.1)), (hw0_5, .inl (G.2.1, 30, .inl w0.2.2.2.2.1)), (hw0_6, .inl (G.2.1, 64, .inl w0.2.2.2.2.2.1))] (some (.int r)) [(hw0_0, .inr (2, [.ref hw0_1, .ref hw0_2, .ref hw0_3, .ref hw0_4, .ref hw0_5, .ref hw0_6, .int w0.2.2.2.2.2.2.1, .int w0.2.2.2.2.2.2.2.1, .int w0.2.2.2.2.2.2.2.2.1, .int w0.2.2.2.2.2.2.2.2.2.1, .int w0.2.2.2.2.2.2.2.2.2.2])), (hw0_1, .inl (G.2.1, 30, .inl w0.1)), (hw0_2, .inl (G.2.1, 30, .inl w0.2.1)), (hw0_3, .inl (G.2.1, 30, .inl w0.2.2.1)), (hw0_4, .inl (G.2.1, 30, .inl w0.2.2.2.1)), (hw0_5, .inl (G.2.1, 30, .inl w0.2.2.2.2.1)), (hw0_6, .inl (G.2.1, 64, .inl w0.2.2.2.2.2.1))] := by
  refine Ct.ofW (cc := cX2_has) (maxL := 2) (ret := (some .boolean)) (own := RX2) (by decide) rfl rfl (Nat.le_of_ble_eq_true rfl) ?_
  intro p e s m args below meth c A hx hb hr hml hts hown hlocks hK hP hD hA hS ls hl
  have hl : lv_has ls 2 [(0, .ref hw0_0), (1, .int p1)] := hl
  generalize hQ : gMQ below G _ _ A args s = Q
  generalize hH : s.heap = H at hP ⊢
  have hS : va_S A s.heap H [] := by rw [← hH]; exact hS
  generalize ([] : List Loc) = locs at hS ⊢
  unfold f_X2_has at hf
  refine lv_iload_n (pc := 0) hx hb dX2_has_0 rfl (lv_at hl 1 rfl) ?_
  refine lv_if_lt (pc := 1) (tgt := 16) hx hb dX2_has_1 (by decide) (fun hc => ?_) (fun hc => ?_)
  · have hf := br_y hc hf
    refine lv_iconst (pc := 16) (v := (0 : Int32)) hx hb dX2_has_16 (by decide) ?_
    have hf := Option.some.inj hf; subst hf
    rw [← hQ]
    exact g_zret (v := (0 : Int32)) hx hb hr hlocks rfl hP hS dX2_has_17
  · have hf := br_n hc hf
    refine lv_iload_n (pc := 4) hx hb dX2_has_4 rfl (lv_at hl 1 rfl) ?_
    refine lv_aload_n (pc := 5) hx hb dX2_has_5 rfl (lv_at hl 0 rfl) ?_
    refine va_get (pc := 6) (D := G.1) (ci := 2) (v := .int w0.2.2.2.2.2.2.2.2.1) (C := RX2) (T := TX2) (N := 11) hx hb hts inX2 hown hK.1 hP 0 rfl rfl 8 (by decide) (hts _ wd_77) (fun _ h9 => h9) rfl dX2_has_6 ?_
    refine lv_icmp_ge (pc := 9) (tgt := 16) hx hb dX2_has_9 (by decide) (fun hc => ?_) (fun hc => ?_)
    · have hf := br_y hc hf
      refine lv_iconst (pc := 16) (v := (0 : Int32)) hx hb dX2_has_16 (by decide) ?_
      have hf := Option.some.inj hf; subst hf
      rw [← hQ]
      exact g_zret (v := (0 : Int32)) hx hb hr hlocks rfl hP hS dX2_has_17
    · have hf := br_n hc hf
      refine lv_iconst (pc := 12) (v := (1 : Int32)) hx hb dX2_has_12 (by decide) ?_
      refine lv_goto (pc := 13) (tgt := 17) hx hb dX2_has_13 (by decide) ?_
      have hf := Option.some.inj hf; subst hf
      rw [← hQ]
      exact g_zret (v := (1 : Int32)) hx hb hr hlocks rfl hP hS dX2_has_17
theorem hd_X2_isCopy : yX2_isCopy.cls ≠ "java/lang/invoke/MethodHandle" ∧ yX2_isCopy.cls ≠ "java/lang/invoke/VarHandle" ∧ (parseMethodDescriptor yX2_isCopy.desc).map (fun d => d.parameters.length) = some 1 := by decide +kernel
abbrev rm_X2_isCopy : Room := { frames := 1, cells := 0, slots := 0, locals := 21 }
noncomputable def f_X2_isCopy (w0 : TDelta) (p1 : Int32) : Option Int32 :=
  (f_X10_isIn w0.2.2.2.2.2.2.2.2.2.1 p1).bind (fun x1 => gd (x1 = 0 ∨ x1 = 1) (some x1))
set_option maxHeartbeats 4000000 in
set_option maxRecDepth 100000 in
theorem c_X2_isCopy (l : Launch) (G : GT) (hw0_0 hw0_1 hw0_2 hw0_3 hw0_4 hw0_5 hw0_6 : Nat) (w0 : TDelta) (p1 : Int32) {r : Int32} (hf : f_X2_isCopy w0 p1 = some r) : Ct l yX2_isCopy (Cond.code yX2_isCopy cX2_isCopy 2 (some .boolean) :: lw_g) rm_X2_isCopy G [.ref hw0_0, .int p1] [(hw0_0, .inr (2, [.ref hw0_1, .ref hw0_2, .ref hw0_3, .ref hw0_4, .ref hw0_5, .ref hw0_6, .int w0.2.2.2.2.2.2.1, .int w0.2.2.2.2.2.2.2.1, .int w0.2.2.2.2.2.2.2.2.1, .int w0.2.2.2.2.2.2.2.2.2.1, .int w0.2.2.2.2.2.2.2.2.2.2])), (hw0_1, .inl (G.2.1, 30, .inl w0.1)), (hw0_2, .inl (G.2.1, 30, .inl w0.2.1)), (hw0_3, .inl (G.2.1, 30, .inl w0.2.2.1)), (hw0_4, .inl (G.2.1, 30, .inl w0.2.2.2.1)), (hw0_5, .inl (G.2.1, 30, .inl w0.2.2.2.2.1)), (hw0_6, .inl (G.2.1, 64, .inl w0.2.2.2.2.2.1))] (some (.int r)) [(hw0_0, .inr (2, [.ref hw0_1, .ref hw0_2, .ref hw0_3, .ref hw0_4, .ref hw0_5, .ref hw0_6, .int w0.2.2.2.2.2.2.1, .int w0.2.2.2.2.2.2.2.1, .int w0.2.2.2.2.2.2.2.2.1, .int w0.2.2.2.2.2.2.2.2.2.1, .int w0.2.2.2.2.2.2.2.2.2.2])), (hw0_1, .inl (G.2.1, 30, .inl w0.1)), (hw0_2, .inl (G.2.1, 30, .inl w0.2.1)), (hw0_3, .inl (G.2.1, 30, .inl w0.2.2.1)), (hw0_4, .inl (G.2.1, 30, .inl w0.2.2.2.1)), (hw0_5, .inl (G.2.1, 30, .inl w0.2.2.2.2.1)), (hw0_6, .inl (G.2.1, 64, .inl w0.2.2.2.2.2.1))] := by
  refine Ct.ofW (cc := cX2_isCopy) (maxL := 2) (ret := (some .boolean)) (own := RX2) (by decide) rfl rfl (Nat.le_of_ble_eq_true rfl) ?_
  intro p e s m args below meth c A hx hb hr hml hts hown hlocks hK hP hD hA hS ls hl
  have hl : lv_has ls 2 [(0, .ref hw0_0), (1, .int p1)] := hl
  generalize hQ : gMQ below G _ _ A args s = Q
  generalize hH : s.heap = H at hP ⊢
  have hS : va_S A s.heap H [] := by rw [← hH]; exact hS
  generalize ([] : List Loc) = locs at hS ⊢
  unfold f_X2_isCopy at hf
  refine lv_aload_n (pc := 0) hx hb dX2_isCopy_0 rfl (lv_at hl 0 rfl) ?_
  refine va_get (pc := 1) (D := G.1) (ci := 2) (v := .int w0.2.2.2.2.2.2.2.2.2.1) (C := RX2) (T := TX2) (N := 11) hx hb hts inX2 hown hK.1 hP 0 rfl rfl 9 (by decide) (hts _ wd_83) (fun _ h9 => h9) rfl dX2_isCopy_1 ?_
  refine lv_iload_n (pc := 4) hx hb dX2_isCopy_4 rfl (lv_at hl 1 rfl) ?_
  obtain ⟨x1, hcx1, hf⟩ := bn_some hf
  refine g_callSN0 (pc := 5) (rest := []) hx hb hml hown hts hK (c_X10_isIn l G  w0.2.2.2.2.2.2.2.2.2.1 p1 hcx1) wd_333 wd_1 (nmw_331 hK) wd_332 hd_X10_isIn ⟨rfl, rfl, Nat.le_of_ble_eq_true rfl, Nat.le_of_ble_eq_true rfl⟩ hP hD hS hA [] rfl rfl rfl hl.1 rfl (Nat.le_of_ble_eq_true rfl) dX2_isCopy_5 ⟨Nat.zero_le _, Nat.zero_le _⟩ (fun H locs hP hS => ?_)
  obtain ⟨hg, hf⟩ := gd_some hf
  have hf := Option.some.inj hf; subst hf
  rw [← hQ]
  exact g_zret hx hb hr hlocks (z01 hg) hP hS dX2_isCopy_8
theorem hd_X2_mayCopy : yX2_mayCopy.cls ≠ "java/lang/invoke/MethodHandle" ∧ yX2_mayCopy.cls ≠ "java/lang/invoke/VarHandle" ∧ (parseMethodDescriptor yX2_mayCopy.desc).map (fun d => d.parameters.length) = some 0 := by decide +kernel
abbrev rm_X2_mayCopy : Room := { frames := 1, cells := 0, slots := 0, locals := 20 }
noncomputable def f_X2_mayCopy (w0 : TDelta) : Option Int32 :=
  (f_J6_bitCount_0f7a4 w0.2.2.2.2.2.2.2.2.2.1).bind (fun x1 => br ((12 : Int32) ≤ x1) (some (0 : Int32)) (some (1 : Int32)))
set_option maxHeartbeats 4000000 in
set_option maxRecDepth 100000 in
theorem c_X2_mayCopy (l : Launch) (G : GT) (hw0_0 hw0_1 hw0_2 hw0_3 hw0_4 hw0_5 hw0_6 : Nat) (w0 : TDelta) {r : Int32} (hf : f_X2_mayCopy w0 = some r) : Ct l yX2_mayCopy (Cond.code yX2_mayCopy cX2_mayCopy 1 (some .boolean) :: lw_g) rm_X2_mayCopy G [.ref hw0_0] [(hw0_0, .inr (2, [.ref hw0_1, .ref hw0_2, .ref hw0_3, .ref hw0_4, .ref hw0_5, .ref hw0_6, .int w0.2.2.2.2.2.2.1, .int w0.2.2.2.2.2.2.2.1, .int w0.2.2.2.2.2.2.2.2.1, .int w0.2.2.2.2.2.2.2.2.2.1, .int w0.2.2.2.2.2.2.2.2.2.2])), (hw0_1, .inl (G.2.1, 30, .inl w0.1)), (hw0_2, .inl (G.2.1, 30, .inl w0.2.1)), (hw0_3, .inl (G.2.1, 30, .inl w0.2.2.1)), (hw0_4, .inl (G.2.1, 30, .inl w0.2.2.2.1)), (hw0_5, .inl (G.2.1, 30, .inl w0.2.2.2.2.1)), (hw0_6, .inl (G.2.1, 64, .inl w0.2.2.2.2.2.1))] (some (.int r)) [(hw0_0, .inr (2, [.ref hw0_1, .ref hw0_2, .ref hw0_3, .ref hw0_4, .ref hw0_5, .ref hw0_6, .int w0.2.2.2.2.2.2.1, .int w0.2.2.2.2.2.2.2.1, .int w0.2.2.2.2.2.2.2.2.1, .int w0.2.2.2.2.2.2.2.2.2.1, .int w0.2.2.2.2.2.2.2.2.2.2])), (hw0_1, .inl (G.2.1, 30, .inl w0.1)), (hw0_2, .inl (G.2.1, 30, .inl w0.2.1)), (hw0_3, .inl (G.2.1, 30, .inl w0.2.2.1)), (hw0_4, .inl (G.2.1, 30, .inl w0.2.2.2.1)), (hw0_5, .inl (G.2.1, 30, .inl w0.2.2.2.2.1)), (hw0_6, .inl (G.2.1, 64, .inl w0.2.2.2.2.2.1))] := by
  refine Ct.ofW (cc := cX2_mayCopy) (maxL := 1) (ret := (some .boolean)) (own := RX2) (by decide) rfl rfl (Nat.le_of_ble_eq_true rfl) ?_
  intro p e s m args below meth c A hx hb hr hml hts hown hlocks hK hP hD hA hS ls hl
  have hl : lv_has ls 1 [(0, .ref hw0_0)] := hl
  generalize hQ : gMQ below G _ _ A args s = Q
  generalize hH : s.heap = H at hP ⊢
  have hS : va_S A s.heap H [] := by rw [← hH]; exact hS
  generalize ([] : List Loc) = locs at hS ⊢
  unfold f_X2_mayCopy at hf
  refine lv_aload_n (pc := 0) hx hb dX2_mayCopy_0 rfl (lv_at hl 0 rfl) ?_
  refine va_get (pc := 1) (D := G.1) (ci := 2) (v := .int w0.2.2.2.2.2.2.2.2.2.1) (C := RX2) (T := TX2) (N := 11) hx hb hts inX2 hown hK.1 hP 0 rfl rfl 9 (by decide) (hts _ wd_83) (fun _ h9 => h9) rfl dX2_mayCopy_1 ?_
  obtain ⟨x1, hcx1, hf⟩ := bn_some hf
  refine g_callS0 (pc := 4) (rest := []) hx hb hml hown hts hK (c_J6_bitCount_0f7a4 l G  w0.2.2.2.2.2.2.2.2.2.1 hcx1) wd_297 wd_19 wd_295 wd_296 hd_J6_bitCount_0f7a4 ⟨rfl, rfl, Nat.le_of_ble_eq_true rfl, Nat.le_of_ble_eq_true rfl⟩ hP hD hS hA [] rfl rfl rfl hl.1 rfl (Nat.le_of_ble_eq_true rfl) dX2_mayCopy_4 ⟨Nat.zero_le _, Nat.zero_le _⟩ (fun H locs hP hS => ?_)
  refine lv_bipush (pc := 7) (v := (12 : Int32)) hx hb dX2_mayCopy_7 (by decide) ?_
  refine lv_icmp_ge (pc := 9) (tgt := 16) hx hb dX2_mayCopy_9 (by decide) (fun hc => ?_) (fun hc => ?_)
  · have hf := br_y hc hf
    refine lv_iconst (pc := 16) (v := (0 : Int32)) hx hb dX2_mayCopy_16 (by decide) ?_
    have hf := Option.some.inj hf; subst hf
    rw [← hQ]
    exact g_zret (v := (0 : Int32)) hx hb hr hlocks rfl hP hS dX2_mayCopy_17
  · have hf := br_n hc hf
    refine lv_iconst (pc := 12) (v := (1 : Int32)) hx hb dX2_mayCopy_12 (by decide) ?_
    refine lv_goto (pc := 13) (tgt := 17) hx hb dX2_mayCopy_13 (by decide) ?_
    have hf := Option.some.inj hf; subst hf
    rw [← hQ]
    exact g_zret (v := (1 : Int32)) hx hb hr hlocks rfl hP hS dX2_mayCopy_17
theorem hd_X2_sourceOf : yX2_sourceOf.cls ≠ "java/lang/invoke/MethodHandle" ∧ yX2_sourceOf.cls ≠ "java/lang/invoke/VarHandle" ∧ (parseMethodDescriptor yX2_sourceOf.desc).map (fun d => d.parameters.length) = some 1 := by decide +kernel
abbrev rm_X2_sourceOf : Room := { frames := 1, cells := 0, slots := 0, locals := 21 }
noncomputable def f_X2_sourceOf (w0 : TDelta) (p1 : Int32) : Option Int32 :=
  (f_X2_has w0 p1).bind (fun x1 => br (x1 = 0) (some (-1 : Int32)) (gd (vp_in p1 30) (some (w0.2.1 p1.toNatClampNeg))))
set_option maxHeartbeats 4000000 in
set_option maxRecDepth 100000 in
theorem c_X2_sourceOf (l : Launch) (G : GT) (hw0_0 hw0_1 hw0_2 hw0_3 hw0_4 hw0_5 hw0_6 : Nat) (w0 : TDelta) (p1 : Int32) {r : Int32} (hf : f_X2_sourceOf w0 p1 = some r) : Ct l yX2_sourceOf (Cond.code yX2_sourceOf cX2_sourceOf 2 (some .int) :: lw_g) rm_X2_sourceOf G [.ref hw0_0, .int p1] [(hw0_0, .inr (2, [.ref hw0_1, .ref hw0_2, .ref hw0_3, .ref hw0_4, .ref hw0_5, .ref hw0_6, .int w0.2.2.2.2.2.2.1, .int w0.2.2.2.2.2.2.2.1, .int w0.2.2.2.2.2.2.2.2.1, .int w0.2.2.2.2.2.2.2.2.2.1, .int w0.2.2.2.2.2.2.2.2.2.2])), (hw0_1, .inl (G.2.1, 30, .inl w0.1)), (hw0_2, .inl (G.2.1, 30, .inl w0.2.1)), (hw0_3, .inl (G.2.1, 30, .inl w0.2.2.1)), (hw0_4, .inl (G.2.1, 30, .inl w0.2.2.2.1)), (hw0_5, .inl (G.2.1, 30, .inl w0.2.2.2.2.1)), (hw0_6, .inl (G.2.1, 64, .inl w0.2.2.2.2.2.1))] (some (.int r)) [(hw0_0, .inr (2, [.ref hw0_1, .ref hw0_2, .ref hw0_3, .ref hw0_4, .ref hw0_5, .ref hw0_6, .int w0.2.2.2.2.2.2.1, .int w0.2.2.2.2.2.2.2.1, .int w0.2.2.2.2.2.2.2.2.1, .int w0.2.2.2.2.2.2.2.2.2.1, .int w0.2.2.2.2.2.2.2.2.2.2])), (hw0_1, .inl (G.2.1, 30, .inl w0.1)), (hw0_2, .inl (G.2.1, 30, .inl w0.2.1)), (hw0_3, .inl (G.2.1, 30, .inl w0.2.2.1)), (hw0_4, .inl (G.2.1, 30, .inl w0.2.2.2.1)), (hw0_5, .inl (G.2.1, 30, .inl w0.2.2.2.2.1)), (hw0_6, .inl (G.2.1, 64, .inl w0.2.2.2.2.2.1))] := by
  refine Ct.ofW (cc := cX2_sourceOf) (maxL := 2) (ret := (some .int)) (own := RX2) (by decide) rfl rfl (Nat.le_of_ble_eq_true rfl) ?_
  intro p e s m args below meth c A hx hb hr hml hts hown hlocks hK hP hD hA hS ls hl
  have hl : lv_has ls 2 [(0, .ref hw0_0), (1, .int p1)] := hl
  generalize hQ : gMQ below G _ _ A args s = Q
  generalize hH : s.heap = H at hP ⊢
  have hS : va_S A s.heap H [] := by rw [← hH]; exact hS
  generalize ([] : List Loc) = locs at hS ⊢
  unfold f_X2_sourceOf at hf
  refine lv_aload_n (pc := 0) hx hb dX2_sourceOf_0 rfl (lv_at hl 0 rfl) ?_
  refine lv_iload_n (pc := 1) hx hb dX2_sourceOf_1 rfl (lv_at hl 1 rfl) ?_
  obtain ⟨x1, hcx1, hf⟩ := bn_some hf
  refine g_callV0 (pc := 2) (rest := []) hx hb hml hown hts hK (c_X2_has l G hw0_0 hw0_1 hw0_2 hw0_3 hw0_4 hw0_5 hw0_6 w0 p1 hcx1) wd_345 wd_5 wd_342 wd_343 wd_344 hd_X2_has ⟨rfl, rfl, Nat.le_of_ble_eq_true rfl, Nat.le_of_ble_eq_true rfl⟩ hP hD hS hA [0, 1, 2, 3, 4, 5, 6] rfl rfl 2 0 rfl rfl rfl rfl hl.1 rfl (Nat.le_of_ble_eq_true rfl) dX2_sourceOf_2 ⟨Nat.zero_le _, Nat.zero_le _⟩ (fun H locs hP hS => ?_)
  refine lv_if_eq (pc := 5) (tgt := 17) hx hb dX2_sourceOf_5 (by decide) (fun hc => ?_) (fun hc => ?_)
  · have hf := br_y hc hf
    refine lv_iconst (pc := 17) (v := (-1 : Int32)) hx hb dX2_sourceOf_17 (by decide) ?_
    have hf := Option.some.inj hf; subst hf
    rw [← hQ]
    exact g_iret hx hb hr hlocks hP hS dX2_sourceOf_18
  · have hf := br_n hc hf
    refine lv_aload_n (pc := 8) hx hb dX2_sourceOf_8 rfl (lv_at hl 0 rfl) ?_
    refine va_get (pc := 9) (D := G.1) (ci := 2) (v := .ref hw0_2) (C := RX2) (T := TX2) (N := 11) hx hb hts inX2 hown hK.1 hP 0 rfl rfl 1 (by decide) (hts _ wd_64) (fun _ h9 => h9) rfl dX2_sourceOf_9 ?_
    refine lv_iload_n (pc := 12) hx hb dX2_sourceOf_12 rfl (lv_at hl 1 rfl) ?_
    obtain ⟨hg, hf⟩ := gd_some hf
    refine va_iald (pc := 13) hx hb hK.1 hP 2 0 rfl rfl hg dX2_sourceOf_13 ?_
    refine lv_goto (pc := 14) (tgt := 18) hx hb dX2_sourceOf_14 (by decide) ?_
    have hf := Option.some.inj hf; subst hf
    rw [← hQ]
    exact g_iret hx hb hr hlocks hP hS dX2_sourceOf_18
theorem hd_X2_targetOf : yX2_targetOf.cls ≠ "java/lang/invoke/MethodHandle" ∧ yX2_targetOf.cls ≠ "java/lang/invoke/VarHandle" ∧ (parseMethodDescriptor yX2_targetOf.desc).map (fun d => d.parameters.length) = some 1 := by decide +kernel
abbrev rm_X2_targetOf : Room := { frames := 1, cells := 0, slots := 0, locals := 21 }
noncomputable def f_X2_targetOf (w0 : TDelta) (p1 : Int32) : Option Int32 :=
  (f_X2_has w0 p1).bind (fun x1 => br (x1 = 0) (some (-1 : Int32)) (gd (vp_in p1 30) (some (w0.2.2.1 p1.toNatClampNeg))))
set_option maxHeartbeats 4000000 in
set_option maxRecDepth 100000 in
theorem c_X2_targetOf (l : Launch) (G : GT) (hw0_0 hw0_1 hw0_2 hw0_3 hw0_4 hw0_5 hw0_6 : Nat) (w0 : TDelta) (p1 : Int32) {r : Int32} (hf : f_X2_targetOf w0 p1 = some r) : Ct l yX2_targetOf (Cond.code yX2_targetOf cX2_targetOf 2 (some .int) :: lw_g) rm_X2_targetOf G [.ref hw0_0, .int p1] [(hw0_0, .inr (2, [.ref hw0_1, .ref hw0_2, .ref hw0_3, .ref hw0_4, .ref hw0_5, .ref hw0_6, .int w0.2.2.2.2.2.2.1, .int w0.2.2.2.2.2.2.2.1, .int w0.2.2.2.2.2.2.2.2.1, .int w0.2.2.2.2.2.2.2.2.2.1, .int w0.2.2.2.2.2.2.2.2.2.2])), (hw0_1, .inl (G.2.1, 30, .inl w0.1)), (hw0_2, .inl (G.2.1, 30, .inl w0.2.1)), (hw0_3, .inl (G.2.1, 30, .inl w0.2.2.1)), (hw0_4, .inl (G.2.1, 30, .inl w0.2.2.2.1)), (hw0_5, .inl (G.2.1, 30, .inl w0.2.2.2.2.1)), (hw0_6, .inl (G.2.1, 64, .inl w0.2.2.2.2.2.1))] (some (.int r)) [(hw0_0, .inr (2, [.ref hw0_1, .ref hw0_2, .ref hw0_3, .ref hw0_4, .ref hw0_5, .ref hw0_6, .int w0.2.2.2.2.2.2.1, .int w0.2.2.2.2.2.2.2.1, .int w0.2.2.2.2.2.2.2.2.1, .int w0.2.2.2.2.2.2.2.2.2.1, .int w0.2.2.2.2.2.2.2.2.2.2])), (hw0_1, .inl (G.2.1, 30, .inl w0.1)), (hw0_2, .inl (G.2.1, 30, .inl w0.2.1)), (hw0_3, .inl (G.2.1, 30, .inl w0.2.2.1)), (hw0_4, .inl (G.2.1, 30, .inl w0.2.2.2.1)), (hw0_5, .inl (G.2.1, 30, .inl w0.2.2.2.2.1)), (hw0_6, .inl (G.2.1, 64, .inl w0.2.2.2.2.2.1))] := by
  refine Ct.ofW (cc := cX2_targetOf) (maxL := 2) (ret := (some .int)) (own := RX2) (by decide) rfl rfl (Nat.le_of_ble_eq_true rfl) ?_
  intro p e s m args below meth c A hx hb hr hml hts hown hlocks hK hP hD hA hS ls hl
  have hl : lv_has ls 2 [(0, .ref hw0_0), (1, .int p1)] := hl
  generalize hQ : gMQ below G _ _ A args s = Q
  generalize hH : s.heap = H at hP ⊢
  have hS : va_S A s.heap H [] := by rw [← hH]; exact hS
  generalize ([] : List Loc) = locs at hS ⊢
  unfold f_X2_targetOf at hf
  refine lv_aload_n (pc := 0) hx hb dX2_targetOf_0 rfl (lv_at hl 0 rfl) ?_
  refine lv_iload_n (pc := 1) hx hb dX2_targetOf_1 rfl (lv_at hl 1 rfl) ?_
  obtain ⟨x1, hcx1, hf⟩ := bn_some hf
  refine g_callV0 (pc := 2) (rest := []) hx hb hml hown hts hK (c_X2_has l G hw0_0 hw0_1 hw0_2 hw0_3 hw0_4 hw0_5 hw0_6 w0 p1 hcx1) wd_345 wd_5 wd_342 wd_343 wd_344 hd_X2_has ⟨rfl, rfl, Nat.le_of_ble_eq_true rfl, Nat.le_of_ble_eq_true rfl⟩ hP hD hS hA [0, 1, 2, 3, 4, 5, 6] rfl rfl 2 0 rfl rfl rfl rfl hl.1 rfl (Nat.le_of_ble_eq_true rfl) dX2_targetOf_2 ⟨Nat.zero_le _, Nat.zero_le _⟩ (fun H locs hP hS => ?_)
  refine lv_if_eq (pc := 5) (tgt := 17) hx hb dX2_targetOf_5 (by decide) (fun hc => ?_) (fun hc => ?_)
  · have hf := br_y hc hf
    refine lv_iconst (pc := 17) (v := (-1 : Int32)) hx hb dX2_targetOf_17 (by decide) ?_
    have hf := Option.some.inj hf; subst hf
    rw [← hQ]
    exact g_iret hx hb hr hlocks hP hS dX2_targetOf_18
  · have hf := br_n hc hf
    refine lv_aload_n (pc := 8) hx hb dX2_targetOf_8 rfl (lv_at hl 0 rfl) ?_
    refine va_get (pc := 9) (D := G.1) (ci := 2) (v := .ref hw0_3) (C := RX2) (T := TX2) (N := 11) hx hb hts inX2 hown hK.1 hP 0 rfl rfl 2 (by decide) (hts _ wd_65) (fun _ h9 => h9) rfl dX2_targetOf_9 ?_
    refine lv_iload_n (pc := 12) hx hb dX2_targetOf_12 rfl (lv_at hl 1 rfl) ?_
    obtain ⟨hg, hf⟩ := gd_some hf
    refine va_iald (pc := 13) hx hb hK.1 hP 3 0 rfl rfl hg dX2_targetOf_13 ?_
    refine lv_goto (pc := 14) (tgt := 18) hx hb dX2_targetOf_14 (by decide) ?_
    have hf := Option.some.inj hf; subst hf
    rw [← hQ]
    exact g_iret hx hb hr hlocks hP hS dX2_targetOf_18
theorem hd_X2_lengthOf : yX2_lengthOf.cls ≠ "java/lang/invoke/MethodHandle" ∧ yX2_lengthOf.cls ≠ "java/lang/invoke/VarHandle" ∧ (parseMethodDescriptor yX2_lengthOf.desc).map (fun d => d.parameters.length) = some 1 := by decide +kernel
abbrev rm_X2_lengthOf : Room := { frames := 1, cells := 0, slots := 0, locals := 21 }
noncomputable def f_X2_lengthOf (w0 : TDelta) (p1 : Int32) : Option Int32 :=
  (f_X2_has w0 p1).bind (fun x1 => br (x1 = 0) (some (0 : Int32)) (gd (vp_in p1 30) (some (w0.2.2.2.1 p1.toNatClampNeg))))
set_option maxHeartbeats 4000000 in
set_option maxRecDepth 100000 in
theorem c_X2_lengthOf (l : Launch) (G : GT) (hw0_0 hw0_1 hw0_2 hw0_3 hw0_4 hw0_5 hw0_6 : Nat) (w0 : TDelta) (p1 : Int32) {r : Int32} (hf : f_X2_lengthOf w0 p1 = some r) : Ct l yX2_lengthOf (Cond.code yX2_lengthOf cX2_lengthOf 2 (some .int) :: lw_g) rm_X2_lengthOf G [.ref hw0_0, .int p1] [(hw0_0, .inr (2, [.ref hw0_1, .ref hw0_2, .ref hw0_3, .ref hw0_4, .ref hw0_5, .ref hw0_6, .int w0.2.2.2.2.2.2.1, .int w0.2.2.2.2.2.2.2.1, .int w0.2.2.2.2.2.2.2.2.1, .int w0.2.2.2.2.2.2.2.2.2.1, .int w0.2.2.2.2.2.2.2.2.2.2])), (hw0_1, .inl (G.2.1, 30, .inl w0.1)), (hw0_2, .inl (G.2.1, 30, .inl w0.2.1)), (hw0_3, .inl (G.2.1, 30, .inl w0.2.2.1)), (hw0_4, .inl (G.2.1, 30, .inl w0.2.2.2.1)), (hw0_5, .inl (G.2.1, 30, .inl w0.2.2.2.2.1)), (hw0_6, .inl (G.2.1, 64, .inl w0.2.2.2.2.2.1))] (some (.int r)) [(hw0_0, .inr (2, [.ref hw0_1, .ref hw0_2, .ref hw0_3, .ref hw0_4, .ref hw0_5, .ref hw0_6, .int w0.2.2.2.2.2.2.1, .int w0.2.2.2.2.2.2.2.1, .int w0.2.2.2.2.2.2.2.2.1, .int w0.2.2.2.2.2.2.2.2.2.1, .int w0.2.2.2.2.2.2.2.2.2.2])), (hw0_1, .inl (G.2.1, 30, .inl w0.1)), (hw0_2, .inl (G.2.1, 30, .inl w0.2.1)), (hw0_3, .inl (G.2.1, 30, .inl w0.2.2.1)), (hw0_4, .inl (G.2.1, 30, .inl w0.2.2.2.1)), (hw0_5, .inl (G.2.1, 30, .inl w0.2.2.2.2.1)), (hw0_6, .inl (G.2.1, 64, .inl w0.2.2.2.2.2.1))] := by
  refine Ct.ofW (cc := cX2_lengthOf) (maxL := 2) (ret := (some .int)) (own := RX2) (by decide) rfl rfl (Nat.le_of_ble_eq_true rfl) ?_
  intro p e s m args below meth c A hx hb hr hml hts hown hlocks hK hP hD hA hS ls hl
  have hl : lv_has ls 2 [(0, .ref hw0_0), (1, .int p1)] := hl
  generalize hQ : gMQ below G _ _ A args s = Q
  generalize hH : s.heap = H at hP ⊢
  have hS : va_S A s.heap H [] := by rw [← hH]; exact hS
  generalize ([] : List Loc) = locs at hS ⊢
  unfold f_X2_lengthOf at hf
  refine lv_aload_n (pc := 0) hx hb dX2_lengthOf_0 rfl (lv_at hl 0 rfl) ?_
  refine lv_iload_n (pc := 1) hx hb dX2_lengthOf_1 rfl (lv_at hl 1 rfl) ?_
  obtain ⟨x1, hcx1, hf⟩ := bn_some hf
  refine g_callV0 (pc := 2) (rest := []) hx hb hml hown hts hK (c_X2_has l G hw0_0 hw0_1 hw0_2 hw0_3 hw0_4 hw0_5 hw0_6 w0 p1 hcx1) wd_345 wd_5 wd_342 wd_343 wd_344 hd_X2_has ⟨rfl, rfl, Nat.le_of_ble_eq_true rfl, Nat.le_of_ble_eq_true rfl⟩ hP hD hS hA [0, 1, 2, 3, 4, 5, 6] rfl rfl 2 0 rfl rfl rfl rfl hl.1 rfl (Nat.le_of_ble_eq_true rfl) dX2_lengthOf_2 ⟨Nat.zero_le _, Nat.zero_le _⟩ (fun H locs hP hS => ?_)
  refine lv_if_eq (pc := 5) (tgt := 17) hx hb dX2_lengthOf_5 (by decide) (fun hc => ?_) (fun hc => ?_)
  · have hf := br_y hc hf
    refine lv_iconst (pc := 17) (v := (0 : Int32)) hx hb dX2_lengthOf_17 (by decide) ?_
    have hf := Option.some.inj hf; subst hf
    rw [← hQ]
    exact g_iret hx hb hr hlocks hP hS dX2_lengthOf_18
  · have hf := br_n hc hf
    refine lv_aload_n (pc := 8) hx hb dX2_lengthOf_8 rfl (lv_at hl 0 rfl) ?_
    refine va_get (pc := 9) (D := G.1) (ci := 2) (v := .ref hw0_4) (C := RX2) (T := TX2) (N := 11) hx hb hts inX2 hown hK.1 hP 0 rfl rfl 3 (by decide) (hts _ wd_66) (fun _ h9 => h9) rfl dX2_lengthOf_9 ?_
    refine lv_iload_n (pc := 12) hx hb dX2_lengthOf_12 rfl (lv_at hl 1 rfl) ?_
    obtain ⟨hg, hf⟩ := gd_some hf
    refine va_iald (pc := 13) hx hb hK.1 hP 4 0 rfl rfl hg dX2_lengthOf_13 ?_
    refine lv_goto (pc := 14) (tgt := 18) hx hb dX2_lengthOf_14 (by decide) ?_
    have hf := Option.some.inj hf; subst hf
    rw [← hQ]
    exact g_iret hx hb hr hlocks hP hS dX2_lengthOf_18
theorem hd_X2_precedersOf : yX2_precedersOf.cls ≠ "java/lang/invoke/MethodHandle" ∧ yX2_precedersOf.cls ≠ "java/lang/invoke/VarHandle" ∧ (parseMethodDescriptor yX2_precedersOf.desc).map (fun d => d.parameters.length) = some 1 := by decide +kernel
abbrev rm_X2_precedersOf : Room := { frames := 1, cells := 0, slots := 0, locals := 21 }
noncomputable def f_X2_precedersOf (w0 : TDelta) (p1 : Int32) : Option Int32 :=
  (f_X2_has w0 p1).bind (fun x1 => br (x1 = 0) (some (0 : Int32)) (gd (vp_in p1 30) (some (w0.2.2.2.2.1 p1.toNatClampNeg))))
set_option maxHeartbeats 4000000 in
set_option maxRecDepth 100000 in
theorem c_X2_precedersOf (l : Launch) (G : GT) (hw0_0 hw0_1 hw0_2 hw0_3 hw0_4 hw0_5 hw0_6 : Nat) (w0 : TDelta) (p1 : Int32) {r : Int32} (hf : f_X2_precedersOf w0 p1 = some r) : Ct l yX2_precedersOf (Cond.code yX2_precedersOf cX2_precedersOf 2 (some .int) :: lw_g) rm_X2_precedersOf G [.ref hw0_0, .int p1] [(hw0_0, .inr (2, [.ref hw0_1, .ref hw0_2, .ref hw0_3, .ref hw0_4, .ref hw0_5, .ref hw0_6, .int w0.2.2.2.2.2.2.1, .int w0.2.2.2.2.2.2.2.1, .int w0.2.2.2.2.2.2.2.2.1, .int w0.2.2.2.2.2.2.2.2.2.1, .int w0.2.2.2.2.2.2.2.2.2.2])), (hw0_1, .inl (G.2.1, 30, .inl w0.1)), (hw0_2, .inl (G.2.1, 30, .inl w0.2.1)), (hw0_3, .inl (G.2.1, 30, .inl w0.2.2.1)), (hw0_4, .inl (G.2.1, 30, .inl w0.2.2.2.1)), (hw0_5, .inl (G.2.1, 30, .inl w0.2.2.2.2.1)), (hw0_6, .inl (G.2.1, 64, .inl w0.2.2.2.2.2.1))] (some (.int r)) [(hw0_0, .inr (2, [.ref hw0_1, .ref hw0_2, .ref hw0_3, .ref hw0_4, .ref hw0_5, .ref hw0_6, .int w0.2.2.2.2.2.2.1, .int w0.2.2.2.2.2.2.2.1, .int w0.2.2.2.2.2.2.2.2.1, .int w0.2.2.2.2.2.2.2.2.2.1, .int w0.2.2.2.2.2.2.2.2.2.2])), (hw0_1, .inl (G.2.1, 30, .inl w0.1)), (hw0_2, .inl (G.2.1, 30, .inl w0.2.1)), (hw0_3, .inl (G.2.1, 30, .inl w0.2.2.1)), (hw0_4, .inl (G.2.1, 30, .inl w0.2.2.2.1)), (hw0_5, .inl (G.2.1, 30, .inl w0.2.2.2.2.1)), (hw0_6, .inl (G.2.1, 64, .inl w0.2.2.2.2.2.1))] := by
  refine Ct.ofW (cc := cX2_precedersOf) (maxL := 2) (ret := (some .int)) (own := RX2) (by decide) rfl rfl (Nat.le_of_ble_eq_true rfl) ?_
  intro p e s m args below meth c A hx hb hr hml hts hown hlocks hK hP hD hA hS ls hl
  have hl : lv_has ls 2 [(0, .ref hw0_0), (1, .int p1)] := hl
  generalize hQ : gMQ below G _ _ A args s = Q
  generalize hH : s.heap = H at hP ⊢
  have hS : va_S A s.heap H [] := by rw [← hH]; exact hS
  generalize ([] : List Loc) = locs at hS ⊢
  unfold f_X2_precedersOf at hf
  refine lv_aload_n (pc := 0) hx hb dX2_precedersOf_0 rfl (lv_at hl 0 rfl) ?_
  refine lv_iload_n (pc := 1) hx hb dX2_precedersOf_1 rfl (lv_at hl 1 rfl) ?_
  obtain ⟨x1, hcx1, hf⟩ := bn_some hf
  refine g_callV0 (pc := 2) (rest := []) hx hb hml hown hts hK (c_X2_has l G hw0_0 hw0_1 hw0_2 hw0_3 hw0_4 hw0_5 hw0_6 w0 p1 hcx1) wd_345 wd_5 wd_342 wd_343 wd_344 hd_X2_has ⟨rfl, rfl, Nat.le_of_ble_eq_true rfl, Nat.le_of_ble_eq_true rfl⟩ hP hD hS hA [0, 1, 2, 3, 4, 5, 6] rfl rfl 2 0 rfl rfl rfl rfl hl.1 rfl (Nat.le_of_ble_eq_true rfl) dX2_precedersOf_2 ⟨Nat.zero_le _, Nat.zero_le _⟩ (fun H locs hP hS => ?_)
  refine lv_if_eq (pc := 5) (tgt := 17) hx hb dX2_precedersOf_5 (by decide) (fun hc => ?_) (fun hc => ?_)
  · have hf := br_y hc hf
    refine lv_iconst (pc := 17) (v := (0 : Int32)) hx hb dX2_precedersOf_17 (by decide) ?_
    have hf := Option.some.inj hf; subst hf
    rw [← hQ]
    exact g_iret hx hb hr hlocks hP hS dX2_precedersOf_18
  · have hf := br_n hc hf
    refine lv_aload_n (pc := 8) hx hb dX2_precedersOf_8 rfl (lv_at hl 0 rfl) ?_
    refine va_get (pc := 9) (D := G.1) (ci := 2) (v := .ref hw0_5) (C := RX2) (T := TX2) (N := 11) hx hb hts inX2 hown hK.1 hP 0 rfl rfl 4 (by decide) (hts _ wd_67) (fun _ h9 => h9) rfl dX2_precedersOf_9 ?_
    refine lv_iload_n (pc := 12) hx hb dX2_precedersOf_12 rfl (lv_at hl 1 rfl) ?_
    obtain ⟨hg, hf⟩ := gd_some hf
    refine va_iald (pc := 13) hx hb hK.1 hP 5 0 rfl rfl hg dX2_precedersOf_13 ?_
    refine lv_goto (pc := 14) (tgt := 18) hx hb dX2_precedersOf_14 (by decide) ?_
    have hf := Option.some.inj hf; subst hf
    rw [← hQ]
    exact g_iret hx hb hr hlocks hP hS dX2_precedersOf_18
theorem hd_X2_addedAt : yX2_addedAt.cls ≠ "java/lang/invoke/MethodHandle" ∧ yX2_addedAt.cls ≠ "java/lang/invoke/VarHandle" ∧ (parseMethodDescriptor yX2_addedAt.desc).map (fun d => d.parameters.length) = some 1 := by decide +kernel
abbrev rm_X2_addedAt : Room := { frames := 0, cells := 0, slots := 0, locals := 0 }
noncomputable def f_X2_addedAt (w0 : TDelta) (p1 : Int32) : Option Int32 :=
  br (p1 < 0) (some (0 : Int32)) (br ((64 : Int32) ≤ p1) (some (0 : Int32)) (gd (vp_in p1 64) (some (w0.2.2.2.2.2.1 p1.toNatClampNeg))))
set_option maxHeartbeats 4000000 in
set_option maxRecDepth 100000 in
theorem c_X2_addedAt (l : Launch) (G : GT) (hw0_0 hw0_1 hw0_2 hw0_3 hw0_4 hw0_5 hw0_6 : Nat) (w0 : TDelta) (p1 : Int32) {r : Int32} (hf : f_X2_addedAt w0 p1 = some r) : Ct l yX2_addedAt (Cond.code yX2_addedAt cX2_addedAt 2 (some .int) :: lw_g) rm_X2_addedAt G [.ref hw0_0, .int p1] [(hw0_0, .inr (2, [.ref hw0_1, .ref hw0_2, .ref hw0_3, .ref hw0_4, .ref hw0_5, .ref hw0_6, .int w0.2.2.2.2.2.2.1, .int w0.2.2.2.2.2.2.2.1, .int w0.2.2.2.2.2.2.2.2.1, .int w0.2.2.2.2.2.2.2.2.2.1, .int w0.2.2.2.2.2.2.2.2.2.2])), (hw0_1, .inl (G.2.1, 30, .inl w0.1)), (hw0_2, .inl (G.2.1, 30, .inl w0.2.1)), (hw0_3, .inl (G.2.1, 30, .inl w0.2.2.1)), (hw0_4, .inl (G.2.1, 30, .inl w0.2.2.2.1)), (hw0_5, .inl (G.2.1, 30, .inl w0.2.2.2.2.1)), (hw0_6, .inl (G.2.1, 64, .inl w0.2.2.2.2.2.1))] (some (.int r)) [(hw0_0, .inr (2, [.ref hw0_1, .ref hw0_2, .ref hw0_3, .ref hw0_4, .ref hw0_5, .ref hw0_6, .int w0.2.2.2.2.2.2.1, .int w0.2.2.2.2.2.2.2.1, .int w0.2.2.2.2.2.2.2.2.1, .int w0.2.2.2.2.2.2.2.2.2.1, .int w0.2.2.2.2.2.2.2.2.2.2])), (hw0_1, .inl (G.2.1, 30, .inl w0.1)), (hw0_2, .inl (G.2.1, 30, .inl w0.2.1)), (hw0_3, .inl (G.2.1, 30, .inl w0.2.2.1)), (hw0_4, .inl (G.2.1, 30, .inl w0.2.2.2.1)), (hw0_5, .inl (G.2.1, 30, .inl w0.2.2.2.2.1)), (hw0_6, .inl (G.2.1, 64, .inl w0.2.2.2.2.2.1))] := by
  refine Ct.ofW (cc := cX2_addedAt) (maxL := 2) (ret := (some .int)) (own := RX2) (by decide) rfl rfl (Nat.le_of_ble_eq_true rfl) ?_
  intro p e s m args below meth c A hx hb hr hml hts hown hlocks hK hP hD hA hS ls hl
  have hl : lv_has ls 2 [(0, .ref hw0_0), (1, .int p1)] := hl
  generalize hQ : gMQ below G _ _ A args s = Q
  generalize hH : s.heap = H at hP ⊢
  have hS : va_S A s.heap H [] := by rw [← hH]; exact hS
  generalize ([] : List Loc) = locs at hS ⊢
  unfold f_X2_addedAt at hf
  refine lv_iload_n (pc := 0) hx hb dX2_addedAt_0 rfl (lv_at hl 1 rfl) ?_
  refine lv_if_lt (pc := 1) (tgt := 19) hx hb dX2_addedAt_1 (by decide) (fun hc => ?_) (fun hc => ?_)
  · have hf := br_y hc hf
    refine lv_iconst (pc := 19) (v := (0 : Int32)) hx hb dX2_addedAt_19 (by decide) ?_
    have hf := Option.some.inj hf; subst hf
    rw [← hQ]
    exact g_iret hx hb hr hlocks hP hS dX2_addedAt_20
  · have hf := br_n hc hf
    refine lv_iload_n (pc := 4) hx hb dX2_addedAt_4 rfl (lv_at hl 1 rfl) ?_
    refine lv_bipush (pc := 5) (v := (64 : Int32)) hx hb dX2_addedAt_5 (by decide) ?_
    refine lv_icmp_ge (pc := 7) (tgt := 19) hx hb dX2_addedAt_7 (by decide) (fun hc => ?_) (fun hc => ?_)
    · have hf := br_y hc hf
      refine lv_iconst (pc := 19) (v := (0 : Int32)) hx hb dX2_addedAt_19 (by decide) ?_
      have hf := Option.some.inj hf; subst hf
      rw [← hQ]
      exact g_iret hx hb hr hlocks hP hS dX2_addedAt_20
    · have hf := br_n hc hf
      refine lv_aload_n (pc := 10) hx hb dX2_addedAt_10 rfl (lv_at hl 0 rfl) ?_
      refine va_get (pc := 11) (D := G.1) (ci := 2) (v := .ref hw0_6) (C := RX2) (T := TX2) (N := 11) hx hb hts inX2 hown hK.1 hP 0 rfl rfl 5 (by decide) (hts _ wd_68) (fun _ h9 => h9) rfl dX2_addedAt_11 ?_
      refine lv_iload_n (pc := 14) hx hb dX2_addedAt_14 rfl (lv_at hl 1 rfl) ?_
      obtain ⟨hg, hf⟩ := gd_some hf
      refine va_iald (pc := 15) hx hb hK.1 hP 6 0 rfl rfl hg dX2_addedAt_15 ?_
      refine lv_goto (pc := 16) (tgt := 20) hx hb dX2_addedAt_16 (by decide) ?_
      have hf := Option.some.inj hf; subst hf
      rw [← hQ]
      exact g_iret hx hb hr hlocks hP hS dX2_addedAt_20
theorem hd_X2_describe : yX2_describe.cls ≠ "java/lang/invoke/MethodHandle" ∧ yX2_describe.cls ≠ "java/lang/invoke/VarHandle" ∧ (parseMethodDescriptor yX2_describe.desc).map (fun d => d.parameters.length) = some 2 := by decide +kernel
abbrev rm_X2_describe : Room := { frames := 2, cells := 0, slots := 0, locals := 42 }
noncomputable def f_X2_describe (w0 : TDelta) (p1 : Int32) (p2 : Int32) : Option Int32 :=
  br (p2 = (0 : Int32)) ((f_X2_has w0 p1).bind (fun x1 => br (x1 = 0) (some (-1 : Int32)) (gd (vp_in p1 30) (some (w0.1 p1.toNatClampNeg))))) (br (p2 = (1 : Int32)) ((f_X2_sourceOf w0 p1).bind (fun x2 => some x2)) (br (p2 = (2 : Int32)) ((f_X2_targetOf w0 p1).bind (fun x3 => some x3)) ((f_X2_lengthOf w0 p1).bind (fun x4 => some x4))))
set_option maxHeartbeats 4000000 in
set_option maxRecDepth 100000 in
theorem c_X2_describe (l : Launch) (G : GT) (hw0_0 hw0_1 hw0_2 hw0_3 hw0_4 hw0_5 hw0_6 : Nat) (w0 : TDelta) (p1 : Int32) (p2 : Int32) {r : Int32} (hf : f_X2_describe w0 p1 p2 = some r) : Ct l yX2_describe (Cond.code yX2_describe cX2_describe 3 (some .int) :: lw_g) rm_X2_describe G [.ref hw0_0, .int p1, .int p2] [(hw0_0, .inr (2, [.ref hw0_1, .ref hw0_2, .ref hw0_3, .ref hw0_4, .ref hw0_5, .ref hw0_6, .int w0.2.2.2.2.2.2.1, .int w0.2.2.2.2.2.2.2.1, .int w0.2.2.2.2.2.2.2.2.1, .int w0.2.2.2.2.2.2.2.2.2.1, .int w0.2.2.2.2.2.2.2.2.2.2])), (hw0_1, .inl (G.2.1, 30, .inl w0.1)), (hw0_2, .inl (G.2.1, 30, .inl w0.2.1)), (hw0_3, .inl (G.2.1, 30, .inl w0.2.2.1)), (hw0_4, .inl (G.2.1, 30, .inl w0.2.2.2.1)), (hw0_5, .inl (G.2.1, 30, .inl w0.2.2.2.2.1)), (hw0_6, .inl (G.2.1, 64, .inl w0.2.2.2.2.2.1))] (some (.int r)) [(hw0_0, .inr (2, [.ref hw0_1, .ref hw0_2, .ref hw0_3, .ref hw0_4, .ref hw0_5, .ref hw0_6, .int w0.2.2.2.2.2.2.1, .int w0.2.2.2.2.2.2.2.1, .int w0.2.2.2.2.2.2.2.2.1, .int w0.2.2.2.2.2.2.2.2.2.1, .int w0.2.2.2.2.2.2.2.2.2.2])), (hw0_1, .inl (G.2.1, 30, .inl w0.1)), (hw0_2, .inl (G.2.1, 30, .inl w0.2.1)), (hw0_3, .inl (G.2.1, 30, .inl w0.2.2.1)), (hw0_4, .inl (G.2.1, 30, .inl w0.2.2.2.1)), (hw0_5, .inl (G.2.1, 30, .inl w0.2.2.2.2.1)), (hw0_6, .inl (G.2.1, 64, .inl w0.2.2.2.2.2.1))] := by
  refine Ct.ofW (cc := cX2_describe) (maxL := 3) (ret := (some .int)) (own := RX2) (by decide) rfl rfl (Nat.le_of_ble_eq_true rfl) ?_
  intro p e s m args below meth c A hx hb hr hml hts hown hlocks hK hP hD hA hS ls hl
  have hl : lv_has ls 3 [(0, .ref hw0_0), (1, .int p1), (2, .int p2)] := hl
  generalize hQ : gMQ below G _ _ A args s = Q
  generalize hH : s.heap = H at hP ⊢
  have hS : va_S A s.heap H [] := by rw [← hH]; exact hS
  generalize ([] : List Loc) = locs at hS ⊢
  unfold f_X2_describe at hf
  refine lv_iload_n (pc := 0) hx hb dX2_describe_0 rfl (lv_at hl 2 rfl) ?_
  by_cases hc0 : p2 = (0 : Int32)
  · have hf := br_y hc0 hf
    refine lv_tableIn (off := 27) (tgt := 28) hx hb dX2_describe_1 (by rw [hc0]; decide) (by rw [hc0]; decide) (by rw [hc0]; rfl) (by decide) ?_
    refine lv_aload_n (pc := 28) hx hb dX2_describe_28 rfl (lv_at hl 0 rfl) ?_
    refine lv_iload_n (pc := 29) hx hb dX2_describe_29 rfl (lv_at hl 1 rfl) ?_
    obtain ⟨x1, hcx1, hf⟩ := bn_some hf
    refine g_callV0 (pc := 30) (rest := []) hx hb hml hown hts hK (c_X2_has l G hw0_0 hw0_1 hw0_2 hw0_3 hw0_4 hw0_5 hw0_6 w0 p1 hcx1) wd_345 wd_5 wd_342 wd_343 wd_344 hd_X2_has ⟨rfl, rfl, Nat.le_of_ble_eq_true rfl, Nat.le_of_ble_eq_true rfl⟩ hP hD hS hA [0, 1, 2, 3, 4, 5, 6] rfl rfl 2 0 rfl rfl rfl rfl hl.1 rfl (Nat.le_of_ble_eq_true rfl) dX2_describe_30 ⟨Nat.zero_le _, Nat.zero_le _⟩ (fun H locs hP hS => ?_)
    refine lv_if_eq (pc := 33) (tgt := 45) hx hb dX2_describe_33 (by decide) (fun hc => ?_) (fun hc => ?_)
    · have hf := br_y hc hf
      refine lv_iconst (pc := 45) (v := (-1 : Int32)) hx hb dX2_describe_45 (by decide) ?_
      have hf := Option.some.inj hf; subst hf
      rw [← hQ]
      exact g_iret hx hb hr hlocks hP hS dX2_describe_46
    · have hf := br_n hc hf
      refine lv_aload_n (pc := 36) hx hb dX2_describe_36 rfl (lv_at hl 0 rfl) ?_
      refine va_get (pc := 37) (D := G.1) (ci := 2) (v := .ref hw0_1) (C := RX2) (T := TX2) (N := 11) hx hb hts inX2 hown hK.1 hP 0 rfl rfl 0 (by decide) (hts _ wd_63) (fun _ h9 => h9) rfl dX2_describe_37 ?_
      refine lv_iload_n (pc := 40) hx hb dX2_describe_40 rfl (lv_at hl 1 rfl) ?_
      obtain ⟨hg, hf⟩ := gd_some hf
      refine va_iald (pc := 41) hx hb hK.1 hP 1 0 rfl rfl hg dX2_describe_41 ?_
      refine lv_goto (pc := 42) (tgt := 46) hx hb dX2_describe_42 (by decide) ?_
      have hf := Option.some.inj hf; subst hf
      rw [← hQ]
      exact g_iret hx hb hr hlocks hP hS dX2_describe_46
  have hf := br_n hc0 hf
  by_cases hc1 : p2 = (1 : Int32)
  · have hf := br_y hc1 hf
    refine lv_tableIn (off := 46) (tgt := 47) hx hb dX2_describe_1 (by rw [hc1]; decide) (by rw [hc1]; decide) (by rw [hc1]; rfl) (by decide) ?_
    refine lv_aload_n (pc := 47) hx hb dX2_describe_47 rfl (lv_at hl 0 rfl) ?_
    refine lv_iload_n (pc := 48) hx hb dX2_describe_48 rfl (lv_at hl 1 rfl) ?_
    obtain ⟨x2, hcx2, hf⟩ := bn_some hf
    refine g_callV0 (pc := 49) (rest := []) hx hb hml hown hts hK (c_X2_sourceOf l G hw0_0 hw0_1 hw0_2 hw0_3 hw0_4 hw0_5 hw0_6 w0 p1 hcx2) wd_341 wd_5 wd_338 wd_339 wd_340 hd_X2_sourceOf ⟨rfl, rfl, Nat.le_of_ble_eq_true rfl, Nat.le_of_ble_eq_true rfl⟩ hP hD hS hA [0, 1, 2, 3, 4, 5, 6] rfl rfl 2 0 rfl rfl rfl rfl hl.1 rfl (Nat.le_of_ble_eq_true rfl) dX2_describe_49 ⟨Nat.zero_le _, Nat.zero_le _⟩ (fun H locs hP hS => ?_)
    have hf := Option.some.inj hf; subst hf
    rw [← hQ]
    exact g_iret hx hb hr hlocks hP hS dX2_describe_52
  have hf := br_n hc1 hf
  by_cases hc2 : p2 = (2 : Int32)
  · have hf := br_y hc2 hf
    refine lv_tableIn (off := 52) (tgt := 53) hx hb dX2_describe_1 (by rw [hc2]; decide) (by rw [hc2]; decide) (by rw [hc2]; rfl) (by decide) ?_
    refine lv_aload_n (pc := 53) hx hb dX2_describe_53 rfl (lv_at hl 0 rfl) ?_
    refine lv_iload_n (pc := 54) hx hb dX2_describe_54 rfl (lv_at hl 1 rfl) ?_
    obtain ⟨x3, hcx3, hf⟩ := bn_some hf
    refine g_callV0 (pc := 55) (rest := []) hx hb hml hown hts hK (c_X2_targetOf l G hw0_0 hw0_1 hw0_2 hw0_3 hw0_4 hw0_5 hw0_6 w0 p1 hcx3) wd_353 wd_5 wd_350 wd_351 wd_352 hd_X2_targetOf ⟨rfl, rfl, Nat.le_of_ble_eq_true rfl, Nat.le_of_ble_eq_true rfl⟩ hP hD hS hA [0, 1, 2, 3, 4, 5, 6] rfl rfl 2 0 rfl rfl rfl rfl hl.1 rfl (Nat.le_of_ble_eq_true rfl) dX2_describe_55 ⟨Nat.zero_le _, Nat.zero_le _⟩ (fun H locs hP hS => ?_)
    have hf := Option.some.inj hf; subst hf
    rw [← hQ]
    exact g_iret hx hb hr hlocks hP hS dX2_describe_58
  have hf := br_n hc2 hf
  refine lv_tableOut (tgt := 59) hx hb dX2_describe_1 (by have z0 := lv_neT hc0 (a := 0) rfl; have z1 := lv_neT hc1 (a := 1) rfl; have z2 := lv_neT hc2 (a := 2) rfl; omega) (by decide) ?_
  refine lv_aload_n (pc := 59) hx hb dX2_describe_59 rfl (lv_at hl 0 rfl) ?_
  refine lv_iload_n (pc := 60) hx hb dX2_describe_60 rfl (lv_at hl 1 rfl) ?_
  obtain ⟨x4, hcx4, hf⟩ := bn_some hf
  refine g_callV0 (pc := 61) (rest := []) hx hb hml hown hts hK (c_X2_lengthOf l G hw0_0 hw0_1 hw0_2 hw0_3 hw0_4 hw0_5 hw0_6 w0 p1 hcx4) wd_349 wd_5 wd_346 wd_347 wd_348 hd_X2_lengthOf ⟨rfl, rfl, Nat.le_of_ble_eq_true rfl, Nat.le_of_ble_eq_true rfl⟩ hP hD hS hA [0, 1, 2, 3, 4, 5, 6] rfl rfl 2 0 rfl rfl rfl rfl hl.1 rfl (Nat.le_of_ble_eq_true rfl) dX2_describe_61 ⟨Nat.zero_le _, Nat.zero_le _⟩ (fun H locs hP hS => ?_)
  have hf := Option.some.inj hf; subst hf
  rw [← hQ]
  exact g_iret hx hb hr hlocks hP hS dX2_describe_64
theorem hd_X2_reset : yX2_reset.cls ≠ "java/lang/invoke/MethodHandle" ∧ yX2_reset.cls ≠ "java/lang/invoke/VarHandle" ∧ (parseMethodDescriptor yX2_reset.desc).map (fun d => d.parameters.length) = some 2 := by decide +kernel
abbrev rm_X2_reset : Room := { frames := 0, cells := 0, slots := 0, locals := 0 }
noncomputable def f_X2_reset (w0 : TDelta) (p1 : Int32) (p2 : Int32) : Option TDelta :=
  some (w0.1, w0.2.1, w0.2.2.1, w0.2.2.2.1, w0.2.2.2.2.1, w0.2.2.2.2.2.1, p1, p2, (0 : Int32), (0 : Int32), (-1 : Int32))
set_option maxHeartbeats 4000000 in
set_option maxRecDepth 100000 in
theorem c_X2_reset (l : Launch) (G : GT) (hw0_0 hw0_1 hw0_2 hw0_3 hw0_4 hw0_5 hw0_6 : Nat) (w0 : TDelta) (p1 : Int32) (p2 : Int32) {r : TDelta} (hf : f_X2_reset w0 p1 p2 = some r) : Ct l yX2_reset (Cond.code yX2_reset cX2_reset 3 none :: lw_g) rm_X2_reset G [.ref hw0_0, .int p1, .int p2] [(hw0_0, .inr (2, [.ref hw0_1, .ref hw0_2, .ref hw0_3, .ref hw0_4, .ref hw0_5, .ref hw0_6, .int w0.2.2.2.2.2.2.1, .int w0.2.2.2.2.2.2.2.1, .int w0.2.2.2.2.2.2.2.2.1, .int w0.2.2.2.2.2.2.2.2.2.1, .int w0.2.2.2.2.2.2.2.2.2.2])), (hw0_1, .inl (G.2.1, 30, .inl w0.1)), (hw0_2, .inl (G.2.1, 30, .inl w0.2.1)), (hw0_3, .inl (G.2.1, 30, .inl w0.2.2.1)), (hw0_4, .inl (G.2.1, 30, .inl w0.2.2.2.1)), (hw0_5, .inl (G.2.1, 30, .inl w0.2.2.2.2.1)), (hw0_6, .inl (G.2.1, 64, .inl w0.2.2.2.2.2.1))] none [(hw0_0, .inr (2, [.ref hw0_1, .ref hw0_2, .ref hw0_3, .ref hw0_4, .ref hw0_5, .ref hw0_6, .int r.2.2.2.2.2.2.1, .int r.2.2.2.2.2.2.2.1, .int r.2.2.2.2.2.2.2.2.1, .int r.2.2.2.2.2.2.2.2.2.1, .int r.2.2.2.2.2.2.2.2.2.2])), (hw0_1, .inl (G.2.1, 30, .inl r.1)), (hw0_2, .inl (G.2.1, 30, .inl r.2.1)), (hw0_3, .inl (G.2.1, 30, .inl r.2.2.1)), (hw0_4, .inl (G.2.1, 30, .inl r.2.2.2.1)), (hw0_5, .inl (G.2.1, 30, .inl r.2.2.2.2.1)), (hw0_6, .inl (G.2.1, 64, .inl r.2.2.2.2.2.1))] := by
  refine Ct.ofW (cc := cX2_reset) (maxL := 3) (ret := none) (own := RX2) (by decide) rfl rfl (Nat.le_of_ble_eq_true rfl) ?_
  intro p e s m args below meth c A hx hb hr hml hts hown hlocks hK hP hD hA hS ls hl
  have hl : lv_has ls 3 [(0, .ref hw0_0), (1, .int p1), (2, .int p2)] := hl
  generalize hQ : gMQ below G _ _ A args s = Q
  generalize hH : s.heap = H at hP ⊢
  have hS : va_S A s.heap H [] := by rw [← hH]; exact hS
  generalize ([] : List Loc) = locs at hS ⊢
  unfold f_X2_reset at hf
  refine lv_aload_n (pc := 0) hx hb dX2_reset_0 rfl (lv_at hl 0 rfl) ?_
  refine lv_iload_n (pc := 1) hx hb dX2_reset_1 rfl (lv_at hl 1 rfl) ?_
  refine va_put (pc := 2) (D := G.1) (ci := 2) (v := .int p1) (ty := .int) (C := RX2) (T := TX2) (N := 11) hx hb hts inX2 tyX2 tyX2_ok nmX2 hown hK.1 hP hD hS 0 rfl rfl 6 (by decide) (hts _ wd_72) (fun _ h9 => h9) rfl (by decide +kernel) rfl rfl (Nat.le_of_ble_eq_true rfl) dX2_reset_2 (fun H locs hP hD hS => ?_)
  have hP : va_P G.1 vwCl [(hw0_0, .inr (2, [.ref hw0_1, .ref hw0_2, .ref hw0_3, .ref hw0_4, .ref hw0_5, .ref hw0_6, .int p1, .int w0.2.2.2.2.2.2.2.1, .int w0.2.2.2.2.2.2.2.2.1, .int w0.2.2.2.2.2.2.2.2.2.1, .int w0.2.2.2.2.2.2.2.2.2.2])), (hw0_1, .inl (G.2.1, 30, .inl w0.1)), (hw0_2, .inl (G.2.1, 30, .inl w0.2.1)), (hw0_3, .inl (G.2.1, 30, .inl w0.2.2.1)), (hw0_4, .inl (G.2.1, 30, .inl w0.2.2.2.1)), (hw0_5, .inl (G.2.1, 30, .inl w0.2.2.2.2.1)), (hw0_6, .inl (G.2.1, 64, .inl w0.2.2.2.2.2.1))] H := hP
  have hD : va_D A [(hw0_0, .inr (2, [.ref hw0_1, .ref hw0_2, .ref hw0_3, .ref hw0_4, .ref hw0_5, .ref hw0_6, .int p1, .int w0.2.2.2.2.2.2.2.1, .int w0.2.2.2.2.2.2.2.2.1, .int w0.2.2.2.2.2.2.2.2.2.1, .int w0.2.2.2.2.2.2.2.2.2.2])), (hw0_1, .inl (G.2.1, 30, .inl w0.1)), (hw0_2, .inl (G.2.1, 30, .inl w0.2.1)), (hw0_3, .inl (G.2.1, 30, .inl w0.2.2.1)), (hw0_4, .inl (G.2.1, 30, .inl w0.2.2.2.1)), (hw0_5, .inl (G.2.1, 30, .inl w0.2.2.2.2.1)), (hw0_6, .inl (G.2.1, 64, .inl w0.2.2.2.2.2.1))] := hD
  refine lv_aload_n (pc := 5) hx hb dX2_reset_5 rfl (lv_at hl 0 rfl) ?_
  refine lv_iload_n (pc := 6) hx hb dX2_reset_6 rfl (lv_at hl 2 rfl) ?_
  refine va_put (pc := 7) (D := G.1) (ci := 2) (v := .int p2) (ty := .int) (C := RX2) (T := TX2) (N := 11) hx hb hts inX2 tyX2 tyX2_ok nmX2 hown hK.1 hP hD hS 0 rfl rfl 7 (by decide) (hts _ wd_76) (fun _ h9 => h9) rfl (by decide +kernel) rfl rfl (Nat.le_of_ble_eq_true rfl) dX2_reset_7 (fun H locs hP hD hS => ?_)
  have hP : va_P G.1 vwCl [(hw0_0, .inr (2, [.ref hw0_1, .ref hw0_2, .ref hw0_3, .ref hw0_4, .ref hw0_5, .ref hw0_6, .int p1, .int p2, .int w0.2.2.2.2.2.2.2.2.1, .int w0.2.2.2.2.2.2.2.2.2.1, .int w0.2.2.2.2.2.2.2.2.2.2])), (hw0_1, .inl (G.2.1, 30, .inl w0.1)), (hw0_2, .inl (G.2.1, 30, .inl w0.2.1)), (hw0_3, .inl (G.2.1, 30, .inl w0.2.2.1)), (hw0_4, .inl (G.2.1, 30, .inl w0.2.2.2.1)), (hw0_5, .inl (G.2.1, 30, .inl w0.2.2.2.2.1)), (hw0_6, .inl (G.2.1, 64, .inl w0.2.2.2.2.2.1))] H := hP
  have hD : va_D A [(hw0_0, .inr (2, [.ref hw0_1, .ref hw0_2, .ref hw0_3, .ref hw0_4, .ref hw0_5, .ref hw0_6, .int p1, .int p2, .int w0.2.2.2.2.2.2.2.2.1, .int w0.2.2.2.2.2.2.2.2.2.1, .int w0.2.2.2.2.2.2.2.2.2.2])), (hw0_1, .inl (G.2.1, 30, .inl w0.1)), (hw0_2, .inl (G.2.1, 30, .inl w0.2.1)), (hw0_3, .inl (G.2.1, 30, .inl w0.2.2.1)), (hw0_4, .inl (G.2.1, 30, .inl w0.2.2.2.1)), (hw0_5, .inl (G.2.1, 30, .inl w0.2.2.2.2.1)), (hw0_6, .inl (G.2.1, 64, .inl w0.2.2.2.2.2.1))] := hD
  refine lv_aload_n (pc := 10) hx hb dX2_reset_10 rfl (lv_at hl 0 rfl) ?_
  refine lv_iconst (pc := 11) (v := (0 : Int32)) hx hb dX2_reset_11 (by decide) ?_
  refine va_put (pc := 12) (D := G.1) (ci := 2) (v := .int (0 : Int32)) (ty := .int) (C := RX2) (T := TX2) (N := 11) hx hb hts inX2 tyX2 tyX2_ok nmX2 hown hK.1 hP hD hS 0 rfl rfl 8 (by decide) (hts _ wd_77) (fun _ h9 => h9) rfl (by decide +kernel) rfl rfl (Nat.le_of_ble_eq_true rfl) dX2_reset_12 (fun H locs hP hD hS => ?_)
  have hP : va_P G.1 vwCl [(hw0_0, .inr (2, [.ref hw0_1, .ref hw0_2, .ref hw0_3, .ref hw0_4, .ref hw0_5, .ref hw0_6, .int p1, .int p2, .int (0 : Int32), .int w0.2.2.2.2.2.2.2.2.2.1, .int w0.2.2.2.2.2.2.2.2.2.2])), (hw0_1, .inl (G.2.1, 30, .inl w0.1)), (hw0_2, .inl (G.2.1, 30, .inl w0.2.1)), (hw0_3, .inl (G.2.1, 30, .inl w0.2.2.1)), (hw0_4, .inl (G.2.1, 30, .inl w0.2.2.2.1)), (hw0_5, .inl (G.2.1, 30, .inl w0.2.2.2.2.1)), (hw0_6, .inl (G.2.1, 64, .inl w0.2.2.2.2.2.1))] H := hP
  have hD : va_D A [(hw0_0, .inr (2, [.ref hw0_1, .ref hw0_2, .ref hw0_3, .ref hw0_4, .ref hw0_5, .ref hw0_6, .int p1, .int p2, .int (0 : Int32), .int w0.2.2.2.2.2.2.2.2.2.1, .int w0.2.2.2.2.2.2.2.2.2.2])), (hw0_1, .inl (G.2.1, 30, .inl w0.1)), (hw0_2, .inl (G.2.1, 30, .inl w0.2.1)), (hw0_3, .inl (G.2.1, 30, .inl w0.2.2.1)), (hw0_4, .inl (G.2.1, 30, .inl w0.2.2.2.1)), (hw0_5, .inl (G.2.1, 30, .inl w0.2.2.2.2.1)), (hw0_6, .inl (G.2.1, 64, .inl w0.2.2.2.2.2.1))] := hD
  refine lv_aload_n (pc := 15) hx hb dX2_reset_15 rfl (lv_at hl 0 rfl) ?_
  refine lv_iconst (pc := 16) (v := (0 : Int32)) hx hb dX2_reset_16 (by decide) ?_
  refine va_put (pc := 17) (D := G.1) (ci := 2) (v := .int (0 : Int32)) (ty := .int) (C := RX2) (T := TX2) (N := 11) hx hb hts inX2 tyX2 tyX2_ok nmX2 hown hK.1 hP hD hS 0 rfl rfl 9 (by decide) (hts _ wd_83) (fun _ h9 => h9) rfl (by decide +kernel) rfl rfl (Nat.le_of_ble_eq_true rfl) dX2_reset_17 (fun H locs hP hD hS => ?_)
  have hP : va_P G.1 vwCl [(hw0_0, .inr (2, [.ref hw0_1, .ref hw0_2, .ref hw0_3, .ref hw0_4, .ref hw0_5, .ref hw0_6, .int p1, .int p2, .int (0 : Int32), .int (0 : Int32), .int w0.2.2.2.2.2.2.2.2.2.2])), (hw0_1, .inl (G.2.1, 30, .inl w0.1)), (hw0_2, .inl (G.2.1, 30, .inl w0.2.1)), (hw0_3, .inl (G.2.1, 30, .inl w0.2.2.1)), (hw0_4, .inl (G.2.1, 30, .inl w0.2.2.2.1)), (hw0_5, .inl (G.2.1, 30, .inl w0.2.2.2.2.1)), (hw0_6, .inl (G.2.1, 64, .inl w0.2.2.2.2.2.1))] H := hP
  have hD : va_D A [(hw0_0, .inr (2, [.ref hw0_1, .ref hw0_2, .ref hw0_3, .ref hw0_4, .ref hw0_5, .ref hw0_6, .int p1, .int p2, .int (0 : Int32), .int (0 : Int32), .int w0.2.2.2.2.2.2.2.2.2.2])), (hw0_1, .inl (G.2.1, 30, .inl w0.1)), (hw0_2, .inl (G.2.1, 30, .inl w0.2.1)), (hw0_3, .inl (G.2.1, 30, .inl w0.2.2.1)), (hw0_4, .inl (G.2.1, 30, .inl w0.2.2.2.1)), (hw0_5, .inl (G.2.1, 30, .inl w0.2.2.2.2.1)), (hw0_6, .inl (G.2.1, 64, .inl w0.2.2.2.2.2.1))] := hD
  refine lv_aload_n (pc := 20) hx hb dX2_reset_20 rfl (lv_at hl 0 rfl) ?_
  refine lv_iconst (pc := 21) (v := (-1 : Int32)) hx hb dX2_reset_21 (by decide) ?_
  refine va_put (pc := 22) (D := G.1) (ci := 2) (v := .int (-1 : Int32)) (ty := .int) (C := RX2) (T := TX2) (N := 11) hx hb hts inX2 tyX2 tyX2_ok nmX2 hown hK.1 hP hD hS 0 rfl rfl 10 (by decide) (hts _ wd_85) (fun _ h9 => h9) rfl (by decide +kernel) rfl rfl (Nat.le_of_ble_eq_true rfl) dX2_reset_22 (fun H locs hP hD hS => ?_)
  have hP : va_P G.1 vwCl [(hw0_0, .inr (2, [.ref hw0_1, .ref hw0_2, .ref hw0_3, .ref hw0_4, .ref hw0_5, .ref hw0_6, .int p1, .int p2, .int (0 : Int32), .int (0 : Int32), .int (-1 : Int32)])), (hw0_1, .inl (G.2.1, 30, .inl w0.1)), (hw0_2, .inl (G.2.1, 30, .inl w0.2.1)), (hw0_3, .inl (G.2.1, 30, .inl w0.2.2.1)), (hw0_4, .inl (G.2.1, 30, .inl w0.2.2.2.1)), (hw0_5, .inl (G.2.1, 30, .inl w0.2.2.2.2.1)), (hw0_6, .inl (G.2.1, 64, .inl w0.2.2.2.2.2.1))] H := hP
  have hD : va_D A [(hw0_0, .inr (2, [.ref hw0_1, .ref hw0_2, .ref hw0_3, .ref hw0_4, .ref hw0_5, .ref hw0_6, .int p1, .int p2, .int (0 : Int32), .int (0 : Int32), .int (-1 : Int32)])), (hw0_1, .inl (G.2.1, 30, .inl w0.1)), (hw0_2, .inl (G.2.1, 30, .inl w0.2.1)), (hw0_3, .inl (G.2.1, 30, .inl w0.2.2.1)), (hw0_4, .inl (G.2.1, 30, .inl w0.2.2.2.1)), (hw0_5, .inl (G.2.1, 30, .inl w0.2.2.2.2.1)), (hw0_6, .inl (G.2.1, 64, .inl w0.2.2.2.2.2.1))] := hD
  have hf := Option.some.inj hf; subst hf
  rw [← hQ]
  exact g_vret hx hb hr hlocks hP hS dX2_reset_25
theorem hd_X2_linkPair : yX2_linkPair.cls ≠ "java/lang/invoke/MethodHandle" ∧ yX2_linkPair.cls ≠ "java/lang/invoke/VarHandle" ∧ (parseMethodDescriptor yX2_linkPair.desc).map (fun d => d.parameters.length) = some 2 := by decide +kernel
abbrev rm_X2_linkPair : Room := { frames := 2, cells := 0, slots := 0, locals := 42 }
noncomputable def f_X2_linkPair (w0 : TDelta) (p1 : Int32) (p2 : Int32) : Option TDelta :=
  (f_X2_sourceOf w0 p1).bind (fun x1 => (f_X2_lengthOf w0 p1).bind (fun x2 => (f_X2_targetOf w0 p2).bind (fun x3 => (f_X2_lengthOf w0 p2).bind (fun x4 => (f_X10_overlap x1 x2 x3 x4).bind (fun x5 => br (x5 = 0) (some w0) ((f_X2_has w0 p2).bind (fun x6 => br (x6 = 0) (some w0) (gd (vp_in p2 30) (gd (vp_in p2 30) (some (w0.1, w0.2.1, w0.2.2.1, w0.2.2.2.1, (upd w0.2.2.2.2.1 p2.toNatClampNeg ((w0.2.2.2.2.1 p2.toNatClampNeg) ||| ((1 : Int32) <<< (p1 &&& 31)))), w0.2.2.2.2.2.1, w0.2.2.2.2.2.2.1, w0.2.2.2.2.2.2.2.1, w0.2.2.2.2.2.2.2.2.1, w0.2.2.2.2.2.2.2.2.2.1, w0.2.2.2.2.2.2.2.2.2.2)))))))))))
set_option maxHeartbeats 4000000 in
set_option maxRecDepth 100000 in
theorem c_X2_linkPair (l : Launch) (G : GT) (hw0_0 hw0_1 hw0_2 hw0_3 hw0_4 hw0_5 hw0_6 : Nat) (w0 : TDelta) (p1 : Int32) (p2 : Int32) {r : TDelta} (hf : f_X2_linkPair w0 p1 p2 = some r) : Ct l yX2_linkPair (Cond.code yX2_linkPair cX2_linkPair 3 none :: lw_g) rm_X2_linkPair G [.ref hw0_0, .int p1, .int p2] [(hw0_0, .inr (2, [.ref hw0_1, .ref hw0_2, .ref hw0_3, .ref hw0_4, .ref hw0_5, .ref hw0_6, .int w0.2.2.2.2.2.2.1, .int w0.2.2.2.2.2.2.2.1, .int w0.2.2.2.2.2.2.2.2.1, .int w0.2.2.2.2.2.2.2.2.2.1, .int w0.2.2.2.2.2.2.2.2.2.2])), (hw0_1, .inl (G.2.1, 30, .inl w0.1)), (hw0_2, .inl (G.2.1, 30, .inl w0.2.1)), (hw0_3, .inl (G.2.1, 30, .inl w0.2.2.1)), (hw0_4, .inl (G.2.1, 30, .inl w0.2.2.2.1)), (hw0_5, .inl (G.2.1, 30, .inl w0.2.2.2.2.1)), (hw0_6, .inl (G.2.1, 64, .inl w0.2.2.2.2.2.1))] none [(hw0_0, .inr (2, [.ref hw0_1, .ref hw0_2, .ref hw0_3, .ref hw0_4, .ref hw0_5, .ref hw0_6, .int r.2.2.2.2.2.2.1, .int r.2.2.2.2.2.2.2.1, .int r.2.2.2.2.2.2.2.2.1, .int r.2.2.2.2.2.2.2.2.2.1, .int r.2.2.2.2.2.2.2.2.2.2])), (hw0_1, .inl (G.2.1, 30, .inl r.1)), (hw0_2, .inl (G.2.1, 30, .inl r.2.1)), (hw0_3, .inl (G.2.1, 30, .inl r.2.2.1)), (hw0_4, .inl (G.2.1, 30, .inl r.2.2.2.1)), (hw0_5, .inl (G.2.1, 30, .inl r.2.2.2.2.1)), (hw0_6, .inl (G.2.1, 64, .inl r.2.2.2.2.2.1))] := by
  refine Ct.ofW (cc := cX2_linkPair) (maxL := 3) (ret := none) (own := RX2) (by decide) rfl rfl (Nat.le_of_ble_eq_true rfl) ?_
  intro p e s m args below meth c A hx hb hr hml hts hown hlocks hK hP hD hA hS ls hl
  have hl : lv_has ls 3 [(0, .ref hw0_0), (1, .int p1), (2, .int p2)] := hl
  generalize hQ : gMQ below G _ _ A args s = Q
  generalize hH : s.heap = H at hP ⊢
  have hS : va_S A s.heap H [] := by rw [← hH]; exact hS
  generalize ([] : List Loc) = locs at hS ⊢
  unfold f_X2_linkPair at hf
  refine lv_aload_n (pc := 0) hx hb dX2_linkPair_0 rfl (lv_at hl 0 rfl) ?_
  refine lv_iload_n (pc := 1) hx hb dX2_linkPair_1 rfl (lv_at hl 1 rfl) ?_
  obtain ⟨x1, hcx1, hf⟩ := bn_some hf
  refine g_callV0 (pc := 2) (rest := []) hx hb hml hown hts hK (c_X2_sourceOf l G hw0_0 hw0_1 hw0_2 hw0_3 hw0_4 hw0_5 hw0_6 w0 p1 hcx1) wd_341 wd_5 wd_338 wd_339 wd_340 hd_X2_sourceOf ⟨rfl, rfl, Nat.le_of_ble_eq_true rfl, Nat.le_of_ble_eq_true rfl⟩ hP hD hS hA [0, 1, 2, 3, 4, 5, 6] rfl rfl 2 0 rfl rfl rfl rfl hl.1 rfl (Nat.le_of_ble_eq_true rfl) dX2_linkPair_2 ⟨Nat.zero_le _, Nat.zero_le _⟩ (fun H locs hP hS => ?_)
  refine lv_aload_n (pc := 5) hx hb dX2_linkPair_5 rfl (lv_at hl 0 rfl) ?_
  refine lv_iload_n (pc := 6) hx hb dX2_linkPair_6 rfl (lv_at hl 1 rfl) ?_
  obtain ⟨x2, hcx2, hf⟩ := bn_some hf
  refine g_callV0 (pc := 7) (rest := [.int x1]) hx hb hml hown hts hK (c_X2_lengthOf l G hw0_0 hw0_1 hw0_2 hw0_3 hw0_4 hw0_5 hw0_6 w0 p1 hcx2) wd_349 wd_5 wd_346 wd_347 wd_348 hd_X2_lengthOf ⟨rfl, rfl, Nat.le_of_ble_eq_true rfl, Nat.le_of_ble_eq_true rfl⟩ hP hD hS hA [0, 1, 2, 3, 4, 5, 6] rfl rfl 2 0 rfl rfl rfl rfl hl.1 rfl (Nat.le_of_ble_eq_true rfl) dX2_linkPair_7 ⟨Nat.zero_le _, Nat.zero_le _⟩ (fun H locs hP hS => ?_)
  refine lv_aload_n (pc := 10) hx hb dX2_linkPair_10 rfl (lv_at hl 0 rfl) ?_
  refine lv_iload_n (pc := 11) hx hb dX2_linkPair_11 rfl (lv_at hl 2 rfl) ?_
  obtain ⟨x3, hcx3, hf⟩ := bn_some hf
  refine g_callV0 (pc := 12) (rest := [.int x2, .int x1]) hx hb hml hown hts hK (c_X2_targetOf l G hw0_0 hw0_1 hw0_2 hw0_3 hw0_4 hw0_5 hw0_6 w0 p2 hcx3) wd_353 wd_5 wd_350 wd_351 wd_352 hd_X2_targetOf ⟨rfl, rfl, Nat.le_of_ble_eq_true rfl, Nat.le_of_ble_eq_true rfl⟩ hP hD hS hA [0, 1, 2, 3, 4, 5, 6] rfl rfl 2 0 rfl rfl rfl rfl hl.1 rfl (Nat.le_of_ble_eq_true rfl) dX2_linkPair_12 ⟨Nat.zero_le _, Nat.zero_le _⟩ (fun H locs hP hS => ?_)
  refine lv_aload_n (pc := 15) hx hb dX2_linkPair_15 rfl (lv_at hl 0 rfl) ?_
  refine lv_iload_n (pc := 16) hx hb dX2_linkPair_16 rfl (lv_at hl 2 rfl) ?_
  obtain ⟨x4, hcx4, hf⟩ := bn_some hf
  refine g_callV0 (pc := 17) (rest := [.int x3, .int x2, .int x1]) hx hb hml hown hts hK (c_X2_lengthOf l G hw0_0 hw0_1 hw0_2 hw0_3 hw0_4 hw0_5 hw0_6 w0 p2 hcx4) wd_349 wd_5 wd_346 wd_347 wd_348 hd_X2_lengthOf ⟨rfl, rfl, Nat.le_of_ble_eq_true rfl, Nat.le_of_ble_eq_true rfl⟩ hP hD hS hA [0, 1, 2, 3, 4, 5, 6] rfl rfl 2 0 rfl rfl rfl rfl hl.1 rfl (Nat.le_of_ble_eq_true rfl) dX2_linkPair_17 ⟨Nat.zero_le _, Nat.zero_le _⟩ (fun H locs hP hS => ?_)
  obtain ⟨x5, hcx5, hf⟩ := bn_some hf
  refine g_callSN0 (pc := 20) (rest := []) hx hb hml hown hts hK (c_X10_overlap l G  x1 x2 x3 x4 hcx5) wd_356 wd_1 (nmw_354 hK) wd_355 hd_X10_overlap ⟨rfl, rfl, Nat.le_of_ble_eq_true rfl, Nat.le_of_ble_eq_true rfl⟩ hP hD hS hA [] rfl rfl rfl hl.1 rfl (Nat.le_of_ble_eq_true rfl) dX2_linkPair_20 ⟨Nat.zero_le _, Nat.zero_le _⟩ (fun H locs hP hS => ?_)
  refine lv_if_eq (pc := 23) (tgt := 46) hx hb dX2_linkPair_23 (by decide) (fun hc => ?_) (fun hc => ?_)
  · have hf := br_y hc hf
    have hf := Option.some.inj hf; subst hf
    rw [← hQ]
    exact g_vret hx hb hr hlocks hP hS dX2_linkPair_46
  · have hf := br_n hc hf
    refine lv_aload_n (pc := 26) hx hb dX2_linkPair_26 rfl (lv_at hl 0 rfl) ?_
    refine lv_iload_n (pc := 27) hx hb dX2_linkPair_27 rfl (lv_at hl 2 rfl) ?_
    obtain ⟨x6, hcx6, hf⟩ := bn_some hf
    refine g_callV0 (pc := 28) (rest := []) hx hb hml hown hts hK (c_X2_has l G hw0_0 hw0_1 hw0_2 hw0_3 hw0_4 hw0_5 hw0_6 w0 p2 hcx6) wd_345 wd_5 wd_342 wd_343 wd_344 hd_X2_has ⟨rfl, rfl, Nat.le_of_ble_eq_true rfl, Nat.le_of_ble_eq_true rfl⟩ hP hD hS hA [0, 1, 2, 3, 4, 5, 6] rfl rfl 2 0 rfl rfl rfl rfl hl.1 rfl (Nat.le_of_ble_eq_true rfl) dX2_linkPair_28 ⟨Nat.zero_le _, Nat.zero_le _⟩ (fun H locs hP hS => ?_)
    refine lv_if_eq (pc := 31) (tgt := 46) hx hb dX2_linkPair_31 (by decide) (fun hc => ?_) (fun hc => ?_)
    · have hf := br_y hc hf
      have hf := Option.some.inj hf; subst hf
      rw [← hQ]
      exact g_vret hx hb hr hlocks hP hS dX2_linkPair_46
    · have hf := br_n hc hf
      refine lv_aload_n (pc := 34) hx hb dX2_linkPair_34 rfl (lv_at hl 0 rfl) ?_
      refine va_get (pc := 35) (D := G.1) (ci := 2) (v := .ref hw0_5) (C := RX2) (T := TX2) (N := 11) hx hb hts inX2 hown hK.1 hP 0 rfl rfl 4 (by decide) (hts _ wd_67) (fun _ h9 => h9) rfl dX2_linkPair_35 ?_
      refine lv_iload_n (pc := 38) hx hb dX2_linkPair_38 rfl (lv_at hl 2 rfl) ?_
      refine lv_dup2_11 (pc := 39) hx hb dX2_linkPair_39 rfl rfl ?_
      obtain ⟨hg, hf⟩ := gd_some hf
      refine va_iald (pc := 40) hx hb hK.1 hP 5 0 rfl rfl hg dX2_linkPair_40 ?_
      refine lv_iconst (pc := 41) (v := (1 : Int32)) hx hb dX2_linkPair_41 (by decide) ?_
      refine lv_iload_n (pc := 42) hx hb dX2_linkPair_42 rfl (lv_at hl 1 rfl) ?_
      refine lv_ishl (pc := 43) hx hb dX2_linkPair_43 ?_
      refine lv_ior (pc := 44) hx hb dX2_linkPair_44 ?_
      obtain ⟨hg, hf⟩ := gd_some hf
      refine va_iast (pc := 45) hx hb hK.1 hP hD hS 5 0 rfl rfl hg dX2_linkPair_45 (fun H locs hP hD hS => ?_)
      have hP : va_P G.1 vwCl [(hw0_0, .inr (2, [.ref hw0_1, .ref hw0_2, .ref hw0_3, .ref hw0_4, .ref hw0_5, .ref hw0_6, .int w0.2.2.2.2.2.2.1, .int w0.2.2.2.2.2.2.2.1, .int w0.2.2.2.2.2.2.2.2.1, .int w0.2.2.2.2.2.2.2.2.2.1, .int w0.2.2.2.2.2.2.2.2.2.2])), (hw0_1, .inl (G.2.1, 30, .inl w0.1)), (hw0_2, .inl (G.2.1, 30, .inl w0.2.1)), (hw0_3, .inl (G.2.1, 30, .inl w0.2.2.1)), (hw0_4, .inl (G.2.1, 30, .inl w0.2.2.2.1)), (hw0_5, .inl (G.2.1, 30, .inl (upd w0.2.2.2.2.1 p2.toNatClampNeg ((w0.2.2.2.2.1 p2.toNatClampNeg) ||| ((1 : Int32) <<< (p1 &&& 31)))))), (hw0_6, .inl (G.2.1, 64, .inl w0.2.2.2.2.2.1))] H := hP
      have hD : va_D A [(hw0_0, .inr (2, [.ref hw0_1, .ref hw0_2, .ref hw0_3, .ref hw0_4, .ref hw0_5, .ref hw0_6, .int w0.2.2.2.2.2.2.1, .int w0.2.2.2.2.2.2.2.1, .int w0.2.2.2.2.2.2.2.2.1, .int w0.2.2.2.2.2.2.2.2.2.1, .int w0.2.2.2.2.2.2.2.2.2.2])), (hw0_1, .inl (G.2.1, 30, .inl w0.1)), (hw0_2, .inl (G.2.1, 30, .inl w0.2.1)), (hw0_3, .inl (G.2.1, 30, .inl w0.2.2.1)), (hw0_4, .inl (G.2.1, 30, .inl w0.2.2.2.1)), (hw0_5, .inl (G.2.1, 30, .inl (upd w0.2.2.2.2.1 p2.toNatClampNeg ((w0.2.2.2.2.1 p2.toNatClampNeg) ||| ((1 : Int32) <<< (p1 &&& 31)))))), (hw0_6, .inl (G.2.1, 64, .inl w0.2.2.2.2.2.1))] := hD
      have hf := Option.some.inj hf; subst hf
      rw [← hQ]
      exact g_vret hx hb hr hlocks hP hS dX2_linkPair_46
theorem hd_X2_linkCopy : yX2_linkCopy.cls ≠ "java/lang/invoke/MethodHandle" ∧ yX2_linkCopy.cls ≠ "java/lang/invoke/VarHandle" ∧ (parseMethodDescriptor yX2_linkCopy.desc).map (fun d => d.parameters.length) = some 1 := by decide +kernel
abbrev rm_X2_linkCopy : Room := { frames := 3, cells := 0, slots := 0, locals := 64 }
noncomputable def f_X2_linkCopy_J27 (p1 : Int32) (rec2 : TDelta → Int32 → Option TDelta) (w0 : TDelta) (v2 : Int32) : Option TDelta :=
  rec2 w0 (v2 + (1 : Int32))
noncomputable def f_X2_linkCopy_L2 (p1 : Int32)  : Nat → TDelta → Int32 → Option TDelta
  | 0, _, _ => none
  | k2 + 1, w0, v2 =>
    br (p1 ≤ v2) (some (w0.1, w0.2.1, w0.2.2.1, w0.2.2.2.1, w0.2.2.2.2.1, w0.2.2.2.2.2.1, w0.2.2.2.2.2.2.1, w0.2.2.2.2.2.2.2.1, w0.2.2.2.2.2.2.2.2.1, (w0.2.2.2.2.2.2.2.2.2.1 ||| ((1 : Int32) <<< (p1 &&& 31))), w0.2.2.2.2.2.2.2.2.2.2)) ((f_X2_isCopy w0 v2).bind (fun x1 => br (x1 = 0) (f_X2_linkCopy_J27 p1 (f_X2_linkCopy_L2 p1  k2) w0 v2) ((f_X2_linkPair w0 v2 p1).bind (fun x2 => (f_X2_linkPair x2 p1 v2).bind (fun x3 => f_X2_linkCopy_J27 p1 (f_X2_linkCopy_L2 p1  k2) x3 v2)))))
noncomputable def f_X2_linkCopy (w0 : TDelta) (p1 : Int32) : Option TDelta :=
  f_X2_linkCopy_L2 p1 FUEL w0 (0 : Int32)
set_option maxHeartbeats 4000000 in
set_option maxRecDepth 100000 in
theorem c_X2_linkCopy (l : Launch) (G : GT) (hw0_0 hw0_1 hw0_2 hw0_3 hw0_4 hw0_5 hw0_6 : Nat) (w0 : TDelta) (p1 : Int32) {r : TDelta} (hf : f_X2_linkCopy w0 p1 = some r) : Ct l yX2_linkCopy (Cond.code yX2_linkCopy cX2_linkCopy 3 none :: lw_g) rm_X2_linkCopy G [.ref hw0_0, .int p1] [(hw0_0, .inr (2, [.ref hw0_1, .ref hw0_2, .ref hw0_3, .ref hw0_4, .ref hw0_5, .ref hw0_6, .int w0.2.2.2.2.2.2.1, .int w0.2.2.2.2.2.2.2.1, .int w0.2.2.2.2.2.2.2.2.1, .int w0.2.2.2.2.2.2.2.2.2.1, .int w0.2.2.2.2.2.2.2.2.2.2])), (hw0_1, .inl (G.2.1, 30, .inl w0.1)), (hw0_2, .inl (G.2.1, 30, .inl w0.2.1)), (hw0_3, .inl (G.2.1, 30, .inl w0.2.2.1)), (hw0_4, .inl (G.2.1, 30, .inl w0.2.2.2.1)), (hw0_5, .inl (G.2.1, 30, .inl w0.2.2.2.2.1)), (hw0_6, .inl (G.2.1, 64, .inl w0.2.2.2.2.2.1))] none [(hw0_0, .inr (2, [.ref hw0_1, .ref hw0_2, .ref hw0_3, .ref hw0_4, .ref hw0_5, .ref hw0_6, .int r.2.2.2.2.2.2.1, .int r.2.2.2.2.2.2.2.1, .int r.2.2.2.2.2.2.2.2.1, .int r.2.2.2.2.2.2.2.2.2.1, .int r.2.2.2.2.2.2.2.2.2.2])), (hw0_1, .inl (G.2.1, 30, .inl r.1)), (hw0_2, .inl (G.2.1, 30, .inl r.2.1)), (hw0_3, .inl (G.2.1, 30, .inl r.2.2.1)), (hw0_4, .inl (G.2.1, 30, .inl r.2.2.2.1)), (hw0_5, .inl (G.2.1, 30, .inl r.2.2.2.2.1)), (hw0_6, .inl (G.2.1, 64, .inl r.2.2.2.2.2.1))] := by
  refine Ct.ofW (cc := cX2_linkCopy) (maxL := 3) (ret := none) (own := RX2) (by decide) rfl rfl (Nat.le_of_ble_eq_true rfl) ?_
  intro p e s m args below meth c A hx hb hr hml hts hown hlocks hK hP hD hA hS ls hl
  have hl : lv_has ls 3 [(0, .ref hw0_0), (1, .int p1)] := hl
  generalize hQ : gMQ below G _ _ A args s = Q
  generalize hH : s.heap = H at hP ⊢
  have hS : va_S A s.heap H [] := by rw [← hH]; exact hS
  generalize ([] : List Loc) = locs at hS ⊢
  unfold f_X2_linkCopy at hf
  have hL2 : ∀ (k2 : Nat) (w0 : TDelta) (v2 : Int32), f_X2_linkCopy_L2 p1  k2 w0 v2 = some r → ∀ (H : Heap) (locs : List Loc), va_P G.1 vwCl [(hw0_0, .inr (2, [.ref hw0_1, .ref hw0_2, .ref hw0_3, .ref hw0_4, .ref hw0_5, .ref hw0_6, .int w0.2.2.2.2.2.2.1, .int w0.2.2.2.2.2.2.2.1, .int w0.2.2.2.2.2.2.2.2.1, .int w0.2.2.2.2.2.2.2.2.2.1, .int w0.2.2.2.2.2.2.2.2.2.2])), (hw0_1, .inl (G.2.1, 30, .inl w0.1)), (hw0_2, .inl (G.2.1, 30, .inl w0.2.1)), (hw0_3, .inl (G.2.1, 30, .inl w0.2.2.1)), (hw0_4, .inl (G.2.1, 30, .inl w0.2.2.2.1)), (hw0_5, .inl (G.2.1, 30, .inl w0.2.2.2.2.1)), (hw0_6, .inl (G.2.1, 64, .inl w0.2.2.2.2.2.1))] H → va_D A [(hw0_0, .inr (2, [.ref hw0_1, .ref hw0_2, .ref hw0_3, .ref hw0_4, .ref hw0_5, .ref hw0_6, .int w0.2.2.2.2.2.2.1, .int w0.2.2.2.2.2.2.2.1, .int w0.2.2.2.2.2.2.2.2.1, .int w0.2.2.2.2.2.2.2.2.2.1, .int w0.2.2.2.2.2.2.2.2.2.2])), (hw0_1, .inl (G.2.1, 30, .inl w0.1)), (hw0_2, .inl (G.2.1, 30, .inl w0.2.1)), (hw0_3, .inl (G.2.1, 30, .inl w0.2.2.1)), (hw0_4, .inl (G.2.1, 30, .inl w0.2.2.2.1)), (hw0_5, .inl (G.2.1, 30, .inl w0.2.2.2.2.1)), (hw0_6, .inl (G.2.1, 64, .inl w0.2.2.2.2.2.1))] → va_S A s.heap H locs → ∀ (ls : Array Slot), lv_has ls 3 [(2, .int v2), (0, .ref hw0_0), (1, .int p1)] → W p l e (rm_X2_linkCopy) s m args below meth c H locs 0 0 Q (F0 m 2 ls []) := by
    intro k2
    induction k2 with
    | zero =>
      intro w0 v2 hf
      rw [f_X2_linkCopy_L2.eq_1] at hf; cases hf
    | succ k2 ih2 =>
      have hJ27 : ∀ (w0 : TDelta) (v2 : Int32), f_X2_linkCopy_J27 p1 (f_X2_linkCopy_L2 p1 k2) w0 v2 = some r → ∀ (H : Heap) (locs : List Loc), va_P G.1 vwCl [(hw0_0, .inr (2, [.ref hw0_1, .ref hw0_2, .ref hw0_3, .ref hw0_4, .ref hw0_5, .ref hw0_6, .int w0.2.2.2.2.2.2.1, .int w0.2.2.2.2.2.2.2.1, .int w0.2.2.2.2.2.2.2.2.1, .int w0.2.2.2.2.2.2.2.2.2.1, .int w0.2.2.2.2.2.2.2.2.2.2])), (hw0_1, .inl (G.2.1, 30, .inl w0.1)), (hw0_2, .inl (G.2.1, 30, .inl w0.2.1)), (hw0_3, .inl (G.2.1, 30, .inl w0.2.2.1)), (hw0_4, .inl (G.2.1, 30, .inl w0.2.2.2.1)), (hw0_5, .inl (G.2.1, 30, .inl w0.2.2.2.2.1)), (hw0_6, .inl (G.2.1, 64, .inl w0.2.2.2.2.2.1))] H → va_D A [(hw0_0, .inr (2, [.ref hw0_1, .ref hw0_2, .ref hw0_3, .ref hw0_4, .ref hw0_5, .ref hw0_6, .int w0.2.2.2.2.2.2.1, .int w0.2.2.2.2.2.2.2.1, .int w0.2.2.2.2.2.2.2.2.1, .int w0.2.2.2.2.2.2.2.2.2.1, .int w0.2.2.2.2.2.2.2.2.2.2])), (hw0_1, .inl (G.2.1, 30, .inl w0.1)), (hw0_2, .inl (G.2.1, 30, .inl w0.2.1)), (hw0_3, .inl (G.2.1, 30, .inl w0.2.2.1)), (hw0_4, .inl (G.2.1, 30, .inl w0.2.2.2.1)), (hw0_5, .inl (G.2.1, 30, .inl w0.2.2.2.2.1)), (hw0_6, .inl (G.2.1, 64, .inl w0.2.2.2.2.2.1))] → va_S A s.heap H locs → ∀ (ls : Array Slot), lv_has ls 3 [(2, .int v2), (0, .ref hw0_0), (1, .int p1)] → W p l e (rm_X2_linkCopy) s m args below meth c H locs 0 0 Q (F0 m 27 ls []) := by
        intro w0 v2 hf H locs hP hD hS ls hl
        unfold f_X2_linkCopy_J27 at hf
        refine lv_iinc (pc := 27) (v := (v2 + (1 : Int32))) (lv' := [(2, .int (v2 + (1 : Int32))), (0, .ref hw0_0), (1, .int p1)]) hx hb dX2_linkCopy_27 hl (k := 0) rfl rfl (by decide) rfl (fun ls hl => ?_)
        refine lv_goto (pc := 30) (tgt := 2) hx hb dX2_linkCopy_30 (by decide) ?_
        exact ih2 w0 (v2 + (1 : Int32)) hf H locs hP hD hS ls (lv_sub hl [0, 1, 2] rfl)
      intro w0 v2 hf H locs hP hD hS ls hl
      rw [f_X2_linkCopy_L2.eq_2] at hf
      refine lv_iload_n (pc := 2) hx hb dX2_linkCopy_2 rfl (lv_at hl 0 rfl) ?_
      refine lv_iload_n (pc := 3) hx hb dX2_linkCopy_3 rfl (lv_at hl 2 rfl) ?_
      refine lv_icmp_ge (pc := 4) (tgt := 33) hx hb dX2_linkCopy_4 (by decide) (fun hc => ?_) (fun hc => ?_)
      · have hf := br_y hc hf
        refine lv_aload_n (pc := 33) hx hb dX2_linkCopy_33 rfl (lv_at hl 1 rfl) ?_
        refine lv_dup (pc := 34) hx hb dX2_linkCopy_34 rfl ?_
        refine va_get (pc := 35) (D := G.1) (ci := 2) (v := .int w0.2.2.2.2.2.2.2.2.2.1) (C := RX2) (T := TX2) (N := 11) hx hb hts inX2 hown hK.1 hP 0 rfl rfl 9 (by decide) (hts _ wd_83) (fun _ h9 => h9) rfl dX2_linkCopy_35 ?_
        refine lv_iconst (pc := 38) (v := (1 : Int32)) hx hb dX2_linkCopy_38 (by decide) ?_
        refine lv_iload_n (pc := 39) hx hb dX2_linkCopy_39 rfl (lv_at hl 2 rfl) ?_
        refine lv_ishl (pc := 40) hx hb dX2_linkCopy_40 ?_
        refine lv_ior (pc := 41) hx hb dX2_linkCopy_41 ?_
        refine va_put (pc := 42) (D := G.1) (ci := 2) (v := .int (w0.2.2.2.2.2.2.2.2.2.1 ||| ((1 : Int32) <<< (p1 &&& 31)))) (ty := .int) (C := RX2) (T := TX2) (N := 11) hx hb hts inX2 tyX2 tyX2_ok nmX2 hown hK.1 hP hD hS 0 rfl rfl 9 (by decide) (hts _ wd_83) (fun _ h9 => h9) rfl (by decide +kernel) rfl rfl (Nat.le_of_ble_eq_true rfl) dX2_linkCopy_42 (fun H locs hP hD hS => ?_)
        have hP : va_P G.1 vwCl [(hw0_0, .inr (2, [.ref hw0_1, .ref hw0_2, .ref hw0_3, .ref hw0_4, .ref hw0_5, .ref hw0_6, .int w0.2.2.2.2.2.2.1, .int w0.2.2.2.2.2.2.2.1, .int w0.2.2.2.2.2.2.2.2.1, .int (w0.2.2.2.2.2.2.2.2.2.1 ||| ((1 : Int32) <<< (p1 &&& 31))), .int w0.2.2.2.2.2.2.2.2.2.2])), (hw0_1, .inl (G.2.1, 30, .inl w0.1)), (hw0_2, .inl (G.2.1, 30, .inl w0.2.1)), (hw0_3, .inl (G.2.1, 30, .inl w0.2.2.1)), (hw0_4, .inl (G.2.1, 30, .inl w0.2.2.2.1)), (hw0_5, .inl (G.2.1, 30, .inl w0.2.2.2.2.1)), (hw0_6, .inl (G.2.1, 64, .inl w0.2.2.2.2.2.1))] H := hP
        have hD : va_D A [(hw0_0, .inr (2, [.ref hw0_1, .ref hw0_2, .ref hw0_3, .ref hw0_4, .ref hw0_5, .ref hw0_6, .int w0.2.2.2.2.2.2.1, .int w0.2.2.2.2.2.2.2.1, .int w0.2.2.2.2.2.2.2.2.1, .int (w0.2.2.2.2.2.2.2.2.2.1 ||| ((1 : Int32) <<< (p1 &&& 31))), .int w0.2.2.2.2.2.2.2.2.2.2])), (hw0_1, .inl (G.2.1, 30, .inl w0.1)), (hw0_2, .inl (G.2.1, 30, .inl w0.2.1)), (hw0_3, .inl (G.2.1, 30, .inl w0.2.2.1)), (hw0_4, .inl (G.2.1, 30, .inl w0.2.2.2.1)), (hw0_5, .inl (G.2.1, 30, .inl w0.2.2.2.2.1)), (hw0_6, .inl (G.2.1, 64, .inl w0.2.2.2.2.2.1))] := hD
        have hf := Option.some.inj hf; subst hf
        rw [← hQ]
        exact g_vret hx hb hr hlocks hP hS dX2_linkCopy_45
      · have hf := br_n hc hf
        refine lv_aload_n (pc := 7) hx hb dX2_linkCopy_7 rfl (lv_at hl 1 rfl) ?_
        refine lv_iload_n (pc := 8) hx hb dX2_linkCopy_8 rfl (lv_at hl 0 rfl) ?_
        obtain ⟨x1, hcx1, hf⟩ := bn_some hf
        refine g_callV0 (pc := 9) (rest := []) hx hb hml hown hts hK (c_X2_isCopy l G hw0_0 hw0_1 hw0_2 hw0_3 hw0_4 hw0_5 hw0_6 w0 v2 hcx1) wd_330 wd_5 wd_327 wd_328 wd_329 hd_X2_isCopy ⟨rfl, rfl, Nat.le_of_ble_eq_true rfl, Nat.le_of_ble_eq_true rfl⟩ hP hD hS hA [0, 1, 2, 3, 4, 5, 6] rfl rfl 2 0 rfl rfl rfl rfl hl.1 rfl (Nat.le_of_ble_eq_true rfl) dX2_linkCopy_9 ⟨Nat.zero_le _, Nat.zero_le _⟩ (fun H locs hP hS => ?_)
        refine lv_if_eq (pc := 12) (tgt := 27) hx hb dX2_linkCopy_12 (by decide) (fun hc => ?_) (fun hc => ?_)
        · have hf := br_y hc hf
          exact hJ27 w0 v2 hf H locs hP hD hS ls (lv_sub hl [0, 1, 2] rfl)
        · have hf := br_n hc hf
          refine lv_aload_n (pc := 15) hx hb dX2_linkCopy_15 rfl (lv_at hl 1 rfl) ?_
          refine lv_iload_n (pc := 16) hx hb dX2_linkCopy_16 rfl (lv_at hl 0 rfl) ?_
          refine lv_iload_n (pc := 17) hx hb dX2_linkCopy_17 rfl (lv_at hl 2 rfl) ?_
          obtain ⟨x2, hcx2, hf⟩ := bn_some hf
          refine g_callV (pc := 18) (ws' := [(hw0_0, .inr (2, [.ref hw0_1, .ref hw0_2, .ref hw0_3, .ref hw0_4, .ref hw0_5, .ref hw0_6, .int x2.2.2.2.2.2.2.1, .int x2.2.2.2.2.2.2.2.1, .int x2.2.2.2.2.2.2.2.2.1, .int x2.2.2.2.2.2.2.2.2.2.1, .int x2.2.2.2.2.2.2.2.2.2.2])), (hw0_1, .inl (G.2.1, 30, .inl x2.1)), (hw0_2, .inl (G.2.1, 30, .inl x2.2.1)), (hw0_3, .inl (G.2.1, 30, .inl x2.2.2.1)), (hw0_4, .inl (G.2.1, 30, .inl x2.2.2.2.1)), (hw0_5, .inl (G.2.1, 30, .inl x2.2.2.2.2.1)), (hw0_6, .inl (G.2.1, 64, .inl x2.2.2.2.2.2.1))]) (rest := []) hx hb hml hown hts hK (c_X2_linkPair l G hw0_0 hw0_1 hw0_2 hw0_3 hw0_4 hw0_5 hw0_6 w0 v2 p1 hcx2) wd_337 wd_5 wd_334 wd_336 ws_1 hd_X2_linkPair ⟨rfl, rfl, Nat.le_of_ble_eq_true rfl, Nat.le_of_ble_eq_true rfl⟩ hP hD hS hA [0, 1, 2, 3, 4, 5, 6] rfl rfl rfl rfl 2 0 rfl rfl rfl rfl hl.1 rfl (Nat.le_of_ble_eq_true rfl) dX2_linkCopy_18 ⟨Nat.zero_le _, Nat.zero_le _⟩ (fun H locs hP hD hS => ?_)
          refine lv_aload_n (pc := 21) hx hb dX2_linkCopy_21 rfl (lv_at hl 1 rfl) ?_
          refine lv_iload_n (pc := 22) hx hb dX2_linkCopy_22 rfl (lv_at hl 2 rfl) ?_
          refine lv_iload_n (pc := 23) hx hb dX2_linkCopy_23 rfl (lv_at hl 0 rfl) ?_
          obtain ⟨x3, hcx3, hf⟩ := bn_some hf
          refine g_callV (pc := 24) (ws' := [(hw0_0, .inr (2, [.ref hw0_1, .ref hw0_2, .ref hw0_3, .ref hw0_4, .ref hw0_5, .ref hw0_6, .int x3.2.2.2.2.2.2.1, .int x3.2.2.2.2.2.2.2.1, .int x3.2.2.2.2.2.2.2.2.1, .int x3.2.2.2.2.2.2.2.2.2.1, .int x3.2.2.2.2.2.2.2.2.2.2])), (hw0_1, .inl (G.2.1, 30, .inl x3.1)), (hw0_2, .inl (G.2.1, 30, .inl x3.2.1)), (hw0_3, .inl (G.2.1, 30, .inl x3.2.2.1)), (hw0_4, .inl (G.2.1, 30, .inl x3.2.2.2.1)), (hw0_5, .inl (G.2.1, 30, .inl x3.2.2.2.2.1)), (hw0_6, .inl (G.2.1, 64, .inl x3.2.2.2.2.2.1))]) (rest := []) hx hb hml hown hts hK (c_X2_linkPair l G hw0_0 hw0_1 hw0_2 hw0_3 hw0_4 hw0_5 hw0_6 x2 p1 v2 hcx3) wd_337 wd_5 wd_334 wd_336 ws_1 hd_X2_linkPair ⟨rfl, rfl, Nat.le_of_ble_eq_true rfl, Nat.le_of_ble_eq_true rfl⟩ hP hD hS hA [0, 1, 2, 3, 4, 5, 6] rfl rfl rfl rfl 2 0 rfl rfl rfl rfl hl.1 rfl (Nat.le_of_ble_eq_true rfl) dX2_linkCopy_24 ⟨Nat.zero_le _, Nat.zero_le _⟩ (fun H locs hP hD hS => ?_)
          exact hJ27 x3 v2 hf H locs hP hD hS ls (lv_sub hl [0, 1, 2] rfl)
  refine lv_iconst (pc := 0) (v := (0 : Int32)) hx hb dX2_linkCopy_0 (by decide) ?_
  refine lv_istore_n (pc := 1) (lv' := [(2, .int (0 : Int32)), (0, .ref hw0_0), (1, .int p1)]) hx hb dX2_linkCopy_1 rfl hl (by decide) rfl (fun ls hl => ?_)
  exact hL2 FUEL w0 (0 : Int32) hf H locs hP hD hS ls (lv_sub hl [0, 1, 2] rfl)
theorem hd_X2_push : yX2_push.cls ≠ "java/lang/invoke/MethodHandle" ∧ yX2_push.cls ≠ "java/lang/invoke/VarHandle" ∧ (parseMethodDescriptor yX2_push.desc).map (fun d => d.parameters.length) = some 4 := by decide +kernel
abbrev rm_X2_push : Room := { frames := 4, cells := 0, slots := 0, locals := 86 }
noncomputable def f_X2_push (w0 : TDelta) (p1 : Int32) (p2 : Int32) (p3 : Int32) (p4 : Int32) : Option TDelta :=
  br ((30 : Int32) ≤ w0.2.2.2.2.2.2.2.2.1) (some w0) (gd (vp_in w0.2.2.2.2.2.2.2.2.1 30) (gd (vp_in w0.2.2.2.2.2.2.2.2.1 30) (gd (vp_in w0.2.2.2.2.2.2.2.2.1 30) (gd (vp_in w0.2.2.2.2.2.2.2.2.1 30) (gd (vp_in w0.2.2.2.2.2.2.2.2.1 30) (br (p1 = (1 : Int32)) ((f_X2_linkCopy ((upd w0.1 w0.2.2.2.2.2.2.2.2.1.toNatClampNeg p1), (upd w0.2.1 w0.2.2.2.2.2.2.2.2.1.toNatClampNeg p2), (upd w0.2.2.1 w0.2.2.2.2.2.2.2.2.1.toNatClampNeg p3), (upd w0.2.2.2.1 w0.2.2.2.2.2.2.2.2.1.toNatClampNeg p4), (upd w0.2.2.2.2.1 w0.2.2.2.2.2.2.2.2.1.toNatClampNeg (0 : Int32)), w0.2.2.2.2.2.1, w0.2.2.2.2.2.2.1, w0.2.2.2.2.2.2.2.1, (w0.2.2.2.2.2.2.2.2.1 + (1 : Int32)), w0.2.2.2.2.2.2.2.2.2.1, w0.2.2.2.2.2.2.2.2.2.2) ((w0.2.2.2.2.2.2.2.2.1 + (1 : Int32)) - (1 : Int32))).bind (fun x1 => some x1)) (some ((upd w0.1 w0.2.2.2.2.2.2.2.2.1.toNatClampNeg p1), (upd w0.2.1 w0.2.2.2.2.2.2.2.2.1.toNatClampNeg p2), (upd w0.2.2.1 w0.2.2.2.2.2.2.2.2.1.toNatClampNeg p3), (upd w0.2.2.2.1 w0.2.2.2.2.2.2.2.2.1.toNatClampNeg p4), (upd w0.2.2.2.2.1 w0.2.2.2.2.2.2.2.2.1.toNatClampNeg (0 : Int32)), w0.2.2.2.2.2.1, w0.2.2.2.2.2.2.1, w0.2.2.2.2.2.2.2.1, (w0.2.2.2.2.2.2.2.2.1 + (1 : Int32)), w0.2.2.2.2.2.2.2.2.2.1, w0.2.2.2.2.2.2.2.2.2.2))))))))
set_option maxHeartbeats 4000000 in
set_option maxRecDepth 100000 in
theorem c_X2_push (l : Launch) (G : GT) (hw0_0 hw0_1 hw0_2 hw0_3 hw0_4 hw0_5 hw0_6 : Nat) (w0 : TDelta) (p1 : Int32) (p2 : Int32) (p3 : Int32) (p4 : Int32) {r : TDelta} (hf : f_X2_push w0 p1 p2 p3 p4 = some r) : Ct l yX2_push (Cond.code yX2_push cX2_push 5 none :: lw_g) rm_X2_push G [.ref hw0_0, .int p1, .int p2, .int p3, .int p4] [(hw0_0, .inr (2, [.ref hw0_1, .ref hw0_2, .ref hw0_3, .ref hw0_4, .ref hw0_5, .ref hw0_6, .int w0.2.2.2.2.2.2.1, .int w0.2.2.2.2.2.2.2.1, .int w0.2.2.2.2.2.2.2.2.1, .int w0.2.2.2.2.2.2.2.2.2.1, .int w0.2.2.2.2.2.2.2.2.2.2])), (hw0_1, .inl (G.2.1, 30, .inl w0.1)), (hw0_2, .inl (G.2.1, 30, .inl w0.2.1)), (hw0_3, .inl (G.2.1, 30, .inl w0.2.2.1)), (hw0_4, .inl (G.2.1, 30, .inl w0.2.2.2.1)), (hw0_5, .inl (G.2.1, 30, .inl w0.2.2.2.2.1)), (hw0_6, .inl (G.2.1, 64, .inl w0.2.2.2.2.2.1))] none [(hw0_0, .inr (2, [.ref hw0_1, .ref hw0_2, .ref hw0_3, .ref hw0_4, .ref hw0_5, .ref hw0_6, .int r.2.2.2.2.2.2.1, .int r.2.2.2.2.2.2.2.1, .int r.2.2.2.2.2.2.2.2.1, .int r.2.2.2.2.2.2.2.2.2.1, .int r.2.2.2.2.2.2.2.2.2.2])), (hw0_1, .inl (G.2.1, 30, .inl r.1)), (hw0_2, .inl (G.2.1, 30, .inl r.2.1)), (hw0_3, .inl (G.2.1, 30, .inl r.2.2.1)), (hw0_4, .inl (G.2.1, 30, .inl r.2.2.2.1)), (hw0_5, .inl (G.2.1, 30, .inl r.2.2.2.2.1)), (hw0_6, .inl (G.2.1, 64, .inl r.2.2.2.2.2.1))] := by
  refine Ct.ofW (cc := cX2_push) (maxL := 5) (ret := none) (own := RX2) (by decide) rfl rfl (Nat.le_of_ble_eq_true rfl) ?_
  intro p e s m args below meth c A hx hb hr hml hts hown hlocks hK hP hD hA hS ls hl
  have hl : lv_has ls 5 [(0, .ref hw0_0), (1, .int p1), (2, .int p2), (3, .int p3), (4, .int p4)] := hl
  generalize hQ : gMQ below G _ _ A args s = Q
  generalize hH : s.heap = H at hP ⊢
  have hS : va_S A s.heap H [] := by rw [← hH]; exact hS
  generalize ([] : List Loc) = locs at hS ⊢
  unfold f_X2_push at hf
  refine lv_aload_n (pc := 0) hx hb dX2_push_0 rfl (lv_at hl 0 rfl) ?_
  refine va_get (pc := 1) (D := G.1) (ci := 2) (v := .int w0.2.2.2.2.2.2.2.2.1) (C := RX2) (T := TX2) (N := 11) hx hb hts inX2 hown hK.1 hP 0 rfl rfl 8 (by decide) (hts _ wd_77) (fun _ h9 => h9) rfl dX2_push_1 ?_
  refine lv_bipush (pc := 4) (v := (30 : Int32)) hx hb dX2_push_4 (by decide) ?_
  refine lv_icmp_ge (pc := 6) (tgt := 85) hx hb dX2_push_6 (by decide) (fun hc => ?_) (fun hc => ?_)
  · have hf := br_y hc hf
    have hf := Option.some.inj hf; subst hf
    rw [← hQ]
    exact g_vret hx hb hr hlocks hP hS dX2_push_85
  · have hf := br_n hc hf
    refine lv_aload_n (pc := 9) hx hb dX2_push_9 rfl (lv_at hl 0 rfl) ?_
    refine va_get (pc := 10) (D := G.1) (ci := 2) (v := .ref hw0_1) (C := RX2) (T := TX2) (N := 11) hx hb hts inX2 hown hK.1 hP 0 rfl rfl 0 (by decide) (hts _ wd_63) (fun _ h9 => h9) rfl dX2_push_10 ?_
    refine lv_aload_n (pc := 13) hx hb dX2_push_13 rfl (lv_at hl 0 rfl) ?_
    refine va_get (pc := 14) (D := G.1) (ci := 2) (v := .int w0.2.2.2.2.2.2.2.2.1) (C := RX2) (T := TX2) (N := 11) hx hb hts inX2 hown hK.1 hP 0 rfl rfl 8 (by decide) (hts _ wd_77) (fun _ h9 => h9) rfl dX2_push_14 ?_
    refine lv_iload_n (pc := 17) hx hb dX2_push_17 rfl (lv_at hl 1 rfl) ?_
    obtain ⟨hg, hf⟩ := gd_some hf
    refine va_iast (pc := 18) hx hb hK.1 hP hD hS 1 0 rfl rfl hg dX2_push_18 (fun H locs hP hD hS => ?_)
    have hP : va_P G.1 vwCl [(hw0_0, .inr (2, [.ref hw0_1, .ref hw0_2, .ref hw0_3, .ref hw0_4, .ref hw0_5, .ref hw0_6, .int w0.2.2.2.2.2.2.1, .int w0.2.2.2.2.2.2.2.1, .int w0.2.2.2.2.2.2.2.2.1, .int w0.2.2.2.2.2.2.2.2.2.1, .int w0.2.2.2.2.2.2.2.2.2.2])), (hw0_1, .inl (G.2.1, 30, .inl (upd w0.1 w0.2.2.2.2.2.2.2.2.1.toNatClampNeg p1))), (hw0_2, .inl (G.2.1, 30, .inl w0.2.1)), (hw0_3, .inl (G.2.1, 30, .inl w0.2.2.1)), (hw0_4, .inl (G.2.1, 30, .inl w0.2.2.2.1)), (hw0_5, .inl (G.2.1, 30, .inl w0.2.2.2.2.1)), (hw0_6, .inl (G.2.1, 64, .inl w0.2.2.2.2.2.1))] H := hP
    have hD : va_D A [(hw0_0, .inr (2, [.ref hw0_1, .ref hw0_2, .ref hw0_3, .ref hw0_4, .ref hw0_5, .ref hw0_6, .int w0.2.2.2.2.2.2.1, .int w0.2.2.2.2.2.2.2.1, .int w0.2.2.2.2.2.2.2.2.1, .int w0.2.2.2.2.2.2.2.2.2.1, .int w0.2.2.2.2.2.2.2.2.2.2])), (hw0_1, .inl (G.2.1, 30, .inl (upd w0.1 w0.2.2.2.2.2.2.2.2.1.toNatClampNeg p1))), (hw0_2, .inl (G.2.1, 30, .inl w0.2.1)), (hw0_3, .inl (G.2.1, 30, .inl w0.2.2.1)), (hw0_4, .inl (G.2.1, 30, .inl w0.2.2.2.1)), (hw0_5, .inl (G.2.1, 30, .inl w0.2.2.2.2.1)), (hw0_6, .inl (G.2.1, 64, .inl w0.2.2.2.2.2.1))] := hD
    refine lv_aload_n (pc := 19) hx hb dX2_push_19 rfl (lv_at hl 0 rfl) ?_
    refine va_get (pc := 20) (D := G.1) (ci := 2) (v := .ref hw0_2) (C := RX2) (T := TX2) (N := 11) hx hb hts inX2 hown hK.1 hP 0 rfl rfl 1 (by decide) (hts _ wd_64) (fun _ h9 => h9) rfl dX2_push_20 ?_
    refine lv_aload_n (pc := 23) hx hb dX2_push_23 rfl (lv_at hl 0 rfl) ?_
    refine va_get (pc := 24) (D := G.1) (ci := 2) (v := .int w0.2.2.2.2.2.2.2.2.1) (C := RX2) (T := TX2) (N := 11) hx hb hts inX2 hown hK.1 hP 0 rfl rfl 8 (by decide) (hts _ wd_77) (fun _ h9 => h9) rfl dX2_push_24 ?_
    refine lv_iload_n (pc := 27) hx hb dX2_push_27 rfl (lv_at hl 2 rfl) ?_
    obtain ⟨hg, hf⟩ := gd_some hf
    refine va_iast (pc := 28) hx hb hK.1 hP hD hS 2 0 rfl rfl hg dX2_push_28 (fun H locs hP hD hS => ?_)
    have hP : va_P G.1 vwCl [(hw0_0, .inr (2, [.ref hw0_1, .ref hw0_2, .ref hw0_3, .ref hw0_4, .ref hw0_5, .ref hw0_6, .int w0.2.2.2.2.2.2.1, .int w0.2.2.2.2.2.2.2.1, .int w0.2.2.2.2.2.2.2.2.1, .int w0.2.2.2.2.2.2.2.2.2.1, .int w0.2.2.2.2.2.2.2.2.2.2])), (hw0_1, .inl (G.2.1, 30, .inl (upd w0.1 w0.2.2.2.2.2.2.2.2.1.toNatClampNeg p1))), (hw0_2, .inl (G.2.1, 30, .inl (upd w0.2.1 w0.2.2.2.2.2.2.2.2.1.toNatClampNeg p2))), (hw0_3, .inl (G.2.1, 30, .inl w0.2.2.1)), (hw0_4, .inl (G.2.1, 30, .inl w0.2.2.2.1)), (hw0_5, .inl (G.2.1, 30, .inl w0.2.2.2.2.1)), (hw0_6, .inl (G.2.1, 64, .inl w0.2.2.2.2.2.1))] H := hP
    have hD : va_D A [(hw0_0, .inr (2, [.ref hw0_1, .ref hw0_2, .ref hw0_3, .ref hw0_4, .ref hw0_5, .ref hw0_6, .int w0.2.2.2.2.2.2.1, .int w0.2.2.2.2.2.2.2.1, .int w0.2.2.2.2.2.2.2.2.1, .int w0.2.2.2.2.2.2.2.2.2.1, .int w0.2.2.2.2.2.2.2.2.2.2])), (hw0_1, .inl (G.2.1, 30, .inl (upd w0.1 w0.2.2.2.2.2.2.2.2.1.toNatClampNeg p1))), (hw0_2, .inl (G.2.1, 30, .inl (upd w0.2.1 w0.2.2.2.2.2.2.2.2.1.toNatClampNeg p2))), (hw0_3, .inl (G.2.1, 30, .inl w0.2.2.1)), (hw0_4, .inl (G.2.1, 30, .inl w0.2.2.2.1)), (hw0_5, .inl (G.2.1, 30, .inl w0.2.2.2.2.1)), (hw0_6, .inl (G.2.1, 64, .inl w0.2.2.2.2.2.1))] := hD
    refine lv_aload_n (pc := 29) hx hb dX2_push_29 rfl (lv_at hl 0 rfl) ?_
    refine va_get (pc := 30) (D := G.1) (ci := 2) (v := .ref hw0_3) (C := RX2) (T := TX2) (N := 11) hx hb hts inX2 hown hK.1 hP 0 rfl rfl 2 (by decide) (hts _ wd_65) (fun _ h9 => h9) rfl dX2_push_30 ?_
    refine lv_aload_n (pc := 33) hx hb dX2_push_33 rfl (lv_at hl 0 rfl) ?_
    refine va_get (pc := 34) (D := G.1) (ci := 2) (v := .int w0.2.2.2.2.2.2.2.2.1) (C := RX2) (T := TX2) (N := 11) hx hb hts inX2 hown hK.1 hP 0 rfl rfl 8 (by decide) (hts _ wd_77) (fun _ h9 => h9) rfl dX2_push_34 ?_
    refine lv_iload_n (pc := 37) hx hb dX2_push_37 rfl (lv_at hl 3 rfl) ?_
    obtain ⟨hg, hf⟩ := gd_some hf
    refine va_iast (pc := 38) hx hb hK.1 hP hD hS 3 0 rfl rfl hg dX2_push_38 (fun H locs hP hD hS => ?_)
    have hP : va_P G.1 vwCl [(hw0_0, .inr (2, [.ref hw0_1, .ref hw0_2, .ref hw0_3, .ref hw0_4, .ref hw0_5, .ref hw0_6, .int w0.2.2.2.2.2.2.1, .int w0.2.2.2.2.2.2.2.1, .int w0.2.2.2.2.2.2.2.2.1, .int w0.2.2.2.2.2.2.2.2.2.1, .int w0.2.2.2.2.2.2.2.2.2.2])), (hw0_1, .inl (G.2.1, 30, .inl (upd w0.1 w0.2.2.2.2.2.2.2.2.1.toNatClampNeg p1))), (hw0_2, .inl (G.2.1, 30, .inl (upd w0.2.1 w0.2.2.2.2.2.2.2.2.1.toNatClampNeg p2))), (hw0_3, .inl (G.2.1, 30, .inl (upd w0.2.2.1 w0.2.2.2.2.2.2.2.2.1.toNatClampNeg p3))), (hw0_4, .inl (G.2.1, 30, .inl w0.2.2.2.1)), (hw0_5, .inl (G.2.1, 30, .inl w0.2.2.2.2.1)), (hw0_6, .inl (G.2.1, 64, .inl w0.2.2.2.2.2.1))] H := hP
    have hD : va_D A [(hw0_0, .inr (2, [.ref hw0_1, .ref hw0_2, .ref hw0_3, .ref hw0_4, .ref hw0_5, .ref hw0_6, .int w0.2.2.2.2.2.2.1, .int w0.2.2.2.2.2.2.2.1, .int w0.2.2.2.2.2.2.2.2.1, .int w0.2.2.2.2.2.2.2.2.2.1, .int w0.2.2.2.2.2.2.2.2.2.2])), (hw0_1, .inl (G.2.1, 30, .inl (upd w0.1 w0.2.2.2.2.2.2.2.2.1.toNatClampNeg p1))), (hw0_2, .inl (G.2.1, 30, .inl (upd w0.2.1 w0.2.2.2.2.2.2.2.2.1.toNatClampNeg p2))), (hw0_3, .inl (G.2.1, 30, .inl (upd w0.2.2.1 w0.2.2.2.2.2.2.2.2.1.toNatClampNeg p3))), (hw0_4, .inl (G.2.1, 30, .inl w0.2.2.2.1)), (hw0_5, .inl (G.2.1, 30, .inl w0.2.2.2.2.1)), (hw0_6, .inl (G.2.1, 64, .inl w0.2.2.2.2.2.1))] := hD
    refine lv_aload_n (pc := 39) hx hb dX2_push_39 rfl (lv_at hl 0 rfl) ?_
    refine va_get (pc := 40) (D := G.1) (ci := 2) (v := .ref hw0_4) (C := RX2) (T := TX2) (N := 11) hx hb hts inX2 hown hK.1 hP 0 rfl rfl 3 (by decide) (hts _ wd_66) (fun _ h9 => h9) rfl dX2_push_40 ?_
    refine lv_aload_n (pc := 43) hx hb dX2_push_43 rfl (lv_at hl 0 rfl) ?_
    refine va_get (pc := 44) (D := G.1) (ci := 2) (v := .int w0.2.2.2.2.2.2.2.2.1) (C := RX2) (T := TX2) (N := 11) hx hb hts inX2 hown hK.1 hP 0 rfl rfl 8 (by decide) (hts _ wd_77) (fun _ h9 => h9) rfl dX2_push_44 ?_
    refine lv_iload (pc := 47) hx hb dX2_push_47 (lv_at hl 4 rfl) ?_
    obtain ⟨hg, hf⟩ := gd_some hf
    refine va_iast (pc := 49) hx hb hK.1 hP hD hS 4 0 rfl rfl hg dX2_push_49 (fun H locs hP hD hS => ?_)
    have hP : va_P G.1 vwCl [(hw0_0, .inr (2, [.ref hw0_1, .ref hw0_2, .ref hw0_3, .ref hw0_4, .ref hw0_5, .ref hw0_6, .int w0.2.2.2.2.2.2.1, .int w0.2.2.2.2.2.2.2.1, .int w0.2.2.2.2.2.2.2.2.1, .int w0.2.2.2.2.2.2.2.2.2.1, .int w0.2.2.2.2.2.2.2.2.2.2])), (hw0_1, .inl (G.2.1, 30, .inl (upd w0.1 w0.2.2.2.2.2.2.2.2.1.toNatClampNeg p1))), (hw0_2, .inl (G.2.1, 30, .inl (upd w0.2.1 w0.2.2.2.2.2.2.2.2.1.toNatClampNeg p2))), (hw0_3, .inl (G.2.1, 30, .inl (upd w0.2.2.1 w0.2.2.2.2.2.2.2.2.1.toNatClampNeg p3))), (hw0_4, .inl (G.2.1, 30, .inl (upd w0.2.2.2.1 w0.2.2.2.2.2.2.2.2.1.toNatClampNeg p4))), (hw0_5, .inl (G.2.1, 30, .inl w0.2.2.2.2.1)), (hw0_6, .inl (G.2.1, 64, .inl w0.2.2.2.2.2.1))] H := hP
    have hD : va_D A [(hw0_0, .inr (2, [.ref hw0_1, .ref hw0_2, .ref hw0_3, .ref hw0_4, .ref hw0_5, .ref hw0_6, .int w0.2.2.2.2.2.2.1, .int w0.2.2.2.2.2.2.2.1, .int w0.2.2.2.2.2.2.2.2.1, .int w0.2.2.2.2.2.2.2.2.2.1, .int w0.2.2.2.2.2.2.2.2.2.2])), (hw0_1, .inl (G.2.1, 30, .inl (upd w0.1 w0.2.2.2.2.2.2.2.2.1.toNatClampNeg p1))), (hw0_2, .inl (G.2.1, 30, .inl (upd w0.2.1 w0.2.2.2.2.2.2.2.2.1.toNatClampNeg p2))), (hw0_3, .inl (G.2.1, 30, .inl (upd w0.2.2.1 w0.2.2.2.2.2.2.2.2.1.toNatClampNeg p3))), (hw0_4, .inl (G.2.1, 30, .inl (upd w0.2.2.2.1 w0.2.2.2.2.2.2.2.2.1.toNatClampNeg p4))), (hw0_5, .inl (G.2.1, 30, .inl w0.2.2.2.2.1)), (hw0_6, .inl (G.2.1, 64, .inl w0.2.2.2.2.2.1))] := hD
    refine lv_aload_n (pc := 50) hx hb dX2_push_50 rfl (lv_at hl 0 rfl) ?_
    refine va_get (pc := 51) (D := G.1) (ci := 2) (v := .ref hw0_5) (C := RX2) (T := TX2) (N := 11) hx hb hts inX2 hown hK.1 hP 0 rfl rfl 4 (by decide) (hts _ wd_67) (fun _ h9 => h9) rfl dX2_push_51 ?_
    refine lv_aload_n (pc := 54) hx hb dX2_push_54 rfl (lv_at hl 0 rfl) ?_
    refine va_get (pc := 55) (D := G.1) (ci := 2) (v := .int w0.2.2.2.2.2.2.2.2.1) (C := RX2) (T := TX2) (N := 11) hx hb hts inX2 hown hK.1 hP 0 rfl rfl 8 (by decide) (hts _ wd_77) (fun _ h9 => h9) rfl dX2_push_55 ?_
    refine lv_iconst (pc := 58) (v := (0 : Int32)) hx hb dX2_push_58 (by decide) ?_
    obtain ⟨hg, hf⟩ := gd_some hf
    refine va_iast (pc := 59) hx hb hK.1 hP hD hS 5 0 rfl rfl hg dX2_push_59 (fun H locs hP hD hS => ?_)
    have hP : va_P G.1 vwCl [(hw0_0, .inr (2, [.ref hw0_1, .ref hw0_2, .ref hw0_3, .ref hw0_4, .ref hw0_5, .ref hw0_6, .int w0.2.2.2.2.2.2.1, .int w0.2.2.2.2.2.2.2.1, .int w0.2.2.2.2.2.2.2.2.1, .int w0.2.2.2.2.2.2.2.2.2.1, .int w0.2.2.2.2.2.2.2.2.2.2])), (hw0_1, .inl (G.2.1, 30, .inl (upd w0.1 w0.2.2.2.2.2.2.2.2.1.toNatClampNeg p1))), (hw0_2, .inl (G.2.1, 30, .inl (upd w0.2.1 w0.2.2.2.2.2.2.2.2.1.toNatClampNeg p2))), (hw0_3, .inl (G.2.1, 30, .inl (upd w0.2.2.1 w0.2.2.2.2.2.2.2.2.1.toNatClampNeg p3))), (hw0_4, .inl (G.2.1, 30, .inl (upd w0.2.2.2.1 w0.2.2.2.2.2.2.2.2.1.toNatClampNeg p4))), (hw0_5, .inl (G.2.1, 30, .inl (upd w0.2.2.2.2.1 w0.2.2.2.2.2.2.2.2.1.toNatClampNeg (0 : Int32)))), (hw0_6, .inl (G.2.1, 64, .inl w0.2.2.2.2.2.1))] H := hP
    have hD : va_D A [(hw0_0, .inr (2, [.ref hw0_1, .ref hw0_2, .ref hw0_3, .ref hw0_4, .ref hw0_5, .ref hw0_6, .int w0.2.2.2.2.2.2.1, .int w0.2.2.2.2.2.2.2.1, .int w0.2.2.2.2.2.2.2.2.1, .int w0.2.2.2.2.2.2.2.2.2.1, .int w0.2.2.2.2.2.2.2.2.2.2])), (hw0_1, .inl (G.2.1, 30, .inl (upd w0.1 w0.2.2.2.2.2.2.2.2.1.toNatClampNeg p1))), (hw0_2, .inl (G.2.1, 30, .inl (upd w0.2.1 w0.2.2.2.2.2.2.2.2.1.toNatClampNeg p2))), (hw0_3, .inl (G.2.1, 30, .inl (upd w0.2.2.1 w0.2.2.2.2.2.2.2.2.1.toNatClampNeg p3))), (hw0_4, .inl (G.2.1, 30, .inl (upd w0.2.2.2.1 w0.2.2.2.2.2.2.2.2.1.toNatClampNeg p4))), (hw0_5, .inl (G.2.1, 30, .inl (upd w0.2.2.2.2.1 w0.2.2.2.2.2.2.2.2.1.toNatClampNeg (0 : Int32)))), (hw0_6, .inl (G.2.1, 64, .inl w0.2.2.2.2.2.1))] := hD
    refine lv_aload_n (pc := 60) hx hb dX2_push_60 rfl (lv_at hl 0 rfl) ?_
    refine lv_dup (pc := 61) hx hb dX2_push_61 rfl ?_
    refine va_get (pc := 62) (D := G.1) (ci := 2) (v := .int w0.2.2.2.2.2.2.2.2.1) (C := RX2) (T := TX2) (N := 11) hx hb hts inX2 hown hK.1 hP 0 rfl rfl 8 (by decide) (hts _ wd_77) (fun _ h9 => h9) rfl dX2_push_62 ?_
    refine lv_iconst (pc := 65) (v := (1 : Int32)) hx hb dX2_push_65 (by decide) ?_
    refine lv_iadd (pc := 66) hx hb dX2_push_66 ?_
    refine va_put (pc := 67) (D := G.1) (ci := 2) (v := .int (w0.2.2.2.2.2.2.2.2.1 + (1 : Int32))) (ty := .int) (C := RX2) (T := TX2) (N := 11) hx hb hts inX2 tyX2 tyX2_ok nmX2 hown hK.1 hP hD hS 0 rfl rfl 8 (by decide) (hts _ wd_77) (fun _ h9 => h9) rfl (by decide +kernel) rfl rfl (Nat.le_of_ble_eq_true rfl) dX2_push_67 (fun H locs hP hD hS => ?_)
    have hP : va_P G.1 vwCl [(hw0_0, .inr (2, [.ref hw0_1, .ref hw0_2, .ref hw0_3, .ref hw0_4, .ref hw0_5, .ref hw0_6, .int w0.2.2.2.2.2.2.1, .int w0.2.2.2.2.2.2.2.1, .int (w0.2.2.2.2.2.2.2.2.1 + (1 : Int32)), .int w0.2.2.2.2.2.2.2.2.2.1, .int w0.2.2.2.2.2.2.2.2.2.2])), (hw0_1, .inl (G.2.1, 30, .inl (upd w0.1 w0.2.2.2.2.2.2.2.2.1.toNatClampNeg p1))), (hw0_2, .inl (G.2.1, 30, .inl (upd w0.2.1 w0.2.2.2.2.2.2.2.2.1.toNatClampNeg p2))), (hw0_3, .inl (G.2.1, 30, .inl (upd w0.2.2.1 w0.2.2.2.2.2.2.2.2.1.toNatClampNeg p3))), (hw0_4, .inl (G.2.1, 30, .inl (upd w0.2.2.2.1 w0.2.2.2.2.2.2.2.2.1.toNatClampNeg p4))), (hw0_5, .inl (G.2.1, 30, .inl (upd w0.2.2.2.2.1 w0.2.2.2.2.2.2.2.2.1.toNatClampNeg (0 : Int32)))), (hw0_6, .inl (G.2.1, 64, .inl w0.2.2.2.2.2.1))] H := hP
    have hD : va_D A [(hw0_0, .inr (2, [.ref hw0_1, .ref hw0_2, .ref hw0_3, .ref hw0_4, .ref hw0_5, .ref hw0_6, .int w0.2.2.2.2.2.2.1, .int w0.2.2.2.2.2.2.2.1, .int (w0.2.2.2.2.2.2.2.2.1 + (1 : Int32)), .int w0.2.2.2.2.2.2.2.2.2.1, .int w0.2.2.2.2.2.2.2.2.2.2])), (hw0_1, .inl (G.2.1, 30, .inl (upd w0.1 w0.2.2.2.2.2.2.2.2.1.toNatClampNeg p1))), (hw0_2, .inl (G.2.1, 30, .inl (upd w0.2.1 w0.2.2.2.2.2.2.2.2.1.toNatClampNeg p2))), (hw0_3, .inl (G.2.1, 30, .inl (upd w0.2.2.1 w0.2.2.2.2.2.2.2.2.1.toNatClampNeg p3))), (hw0_4, .inl (G.2.1, 30, .inl (upd w0.2.2.2.1 w0.2.2.2.2.2.2.2.2.1.toNatClampNeg p4))), (hw0_5, .inl (G.2.1, 30, .inl (upd w0.2.2.2.2.1 w0.2.2.2.2.2.2.2.2.1.toNatClampNeg (0 : Int32)))), (hw0_6, .inl (G.2.1, 64, .inl w0.2.2.2.2.2.1))] := hD
    refine lv_iload_n (pc := 70) hx hb dX2_push_70 rfl (lv_at hl 1 rfl) ?_
    refine lv_iconst (pc := 71) (v := (1 : Int32)) hx hb dX2_push_71 (by decide) ?_
    refine lv_icmp_ne (pc := 72) (tgt := 85) hx hb dX2_push_72 (by decide) (fun hc => ?_) (fun hc => ?_)
    · have hf := br_n hc hf
      have hf := Option.some.inj hf; subst hf
      rw [← hQ]
      exact g_vret hx hb hr hlocks hP hS dX2_push_85
    · have hf := br_y hc hf
      refine lv_aload_n (pc := 75) hx hb dX2_push_75 rfl (lv_at hl 0 rfl) ?_
      refine lv_aload_n (pc := 76) hx hb dX2_push_76 rfl (lv_at hl 0 rfl) ?_
      refine va_get (pc := 77) (D := G.1) (ci := 2) (v := .int (w0.2.2.2.2.2.2.2.2.1 + (1 : Int32))) (C := RX2) (T := TX2) (N := 11) hx hb hts inX2 hown hK.1 hP 0 rfl rfl 8 (by decide) (hts _ wd_77) (fun _ h9 => h9) rfl dX2_push_77 ?_
      refine lv_iconst (pc := 80) (v := (1 : Int32)) hx hb dX2_push_80 (by decide) ?_
      refine lv_isub (pc := 81) hx hb dX2_push_81 ?_
      obtain ⟨x1, hcx1, hf⟩ := bn_some hf
      refine g_callV (pc := 82) (ws' := [(hw0_0, .inr (2, [.ref hw0_1, .ref hw0_2, .ref hw0_3, .ref hw0_4, .ref hw0_5, .ref hw0_6, .int x1.2.2.2.2.2.2.1, .int x1.2.2.2.2.2.2.2.1, .int x1.2.2.2.2.2.2.2.2.1, .int x1.2.2.2.2.2.2.2.2.2.1, .int x1.2.2.2.2.2.2.2.2.2.2])), (hw0_1, .inl (G.2.1, 30, .inl x1.1)), (hw0_2, .inl (G.2.1, 30, .inl x1.2.1)), (hw0_3, .inl (G.2.1, 30, .inl x1.2.2.1)), (hw0_4, .inl (G.2.1, 30, .inl x1.2.2.2.1)), (hw0_5, .inl (G.2.1, 30, .inl x1.2.2.2.2.1)), (hw0_6, .inl (G.2.1, 64, .inl x1.2.2.2.2.2.1))]) (rest := []) hx hb hml hown hts hK (c_X2_linkCopy l G hw0_0 hw0_1 hw0_2 hw0_3 hw0_4 hw0_5 hw0_6 ((upd w0.1 w0.2.2.2.2.2.2.2.2.1.toNatClampNeg p1), (upd w0.2.1 w0.2.2.2.2.2.2.2.2.1.toNatClampNeg p2), (upd w0.2.2.1 w0.2.2.2.2.2.2.2.2.1.toNatClampNeg p3), (upd w0.2.2.2.1 w0.2.2.2.2.2.2.2.2.1.toNatClampNeg p4), (upd w0.2.2.2.2.1 w0.2.2.2.2.2.2.2.2.1.toNatClampNeg (0 : Int32)), w0.2.2.2.2.2.1, w0.2.2.2.2.2.2.1, w0.2.2.2.2.2.2.2.1, (w0.2.2.2.2.2.2.2.2.1 + (1 : Int32)), w0.2.2.2.2.2.2.2.2.2.1, w0.2.2.2.2.2.2.2.2.2.2) ((w0.2.2.2.2.2.2.2.2.1 + (1 : Int32)) - (1 : Int32)) hcx1) wd_326 wd_5 wd_323 wd_325 ws_0 hd_X2_linkCopy ⟨rfl, rfl, Nat.le_of_ble_eq_true rfl, Nat.le_of_ble_eq_true rfl⟩ hP hD hS hA [0, 1, 2, 3, 4, 5, 6] rfl rfl rfl rfl 2 0 rfl rfl rfl rfl hl.1 rfl (Nat.le_of_ble_eq_true rfl) dX2_push_82 ⟨Nat.zero_le _, Nat.zero_le _⟩ (fun H locs hP hD hS => ?_)
      have hf := Option.some.inj hf; subst hf
      rw [← hQ]
      exact g_vret hx hb hr hlocks hP hS dX2_push_85
theorem hd_X2_putAdded : yX2_putAdded.cls ≠ "java/lang/invoke/MethodHandle" ∧ yX2_putAdded.cls ≠ "java/lang/invoke/VarHandle" ∧ (parseMethodDescriptor yX2_putAdded.desc).map (fun d => d.parameters.length) = some 2 := by decide +kernel
abbrev rm_X2_putAdded : Room := { frames := 0, cells := 0, slots := 0, locals := 0 }
noncomputable def f_X2_putAdded (w0 : TDelta) (p1 : Int32) (p2 : Int32) : Option TDelta :=
  br (p1 < 0) (some w0) (br ((64 : Int32) ≤ p1) (some w0) (gd (vp_in p1 64) (some (w0.1, w0.2.1, w0.2.2.1, w0.2.2.2.1, w0.2.2.2.2.1, (upd w0.2.2.2.2.2.1 p1.toNatClampNeg p2), w0.2.2.2.2.2.2.1, w0.2.2.2.2.2.2.2.1, w0.2.2.2.2.2.2.2.2.1, w0.2.2.2.2.2.2.2.2.2.1, w0.2.2.2.2.2.2.2.2.2.2))))
set_option maxHeartbeats 4000000 in
set_option maxRecDepth 100000 in
theorem c_X2_putAdded (l : Launch) (G : GT) (hw0_0 hw0_1 hw0_2 hw0_3 hw0_4 hw0_5 hw0_6 : Nat) (w0 : TDelta) (p1 : Int32) (p2 : Int32) {r : TDelta} (hf : f_X2_putAdded w0 p1 p2 = some r) : Ct l yX2_putAdded (Cond.code yX2_putAdded cX2_putAdded 3 none :: lw_g) rm_X2_putAdded G [.ref hw0_0, .int p1, .int p2] [(hw0_0, .inr (2, [.ref hw0_1, .ref hw0_2, .ref hw0_3, .ref hw0_4, .ref hw0_5, .ref hw0_6, .int w0.2.2.2.2.2.2.1, .int w0.2.2.2.2.2.2.2.1, .int w0.2.2.2.2.2.2.2.2.1, .int w0.2.2.2.2.2.2.2.2.2.1, .int w0.2.2.2.2.2.2.2.2.2.2])), (hw0_1, .inl (G.2.1, 30, .inl w0.1)), (hw0_2, .inl (G.2.1, 30, .inl w0.2.1)), (hw0_3, .inl (G.2.1, 30, .inl w0.2.2.1)), (hw0_4, .inl (G.2.1, 30, .inl w0.2.2.2.1)), (hw0_5, .inl (G.2.1, 30, .inl w0.2.2.2.2.1)), (hw0_6, .inl (G.2.1, 64, .inl w0.2.2.2.2.2.1))] none [(hw0_0, .inr (2, [.ref hw0_1, .ref hw0_2, .ref hw0_3, .ref hw0_4, .ref hw0_5, .ref hw0_6, .int r.2.2.2.2.2.2.1, .int r.2.2.2.2.2.2.2.1, .int r.2.2.2.2.2.2.2.2.1, .int r.2.2.2.2.2.2.2.2.2.1, .int r.2.2.2.2.2.2.2.2.2.2])), (hw0_1, .inl (G.2.1, 30, .inl r.1)), (hw0_2, .inl (G.2.1, 30, .inl r.2.1)), (hw0_3, .inl (G.2.1, 30, .inl r.2.2.1)), (hw0_4, .inl (G.2.1, 30, .inl r.2.2.2.1)), (hw0_5, .inl (G.2.1, 30, .inl r.2.2.2.2.1)), (hw0_6, .inl (G.2.1, 64, .inl r.2.2.2.2.2.1))] := by
  refine Ct.ofW (cc := cX2_putAdded) (maxL := 3) (ret := none) (own := RX2) (by decide) rfl rfl (Nat.le_of_ble_eq_true rfl) ?_
  intro p e s m args below meth c A hx hb hr hml hts hown hlocks hK hP hD hA hS ls hl
  have hl : lv_has ls 3 [(0, .ref hw0_0), (1, .int p1), (2, .int p2)] := hl
  generalize hQ : gMQ below G _ _ A args s = Q
  generalize hH : s.heap = H at hP ⊢
  have hS : va_S A s.heap H [] := by rw [← hH]; exact hS
  generalize ([] : List Loc) = locs at hS ⊢
  unfold f_X2_putAdded at hf
  refine lv_iload_n (pc := 0) hx hb dX2_putAdded_0 rfl (lv_at hl 1 rfl) ?_
  refine lv_if_lt (pc := 1) (tgt := 17) hx hb dX2_putAdded_1 (by decide) (fun hc => ?_) (fun hc => ?_)
  · have hf := br_y hc hf
    have hf := Option.some.inj hf; subst hf
    rw [← hQ]
    exact g_vret hx hb hr hlocks hP hS dX2_putAdded_17
  · have hf := br_n hc hf
    refine lv_iload_n (pc := 4) hx hb dX2_putAdded_4 rfl (lv_at hl 1 rfl) ?_
    refine lv_bipush (pc := 5) (v := (64 : Int32)) hx hb dX2_putAdded_5 (by decide) ?_
    refine lv_icmp_ge (pc := 7) (tgt := 17) hx hb dX2_putAdded_7 (by decide) (fun hc => ?_) (fun hc => ?_)
    · have hf := br_y hc hf
      have hf := Option.some.inj hf; subst hf
      rw [← hQ]
      exact g_vret hx hb hr hlocks hP hS dX2_putAdded_17
    · have hf := br_n hc hf
      refine lv_aload_n (pc := 10) hx hb dX2_putAdded_10 rfl (lv_at hl 0 rfl) ?_
      refine va_get (pc := 11) (D := G.1) (ci := 2) (v := .ref hw0_6) (C := RX2) (T := TX2) (N := 11) hx hb hts inX2 hown hK.1 hP 0 rfl rfl 5 (by decide) (hts _ wd_68) (fun _ h9 => h9) rfl dX2_putAdded_11 ?_
      refine lv_iload_n (pc := 14) hx hb dX2_putAdded_14 rfl (lv_at hl 1 rfl) ?_
      refine lv_iload_n (pc := 15) hx hb dX2_putAdded_15 rfl (lv_at hl 2 rfl) ?_
      obtain ⟨hg, hf⟩ := gd_some hf
      refine va_iast (pc := 16) hx hb hK.1 hP hD hS 6 0 rfl rfl hg dX2_putAdded_16 (fun H locs hP hD hS => ?_)
      have hP : va_P G.1 vwCl [(hw0_0, .inr (2, [.ref hw0_1, .ref hw0_2, .ref hw0_3, .ref hw0_4, .ref hw0_5, .ref hw0_6, .int w0.2.2.2.2.2.2.1, .int w0.2.2.2.2.2.2.2.1, .int w0.2.2.2.2.2.2.2.2.1, .int w0.2.2.2.2.2.2.2.2.2.1, .int w0.2.2.2.2.2.2.2.2.2.2])), (hw0_1, .inl (G.2.1, 30, .inl w0.1)), (hw0_2, .inl (G.2.1, 30, .inl w0.2.1)), (hw0_3, .inl (G.2.1, 30, .inl w0.2.2.1)), (hw0_4, .inl (G.2.1, 30, .inl w0.2.2.2.1)), (hw0_5, .inl (G.2.1, 30, .inl w0.2.2.2.2.1)), (hw0_6, .inl (G.2.1, 64, .inl (upd w0.2.2.2.2.2.1 p1.toNatClampNeg p2)))] H := hP
      have hD : va_D A [(hw0_0, .inr (2, [.ref hw0_1, .ref hw0_2, .ref hw0_3, .ref hw0_4, .ref hw0_5, .ref hw0_6, .int w0.2.2.2.2.2.2.1, .int w0.2.2.2.2.2.2.2.1, .int w0.2.2.2.2.2.2.2.2.1, .int w0.2.2.2.2.2.2.2.2.2.1, .int w0.2.2.2.2.2.2.2.2.2.2])), (hw0_1, .inl (G.2.1, 30, .inl w0.1)), (hw0_2, .inl (G.2.1, 30, .inl w0.2.1)), (hw0_3, .inl (G.2.1, 30, .inl w0.2.2.1)), (hw0_4, .inl (G.2.1, 30, .inl w0.2.2.2.1)), (hw0_5, .inl (G.2.1, 30, .inl w0.2.2.2.2.1)), (hw0_6, .inl (G.2.1, 64, .inl (upd w0.2.2.2.2.2.1 p1.toNatClampNeg p2)))] := hD
      have hf := Option.some.inj hf; subst hf
      rw [← hQ]
      exact g_vret hx hb hr hlocks hP hS dX2_putAdded_17
theorem hd_X2_writesAnyOf : yX2_writesAnyOf.cls ≠ "java/lang/invoke/MethodHandle" ∧ yX2_writesAnyOf.cls ≠ "java/lang/invoke/VarHandle" ∧ (parseMethodDescriptor yX2_writesAnyOf.desc).map (fun d => d.parameters.length) = some 2 := by decide +kernel
abbrev rm_X2_writesAnyOf : Room := { frames := 2, cells := 0, slots := 0, locals := 42 }
noncomputable def f_X2_writesAnyOf_L2 (w0 : TDelta) (p1 : Int32) (p2 : Int32)  : Nat → Int32 → Option Int32
  | 0, _ => none
  | k2 + 1, v3 =>
    br (w0.2.2.2.2.2.2.2.2.1 ≤ v3) (some (0 : Int32)) ((f_X2_targetOf w0 v3).bind (fun x1 => (f_X2_lengthOf w0 v3).bind (fun x2 => (f_X10_overlap x1 x2 p1 p2).bind (fun x3 => br (x3 = 0) (f_X2_writesAnyOf_L2 w0 p1 p2  k2 (v3 + (1 : Int32))) (some (1 : Int32))))))
noncomputable def f_X2_writesAnyOf (w0 : TDelta) (p1 : Int32) (p2 : Int32) : Option Int32 :=
  f_X2_writesAnyOf_L2 w0 p1 p2 FUEL (0 : Int32)
set_option maxHeartbeats 4000000 in
set_option maxRecDepth 100000 in
theorem c_X2_writesAnyOf (l : Launch) (G : GT) (hw0_0 hw0_1 hw0_2 hw0_3 hw0_4 hw0_5 hw0_6 : Nat) (w0 : TDelta) (p1 : Int32) (p2 : Int32) {r : Int32} (hf : f_X2_writesAnyOf w0 p1 p2 = some r) : Ct l yX2_writesAnyOf (Cond.code yX2_writesAnyOf cX2_writesAnyOf 4 (some .boolean) :: lw_g) rm_X2_writesAnyOf G [.ref hw0_0, .int p1, .int p2] [(hw0_0, .inr (2, [.ref hw0_1, .ref hw0_2, .ref hw0_3, .ref hw0_4, .ref hw0_5, .ref hw0_6, .int w0.2.2.2.2.2.2.1, .int w0.2.2.2.2.2.2.2.1, .int w0.2.2.2.2.2.2.2.2.1, .int w0.2.2.2.2.2.2.2.2.2.1, .int w0.2.2.2.2.2.2.2.2.2.2])), (hw0_1, .inl (G.2.1, 30, .inl w0.1)), (hw0_2, .inl (G.2.1, 30, .inl w0.2.1)), (hw0_3, .inl (G.2.1, 30, .inl w0.2.2.1)), (hw0_4, .inl (G.2.1, 30, .inl w0.2.2.2.1)), (hw0_5, .inl (G.2.1, 30, .inl w0.2.2.2.2.1)), (hw0_6, .inl (G.2.1, 64, .inl w0.2.2.2.2.2.1))] (some (.int r)) [(hw0_0, .inr (2, [.ref hw0_1, .ref hw0_2, .ref hw0_3, .ref hw0_4, .ref hw0_5, .ref hw0_6, .int w0.2.2.2.2.2.2.1, .int w0.2.2.2.2.2.2.2.1, .int w0.2.2.2.2.2.2.2.2.1, .int w0.2.2.2.2.2.2.2.2.2.1, .int w0.2.2.2.2.2.2.2.2.2.2])), (hw0_1, .inl (G.2.1, 30, .inl w0.1)), (hw0_2, .inl (G.2.1, 30, .inl w0.2.1)), (hw0_3, .inl (G.2.1, 30, .inl w0.2.2.1)), (hw0_4, .inl (G.2.1, 30, .inl w0.2.2.2.1)), (hw0_5, .inl (G.2.1, 30, .inl w0.2.2.2.2.1)), (hw0_6, .inl (G.2.1, 64, .inl w0.2.2.2.2.2.1))] := by
  refine Ct.ofW (cc := cX2_writesAnyOf) (maxL := 4) (ret := (some .boolean)) (own := RX2) (by decide) rfl rfl (Nat.le_of_ble_eq_true rfl) ?_
  intro p e s m args below meth c A hx hb hr hml hts hown hlocks hK hP hD hA hS ls hl
  have hl : lv_has ls 4 [(0, .ref hw0_0), (1, .int p1), (2, .int p2)] := hl
  generalize hQ : gMQ below G _ _ A args s = Q
  generalize hH : s.heap = H at hP ⊢
  have hS : va_S A s.heap H [] := by rw [← hH]; exact hS
  generalize ([] : List Loc) = locs at hS ⊢
  unfold f_X2_writesAnyOf at hf
  have hL2 : ∀ (k2 : Nat) (v3 : Int32), f_X2_writesAnyOf_L2 w0 p1 p2  k2 v3 = some r → ∀ (H : Heap) (locs : List Loc), va_P G.1 vwCl [(hw0_0, .inr (2, [.ref hw0_1, .ref hw0_2, .ref hw0_3, .ref hw0_4, .ref hw0_5, .ref hw0_6, .int w0.2.2.2.2.2.2.1, .int w0.2.2.2.2.2.2.2.1, .int w0.2.2.2.2.2.2.2.2.1, .int w0.2.2.2.2.2.2.2.2.2.1, .int w0.2.2.2.2.2.2.2.2.2.2])), (hw0_1, .inl (G.2.1, 30, .inl w0.1)), (hw0_2, .inl (G.2.1, 30, .inl w0.2.1)), (hw0_3, .inl (G.2.1, 30, .inl w0.2.2.1)), (hw0_4, .inl (G.2.1, 30, .inl w0.2.2.2.1)), (hw0_5, .inl (G.2.1, 30, .inl w0.2.2.2.2.1)), (hw0_6, .inl (G.2.1, 64, .inl w0.2.2.2.2.2.1))] H → va_D A [(hw0_0, .inr (2, [.ref hw0_1, .ref hw0_2, .ref hw0_3, .ref hw0_4, .ref hw0_5, .ref hw0_6, .int w0.2.2.2.2.2.2.1, .int w0.2.2.2.2.2.2.2.1, .int w0.2.2.2.2.2.2.2.2.1, .int w0.2.2.2.2.2.2.2.2.2.1, .int w0.2.2.2.2.2.2.2.2.2.2])), (hw0_1, .inl (G.2.1, 30, .inl w0.1)), (hw0_2, .inl (G.2.1, 30, .inl w0.2.1)), (hw0_3, .inl (G.2.1, 30, .inl w0.2.2.1)), (hw0_4, .inl (G.2.1, 30, .inl w0.2.2.2.1)), (hw0_5, .inl (G.2.1, 30, .inl w0.2.2.2.2.1)), (hw0_6, .inl (G.2.1, 64, .inl w0.2.2.2.2.2.1))] → va_S A s.heap H locs → ∀ (ls : Array Slot), lv_has ls 4 [(3, .int v3), (0, .ref hw0_0), (1, .int p1), (2, .int p2)] → W p l e (rm_X2_writesAnyOf) s m args below meth c H locs 0 0 Q (F0 m 2 ls []) := by
    intro k2
    induction k2 with
    | zero =>
      intro v3 hf
      rw [f_X2_writesAnyOf_L2.eq_1] at hf; cases hf
    | succ k2 ih2 =>
      intro v3 hf H locs hP hD hS ls hl
      rw [f_X2_writesAnyOf_L2.eq_2] at hf
      refine lv_iload_n (pc := 2) hx hb dX2_writesAnyOf_2 rfl (lv_at hl 0 rfl) ?_
      refine lv_aload_n (pc := 3) hx hb dX2_writesAnyOf_3 rfl (lv_at hl 1 rfl) ?_
      refine va_get (pc := 4) (D := G.1) (ci := 2) (v := .int w0.2.2.2.2.2.2.2.2.1) (C := RX2) (T := TX2) (N := 11) hx hb hts inX2 hown hK.1 hP 0 rfl rfl 8 (by decide) (hts _ wd_77) (fun _ h9 => h9) rfl dX2_writesAnyOf_4 ?_
      refine lv_icmp_ge (pc := 7) (tgt := 36) hx hb dX2_writesAnyOf_7 (by decide) (fun hc => ?_) (fun hc => ?_)
      · have hf := br_y hc hf
        refine lv_iconst (pc := 36) (v := (0 : Int32)) hx hb dX2_writesAnyOf_36 (by decide) ?_
        have hf := Option.some.inj hf; subst hf
        rw [← hQ]
        exact g_zret (v := (0 : Int32)) hx hb hr hlocks rfl hP hS dX2_writesAnyOf_37
      · have hf := br_n hc hf
        refine lv_aload_n (pc := 10) hx hb dX2_writesAnyOf_10 rfl (lv_at hl 1 rfl) ?_
        refine lv_iload_n (pc := 11) hx hb dX2_writesAnyOf_11 rfl (lv_at hl 0 rfl) ?_
        obtain ⟨x1, hcx1, hf⟩ := bn_some hf
        refine g_callV0 (pc := 12) (rest := []) hx hb hml hown hts hK (c_X2_targetOf l G hw0_0 hw0_1 hw0_2 hw0_3 hw0_4 hw0_5 hw0_6 w0 v3 hcx1) wd_353 wd_5 wd_350 wd_351 wd_352 hd_X2_targetOf ⟨rfl, rfl, Nat.le_of_ble_eq_true rfl, Nat.le_of_ble_eq_true rfl⟩ hP hD hS hA [0, 1, 2, 3, 4, 5, 6] rfl rfl 2 0 rfl rfl rfl rfl hl.1 rfl (Nat.le_of_ble_eq_true rfl) dX2_writesAnyOf_12 ⟨Nat.zero_le _, Nat.zero_le _⟩ (fun H locs hP hS => ?_)
        refine lv_aload_n (pc := 15) hx hb dX2_writesAnyOf_15 rfl (lv_at hl 1 rfl) ?_
        refine lv_iload_n (pc := 16) hx hb dX2_writesAnyOf_16 rfl (lv_at hl 0 rfl) ?_
        obtain ⟨x2, hcx2, hf⟩ := bn_some hf
        refine g_callV0 (pc := 17) (rest := [.int x1]) hx hb hml hown hts hK (c_X2_lengthOf l G hw0_0 hw0_1 hw0_2 hw0_3 hw0_4 hw0_5 hw0_6 w0 v3 hcx2) wd_349 wd_5 wd_346 wd_347 wd_348 hd_X2_lengthOf ⟨rfl, rfl, Nat.le_of_ble_eq_true rfl, Nat.le_of_ble_eq_true rfl⟩ hP hD hS hA [0, 1, 2, 3, 4, 5, 6] rfl rfl 2 0 rfl rfl rfl rfl hl.1 rfl (Nat.le_of_ble_eq_true rfl) dX2_writesAnyOf_17 ⟨Nat.zero_le _, Nat.zero_le _⟩ (fun H locs hP hS => ?_)
        refine lv_iload_n (pc := 20) hx hb dX2_writesAnyOf_20 rfl (lv_at hl 2 rfl) ?_
        refine lv_iload_n (pc := 21) hx hb dX2_writesAnyOf_21 rfl (lv_at hl 3 rfl) ?_
        obtain ⟨x3, hcx3, hf⟩ := bn_some hf
        refine g_callSN0 (pc := 22) (rest := []) hx hb hml hown hts hK (c_X10_overlap l G  x1 x2 p1 p2 hcx3) wd_356 wd_1 (nmw_354 hK) wd_355 hd_X10_overlap ⟨rfl, rfl, Nat.le_of_ble_eq_true rfl, Nat.le_of_ble_eq_true rfl⟩ hP hD hS hA [] rfl rfl rfl hl.1 rfl (Nat.le_of_ble_eq_true rfl) dX2_writesAnyOf_22 ⟨Nat.zero_le _, Nat.zero_le _⟩ (fun H locs hP hS => ?_)
        refine lv_if_eq (pc := 25) (tgt := 30) hx hb dX2_writesAnyOf_25 (by decide) (fun hc => ?_) (fun hc => ?_)
        · have hf := br_y hc hf
          refine lv_iinc (pc := 30) (v := (v3 + (1 : Int32))) (lv' := [(3, .int (v3 + (1 : Int32))), (0, .ref hw0_0), (1, .int p1), (2, .int p2)]) hx hb dX2_writesAnyOf_30 hl (k := 0) rfl rfl (by decide) rfl (fun ls hl => ?_)
          refine lv_goto (pc := 33) (tgt := 2) hx hb dX2_writesAnyOf_33 (by decide) ?_
          exact ih2 (v3 + (1 : Int32)) hf H locs hP hD hS ls (lv_sub hl [0, 1, 2, 3] rfl)
        · have hf := br_n hc hf
          refine lv_iconst (pc := 28) (v := (1 : Int32)) hx hb dX2_writesAnyOf_28 (by decide) ?_
          have hf := Option.some.inj hf; subst hf
          rw [← hQ]
          exact g_zret (v := (1 : Int32)) hx hb hr hlocks rfl hP hS dX2_writesAnyOf_29
  refine lv_iconst (pc := 0) (v := (0 : Int32)) hx hb dX2_writesAnyOf_0 (by decide) ?_
  refine lv_istore_n (pc := 1) (lv' := [(3, .int (0 : Int32)), (0, .ref hw0_0), (1, .int p1), (2, .int p2)]) hx hb dX2_writesAnyOf_1 rfl hl (by decide) rfl (fun ls hl => ?_)
  exact hL2 FUEL (0 : Int32) hf H locs hP hD hS ls (lv_sub hl [0, 1, 2, 3] rfl)
theorem hd_X2_firstFree : yX2_firstFree.cls ≠ "java/lang/invoke/MethodHandle" ∧ yX2_firstFree.cls ≠ "java/lang/invoke/VarHandle" ∧ (parseMethodDescriptor yX2_firstFree.desc).map (fun d => d.parameters.length) = some 1 := by decide +kernel
abbrev rm_X2_firstFree : Room := { frames := 2, cells := 0, slots := 0, locals := 42 }
noncomputable def f_X2_firstFree_J30 (w0 : TDelta) (p1 : Int32) (rec2 : Int32 → Option Int32) (v2 : Int32) : Option Int32 :=
  rec2 (v2 + (1 : Int32))
noncomputable def f_X2_firstFree_L2 (w0 : TDelta) (p1 : Int32)  : Nat → Int32 → Option Int32
  | 0, _ => none
  | k2 + 1, v2 =>
    br (w0.2.2.2.2.2.2.2.2.1 ≤ v2) (some (-1 : Int32)) ((f_X10_isIn p1 v2).bind (fun x1 => br (x1 = 0) (f_X2_firstFree_J30 w0 p1 (f_X2_firstFree_L2 w0 p1  k2) v2) ((f_X2_precedersOf w0 v2).bind (fun x2 => br ((x2 &&& p1) = 0) (some v2) (f_X2_firstFree_J30 w0 p1 (f_X2_firstFree_L2 w0 p1  k2) v2)))))
noncomputable def f_X2_firstFree (w0 : TDelta) (p1 : Int32) : Option Int32 :=
  f_X2_firstFree_L2 w0 p1 FUEL (0 : Int32)
set_option maxHeartbeats 4000000 in
set_option maxRecDepth 100000 in
theorem c_X2_firstFree (l : Launch) (G : GT) (hw0_0 hw0_1 hw0_2 hw0_3 hw0_4 hw0_5 hw0_6 : Nat) (w0 : TDelta) (p1 : Int32) {r : Int32} (hf : f_X2_firstFree w0 p1 = some r) : Ct l yX2_firstFree (Cond.code yX2_firstFree cX2_firstFree 3 (some .int) :: lw_g) rm_X2_firstFree G [.ref hw0_0, .int p1] [(hw0_0, .inr (2, [.ref hw0_1, .ref hw0_2, .ref hw0_3, .ref hw0_4, .ref hw0_5, .ref hw0_6, .int w0.2.2.2.2.2.2.1, .int w0.2.2.2.2.2.2.2.1, .int w0.2.2.2.2.2.2.2.2.1, .int w0.2.2.2.2.2.2.2.2.2.1, .int w0.2.2.2.2.2.2.2.2.2.2])), (hw0_1, .inl (G.2.1, 30, .inl w0.1)), (hw0_2, .inl (G.2.1, 30, .inl w0.2.1)), (hw0_3, .inl (G.2.1, 30, .inl w0.2.2.1)), (hw0_4, .inl (G.2.1, 30, .inl w0.2.2.2.1)), (hw0_5, .inl (G.2.1, 30, .inl w0.2.2.2.2.1)), (hw0_6, .inl (G.2.1, 64, .inl w0.2.2.2.2.2.1))] (some (.int r)) [(hw0_0, .inr (2, [.ref hw0_1, .ref hw0_2, .ref hw0_3, .ref hw0_4, .ref hw0_5, .ref hw0_6, .int w0.2.2.2.2.2.2.1, .int w0.2.2.2.2.2.2.2.1, .int w0.2.2.2.2.2.2.2.2.1, .int w0.2.2.2.2.2.2.2.2.2.1, .int w0.2.2.2.2.2.2.2.2.2.2])), (hw0_1, .inl (G.2.1, 30, .inl w0.1)), (hw0_2, .inl (G.2.1, 30, .inl w0.2.1)), (hw0_3, .inl (G.2.1, 30, .inl w0.2.2.1)), (hw0_4, .inl (G.2.1, 30, .inl w0.2.2.2.1)), (hw0_5, .inl (G.2.1, 30, .inl w0.2.2.2.2.1)), (hw0_6, .inl (G.2.1, 64, .inl w0.2.2.2.2.2.1))] := by
  refine Ct.ofW (cc := cX2_firstFree) (maxL := 3) (ret := (some .int)) (own := RX2) (by decide) rfl rfl (Nat.le_of_ble_eq_true rfl) ?_
  intro p e s m args below meth c A hx hb hr hml hts hown hlocks hK hP hD hA hS ls hl
  have hl : lv_has ls 3 [(0, .ref hw0_0), (1, .int p1)] := hl
  generalize hQ : gMQ below G _ _ A args s = Q
  generalize hH : s.heap = H at hP ⊢
  have hS : va_S A s.heap H [] := by rw [← hH]; exact hS
  generalize ([] : List Loc) = locs at hS ⊢
  unfold f_X2_firstFree at hf
  have hL2 : ∀ (k2 : Nat) (v2 : Int32), f_X2_firstFree_L2 w0 p1  k2 v2 = some r → ∀ (H : Heap) (locs : List Loc), va_P G.1 vwCl [(hw0_0, .inr (2, [.ref hw0_1, .ref hw0_2, .ref hw0_3, .ref hw0_4, .ref hw0_5, .ref hw0_6, .int w0.2.2.2.2.2.2.1, .int w0.2.2.2.2.2.2.2.1, .int w0.2.2.2.2.2.2.2.2.1, .int w0.2.2.2.2.2.2.2.2.2.1, .int w0.2.2.2.2.2.2.2.2.2.2])), (hw0_1, .inl (G.2.1, 30, .inl w0.1)), (hw0_2, .inl (G.2.1, 30, .inl w0.2.1)), (hw0_3, .inl (G.2.1, 30, .inl w0.2.2.1)), (hw0_4, .inl (G.2.1, 30, .inl w0.2.2.2.1)), (hw0_5, .inl (G.2.1, 30, .inl w0.2.2.2.2.1)), (hw0_6, .inl (G.2.1, 64, .inl w0.2.2.2.2.2.1))] H → va_D A [(hw0_0, .inr (2, [.ref hw0_1, .ref hw0_2, .ref hw0_3, .ref hw0_4, .ref hw0_5, .ref hw0_6, .int w0.2.2.2.2.2.2.1, .int w0.2.2.2.2.2.2.2.1, .int w0.2.2.2.2.2.2.2.2.1, .int w0.2.2.2.2.2.2.2.2.2.1, .int w0.2.2.2.2.2.2.2.2.2.2])), (hw0_1, .inl (G.2.1, 30, .inl w0.1)), (hw0_2, .inl (G.2.1, 30, .inl w0.2.1)), (hw0_3, .inl (G.2.1, 30, .inl w0.2.2.1)), (hw0_4, .inl (G.2.1, 30, .inl w0.2.2.2.1)), (hw0_5, .inl (G.2.1, 30, .inl w0.2.2.2.2.1)), (hw0_6, .inl (G.2.1, 64, .inl w0.2.2.2.2.2.1))] → va_S A s.heap H locs → ∀ (ls : Array Slot), lv_has ls 3 [(2, .int v2), (0, .ref hw0_0), (1, .int p1)] → W p l e (rm_X2_firstFree) s m args below meth c H locs 0 0 Q (F0 m 2 ls []) := by
    intro k2
    induction k2 with
    | zero =>
      intro v2 hf
      rw [f_X2_firstFree_L2.eq_1] at hf; cases hf
    | succ k2 ih2 =>
      have hJ30 : ∀ (v2 : Int32), f_X2_firstFree_J30 w0 p1 (f_X2_firstFree_L2 w0 p1 k2) v2 = some r → ∀ (H : Heap) (locs : List Loc), va_P G.1 vwCl [(hw0_0, .inr (2, [.ref hw0_1, .ref hw0_2, .ref hw0_3, .ref hw0_4, .ref hw0_5, .ref hw0_6, .int w0.2.2.2.2.2.2.1, .int w0.2.2.2.2.2.2.2.1, .int w0.2.2.2.2.2.2.2.2.1, .int w0.2.2.2.2.2.2.2.2.2.1, .int w0.2.2.2.2.2.2.2.2.2.2])), (hw0_1, .inl (G.2.1, 30, .inl w0.1)), (hw0_2, .inl (G.2.1, 30, .inl w0.2.1)), (hw0_3, .inl (G.2.1, 30, .inl w0.2.2.1)), (hw0_4, .inl (G.2.1, 30, .inl w0.2.2.2.1)), (hw0_5, .inl (G.2.1, 30, .inl w0.2.2.2.2.1)), (hw0_6, .inl (G.2.1, 64, .inl w0.2.2.2.2.2.1))] H → va_D A [(hw0_0, .inr (2, [.ref hw0_1, .ref hw0_2, .ref hw0_3, .ref hw0_4, .ref hw0_5, .ref hw0_6, .int w0.2.2.2.2.2.2.1, .int w0.2.2.2.2.2.2.2.1, .int w0.2.2.2.2.2.2.2.2.1, .int w0.2.2.2.2.2.2.2.2.2.1, .int w0.2.2.2.2.2.2.2.2.2.2])), (hw0_1, .inl (G.2.1, 30, .inl w0.1)), (hw0_2, .inl (G.2.1, 30, .inl w0.2.1)), (hw0_3, .inl (G.2.1, 30, .inl w0.2.2.1)), (hw0_4, .inl (G.2.1, 30, .inl w0.2.2.2.1)), (hw0_5, .inl (G.2.1, 30, .inl w0.2.2.2.2.1)), (hw0_6, .inl (G.2.1, 64, .inl w0.2.2.2.2.2.1))] → va_S A s.heap H locs → ∀ (ls : Array Slot), lv_has ls 3 [(2, .int v2), (0, .ref hw0_0), (1, .int p1)] → W p l e (rm_X2_firstFree) s m args below meth c H locs 0 0 Q (F0 m 30 ls []) := by
        intro v2 hf H locs hP hD hS ls hl
        unfold f_X2_firstFree_J30 at hf
        refine lv_iinc (pc := 30) (v := (v2 + (1 : Int32))) (lv' := [(2, .int (v2 + (1 : Int32))), (0, .ref hw0_0), (1, .int p1)]) hx hb dX2_firstFree_30 hl (k := 0) rfl rfl (by decide) rfl (fun ls hl => ?_)
        refine lv_goto (pc := 33) (tgt := 2) hx hb dX2_firstFree_33 (by decide) ?_
        exact ih2 (v2 + (1 : Int32)) hf H locs hP hD hS ls (lv_sub hl [0, 1, 2] rfl)
      intro v2 hf H locs hP hD hS ls hl
      rw [f_X2_firstFree_L2.eq_2] at hf
      refine lv_iload_n (pc := 2) hx hb dX2_firstFree_2 rfl (lv_at hl 0 rfl) ?_
      refine lv_aload_n (pc := 3) hx hb dX2_firstFree_3 rfl (lv_at hl 1 rfl) ?_
      refine va_get (pc := 4) (D := G.1) (ci := 2) (v := .int w0.2.2.2.2.2.2.2.2.1) (C := RX2) (T := TX2) (N := 11) hx hb hts inX2 hown hK.1 hP 0 rfl rfl 8 (by decide) (hts _ wd_77) (fun _ h9 => h9) rfl dX2_firstFree_4 ?_
      refine lv_icmp_ge (pc := 7) (tgt := 36) hx hb dX2_firstFree_7 (by decide) (fun hc => ?_) (fun hc => ?_)
      · have hf := br_y hc hf
        refine lv_iconst (pc := 36) (v := (-1 : Int32)) hx hb dX2_firstFree_36 (by decide) ?_
        have hf := Option.some.inj hf; subst hf
        rw [← hQ]
        exact g_iret hx hb hr hlocks hP hS dX2_firstFree_37
      · have hf := br_n hc hf
        refine lv_iload_n (pc := 10) hx hb dX2_firstFree_10 rfl (lv_at hl 2 rfl) ?_
        refine lv_iload_n (pc := 11) hx hb dX2_firstFree_11 rfl (lv_at hl 0 rfl) ?_
        obtain ⟨x1, hcx1, hf⟩ := bn_some hf
        refine g_callSN0 (pc := 12) (rest := []) hx hb hml hown hts hK (c_X10_isIn l G  p1 v2 hcx1) wd_333 wd_1 (nmw_331 hK) wd_332 hd_X10_isIn ⟨rfl, rfl, Nat.le_of_ble_eq_true rfl, Nat.le_of_ble_eq_true rfl⟩ hP hD hS hA [] rfl rfl rfl hl.1 rfl (Nat.le_of_ble_eq_true rfl) dX2_firstFree_12 ⟨Nat.zero_le _, Nat.zero_le _⟩ (fun H locs hP hS => ?_)
        refine lv_if_eq (pc := 15) (tgt := 30) hx hb dX2_firstFree_15 (by decide) (fun hc => ?_) (fun hc => ?_)
        · have hf := br_y hc hf
          exact hJ30 v2 hf H locs hP hD hS ls (lv_sub hl [0, 1, 2] rfl)
        · have hf := br_n hc hf
          refine lv_aload_n (pc := 18) hx hb dX2_firstFree_18 rfl (lv_at hl 1 rfl) ?_
          refine lv_iload_n (pc := 19) hx hb dX2_firstFree_19 rfl (lv_at hl 0 rfl) ?_
          obtain ⟨x2, hcx2, hf⟩ := bn_some hf
          refine g_callV0 (pc := 20) (rest := []) hx hb hml hown hts hK (c_X2_precedersOf l G hw0_0 hw0_1 hw0_2 hw0_3 hw0_4 hw0_5 hw0_6 w0 v2 hcx2) wd_388 wd_5 wd_385 wd_386 wd_387 hd_X2_precedersOf ⟨rfl, rfl, Nat.le_of_ble_eq_true rfl, Nat.le_of_ble_eq_true rfl⟩ hP hD hS hA [0, 1, 2, 3, 4, 5, 6] rfl rfl 2 0 rfl rfl rfl rfl hl.1 rfl (Nat.le_of_ble_eq_true rfl) dX2_firstFree_20 ⟨Nat.zero_le _, Nat.zero_le _⟩ (fun H locs hP hS => ?_)
          refine lv_iload_n (pc := 23) hx hb dX2_firstFree_23 rfl (lv_at hl 2 rfl) ?_
          refine lv_iand (pc := 24) hx hb dX2_firstFree_24 ?_
          refine lv_if_ne (pc := 25) (tgt := 30) hx hb dX2_firstFree_25 (by decide) (fun hc => ?_) (fun hc => ?_)
          · have hf := br_n hc hf
            exact hJ30 v2 hf H locs hP hD hS ls (lv_sub hl [0, 1, 2] rfl)
          · have hf := br_y hc hf
            refine lv_iload_n (pc := 28) hx hb dX2_firstFree_28 rfl (lv_at hl 0 rfl) ?_
            have hf := Option.some.inj hf; subst hf
            rw [← hQ]
            exact g_iret hx hb hr hlocks hP hS dX2_firstFree_29
  refine lv_iconst (pc := 0) (v := (0 : Int32)) hx hb dX2_firstFree_0 (by decide) ?_
  refine lv_istore_n (pc := 1) (lv' := [(2, .int (0 : Int32)), (0, .ref hw0_0), (1, .int p1)]) hx hb dX2_firstFree_1 rfl hl (by decide) rfl (fun ls hl => ?_)
  exact hL2 FUEL (0 : Int32) hf H locs hP hD hS ls (lv_sub hl [0, 1, 2] rfl)
theorem hd_X2_take : yX2_take.cls ≠ "java/lang/invoke/MethodHandle" ∧ yX2_take.cls ≠ "java/lang/invoke/VarHandle" ∧ (parseMethodDescriptor yX2_take.desc).map (fun d => d.parameters.length) = some 1 := by decide +kernel
abbrev rm_X2_take : Room := { frames := 1, cells := 0, slots := 0, locals := 64 }
noncomputable def f_X2_take (w0 : TDelta) (w1 : TDelta) : Option TDelta :=
  gd (¬ (0 : Int32) < 0 ∧ ¬ (0 : Int32) < 0 ∧ ¬ (30 : Int32) < 0 ∧ (0 : Int32).toNatClampNeg + (30 : Int32).toNatClampNeg ≤ 30 ∧ (0 : Int32).toNatClampNeg + (30 : Int32).toNatClampNeg ≤ 30) (gd (¬ (0 : Int32) < 0 ∧ ¬ (0 : Int32) < 0 ∧ ¬ (30 : Int32) < 0 ∧ (0 : Int32).toNatClampNeg + (30 : Int32).toNatClampNeg ≤ 30 ∧ (0 : Int32).toNatClampNeg + (30 : Int32).toNatClampNeg ≤ 30) (gd (¬ (0 : Int32) < 0 ∧ ¬ (0 : Int32) < 0 ∧ ¬ (30 : Int32) < 0 ∧ (0 : Int32).toNatClampNeg + (30 : Int32).toNatClampNeg ≤ 30 ∧ (0 : Int32).toNatClampNeg + (30 : Int32).toNatClampNeg ≤ 30) (gd (¬ (0 : Int32) < 0 ∧ ¬ (0 : Int32) < 0 ∧ ¬ (30 : Int32) < 0 ∧ (0 : Int32).toNatClampNeg + (30 : Int32).toNatClampNeg ≤ 30 ∧ (0 : Int32).toNatClampNeg + (30 : Int32).toNatClampNeg ≤ 30) (gd (¬ (0 : Int32) < 0 ∧ ¬ (0 : Int32) < 0 ∧ ¬ (30 : Int32) < 0 ∧ (0 : Int32).toNatClampNeg + (30 : Int32).toNatClampNeg ≤ 30 ∧ (0 : Int32).toNatClampNeg + (30 : Int32).toNatClampNeg ≤ 30) (gd (¬ (0 : Int32) < 0 ∧ ¬ (0 : Int32) < 0 ∧ ¬ (64 : Int32) < 0 ∧ (0 : Int32).toNatClampNeg + (64 : Int32).toNatClampNeg ≤ 64 ∧ (0 : Int32).toNatClampNeg + (64 : Int32).toNatClampNeg ≤ 64) (some ((va_cpy w1.1 w0.1 (0 : Int32).toNatClampNeg (0 : Int32).toNatClampNeg (30 : Int32).toNatClampNeg), (va_cpy w1.2.1 w0.2.1 (0 : Int32).toNatClampNeg (0 : Int32).toNatClampNeg (30 : Int32).toNatClampNeg), (va_cpy w1.2.2.1 w0.2.2.1 (0 : Int32).toNatClampNeg (0 : Int32).toNatClampNeg (30 : Int32).toNatClampNeg), (va_cpy w1.2.2.2.1 w0.2.2.2.1 (0 : Int32).toNatClampNeg (0 : Int32).toNatClampNeg (30 : Int32).toNatClampNeg), (va_cpy w1.2.2.2.2.1 w0.2.2.2.2.1 (0 : Int32).toNatClampNeg (0 : Int32).toNatClampNeg (30 : Int32).toNatClampNeg), (va_cpy w1.2.2.2.2.2.1 w0.2.2.2.2.2.1 (0 : Int32).toNatClampNeg (0 : Int32).toNatClampNeg (64 : Int32).toNatClampNeg), w1.2.2.2.2.2.2.1, w1.2.2.2.2.2.2.2.1, w1.2.2.2.2.2.2.2.2.1, w1.2.2.2.2.2.2.2.2.2.1, w1.2.2.2.2.2.2.2.2.2.2)))))))
set_option maxHeartbeats 4000000 in
set_option maxRecDepth 100000 in
theorem c_X2_take (l : Launch) (G : GT) (hw0_0 hw0_1 hw0_2 hw0_3 hw0_4 hw0_5 hw0_6 : Nat) (hw1_0 hw1_1 hw1_2 hw1_3 hw1_4 hw1_5 hw1_6 : Nat) (w0 : TDelta) (w1 : TDelta) {r : TDelta} (hf : f_X2_take w0 w1 = some r) : Ct l yX2_take (Cond.code yX2_take cX2_take 2 none :: lw_g) rm_X2_take G [.ref hw0_0, .ref hw1_0] [(hw0_0, .inr (2, [.ref hw0_1, .ref hw0_2, .ref hw0_3, .ref hw0_4, .ref hw0_5, .ref hw0_6, .int w0.2.2.2.2.2.2.1, .int w0.2.2.2.2.2.2.2.1, .int w0.2.2.2.2.2.2.2.2.1, .int w0.2.2.2.2.2.2.2.2.2.1, .int w0.2.2.2.2.2.2.2.2.2.2])), (hw0_1, .inl (G.2.1, 30, .inl w0.1)), (hw0_2, .inl (G.2.1, 30, .inl w0.2.1)), (hw0_3, .inl (G.2.1, 30, .inl w0.2.2.1)), (hw0_4, .inl (G.2.1, 30, .inl w0.2.2.2.1)), (hw0_5, .inl (G.2.1, 30, .inl w0.2.2.2.2.1)), (hw0_6, .inl (G.2.1, 64, .inl w0.2.2.2.2.2.1)), (hw1_0, .inr (2, [.ref hw1_1, .ref hw1_2, .ref hw1_3, .ref hw1_4, .ref hw1_5, .ref hw1_6, .int w1.2.2.2.2.2.2.1, .int w1.2.2.2.2.2.2.2.1, .int w1.2.2.2.2.2.2.2.2.1, .int w1.2.2.2.2.2.2.2.2.2.1, .int w1.2.2.2.2.2.2.2.2.2.2])), (hw1_1, .inl (G.2.1, 30, .inl w1.1)), (hw1_2, .inl (G.2.1, 30, .inl w1.2.1)), (hw1_3, .inl (G.2.1, 30, .inl w1.2.2.1)), (hw1_4, .inl (G.2.1, 30, .inl w1.2.2.2.1)), (hw1_5, .inl (G.2.1, 30, .inl w1.2.2.2.2.1)), (hw1_6, .inl (G.2.1, 64, .inl w1.2.2.2.2.2.1))] none [(hw0_0, .inr (2, [.ref hw0_1, .ref hw0_2, .ref hw0_3, .ref hw0_4, .ref hw0_5, .ref hw0_6, .int r.2.2.2.2.2.2.1, .int r.2.2.2.2.2.2.2.1, .int r.2.2.2.2.2.2.2.2.1, .int r.2.2.2.2.2.2.2.2.2.1, .int r.2.2.2.2.2.2.2.2.2.2])), (hw0_1, .inl (G.2.1, 30, .inl r.1)), (hw0_2, .inl (G.2.1, 30, .inl r.2.1)), (hw0_3, .inl (G.2.1, 30, .inl r.2.2.1)), (hw0_4, .inl (G.2.1, 30, .inl r.2.2.2.1)), (hw0_5, .inl (G.2.1, 30, .inl r.2.2.2.2.1)), (hw0_6, .inl (G.2.1, 64, .inl r.2.2.2.2.2.1)), (hw1_0, .inr (2, [.ref hw1_1, .ref hw1_2, .ref hw1_3, .ref hw1_4, .ref hw1_5, .ref hw1_6, .int w1.2.2.2.2.2.2.1, .int w1.2.2.2.2.2.2.2.1, .int w1.2.2.2.2.2.2.2.2.1, .int w1.2.2.2.2.2.2.2.2.2.1, .int w1.2.2.2.2.2.2.2.2.2.2])), (hw1_1, .inl (G.2.1, 30, .inl w1.1)), (hw1_2, .inl (G.2.1, 30, .inl w1.2.1)), (hw1_3, .inl (G.2.1, 30, .inl w1.2.2.1)), (hw1_4, .inl (G.2.1, 30, .inl w1.2.2.2.1)), (hw1_5, .inl (G.2.1, 30, .inl w1.2.2.2.2.1)), (hw1_6, .inl (G.2.1, 64, .inl w1.2.2.2.2.2.1))] := by
  refine Ct.ofW (cc := cX2_take) (maxL := 2) (ret := none) (own := RX2) (by decide) rfl rfl (Nat.le_of_ble_eq_true rfl) ?_
  intro p e s m args below meth c A hx hb hr hml hts hown hlocks hK hP hD hA hS ls hl
  have hl : lv_has ls 2 [(0, .ref hw0_0), (1, .ref hw1_0)] := hl
  generalize hQ : gMQ below G _ _ A args s = Q
  generalize hH : s.heap = H at hP ⊢
  have hS : va_S A s.heap H [] := by rw [← hH]; exact hS
  generalize ([] : List Loc) = locs at hS ⊢
  unfold f_X2_take at hf
  refine lv_aload_n (pc := 0) hx hb dX2_take_0 rfl (lv_at hl 0 rfl) ?_
  refine lv_aload_n (pc := 1) hx hb dX2_take_1 rfl (lv_at hl 1 rfl) ?_
  refine va_get (pc := 2) (D := G.1) (ci := 2) (v := .int w1.2.2.2.2.2.2.1) (C := RX2) (T := TX2) (N := 11) hx hb hts inX2 hown hK.1 hP 7 rfl rfl 6 (by decide) (hts _ wd_72) (fun _ h9 => h9) rfl dX2_take_2 ?_
  refine va_put (pc := 5) (D := G.1) (ci := 2) (v := .int w1.2.2.2.2.2.2.1) (ty := .int) (C := RX2) (T := TX2) (N := 11) hx hb hts inX2 tyX2 tyX2_ok nmX2 hown hK.1 hP hD hS 0 rfl rfl 6 (by decide) (hts _ wd_72) (fun _ h9 => h9) rfl (by decide +kernel) rfl rfl (Nat.le_of_ble_eq_true rfl) dX2_take_5 (fun H locs hP hD hS => ?_)
  have hP : va_P G.1 vwCl [(hw0_0, .inr (2, [.ref hw0_1, .ref hw0_2, .ref hw0_3, .ref hw0_4, .ref hw0_5, .ref hw0_6, .int w1.2.2.2.2.2.2.1, .int w0.2.2.2.2.2.2.2.1, .int w0.2.2.2.2.2.2.2.2.1, .int w0.2.2.2.2.2.2.2.2.2.1, .int w0.2.2.2.2.2.2.2.2.2.2])), (hw0_1, .inl (G.2.1, 30, .inl w0.1)), (hw0_2, .inl (G.2.1, 30, .inl w0.2.1)), (hw0_3, .inl (G.2.1, 30, .inl w0.2.2.1)), (hw0_4, .inl (G.2.1, 30, .inl w0.2.2.2.1)), (hw0_5, .inl (G.2.1, 30, .inl w0.2.2.2.2.1)), (hw0_6, .inl (G.2.1, 64, .inl w0.2.2.2.2.2.1)), (hw1_0, .inr (2, [.ref hw1_1, .ref hw1_2, .ref hw1_3, .ref hw1_4, .ref hw1_5, .ref hw1_6, .int w1.2.2.2.2.2.2.1, .int w1.2.2.2.2.2.2.2.1, .int w1.2.2.2.2.2.2.2.2.1, .int w1.2.2.2.2.2.2.2.2.2.1, .int w1.2.2.2.2.2.2.2.2.2.2])), (hw1_1, .inl (G.2.1, 30, .inl w1.1)), (hw1_2, .inl (G.2.1, 30, .inl w1.2.1)), (hw1_3, .inl (G.2.1, 30, .inl w1.2.2.1)), (hw1_4, .inl (G.2.1, 30, .inl w1.2.2.2.1)), (hw1_5, .inl (G.2.1, 30, .inl w1.2.2.2.2.1)), (hw1_6, .inl (G.2.1, 64, .inl w1.2.2.2.2.2.1))] H := hP
  have hD : va_D A [(hw0_0, .inr (2, [.ref hw0_1, .ref hw0_2, .ref hw0_3, .ref hw0_4, .ref hw0_5, .ref hw0_6, .int w1.2.2.2.2.2.2.1, .int w0.2.2.2.2.2.2.2.1, .int w0.2.2.2.2.2.2.2.2.1, .int w0.2.2.2.2.2.2.2.2.2.1, .int w0.2.2.2.2.2.2.2.2.2.2])), (hw0_1, .inl (G.2.1, 30, .inl w0.1)), (hw0_2, .inl (G.2.1, 30, .inl w0.2.1)), (hw0_3, .inl (G.2.1, 30, .inl w0.2.2.1)), (hw0_4, .inl (G.2.1, 30, .inl w0.2.2.2.1)), (hw0_5, .inl (G.2.1, 30, .inl w0.2.2.2.2.1)), (hw0_6, .inl (G.2.1, 64, .inl w0.2.2.2.2.2.1)), (hw1_0, .inr (2, [.ref hw1_1, .ref hw1_2, .ref hw1_3, .ref hw1_4, .ref hw1_5, .ref hw1_6, .int w1.2.2.2.2.2.2.1, .int w1.2.2.2.2.2.2.2.1, .int w1.2.2.2.2.2.2.2.2.1, .int w1.2.2.2.2.2.2.2.2.2.1, .int w1.2.2.2.2.2.2.2.2.2.2])), (hw1_1, .inl (G.2.1, 30, .inl w1.1)), (hw1_2, .inl (G.2.1, 30, .inl w1.2.1)), (hw1_3, .inl (G.2.1, 30, .inl w1.2.2.1)), (hw1_4, .inl (G.2.1, 30, .inl w1.2.2.2.1)), (hw1_5, .inl (G.2.1, 30, .inl w1.2.2.2.2.1)), (hw1_6, .inl (G.2.1, 64, .inl w1.2.2.2.2.2.1))] := hD
  refine lv_aload_n (pc := 8) hx hb dX2_take_8 rfl (lv_at hl 0 rfl) ?_
  refine lv_aload_n (pc := 9) hx hb dX2_take_9 rfl (lv_at hl 1 rfl) ?_
  refine va_get (pc := 10) (D := G.1) (ci := 2) (v := .int w1.2.2.2.2.2.2.2.1) (C := RX2) (T := TX2) (N := 11) hx hb hts inX2 hown hK.1 hP 7 rfl rfl 7 (by decide) (hts _ wd_76) (fun _ h9 => h9) rfl dX2_take_10 ?_
  refine va_put (pc := 13) (D := G.1) (ci := 2) (v := .int w1.2.2.2.2.2.2.2.1) (ty := .int) (C := RX2) (T := TX2) (N := 11) hx hb hts inX2 tyX2 tyX2_ok nmX2 hown hK.1 hP hD hS 0 rfl rfl 7 (by decide) (hts _ wd_76) (fun _ h9 => h9) rfl (by decide +kernel) rfl rfl (Nat.le_of_ble_eq_true rfl) dX2_take_13 (fun H locs hP hD hS => ?_)
  have hP : va_P G.1 vwCl [(hw0_0, .inr (2, [.ref hw0_1, .ref hw0_2, .ref hw0_3, .ref hw0_4, .ref hw0_5, .ref hw0_6, .int w1.2.2.2.2.2.2.1, .int w1.2.2.2.2.2.2.2.1, .int w0.2.2.2.2.2.2.2.2.1, .int w0.2.2.2.2.2.2.2.2.2.1, .int w0.2.2.2.2.2.2.2.2.2.2])), (hw0_1, .inl (G.2.1, 30, .inl w0.1)), (hw0_2, .inl (G.2.1, 30, .inl w0.2.1)), (hw0_3, .inl (G.2.1, 30, .inl w0.2.2.1)), (hw0_4, .inl (G.2.1, 30, .inl w0.2.2.2.1)), (hw0_5, .inl (G.2.1, 30, .inl w0.2.2.2.2.1)), (hw0_6, .inl (G.2.1, 64, .inl w0.2.2.2.2.2.1)), (hw1_0, .inr (2, [.ref hw1_1, .ref hw1_2, .ref hw1_3, .ref hw1_4, .ref hw1_5, .ref hw1_6, .int w1.2.2.2.2.2.2.1, .int w1.2.2.2.2.2.2.2.1, .int w1.2.2.2.2.2.2.2.2.1, .int w1.2.2.2.2.2.2.2.2.2.1, .int w1.2.2.2.2.2.2.2.2.2.2])), (hw1_1, .inl (G.2.1, 30, .inl w1.1)), (hw1_2, .inl (G.2.1, 30, .inl w1.2.1)), (hw1_3, .inl (G.2.1, 30, .inl w1.2.2.1)), (hw1_4, .inl (G.2.1, 30, .inl w1.2.2.2.1)), (hw1_5, .inl (G.2.1, 30, .inl w1.2.2.2.2.1)), (hw1_6, .inl (G.2.1, 64, .inl w1.2.2.2.2.2.1))] H := hP
  have hD : va_D A [(hw0_0, .inr (2, [.ref hw0_1, .ref hw0_2, .ref hw0_3, .ref hw0_4, .ref hw0_5, .ref hw0_6, .int w1.2.2.2.2.2.2.1, .int w1.2.2.2.2.2.2.2.1, .int w0.2.2.2.2.2.2.2.2.1, .int w0.2.2.2.2.2.2.2.2.2.1, .int w0.2.2.2.2.2.2.2.2.2.2])), (hw0_1, .inl (G.2.1, 30, .inl w0.1)), (hw0_2, .inl (G.2.1, 30, .inl w0.2.1)), (hw0_3, .inl (G.2.1, 30, .inl w0.2.2.1)), (hw0_4, .inl (G.2.1, 30, .inl w0.2.2.2.1)), (hw0_5, .inl (G.2.1, 30, .inl w0.2.2.2.2.1)), (hw0_6, .inl (G.2.1, 64, .inl w0.2.2.2.2.2.1)), (hw1_0, .inr (2, [.ref hw1_1, .ref hw1_2, .ref hw1_3, .ref hw1_4, .ref hw1_5, .ref hw1_6, .int w1.2.2.2.2.2.2.1, .int w1.2.2.2.2.2.2.2.1, .int w1.2.2.2.2.2.2.2.2.1, .int w1.2.2.2.2.2.2.2.2.2.1, .int w1.2.2.2.2.2.2.2.2.2.2])), (hw1_1, .inl (G.2.1, 30, .inl w1.1)), (hw1_2, .inl (G.2.1, 30, .inl w1.2.1)), (hw1_3, .inl (G.2.1, 30, .inl w1.2.2.1)), (hw1_4, .inl (G.2.1, 30, .inl w1.2.2.2.1)), (hw1_5, .inl (G.2.1, 30, .inl w1.2.2.2.2.1)), (hw1_6, .inl (G.2.1, 64, .inl w1.2.2.2.2.2.1))] := hD
  refine lv_aload_n (pc := 16) hx hb dX2_take_16 rfl (lv_at hl 0 rfl) ?_
  refine lv_aload_n (pc := 17) hx hb dX2_take_17 rfl (lv_at hl 1 rfl) ?_
  refine va_get (pc := 18) (D := G.1) (ci := 2) (v := .int w1.2.2.2.2.2.2.2.2.1) (C := RX2) (T := TX2) (N := 11) hx hb hts inX2 hown hK.1 hP 7 rfl rfl 8 (by decide) (hts _ wd_77) (fun _ h9 => h9) rfl dX2_take_18 ?_
  refine va_put (pc := 21) (D := G.1) (ci := 2) (v := .int w1.2.2.2.2.2.2.2.2.1) (ty := .int) (C := RX2) (T := TX2) (N := 11) hx hb hts inX2 tyX2 tyX2_ok nmX2 hown hK.1 hP hD hS 0 rfl rfl 8 (by decide) (hts _ wd_77) (fun _ h9 => h9) rfl (by decide +kernel) rfl rfl (Nat.le_of_ble_eq_true rfl) dX2_take_21 (fun H locs hP hD hS => ?_)
  have hP : va_P G.1 vwCl [(hw0_0, .inr (2, [.ref hw0_1, .ref hw0_2, .ref hw0_3, .ref hw0_4, .ref hw0_5, .ref hw0_6, .int w1.2.2.2.2.2.2.1, .int w1.2.2.2.2.2.2.2.1, .int w1.2.2.2.2.2.2.2.2.1, .int w0.2.2.2.2.2.2.2.2.2.1, .int w0.2.2.2.2.2.2.2.2.2.2])), (hw0_1, .inl (G.2.1, 30, .inl w0.1)), (hw0_2, .inl (G.2.1, 30, .inl w0.2.1)), (hw0_3, .inl (G.2.1, 30, .inl w0.2.2.1)), (hw0_4, .inl (G.2.1, 30, .inl w0.2.2.2.1)), (hw0_5, .inl (G.2.1, 30, .inl w0.2.2.2.2.1)), (hw0_6, .inl (G.2.1, 64, .inl w0.2.2.2.2.2.1)), (hw1_0, .inr (2, [.ref hw1_1, .ref hw1_2, .ref hw1_3, .ref hw1_4, .ref hw1_5, .ref hw1_6, .int w1.2.2.2.2.2.2.1, .int w1.2.2.2.2.2.2.2.1, .int w1.2.2.2.2.2.2.2.2.1, .int w1.2.2.2.2.2.2.2.2.2.1, .int w1.2.2.2.2.2.2.2.2.2.2])), (hw1_1, .inl (G.2.1, 30, .inl w1.1)), (hw1_2, .inl (G.2.1, 30, .inl w1.2.1)), (hw1_3, .inl (G.2.1, 30, .inl w1.2.2.1)), (hw1_4, .inl (G.2.1, 30, .inl w1.2.2.2.1)), (hw1_5, .inl (G.2.1, 30, .inl w1.2.2.2.2.1)), (hw1_6, .inl (G.2.1, 64, .inl w1.2.2.2.2.2.1))] H := hP
  have hD : va_D A [(hw0_0, .inr (2, [.ref hw0_1, .ref hw0_2, .ref hw0_3, .ref hw0_4, .ref hw0_5, .ref hw0_6, .int w1.2.2.2.2.2.2.1, .int w1.2.2.2.2.2.2.2.1, .int w1.2.2.2.2.2.2.2.2.1, .int w0.2.2.2.2.2.2.2.2.2.1, .int w0.2.2.2.2.2.2.2.2.2.2])), (hw0_1, .inl (G.2.1, 30, .inl w0.1)), (hw0_2, .inl (G.2.1, 30, .inl w0.2.1)), (hw0_3, .inl (G.2.1, 30, .inl w0.2.2.1)), (hw0_4, .inl (G.2.1, 30, .inl w0.2.2.2.1)), (hw0_5, .inl (G.2.1, 30, .inl w0.2.2.2.2.1)), (hw0_6, .inl (G.2.1, 64, .inl w0.2.2.2.2.2.1)), (hw1_0, .inr (2, [.ref hw1_1, .ref hw1_2, .ref hw1_3, .ref hw1_4, .ref hw1_5, .ref hw1_6, .int w1.2.2.2.2.2.2.1, .int w1.2.2.2.2.2.2.2.1, .int w1.2.2.2.2.2.2.2.2.1, .int w1.2.2.2.2.2.2.2.2.2.1, .int w1.2.2.2.2.2.2.2.2.2.2])), (hw1_1, .inl (G.2.1, 30, .inl w1.1)), (hw1_2, .inl (G.2.1, 30, .inl w1.2.1)), (hw1_3, .inl (G.2.1, 30, .inl w1.2.2.1)), (hw1_4, .inl (G.2.1, 30, .inl w1.2.2.2.1)), (hw1_5, .inl (G.2.1, 30, .inl w1.2.2.2.2.1)), (hw1_6, .inl (G.2.1, 64, .inl w1.2.2.2.2.2.1))] := hD
  refine lv_aload_n (pc := 24) hx hb dX2_take_24 rfl (lv_at hl 0 rfl) ?_
  refine lv_aload_n (pc := 25) hx hb dX2_take_25 rfl (lv_at hl 1 rfl) ?_
  refine va_get (pc := 26) (D := G.1) (ci := 2) (v := .int w1.2.2.2.2.2.2.2.2.2.1) (C := RX2) (T := TX2) (N := 11) hx hb hts inX2 hown hK.1 hP 7 rfl rfl 9 (by decide) (hts _ wd_83) (fun _ h9 => h9) rfl dX2_take_26 ?_
  refine va_put (pc := 29) (D := G.1) (ci := 2) (v := .int w1.2.2.2.2.2.2.2.2.2.1) (ty := .int) (C := RX2) (T := TX2) (N := 11) hx hb hts inX2 tyX2 tyX2_ok nmX2 hown hK.1 hP hD hS 0 rfl rfl 9 (by decide) (hts _ wd_83) (fun _ h9 => h9) rfl (by decide +kernel) rfl rfl (Nat.le_of_ble_eq_true rfl) dX2_take_29 (fun H locs hP hD hS => ?_)
  have hP : va_P G.1 vwCl [(hw0_0, .inr (2, [.ref hw0_1, .ref hw0_2, .ref hw0_3, .ref hw0_4, .ref hw0_5, .ref hw0_6, .int w1.2.2.2.2.2.2.1, .int w1.2.2.2.2.2.2.2.1, .int w1.2.2.2.2.2.2.2.2.1, .int w1.2.2.2.2.2.2.2.2.2.1, .int w0.2.2.2.2.2.2.2.2.2.2])), (hw0_1, .inl (G.2.1, 30, .inl w0.1)), (hw0_2, .inl (G.2.1, 30, .inl w0.2.1)), (hw0_3, .inl (G.2.1, 30, .inl w0.2.2.1)), (hw0_4, .inl (G.2.1, 30, .inl w0.2.2.2.1)), (hw0_5, .inl (G.2.1, 30, .inl w0.2.2.2.2.1)), (hw0_6, .inl (G.2.1, 64, .inl w0.2.2.2.2.2.1)), (hw1_0, .inr (2, [.ref hw1_1, .ref hw1_2, .ref hw1_3, .ref hw1_4, .ref hw1_5, .ref hw1_6, .int w1.2.2.2.2.2.2.1, .int w1.2.2.2.2.2.2.2.1, .int w1.2.2.2.2.2.2.2.2.1, .int w1.2.2.2.2.2.2.2.2.2.1, .int w1.2.2.2.2.2.2.2.2.2.2])), (hw1_1, .inl (G.2.1, 30, .inl w1.1)), (hw1_2, .inl (G.2.1, 30, .inl w1.2.1)), (hw1_3, .inl (G.2.1, 30, .inl w1.2.2.1)), (hw1_4, .inl (G.2.1, 30, .inl w1.2.2.2.1)), (hw1_5, .inl (G.2.1, 30, .inl w1.2.2.2.2.1)), (hw1_6, .inl (G.2.1, 64, .inl w1.2.2.2.2.2.1))] H := hP
  have hD : va_D A [(hw0_0, .inr (2, [.ref hw0_1, .ref hw0_2, .ref hw0_3, .ref hw0_4, .ref hw0_5, .ref hw0_6, .int w1.2.2.2.2.2.2.1, .int w1.2.2.2.2.2.2.2.1, .int w1.2.2.2.2.2.2.2.2.1, .int w1.2.2.2.2.2.2.2.2.2.1, .int w0.2.2.2.2.2.2.2.2.2.2])), (hw0_1, .inl (G.2.1, 30, .inl w0.1)), (hw0_2, .inl (G.2.1, 30, .inl w0.2.1)), (hw0_3, .inl (G.2.1, 30, .inl w0.2.2.1)), (hw0_4, .inl (G.2.1, 30, .inl w0.2.2.2.1)), (hw0_5, .inl (G.2.1, 30, .inl w0.2.2.2.2.1)), (hw0_6, .inl (G.2.1, 64, .inl w0.2.2.2.2.2.1)), (hw1_0, .inr (2, [.ref hw1_1, .ref hw1_2, .ref hw1_3, .ref hw1_4, .ref hw1_5, .ref hw1_6, .int w1.2.2.2.2.2.2.1, .int w1.2.2.2.2.2.2.2.1, .int w1.2.2.2.2.2.2.2.2.1, .int w1.2.2.2.2.2.2.2.2.2.1, .int w1.2.2.2.2.2.2.2.2.2.2])), (hw1_1, .inl (G.2.1, 30, .inl w1.1)), (hw1_2, .inl (G.2.1, 30, .inl w1.2.1)), (hw1_3, .inl (G.2.1, 30, .inl w1.2.2.1)), (hw1_4, .inl (G.2.1, 30, .inl w1.2.2.2.1)), (hw1_5, .inl (G.2.1, 30, .inl w1.2.2.2.2.1)), (hw1_6, .inl (G.2.1, 64, .inl w1.2.2.2.2.2.1))] := hD
  refine lv_aload_n (pc := 32) hx hb dX2_take_32 rfl (lv_at hl 0 rfl) ?_
  refine lv_aload_n (pc := 33) hx hb dX2_take_33 rfl (lv_at hl 1 rfl) ?_
  refine va_get (pc := 34) (D := G.1) (ci := 2) (v := .int w1.2.2.2.2.2.2.2.2.2.2) (C := RX2) (T := TX2) (N := 11) hx hb hts inX2 hown hK.1 hP 7 rfl rfl 10 (by decide) (hts _ wd_85) (fun _ h9 => h9) rfl dX2_take_34 ?_
  refine va_put (pc := 37) (D := G.1) (ci := 2) (v := .int w1.2.2.2.2.2.2.2.2.2.2) (ty := .int) (C := RX2) (T := TX2) (N := 11) hx hb hts inX2 tyX2 tyX2_ok nmX2 hown hK.1 hP hD hS 0 rfl rfl 10 (by decide) (hts _ wd_85) (fun _ h9 => h9) rfl (by decide +kernel) rfl rfl (Nat.le_of_ble_eq_true rfl) dX2_take_37 (fun H locs hP hD hS => ?_)
  have hP : va_P G.1 vwCl [(hw0_0, .inr (2, [.ref hw0_1, .ref hw0_2, .ref hw0_3, .ref hw0_4, .ref hw0_5, .ref hw0_6, .int w1.2.2.2.2.2.2.1, .int w1.2.2.2.2.2.2.2.1, .int w1.2.2.2.2.2.2.2.2.1, .int w1.2.2.2.2.2.2.2.2.2.1, .int w1.2.2.2.2.2.2.2.2.2.2])), (hw0_1, .inl (G.2.1, 30, .inl w0.1)), (hw0_2, .inl (G.2.1, 30, .inl w0.2.1)), (hw0_3, .inl (G.2.1, 30, .inl w0.2.2.1)), (hw0_4, .inl (G.2.1, 30, .inl w0.2.2.2.1)), (hw0_5, .inl (G.2.1, 30, .inl w0.2.2.2.2.1)), (hw0_6, .inl (G.2.1, 64, .inl w0.2.2.2.2.2.1)), (hw1_0, .inr (2, [.ref hw1_1, .ref hw1_2, .ref hw1_3, .ref hw1_4, .ref hw1_5, .ref hw1_6, .int w1.2.2.2.2.2.2.1, .int w1.2.2.2.2.2.2.2.1, .int w1.2.2.2.2.2.2.2.2.1, .int w1.2.2.2.2.2.2.2.2.2.1, .int w1.2.2.2.2.2.2.2.2.2.2])), (hw1_1, .inl (G.2.1, 30, .inl w1.1)), (hw1_2, .inl (G.2.1, 30, .inl w1.2.1)), (hw1_3, .inl (G.2.1, 30, .inl w1.2.2.1)), (hw1_4, .inl (G.2.1, 30, .inl w1.2.2.2.1)), (hw1_5, .inl (G.2.1, 30, .inl w1.2.2.2.2.1)), (hw1_6, .inl (G.2.1, 64, .inl w1.2.2.2.2.2.1))] H := hP
  have hD : va_D A [(hw0_0, .inr (2, [.ref hw0_1, .ref hw0_2, .ref hw0_3, .ref hw0_4, .ref hw0_5, .ref hw0_6, .int w1.2.2.2.2.2.2.1, .int w1.2.2.2.2.2.2.2.1, .int w1.2.2.2.2.2.2.2.2.1, .int w1.2.2.2.2.2.2.2.2.2.1, .int w1.2.2.2.2.2.2.2.2.2.2])), (hw0_1, .inl (G.2.1, 30, .inl w0.1)), (hw0_2, .inl (G.2.1, 30, .inl w0.2.1)), (hw0_3, .inl (G.2.1, 30, .inl w0.2.2.1)), (hw0_4, .inl (G.2.1, 30, .inl w0.2.2.2.1)), (hw0_5, .inl (G.2.1, 30, .inl w0.2.2.2.2.1)), (hw0_6, .inl (G.2.1, 64, .inl w0.2.2.2.2.2.1)), (hw1_0, .inr (2, [.ref hw1_1, .ref hw1_2, .ref hw1_3, .ref hw1_4, .ref hw1_5, .ref hw1_6, .int w1.2.2.2.2.2.2.1, .int w1.2.2.2.2.2.2.2.1, .int w1.2.2.2.2.2.2.2.2.1, .int w1.2.2.2.2.2.2.2.2.2.1, .int w1.2.2.2.2.2.2.2.2.2.2])), (hw1_1, .inl (G.2.1, 30, .inl w1.1)), (hw1_2, .inl (G.2.1, 30, .inl w1.2.1)), (hw1_3, .inl (G.2.1, 30, .inl w1.2.2.1)), (hw1_4, .inl (G.2.1, 30, .inl w1.2.2.2.1)), (hw1_5, .inl (G.2.1, 30, .inl w1.2.2.2.2.1)), (hw1_6, .inl (G.2.1, 64, .inl w1.2.2.2.2.2.1))] := hD
  refine lv_aload_n (pc := 40) hx hb dX2_take_40 rfl (lv_at hl 1 rfl) ?_
  refine va_get (pc := 41) (D := G.1) (ci := 2) (v := .ref hw1_1) (C := RX2) (T := TX2) (N := 11) hx hb hts inX2 hown hK.1 hP 7 rfl rfl 0 (by decide) (hts _ wd_63) (fun _ h9 => h9) rfl dX2_take_41 ?_
  refine lv_iconst (pc := 44) (v := (0 : Int32)) hx hb dX2_take_44 (by decide) ?_
  refine lv_aload_n (pc := 45) hx hb dX2_take_45 rfl (lv_at hl 0 rfl) ?_
  refine va_get (pc := 46) (D := G.1) (ci := 2) (v := .ref hw0_1) (C := RX2) (T := TX2) (N := 11) hx hb hts inX2 hown hK.1 hP 0 rfl rfl 0 (by decide) (hts _ wd_63) (fun _ h9 => h9) rfl dX2_take_46 ?_
  refine lv_iconst (pc := 49) (v := (0 : Int32)) hx hb dX2_take_49 (by decide) ?_
  refine lv_bipush (pc := 50) (v := (30 : Int32)) hx hb dX2_take_50 (by decide) ?_
  obtain ⟨⟨hg1, hg2, hg3, hg4, hg5⟩, hf⟩ := gd_some hf
  refine va_copyi (pc := 52) (ty := .int) hx hb (hml.trans hl.1.symm) hown (hts _ wd_268) (hts _ wd_263) (hts _ wd_262) (hts _ wd_16) hK.1 hP hD hS 8 1 0 0 rfl rfl rfl rfl rfl hg1 hg2 hg3 hg4 hg5 (fun _ _ => rfl) (Nat.le_of_ble_eq_true rfl) (by decide +kernel) dX2_take_52 (fun H locs hP hD hS => ?_)
  have hP : va_P G.1 vwCl [(hw0_0, .inr (2, [.ref hw0_1, .ref hw0_2, .ref hw0_3, .ref hw0_4, .ref hw0_5, .ref hw0_6, .int w1.2.2.2.2.2.2.1, .int w1.2.2.2.2.2.2.2.1, .int w1.2.2.2.2.2.2.2.2.1, .int w1.2.2.2.2.2.2.2.2.2.1, .int w1.2.2.2.2.2.2.2.2.2.2])), (hw0_1, .inl (G.2.1, 30, .inl (va_cpy w1.1 w0.1 (0 : Int32).toNatClampNeg (0 : Int32).toNatClampNeg (30 : Int32).toNatClampNeg))), (hw0_2, .inl (G.2.1, 30, .inl w0.2.1)), (hw0_3, .inl (G.2.1, 30, .inl w0.2.2.1)), (hw0_4, .inl (G.2.1, 30, .inl w0.2.2.2.1)), (hw0_5, .inl (G.2.1, 30, .inl w0.2.2.2.2.1)), (hw0_6, .inl (G.2.1, 64, .inl w0.2.2.2.2.2.1)), (hw1_0, .inr (2, [.ref hw1_1, .ref hw1_2, .ref hw1_3, .ref hw1_4, .ref hw1_5, .ref hw1_6, .int w1.2.2.2.2.2.2.1, .int w1.2.2.2.2.2.2.2.1, .int w1.2.2.2.2.2.2.2.2.1, .int w1.2.2.2.2.2.2.2.2.2.1, .int w1.2.2.2.2.2.2.2.2.2.2])), (hw1_1, .inl (G.2.1, 30, .inl w1.1)), (hw1_2, .inl (G.2.1, 30, .inl w1.2.1)), (hw1_3, .inl (G.2.1, 30, .inl w1.2.2.1)), (hw1_4, .inl (G.2.1, 30, .inl w1.2.2.2.1)), (hw1_5, .inl (G.2.1, 30, .inl w1.2.2.2.2.1)), (hw1_6, .inl (G.2.1, 64, .inl w1.2.2.2.2.2.1))] H := hP
  have hD : va_D A [(hw0_0, .inr (2, [.ref hw0_1, .ref hw0_2, .ref hw0_3, .ref hw0_4, .ref hw0_5, .ref hw0_6, .int w1.2.2.2.2.2.2.1, .int w1.2.2.2.2.2.2.2.1, .int w1.2.2.2.2.2.2.2.2.1, .int w1.2.2.2.2.2.2.2.2.2.1, .int w1.2.2.2.2.2.2.2.2.2.2])), (hw0_1, .inl (G.2.1, 30, .inl (va_cpy w1.1 w0.1 (0 : Int32).toNatClampNeg (0 : Int32).toNatClampNeg (30 : Int32).toNatClampNeg))), (hw0_2, .inl (G.2.1, 30, .inl w0.2.1)), (hw0_3, .inl (G.2.1, 30, .inl w0.2.2.1)), (hw0_4, .inl (G.2.1, 30, .inl w0.2.2.2.1)), (hw0_5, .inl (G.2.1, 30, .inl w0.2.2.2.2.1)), (hw0_6, .inl (G.2.1, 64, .inl w0.2.2.2.2.2.1)), (hw1_0, .inr (2, [.ref hw1_1, .ref hw1_2, .ref hw1_3, .ref hw1_4, .ref hw1_5, .ref hw1_6, .int w1.2.2.2.2.2.2.1, .int w1.2.2.2.2.2.2.2.1, .int w1.2.2.2.2.2.2.2.2.1, .int w1.2.2.2.2.2.2.2.2.2.1, .int w1.2.2.2.2.2.2.2.2.2.2])), (hw1_1, .inl (G.2.1, 30, .inl w1.1)), (hw1_2, .inl (G.2.1, 30, .inl w1.2.1)), (hw1_3, .inl (G.2.1, 30, .inl w1.2.2.1)), (hw1_4, .inl (G.2.1, 30, .inl w1.2.2.2.1)), (hw1_5, .inl (G.2.1, 30, .inl w1.2.2.2.2.1)), (hw1_6, .inl (G.2.1, 64, .inl w1.2.2.2.2.2.1))] := hD
  refine lv_aload_n (pc := 55) hx hb dX2_take_55 rfl (lv_at hl 1 rfl) ?_
  refine va_get (pc := 56) (D := G.1) (ci := 2) (v := .ref hw1_2) (C := RX2) (T := TX2) (N := 11) hx hb hts inX2 hown hK.1 hP 7 rfl rfl 1 (by decide) (hts _ wd_64) (fun _ h9 => h9) rfl dX2_take_56 ?_
  refine lv_iconst (pc := 59) (v := (0 : Int32)) hx hb dX2_take_59 (by decide) ?_
  refine lv_aload_n (pc := 60) hx hb dX2_take_60 rfl (lv_at hl 0 rfl) ?_
  refine va_get (pc := 61) (D := G.1) (ci := 2) (v := .ref hw0_2) (C := RX2) (T := TX2) (N := 11) hx hb hts inX2 hown hK.1 hP 0 rfl rfl 1 (by decide) (hts _ wd_64) (fun _ h9 => h9) rfl dX2_take_61 ?_
  refine lv_iconst (pc := 64) (v := (0 : Int32)) hx hb dX2_take_64 (by decide) ?_
  refine lv_bipush (pc := 65) (v := (30 : Int32)) hx hb dX2_take_65 (by decide) ?_
  obtain ⟨⟨hg1, hg2, hg3, hg4, hg5⟩, hf⟩ := gd_some hf
  refine va_copyi (pc := 67) (ty := .int) hx hb (hml.trans hl.1.symm) hown (hts _ wd_268) (hts _ wd_263) (hts _ wd_262) (hts _ wd_16) hK.1 hP hD hS 9 2 0 0 rfl rfl rfl rfl rfl hg1 hg2 hg3 hg4 hg5 (fun _ _ => rfl) (Nat.le_of_ble_eq_true rfl) (by decide +kernel) dX2_take_67 (fun H locs hP hD hS => ?_)
  have hP : va_P G.1 vwCl [(hw0_0, .inr (2, [.ref hw0_1, .ref hw0_2, .ref hw0_3, .ref hw0_4, .ref hw0_5, .ref hw0_6, .int w1.2.2.2.2.2.2.1, .int w1.2.2.2.2.2.2.2.1, .int w1.2.2.2.2.2.2.2.2.1, .int w1.2.2.2.2.2.2.2.2.2.1, .int w1.2.2.2.2.2.2.2.2.2.2])), (hw0_1, .inl (G.2.1, 30, .inl (va_cpy w1.1 w0.1 (0 : Int32).toNatClampNeg (0 : Int32).toNatClampNeg (30 : Int32).toNatClampNeg))), (hw0_2, .inl (G.2.1, 30, .inl (va_cpy w1.2.1 w0.2.1 (0 : Int32).toNatClampNeg (0 : Int32).toNatClampNeg (30 : Int32).toNatClampNeg))), (hw0_3, .inl (G.2.1, 30, .inl w0.2.2.1)), (hw0_4, .inl (G.2.1, 30, .inl w0.2.2.2.1)), (hw0_5, .inl (G.2.1, 30, .inl w0.2.2.2.2.1)), (hw0_6, .inl (G.2.1, 64, .inl w0.2.2.2.2.2.1)), (hw1_0, .inr (2, [.ref hw1_1, .ref hw1_2, .ref hw1_3, .ref hw1_4, .ref hw1_5, .ref hw1_6, .int w1.2.2.2.2.2.2.1, .int w1.2.2.2.2.2.2.2.1, .int w1.2.2.2.2.2.2.2.2.1, .int w1.2.2.2.2.2.2.2.2.2.1, .int w1.2.2.2.2.2.2.2.2.2.2])), (hw1_1, .inl (G.2.1, 30, .inl w1.1)), (hw1_2, .inl (G.2.1, 30, .inl w1.2.1)), (hw1_3, .inl (G.2.1, 30, .inl w1.2.2.1)), (hw1_4, .inl (G.2.1, 30, .inl w1.2.2.2.1)), (hw1_5, .inl (G.2.1, 30, .inl w1.2.2.2.2.1)), (hw1_6, .inl (G.2.1, 64, .inl w1.2.2.2.2.2.1))] H := hP
  have hD : va_D A [(hw0_0, .inr (2, [.ref hw0_1, .ref hw0_2, .ref hw0_3, .ref hw0_4, .ref hw0_5, .ref hw0_6, .int w1.2.2.2.2.2.2.1, .int w1.2.2.2.2.2.2.2.1, .int w1.2.2.2.2.2.2.2.2.1, .int w1.2.2.2.2.2.2.2.2.2.1, .int w1.2.2.2.2.2.2.2.2.2.2])), (hw0_1, .inl (G.2.1, 30, .inl (va_cpy w1.1 w0.1 (0 : Int32).toNatClampNeg (0 : Int32).toNatClampNeg (30 : Int32).toNatClampNeg))), (hw0_2, .inl (G.2.1, 30, .inl (va_cpy w1.2.1 w0.2.1 (0 : Int32).toNatClampNeg (0 : Int32).toNatClampNeg (30 : Int32).toNatClampNeg))), (hw0_3, .inl (G.2.1, 30, .inl w0.2.2.1)), (hw0_4, .inl (G.2.1, 30, .inl w0.2.2.2.1)), (hw0_5, .inl (G.2.1, 30, .inl w0.2.2.2.2.1)), (hw0_6, .inl (G.2.1, 64, .inl w0.2.2.2.2.2.1)), (hw1_0, .inr (2, [.ref hw1_1, .ref hw1_2, .ref hw1_3, .ref hw1_4, .ref hw1_5, .ref hw1_6, .int w1.2.2.2.2.2.2.1, .int w1.2.2.2.2.2.2.2.1, .int w1.2.2.2.2.2.2.2.2.1, .int w1.2.2.2.2.2.2.2.2.2.1, .int w1.2.2.2.2.2.2.2.2.2.2])), (hw1_1, .inl (G.2.1, 30, .inl w1.1)), (hw1_2, .inl (G.2.1, 30, .inl w1.2.1)), (hw1_3, .inl (G.2.1, 30, .inl w1.2.2.1)), (hw1_4, .inl (G.2.1, 30, .inl w1.2.2.2.1)), (hw1_5, .inl (G.2.1, 30, .inl w1.2.2.2.2.1)), (hw1_6, .inl (G.2.1, 64, .inl w1.2.2.2.2.2.1))] := hD
  refine lv_aload_n (pc := 70) hx hb dX2_take_70 rfl (lv_at hl 1 rfl) ?_
  refine va_get (pc := 71) (D := G.1) (ci := 2) (v := .ref hw1_3) (C := RX2) (T := TX2) (N := 11) hx hb hts inX2 hown hK.1 hP 7 rfl rfl 2 (by decide) (hts _ wd_65) (fun _ h9 => h9) rfl dX2_take_71 ?_
  refine lv_iconst (pc := 74) (v := (0 : Int32)) hx hb dX2_take_74 (by decide) ?_
  refine lv_aload_n (pc := 75) hx hb dX2_take_75 rfl (lv_at hl 0 rfl) ?_
  refine va_get (pc := 76) (D := G.1) (ci := 2) (v := .ref hw0_3) (C := RX2) (T := TX2) (N := 11) hx hb hts inX2 hown hK.1 hP 0 rfl rfl 2 (by decide) (hts _ wd_65) (fun _ h9 => h9) rfl dX2_take_76 ?_
  refine lv_iconst (pc := 79) (v := (0 : Int32)) hx hb dX2_take_79 (by decide) ?_
  refine lv_bipush (pc := 80) (v := (30 : Int32)) hx hb dX2_take_80 (by decide) ?_
  obtain ⟨⟨hg1, hg2, hg3, hg4, hg5⟩, hf⟩ := gd_some hf
  refine va_copyi (pc := 82) (ty := .int) hx hb (hml.trans hl.1.symm) hown (hts _ wd_268) (hts _ wd_263) (hts _ wd_262) (hts _ wd_16) hK.1 hP hD hS 10 3 0 0 rfl rfl rfl rfl rfl hg1 hg2 hg3 hg4 hg5 (fun _ _ => rfl) (Nat.le_of_ble_eq_true rfl) (by decide +kernel) dX2_take_82 (fun H locs hP hD hS => ?_)
  have hP : va_P G.1 vwCl [(hw0_0, .inr (2, [.ref hw0_1, .ref hw0_2, .ref hw0_3, .ref hw0_4, .ref hw0_5, .ref hw0_6, .int w1.2.2.2.2.2.2.1, .int w1.2.2.2.2.2.2.2.1, .int w1.2.2.2.2.2.2.2.2.1, .int w1.2.2.2.2.2.2.2.2.2.1, .int w1.2.2.2.2.2.2.2.2.2.2])), (hw0_1, .inl (G.2.1, 30, .inl (va_cpy w1.1 w0.1 (0 : Int32).toNatClampNeg (0 : Int32).toNatClampNeg (30 : Int32).toNatClampNeg))), (hw0_2, .inl (G.2.1, 30, .inl (va_cpy w1.2.1 w0.2.1 (0 : Int32).toNatClampNeg (0 : Int32).toNatClampNeg (30 : Int32).toNatClampNeg))), (hw0_3, .inl (G.2.1, 30, .inl (va_cpy w1.2.2.1 w0.2.2.1 (0 : Int32).toNatClampNeg (0 : Int32).toNatClampNeg (30 : Int32).toNatClampNeg))), (hw0_4, .inl (G.2.1, 30, .inl w0.2.2.2.1)), (hw0_5, .inl (G.2.1, 30, .inl w0.2.2.2.2.1)), (hw0_6, .inl (G.2.1, 64, .inl w0.2.2.2.2.2.1)), (hw1_0, .inr (2, [.ref hw1_1, .ref hw1_2, .ref hw1_3, .ref hw1_4, .ref hw1_5, .ref hw1_6, .int w1.2.2.2.2.2.2.1, .int w1.2.2.2.2.2.2.2.1, .int w1.2.2.2.2.2.2.2.2.1, .int w1.2.2.2.2.2.2.2.2.2.1, .int w1.2.2.2.2.2.2.2.2.2.2])), (hw1_1, .inl (G.2.1, 30, .inl w1.1)), (hw1_2, .inl (G.2.1, 30, .inl w1.2.1)), (hw1_3, .inl (G.2.1, 30, .inl w1.2.2.1)), (hw1_4, .inl (G.2.1, 30, .inl w1.2.2.2.1)), (hw1_5, .inl (G.2.1, 30, .inl w1.2.2.2.2.1)), (hw1_6, .inl (G.2.1, 64, .inl w1.2.2.2.2.2.1))] H := hP
  have hD : va_D A [(hw0_0, .inr (2, [.ref hw0_1, .ref hw0_2, .ref hw0_3, .ref hw0_4, .ref hw0_5, .ref hw0_6, .int w1.2.2.2.2.2.2.1, .int w1.2.2.2.2.2.2.2.1, .int w1.2.2.2.2.2.2.2.2.1, .int w1.2.2.2.2.2.2.2.2.2.1, .int w1.2.2.2.2.2.2.2.2.2.2])), (hw0_1, .inl (G.2.1, 30, .inl (va_cpy w1.1 w0.1 (0 : Int32).toNatClampNeg (0 : Int32).toNatClampNeg (30 : Int32).toNatClampNeg))), (hw0_2, .inl (G.2.1, 30, .inl (va_cpy w1.2.1 w0.2.1 (0 : Int32).toNatClampNeg (0 : Int32).toNatClampNeg (30 : Int32).toNatClampNeg))), (hw0_3, .inl (G.2.1, 30, .inl (va_cpy w1.2.2.1 w0.2.2.1 (0 : Int32).toNatClampNeg (0 : Int32).toNatClampNeg (30 : Int32).toNatClampNeg))), (hw0_4, .inl (G.2.1, 30, .inl w0.2.2.2.1)), (hw0_5, .inl (G.2.1, 30, .inl w0.2.2.2.2.1)), (hw0_6, .inl (G.2.1, 64, .inl w0.2.2.2.2.2.1)), (hw1_0, .inr (2, [.ref hw1_1, .ref hw1_2, .ref hw1_3, .ref hw1_4, .ref hw1_5, .ref hw1_6, .int w1.2.2.2.2.2.2.1, .int w1.2.2.2.2.2.2.2.1, .int w1.2.2.2.2.2.2.2.2.1, .int w1.2.2.2.2.2.2.2.2.2.1, .int w1.2.2.2.2.2.2.2.2.2.2])), (hw1_1, .inl (G.2.1, 30, .inl w1.1)), (hw1_2, .inl (G.2.1, 30, .inl w1.2.1)), (hw1_3, .inl (G.2.1, 30, .inl w1.2.2.1)), (hw1_4, .inl (G.2.1, 30, .inl w1.2.2.2.1)), (hw1_5, .inl (G.2.1, 30, .inl w1.2.2.2.2.1)), (hw1_6, .inl (G.2.1, 64, .inl w1.2.2.2.2.2.1))] := hD
  refine lv_aload_n (pc := 85) hx hb dX2_take_85 rfl (lv_at hl 1 rfl) ?_
  refine va_get (pc := 86) (D := G.1) (ci := 2) (v := .ref hw1_4) (C := RX2) (T := TX2) (N := 11) hx hb hts inX2 hown hK.1 hP 7 rfl rfl 3 (by decide) (hts _ wd_66) (fun _ h9 => h9) rfl dX2_take_86 ?_
  refine lv_iconst (pc := 89) (v := (0 : Int32)) hx hb dX2_take_89 (by decide) ?_
  refine lv_aload_n (pc := 90) hx hb dX2_take_90 rfl (lv_at hl 0 rfl) ?_
  refine va_get (pc := 91) (D := G.1) (ci := 2) (v := .ref hw0_4) (C := RX2) (T := TX2) (N := 11) hx hb hts inX2 hown hK.1 hP 0 rfl rfl 3 (by decide) (hts _ wd_66) (fun _ h9 => h9) rfl dX2_take_91 ?_
  refine lv_iconst (pc := 94) (v := (0 : Int32)) hx hb dX2_take_94 (by decide) ?_
  refine lv_bipush (pc := 95) (v := (30 : Int32)) hx hb dX2_take_95 (by decide) ?_
  obtain ⟨⟨hg1, hg2, hg3, hg4, hg5⟩, hf⟩ := gd_some hf
  refine va_copyi (pc := 97) (ty := .int) hx hb (hml.trans hl.1.symm) hown (hts _ wd_268) (hts _ wd_263) (hts _ wd_262) (hts _ wd_16) hK.1 hP hD hS 11 4 0 0 rfl rfl rfl rfl rfl hg1 hg2 hg3 hg4 hg5 (fun _ _ => rfl) (Nat.le_of_ble_eq_true rfl) (by decide +kernel) dX2_take_97 (fun H locs hP hD hS => ?_)
  have hP : va_P G.1 vwCl [(hw0_0, .inr (2, [.ref hw0_1, .ref hw0_2, .ref hw0_3, .ref hw0_4, .ref hw0_5, .ref hw0_6, .int w1.2.2.2.2.2.2.1, .int w1.2.2.2.2.2.2.2.1, .int w1.2.2.2.2.2.2.2.2.1, .int w1.2.2.2.2.2.2.2.2.2.1, .int w1.2.2.2.2.2.2.2.2.2.2])), (hw0_1, .inl (G.2.1, 30, .inl (va_cpy w1.1 w0.1 (0 : Int32).toNatClampNeg (0 : Int32).toNatClampNeg (30 : Int32).toNatClampNeg))), (hw0_2, .inl (G.2.1, 30, .inl (va_cpy w1.2.1 w0.2.1 (0 : Int32).toNatClampNeg (0 : Int32).toNatClampNeg (30 : Int32).toNatClampNeg))), (hw0_3, .inl (G.2.1, 30, .inl (va_cpy w1.2.2.1 w0.2.2.1 (0 : Int32).toNatClampNeg (0 : Int32).toNatClampNeg (30 : Int32).toNatClampNeg))), (hw0_4, .inl (G.2.1, 30, .inl (va_cpy w1.2.2.2.1 w0.2.2.2.1 (0 : Int32).toNatClampNeg (0 : Int32).toNatClampNeg (30 : Int32).toNatClampNeg))), (hw0_5, .inl (G.2.1, 30, .inl w0.2.2.2.2.1)), (hw0_6, .inl (G.2.1, 64, .inl w0.2.2.2.2.2.1)), (hw1_0, .inr (2, [.ref hw1_1, .ref hw1_2, .ref hw1_3, .ref hw1_4, .ref hw1_5, .ref hw1_6, .int w1.2.2.2.2.2.2.1, .int w1.2.2.2.2.2.2.2.1, .int w1.2.2.2.2.2.2.2.2.1, .int w1.2.2.2.2.2.2.2.2.2.1, .int w1.2.2.2.2.2.2.2.2.2.2])), (hw1_1, .inl (G.2.1, 30, .inl w1.1)), (hw1_2, .inl (G.2.1, 30, .inl w1.2.1)), (hw1_3, .inl (G.2.1, 30, .inl w1.2.2.1)), (hw1_4, .inl (G.2.1, 30, .inl w1.2.2.2.1)), (hw1_5, .inl (G.2.1, 30, .inl w1.2.2.2.2.1)), (hw1_6, .inl (G.2.1, 64, .inl w1.2.2.2.2.2.1))] H := hP
  have hD : va_D A [(hw0_0, .inr (2, [.ref hw0_1, .ref hw0_2, .ref hw0_3, .ref hw0_4, .ref hw0_5, .ref hw0_6, .int w1.2.2.2.2.2.2.1, .int w1.2.2.2.2.2.2.2.1, .int w1.2.2.2.2.2.2.2.2.1, .int w1.2.2.2.2.2.2.2.2.2.1, .int w1.2.2.2.2.2.2.2.2.2.2])), (hw0_1, .inl (G.2.1, 30, .inl (va_cpy w1.1 w0.1 (0 : Int32).toNatClampNeg (0 : Int32).toNatClampNeg (30 : Int32).toNatClampNeg))), (hw0_2, .inl (G.2.1, 30, .inl (va_cpy w1.2.1 w0.2.1 (0 : Int32).toNatClampNeg (0 : Int32).toNatClampNeg (30 : Int32).toNatClampNeg))), (hw0_3, .inl (G.2.1, 30, .inl (va_cpy w1.2.2.1 w0.2.2.1 (0 : Int32).toNatClampNeg (0 : Int32).toNatClampNeg (30 : Int32).toNatClampNeg))), (hw0_4, .inl (G.2.1, 30, .inl (va_cpy w1.2.2.2.1 w0.2.2.2.1 (0 : Int32).toNatClampNeg (0 : Int32).toNatClampNeg (30 : Int32).toNatClampNeg))), (hw0_5, .inl (G.2.1, 30, .inl w0.2.2.2.2.1)), (hw0_6, .inl (G.2.1, 64, .inl w0.2.2.2.2.2.1)), (hw1_0, .inr (2, [.ref hw1_1, .ref hw1_2, .ref hw1_3, .ref hw1_4, .ref hw1_5, .ref hw1_6, .int w1.2.2.2.2.2.2.1, .int w1.2.2.2.2.2.2.2.1, .int w1.2.2.2.2.2.2.2.2.1, .int w1.2.2.2.2.2.2.2.2.2.1, .int w1.2.2.2.2.2.2.2.2.2.2])), (hw1_1, .inl (G.2.1, 30, .inl w1.1)), (hw1_2, .inl (G.2.1, 30, .inl w1.2.1)), (hw1_3, .inl (G.2.1, 30, .inl w1.2.2.1)), (hw1_4, .inl (G.2.1, 30, .inl w1.2.2.2.1)), (hw1_5, .inl (G.2.1, 30, .inl w1.2.2.2.2.1)), (hw1_6, .inl (G.2.1, 64, .inl w1.2.2.2.2.2.1))] := hD
  refine lv_aload_n (pc := 100) hx hb dX2_take_100 rfl (lv_at hl 1 rfl) ?_
  refine va_get (pc := 101) (D := G.1) (ci := 2) (v := .ref hw1_5) (C := RX2) (T := TX2) (N := 11) hx hb hts inX2 hown hK.1 hP 7 rfl rfl 4 (by decide) (hts _ wd_67) (fun _ h9 => h9) rfl dX2_take_101 ?_
  refine lv_iconst (pc := 104) (v := (0 : Int32)) hx hb dX2_take_104 (by decide) ?_
  refine lv_aload_n (pc := 105) hx hb dX2_take_105 rfl (lv_at hl 0 rfl) ?_
  refine va_get (pc := 106) (D := G.1) (ci := 2) (v := .ref hw0_5) (C := RX2) (T := TX2) (N := 11) hx hb hts inX2 hown hK.1 hP 0 rfl rfl 4 (by decide) (hts _ wd_67) (fun _ h9 => h9) rfl dX2_take_106 ?_
  refine lv_iconst (pc := 109) (v := (0 : Int32)) hx hb dX2_take_109 (by decide) ?_
  refine lv_bipush (pc := 110) (v := (30 : Int32)) hx hb dX2_take_110 (by decide) ?_
  obtain ⟨⟨hg1, hg2, hg3, hg4, hg5⟩, hf⟩ := gd_some hf
  refine va_copyi (pc := 112) (ty := .int) hx hb (hml.trans hl.1.symm) hown (hts _ wd_268) (hts _ wd_263) (hts _ wd_262) (hts _ wd_16) hK.1 hP hD hS 12 5 0 0 rfl rfl rfl rfl rfl hg1 hg2 hg3 hg4 hg5 (fun _ _ => rfl) (Nat.le_of_ble_eq_true rfl) (by decide +kernel) dX2_take_112 (fun H locs hP hD hS => ?_)
  have hP : va_P G.1 vwCl [(hw0_0, .inr (2, [.ref hw0_1, .ref hw0_2, .ref hw0_3, .ref hw0_4, .ref hw0_5, .ref hw0_6, .int w1.2.2.2.2.2.2.1, .int w1.2.2.2.2.2.2.2.1, .int w1.2.2.2.2.2.2.2.2.1, .int w1.2.2.2.2.2.2.2.2.2.1, .int w1.2.2.2.2.2.2.2.2.2.2])), (hw0_1, .inl (G.2.1, 30, .inl (va_cpy w1.1 w0.1 (0 : Int32).toNatClampNeg (0 : Int32).toNatClampNeg (30 : Int32).toNatClampNeg))), (hw0_2, .inl (G.2.1, 30, .inl (va_cpy w1.2.1 w0.2.1 (0 : Int32).toNatClampNeg (0 : Int32).toNatClampNeg (30 : Int32).toNatClampNeg))), (hw0_3, .inl (G.2.1, 30, .inl (va_cpy w1.2.2.1 w0.2.2.1 (0 : Int32).toNatClampNeg (0 : Int32).toNatClampNeg (30 : Int32).toNatClampNeg))), (hw0_4, .inl (G.2.1, 30, .inl (va_cpy w1.2.2.2.1 w0.2.2.2.1 (0 : Int32).toNatClampNeg (0 : Int32).toNatClampNeg (30 : Int32).toNatClampNeg))), (hw0_5, .inl (G.2.1, 30, .inl (va_cpy w1.2.2.2.2.1 w0.2.2.2.2.1 (0 : Int32).toNatClampNeg (0 : Int32).toNatClampNeg (30 : Int32).toNatClampNeg))), (hw0_6, .inl (G.2.1, 64, .inl w0.2.2.2.2.2.1)), (hw1_0, .inr (2, [.ref hw1_1, .ref hw1_2, .ref hw1_3, .ref hw1_4, .ref hw1_5, .ref hw1_6, .int w1.2.2.2.2.2.2.1, .int w1.2.2.2.2.2.2.2.1, .int w1.2.2.2.2.2.2.2.2.1, .int w1.2.2.2.2.2.2.2.2.2.1, .int w1.2.2.2.2.2.2.2.2.2.2])), (hw1_1, .inl (G.2.1, 30, .inl w1.1)), (hw1_2, .inl (G.2.1, 30, .inl w1.2.1)), (hw1_3, .inl (G.2.1, 30, .inl w1.2.2.1)), (hw1_4, .inl (G.2.1, 30, .inl w1.2.2.2.1)), (hw1_5, .inl (G.2.1, 30, .inl w1.2.2.2.2.1)), (hw1_6, .inl (G.2.1, 64, .inl w1.2.2.2.2.2.1))] H := hP
  have hD : va_D A [(hw0_0, .inr (2, [.ref hw0_1, .ref hw0_2, .ref hw0_3, .ref hw0_4, .ref hw0_5, .ref hw0_6, .int w1.2.2.2.2.2.2.1, .int w1.2.2.2.2.2.2.2.1, .int w1.2.2.2.2.2.2.2.2.1, .int w1.2.2.2.2.2.2.2.2.2.1, .int w1.2.2.2.2.2.2.2.2.2.2])), (hw0_1, .inl (G.2.1, 30, .inl (va_cpy w1.1 w0.1 (0 : Int32).toNatClampNeg (0 : Int32).toNatClampNeg (30 : Int32).toNatClampNeg))), (hw0_2, .inl (G.2.1, 30, .inl (va_cpy w1.2.1 w0.2.1 (0 : Int32).toNatClampNeg (0 : Int32).toNatClampNeg (30 : Int32).toNatClampNeg))), (hw0_3, .inl (G.2.1, 30, .inl (va_cpy w1.2.2.1 w0.2.2.1 (0 : Int32).toNatClampNeg (0 : Int32).toNatClampNeg (30 : Int32).toNatClampNeg))), (hw0_4, .inl (G.2.1, 30, .inl (va_cpy w1.2.2.2.1 w0.2.2.2.1 (0 : Int32).toNatClampNeg (0 : Int32).toNatClampNeg (30 : Int32).toNatClampNeg))), (hw0_5, .inl (G.2.1, 30, .inl (va_cpy w1.2.2.2.2.1 w0.2.2.2.2.1 (0 : Int32).toNatClampNeg (0 : Int32).toNatClampNeg (30 : Int32).toNatClampNeg))), (hw0_6, .inl (G.2.1, 64, .inl w0.2.2.2.2.2.1)), (hw1_0, .inr (2, [.ref hw1_1, .ref hw1_2, .ref hw1_3, .ref hw1_4, .ref hw1_5, .ref hw1_6, .int w1.2.2.2.2.2.2.1, .int w1.2.2.2.2.2.2.2.1, .int w1.2.2.2.2.2.2.2.2.1, .int w1.2.2.2.2.2.2.2.2.2.1, .int w1.2.2.2.2.2.2.2.2.2.2])), (hw1_1, .inl (G.2.1, 30, .inl w1.1)), (hw1_2, .inl (G.2.1, 30, .inl w1.2.1)), (hw1_3, .inl (G.2.1, 30, .inl w1.2.2.1)), (hw1_4, .inl (G.2.1, 30, .inl w1.2.2.2.1)), (hw1_5, .inl (G.2.1, 30, .inl w1.2.2.2.2.1)), (hw1_6, .inl (G.2.1, 64, .inl w1.2.2.2.2.2.1))] := hD
  refine lv_aload_n (pc := 115) hx hb dX2_take_115 rfl (lv_at hl 1 rfl) ?_
  refine va_get (pc := 116) (D := G.1) (ci := 2) (v := .ref hw1_6) (C := RX2) (T := TX2) (N := 11) hx hb hts inX2 hown hK.1 hP 7 rfl rfl 5 (by decide) (hts _ wd_68) (fun _ h9 => h9) rfl dX2_take_116 ?_
  refine lv_iconst (pc := 119) (v := (0 : Int32)) hx hb dX2_take_119 (by decide) ?_
  refine lv_aload_n (pc := 120) hx hb dX2_take_120 rfl (lv_at hl 0 rfl) ?_
  refine va_get (pc := 121) (D := G.1) (ci := 2) (v := .ref hw0_6) (C := RX2) (T := TX2) (N := 11) hx hb hts inX2 hown hK.1 hP 0 rfl rfl 5 (by decide) (hts _ wd_68) (fun _ h9 => h9) rfl dX2_take_121 ?_
  refine lv_iconst (pc := 124) (v := (0 : Int32)) hx hb dX2_take_124 (by decide) ?_
  refine lv_bipush (pc := 125) (v := (64 : Int32)) hx hb dX2_take_125 (by decide) ?_
  obtain ⟨⟨hg1, hg2, hg3, hg4, hg5⟩, hf⟩ := gd_some hf
  refine va_copyi (pc := 127) (ty := .int) hx hb (hml.trans hl.1.symm) hown (hts _ wd_268) (hts _ wd_263) (hts _ wd_262) (hts _ wd_16) hK.1 hP hD hS 13 6 0 0 rfl rfl rfl rfl rfl hg1 hg2 hg3 hg4 hg5 (fun _ _ => rfl) (Nat.le_of_ble_eq_true rfl) (by decide +kernel) dX2_take_127 (fun H locs hP hD hS => ?_)
  have hP : va_P G.1 vwCl [(hw0_0, .inr (2, [.ref hw0_1, .ref hw0_2, .ref hw0_3, .ref hw0_4, .ref hw0_5, .ref hw0_6, .int w1.2.2.2.2.2.2.1, .int w1.2.2.2.2.2.2.2.1, .int w1.2.2.2.2.2.2.2.2.1, .int w1.2.2.2.2.2.2.2.2.2.1, .int w1.2.2.2.2.2.2.2.2.2.2])), (hw0_1, .inl (G.2.1, 30, .inl (va_cpy w1.1 w0.1 (0 : Int32).toNatClampNeg (0 : Int32).toNatClampNeg (30 : Int32).toNatClampNeg))), (hw0_2, .inl (G.2.1, 30, .inl (va_cpy w1.2.1 w0.2.1 (0 : Int32).toNatClampNeg (0 : Int32).toNatClampNeg (30 : Int32).toNatClampNeg))), (hw0_3, .inl (G.2.1, 30, .inl (va_cpy w1.2.2.1 w0.2.2.1 (0 : Int32).toNatClampNeg (0 : Int32).toNatClampNeg (30 : Int32).toNatClampNeg))), (hw0_4, .inl (G.2.1, 30, .inl (va_cpy w1.2.2.2.1 w0.2.2.2.1 (0 : Int32).toNatClampNeg (0 : Int32).toNatClampNeg (30 : Int32).toNatClampNeg))), (hw0_5, .inl (G.2.1, 30, .inl (va_cpy w1.2.2.2.2.1 w0.2.2.2.2.1 (0 : Int32).toNatClampNeg (0 : Int32).toNatClampNeg (30 : Int32).toNatClampNeg))), (hw0_6, .inl (G.2.1, 64, .inl (va_cpy w1.2.2.2.2.2.1 w0.2.2.2.2.2.1 (0 : Int32).toNatClampNeg (0 : Int32).toNatClampNeg (64 : Int32).toNatClampNeg))), (hw1_0, .inr (2, [.ref hw1_1, .ref hw1_2, .ref hw1_3, .ref hw1_4, .ref hw1_5, .ref hw1_6, .int w1.2.2.2.2.2.2.1, .int w1.2.2.2.2.2.2.2.1, .int w1.2.2.2.2.2.2.2.2.1, .int w1.2.2.2.2.2.2.2.2.2.1, .int w1.2.2.2.2.2.2.2.2.2.2])), (hw1_1, .inl (G.2.1, 30, .inl w1.1)), (hw1_2, .inl (G.2.1, 30, .inl w1.2.1)), (hw1_3, .inl (G.2.1, 30, .inl w1.2.2.1)), (hw1_4, .inl (G.2.1, 30, .inl w1.2.2.2.1)), (hw1_5, .inl (G.2.1, 30, .inl w1.2.2.2.2.1)), (hw1_6, .inl (G.2.1, 64, .inl w1.2.2.2.2.2.1))] H := hP
  have hD : va_D A [(hw0_0, .inr (2, [.ref hw0_1, .ref hw0_2, .ref hw0_3, .ref hw0_4, .ref hw0_5, .ref hw0_6, .int w1.2.2.2.2.2.2.1, .int w1.2.2.2.2.2.2.2.1, .int w1.2.2.2.2.2.2.2.2.1, .int w1.2.2.2.2.2.2.2.2.2.1, .int w1.2.2.2.2.2.2.2.2.2.2])), (hw0_1, .inl (G.2.1, 30, .inl (va_cpy w1.1 w0.1 (0 : Int32).toNatClampNeg (0 : Int32).toNatClampNeg (30 : Int32).toNatClampNeg))), (hw0_2, .inl (G.2.1, 30, .inl (va_cpy w1.2.1 w0.2.1 (0 : Int32).toNatClampNeg (0 : Int32).toNatClampNeg (30 : Int32).toNatClampNeg))), (hw0_3, .inl (G.2.1, 30, .inl (va_cpy w1.2.2.1 w0.2.2.1 (0 : Int32).toNatClampNeg (0 : Int32).toNatClampNeg (30 : Int32).toNatClampNeg))), (hw0_4, .inl (G.2.1, 30, .inl (va_cpy w1.2.2.2.1 w0.2.2.2.1 (0 : Int32).toNatClampNeg (0 : Int32).toNatClampNeg (30 : Int32).toNatClampNeg))), (hw0_5, .inl (G.2.1, 30, .inl (va_cpy w1.2.2.2.2.1 w0.2.2.2.2.1 (0 : Int32).toNatClampNeg (0 : Int32).toNatClampNeg (30 : Int32).toNatClampNeg))), (hw0_6, .inl (G.2.1, 64, .inl (va_cpy w1.2.2.2.2.2.1 w0.2.2.2.2.2.1 (0 : Int32).toNatClampNeg (0 : Int32).toNatClampNeg (64 : Int32).toNatClampNeg))), (hw1_0, .inr (2, [.ref hw1_1, .ref hw1_2, .ref hw1_3, .ref hw1_4, .ref hw1_5, .ref hw1_6, .int w1.2.2.2.2.2.2.1, .int w1.2.2.2.2.2.2.2.1, .int w1.2.2.2.2.2.2.2.2.1, .int w1.2.2.2.2.2.2.2.2.2.1, .int w1.2.2.2.2.2.2.2.2.2.2])), (hw1_1, .inl (G.2.1, 30, .inl w1.1)), (hw1_2, .inl (G.2.1, 30, .inl w1.2.1)), (hw1_3, .inl (G.2.1, 30, .inl w1.2.2.1)), (hw1_4, .inl (G.2.1, 30, .inl w1.2.2.2.1)), (hw1_5, .inl (G.2.1, 30, .inl w1.2.2.2.2.1)), (hw1_6, .inl (G.2.1, 64, .inl w1.2.2.2.2.2.1))] := hD
  have hf := Option.some.inj hf; subst hf
  rw [← hQ]
  exact g_vret hx hb hr hlocks hP hS dX2_take_130
theorem hd_X2_mixCommandInto : yX2_mixCommandInto.cls ≠ "java/lang/invoke/MethodHandle" ∧ yX2_mixCommandInto.cls ≠ "java/lang/invoke/VarHandle" ∧ (parseMethodDescriptor yX2_mixCommandInto.desc).map (fun d => d.parameters.length) = some 2 := by decide +kernel
abbrev rm_X2_mixCommandInto : Room := { frames := 3, cells := 0, slots := 0, locals := 64 }
noncomputable def f_X2_mixCommandInto_L44 (w0 : TDelta) (p1 : Int64) (p2 : Int32)  : Nat → Int32 → Int64 → Option Int64
  | 0, _, _ => none
  | k44 + 1, v6, v4 =>
    (f_X2_lengthOf w0 p2).bind (fun x2 => br (x2 ≤ v6) (some v4) ((f_X2_targetOf w0 p2).bind (fun x3 => (f_X2_addedAt w0 (x3 + v6)).bind (fun x4 => (f_X10_mix v4 x4.toInt64).bind (fun x5 => f_X2_mixCommandInto_L44 w0 p1 p2  k44 (v6 + (1 : Int32)) x5)))))
noncomputable def f_X2_mixCommandInto_L6 (w0 : TDelta) (p1 : Int64) (p2 : Int32)  : Nat → Int32 → Int64 → Option Int64
  | 0, _, _ => none
  | k6 + 1, v6, v4 =>
    br ((3 : Int32) < v6) ((f_X2_isCopy w0 p2).bind (fun x1 => br (x1 = 0) (f_X2_mixCommandInto_L44 w0 p1 p2 FUEL (0 : Int32) v4) (some v4))) ((f_X2_describe w0 p2 v6).bind (fun x6 => (f_X10_mix v4 x6.toInt64).bind (fun x7 => f_X2_mixCommandInto_L6 w0 p1 p2  k6 (v6 + (1 : Int32)) x7)))
noncomputable def f_X2_mixCommandInto (w0 : TDelta) (p1 : Int64) (p2 : Int32) : Option Int64 :=
  f_X2_mixCommandInto_L6 w0 p1 p2 FUEL (0 : Int32) p1
set_option maxHeartbeats 4000000 in
set_option maxRecDepth 100000 in
theorem c_X2_mixCommandInto (l : Launch) (G : GT) (hw0_0 hw0_1 hw0_2 hw0_3 hw0_4 hw0_5 hw0_6 : Nat) (w0 : TDelta) (p1 : Int64) (p2 : Int32) {r : Int64} (hf : f_X2_mixCommandInto w0 p1 p2 = some r) : Ct l yX2_mixCommandInto (Cond.code yX2_mixCommandInto cX2_mixCommandInto 7 (some .long) :: lw_g) rm_X2_mixCommandInto G [.ref hw0_0, .long p1, .int p2] [(hw0_0, .inr (2, [.ref hw0_1, .ref hw0_2, .ref hw0_3, .ref hw0_4, .ref hw0_5, .ref hw0_6, .int w0.2.2.2.2.2.2.1, .int w0.2.2.2.2.2.2.2.1, .int w0.2.2.2.2.2.2.2.2.1, .int w0.2.2.2.2.2.2.2.2.2.1, .int w0.2.2.2.2.2.2.2.2.2.2])), (hw0_1, .inl (G.2.1, 30, .inl w0.1)), (hw0_2, .inl (G.2.1, 30, .inl w0.2.1)), (hw0_3, .inl (G.2.1, 30, .inl w0.2.2.1)), (hw0_4, .inl (G.2.1, 30, .inl w0.2.2.2.1)), (hw0_5, .inl (G.2.1, 30, .inl w0.2.2.2.2.1)), (hw0_6, .inl (G.2.1, 64, .inl w0.2.2.2.2.2.1))] (some (.long r)) [(hw0_0, .inr (2, [.ref hw0_1, .ref hw0_2, .ref hw0_3, .ref hw0_4, .ref hw0_5, .ref hw0_6, .int w0.2.2.2.2.2.2.1, .int w0.2.2.2.2.2.2.2.1, .int w0.2.2.2.2.2.2.2.2.1, .int w0.2.2.2.2.2.2.2.2.2.1, .int w0.2.2.2.2.2.2.2.2.2.2])), (hw0_1, .inl (G.2.1, 30, .inl w0.1)), (hw0_2, .inl (G.2.1, 30, .inl w0.2.1)), (hw0_3, .inl (G.2.1, 30, .inl w0.2.2.1)), (hw0_4, .inl (G.2.1, 30, .inl w0.2.2.2.1)), (hw0_5, .inl (G.2.1, 30, .inl w0.2.2.2.2.1)), (hw0_6, .inl (G.2.1, 64, .inl w0.2.2.2.2.2.1))] := by
  refine Ct.ofW (cc := cX2_mixCommandInto) (maxL := 7) (ret := (some .long)) (own := RX2) (by decide) rfl rfl (Nat.le_of_ble_eq_true rfl) ?_
  intro p e s m args below meth c A hx hb hr hml hts hown hlocks hK hP hD hA hS ls hl
  have hl : lv_has ls 7 [(0, .ref hw0_0), (1, .long p1), (3, .int p2)] := hl
  generalize hQ : gMQ below G _ _ A args s = Q
  generalize hH : s.heap = H at hP ⊢
  have hS : va_S A s.heap H [] := by rw [← hH]; exact hS
  generalize ([] : List Loc) = locs at hS ⊢
  unfold f_X2_mixCommandInto at hf
  have hL44 : ∀ (k44 : Nat) (v6 : Int32) (v4 : Int64), f_X2_mixCommandInto_L44 w0 p1 p2  k44 v6 v4 = some r → ∀ (H : Heap) (locs : List Loc), va_P G.1 vwCl [(hw0_0, .inr (2, [.ref hw0_1, .ref hw0_2, .ref hw0_3, .ref hw0_4, .ref hw0_5, .ref hw0_6, .int w0.2.2.2.2.2.2.1, .int w0.2.2.2.2.2.2.2.1, .int w0.2.2.2.2.2.2.2.2.1, .int w0.2.2.2.2.2.2.2.2.2.1, .int w0.2.2.2.2.2.2.2.2.2.2])), (hw0_1, .inl (G.2.1, 30, .inl w0.1)), (hw0_2, .inl (G.2.1, 30, .inl w0.2.1)), (hw0_3, .inl (G.2.1, 30, .inl w0.2.2.1)), (hw0_4, .inl (G.2.1, 30, .inl w0.2.2.2.1)), (hw0_5, .inl (G.2.1, 30, .inl w0.2.2.2.2.1)), (hw0_6, .inl (G.2.1, 64, .inl w0.2.2.2.2.2.1))] H → va_D A [(hw0_0, .inr (2, [.ref hw0_1, .ref hw0_2, .ref hw0_3, .ref hw0_4, .ref hw0_5, .ref hw0_6, .int w0.2.2.2.2.2.2.1, .int w0.2.2.2.2.2.2.2.1, .int w0.2.2.2.2.2.2.2.2.1, .int w0.2.2.2.2.2.2.2.2.2.1, .int w0.2.2.2.2.2.2.2.2.2.2])), (hw0_1, .inl (G.2.1, 30, .inl w0.1)), (hw0_2, .inl (G.2.1, 30, .inl w0.2.1)), (hw0_3, .inl (G.2.1, 30, .inl w0.2.2.1)), (hw0_4, .inl (G.2.1, 30, .inl w0.2.2.2.1)), (hw0_5, .inl (G.2.1, 30, .inl w0.2.2.2.2.1)), (hw0_6, .inl (G.2.1, 64, .inl w0.2.2.2.2.2.1))] → va_S A s.heap H locs → ∀ (ls : Array Slot), lv_has ls 7 [(6, .int v6), (4, .long v4), (0, .ref hw0_0), (3, .int p2)] → W p l e (rm_X2_mixCommandInto) s m args below meth c H locs 0 0 Q (F0 m 44 ls []) := by
    intro k44
    induction k44 with
    | zero =>
      intro v6 v4 hf
      rw [f_X2_mixCommandInto_L44.eq_1] at hf; cases hf
    | succ k44 ih44 =>
      intro v6 v4 hf H locs hP hD hS ls hl
      rw [f_X2_mixCommandInto_L44.eq_2] at hf
      refine lv_iload (pc := 44) hx hb dX2_mixCommandInto_44 (lv_at hl 0 rfl) ?_
      refine lv_aload_n (pc := 46) hx hb dX2_mixCommandInto_46 rfl (lv_at hl 2 rfl) ?_
      refine lv_iload_n (pc := 47) hx hb dX2_mixCommandInto_47 rfl (lv_at hl 3 rfl) ?_
      obtain ⟨x2, hcx2, hf⟩ := bn_some hf
      refine g_callV0 (pc := 48) (rest := [.int v6]) hx hb hml hown hts hK (c_X2_lengthOf l G hw0_0 hw0_1 hw0_2 hw0_3 hw0_4 hw0_5 hw0_6 w0 p2 hcx2) wd_349 wd_5 wd_346 wd_347 wd_348 hd_X2_lengthOf ⟨rfl, rfl, Nat.le_of_ble_eq_true rfl, Nat.le_of_ble_eq_true rfl⟩ hP hD hS hA [0, 1, 2, 3, 4, 5, 6] rfl rfl 2 0 rfl rfl rfl rfl hl.1 rfl (Nat.le_of_ble_eq_true rfl) dX2_mixCommandInto_48 ⟨Nat.zero_le _, Nat.zero_le _⟩ (fun H locs hP hS => ?_)
      refine lv_icmp_ge (pc := 51) (tgt := 80) hx hb dX2_mixCommandInto_51 (by decide) (fun hc => ?_) (fun hc => ?_)
      · have hf := br_y hc hf
        refine lv_lload (pc := 80) hx hb dX2_mixCommandInto_80 (lv_at hl 1 rfl) ?_
        have hf := Option.some.inj hf; subst hf
        rw [← hQ]
        exact g_lret hx hb hr hlocks hP hS dX2_mixCommandInto_82
      · have hf := br_n hc hf
        refine lv_lload (pc := 54) hx hb dX2_mixCommandInto_54 (lv_at hl 1 rfl) ?_
        refine lv_aload_n (pc := 56) hx hb dX2_mixCommandInto_56 rfl (lv_at hl 2 rfl) ?_
        refine lv_aload_n (pc := 57) hx hb dX2_mixCommandInto_57 rfl (lv_at hl 2 rfl) ?_
        refine lv_iload_n (pc := 58) hx hb dX2_mixCommandInto_58 rfl (lv_at hl 3 rfl) ?_
        obtain ⟨x3, hcx3, hf⟩ := bn_some hf
        refine g_callV0 (pc := 59) (rest := [.ref hw0_0, .long v4]) hx hb hml hown hts hK (c_X2_targetOf l G hw0_0 hw0_1 hw0_2 hw0_3 hw0_4 hw0_5 hw0_6 w0 p2 hcx3) wd_353 wd_5 wd_350 wd_351 wd_352 hd_X2_targetOf ⟨rfl, rfl, Nat.le_of_ble_eq_true rfl, Nat.le_of_ble_eq_true rfl⟩ hP hD hS hA [0, 1, 2, 3, 4, 5, 6] rfl rfl 2 0 rfl rfl rfl rfl hl.1 rfl (Nat.le_of_ble_eq_true rfl) dX2_mixCommandInto_59 ⟨Nat.zero_le _, Nat.zero_le _⟩ (fun H locs hP hS => ?_)
        refine lv_iload (pc := 62) hx hb dX2_mixCommandInto_62 (lv_at hl 0 rfl) ?_
        refine lv_iadd (pc := 64) hx hb dX2_mixCommandInto_64 ?_
        obtain ⟨x4, hcx4, hf⟩ := bn_some hf
        refine g_callV0 (pc := 65) (rest := [.long v4]) hx hb hml hown hts hK (c_X2_addedAt l G hw0_0 hw0_1 hw0_2 hw0_3 hw0_4 hw0_5 hw0_6 w0 (x3 + v6) hcx4) wd_472 wd_5 wd_469 wd_470 wd_471 hd_X2_addedAt ⟨rfl, rfl, Nat.le_of_ble_eq_true rfl, Nat.le_of_ble_eq_true rfl⟩ hP hD hS hA [0, 1, 2, 3, 4, 5, 6] rfl rfl 2 0 rfl rfl rfl rfl hl.1 rfl (Nat.le_of_ble_eq_true rfl) dX2_mixCommandInto_65 ⟨Nat.zero_le _, Nat.zero_le _⟩ (fun H locs hP hS => ?_)
        refine lv_i2l (pc := 68) (v := x4.toInt64) hx hb dX2_mixCommandInto_68 rfl ?_
        obtain ⟨x5, hcx5, hf⟩ := bn_some hf
        refine g_callSN0 (pc := 69) (rest := []) hx hb hml hown hts hK (c_X10_mix l G  v4 x4.toInt64 hcx5) wd_454 wd_1 (nmw_460 hK) wd_453 hd_X10_mix ⟨rfl, rfl, Nat.le_of_ble_eq_true rfl, Nat.le_of_ble_eq_true rfl⟩ hP hD hS hA [] rfl rfl rfl hl.1 rfl (Nat.le_of_ble_eq_true rfl) dX2_mixCommandInto_69 ⟨Nat.zero_le _, Nat.zero_le _⟩ (fun H locs hP hS => ?_)
        refine lv_lstore (pc := 72) (lv' := [(4, .long x5), (6, .int v6), (0, .ref hw0_0), (3, .int p2)]) hx hb dX2_mixCommandInto_72 hl (by decide) rfl (fun ls hl => ?_)
        refine lv_iinc (pc := 74) (v := (v6 + (1 : Int32))) (lv' := [(6, .int (v6 + (1 : Int32))), (4, .long x5), (0, .ref hw0_0), (3, .int p2)]) hx hb dX2_mixCommandInto_74 hl (k := 1) rfl rfl (by decide) rfl (fun ls hl => ?_)
        refine lv_goto (pc := 77) (tgt := 44) hx hb dX2_mixCommandInto_77 (by decide) ?_
        exact ih44 (v6 + (1 : Int32)) x5 hf H locs hP hD hS ls (lv_sub hl [0, 1, 2, 3] rfl)
  have hL6 : ∀ (k6 : Nat) (v6 : Int32) (v4 : Int64), f_X2_mixCommandInto_L6 w0 p1 p2  k6 v6 v4 = some r → ∀ (H : Heap) (locs : List Loc), va_P G.1 vwCl [(hw0_0, .inr (2, [.ref hw0_1, .ref hw0_2, .ref hw0_3, .ref hw0_4, .ref hw0_5, .ref hw0_6, .int w0.2.2.2.2.2.2.1, .int w0.2.2.2.2.2.2.2.1, .int w0.2.2.2.2.2.2.2.2.1, .int w0.2.2.2.2.2.2.2.2.2.1, .int w0.2.2.2.2.2.2.2.2.2.2])), (hw0_1, .inl (G.2.1, 30, .inl w0.1)), (hw0_2, .inl (G.2.1, 30, .inl w0.2.1)), (hw0_3, .inl (G.2.1, 30, .inl w0.2.2.1)), (hw0_4, .inl (G.2.1, 30, .inl w0.2.2.2.1)), (hw0_5, .inl (G.2.1, 30, .inl w0.2.2.2.2.1)), (hw0_6, .inl (G.2.1, 64, .inl w0.2.2.2.2.2.1))] H → va_D A [(hw0_0, .inr (2, [.ref hw0_1, .ref hw0_2, .ref hw0_3, .ref hw0_4, .ref hw0_5, .ref hw0_6, .int w0.2.2.2.2.2.2.1, .int w0.2.2.2.2.2.2.2.1, .int w0.2.2.2.2.2.2.2.2.1, .int w0.2.2.2.2.2.2.2.2.2.1, .int w0.2.2.2.2.2.2.2.2.2.2])), (hw0_1, .inl (G.2.1, 30, .inl w0.1)), (hw0_2, .inl (G.2.1, 30, .inl w0.2.1)), (hw0_3, .inl (G.2.1, 30, .inl w0.2.2.1)), (hw0_4, .inl (G.2.1, 30, .inl w0.2.2.2.1)), (hw0_5, .inl (G.2.1, 30, .inl w0.2.2.2.2.1)), (hw0_6, .inl (G.2.1, 64, .inl w0.2.2.2.2.2.1))] → va_S A s.heap H locs → ∀ (ls : Array Slot), lv_has ls 7 [(6, .int v6), (4, .long v4), (0, .ref hw0_0), (3, .int p2)] → W p l e (rm_X2_mixCommandInto) s m args below meth c H locs 0 0 Q (F0 m 6 ls []) := by
    intro k6
    induction k6 with
    | zero =>
      intro v6 v4 hf
      rw [f_X2_mixCommandInto_L6.eq_1] at hf; cases hf
    | succ k6 ih6 =>
      intro v6 v4 hf H locs hP hD hS ls hl
      rw [f_X2_mixCommandInto_L6.eq_2] at hf
      refine lv_iload (pc := 6) hx hb dX2_mixCommandInto_6 (lv_at hl 0 rfl) ?_
      refine lv_iconst (pc := 8) (v := (3 : Int32)) hx hb dX2_mixCommandInto_8 (by decide) ?_
      refine lv_icmp_gt (pc := 9) (tgt := 33) hx hb dX2_mixCommandInto_9 (by decide) (fun hc => ?_) (fun hc => ?_)
      · have hf := br_y hc hf
        refine lv_aload_n (pc := 33) hx hb dX2_mixCommandInto_33 rfl (lv_at hl 2 rfl) ?_
        refine lv_iload_n (pc := 34) hx hb dX2_mixCommandInto_34 rfl (lv_at hl 3 rfl) ?_
        obtain ⟨x1, hcx1, hf⟩ := bn_some hf
        refine g_callV0 (pc := 35) (rest := []) hx hb hml hown hts hK (c_X2_isCopy l G hw0_0 hw0_1 hw0_2 hw0_3 hw0_4 hw0_5 hw0_6 w0 p2 hcx1) wd_330 wd_5 wd_327 wd_328 wd_329 hd_X2_isCopy ⟨rfl, rfl, Nat.le_of_ble_eq_true rfl, Nat.le_of_ble_eq_true rfl⟩ hP hD hS hA [0, 1, 2, 3, 4, 5, 6] rfl rfl 2 0 rfl rfl rfl rfl hl.1 rfl (Nat.le_of_ble_eq_true rfl) dX2_mixCommandInto_35 ⟨Nat.zero_le _, Nat.zero_le _⟩ (fun H locs hP hS => ?_)
        refine lv_if_ne (pc := 38) (tgt := 80) hx hb dX2_mixCommandInto_38 (by decide) (fun hc => ?_) (fun hc => ?_)
        · have hf := br_n hc hf
          refine lv_lload (pc := 80) hx hb dX2_mixCommandInto_80 (lv_at hl 1 rfl) ?_
          have hf := Option.some.inj hf; subst hf
          rw [← hQ]
          exact g_lret hx hb hr hlocks hP hS dX2_mixCommandInto_82
        · have hf := br_y hc hf
          refine lv_iconst (pc := 41) (v := (0 : Int32)) hx hb dX2_mixCommandInto_41 (by decide) ?_
          refine lv_istore (pc := 42) (lv' := [(6, .int (0 : Int32)), (4, .long v4), (0, .ref hw0_0), (3, .int p2)]) hx hb dX2_mixCommandInto_42 hl (by decide) rfl (fun ls hl => ?_)
          exact hL44 FUEL (0 : Int32) v4 hf H locs hP hD hS ls (lv_sub hl [0, 1, 2, 3] rfl)
      · have hf := br_n hc hf
        refine lv_lload (pc := 12) hx hb dX2_mixCommandInto_12 (lv_at hl 1 rfl) ?_
        refine lv_aload_n (pc := 14) hx hb dX2_mixCommandInto_14 rfl (lv_at hl 2 rfl) ?_
        refine lv_iload_n (pc := 15) hx hb dX2_mixCommandInto_15 rfl (lv_at hl 3 rfl) ?_
        refine lv_iload (pc := 16) hx hb dX2_mixCommandInto_16 (lv_at hl 0 rfl) ?_
        obtain ⟨x6, hcx6, hf⟩ := bn_some hf
        refine g_callV0 (pc := 18) (rest := [.long v4]) hx hb hml hown hts hK (c_X2_describe l G hw0_0 hw0_1 hw0_2 hw0_3 hw0_4 hw0_5 hw0_6 w0 p2 v6 hcx6) wd_468 wd_5 wd_465 wd_466 wd_467 hd_X2_describe ⟨rfl, rfl, Nat.le_of_ble_eq_true rfl, Nat.le_of_ble_eq_true rfl⟩ hP hD hS hA [0, 1, 2, 3, 4, 5, 6] rfl rfl 2 0 rfl rfl rfl rfl hl.1 rfl (Nat.le_of_ble_eq_true rfl) dX2_mixCommandInto_18 ⟨Nat.zero_le _, Nat.zero_le _⟩ (fun H locs hP hS => ?_)
        refine lv_i2l (pc := 21) (v := x6.toInt64) hx hb dX2_mixCommandInto_21 rfl ?_
        obtain ⟨x7, hcx7, hf⟩ := bn_some hf
        refine g_callSN0 (pc := 22) (rest := []) hx hb hml hown hts hK (c_X10_mix l G  v4 x6.toInt64 hcx7) wd_454 wd_1 (nmw_460 hK) wd_453 hd_X10_mix ⟨rfl, rfl, Nat.le_of_ble_eq_true rfl, Nat.le_of_ble_eq_true rfl⟩ hP hD hS hA [] rfl rfl rfl hl.1 rfl (Nat.le_of_ble_eq_true rfl) dX2_mixCommandInto_22 ⟨Nat.zero_le _, Nat.zero_le _⟩ (fun H locs hP hS => ?_)
        refine lv_lstore (pc := 25) (lv' := [(4, .long x7), (6, .int v6), (0, .ref hw0_0), (3, .int p2)]) hx hb dX2_mixCommandInto_25 hl (by decide) rfl (fun ls hl => ?_)
        refine lv_iinc (pc := 27) (v := (v6 + (1 : Int32))) (lv' := [(6, .int (v6 + (1 : Int32))), (4, .long x7), (0, .ref hw0_0), (3, .int p2)]) hx hb dX2_mixCommandInto_27 hl (k := 1) rfl rfl (by decide) rfl (fun ls hl => ?_)
        refine lv_goto (pc := 30) (tgt := 6) hx hb dX2_mixCommandInto_30 (by decide) ?_
        exact ih6 (v6 + (1 : Int32)) x7 hf H locs hP hD hS ls (lv_sub hl [0, 1, 2, 3] rfl)
  refine lv_lload_n (pc := 0) hx hb dX2_mixCommandInto_0 rfl (lv_at hl 1 rfl) ?_
  refine lv_lstore (pc := 1) (lv' := [(4, .long p1), (0, .ref hw0_0), (1, .long p1), (3, .int p2)]) hx hb dX2_mixCommandInto_1 hl (by decide) rfl (fun ls hl => ?_)
  refine lv_iconst (pc := 3) (v := (0 : Int32)) hx hb dX2_mixCommandInto_3 (by decide) ?_
  refine lv_istore (pc := 4) (lv' := [(6, .int (0 : Int32)), (4, .long p1), (0, .ref hw0_0), (1, .long p1), (3, .int p2)]) hx hb dX2_mixCommandInto_4 hl (by decide) rfl (fun ls hl => ?_)
  exact hL6 FUEL (0 : Int32) p1 hf H locs hP hD hS ls (lv_sub hl [0, 1, 2, 4] rfl)
theorem hd_X2_mixInto : yX2_mixInto.cls ≠ "java/lang/invoke/MethodHandle" ∧ yX2_mixInto.cls ≠ "java/lang/invoke/VarHandle" ∧ (parseMethodDescriptor yX2_mixInto.desc).map (fun d => d.parameters.length) = some 1 := by decide +kernel
abbrev rm_X2_mixInto : Room := { frames := 4, cells := 0, slots := 0, locals := 90 }
noncomputable def f_X2_mixInto_L33 (w0 : TDelta) (p1 : Int64)  : Nat → Int32 → Int64 → Option Int64
  | 0, _, _ => none
  | k33 + 1, v5, v3 =>
    br (w0.2.2.2.2.2.2.2.2.1 ≤ v5) (some v3) ((f_X2_mixCommandInto w0 v3 v5).bind (fun x4 => f_X2_mixInto_L33 w0 p1  k33 (v5 + (1 : Int32)) x4))
noncomputable def f_X2_mixInto (w0 : TDelta) (p1 : Int64) : Option Int64 :=
  (f_X10_mix p1 w0.2.2.2.2.2.2.1.toInt64).bind (fun x1 => (f_X10_mix x1 w0.2.2.2.2.2.2.2.1.toInt64).bind (fun x2 => (f_X10_mix x2 w0.2.2.2.2.2.2.2.2.1.toInt64).bind (fun x3 => f_X2_mixInto_L33 w0 p1 FUEL (0 : Int32) x3)))
set_option maxHeartbeats 4000000 in
set_option maxRecDepth 100000 in
theorem c_X2_mixInto (l : Launch) (G : GT) (hw0_0 hw0_1 hw0_2 hw0_3 hw0_4 hw0_5 hw0_6 : Nat) (w0 : TDelta) (p1 : Int64) {r : Int64} (hf : f_X2_mixInto w0 p1 = some r) : Ct l yX2_mixInto (Cond.code yX2_mixInto cX2_mixInto 6 (some .long) :: lw_g) rm_X2_mixInto G [.ref hw0_0, .long p1] [(hw0_0, .inr (2, [.ref hw0_1, .ref hw0_2, .ref hw0_3, .ref hw0_4, .ref hw0_5, .ref hw0_6, .int w0.2.2.2.2.2.2.1, .int w0.2.2.2.2.2.2.2.1, .int w0.2.2.2.2.2.2.2.2.1, .int w0.2.2.2.2.2.2.2.2.2.1, .int w0.2.2.2.2.2.2.2.2.2.2])), (hw0_1, .inl (G.2.1, 30, .inl w0.1)), (hw0_2, .inl (G.2.1, 30, .inl w0.2.1)), (hw0_3, .inl (G.2.1, 30, .inl w0.2.2.1)), (hw0_4, .inl (G.2.1, 30, .inl w0.2.2.2.1)), (hw0_5, .inl (G.2.1, 30, .inl w0.2.2.2.2.1)), (hw0_6, .inl (G.2.1, 64, .inl w0.2.2.2.2.2.1))] (some (.long r)) [(hw0_0, .inr (2, [.ref hw0_1, .ref hw0_2, .ref hw0_3, .ref hw0_4, .ref hw0_5, .ref hw0_6, .int w0.2.2.2.2.2.2.1, .int w0.2.2.2.2.2.2.2.1, .int w0.2.2.2.2.2.2.2.2.1, .int w0.2.2.2.2.2.2.2.2.2.1, .int w0.2.2.2.2.2.2.2.2.2.2])), (hw0_1, .inl (G.2.1, 30, .inl w0.1)), (hw0_2, .inl (G.2.1, 30, .inl w0.2.1)), (hw0_3, .inl (G.2.1, 30, .inl w0.2.2.1)), (hw0_4, .inl (G.2.1, 30, .inl w0.2.2.2.1)), (hw0_5, .inl (G.2.1, 30, .inl w0.2.2.2.2.1)), (hw0_6, .inl (G.2.1, 64, .inl w0.2.2.2.2.2.1))] := by
  refine Ct.ofW (cc := cX2_mixInto) (maxL := 6) (ret := (some .long)) (own := RX2) (by decide) rfl rfl (Nat.le_of_ble_eq_true rfl) ?_
  intro p e s m args below meth c A hx hb hr hml hts hown hlocks hK hP hD hA hS ls hl
  have hl : lv_has ls 6 [(0, .ref hw0_0), (1, .long p1)] := hl
  generalize hQ : gMQ below G _ _ A args s = Q
  generalize hH : s.heap = H at hP ⊢
  have hS : va_S A s.heap H [] := by rw [← hH]; exact hS
  generalize ([] : List Loc) = locs at hS ⊢
  unfold f_X2_mixInto at hf
  have hL33 : ∀ (k33 : Nat) (v5 : Int32) (v3 : Int64), f_X2_mixInto_L33 w0 p1  k33 v5 v3 = some r → ∀ (H : Heap) (locs : List Loc), va_P G.1 vwCl [(hw0_0, .inr (2, [.ref hw0_1, .ref hw0_2, .ref hw0_3, .ref hw0_4, .ref hw0_5, .ref hw0_6, .int w0.2.2.2.2.2.2.1, .int w0.2.2.2.2.2.2.2.1, .int w0.2.2.2.2.2.2.2.2.1, .int w0.2.2.2.2.2.2.2.2.2.1, .int w0.2.2.2.2.2.2.2.2.2.2])), (hw0_1, .inl (G.2.1, 30, .inl w0.1)), (hw0_2, .inl (G.2.1, 30, .inl w0.2.1)), (hw0_3, .inl (G.2.1, 30, .inl w0.2.2.1)), (hw0_4, .inl (G.2.1, 30, .inl w0.2.2.2.1)), (hw0_5, .inl (G.2.1, 30, .inl w0.2.2.2.2.1)), (hw0_6, .inl (G.2.1, 64, .inl w0.2.2.2.2.2.1))] H → va_D A [(hw0_0, .inr (2, [.ref hw0_1, .ref hw0_2, .ref hw0_3, .ref hw0_4, .ref hw0_5, .ref hw0_6, .int w0.2.2.2.2.2.2.1, .int w0.2.2.2.2.2.2.2.1, .int w0.2.2.2.2.2.2.2.2.1, .int w0.2.2.2.2.2.2.2.2.2.1, .int w0.2.2.2.2.2.2.2.2.2.2])), (hw0_1, .inl (G.2.1, 30, .inl w0.1)), (hw0_2, .inl (G.2.1, 30, .inl w0.2.1)), (hw0_3, .inl (G.2.1, 30, .inl w0.2.2.1)), (hw0_4, .inl (G.2.1, 30, .inl w0.2.2.2.1)), (hw0_5, .inl (G.2.1, 30, .inl w0.2.2.2.2.1)), (hw0_6, .inl (G.2.1, 64, .inl w0.2.2.2.2.2.1))] → va_S A s.heap H locs → ∀ (ls : Array Slot), lv_has ls 6 [(5, .int v5), (3, .long v3), (0, .ref hw0_0)] → W p l e (rm_X2_mixInto) s m args below meth c H locs 0 0 Q (F0 m 33 ls []) := by
    intro k33
    induction k33 with
    | zero =>
      intro v5 v3 hf
      rw [f_X2_mixInto_L33.eq_1] at hf; cases hf
    | succ k33 ih33 =>
      intro v5 v3 hf H locs hP hD hS ls hl
      rw [f_X2_mixInto_L33.eq_2] at hf
      refine lv_iload (pc := 33) hx hb dX2_mixInto_33 (lv_at hl 0 rfl) ?_
      refine lv_aload_n (pc := 35) hx hb dX2_mixInto_35 rfl (lv_at hl 2 rfl) ?_
      refine va_get (pc := 36) (D := G.1) (ci := 2) (v := .int w0.2.2.2.2.2.2.2.2.1) (C := RX2) (T := TX2) (N := 11) hx hb hts inX2 hown hK.1 hP 0 rfl rfl 8 (by decide) (hts _ wd_77) (fun _ h9 => h9) rfl dX2_mixInto_36 ?_
      refine lv_icmp_ge (pc := 39) (tgt := 56) hx hb dX2_mixInto_39 (by decide) (fun hc => ?_) (fun hc => ?_)
      · have hf := br_y hc hf
        refine lv_lload_n (pc := 56) hx hb dX2_mixInto_56 rfl (lv_at hl 1 rfl) ?_
        have hf := Option.some.inj hf; subst hf
        rw [← hQ]
        exact g_lret hx hb hr hlocks hP hS dX2_mixInto_57
      · have hf := br_n hc hf
        refine lv_aload_n (pc := 42) hx hb dX2_mixInto_42 rfl (lv_at hl 2 rfl) ?_
        refine lv_lload_n (pc := 43) hx hb dX2_mixInto_43 rfl (lv_at hl 1 rfl) ?_
        refine lv_iload (pc := 44) hx hb dX2_mixInto_44 (lv_at hl 0 rfl) ?_
        obtain ⟨x4, hcx4, hf⟩ := bn_some hf
        refine g_callV0 (pc := 46) (rest := []) hx hb hml hown hts hK (c_X2_mixCommandInto l G hw0_0 hw0_1 hw0_2 hw0_3 hw0_4 hw0_5 hw0_6 w0 v3 v5 hcx4) wd_464 wd_5 wd_461 wd_463 ws_5 hd_X2_mixCommandInto ⟨rfl, rfl, Nat.le_of_ble_eq_true rfl, Nat.le_of_ble_eq_true rfl⟩ hP hD hS hA [0, 1, 2, 3, 4, 5, 6] rfl rfl 2 0 rfl rfl rfl rfl hl.1 rfl (Nat.le_of_ble_eq_true rfl) dX2_mixInto_46 ⟨Nat.zero_le _, Nat.zero_le _⟩ (fun H locs hP hS => ?_)
        refine lv_lstore_n (pc := 49) (lv' := [(3, .long x4), (5, .int v5), (0, .ref hw0_0)]) hx hb dX2_mixInto_49 rfl hl (by decide) rfl (fun ls hl => ?_)
        refine lv_iinc (pc := 50) (v := (v5 + (1 : Int32))) (lv' := [(5, .int (v5 + (1 : Int32))), (3, .long x4), (0, .ref hw0_0)]) hx hb dX2_mixInto_50 hl (k := 1) rfl rfl (by decide) rfl (fun ls hl => ?_)
        refine lv_goto (pc := 53) (tgt := 33) hx hb dX2_mixInto_53 (by decide) ?_
        exact ih33 (v5 + (1 : Int32)) x4 hf H locs hP hD hS ls (lv_sub hl [0, 1, 2] rfl)
  refine lv_lload_n (pc := 0) hx hb dX2_mixInto_0 rfl (lv_at hl 1 rfl) ?_
  refine lv_aload_n (pc := 1) hx hb dX2_mixInto_1 rfl (lv_at hl 0 rfl) ?_
  refine va_get (pc := 2) (D := G.1) (ci := 2) (v := .int w0.2.2.2.2.2.2.1) (C := RX2) (T := TX2) (N := 11) hx hb hts inX2 hown hK.1 hP 0 rfl rfl 6 (by decide) (hts _ wd_72) (fun _ h9 => h9) rfl dX2_mixInto_2 ?_
  refine lv_i2l (pc := 5) (v := w0.2.2.2.2.2.2.1.toInt64) hx hb dX2_mixInto_5 rfl ?_
  obtain ⟨x1, hcx1, hf⟩ := bn_some hf
  refine g_callSN0 (pc := 6) (rest := []) hx hb hml hown hts hK (c_X10_mix l G  p1 w0.2.2.2.2.2.2.1.toInt64 hcx1) wd_454 wd_1 (nmw_460 hK) wd_453 hd_X10_mix ⟨rfl, rfl, Nat.le_of_ble_eq_true rfl, Nat.le_of_ble_eq_true rfl⟩ hP hD hS hA [] rfl rfl rfl hl.1 rfl (Nat.le_of_ble_eq_true rfl) dX2_mixInto_6 ⟨Nat.zero_le _, Nat.zero_le _⟩ (fun H locs hP hS => ?_)
  refine lv_lstore_n (pc := 9) (lv' := [(3, .long x1), (0, .ref hw0_0), (1, .long p1)]) hx hb dX2_mixInto_9 rfl hl (by decide) rfl (fun ls hl => ?_)
  refine lv_lload_n (pc := 10) hx hb dX2_mixInto_10 rfl (lv_at hl 0 rfl) ?_
  refine lv_aload_n (pc := 11) hx hb dX2_mixInto_11 rfl (lv_at hl 1 rfl) ?_
  refine va_get (pc := 12) (D := G.1) (ci := 2) (v := .int w0.2.2.2.2.2.2.2.1) (C := RX2) (T := TX2) (N := 11) hx hb hts inX2 hown hK.1 hP 0 rfl rfl 7 (by decide) (hts _ wd_76) (fun _ h9 => h9) rfl dX2_mixInto_12 ?_
  refine lv_i2l (pc := 15) (v := w0.2.2.2.2.2.2.2.1.toInt64) hx hb dX2_mixInto_15 rfl ?_
  obtain ⟨x2, hcx2, hf⟩ := bn_some hf
  refine g_callSN0 (pc := 16) (rest := []) hx hb hml hown hts hK (c_X10_mix l G  x1 w0.2.2.2.2.2.2.2.1.toInt64 hcx2) wd_454 wd_1 (nmw_460 hK) wd_453 hd_X10_mix ⟨rfl, rfl, Nat.le_of_ble_eq_true rfl, Nat.le_of_ble_eq_true rfl⟩ hP hD hS hA [] rfl rfl rfl hl.1 rfl (Nat.le_of_ble_eq_true rfl) dX2_mixInto_16 ⟨Nat.zero_le _, Nat.zero_le _⟩ (fun H locs hP hS => ?_)
  refine lv_lstore_n (pc := 19) (lv' := [(3, .long x2), (0, .ref hw0_0), (1, .long p1)]) hx hb dX2_mixInto_19 rfl hl (by decide) rfl (fun ls hl => ?_)
  refine lv_lload_n (pc := 20) hx hb dX2_mixInto_20 rfl (lv_at hl 0 rfl) ?_
  refine lv_aload_n (pc := 21) hx hb dX2_mixInto_21 rfl (lv_at hl 1 rfl) ?_
  refine va_get (pc := 22) (D := G.1) (ci := 2) (v := .int w0.2.2.2.2.2.2.2.2.1) (C := RX2) (T := TX2) (N := 11) hx hb hts inX2 hown hK.1 hP 0 rfl rfl 8 (by decide) (hts _ wd_77) (fun _ h9 => h9) rfl dX2_mixInto_22 ?_
  refine lv_i2l (pc := 25) (v := w0.2.2.2.2.2.2.2.2.1.toInt64) hx hb dX2_mixInto_25 rfl ?_
  obtain ⟨x3, hcx3, hf⟩ := bn_some hf
  refine g_callSN0 (pc := 26) (rest := []) hx hb hml hown hts hK (c_X10_mix l G  x2 w0.2.2.2.2.2.2.2.2.1.toInt64 hcx3) wd_454 wd_1 (nmw_460 hK) wd_453 hd_X10_mix ⟨rfl, rfl, Nat.le_of_ble_eq_true rfl, Nat.le_of_ble_eq_true rfl⟩ hP hD hS hA [] rfl rfl rfl hl.1 rfl (Nat.le_of_ble_eq_true rfl) dX2_mixInto_26 ⟨Nat.zero_le _, Nat.zero_le _⟩ (fun H locs hP hS => ?_)
  refine lv_lstore_n (pc := 29) (lv' := [(3, .long x3), (0, .ref hw0_0), (1, .long p1)]) hx hb dX2_mixInto_29 rfl hl (by decide) rfl (fun ls hl => ?_)
  refine lv_iconst (pc := 30) (v := (0 : Int32)) hx hb dX2_mixInto_30 (by decide) ?_
  refine lv_istore (pc := 31) (lv' := [(5, .int (0 : Int32)), (3, .long x3), (0, .ref hw0_0), (1, .long p1)]) hx hb dX2_mixInto_31 hl (by decide) rfl (fun ls hl => ?_)
  exact hL33 FUEL (0 : Int32) x3 hf H locs hP hD hS ls (lv_sub hl [0, 1, 2] rfl)
