theorem hd_X7_has : yX7_has.cls ≠ "java/lang/invoke/MethodHandle" ∧ yX7_has.cls ≠ "java/lang/invoke/VarHandle" ∧ (parseMethodDescriptor yX7_has.desc).map (fun d => d.parameters.length) = some 1 := by decide +kernel
abbrev rm_X7_has : Room := { frames := 0, cells := 0, slots := 0, locals := 0 }
noncomputable def f_X7_has (w0 : TPlan) (p1 : Int32) : Option Int32 :=
  br (p1 < 0) (some (0 : Int32)) (br (w0.2.2.1 ≤ p1) (some (0 : Int32)) (some (1 : Int32)))
set_option maxHeartbeats 4000000 in
set_option maxRecDepth 100000 in
theorem c_X7_has (l : Launch) (G : GT) (hw0_0 hw0_1 : Nat) (w0 : TPlan) (p1 : Int32) {r : Int32} (hf : f_X7_has w0 p1 = some r) : Ct l yX7_has (Cond.code yX7_has cX7_has 2 (some .boolean) :: lw_g) rm_X7_has G [.ref hw0_0, .int p1] [(hw0_0, .inr (4, [.ref hw0_1, .int w0.2.1, .int w0.2.2.1, .int w0.2.2.2.1, .int w0.2.2.2.2])), (hw0_1, .inl (G.2.1, 30, .inl w0.1))] (some (.int r)) [(hw0_0, .inr (4, [.ref hw0_1, .int w0.2.1, .int w0.2.2.1, .int w0.2.2.2.1, .int w0.2.2.2.2])), (hw0_1, .inl (G.2.1, 30, .inl w0.1))] := by
  refine Ct.ofW (cc := cX7_has) (maxL := 2) (ret := (some .boolean)) (own := RX7) (by decide) rfl rfl (Nat.le_of_ble_eq_true rfl) ?_
  intro p e s m args below meth c A hx hb hr hml hts hown hlocks hK hP hD hA hS ls hl
  have hl : lv_has ls 2 [(0, .ref hw0_0), (1, .int p1)] := hl
  generalize hQ : gMQ below G _ _ A args s = Q
  generalize hH : s.heap = H at hP ⊢
  have hS : va_S A s.heap H [] := by rw [← hH]; exact hS
  generalize ([] : List Loc) = locs at hS ⊢
  unfold f_X7_has at hf
  refine lv_iload_n (pc := 0) hx hb dX7_has_0 rfl (lv_at hl 1 rfl) ?_
  refine lv_if_lt (pc := 1) (tgt := 16) hx hb dX7_has_1 (by decide) (fun hc => ?_) (fun hc => ?_)
  · have hf := br_y hc hf
    refine lv_iconst (pc := 16) (v := (0 : Int32)) hx hb dX7_has_16 (by decide) ?_
    have hf := Option.some.inj hf; subst hf
    rw [← hQ]
    exact g_zret (v := (0 : Int32)) hx hb hr hlocks rfl hP hS dX7_has_17
  · have hf := br_n hc hf
    refine lv_iload_n (pc := 4) hx hb dX7_has_4 rfl (lv_at hl 1 rfl) ?_
    refine lv_aload_n (pc := 5) hx hb dX7_has_5 rfl (lv_at hl 0 rfl) ?_
    refine va_get (pc := 6) (D := G.1) (ci := 4) (v := .int w0.2.2.1) (C := RX7) (T := TX7) (N := 5) hx hb hts inX7 hown hK.1 hP 0 rfl rfl 2 (by decide) (hts _ wd_119) (fun _ h9 => h9) rfl dX7_has_6 ?_
    refine lv_icmp_ge (pc := 9) (tgt := 16) hx hb dX7_has_9 (by decide) (fun hc => ?_) (fun hc => ?_)
    · have hf := br_y hc hf
      refine lv_iconst (pc := 16) (v := (0 : Int32)) hx hb dX7_has_16 (by decide) ?_
      have hf := Option.some.inj hf; subst hf
      rw [← hQ]
      exact g_zret (v := (0 : Int32)) hx hb hr hlocks rfl hP hS dX7_has_17
    · have hf := br_n hc hf
      refine lv_iconst (pc := 12) (v := (1 : Int32)) hx hb dX7_has_12 (by decide) ?_
      refine lv_goto (pc := 13) (tgt := 17) hx hb dX7_has_13 (by decide) ?_
      have hf := Option.some.inj hf; subst hf
      rw [← hQ]
      exact g_zret (v := (1 : Int32)) hx hb hr hlocks rfl hP hS dX7_has_17
theorem hd_X7_at : yX7_at.cls ≠ "java/lang/invoke/MethodHandle" ∧ yX7_at.cls ≠ "java/lang/invoke/VarHandle" ∧ (parseMethodDescriptor yX7_at.desc).map (fun d => d.parameters.length) = some 1 := by decide +kernel
abbrev rm_X7_at : Room := { frames := 1, cells := 0, slots := 0, locals := 21 }
noncomputable def f_X7_at (w0 : TPlan) (p1 : Int32) : Option Int32 :=
  (f_X7_has w0 p1).bind (fun x1 => br (x1 = 0) (some (-1 : Int32)) (gd (vp_in p1 30) (some (w0.1 p1.toNatClampNeg))))
set_option maxHeartbeats 4000000 in
set_option maxRecDepth 100000 in
theorem c_X7_at (l : Launch) (G : GT) (hw0_0 hw0_1 : Nat) (w0 : TPlan) (p1 : Int32) {r : Int32} (hf : f_X7_at w0 p1 = some r) : Ct l yX7_at (Cond.code yX7_at cX7_at 2 (some .int) :: lw_g) rm_X7_at G [.ref hw0_0, .int p1] [(hw0_0, .inr (4, [.ref hw0_1, .int w0.2.1, .int w0.2.2.1, .int w0.2.2.2.1, .int w0.2.2.2.2])), (hw0_1, .inl (G.2.1, 30, .inl w0.1))] (some (.int r)) [(hw0_0, .inr (4, [.ref hw0_1, .int w0.2.1, .int w0.2.2.1, .int w0.2.2.2.1, .int w0.2.2.2.2])), (hw0_1, .inl (G.2.1, 30, .inl w0.1))] := by
  refine Ct.ofW (cc := cX7_at) (maxL := 2) (ret := (some .int)) (own := RX7) (by decide) rfl rfl (Nat.le_of_ble_eq_true rfl) ?_
  intro p e s m args below meth c A hx hb hr hml hts hown hlocks hK hP hD hA hS ls hl
  have hl : lv_has ls 2 [(0, .ref hw0_0), (1, .int p1)] := hl
  generalize hQ : gMQ below G _ _ A args s = Q
  generalize hH : s.heap = H at hP ⊢
  have hS : va_S A s.heap H [] := by rw [← hH]; exact hS
  generalize ([] : List Loc) = locs at hS ⊢
  unfold f_X7_at at hf
  refine lv_aload_n (pc := 0) hx hb dX7_at_0 rfl (lv_at hl 0 rfl) ?_
  refine lv_iload_n (pc := 1) hx hb dX7_at_1 rfl (lv_at hl 1 rfl) ?_
  obtain ⟨x1, hcx1, hf⟩ := bn_some hf
  refine g_callV0 (pc := 2) (rest := []) hx hb hml hown hts hK (c_X7_has l G hw0_0 hw0_1 w0 p1 hcx1) wd_486 wd_6 wd_483 wd_484 wd_485 hd_X7_has ⟨rfl, rfl, Nat.le_of_ble_eq_true rfl, Nat.le_of_ble_eq_true rfl⟩ hP hD hS hA [0, 1] rfl rfl 4 0 rfl rfl rfl rfl hl.1 rfl (Nat.le_of_ble_eq_true rfl) dX7_at_2 ⟨Nat.zero_le _, Nat.zero_le _⟩ (fun H locs hP hS => ?_)
  refine lv_if_eq (pc := 5) (tgt := 17) hx hb dX7_at_5 (by decide) (fun hc => ?_) (fun hc => ?_)
  · have hf := br_y hc hf
    refine lv_iconst (pc := 17) (v := (-1 : Int32)) hx hb dX7_at_17 (by decide) ?_
    have hf := Option.some.inj hf; subst hf
    rw [← hQ]
    exact g_iret hx hb hr hlocks hP hS dX7_at_18
  · have hf := br_n hc hf
    refine lv_aload_n (pc := 8) hx hb dX7_at_8 rfl (lv_at hl 0 rfl) ?_
    refine va_get (pc := 9) (D := G.1) (ci := 4) (v := .ref hw0_1) (C := RX7) (T := TX7) (N := 5) hx hb hts inX7 hown hK.1 hP 0 rfl rfl 0 (by decide) (hts _ wd_115) (fun _ h9 => h9) rfl dX7_at_9 ?_
    refine lv_iload_n (pc := 12) hx hb dX7_at_12 rfl (lv_at hl 1 rfl) ?_
    obtain ⟨hg, hf⟩ := gd_some hf
    refine va_iald (pc := 13) hx hb hK.1 hP 1 0 rfl rfl hg dX7_at_13 ?_
    refine lv_goto (pc := 14) (tgt := 18) hx hb dX7_at_14 (by decide) ?_
    have hf := Option.some.inj hf; subst hf
    rw [← hQ]
    exact g_iret hx hb hr hlocks hP hS dX7_at_18
theorem hd_X7_isCopied : yX7_isCopied.cls ≠ "java/lang/invoke/MethodHandle" ∧ yX7_isCopied.cls ≠ "java/lang/invoke/VarHandle" ∧ (parseMethodDescriptor yX7_isCopied.desc).map (fun d => d.parameters.length) = some 2 := by decide +kernel
abbrev rm_X7_isCopied : Room := { frames := 2, cells := 0, slots := 0, locals := 42 }
noncomputable def f_X7_isCopied (w0 : TPlan) (w1 : TDelta) (p2 : Int32) : Option Int32 :=
  (f_X2_isCopy w1 p2).bind (fun x1 => br (x1 = 0) (some (0 : Int32)) ((f_X10_isIn w0.2.2.2.1 p2).bind (fun x2 => br (x2 = 0) (some (1 : Int32)) (some (0 : Int32)))))
set_option maxHeartbeats 4000000 in
set_option maxRecDepth 100000 in
theorem c_X7_isCopied (l : Launch) (G : GT) (hw0_0 hw0_1 : Nat) (hw1_0 hw1_1 hw1_2 hw1_3 hw1_4 hw1_5 hw1_6 : Nat) (w0 : TPlan) (w1 : TDelta) (p2 : Int32) {r : Int32} (hf : f_X7_isCopied w0 w1 p2 = some r) : Ct l yX7_isCopied (Cond.code yX7_isCopied cX7_isCopied 3 (some .boolean) :: lw_g) rm_X7_isCopied G [.ref hw0_0, .ref hw1_0, .int p2] [(hw0_0, .inr (4, [.ref hw0_1, .int w0.2.1, .int w0.2.2.1, .int w0.2.2.2.1, .int w0.2.2.2.2])), (hw0_1, .inl (G.2.1, 30, .inl w0.1)), (hw1_0, .inr (2, [.ref hw1_1, .ref hw1_2, .ref hw1_3, .ref hw1_4, .ref hw1_5, .ref hw1_6, .int w1.2.2.2.2.2.2.1, .int w1.2.2.2.2.2.2.2.1, .int w1.2.2.2.2.2.2.2.2.1, .int w1.2.2.2.2.2.2.2.2.2.1, .int w1.2.2.2.2.2.2.2.2.2.2])), (hw1_1, .inl (G.2.1, 30, .inl w1.1)), (hw1_2, .inl (G.2.1, 30, .inl w1.2.1)), (hw1_3, .inl (G.2.1, 30, .inl w1.2.2.1)), (hw1_4, .inl (G.2.1, 30, .inl w1.2.2.2.1)), (hw1_5, .inl (G.2.1, 30, .inl w1.2.2.2.2.1)), (hw1_6, .inl (G.2.1, 64, .inl w1.2.2.2.2.2.1))] (some (.int r)) [(hw0_0, .inr (4, [.ref hw0_1, .int w0.2.1, .int w0.2.2.1, .int w0.2.2.2.1, .int w0.2.2.2.2])), (hw0_1, .inl (G.2.1, 30, .inl w0.1)), (hw1_0, .inr (2, [.ref hw1_1, .ref hw1_2, .ref hw1_3, .ref hw1_4, .ref hw1_5, .ref hw1_6, .int w1.2.2.2.2.2.2.1, .int w1.2.2.2.2.2.2.2.1, .int w1.2.2.2.2.2.2.2.2.1, .int w1.2.2.2.2.2.2.2.2.2.1, .int w1.2.2.2.2.2.2.2.2.2.2])), (hw1_1, .inl (G.2.1, 30, .inl w1.1)), (hw1_2, .inl (G.2.1, 30, .inl w1.2.1)), (hw1_3, .inl (G.2.1, 30, .inl w1.2.2.1)), (hw1_4, .inl (G.2.1, 30, .inl w1.2.2.2.1)), (hw1_5, .inl (G.2.1, 30, .inl w1.2.2.2.2.1)), (hw1_6, .inl (G.2.1, 64, .inl w1.2.2.2.2.2.1))] := by
  refine Ct.ofW (cc := cX7_isCopied) (maxL := 3) (ret := (some .boolean)) (own := RX7) (by decide) rfl rfl (Nat.le_of_ble_eq_true rfl) ?_
  intro p e s m args below meth c A hx hb hr hml hts hown hlocks hK hP hD hA hS ls hl
  have hl : lv_has ls 3 [(0, .ref hw0_0), (1, .ref hw1_0), (2, .int p2)] := hl
  generalize hQ : gMQ below G _ _ A args s = Q
  generalize hH : s.heap = H at hP ⊢
  have hS : va_S A s.heap H [] := by rw [← hH]; exact hS
  generalize ([] : List Loc) = locs at hS ⊢
  unfold f_X7_isCopied at hf
  refine lv_aload_n (pc := 0) hx hb dX7_isCopied_0 rfl (lv_at hl 1 rfl) ?_
  refine lv_iload_n (pc := 1) hx hb dX7_isCopied_1 rfl (lv_at hl 2 rfl) ?_
  obtain ⟨x1, hcx1, hf⟩ := bn_some hf
  refine g_callV0 (pc := 2) (rest := []) hx hb hml hown hts hK (c_X2_isCopy l G hw1_0 hw1_1 hw1_2 hw1_3 hw1_4 hw1_5 hw1_6 w1 p2 hcx1) wd_330 wd_5 wd_712 wd_328 wd_329 hd_X2_isCopy ⟨rfl, rfl, Nat.le_of_ble_eq_true rfl, Nat.le_of_ble_eq_true rfl⟩ hP hD hS hA [2, 3, 4, 5, 6, 7, 8] rfl rfl 2 2 rfl rfl rfl rfl hl.1 rfl (Nat.le_of_ble_eq_true rfl) dX7_isCopied_2 ⟨Nat.zero_le _, Nat.zero_le _⟩ (fun H locs hP hS => ?_)
  refine lv_if_eq (pc := 5) (tgt := 23) hx hb dX7_isCopied_5 (by decide) (fun hc => ?_) (fun hc => ?_)
  · have hf := br_y hc hf
    refine lv_iconst (pc := 23) (v := (0 : Int32)) hx hb dX7_isCopied_23 (by decide) ?_
    have hf := Option.some.inj hf; subst hf
    rw [← hQ]
    exact g_zret (v := (0 : Int32)) hx hb hr hlocks rfl hP hS dX7_isCopied_24
  · have hf := br_n hc hf
    refine lv_aload_n (pc := 8) hx hb dX7_isCopied_8 rfl (lv_at hl 0 rfl) ?_
    refine va_get (pc := 9) (D := G.1) (ci := 4) (v := .int w0.2.2.2.1) (C := RX7) (T := TX7) (N := 5) hx hb hts inX7 hown hK.1 hP 0 rfl rfl 3 (by decide) (hts _ wd_122) (fun _ h9 => h9) rfl dX7_isCopied_9 ?_
    refine lv_iload_n (pc := 12) hx hb dX7_isCopied_12 rfl (lv_at hl 2 rfl) ?_
    obtain ⟨x2, hcx2, hf⟩ := bn_some hf
    refine g_callSN0 (pc := 13) (rest := []) hx hb hml hown hts hK (c_X10_isIn l G  w0.2.2.2.1 p2 hcx2) wd_333 wd_1 (nmw_693 hK) wd_332 hd_X10_isIn ⟨rfl, rfl, Nat.le_of_ble_eq_true rfl, Nat.le_of_ble_eq_true rfl⟩ hP hD hS hA [] rfl rfl rfl hl.1 rfl (Nat.le_of_ble_eq_true rfl) dX7_isCopied_13 ⟨Nat.zero_le _, Nat.zero_le _⟩ (fun H locs hP hS => ?_)
    refine lv_if_ne (pc := 16) (tgt := 23) hx hb dX7_isCopied_16 (by decide) (fun hc => ?_) (fun hc => ?_)
    · have hf := br_n hc hf
      refine lv_iconst (pc := 23) (v := (0 : Int32)) hx hb dX7_isCopied_23 (by decide) ?_
      have hf := Option.some.inj hf; subst hf
      rw [← hQ]
      exact g_zret (v := (0 : Int32)) hx hb hr hlocks rfl hP hS dX7_isCopied_24
    · have hf := br_y hc hf
      refine lv_iconst (pc := 19) (v := (1 : Int32)) hx hb dX7_isCopied_19 (by decide) ?_
      refine lv_goto (pc := 20) (tgt := 24) hx hb dX7_isCopied_20 (by decide) ?_
      have hf := Option.some.inj hf; subst hf
      rw [← hQ]
      exact g_zret (v := (1 : Int32)) hx hb hr hlocks rfl hP hS dX7_isCopied_24
theorem hd_X7_conflicts : yX7_conflicts.cls ≠ "java/lang/invoke/MethodHandle" ∧ yX7_conflicts.cls ≠ "java/lang/invoke/VarHandle" ∧ (parseMethodDescriptor yX7_conflicts.desc).map (fun d => d.parameters.length) = some 3 := by decide +kernel
abbrev rm_X7_conflicts : Room := { frames := 2, cells := 0, slots := 0, locals := 42 }
noncomputable def f_X7_conflicts_J49 (w0 : TDelta) (p1 : Int32) (p2 : Int32) (rec11 : Int32 → Int32 → Option Int32) (v4 : Int32) (v3 : Int32) : Option Int32 :=
  rec11 (v4 + (1 : Int32)) v3
noncomputable def f_X7_conflicts_L11 (w0 : TDelta) (p1 : Int32) (p2 : Int32)  : Nat → Int32 → Int32 → Option Int32
  | 0, _, _ => none
  | k11 + 1, v4, v3 =>
    br (w0.2.2.2.2.2.2.2.2.1 ≤ v4) ((f_J6_bitCount_0f7a4 v3).bind (fun x2 => some x2)) ((f_X10_isIn p1 v4).bind (fun x3 => br (x3 = 0) (f_X7_conflicts_J49 w0 p1 p2 (f_X7_conflicts_L11 w0 p1 p2  k11) v4 v3) ((f_X2_precedersOf w0 v4).bind (fun x4 => (f_X10_isIn x4 p2).bind (fun x5 => br (x5 = 0) (f_X7_conflicts_J49 w0 p1 p2 (f_X7_conflicts_L11 w0 p1 p2  k11) v4 v3) (f_X7_conflicts_J49 w0 p1 p2 (f_X7_conflicts_L11 w0 p1 p2  k11) v4 (v3 ||| ((1 : Int32) <<< (v4 &&& 31)))))))))
noncomputable def f_X7_conflicts (w0 : TDelta) (p1 : Int32) (p2 : Int32) : Option Int32 :=
  (f_X2_precedersOf w0 p2).bind (fun x1 => f_X7_conflicts_L11 w0 p1 p2 FUEL (0 : Int32) (x1 &&& p1))
set_option maxHeartbeats 4000000 in
set_option maxRecDepth 100000 in
theorem c_X7_conflicts (l : Launch) (G : GT) (hw0_0 hw0_1 hw0_2 hw0_3 hw0_4 hw0_5 hw0_6 : Nat) (w0 : TDelta) (p1 : Int32) (p2 : Int32) {r : Int32} (hf : f_X7_conflicts w0 p1 p2 = some r) : Ct l yX7_conflicts (Cond.code yX7_conflicts cX7_conflicts 5 (some .int) :: lw_g) rm_X7_conflicts G [.ref hw0_0, .int p1, .int p2] [(hw0_0, .inr (2, [.ref hw0_1, .ref hw0_2, .ref hw0_3, .ref hw0_4, .ref hw0_5, .ref hw0_6, .int w0.2.2.2.2.2.2.1, .int w0.2.2.2.2.2.2.2.1, .int w0.2.2.2.2.2.2.2.2.1, .int w0.2.2.2.2.2.2.2.2.2.1, .int w0.2.2.2.2.2.2.2.2.2.2])), (hw0_1, .inl (G.2.1, 30, .inl w0.1)), (hw0_2, .inl (G.2.1, 30, .inl w0.2.1)), (hw0_3, .inl (G.2.1, 30, .inl w0.2.2.1)), (hw0_4, .inl (G.2.1, 30, .inl w0.2.2.2.1)), (hw0_5, .inl (G.2.1, 30, .inl w0.2.2.2.2.1)), (hw0_6, .inl (G.2.1, 64, .inl w0.2.2.2.2.2.1))] (some (.int r)) [(hw0_0, .inr (2, [.ref hw0_1, .ref hw0_2, .ref hw0_3, .ref hw0_4, .ref hw0_5, .ref hw0_6, .int w0.2.2.2.2.2.2.1, .int w0.2.2.2.2.2.2.2.1, .int w0.2.2.2.2.2.2.2.2.1, .int w0.2.2.2.2.2.2.2.2.2.1, .int w0.2.2.2.2.2.2.2.2.2.2])), (hw0_1, .inl (G.2.1, 30, .inl w0.1)), (hw0_2, .inl (G.2.1, 30, .inl w0.2.1)), (hw0_3, .inl (G.2.1, 30, .inl w0.2.2.1)), (hw0_4, .inl (G.2.1, 30, .inl w0.2.2.2.1)), (hw0_5, .inl (G.2.1, 30, .inl w0.2.2.2.2.1)), (hw0_6, .inl (G.2.1, 64, .inl w0.2.2.2.2.2.1))] := by
  refine Ct.ofW (cc := cX7_conflicts) (maxL := 5) (ret := (some .int)) (own := RX7) (by decide) rfl rfl (Nat.le_of_ble_eq_true rfl) ?_
  intro p e s m args below meth c A hx hb hr hml hts hown hlocks hK hP hD hA hS ls hl
  have hl : lv_has ls 5 [(0, .ref hw0_0), (1, .int p1), (2, .int p2)] := hl
  generalize hQ : gMQ below G _ _ A args s = Q
  generalize hH : s.heap = H at hP ⊢
  have hS : va_S A s.heap H [] := by rw [← hH]; exact hS
  generalize ([] : List Loc) = locs at hS ⊢
  unfold f_X7_conflicts at hf
  have hL11 : ∀ (k11 : Nat) (v4 : Int32) (v3 : Int32), f_X7_conflicts_L11 w0 p1 p2  k11 v4 v3 = some r → ∀ (H : Heap) (locs : List Loc), va_P G.1 vwCl [(hw0_0, .inr (2, [.ref hw0_1, .ref hw0_2, .ref hw0_3, .ref hw0_4, .ref hw0_5, .ref hw0_6, .int w0.2.2.2.2.2.2.1, .int w0.2.2.2.2.2.2.2.1, .int w0.2.2.2.2.2.2.2.2.1, .int w0.2.2.2.2.2.2.2.2.2.1, .int w0.2.2.2.2.2.2.2.2.2.2])), (hw0_1, .inl (G.2.1, 30, .inl w0.1)), (hw0_2, .inl (G.2.1, 30, .inl w0.2.1)), (hw0_3, .inl (G.2.1, 30, .inl w0.2.2.1)), (hw0_4, .inl (G.2.1, 30, .inl w0.2.2.2.1)), (hw0_5, .inl (G.2.1, 30, .inl w0.2.2.2.2.1)), (hw0_6, .inl (G.2.1, 64, .inl w0.2.2.2.2.2.1))] H → va_D A [(hw0_0, .inr (2, [.ref hw0_1, .ref hw0_2, .ref hw0_3, .ref hw0_4, .ref hw0_5, .ref hw0_6, .int w0.2.2.2.2.2.2.1, .int w0.2.2.2.2.2.2.2.1, .int w0.2.2.2.2.2.2.2.2.1, .int w0.2.2.2.2.2.2.2.2.2.1, .int w0.2.2.2.2.2.2.2.2.2.2])), (hw0_1, .inl (G.2.1, 30, .inl w0.1)), (hw0_2, .inl (G.2.1, 30, .inl w0.2.1)), (hw0_3, .inl (G.2.1, 30, .inl w0.2.2.1)), (hw0_4, .inl (G.2.1, 30, .inl w0.2.2.2.1)), (hw0_5, .inl (G.2.1, 30, .inl w0.2.2.2.2.1)), (hw0_6, .inl (G.2.1, 64, .inl w0.2.2.2.2.2.1))] → va_S A s.heap H locs → ∀ (ls : Array Slot), lv_has ls 5 [(4, .int v4), (3, .int v3), (0, .ref hw0_0), (1, .int p1), (2, .int p2)] → W p l e (rm_X7_conflicts) s m args below meth c H locs 0 0 Q (F0 m 11 ls []) := by
    intro k11
    induction k11 with
    | zero =>
      intro v4 v3 hf
      rw [f_X7_conflicts_L11.eq_1] at hf; cases hf
    | succ k11 ih11 =>
      have hJ49 : ∀ (v4 : Int32) (v3 : Int32), f_X7_conflicts_J49 w0 p1 p2 (f_X7_conflicts_L11 w0 p1 p2 k11) v4 v3 = some r → ∀ (H : Heap) (locs : List Loc), va_P G.1 vwCl [(hw0_0, .inr (2, [.ref hw0_1, .ref hw0_2, .ref hw0_3, .ref hw0_4, .ref hw0_5, .ref hw0_6, .int w0.2.2.2.2.2.2.1, .int w0.2.2.2.2.2.2.2.1, .int w0.2.2.2.2.2.2.2.2.1, .int w0.2.2.2.2.2.2.2.2.2.1, .int w0.2.2.2.2.2.2.2.2.2.2])), (hw0_1, .inl (G.2.1, 30, .inl w0.1)), (hw0_2, .inl (G.2.1, 30, .inl w0.2.1)), (hw0_3, .inl (G.2.1, 30, .inl w0.2.2.1)), (hw0_4, .inl (G.2.1, 30, .inl w0.2.2.2.1)), (hw0_5, .inl (G.2.1, 30, .inl w0.2.2.2.2.1)), (hw0_6, .inl (G.2.1, 64, .inl w0.2.2.2.2.2.1))] H → va_D A [(hw0_0, .inr (2, [.ref hw0_1, .ref hw0_2, .ref hw0_3, .ref hw0_4, .ref hw0_5, .ref hw0_6, .int w0.2.2.2.2.2.2.1, .int w0.2.2.2.2.2.2.2.1, .int w0.2.2.2.2.2.2.2.2.1, .int w0.2.2.2.2.2.2.2.2.2.1, .int w0.2.2.2.2.2.2.2.2.2.2])), (hw0_1, .inl (G.2.1, 30, .inl w0.1)), (hw0_2, .inl (G.2.1, 30, .inl w0.2.1)), (hw0_3, .inl (G.2.1, 30, .inl w0.2.2.1)), (hw0_4, .inl (G.2.1, 30, .inl w0.2.2.2.1)), (hw0_5, .inl (G.2.1, 30, .inl w0.2.2.2.2.1)), (hw0_6, .inl (G.2.1, 64, .inl w0.2.2.2.2.2.1))] → va_S A s.heap H locs → ∀ (ls : Array Slot), lv_has ls 5 [(4, .int v4), (3, .int v3), (0, .ref hw0_0), (1, .int p1), (2, .int p2)] → W p l e (rm_X7_conflicts) s m args below meth c H locs 0 0 Q (F0 m 49 ls []) := by
        intro v4 v3 hf H locs hP hD hS ls hl
        unfold f_X7_conflicts_J49 at hf
        refine lv_iinc (pc := 49) (v := (v4 + (1 : Int32))) (lv' := [(4, .int (v4 + (1 : Int32))), (3, .int v3), (0, .ref hw0_0), (1, .int p1), (2, .int p2)]) hx hb dX7_conflicts_49 hl (k := 0) rfl rfl (by decide) rfl (fun ls hl => ?_)
        refine lv_goto (pc := 52) (tgt := 11) hx hb dX7_conflicts_52 (by decide) ?_
        exact ih11 (v4 + (1 : Int32)) v3 hf H locs hP hD hS ls (lv_sub hl [0, 1, 2, 3, 4] rfl)
      intro v4 v3 hf H locs hP hD hS ls hl
      rw [f_X7_conflicts_L11.eq_2] at hf
      refine lv_iload (pc := 11) hx hb dX7_conflicts_11 (lv_at hl 0 rfl) ?_
      refine lv_aload_n (pc := 13) hx hb dX7_conflicts_13 rfl (lv_at hl 2 rfl) ?_
      refine va_getN (pc := 14) (D := G.1) (ci := 2) (v := .int w0.2.2.2.2.2.2.2.2.1) (C := RX2) (T := TX2) (N := 11) hx hb hts inX2 hown hK.1 hP 0 rfl rfl 8 (by decide) (nfw_80 hK) (fun _ h9 => h9) rfl dX7_conflicts_14 ?_
      refine lv_icmp_ge (pc := 17) (tgt := 55) hx hb dX7_conflicts_17 (by decide) (fun hc => ?_) (fun hc => ?_)
      · have hf := br_y hc hf
        refine lv_iload_n (pc := 55) hx hb dX7_conflicts_55 rfl (lv_at hl 1 rfl) ?_
        obtain ⟨x2, hcx2, hf⟩ := bn_some hf
        refine g_callS0 (pc := 56) (rest := []) hx hb hml hown hts hK (c_J6_bitCount_0f7a4 l G  v3 hcx2) wd_297 wd_19 wd_702 wd_296 hd_J6_bitCount_0f7a4 ⟨rfl, rfl, Nat.le_of_ble_eq_true rfl, Nat.le_of_ble_eq_true rfl⟩ hP hD hS hA [] rfl rfl rfl hl.1 rfl (Nat.le_of_ble_eq_true rfl) dX7_conflicts_56 ⟨Nat.zero_le _, Nat.zero_le _⟩ (fun H locs hP hS => ?_)
        have hf := Option.some.inj hf; subst hf
        rw [← hQ]
        exact g_iret hx hb hr hlocks hP hS dX7_conflicts_59
      · have hf := br_n hc hf
        refine lv_iload_n (pc := 20) hx hb dX7_conflicts_20 rfl (lv_at hl 3 rfl) ?_
        refine lv_iload (pc := 21) hx hb dX7_conflicts_21 (lv_at hl 0 rfl) ?_
        obtain ⟨x3, hcx3, hf⟩ := bn_some hf
        refine g_callSN0 (pc := 23) (rest := []) hx hb hml hown hts hK (c_X10_isIn l G  p1 v4 hcx3) wd_333 wd_1 (nmw_693 hK) wd_332 hd_X10_isIn ⟨rfl, rfl, Nat.le_of_ble_eq_true rfl, Nat.le_of_ble_eq_true rfl⟩ hP hD hS hA [] rfl rfl rfl hl.1 rfl (Nat.le_of_ble_eq_true rfl) dX7_conflicts_23 ⟨Nat.zero_le _, Nat.zero_le _⟩ (fun H locs hP hS => ?_)
        refine lv_if_eq (pc := 26) (tgt := 49) hx hb dX7_conflicts_26 (by decide) (fun hc => ?_) (fun hc => ?_)
        · have hf := br_y hc hf
          exact hJ49 v4 v3 hf H locs hP hD hS ls (lv_sub hl [0, 1, 2, 3, 4] rfl)
        · have hf := br_n hc hf
          refine lv_aload_n (pc := 29) hx hb dX7_conflicts_29 rfl (lv_at hl 2 rfl) ?_
          refine lv_iload (pc := 30) hx hb dX7_conflicts_30 (lv_at hl 0 rfl) ?_
          obtain ⟨x4, hcx4, hf⟩ := bn_some hf
          refine g_callV0 (pc := 32) (rest := []) hx hb hml hown hts hK (c_X2_precedersOf l G hw0_0 hw0_1 hw0_2 hw0_3 hw0_4 hw0_5 hw0_6 w0 v4 hcx4) wd_388 wd_5 wd_701 wd_386 wd_387 hd_X2_precedersOf ⟨rfl, rfl, Nat.le_of_ble_eq_true rfl, Nat.le_of_ble_eq_true rfl⟩ hP hD hS hA [0, 1, 2, 3, 4, 5, 6] rfl rfl 2 0 rfl rfl rfl rfl hl.1 rfl (Nat.le_of_ble_eq_true rfl) dX7_conflicts_32 ⟨Nat.zero_le _, Nat.zero_le _⟩ (fun H locs hP hS => ?_)
          refine lv_iload_n (pc := 35) hx hb dX7_conflicts_35 rfl (lv_at hl 4 rfl) ?_
          obtain ⟨x5, hcx5, hf⟩ := bn_some hf
          refine g_callSN0 (pc := 36) (rest := []) hx hb hml hown hts hK (c_X10_isIn l G  x4 p2 hcx5) wd_333 wd_1 (nmw_693 hK) wd_332 hd_X10_isIn ⟨rfl, rfl, Nat.le_of_ble_eq_true rfl, Nat.le_of_ble_eq_true rfl⟩ hP hD hS hA [] rfl rfl rfl hl.1 rfl (Nat.le_of_ble_eq_true rfl) dX7_conflicts_36 ⟨Nat.zero_le _, Nat.zero_le _⟩ (fun H locs hP hS => ?_)
          refine lv_if_eq (pc := 39) (tgt := 49) hx hb dX7_conflicts_39 (by decide) (fun hc => ?_) (fun hc => ?_)
          · have hf := br_y hc hf
            exact hJ49 v4 v3 hf H locs hP hD hS ls (lv_sub hl [0, 1, 2, 3, 4] rfl)
          · have hf := br_n hc hf
            refine lv_iload_n (pc := 42) hx hb dX7_conflicts_42 rfl (lv_at hl 1 rfl) ?_
            refine lv_iconst (pc := 43) (v := (1 : Int32)) hx hb dX7_conflicts_43 (by decide) ?_
            refine lv_iload (pc := 44) hx hb dX7_conflicts_44 (lv_at hl 0 rfl) ?_
            refine lv_ishl (pc := 46) hx hb dX7_conflicts_46 ?_
            refine lv_ior (pc := 47) hx hb dX7_conflicts_47 ?_
            refine lv_istore_n (pc := 48) (lv' := [(3, .int (v3 ||| ((1 : Int32) <<< (v4 &&& 31)))), (4, .int v4), (0, .ref hw0_0), (1, .int p1), (2, .int p2)]) hx hb dX7_conflicts_48 rfl hl (by decide) rfl (fun ls hl => ?_)
            exact hJ49 v4 (v3 ||| ((1 : Int32) <<< (v4 &&& 31))) hf H locs hP hD hS ls (lv_sub hl [1, 0, 2, 3, 4] rfl)
  refine lv_aload_n (pc := 0) hx hb dX7_conflicts_0 rfl (lv_at hl 0 rfl) ?_
  refine lv_iload_n (pc := 1) hx hb dX7_conflicts_1 rfl (lv_at hl 2 rfl) ?_
  obtain ⟨x1, hcx1, hf⟩ := bn_some hf
  refine g_callV0 (pc := 2) (rest := []) hx hb hml hown hts hK (c_X2_precedersOf l G hw0_0 hw0_1 hw0_2 hw0_3 hw0_4 hw0_5 hw0_6 w0 p2 hcx1) wd_388 wd_5 wd_701 wd_386 wd_387 hd_X2_precedersOf ⟨rfl, rfl, Nat.le_of_ble_eq_true rfl, Nat.le_of_ble_eq_true rfl⟩ hP hD hS hA [0, 1, 2, 3, 4, 5, 6] rfl rfl 2 0 rfl rfl rfl rfl hl.1 rfl (Nat.le_of_ble_eq_true rfl) dX7_conflicts_2 ⟨Nat.zero_le _, Nat.zero_le _⟩ (fun H locs hP hS => ?_)
  refine lv_iload_n (pc := 5) hx hb dX7_conflicts_5 rfl (lv_at hl 1 rfl) ?_
  refine lv_iand (pc := 6) hx hb dX7_conflicts_6 ?_
  refine lv_istore_n (pc := 7) (lv' := [(3, .int (x1 &&& p1)), (0, .ref hw0_0), (1, .int p1), (2, .int p2)]) hx hb dX7_conflicts_7 rfl hl (by decide) rfl (fun ls hl => ?_)
  refine lv_iconst (pc := 8) (v := (0 : Int32)) hx hb dX7_conflicts_8 (by decide) ?_
  refine lv_istore (pc := 9) (lv' := [(4, .int (0 : Int32)), (3, .int (x1 &&& p1)), (0, .ref hw0_0), (1, .int p1), (2, .int p2)]) hx hb dX7_conflicts_9 hl (by decide) rfl (fun ls hl => ?_)
  exact hL11 FUEL (0 : Int32) (x1 &&& p1) hf H locs hP hD hS ls (lv_sub hl [0, 1, 2, 3, 4] rfl)
theorem hd_X7_worth : yX7_worth.cls ≠ "java/lang/invoke/MethodHandle" ∧ yX7_worth.cls ≠ "java/lang/invoke/VarHandle" ∧ (parseMethodDescriptor yX7_worth.desc).map (fun d => d.parameters.length) = some 4 := by decide +kernel
abbrev rm_X7_worth : Room := { frames := 3, cells := 0, slots := 0, locals := 66 }
noncomputable def f_X7_worth (w0 : TDelta) (p1 : Int32) (p2 : Int32) (p3 : Int32) : Option Int32 :=
  br (p2 = (1 : Int32)) ((f_X2_lengthOf w0 p3).bind (fun x1 => some (-x1))) (br (p2 = (2 : Int32)) ((f_X7_conflicts w0 p1 p3).bind (fun x2 => some x2)) (some (0 : Int32)))
set_option maxHeartbeats 4000000 in
set_option maxRecDepth 100000 in
theorem c_X7_worth (l : Launch) (G : GT) (hw0_0 hw0_1 hw0_2 hw0_3 hw0_4 hw0_5 hw0_6 : Nat) (w0 : TDelta) (p1 : Int32) (p2 : Int32) (p3 : Int32) {r : Int32} (hf : f_X7_worth w0 p1 p2 p3 = some r) : Ct l yX7_worth (Cond.code yX7_worth cX7_worth 4 (some .int) :: lw_g) rm_X7_worth G [.ref hw0_0, .int p1, .int p2, .int p3] [(hw0_0, .inr (2, [.ref hw0_1, .ref hw0_2, .ref hw0_3, .ref hw0_4, .ref hw0_5, .ref hw0_6, .int w0.2.2.2.2.2.2.1, .int w0.2.2.2.2.2.2.2.1, .int w0.2.2.2.2.2.2.2.2.1, .int w0.2.2.2.2.2.2.2.2.2.1, .int w0.2.2.2.2.2.2.2.2.2.2])), (hw0_1, .inl (G.2.1, 30, .inl w0.1)), (hw0_2, .inl (G.2.1, 30, .inl w0.2.1)), (hw0_3, .inl (G.2.1, 30, .inl w0.2.2.1)), (hw0_4, .inl (G.2.1, 30, .inl w0.2.2.2.1)), (hw0_5, .inl (G.2.1, 30, .inl w0.2.2.2.2.1)), (hw0_6, .inl (G.2.1, 64, .inl w0.2.2.2.2.2.1))] (some (.int r)) [(hw0_0, .inr (2, [.ref hw0_1, .ref hw0_2, .ref hw0_3, .ref hw0_4, .ref hw0_5, .ref hw0_6, .int w0.2.2.2.2.2.2.1, .int w0.2.2.2.2.2.2.2.1, .int w0.2.2.2.2.2.2.2.2.1, .int w0.2.2.2.2.2.2.2.2.2.1, .int w0.2.2.2.2.2.2.2.2.2.2])), (hw0_1, .inl (G.2.1, 30, .inl w0.1)), (hw0_2, .inl (G.2.1, 30, .inl w0.2.1)), (hw0_3, .inl (G.2.1, 30, .inl w0.2.2.1)), (hw0_4, .inl (G.2.1, 30, .inl w0.2.2.2.1)), (hw0_5, .inl (G.2.1, 30, .inl w0.2.2.2.2.1)), (hw0_6, .inl (G.2.1, 64, .inl w0.2.2.2.2.2.1))] := by
  refine Ct.ofW (cc := cX7_worth) (maxL := 4) (ret := (some .int)) (own := RX7) (by decide) rfl rfl (Nat.le_of_ble_eq_true rfl) ?_
  intro p e s m args below meth c A hx hb hr hml hts hown hlocks hK hP hD hA hS ls hl
  have hl : lv_has ls 4 [(0, .ref hw0_0), (1, .int p1), (2, .int p2), (3, .int p3)] := hl
  generalize hQ : gMQ below G _ _ A args s = Q
  generalize hH : s.heap = H at hP ⊢
  have hS : va_S A s.heap H [] := by rw [← hH]; exact hS
  generalize ([] : List Loc) = locs at hS ⊢
  unfold f_X7_worth at hf
  refine lv_iload_n (pc := 0) hx hb dX7_worth_0 rfl (lv_at hl 2 rfl) ?_
  by_cases hc1 : p2 = (1 : Int32)
  · have hf := br_y hc1 hf
    refine lv_lookup (off := 27) (tgt := 28) hx hb dX7_worth_1 (by decide) (by rw [hc1]; rfl) (by decide) ?_
    refine lv_aload_n (pc := 28) hx hb dX7_worth_28 rfl (lv_at hl 0 rfl) ?_
    refine lv_iload_n (pc := 29) hx hb dX7_worth_29 rfl (lv_at hl 3 rfl) ?_
    obtain ⟨x1, hcx1, hf⟩ := bn_some hf
    refine g_callV0 (pc := 30) (rest := []) hx hb hml hown hts hK (c_X2_lengthOf l G hw0_0 hw0_1 hw0_2 hw0_3 hw0_4 hw0_5 hw0_6 w0 p3 hcx1) wd_349 wd_5 wd_697 wd_347 wd_348 hd_X2_lengthOf ⟨rfl, rfl, Nat.le_of_ble_eq_true rfl, Nat.le_of_ble_eq_true rfl⟩ hP hD hS hA [0, 1, 2, 3, 4, 5, 6] rfl rfl 2 0 rfl rfl rfl rfl hl.1 rfl (Nat.le_of_ble_eq_true rfl) dX7_worth_30 ⟨Nat.zero_le _, Nat.zero_le _⟩ (fun H locs hP hS => ?_)
    refine lv_ineg (pc := 33) hx hb dX7_worth_33 ?_
    have hf := Option.some.inj hf; subst hf
    rw [← hQ]
    exact g_iret hx hb hr hlocks hP hS dX7_worth_34
  have hf := br_n hc1 hf
  by_cases hc2 : p2 = (2 : Int32)
  · have hf := br_y hc2 hf
    refine lv_lookup (off := 34) (tgt := 35) hx hb dX7_worth_1 (by decide) (by rw [hc2]; rfl) (by decide) ?_
    refine lv_aload_n (pc := 35) hx hb dX7_worth_35 rfl (lv_at hl 0 rfl) ?_
    refine lv_iload_n (pc := 36) hx hb dX7_worth_36 rfl (lv_at hl 1 rfl) ?_
    refine lv_iload_n (pc := 37) hx hb dX7_worth_37 rfl (lv_at hl 3 rfl) ?_
    obtain ⟨x2, hcx2, hf⟩ := bn_some hf
    refine g_callS0 (pc := 38) (rest := []) hx hb hml hown hts hK (c_X7_conflicts l G hw0_0 hw0_1 hw0_2 hw0_3 hw0_4 hw0_5 hw0_6 w0 p1 p3 hcx2) wd_700 wd_6 wd_698 wd_699 hd_X7_conflicts ⟨rfl, rfl, Nat.le_of_ble_eq_true rfl, Nat.le_of_ble_eq_true rfl⟩ hP hD hS hA [0, 1, 2, 3, 4, 5, 6] rfl rfl rfl hl.1 rfl (Nat.le_of_ble_eq_true rfl) dX7_worth_38 ⟨Nat.zero_le _, Nat.zero_le _⟩ (fun H locs hP hS => ?_)
    have hf := Option.some.inj hf; subst hf
    rw [← hQ]
    exact g_iret hx hb hr hlocks hP hS dX7_worth_41
  have hf := br_n hc2 hf
  refine lv_lookup (off := 41) (tgt := 42) hx hb dX7_worth_1 (by decide) (by show Op.lookupswitch.offset [(1, 27), (2, 34)] _ _ = _; rw [lv_osw (a := 1) hc1 rfl, lv_osw (a := 2) hc2 rfl]; rfl) (by decide) ?_
  refine lv_iconst (pc := 42) (v := (0 : Int32)) hx hb dX7_worth_42 (by decide) ?_
  have hf := Option.some.inj hf; subst hf
  rw [← hQ]
  exact g_iret hx hb hr hlocks hP hS dX7_worth_43
theorem hd_X7_choose : yX7_choose.cls ≠ "java/lang/invoke/MethodHandle" ∧ yX7_choose.cls ≠ "java/lang/invoke/VarHandle" ∧ (parseMethodDescriptor yX7_choose.desc).map (fun d => d.parameters.length) = some 3 := by decide +kernel
abbrev rm_X7_choose : Room := { frames := 4, cells := 0, slots := 0, locals := 89 }
noncomputable def f_X7_choose_J55 (w0 : TDelta) (p1 : Int32) (p2 : Int32) (rec8 : Int32 → Int32 → Int32 → Option Int32) (v5 : Int32) (v4 : Int32) (v3 : Int32) : Option Int32 :=
  rec8 (v5 + (1 : Int32)) v4 v3
noncomputable def f_X7_choose_J48 (w0 : TDelta) (p1 : Int32) (p2 : Int32) (rec8 : Int32 → Int32 → Int32 → Option Int32) (v6 : Int32) (v5 : Int32) : Option Int32 :=
  f_X7_choose_J55 w0 p1 p2 rec8 v5 v6 v5
noncomputable def f_X7_choose_L8 (w0 : TDelta) (p1 : Int32) (p2 : Int32)  : Nat → Int32 → Int32 → Int32 → Option Int32
  | 0, _, _, _ => none
  | k8 + 1, v5, v4, v3 =>
    br (w0.2.2.2.2.2.2.2.2.1 ≤ v5) (some v3) ((f_X10_isIn p1 v5).bind (fun x1 => br (x1 = 0) (f_X7_choose_J55 w0 p1 p2 (f_X7_choose_L8 w0 p1 p2  k8) v5 v4 v3) ((f_X7_worth w0 p1 p2 v5).bind (fun x2 => br (v3 = (-1 : Int32)) (f_X7_choose_J48 w0 p1 p2 (f_X7_choose_L8 w0 p1 p2  k8) x2 v5) (br (x2 ≤ v4) (f_X7_choose_J55 w0 p1 p2 (f_X7_choose_L8 w0 p1 p2  k8) v5 v4 v3) (f_X7_choose_J48 w0 p1 p2 (f_X7_choose_L8 w0 p1 p2  k8) x2 v5))))))
noncomputable def f_X7_choose (w0 : TDelta) (p1 : Int32) (p2 : Int32) : Option Int32 :=
  f_X7_choose_L8 w0 p1 p2 FUEL (0 : Int32) (0 : Int32) (-1 : Int32)
set_option maxHeartbeats 4000000 in
set_option maxRecDepth 100000 in
theorem c_X7_choose (l : Launch) (G : GT) (hw0_0 hw0_1 hw0_2 hw0_3 hw0_4 hw0_5 hw0_6 : Nat) (w0 : TDelta) (p1 : Int32) (p2 : Int32) {r : Int32} (hf : f_X7_choose w0 p1 p2 = some r) : Ct l yX7_choose (Cond.code yX7_choose cX7_choose 7 (some .int) :: lw_g) rm_X7_choose G [.ref hw0_0, .int p1, .int p2] [(hw0_0, .inr (2, [.ref hw0_1, .ref hw0_2, .ref hw0_3, .ref hw0_4, .ref hw0_5, .ref hw0_6, .int w0.2.2.2.2.2.2.1, .int w0.2.2.2.2.2.2.2.1, .int w0.2.2.2.2.2.2.2.2.1, .int w0.2.2.2.2.2.2.2.2.2.1, .int w0.2.2.2.2.2.2.2.2.2.2])), (hw0_1, .inl (G.2.1, 30, .inl w0.1)), (hw0_2, .inl (G.2.1, 30, .inl w0.2.1)), (hw0_3, .inl (G.2.1, 30, .inl w0.2.2.1)), (hw0_4, .inl (G.2.1, 30, .inl w0.2.2.2.1)), (hw0_5, .inl (G.2.1, 30, .inl w0.2.2.2.2.1)), (hw0_6, .inl (G.2.1, 64, .inl w0.2.2.2.2.2.1))] (some (.int r)) [(hw0_0, .inr (2, [.ref hw0_1, .ref hw0_2, .ref hw0_3, .ref hw0_4, .ref hw0_5, .ref hw0_6, .int w0.2.2.2.2.2.2.1, .int w0.2.2.2.2.2.2.2.1, .int w0.2.2.2.2.2.2.2.2.1, .int w0.2.2.2.2.2.2.2.2.2.1, .int w0.2.2.2.2.2.2.2.2.2.2])), (hw0_1, .inl (G.2.1, 30, .inl w0.1)), (hw0_2, .inl (G.2.1, 30, .inl w0.2.1)), (hw0_3, .inl (G.2.1, 30, .inl w0.2.2.1)), (hw0_4, .inl (G.2.1, 30, .inl w0.2.2.2.1)), (hw0_5, .inl (G.2.1, 30, .inl w0.2.2.2.2.1)), (hw0_6, .inl (G.2.1, 64, .inl w0.2.2.2.2.2.1))] := by
  refine Ct.ofW (cc := cX7_choose) (maxL := 7) (ret := (some .int)) (own := RX7) (by decide) rfl rfl (Nat.le_of_ble_eq_true rfl) ?_
  intro p e s m args below meth c A hx hb hr hml hts hown hlocks hK hP hD hA hS ls hl
  have hl : lv_has ls 7 [(0, .ref hw0_0), (1, .int p1), (2, .int p2)] := hl
  generalize hQ : gMQ below G _ _ A args s = Q
  generalize hH : s.heap = H at hP ⊢
  have hS : va_S A s.heap H [] := by rw [← hH]; exact hS
  generalize ([] : List Loc) = locs at hS ⊢
  unfold f_X7_choose at hf
  have hL8 : ∀ (k8 : Nat) (v5 : Int32) (v4 : Int32) (v3 : Int32), f_X7_choose_L8 w0 p1 p2  k8 v5 v4 v3 = some r → ∀ (H : Heap) (locs : List Loc), va_P G.1 vwCl [(hw0_0, .inr (2, [.ref hw0_1, .ref hw0_2, .ref hw0_3, .ref hw0_4, .ref hw0_5, .ref hw0_6, .int w0.2.2.2.2.2.2.1, .int w0.2.2.2.2.2.2.2.1, .int w0.2.2.2.2.2.2.2.2.1, .int w0.2.2.2.2.2.2.2.2.2.1, .int w0.2.2.2.2.2.2.2.2.2.2])), (hw0_1, .inl (G.2.1, 30, .inl w0.1)), (hw0_2, .inl (G.2.1, 30, .inl w0.2.1)), (hw0_3, .inl (G.2.1, 30, .inl w0.2.2.1)), (hw0_4, .inl (G.2.1, 30, .inl w0.2.2.2.1)), (hw0_5, .inl (G.2.1, 30, .inl w0.2.2.2.2.1)), (hw0_6, .inl (G.2.1, 64, .inl w0.2.2.2.2.2.1))] H → va_D A [(hw0_0, .inr (2, [.ref hw0_1, .ref hw0_2, .ref hw0_3, .ref hw0_4, .ref hw0_5, .ref hw0_6, .int w0.2.2.2.2.2.2.1, .int w0.2.2.2.2.2.2.2.1, .int w0.2.2.2.2.2.2.2.2.1, .int w0.2.2.2.2.2.2.2.2.2.1, .int w0.2.2.2.2.2.2.2.2.2.2])), (hw0_1, .inl (G.2.1, 30, .inl w0.1)), (hw0_2, .inl (G.2.1, 30, .inl w0.2.1)), (hw0_3, .inl (G.2.1, 30, .inl w0.2.2.1)), (hw0_4, .inl (G.2.1, 30, .inl w0.2.2.2.1)), (hw0_5, .inl (G.2.1, 30, .inl w0.2.2.2.2.1)), (hw0_6, .inl (G.2.1, 64, .inl w0.2.2.2.2.2.1))] → va_S A s.heap H locs → ∀ (ls : Array Slot), lv_has ls 7 [(5, .int v5), (4, .int v4), (3, .int v3), (0, .ref hw0_0), (1, .int p1), (2, .int p2)] → W p l e (rm_X7_choose) s m args below meth c H locs 0 0 Q (F0 m 8 ls []) := by
    intro k8
    induction k8 with
    | zero =>
      intro v5 v4 v3 hf
      rw [f_X7_choose_L8.eq_1] at hf; cases hf
    | succ k8 ih8 =>
      have hJ55 : ∀ (v5 : Int32) (v4 : Int32) (v3 : Int32), f_X7_choose_J55 w0 p1 p2 (f_X7_choose_L8 w0 p1 p2 k8) v5 v4 v3 = some r → ∀ (H : Heap) (locs : List Loc), va_P G.1 vwCl [(hw0_0, .inr (2, [.ref hw0_1, .ref hw0_2, .ref hw0_3, .ref hw0_4, .ref hw0_5, .ref hw0_6, .int w0.2.2.2.2.2.2.1, .int w0.2.2.2.2.2.2.2.1, .int w0.2.2.2.2.2.2.2.2.1, .int w0.2.2.2.2.2.2.2.2.2.1, .int w0.2.2.2.2.2.2.2.2.2.2])), (hw0_1, .inl (G.2.1, 30, .inl w0.1)), (hw0_2, .inl (G.2.1, 30, .inl w0.2.1)), (hw0_3, .inl (G.2.1, 30, .inl w0.2.2.1)), (hw0_4, .inl (G.2.1, 30, .inl w0.2.2.2.1)), (hw0_5, .inl (G.2.1, 30, .inl w0.2.2.2.2.1)), (hw0_6, .inl (G.2.1, 64, .inl w0.2.2.2.2.2.1))] H → va_D A [(hw0_0, .inr (2, [.ref hw0_1, .ref hw0_2, .ref hw0_3, .ref hw0_4, .ref hw0_5, .ref hw0_6, .int w0.2.2.2.2.2.2.1, .int w0.2.2.2.2.2.2.2.1, .int w0.2.2.2.2.2.2.2.2.1, .int w0.2.2.2.2.2.2.2.2.2.1, .int w0.2.2.2.2.2.2.2.2.2.2])), (hw0_1, .inl (G.2.1, 30, .inl w0.1)), (hw0_2, .inl (G.2.1, 30, .inl w0.2.1)), (hw0_3, .inl (G.2.1, 30, .inl w0.2.2.1)), (hw0_4, .inl (G.2.1, 30, .inl w0.2.2.2.1)), (hw0_5, .inl (G.2.1, 30, .inl w0.2.2.2.2.1)), (hw0_6, .inl (G.2.1, 64, .inl w0.2.2.2.2.2.1))] → va_S A s.heap H locs → ∀ (ls : Array Slot), lv_has ls 7 [(5, .int v5), (4, .int v4), (3, .int v3), (0, .ref hw0_0), (1, .int p1), (2, .int p2)] → W p l e (rm_X7_choose) s m args below meth c H locs 0 0 Q (F0 m 55 ls []) := by
        intro v5 v4 v3 hf H locs hP hD hS ls hl
        unfold f_X7_choose_J55 at hf
        refine lv_iinc (pc := 55) (v := (v5 + (1 : Int32))) (lv' := [(5, .int (v5 + (1 : Int32))), (4, .int v4), (3, .int v3), (0, .ref hw0_0), (1, .int p1), (2, .int p2)]) hx hb dX7_choose_55 hl (k := 0) rfl rfl (by decide) rfl (fun ls hl => ?_)
        refine lv_goto (pc := 58) (tgt := 8) hx hb dX7_choose_58 (by decide) ?_
        exact ih8 (v5 + (1 : Int32)) v4 v3 hf H locs hP hD hS ls (lv_sub hl [0, 1, 2, 3, 4, 5] rfl)
      have hJ48 : ∀ (v6 : Int32) (v5 : Int32), f_X7_choose_J48 w0 p1 p2 (f_X7_choose_L8 w0 p1 p2 k8) v6 v5 = some r → ∀ (H : Heap) (locs : List Loc), va_P G.1 vwCl [(hw0_0, .inr (2, [.ref hw0_1, .ref hw0_2, .ref hw0_3, .ref hw0_4, .ref hw0_5, .ref hw0_6, .int w0.2.2.2.2.2.2.1, .int w0.2.2.2.2.2.2.2.1, .int w0.2.2.2.2.2.2.2.2.1, .int w0.2.2.2.2.2.2.2.2.2.1, .int w0.2.2.2.2.2.2.2.2.2.2])), (hw0_1, .inl (G.2.1, 30, .inl w0.1)), (hw0_2, .inl (G.2.1, 30, .inl w0.2.1)), (hw0_3, .inl (G.2.1, 30, .inl w0.2.2.1)), (hw0_4, .inl (G.2.1, 30, .inl w0.2.2.2.1)), (hw0_5, .inl (G.2.1, 30, .inl w0.2.2.2.2.1)), (hw0_6, .inl (G.2.1, 64, .inl w0.2.2.2.2.2.1))] H → va_D A [(hw0_0, .inr (2, [.ref hw0_1, .ref hw0_2, .ref hw0_3, .ref hw0_4, .ref hw0_5, .ref hw0_6, .int w0.2.2.2.2.2.2.1, .int w0.2.2.2.2.2.2.2.1, .int w0.2.2.2.2.2.2.2.2.1, .int w0.2.2.2.2.2.2.2.2.2.1, .int w0.2.2.2.2.2.2.2.2.2.2])), (hw0_1, .inl (G.2.1, 30, .inl w0.1)), (hw0_2, .inl (G.2.1, 30, .inl w0.2.1)), (hw0_3, .inl (G.2.1, 30, .inl w0.2.2.1)), (hw0_4, .inl (G.2.1, 30, .inl w0.2.2.2.1)), (hw0_5, .inl (G.2.1, 30, .inl w0.2.2.2.2.1)), (hw0_6, .inl (G.2.1, 64, .inl w0.2.2.2.2.2.1))] → va_S A s.heap H locs → ∀ (ls : Array Slot), lv_has ls 7 [(6, .int v6), (5, .int v5), (0, .ref hw0_0), (1, .int p1), (2, .int p2)] → W p l e (rm_X7_choose) s m args below meth c H locs 0 0 Q (F0 m 48 ls []) := by
        intro v6 v5 hf H locs hP hD hS ls hl
        unfold f_X7_choose_J48 at hf
        refine lv_iload (pc := 48) hx hb dX7_choose_48 (lv_at hl 1 rfl) ?_
        refine lv_istore_n (pc := 50) (lv' := [(3, .int v5), (6, .int v6), (5, .int v5), (0, .ref hw0_0), (1, .int p1), (2, .int p2)]) hx hb dX7_choose_50 rfl hl (by decide) rfl (fun ls hl => ?_)
        refine lv_iload (pc := 51) hx hb dX7_choose_51 (lv_at hl 1 rfl) ?_
        refine lv_istore (pc := 53) (lv' := [(4, .int v6), (3, .int v5), (6, .int v6), (5, .int v5), (0, .ref hw0_0), (1, .int p1), (2, .int p2)]) hx hb dX7_choose_53 hl (by decide) rfl (fun ls hl => ?_)
        exact hJ55 v5 v6 v5 hf H locs hP hD hS ls (lv_sub hl [3, 0, 1, 4, 5, 6] rfl)
      intro v5 v4 v3 hf H locs hP hD hS ls hl
      rw [f_X7_choose_L8.eq_2] at hf
      refine lv_iload (pc := 8) hx hb dX7_choose_8 (lv_at hl 0 rfl) ?_
      refine lv_aload_n (pc := 10) hx hb dX7_choose_10 rfl (lv_at hl 3 rfl) ?_
      refine va_getN (pc := 11) (D := G.1) (ci := 2) (v := .int w0.2.2.2.2.2.2.2.2.1) (C := RX2) (T := TX2) (N := 11) hx hb hts inX2 hown hK.1 hP 0 rfl rfl 8 (by decide) (nfw_80 hK) (fun _ h9 => h9) rfl dX7_choose_11 ?_
      refine lv_icmp_ge (pc := 14) (tgt := 61) hx hb dX7_choose_14 (by decide) (fun hc => ?_) (fun hc => ?_)
      · have hf := br_y hc hf
        refine lv_iload_n (pc := 61) hx hb dX7_choose_61 rfl (lv_at hl 2 rfl) ?_
        have hf := Option.some.inj hf; subst hf
        rw [← hQ]
        exact g_iret hx hb hr hlocks hP hS dX7_choose_62
      · have hf := br_n hc hf
        refine lv_iload_n (pc := 17) hx hb dX7_choose_17 rfl (lv_at hl 4 rfl) ?_
        refine lv_iload (pc := 18) hx hb dX7_choose_18 (lv_at hl 0 rfl) ?_
        obtain ⟨x1, hcx1, hf⟩ := bn_some hf
        refine g_callSN0 (pc := 20) (rest := []) hx hb hml hown hts hK (c_X10_isIn l G  p1 v5 hcx1) wd_333 wd_1 (nmw_693 hK) wd_332 hd_X10_isIn ⟨rfl, rfl, Nat.le_of_ble_eq_true rfl, Nat.le_of_ble_eq_true rfl⟩ hP hD hS hA [] rfl rfl rfl hl.1 rfl (Nat.le_of_ble_eq_true rfl) dX7_choose_20 ⟨Nat.zero_le _, Nat.zero_le _⟩ (fun H locs hP hS => ?_)
        refine lv_if_eq (pc := 23) (tgt := 55) hx hb dX7_choose_23 (by decide) (fun hc => ?_) (fun hc => ?_)
        · have hf := br_y hc hf
          exact hJ55 v5 v4 v3 hf H locs hP hD hS ls (lv_sub hl [0, 1, 2, 3, 4, 5] rfl)
        · have hf := br_n hc hf
          refine lv_aload_n (pc := 26) hx hb dX7_choose_26 rfl (lv_at hl 3 rfl) ?_
          refine lv_iload_n (pc := 27) hx hb dX7_choose_27 rfl (lv_at hl 4 rfl) ?_
          refine lv_iload_n (pc := 28) hx hb dX7_choose_28 rfl (lv_at hl 5 rfl) ?_
          refine lv_iload (pc := 29) hx hb dX7_choose_29 (lv_at hl 0 rfl) ?_
          obtain ⟨x2, hcx2, hf⟩ := bn_some hf
          refine g_callS0 (pc := 31) (rest := []) hx hb hml hown hts hK (c_X7_worth l G hw0_0 hw0_1 hw0_2 hw0_3 hw0_4 hw0_5 hw0_6 w0 p1 p2 v5 hcx2) wd_696 wd_6 wd_694 wd_695 hd_X7_worth ⟨rfl, rfl, Nat.le_of_ble_eq_true rfl, Nat.le_of_ble_eq_true rfl⟩ hP hD hS hA [0, 1, 2, 3, 4, 5, 6] rfl rfl rfl hl.1 rfl (Nat.le_of_ble_eq_true rfl) dX7_choose_31 ⟨Nat.zero_le _, Nat.zero_le _⟩ (fun H locs hP hS => ?_)
          refine lv_istore (pc := 34) (lv' := [(6, .int x2), (5, .int v5), (4, .int v4), (3, .int v3), (0, .ref hw0_0), (1, .int p1), (2, .int p2)]) hx hb dX7_choose_34 hl (by decide) rfl (fun ls hl => ?_)
          refine lv_iload_n (pc := 36) hx hb dX7_choose_36 rfl (lv_at hl 3 rfl) ?_
          refine lv_iconst (pc := 37) (v := (-1 : Int32)) hx hb dX7_choose_37 (by decide) ?_
          refine lv_icmp_eq (pc := 38) (tgt := 48) hx hb dX7_choose_38 (by decide) (fun hc => ?_) (fun hc => ?_)
          · have hf := br_y hc hf
            exact hJ48 x2 v5 hf H locs hP hD hS ls (lv_sub hl [0, 1, 4, 5, 6] rfl)
          · have hf := br_n hc hf
            refine lv_iload (pc := 41) hx hb dX7_choose_41 (lv_at hl 0 rfl) ?_
            refine lv_iload (pc := 43) hx hb dX7_choose_43 (lv_at hl 2 rfl) ?_
            refine lv_icmp_le (pc := 45) (tgt := 55) hx hb dX7_choose_45 (by decide) (fun hc => ?_) (fun hc => ?_)
            · have hf := br_y hc hf
              exact hJ55 v5 v4 v3 hf H locs hP hD hS ls (lv_sub hl [1, 2, 3, 4, 5, 6] rfl)
            · have hf := br_n hc hf
              exact hJ48 x2 v5 hf H locs hP hD hS ls (lv_sub hl [0, 1, 4, 5, 6] rfl)
  refine lv_iconst (pc := 0) (v := (-1 : Int32)) hx hb dX7_choose_0 (by decide) ?_
  refine lv_istore_n (pc := 1) (lv' := [(3, .int (-1 : Int32)), (0, .ref hw0_0), (1, .int p1), (2, .int p2)]) hx hb dX7_choose_1 rfl hl (by decide) rfl (fun ls hl => ?_)
  refine lv_iconst (pc := 2) (v := (0 : Int32)) hx hb dX7_choose_2 (by decide) ?_
  refine lv_istore (pc := 3) (lv' := [(4, .int (0 : Int32)), (3, .int (-1 : Int32)), (0, .ref hw0_0), (1, .int p1), (2, .int p2)]) hx hb dX7_choose_3 hl (by decide) rfl (fun ls hl => ?_)
  refine lv_iconst (pc := 5) (v := (0 : Int32)) hx hb dX7_choose_5 (by decide) ?_
  refine lv_istore (pc := 6) (lv' := [(5, .int (0 : Int32)), (4, .int (0 : Int32)), (3, .int (-1 : Int32)), (0, .ref hw0_0), (1, .int p1), (2, .int p2)]) hx hb dX7_choose_6 hl (by decide) rfl (fun ls hl => ?_)
  exact hL8 FUEL (0 : Int32) (0 : Int32) (-1 : Int32) hf H locs hP hD hS ls (lv_sub hl [0, 1, 2, 3, 4, 5] rfl)
theorem hd_X7_place : yX7_place.cls ≠ "java/lang/invoke/MethodHandle" ∧ yX7_place.cls ≠ "java/lang/invoke/VarHandle" ∧ (parseMethodDescriptor yX7_place.desc).map (fun d => d.parameters.length) = some 1 := by decide +kernel
abbrev rm_X7_place : Room := { frames := 0, cells := 0, slots := 0, locals := 0 }
noncomputable def f_X7_place (w0 : TPlan) (p1 : Int32) : Option TPlan :=
  br ((30 : Int32) ≤ w0.2.2.1) (some w0) (gd (vp_in w0.2.2.1 30) (some ((upd w0.1 w0.2.2.1.toNatClampNeg p1), w0.2.1, (w0.2.2.1 + (1 : Int32)), w0.2.2.2.1, w0.2.2.2.2)))
set_option maxHeartbeats 4000000 in
set_option maxRecDepth 100000 in
theorem c_X7_place (l : Launch) (G : GT) (hw0_0 hw0_1 : Nat) (w0 : TPlan) (p1 : Int32) {r : TPlan} (hf : f_X7_place w0 p1 = some r) : Ct l yX7_place (Cond.code yX7_place cX7_place 2 none :: lw_g) rm_X7_place G [.ref hw0_0, .int p1] [(hw0_0, .inr (4, [.ref hw0_1, .int w0.2.1, .int w0.2.2.1, .int w0.2.2.2.1, .int w0.2.2.2.2])), (hw0_1, .inl (G.2.1, 30, .inl w0.1))] none [(hw0_0, .inr (4, [.ref hw0_1, .int r.2.1, .int r.2.2.1, .int r.2.2.2.1, .int r.2.2.2.2])), (hw0_1, .inl (G.2.1, 30, .inl r.1))] := by
  refine Ct.ofW (cc := cX7_place) (maxL := 2) (ret := none) (own := RX7) (by decide) rfl rfl (Nat.le_of_ble_eq_true rfl) ?_
  intro p e s m args below meth c A hx hb hr hml hts hown hlocks hK hP hD hA hS ls hl
  have hl : lv_has ls 2 [(0, .ref hw0_0), (1, .int p1)] := hl
  generalize hQ : gMQ below G _ _ A args s = Q
  generalize hH : s.heap = H at hP ⊢
  have hS : va_S A s.heap H [] := by rw [← hH]; exact hS
  generalize ([] : List Loc) = locs at hS ⊢
  unfold f_X7_place at hf
  refine lv_aload_n (pc := 0) hx hb dX7_place_0 rfl (lv_at hl 0 rfl) ?_
  refine va_get (pc := 1) (D := G.1) (ci := 4) (v := .int w0.2.2.1) (C := RX7) (T := TX7) (N := 5) hx hb hts inX7 hown hK.1 hP 0 rfl rfl 2 (by decide) (hts _ wd_119) (fun _ h9 => h9) rfl dX7_place_1 ?_
  refine lv_bipush (pc := 4) (v := (30 : Int32)) hx hb dX7_place_4 (by decide) ?_
  refine lv_icmp_ge (pc := 6) (tgt := 29) hx hb dX7_place_6 (by decide) (fun hc => ?_) (fun hc => ?_)
  · have hf := br_y hc hf
    have hf := Option.some.inj hf; subst hf
    rw [← hQ]
    exact g_vret hx hb hr hlocks hP hS dX7_place_29
  · have hf := br_n hc hf
    refine lv_aload_n (pc := 9) hx hb dX7_place_9 rfl (lv_at hl 0 rfl) ?_
    refine va_get (pc := 10) (D := G.1) (ci := 4) (v := .ref hw0_1) (C := RX7) (T := TX7) (N := 5) hx hb hts inX7 hown hK.1 hP 0 rfl rfl 0 (by decide) (hts _ wd_115) (fun _ h9 => h9) rfl dX7_place_10 ?_
    refine lv_aload_n (pc := 13) hx hb dX7_place_13 rfl (lv_at hl 0 rfl) ?_
    refine va_get (pc := 14) (D := G.1) (ci := 4) (v := .int w0.2.2.1) (C := RX7) (T := TX7) (N := 5) hx hb hts inX7 hown hK.1 hP 0 rfl rfl 2 (by decide) (hts _ wd_119) (fun _ h9 => h9) rfl dX7_place_14 ?_
    refine lv_iload_n (pc := 17) hx hb dX7_place_17 rfl (lv_at hl 1 rfl) ?_
    obtain ⟨hg, hf⟩ := gd_some hf
    refine va_iast (pc := 18) hx hb hK.1 hP hD hS 1 0 rfl rfl hg dX7_place_18 (fun H locs hP hD hS => ?_)
    have hP : va_P G.1 vwCl [(hw0_0, .inr (4, [.ref hw0_1, .int w0.2.1, .int w0.2.2.1, .int w0.2.2.2.1, .int w0.2.2.2.2])), (hw0_1, .inl (G.2.1, 30, .inl (upd w0.1 w0.2.2.1.toNatClampNeg p1)))] H := hP
    have hD : va_D A [(hw0_0, .inr (4, [.ref hw0_1, .int w0.2.1, .int w0.2.2.1, .int w0.2.2.2.1, .int w0.2.2.2.2])), (hw0_1, .inl (G.2.1, 30, .inl (upd w0.1 w0.2.2.1.toNatClampNeg p1)))] := hD
    refine lv_aload_n (pc := 19) hx hb dX7_place_19 rfl (lv_at hl 0 rfl) ?_
    refine lv_dup (pc := 20) hx hb dX7_place_20 rfl ?_
    refine va_get (pc := 21) (D := G.1) (ci := 4) (v := .int w0.2.2.1) (C := RX7) (T := TX7) (N := 5) hx hb hts inX7 hown hK.1 hP 0 rfl rfl 2 (by decide) (hts _ wd_119) (fun _ h9 => h9) rfl dX7_place_21 ?_
    refine lv_iconst (pc := 24) (v := (1 : Int32)) hx hb dX7_place_24 (by decide) ?_
    refine lv_iadd (pc := 25) hx hb dX7_place_25 ?_
    refine va_put (pc := 26) (D := G.1) (ci := 4) (v := .int (w0.2.2.1 + (1 : Int32))) (ty := .int) (C := RX7) (T := TX7) (N := 5) hx hb hts inX7 tyX7 tyX7_ok nmX7 hown hK.1 hP hD hS 0 rfl rfl 2 (by decide) (hts _ wd_119) (fun _ h9 => h9) rfl (by decide +kernel) rfl rfl (Nat.le_of_ble_eq_true rfl) dX7_place_26 (fun H locs hP hD hS => ?_)
    have hP : va_P G.1 vwCl [(hw0_0, .inr (4, [.ref hw0_1, .int w0.2.1, .int (w0.2.2.1 + (1 : Int32)), .int w0.2.2.2.1, .int w0.2.2.2.2])), (hw0_1, .inl (G.2.1, 30, .inl (upd w0.1 w0.2.2.1.toNatClampNeg p1)))] H := hP
    have hD : va_D A [(hw0_0, .inr (4, [.ref hw0_1, .int w0.2.1, .int (w0.2.2.1 + (1 : Int32)), .int w0.2.2.2.1, .int w0.2.2.2.2])), (hw0_1, .inl (G.2.1, 30, .inl (upd w0.1 w0.2.2.1.toNatClampNeg p1)))] := hD
    have hf := Option.some.inj hf; subst hf
    rw [← hQ]
    exact g_vret hx hb hr hlocks hP hS dX7_place_29
theorem hd_X7_placeCopies : yX7_placeCopies.cls ≠ "java/lang/invoke/MethodHandle" ∧ yX7_placeCopies.cls ≠ "java/lang/invoke/VarHandle" ∧ (parseMethodDescriptor yX7_placeCopies.desc).map (fun d => d.parameters.length) = some 2 := by decide +kernel
abbrev rm_X7_placeCopies : Room := { frames := 5, cells := 0, slots := 0, locals := 115 }
noncomputable def f_X7_placeCopies_J77 (w1 : TDelta) (p2 : Int32) (rec8 : TPlan → Int32 → Int32 → Option TPlan) (w0 : TPlan) (v5 : Int32) (v4 : Int32) (v3 : Int32) : Option TPlan :=
  (f_X10_without v3 v5).bind (fun x3 => rec8 w0 (v4 + (1 : Int32)) x3)
noncomputable def f_X7_placeCopies_L8 (w1 : TDelta) (p2 : Int32)  : Nat → TPlan → Int32 → Int32 → Option TPlan
  | 0, _, _, _ => none
  | k8 + 1, w0, v4, v3 =>
    br ((30 : Int32) ≤ v4) (some w0) (br (v3 = 0) (some w0) ((f_X2_firstFree w1 v3).bind (fun x1 => br (x1 = (-1 : Int32)) ((f_X7_choose w1 v3 p2).bind (fun x4 => (f_X2_lengthOf w1 x4).bind (fun x5 => f_X7_placeCopies_J77 w1 p2 (f_X7_placeCopies_L8 w1 p2  k8) (w0.1, w0.2.1, w0.2.2.1, (w0.2.2.2.1 ||| ((1 : Int32) <<< (x4 &&& 31))), (w0.2.2.2.2 + x5)) x4 v4 v3))) ((f_X7_place w0 x1).bind (fun x2 => f_X7_placeCopies_J77 w1 p2 (f_X7_placeCopies_L8 w1 p2  k8) x2 x1 v4 v3)))))
noncomputable def f_X7_placeCopies (w0 : TPlan) (w1 : TDelta) (p2 : Int32) : Option TPlan :=
  f_X7_placeCopies_L8 w1 p2 FUEL w0 (0 : Int32) w1.2.2.2.2.2.2.2.2.2.1
set_option maxHeartbeats 4000000 in
set_option maxRecDepth 100000 in
theorem c_X7_placeCopies (l : Launch) (G : GT) (hw0_0 hw0_1 : Nat) (hw1_0 hw1_1 hw1_2 hw1_3 hw1_4 hw1_5 hw1_6 : Nat) (w0 : TPlan) (w1 : TDelta) (p2 : Int32) {r : TPlan} (hf : f_X7_placeCopies w0 w1 p2 = some r) : Ct l yX7_placeCopies (Cond.code yX7_placeCopies cX7_placeCopies 6 none :: lw_g) rm_X7_placeCopies G [.ref hw0_0, .ref hw1_0, .int p2] [(hw0_0, .inr (4, [.ref hw0_1, .int w0.2.1, .int w0.2.2.1, .int w0.2.2.2.1, .int w0.2.2.2.2])), (hw0_1, .inl (G.2.1, 30, .inl w0.1)), (hw1_0, .inr (2, [.ref hw1_1, .ref hw1_2, .ref hw1_3, .ref hw1_4, .ref hw1_5, .ref hw1_6, .int w1.2.2.2.2.2.2.1, .int w1.2.2.2.2.2.2.2.1, .int w1.2.2.2.2.2.2.2.2.1, .int w1.2.2.2.2.2.2.2.2.2.1, .int w1.2.2.2.2.2.2.2.2.2.2])), (hw1_1, .inl (G.2.1, 30, .inl w1.1)), (hw1_2, .inl (G.2.1, 30, .inl w1.2.1)), (hw1_3, .inl (G.2.1, 30, .inl w1.2.2.1)), (hw1_4, .inl (G.2.1, 30, .inl w1.2.2.2.1)), (hw1_5, .inl (G.2.1, 30, .inl w1.2.2.2.2.1)), (hw1_6, .inl (G.2.1, 64, .inl w1.2.2.2.2.2.1))] none [(hw0_0, .inr (4, [.ref hw0_1, .int r.2.1, .int r.2.2.1, .int r.2.2.2.1, .int r.2.2.2.2])), (hw0_1, .inl (G.2.1, 30, .inl r.1)), (hw1_0, .inr (2, [.ref hw1_1, .ref hw1_2, .ref hw1_3, .ref hw1_4, .ref hw1_5, .ref hw1_6, .int w1.2.2.2.2.2.2.1, .int w1.2.2.2.2.2.2.2.1, .int w1.2.2.2.2.2.2.2.2.1, .int w1.2.2.2.2.2.2.2.2.2.1, .int w1.2.2.2.2.2.2.2.2.2.2])), (hw1_1, .inl (G.2.1, 30, .inl w1.1)), (hw1_2, .inl (G.2.1, 30, .inl w1.2.1)), (hw1_3, .inl (G.2.1, 30, .inl w1.2.2.1)), (hw1_4, .inl (G.2.1, 30, .inl w1.2.2.2.1)), (hw1_5, .inl (G.2.1, 30, .inl w1.2.2.2.2.1)), (hw1_6, .inl (G.2.1, 64, .inl w1.2.2.2.2.2.1))] := by
  refine Ct.ofW (cc := cX7_placeCopies) (maxL := 6) (ret := none) (own := RX7) (by decide) rfl rfl (Nat.le_of_ble_eq_true rfl) ?_
  intro p e s m args below meth c A hx hb hr hml hts hown hlocks hK hP hD hA hS ls hl
  have hl : lv_has ls 6 [(0, .ref hw0_0), (1, .ref hw1_0), (2, .int p2)] := hl
  generalize hQ : gMQ below G _ _ A args s = Q
  generalize hH : s.heap = H at hP ⊢
  have hS : va_S A s.heap H [] := by rw [← hH]; exact hS
  generalize ([] : List Loc) = locs at hS ⊢
  unfold f_X7_placeCopies at hf
  have hL8 : ∀ (k8 : Nat) (w0 : TPlan) (v4 : Int32) (v3 : Int32), f_X7_placeCopies_L8 w1 p2  k8 w0 v4 v3 = some r → ∀ (H : Heap) (locs : List Loc), va_P G.1 vwCl [(hw0_0, .inr (4, [.ref hw0_1, .int w0.2.1, .int w0.2.2.1, .int w0.2.2.2.1, .int w0.2.2.2.2])), (hw0_1, .inl (G.2.1, 30, .inl w0.1)), (hw1_0, .inr (2, [.ref hw1_1, .ref hw1_2, .ref hw1_3, .ref hw1_4, .ref hw1_5, .ref hw1_6, .int w1.2.2.2.2.2.2.1, .int w1.2.2.2.2.2.2.2.1, .int w1.2.2.2.2.2.2.2.2.1, .int w1.2.2.2.2.2.2.2.2.2.1, .int w1.2.2.2.2.2.2.2.2.2.2])), (hw1_1, .inl (G.2.1, 30, .inl w1.1)), (hw1_2, .inl (G.2.1, 30, .inl w1.2.1)), (hw1_3, .inl (G.2.1, 30, .inl w1.2.2.1)), (hw1_4, .inl (G.2.1, 30, .inl w1.2.2.2.1)), (hw1_5, .inl (G.2.1, 30, .inl w1.2.2.2.2.1)), (hw1_6, .inl (G.2.1, 64, .inl w1.2.2.2.2.2.1))] H → va_D A [(hw0_0, .inr (4, [.ref hw0_1, .int w0.2.1, .int w0.2.2.1, .int w0.2.2.2.1, .int w0.2.2.2.2])), (hw0_1, .inl (G.2.1, 30, .inl w0.1)), (hw1_0, .inr (2, [.ref hw1_1, .ref hw1_2, .ref hw1_3, .ref hw1_4, .ref hw1_5, .ref hw1_6, .int w1.2.2.2.2.2.2.1, .int w1.2.2.2.2.2.2.2.1, .int w1.2.2.2.2.2.2.2.2.1, .int w1.2.2.2.2.2.2.2.2.2.1, .int w1.2.2.2.2.2.2.2.2.2.2])), (hw1_1, .inl (G.2.1, 30, .inl w1.1)), (hw1_2, .inl (G.2.1, 30, .inl w1.2.1)), (hw1_3, .inl (G.2.1, 30, .inl w1.2.2.1)), (hw1_4, .inl (G.2.1, 30, .inl w1.2.2.2.1)), (hw1_5, .inl (G.2.1, 30, .inl w1.2.2.2.2.1)), (hw1_6, .inl (G.2.1, 64, .inl w1.2.2.2.2.2.1))] → va_S A s.heap H locs → ∀ (ls : Array Slot), lv_has ls 6 [(4, .int v4), (3, .int v3), (0, .ref hw0_0), (1, .ref hw1_0), (2, .int p2)] → W p l e (rm_X7_placeCopies) s m args below meth c H locs 0 0 Q (F0 m 8 ls []) := by
    intro k8
    induction k8 with
    | zero =>
      intro w0 v4 v3 hf
      rw [f_X7_placeCopies_L8.eq_1] at hf; cases hf
    | succ k8 ih8 =>
      have hJ77 : ∀ (w0 : TPlan) (v5 : Int32) (v4 : Int32) (v3 : Int32), f_X7_placeCopies_J77 w1 p2 (f_X7_placeCopies_L8 w1 p2 k8) w0 v5 v4 v3 = some r → ∀ (H : Heap) (locs : List Loc), va_P G.1 vwCl [(hw0_0, .inr (4, [.ref hw0_1, .int w0.2.1, .int w0.2.2.1, .int w0.2.2.2.1, .int w0.2.2.2.2])), (hw0_1, .inl (G.2.1, 30, .inl w0.1)), (hw1_0, .inr (2, [.ref hw1_1, .ref hw1_2, .ref hw1_3, .ref hw1_4, .ref hw1_5, .ref hw1_6, .int w1.2.2.2.2.2.2.1, .int w1.2.2.2.2.2.2.2.1, .int w1.2.2.2.2.2.2.2.2.1, .int w1.2.2.2.2.2.2.2.2.2.1, .int w1.2.2.2.2.2.2.2.2.2.2])), (hw1_1, .inl (G.2.1, 30, .inl w1.1)), (hw1_2, .inl (G.2.1, 30, .inl w1.2.1)), (hw1_3, .inl (G.2.1, 30, .inl w1.2.2.1)), (hw1_4, .inl (G.2.1, 30, .inl w1.2.2.2.1)), (hw1_5, .inl (G.2.1, 30, .inl w1.2.2.2.2.1)), (hw1_6, .inl (G.2.1, 64, .inl w1.2.2.2.2.2.1))] H → va_D A [(hw0_0, .inr (4, [.ref hw0_1, .int w0.2.1, .int w0.2.2.1, .int w0.2.2.2.1, .int w0.2.2.2.2])), (hw0_1, .inl (G.2.1, 30, .inl w0.1)), (hw1_0, .inr (2, [.ref hw1_1, .ref hw1_2, .ref hw1_3, .ref hw1_4, .ref hw1_5, .ref hw1_6, .int w1.2.2.2.2.2.2.1, .int w1.2.2.2.2.2.2.2.1, .int w1.2.2.2.2.2.2.2.2.1, .int w1.2.2.2.2.2.2.2.2.2.1, .int w1.2.2.2.2.2.2.2.2.2.2])), (hw1_1, .inl (G.2.1, 30, .inl w1.1)), (hw1_2, .inl (G.2.1, 30, .inl w1.2.1)), (hw1_3, .inl (G.2.1, 30, .inl w1.2.2.1)), (hw1_4, .inl (G.2.1, 30, .inl w1.2.2.2.1)), (hw1_5, .inl (G.2.1, 30, .inl w1.2.2.2.2.1)), (hw1_6, .inl (G.2.1, 64, .inl w1.2.2.2.2.2.1))] → va_S A s.heap H locs → ∀ (ls : Array Slot), lv_has ls 6 [(5, .int v5), (4, .int v4), (3, .int v3), (0, .ref hw0_0), (1, .ref hw1_0), (2, .int p2)] → W p l e (rm_X7_placeCopies) s m args below meth c H locs 0 0 Q (F0 m 77 ls []) := by
        intro w0 v5 v4 v3 hf H locs hP hD hS ls hl
        unfold f_X7_placeCopies_J77 at hf
        refine lv_iload_n (pc := 77) hx hb dX7_placeCopies_77 rfl (lv_at hl 2 rfl) ?_
        refine lv_iload (pc := 78) hx hb dX7_placeCopies_78 (lv_at hl 0 rfl) ?_
        obtain ⟨x3, hcx3, hf⟩ := bn_some hf
        refine g_callSN0 (pc := 80) (rest := []) hx hb hml hown hts hK (c_X10_without l G  v3 v5 hcx3) wd_391 wd_1 (nmw_707 hK) wd_390 hd_X10_without ⟨rfl, rfl, Nat.le_of_ble_eq_true rfl, Nat.le_of_ble_eq_true rfl⟩ hP hD hS hA [] rfl rfl rfl hl.1 rfl (Nat.le_of_ble_eq_true rfl) dX7_placeCopies_80 ⟨Nat.zero_le _, Nat.zero_le _⟩ (fun H locs hP hS => ?_)
        refine lv_istore_n (pc := 83) (lv' := [(3, .int x3), (5, .int v5), (4, .int v4), (0, .ref hw0_0), (1, .ref hw1_0), (2, .int p2)]) hx hb dX7_placeCopies_83 rfl hl (by decide) rfl (fun ls hl => ?_)
        refine lv_iinc (pc := 84) (v := (v4 + (1 : Int32))) (lv' := [(4, .int (v4 + (1 : Int32))), (3, .int x3), (5, .int v5), (0, .ref hw0_0), (1, .ref hw1_0), (2, .int p2)]) hx hb dX7_placeCopies_84 hl (k := 2) rfl rfl (by decide) rfl (fun ls hl => ?_)
        refine lv_goto (pc := 87) (tgt := 8) hx hb dX7_placeCopies_87 (by decide) ?_
        exact ih8 w0 (v4 + (1 : Int32)) x3 hf H locs hP hD hS ls (lv_sub hl [0, 1, 3, 4, 5] rfl)
      intro w0 v4 v3 hf H locs hP hD hS ls hl
      rw [f_X7_placeCopies_L8.eq_2] at hf
      refine lv_iload (pc := 8) hx hb dX7_placeCopies_8 (lv_at hl 0 rfl) ?_
      refine lv_bipush (pc := 10) (v := (30 : Int32)) hx hb dX7_placeCopies_10 (by decide) ?_
      refine lv_icmp_ge (pc := 12) (tgt := 90) hx hb dX7_placeCopies_12 (by decide) (fun hc => ?_) (fun hc => ?_)
      · have hf := br_y hc hf
        have hf := Option.some.inj hf; subst hf
        rw [← hQ]
        exact g_vret hx hb hr hlocks hP hS dX7_placeCopies_90
      · have hf := br_n hc hf
        refine lv_iload_n (pc := 15) hx hb dX7_placeCopies_15 rfl (lv_at hl 1 rfl) ?_
        refine lv_if_eq (pc := 16) (tgt := 90) hx hb dX7_placeCopies_16 (by decide) (fun hc => ?_) (fun hc => ?_)
        · have hf := br_y hc hf
          have hf := Option.some.inj hf; subst hf
          rw [← hQ]
          exact g_vret hx hb hr hlocks hP hS dX7_placeCopies_90
        · have hf := br_n hc hf
          refine lv_aload_n (pc := 19) hx hb dX7_placeCopies_19 rfl (lv_at hl 3 rfl) ?_
          refine lv_iload_n (pc := 20) hx hb dX7_placeCopies_20 rfl (lv_at hl 1 rfl) ?_
          obtain ⟨x1, hcx1, hf⟩ := bn_some hf
          refine g_callV0 (pc := 21) (rest := []) hx hb hml hown hts hK (c_X2_firstFree l G hw1_0 hw1_1 hw1_2 hw1_3 hw1_4 hw1_5 hw1_6 w1 v3 hcx1) wd_384 wd_5 wd_689 wd_382 wd_383 hd_X2_firstFree ⟨rfl, rfl, Nat.le_of_ble_eq_true rfl, Nat.le_of_ble_eq_true rfl⟩ hP hD hS hA [2, 3, 4, 5, 6, 7, 8] rfl rfl 2 2 rfl rfl rfl rfl hl.1 rfl (Nat.le_of_ble_eq_true rfl) dX7_placeCopies_21 ⟨Nat.zero_le _, Nat.zero_le _⟩ (fun H locs hP hS => ?_)
          refine lv_istore (pc := 24) (lv' := [(5, .int x1), (4, .int v4), (3, .int v3), (0, .ref hw0_0), (1, .ref hw1_0), (2, .int p2)]) hx hb dX7_placeCopies_24 hl (by decide) rfl (fun ls hl => ?_)
          refine lv_iload (pc := 26) hx hb dX7_placeCopies_26 (lv_at hl 0 rfl) ?_
          refine lv_iconst (pc := 28) (v := (-1 : Int32)) hx hb dX7_placeCopies_28 (by decide) ?_
          refine lv_icmp_ne (pc := 29) (tgt := 71) hx hb dX7_placeCopies_29 (by decide) (fun hc => ?_) (fun hc => ?_)
          · have hf := br_n hc hf
            refine lv_aload_n (pc := 71) hx hb dX7_placeCopies_71 rfl (lv_at hl 3 rfl) ?_
            refine lv_iload (pc := 72) hx hb dX7_placeCopies_72 (lv_at hl 0 rfl) ?_
            obtain ⟨x2, hcx2, hf⟩ := bn_some hf
            refine g_callV (pc := 74) (ws' := [(hw0_0, .inr (4, [.ref hw0_1, .int x2.2.1, .int x2.2.2.1, .int x2.2.2.2.1, .int x2.2.2.2.2])), (hw0_1, .inl (G.2.1, 30, .inl x2.1)), (hw1_0, .inr (2, [.ref hw1_1, .ref hw1_2, .ref hw1_3, .ref hw1_4, .ref hw1_5, .ref hw1_6, .int w1.2.2.2.2.2.2.1, .int w1.2.2.2.2.2.2.2.1, .int w1.2.2.2.2.2.2.2.2.1, .int w1.2.2.2.2.2.2.2.2.2.1, .int w1.2.2.2.2.2.2.2.2.2.2])), (hw1_1, .inl (G.2.1, 30, .inl w1.1)), (hw1_2, .inl (G.2.1, 30, .inl w1.2.1)), (hw1_3, .inl (G.2.1, 30, .inl w1.2.2.1)), (hw1_4, .inl (G.2.1, 30, .inl w1.2.2.2.1)), (hw1_5, .inl (G.2.1, 30, .inl w1.2.2.2.2.1)), (hw1_6, .inl (G.2.1, 64, .inl w1.2.2.2.2.2.1))]) (rest := []) hx hb hml hown hts hK (c_X7_place l G hw0_0 hw0_1 w0 x1 hcx2) wd_706 wd_6 wd_703 wd_705 ws_8 hd_X7_place ⟨rfl, rfl, Nat.le_of_ble_eq_true rfl, Nat.le_of_ble_eq_true rfl⟩ hP hD hS hA [0, 1] rfl rfl rfl rfl 4 0 rfl rfl rfl rfl hl.1 rfl (Nat.le_of_ble_eq_true rfl) dX7_placeCopies_74 ⟨Nat.zero_le _, Nat.zero_le _⟩ (fun H locs hP hD hS => ?_)
            exact hJ77 x2 x1 v4 v3 hf H locs hP hD hS ls (lv_sub hl [0, 1, 2, 3, 4, 5] rfl)
          · have hf := br_y hc hf
            refine lv_aload_n (pc := 32) hx hb dX7_placeCopies_32 rfl (lv_at hl 4 rfl) ?_
            refine lv_iload_n (pc := 33) hx hb dX7_placeCopies_33 rfl (lv_at hl 2 rfl) ?_
            refine lv_iload_n (pc := 34) hx hb dX7_placeCopies_34 rfl (lv_at hl 5 rfl) ?_
            obtain ⟨x4, hcx4, hf⟩ := bn_some hf
            refine g_callS0 (pc := 35) (rest := []) hx hb hml hown hts hK (c_X7_choose l G hw1_0 hw1_1 hw1_2 hw1_3 hw1_4 hw1_5 hw1_6 w1 v3 p2 hcx4) wd_692 wd_6 wd_690 wd_691 hd_X7_choose ⟨rfl, rfl, Nat.le_of_ble_eq_true rfl, Nat.le_of_ble_eq_true rfl⟩ hP hD hS hA [2, 3, 4, 5, 6, 7, 8] rfl rfl rfl hl.1 rfl (Nat.le_of_ble_eq_true rfl) dX7_placeCopies_35 ⟨Nat.zero_le _, Nat.zero_le _⟩ (fun H locs hP hS => ?_)
            refine lv_istore (pc := 38) (lv' := [(5, .int x4), (4, .int v4), (3, .int v3), (0, .ref hw0_0), (1, .ref hw1_0), (2, .int p2)]) hx hb dX7_placeCopies_38 hl (by decide) rfl (fun ls hl => ?_)
            refine lv_aload_n (pc := 40) hx hb dX7_placeCopies_40 rfl (lv_at hl 3 rfl) ?_
            refine lv_dup (pc := 41) hx hb dX7_placeCopies_41 rfl ?_
            refine va_get (pc := 42) (D := G.1) (ci := 4) (v := .int w0.2.2.2.1) (C := RX7) (T := TX7) (N := 5) hx hb hts inX7 hown hK.1 hP 0 rfl rfl 3 (by decide) (hts _ wd_122) (fun _ h9 => h9) rfl dX7_placeCopies_42 ?_
            refine lv_iconst (pc := 45) (v := (1 : Int32)) hx hb dX7_placeCopies_45 (by decide) ?_
            refine lv_iload (pc := 46) hx hb dX7_placeCopies_46 (lv_at hl 0 rfl) ?_
            refine lv_ishl (pc := 48) hx hb dX7_placeCopies_48 ?_
            refine lv_ior (pc := 49) hx hb dX7_placeCopies_49 ?_
            refine va_put (pc := 50) (D := G.1) (ci := 4) (v := .int (w0.2.2.2.1 ||| ((1 : Int32) <<< (x4 &&& 31)))) (ty := .int) (C := RX7) (T := TX7) (N := 5) hx hb hts inX7 tyX7 tyX7_ok nmX7 hown hK.1 hP hD hS 0 rfl rfl 3 (by decide) (hts _ wd_122) (fun _ h9 => h9) rfl (by decide +kernel) rfl rfl (Nat.le_of_ble_eq_true rfl) dX7_placeCopies_50 (fun H locs hP hD hS => ?_)
            have hP : va_P G.1 vwCl [(hw0_0, .inr (4, [.ref hw0_1, .int w0.2.1, .int w0.2.2.1, .int (w0.2.2.2.1 ||| ((1 : Int32) <<< (x4 &&& 31))), .int w0.2.2.2.2])), (hw0_1, .inl (G.2.1, 30, .inl w0.1)), (hw1_0, .inr (2, [.ref hw1_1, .ref hw1_2, .ref hw1_3, .ref hw1_4, .ref hw1_5, .ref hw1_6, .int w1.2.2.2.2.2.2.1, .int w1.2.2.2.2.2.2.2.1, .int w1.2.2.2.2.2.2.2.2.1, .int w1.2.2.2.2.2.2.2.2.2.1, .int w1.2.2.2.2.2.2.2.2.2.2])), (hw1_1, .inl (G.2.1, 30, .inl w1.1)), (hw1_2, .inl (G.2.1, 30, .inl w1.2.1)), (hw1_3, .inl (G.2.1, 30, .inl w1.2.2.1)), (hw1_4, .inl (G.2.1, 30, .inl w1.2.2.2.1)), (hw1_5, .inl (G.2.1, 30, .inl w1.2.2.2.2.1)), (hw1_6, .inl (G.2.1, 64, .inl w1.2.2.2.2.2.1))] H := hP
            have hD : va_D A [(hw0_0, .inr (4, [.ref hw0_1, .int w0.2.1, .int w0.2.2.1, .int (w0.2.2.2.1 ||| ((1 : Int32) <<< (x4 &&& 31))), .int w0.2.2.2.2])), (hw0_1, .inl (G.2.1, 30, .inl w0.1)), (hw1_0, .inr (2, [.ref hw1_1, .ref hw1_2, .ref hw1_3, .ref hw1_4, .ref hw1_5, .ref hw1_6, .int w1.2.2.2.2.2.2.1, .int w1.2.2.2.2.2.2.2.1, .int w1.2.2.2.2.2.2.2.2.1, .int w1.2.2.2.2.2.2.2.2.2.1, .int w1.2.2.2.2.2.2.2.2.2.2])), (hw1_1, .inl (G.2.1, 30, .inl w1.1)), (hw1_2, .inl (G.2.1, 30, .inl w1.2.1)), (hw1_3, .inl (G.2.1, 30, .inl w1.2.2.1)), (hw1_4, .inl (G.2.1, 30, .inl w1.2.2.2.1)), (hw1_5, .inl (G.2.1, 30, .inl w1.2.2.2.2.1)), (hw1_6, .inl (G.2.1, 64, .inl w1.2.2.2.2.2.1))] := hD
            refine lv_aload_n (pc := 53) hx hb dX7_placeCopies_53 rfl (lv_at hl 3 rfl) ?_
            refine lv_dup (pc := 54) hx hb dX7_placeCopies_54 rfl ?_
            refine va_get (pc := 55) (D := G.1) (ci := 4) (v := .int w0.2.2.2.2) (C := RX7) (T := TX7) (N := 5) hx hb hts inX7 hown hK.1 hP 0 rfl rfl 4 (by decide) (hts _ wd_124) (fun _ h9 => h9) rfl dX7_placeCopies_55 ?_
            refine lv_aload_n (pc := 58) hx hb dX7_placeCopies_58 rfl (lv_at hl 4 rfl) ?_
            refine lv_iload (pc := 59) hx hb dX7_placeCopies_59 (lv_at hl 0 rfl) ?_
            obtain ⟨x5, hcx5, hf⟩ := bn_some hf
            refine g_callV0 (pc := 61) (rest := [.int w0.2.2.2.2, .ref hw0_0]) hx hb hml hown hts hK (c_X2_lengthOf l G hw1_0 hw1_1 hw1_2 hw1_3 hw1_4 hw1_5 hw1_6 w1 x4 hcx5) wd_349 wd_5 wd_697 wd_347 wd_348 hd_X2_lengthOf ⟨rfl, rfl, Nat.le_of_ble_eq_true rfl, Nat.le_of_ble_eq_true rfl⟩ hP hD hS hA [2, 3, 4, 5, 6, 7, 8] rfl rfl 2 2 rfl rfl rfl rfl hl.1 rfl (Nat.le_of_ble_eq_true rfl) dX7_placeCopies_61 ⟨Nat.zero_le _, Nat.zero_le _⟩ (fun H locs hP hS => ?_)
            refine lv_iadd (pc := 64) hx hb dX7_placeCopies_64 ?_
            refine va_put (pc := 65) (D := G.1) (ci := 4) (v := .int (w0.2.2.2.2 + x5)) (ty := .int) (C := RX7) (T := TX7) (N := 5) hx hb hts inX7 tyX7 tyX7_ok nmX7 hown hK.1 hP hD hS 0 rfl rfl 4 (by decide) (hts _ wd_124) (fun _ h9 => h9) rfl (by decide +kernel) rfl rfl (Nat.le_of_ble_eq_true rfl) dX7_placeCopies_65 (fun H locs hP hD hS => ?_)
            have hP : va_P G.1 vwCl [(hw0_0, .inr (4, [.ref hw0_1, .int w0.2.1, .int w0.2.2.1, .int (w0.2.2.2.1 ||| ((1 : Int32) <<< (x4 &&& 31))), .int (w0.2.2.2.2 + x5)])), (hw0_1, .inl (G.2.1, 30, .inl w0.1)), (hw1_0, .inr (2, [.ref hw1_1, .ref hw1_2, .ref hw1_3, .ref hw1_4, .ref hw1_5, .ref hw1_6, .int w1.2.2.2.2.2.2.1, .int w1.2.2.2.2.2.2.2.1, .int w1.2.2.2.2.2.2.2.2.1, .int w1.2.2.2.2.2.2.2.2.2.1, .int w1.2.2.2.2.2.2.2.2.2.2])), (hw1_1, .inl (G.2.1, 30, .inl w1.1)), (hw1_2, .inl (G.2.1, 30, .inl w1.2.1)), (hw1_3, .inl (G.2.1, 30, .inl w1.2.2.1)), (hw1_4, .inl (G.2.1, 30, .inl w1.2.2.2.1)), (hw1_5, .inl (G.2.1, 30, .inl w1.2.2.2.2.1)), (hw1_6, .inl (G.2.1, 64, .inl w1.2.2.2.2.2.1))] H := hP
            have hD : va_D A [(hw0_0, .inr (4, [.ref hw0_1, .int w0.2.1, .int w0.2.2.1, .int (w0.2.2.2.1 ||| ((1 : Int32) <<< (x4 &&& 31))), .int (w0.2.2.2.2 + x5)])), (hw0_1, .inl (G.2.1, 30, .inl w0.1)), (hw1_0, .inr (2, [.ref hw1_1, .ref hw1_2, .ref hw1_3, .ref hw1_4, .ref hw1_5, .ref hw1_6, .int w1.2.2.2.2.2.2.1, .int w1.2.2.2.2.2.2.2.1, .int w1.2.2.2.2.2.2.2.2.1, .int w1.2.2.2.2.2.2.2.2.2.1, .int w1.2.2.2.2.2.2.2.2.2.2])), (hw1_1, .inl (G.2.1, 30, .inl w1.1)), (hw1_2, .inl (G.2.1, 30, .inl w1.2.1)), (hw1_3, .inl (G.2.1, 30, .inl w1.2.2.1)), (hw1_4, .inl (G.2.1, 30, .inl w1.2.2.2.1)), (hw1_5, .inl (G.2.1, 30, .inl w1.2.2.2.2.1)), (hw1_6, .inl (G.2.1, 64, .inl w1.2.2.2.2.2.1))] := hD
            refine lv_goto (pc := 68) (tgt := 77) hx hb dX7_placeCopies_68 (by decide) ?_
            exact hJ77 (w0.1, w0.2.1, w0.2.2.1, (w0.2.2.2.1 ||| ((1 : Int32) <<< (x4 &&& 31))), (w0.2.2.2.2 + x5)) x4 v4 v3 hf H locs hP hD hS ls (lv_sub hl [0, 1, 2, 3, 4, 5] rfl)
  refine lv_aload_n (pc := 0) hx hb dX7_placeCopies_0 rfl (lv_at hl 1 rfl) ?_
  refine va_getN (pc := 1) (D := G.1) (ci := 2) (v := .int w1.2.2.2.2.2.2.2.2.2.1) (C := RX2) (T := TX2) (N := 11) hx hb hts inX2 hown hK.1 hP 2 rfl rfl 9 (by decide) (nfw_84 hK) (fun _ h9 => h9) rfl dX7_placeCopies_1 ?_
  refine lv_istore_n (pc := 4) (lv' := [(3, .int w1.2.2.2.2.2.2.2.2.2.1), (0, .ref hw0_0), (1, .ref hw1_0), (2, .int p2)]) hx hb dX7_placeCopies_4 rfl hl (by decide) rfl (fun ls hl => ?_)
  refine lv_iconst (pc := 5) (v := (0 : Int32)) hx hb dX7_placeCopies_5 (by decide) ?_
  refine lv_istore (pc := 6) (lv' := [(4, .int (0 : Int32)), (3, .int w1.2.2.2.2.2.2.2.2.2.1), (0, .ref hw0_0), (1, .ref hw1_0), (2, .int p2)]) hx hb dX7_placeCopies_6 hl (by decide) rfl (fun ls hl => ?_)
  exact hL8 FUEL w0 (0 : Int32) w1.2.2.2.2.2.2.2.2.2.1 hf H locs hP hD hS ls (lv_sub hl [0, 1, 2, 3, 4] rfl)
theorem hd_X7_build : yX7_build.cls ≠ "java/lang/invoke/MethodHandle" ∧ yX7_build.cls ≠ "java/lang/invoke/VarHandle" ∧ (parseMethodDescriptor yX7_build.desc).map (fun d => d.parameters.length) = some 2 := by decide +kernel
abbrev rm_X7_build : Room := { frames := 6, cells := 0, slots := 0, locals := 140 }
noncomputable def f_X7_build_J50 (w1 : TDelta) (p2 : Int32) (rec28 : TPlan → Int32 → Option TPlan) (w0 : TPlan) (v3 : Int32) : Option TPlan :=
  rec28 w0 (v3 + (1 : Int32))
noncomputable def f_X7_build_L28 (w1 : TDelta) (p2 : Int32)  : Nat → TPlan → Int32 → Option TPlan
  | 0, _, _ => none
  | k28 + 1, w0, v3 =>
    br (w1.2.2.2.2.2.2.2.2.1 ≤ v3) (some w0) ((f_X7_isCopied w0 w1 v3).bind (fun x2 => br (x2 = 0) ((f_X7_place w0 v3).bind (fun x3 => f_X7_build_J50 w1 p2 (f_X7_build_L28 w1 p2  k28) x3 v3)) (f_X7_build_J50 w1 p2 (f_X7_build_L28 w1 p2  k28) w0 v3)))
noncomputable def f_X7_build (w0 : TPlan) (w1 : TDelta) (p2 : Int32) : Option TPlan :=
  (f_X7_placeCopies (w0.1, (1 : Int32), (0 : Int32), (0 : Int32), (0 : Int32)) w1 p2).bind (fun x1 => f_X7_build_L28 w1 p2 FUEL x1 (0 : Int32))
set_option maxHeartbeats 4000000 in
set_option maxRecDepth 100000 in
theorem c_X7_build (l : Launch) (G : GT) (hw0_0 hw0_1 : Nat) (hw1_0 hw1_1 hw1_2 hw1_3 hw1_4 hw1_5 hw1_6 : Nat) (w0 : TPlan) (w1 : TDelta) (p2 : Int32) {r : TPlan} (hf : f_X7_build w0 w1 p2 = some r) : Ct l yX7_build (Cond.code yX7_build cX7_build 4 none :: lw_g) rm_X7_build G [.ref hw0_0, .ref hw1_0, .int p2] [(hw0_0, .inr (4, [.ref hw0_1, .int w0.2.1, .int w0.2.2.1, .int w0.2.2.2.1, .int w0.2.2.2.2])), (hw0_1, .inl (G.2.1, 30, .inl w0.1)), (hw1_0, .inr (2, [.ref hw1_1, .ref hw1_2, .ref hw1_3, .ref hw1_4, .ref hw1_5, .ref hw1_6, .int w1.2.2.2.2.2.2.1, .int w1.2.2.2.2.2.2.2.1, .int w1.2.2.2.2.2.2.2.2.1, .int w1.2.2.2.2.2.2.2.2.2.1, .int w1.2.2.2.2.2.2.2.2.2.2])), (hw1_1, .inl (G.2.1, 30, .inl w1.1)), (hw1_2, .inl (G.2.1, 30, .inl w1.2.1)), (hw1_3, .inl (G.2.1, 30, .inl w1.2.2.1)), (hw1_4, .inl (G.2.1, 30, .inl w1.2.2.2.1)), (hw1_5, .inl (G.2.1, 30, .inl w1.2.2.2.2.1)), (hw1_6, .inl (G.2.1, 64, .inl w1.2.2.2.2.2.1))] none [(hw0_0, .inr (4, [.ref hw0_1, .int r.2.1, .int r.2.2.1, .int r.2.2.2.1, .int r.2.2.2.2])), (hw0_1, .inl (G.2.1, 30, .inl r.1)), (hw1_0, .inr (2, [.ref hw1_1, .ref hw1_2, .ref hw1_3, .ref hw1_4, .ref hw1_5, .ref hw1_6, .int w1.2.2.2.2.2.2.1, .int w1.2.2.2.2.2.2.2.1, .int w1.2.2.2.2.2.2.2.2.1, .int w1.2.2.2.2.2.2.2.2.2.1, .int w1.2.2.2.2.2.2.2.2.2.2])), (hw1_1, .inl (G.2.1, 30, .inl w1.1)), (hw1_2, .inl (G.2.1, 30, .inl w1.2.1)), (hw1_3, .inl (G.2.1, 30, .inl w1.2.2.1)), (hw1_4, .inl (G.2.1, 30, .inl w1.2.2.2.1)), (hw1_5, .inl (G.2.1, 30, .inl w1.2.2.2.2.1)), (hw1_6, .inl (G.2.1, 64, .inl w1.2.2.2.2.2.1))] := by
  refine Ct.ofW (cc := cX7_build) (maxL := 4) (ret := none) (own := RX7) (by decide) rfl rfl (Nat.le_of_ble_eq_true rfl) ?_
  intro p e s m args below meth c A hx hb hr hml hts hown hlocks hK hP hD hA hS ls hl
  have hl : lv_has ls 4 [(0, .ref hw0_0), (1, .ref hw1_0), (2, .int p2)] := hl
  generalize hQ : gMQ below G _ _ A args s = Q
  generalize hH : s.heap = H at hP ⊢
  have hS : va_S A s.heap H [] := by rw [← hH]; exact hS
  generalize ([] : List Loc) = locs at hS ⊢
  unfold f_X7_build at hf
  have hL28 : ∀ (k28 : Nat) (w0 : TPlan) (v3 : Int32), f_X7_build_L28 w1 p2  k28 w0 v3 = some r → ∀ (H : Heap) (locs : List Loc), va_P G.1 vwCl [(hw0_0, .inr (4, [.ref hw0_1, .int w0.2.1, .int w0.2.2.1, .int w0.2.2.2.1, .int w0.2.2.2.2])), (hw0_1, .inl (G.2.1, 30, .inl w0.1)), (hw1_0, .inr (2, [.ref hw1_1, .ref hw1_2, .ref hw1_3, .ref hw1_4, .ref hw1_5, .ref hw1_6, .int w1.2.2.2.2.2.2.1, .int w1.2.2.2.2.2.2.2.1, .int w1.2.2.2.2.2.2.2.2.1, .int w1.2.2.2.2.2.2.2.2.2.1, .int w1.2.2.2.2.2.2.2.2.2.2])), (hw1_1, .inl (G.2.1, 30, .inl w1.1)), (hw1_2, .inl (G.2.1, 30, .inl w1.2.1)), (hw1_3, .inl (G.2.1, 30, .inl w1.2.2.1)), (hw1_4, .inl (G.2.1, 30, .inl w1.2.2.2.1)), (hw1_5, .inl (G.2.1, 30, .inl w1.2.2.2.2.1)), (hw1_6, .inl (G.2.1, 64, .inl w1.2.2.2.2.2.1))] H → va_D A [(hw0_0, .inr (4, [.ref hw0_1, .int w0.2.1, .int w0.2.2.1, .int w0.2.2.2.1, .int w0.2.2.2.2])), (hw0_1, .inl (G.2.1, 30, .inl w0.1)), (hw1_0, .inr (2, [.ref hw1_1, .ref hw1_2, .ref hw1_3, .ref hw1_4, .ref hw1_5, .ref hw1_6, .int w1.2.2.2.2.2.2.1, .int w1.2.2.2.2.2.2.2.1, .int w1.2.2.2.2.2.2.2.2.1, .int w1.2.2.2.2.2.2.2.2.2.1, .int w1.2.2.2.2.2.2.2.2.2.2])), (hw1_1, .inl (G.2.1, 30, .inl w1.1)), (hw1_2, .inl (G.2.1, 30, .inl w1.2.1)), (hw1_3, .inl (G.2.1, 30, .inl w1.2.2.1)), (hw1_4, .inl (G.2.1, 30, .inl w1.2.2.2.1)), (hw1_5, .inl (G.2.1, 30, .inl w1.2.2.2.2.1)), (hw1_6, .inl (G.2.1, 64, .inl w1.2.2.2.2.2.1))] → va_S A s.heap H locs → ∀ (ls : Array Slot), lv_has ls 4 [(3, .int v3), (0, .ref hw0_0), (1, .ref hw1_0)] → W p l e (rm_X7_build) s m args below meth c H locs 0 0 Q (F0 m 28 ls []) := by
    intro k28
    induction k28 with
    | zero =>
      intro w0 v3 hf
      rw [f_X7_build_L28.eq_1] at hf; cases hf
    | succ k28 ih28 =>
      have hJ50 : ∀ (w0 : TPlan) (v3 : Int32), f_X7_build_J50 w1 p2 (f_X7_build_L28 w1 p2 k28) w0 v3 = some r → ∀ (H : Heap) (locs : List Loc), va_P G.1 vwCl [(hw0_0, .inr (4, [.ref hw0_1, .int w0.2.1, .int w0.2.2.1, .int w0.2.2.2.1, .int w0.2.2.2.2])), (hw0_1, .inl (G.2.1, 30, .inl w0.1)), (hw1_0, .inr (2, [.ref hw1_1, .ref hw1_2, .ref hw1_3, .ref hw1_4, .ref hw1_5, .ref hw1_6, .int w1.2.2.2.2.2.2.1, .int w1.2.2.2.2.2.2.2.1, .int w1.2.2.2.2.2.2.2.2.1, .int w1.2.2.2.2.2.2.2.2.2.1, .int w1.2.2.2.2.2.2.2.2.2.2])), (hw1_1, .inl (G.2.1, 30, .inl w1.1)), (hw1_2, .inl (G.2.1, 30, .inl w1.2.1)), (hw1_3, .inl (G.2.1, 30, .inl w1.2.2.1)), (hw1_4, .inl (G.2.1, 30, .inl w1.2.2.2.1)), (hw1_5, .inl (G.2.1, 30, .inl w1.2.2.2.2.1)), (hw1_6, .inl (G.2.1, 64, .inl w1.2.2.2.2.2.1))] H → va_D A [(hw0_0, .inr (4, [.ref hw0_1, .int w0.2.1, .int w0.2.2.1, .int w0.2.2.2.1, .int w0.2.2.2.2])), (hw0_1, .inl (G.2.1, 30, .inl w0.1)), (hw1_0, .inr (2, [.ref hw1_1, .ref hw1_2, .ref hw1_3, .ref hw1_4, .ref hw1_5, .ref hw1_6, .int w1.2.2.2.2.2.2.1, .int w1.2.2.2.2.2.2.2.1, .int w1.2.2.2.2.2.2.2.2.1, .int w1.2.2.2.2.2.2.2.2.2.1, .int w1.2.2.2.2.2.2.2.2.2.2])), (hw1_1, .inl (G.2.1, 30, .inl w1.1)), (hw1_2, .inl (G.2.1, 30, .inl w1.2.1)), (hw1_3, .inl (G.2.1, 30, .inl w1.2.2.1)), (hw1_4, .inl (G.2.1, 30, .inl w1.2.2.2.1)), (hw1_5, .inl (G.2.1, 30, .inl w1.2.2.2.2.1)), (hw1_6, .inl (G.2.1, 64, .inl w1.2.2.2.2.2.1))] → va_S A s.heap H locs → ∀ (ls : Array Slot), lv_has ls 4 [(3, .int v3), (0, .ref hw0_0), (1, .ref hw1_0)] → W p l e (rm_X7_build) s m args below meth c H locs 0 0 Q (F0 m 50 ls []) := by
        intro w0 v3 hf H locs hP hD hS ls hl
        unfold f_X7_build_J50 at hf
        refine lv_iinc (pc := 50) (v := (v3 + (1 : Int32))) (lv' := [(3, .int (v3 + (1 : Int32))), (0, .ref hw0_0), (1, .ref hw1_0)]) hx hb dX7_build_50 hl (k := 0) rfl rfl (by decide) rfl (fun ls hl => ?_)
        refine lv_goto (pc := 53) (tgt := 28) hx hb dX7_build_53 (by decide) ?_
        exact ih28 w0 (v3 + (1 : Int32)) hf H locs hP hD hS ls (lv_sub hl [0, 1, 2] rfl)
      intro w0 v3 hf H locs hP hD hS ls hl
      rw [f_X7_build_L28.eq_2] at hf
      refine lv_iload_n (pc := 28) hx hb dX7_build_28 rfl (lv_at hl 0 rfl) ?_
      refine lv_aload_n (pc := 29) hx hb dX7_build_29 rfl (lv_at hl 2 rfl) ?_
      refine va_getN (pc := 30) (D := G.1) (ci := 2) (v := .int w1.2.2.2.2.2.2.2.2.1) (C := RX2) (T := TX2) (N := 11) hx hb hts inX2 hown hK.1 hP 2 rfl rfl 8 (by decide) (nfw_80 hK) (fun _ h9 => h9) rfl dX7_build_30 ?_
      refine lv_icmp_ge (pc := 33) (tgt := 56) hx hb dX7_build_33 (by decide) (fun hc => ?_) (fun hc => ?_)
      · have hf := br_y hc hf
        have hf := Option.some.inj hf; subst hf
        rw [← hQ]
        exact g_vret hx hb hr hlocks hP hS dX7_build_56
      · have hf := br_n hc hf
        refine lv_aload_n (pc := 36) hx hb dX7_build_36 rfl (lv_at hl 1 rfl) ?_
        refine lv_aload_n (pc := 37) hx hb dX7_build_37 rfl (lv_at hl 2 rfl) ?_
        refine lv_iload_n (pc := 38) hx hb dX7_build_38 rfl (lv_at hl 0 rfl) ?_
        obtain ⟨x2, hcx2, hf⟩ := bn_some hf
        refine g_callV0 (pc := 39) (rest := []) hx hb hml hown hts hK (c_X7_isCopied l G hw0_0 hw0_1 hw1_0 hw1_1 hw1_2 hw1_3 hw1_4 hw1_5 hw1_6 w0 w1 v3 hcx2) wd_711 wd_6 wd_708 wd_709 wd_710 hd_X7_isCopied ⟨rfl, rfl, Nat.le_of_ble_eq_true rfl, Nat.le_of_ble_eq_true rfl⟩ hP hD hS hA [0, 1, 2, 3, 4, 5, 6, 7, 8] rfl rfl 4 0 rfl rfl rfl rfl hl.1 rfl (Nat.le_of_ble_eq_true rfl) dX7_build_39 ⟨Nat.zero_le _, Nat.zero_le _⟩ (fun H locs hP hS => ?_)
        refine lv_if_ne (pc := 42) (tgt := 50) hx hb dX7_build_42 (by decide) (fun hc => ?_) (fun hc => ?_)
        · have hf := br_n hc hf
          exact hJ50 w0 v3 hf H locs hP hD hS ls (lv_sub hl [0, 1, 2] rfl)
        · have hf := br_y hc hf
          refine lv_aload_n (pc := 45) hx hb dX7_build_45 rfl (lv_at hl 1 rfl) ?_
          refine lv_iload_n (pc := 46) hx hb dX7_build_46 rfl (lv_at hl 0 rfl) ?_
          obtain ⟨x3, hcx3, hf⟩ := bn_some hf
          refine g_callV (pc := 47) (ws' := [(hw0_0, .inr (4, [.ref hw0_1, .int x3.2.1, .int x3.2.2.1, .int x3.2.2.2.1, .int x3.2.2.2.2])), (hw0_1, .inl (G.2.1, 30, .inl x3.1)), (hw1_0, .inr (2, [.ref hw1_1, .ref hw1_2, .ref hw1_3, .ref hw1_4, .ref hw1_5, .ref hw1_6, .int w1.2.2.2.2.2.2.1, .int w1.2.2.2.2.2.2.2.1, .int w1.2.2.2.2.2.2.2.2.1, .int w1.2.2.2.2.2.2.2.2.2.1, .int w1.2.2.2.2.2.2.2.2.2.2])), (hw1_1, .inl (G.2.1, 30, .inl w1.1)), (hw1_2, .inl (G.2.1, 30, .inl w1.2.1)), (hw1_3, .inl (G.2.1, 30, .inl w1.2.2.1)), (hw1_4, .inl (G.2.1, 30, .inl w1.2.2.2.1)), (hw1_5, .inl (G.2.1, 30, .inl w1.2.2.2.2.1)), (hw1_6, .inl (G.2.1, 64, .inl w1.2.2.2.2.2.1))]) (rest := []) hx hb hml hown hts hK (c_X7_place l G hw0_0 hw0_1 w0 v3 hcx3) wd_706 wd_6 wd_703 wd_705 ws_8 hd_X7_place ⟨rfl, rfl, Nat.le_of_ble_eq_true rfl, Nat.le_of_ble_eq_true rfl⟩ hP hD hS hA [0, 1] rfl rfl rfl rfl 4 0 rfl rfl rfl rfl hl.1 rfl (Nat.le_of_ble_eq_true rfl) dX7_build_47 ⟨Nat.zero_le _, Nat.zero_le _⟩ (fun H locs hP hD hS => ?_)
          exact hJ50 x3 v3 hf H locs hP hD hS ls (lv_sub hl [0, 1, 2] rfl)
  refine lv_aload_n (pc := 0) hx hb dX7_build_0 rfl (lv_at hl 0 rfl) ?_
  refine lv_iconst (pc := 1) (v := (1 : Int32)) hx hb dX7_build_1 (by decide) ?_
  refine va_put (pc := 2) (D := G.1) (ci := 4) (v := .int (1 : Int32)) (ty := .boolean) (C := RX7) (T := TX7) (N := 5) hx hb hts inX7 tyX7 tyX7_ok nmX7 hown hK.1 hP hD hS 0 rfl rfl 1 (by decide) (hts _ wd_117) (fun _ h9 => h9) rfl (by decide +kernel) rfl rfl (Nat.le_of_ble_eq_true rfl) dX7_build_2 (fun H locs hP hD hS => ?_)
  have hP : va_P G.1 vwCl [(hw0_0, .inr (4, [.ref hw0_1, .int (1 : Int32), .int w0.2.2.1, .int w0.2.2.2.1, .int w0.2.2.2.2])), (hw0_1, .inl (G.2.1, 30, .inl w0.1)), (hw1_0, .inr (2, [.ref hw1_1, .ref hw1_2, .ref hw1_3, .ref hw1_4, .ref hw1_5, .ref hw1_6, .int w1.2.2.2.2.2.2.1, .int w1.2.2.2.2.2.2.2.1, .int w1.2.2.2.2.2.2.2.2.1, .int w1.2.2.2.2.2.2.2.2.2.1, .int w1.2.2.2.2.2.2.2.2.2.2])), (hw1_1, .inl (G.2.1, 30, .inl w1.1)), (hw1_2, .inl (G.2.1, 30, .inl w1.2.1)), (hw1_3, .inl (G.2.1, 30, .inl w1.2.2.1)), (hw1_4, .inl (G.2.1, 30, .inl w1.2.2.2.1)), (hw1_5, .inl (G.2.1, 30, .inl w1.2.2.2.2.1)), (hw1_6, .inl (G.2.1, 64, .inl w1.2.2.2.2.2.1))] H := hP
  have hD : va_D A [(hw0_0, .inr (4, [.ref hw0_1, .int (1 : Int32), .int w0.2.2.1, .int w0.2.2.2.1, .int w0.2.2.2.2])), (hw0_1, .inl (G.2.1, 30, .inl w0.1)), (hw1_0, .inr (2, [.ref hw1_1, .ref hw1_2, .ref hw1_3, .ref hw1_4, .ref hw1_5, .ref hw1_6, .int w1.2.2.2.2.2.2.1, .int w1.2.2.2.2.2.2.2.1, .int w1.2.2.2.2.2.2.2.2.1, .int w1.2.2.2.2.2.2.2.2.2.1, .int w1.2.2.2.2.2.2.2.2.2.2])), (hw1_1, .inl (G.2.1, 30, .inl w1.1)), (hw1_2, .inl (G.2.1, 30, .inl w1.2.1)), (hw1_3, .inl (G.2.1, 30, .inl w1.2.2.1)), (hw1_4, .inl (G.2.1, 30, .inl w1.2.2.2.1)), (hw1_5, .inl (G.2.1, 30, .inl w1.2.2.2.2.1)), (hw1_6, .inl (G.2.1, 64, .inl w1.2.2.2.2.2.1))] := hD
  refine lv_aload_n (pc := 5) hx hb dX7_build_5 rfl (lv_at hl 0 rfl) ?_
  refine lv_iconst (pc := 6) (v := (0 : Int32)) hx hb dX7_build_6 (by decide) ?_
  refine va_put (pc := 7) (D := G.1) (ci := 4) (v := .int (0 : Int32)) (ty := .int) (C := RX7) (T := TX7) (N := 5) hx hb hts inX7 tyX7 tyX7_ok nmX7 hown hK.1 hP hD hS 0 rfl rfl 2 (by decide) (hts _ wd_119) (fun _ h9 => h9) rfl (by decide +kernel) rfl rfl (Nat.le_of_ble_eq_true rfl) dX7_build_7 (fun H locs hP hD hS => ?_)
  have hP : va_P G.1 vwCl [(hw0_0, .inr (4, [.ref hw0_1, .int (1 : Int32), .int (0 : Int32), .int w0.2.2.2.1, .int w0.2.2.2.2])), (hw0_1, .inl (G.2.1, 30, .inl w0.1)), (hw1_0, .inr (2, [.ref hw1_1, .ref hw1_2, .ref hw1_3, .ref hw1_4, .ref hw1_5, .ref hw1_6, .int w1.2.2.2.2.2.2.1, .int w1.2.2.2.2.2.2.2.1, .int w1.2.2.2.2.2.2.2.2.1, .int w1.2.2.2.2.2.2.2.2.2.1, .int w1.2.2.2.2.2.2.2.2.2.2])), (hw1_1, .inl (G.2.1, 30, .inl w1.1)), (hw1_2, .inl (G.2.1, 30, .inl w1.2.1)), (hw1_3, .inl (G.2.1, 30, .inl w1.2.2.1)), (hw1_4, .inl (G.2.1, 30, .inl w1.2.2.2.1)), (hw1_5, .inl (G.2.1, 30, .inl w1.2.2.2.2.1)), (hw1_6, .inl (G.2.1, 64, .inl w1.2.2.2.2.2.1))] H := hP
  have hD : va_D A [(hw0_0, .inr (4, [.ref hw0_1, .int (1 : Int32), .int (0 : Int32), .int w0.2.2.2.1, .int w0.2.2.2.2])), (hw0_1, .inl (G.2.1, 30, .inl w0.1)), (hw1_0, .inr (2, [.ref hw1_1, .ref hw1_2, .ref hw1_3, .ref hw1_4, .ref hw1_5, .ref hw1_6, .int w1.2.2.2.2.2.2.1, .int w1.2.2.2.2.2.2.2.1, .int w1.2.2.2.2.2.2.2.2.1, .int w1.2.2.2.2.2.2.2.2.2.1, .int w1.2.2.2.2.2.2.2.2.2.2])), (hw1_1, .inl (G.2.1, 30, .inl w1.1)), (hw1_2, .inl (G.2.1, 30, .inl w1.2.1)), (hw1_3, .inl (G.2.1, 30, .inl w1.2.2.1)), (hw1_4, .inl (G.2.1, 30, .inl w1.2.2.2.1)), (hw1_5, .inl (G.2.1, 30, .inl w1.2.2.2.2.1)), (hw1_6, .inl (G.2.1, 64, .inl w1.2.2.2.2.2.1))] := hD
  refine lv_aload_n (pc := 10) hx hb dX7_build_10 rfl (lv_at hl 0 rfl) ?_
  refine lv_iconst (pc := 11) (v := (0 : Int32)) hx hb dX7_build_11 (by decide) ?_
  refine va_put (pc := 12) (D := G.1) (ci := 4) (v := .int (0 : Int32)) (ty := .int) (C := RX7) (T := TX7) (N := 5) hx hb hts inX7 tyX7 tyX7_ok nmX7 hown hK.1 hP hD hS 0 rfl rfl 3 (by decide) (hts _ wd_122) (fun _ h9 => h9) rfl (by decide +kernel) rfl rfl (Nat.le_of_ble_eq_true rfl) dX7_build_12 (fun H locs hP hD hS => ?_)
  have hP : va_P G.1 vwCl [(hw0_0, .inr (4, [.ref hw0_1, .int (1 : Int32), .int (0 : Int32), .int (0 : Int32), .int w0.2.2.2.2])), (hw0_1, .inl (G.2.1, 30, .inl w0.1)), (hw1_0, .inr (2, [.ref hw1_1, .ref hw1_2, .ref hw1_3, .ref hw1_4, .ref hw1_5, .ref hw1_6, .int w1.2.2.2.2.2.2.1, .int w1.2.2.2.2.2.2.2.1, .int w1.2.2.2.2.2.2.2.2.1, .int w1.2.2.2.2.2.2.2.2.2.1, .int w1.2.2.2.2.2.2.2.2.2.2])), (hw1_1, .inl (G.2.1, 30, .inl w1.1)), (hw1_2, .inl (G.2.1, 30, .inl w1.2.1)), (hw1_3, .inl (G.2.1, 30, .inl w1.2.2.1)), (hw1_4, .inl (G.2.1, 30, .inl w1.2.2.2.1)), (hw1_5, .inl (G.2.1, 30, .inl w1.2.2.2.2.1)), (hw1_6, .inl (G.2.1, 64, .inl w1.2.2.2.2.2.1))] H := hP
  have hD : va_D A [(hw0_0, .inr (4, [.ref hw0_1, .int (1 : Int32), .int (0 : Int32), .int (0 : Int32), .int w0.2.2.2.2])), (hw0_1, .inl (G.2.1, 30, .inl w0.1)), (hw1_0, .inr (2, [.ref hw1_1, .ref hw1_2, .ref hw1_3, .ref hw1_4, .ref hw1_5, .ref hw1_6, .int w1.2.2.2.2.2.2.1, .int w1.2.2.2.2.2.2.2.1, .int w1.2.2.2.2.2.2.2.2.1, .int w1.2.2.2.2.2.2.2.2.2.1, .int w1.2.2.2.2.2.2.2.2.2.2])), (hw1_1, .inl (G.2.1, 30, .inl w1.1)), (hw1_2, .inl (G.2.1, 30, .inl w1.2.1)), (hw1_3, .inl (G.2.1, 30, .inl w1.2.2.1)), (hw1_4, .inl (G.2.1, 30, .inl w1.2.2.2.1)), (hw1_5, .inl (G.2.1, 30, .inl w1.2.2.2.2.1)), (hw1_6, .inl (G.2.1, 64, .inl w1.2.2.2.2.2.1))] := hD
  refine lv_aload_n (pc := 15) hx hb dX7_build_15 rfl (lv_at hl 0 rfl) ?_
  refine lv_iconst (pc := 16) (v := (0 : Int32)) hx hb dX7_build_16 (by decide) ?_
  refine va_put (pc := 17) (D := G.1) (ci := 4) (v := .int (0 : Int32)) (ty := .int) (C := RX7) (T := TX7) (N := 5) hx hb hts inX7 tyX7 tyX7_ok nmX7 hown hK.1 hP hD hS 0 rfl rfl 4 (by decide) (hts _ wd_124) (fun _ h9 => h9) rfl (by decide +kernel) rfl rfl (Nat.le_of_ble_eq_true rfl) dX7_build_17 (fun H locs hP hD hS => ?_)
  have hP : va_P G.1 vwCl [(hw0_0, .inr (4, [.ref hw0_1, .int (1 : Int32), .int (0 : Int32), .int (0 : Int32), .int (0 : Int32)])), (hw0_1, .inl (G.2.1, 30, .inl w0.1)), (hw1_0, .inr (2, [.ref hw1_1, .ref hw1_2, .ref hw1_3, .ref hw1_4, .ref hw1_5, .ref hw1_6, .int w1.2.2.2.2.2.2.1, .int w1.2.2.2.2.2.2.2.1, .int w1.2.2.2.2.2.2.2.2.1, .int w1.2.2.2.2.2.2.2.2.2.1, .int w1.2.2.2.2.2.2.2.2.2.2])), (hw1_1, .inl (G.2.1, 30, .inl w1.1)), (hw1_2, .inl (G.2.1, 30, .inl w1.2.1)), (hw1_3, .inl (G.2.1, 30, .inl w1.2.2.1)), (hw1_4, .inl (G.2.1, 30, .inl w1.2.2.2.1)), (hw1_5, .inl (G.2.1, 30, .inl w1.2.2.2.2.1)), (hw1_6, .inl (G.2.1, 64, .inl w1.2.2.2.2.2.1))] H := hP
  have hD : va_D A [(hw0_0, .inr (4, [.ref hw0_1, .int (1 : Int32), .int (0 : Int32), .int (0 : Int32), .int (0 : Int32)])), (hw0_1, .inl (G.2.1, 30, .inl w0.1)), (hw1_0, .inr (2, [.ref hw1_1, .ref hw1_2, .ref hw1_3, .ref hw1_4, .ref hw1_5, .ref hw1_6, .int w1.2.2.2.2.2.2.1, .int w1.2.2.2.2.2.2.2.1, .int w1.2.2.2.2.2.2.2.2.1, .int w1.2.2.2.2.2.2.2.2.2.1, .int w1.2.2.2.2.2.2.2.2.2.2])), (hw1_1, .inl (G.2.1, 30, .inl w1.1)), (hw1_2, .inl (G.2.1, 30, .inl w1.2.1)), (hw1_3, .inl (G.2.1, 30, .inl w1.2.2.1)), (hw1_4, .inl (G.2.1, 30, .inl w1.2.2.2.1)), (hw1_5, .inl (G.2.1, 30, .inl w1.2.2.2.2.1)), (hw1_6, .inl (G.2.1, 64, .inl w1.2.2.2.2.2.1))] := hD
  refine lv_aload_n (pc := 20) hx hb dX7_build_20 rfl (lv_at hl 0 rfl) ?_
  refine lv_aload_n (pc := 21) hx hb dX7_build_21 rfl (lv_at hl 1 rfl) ?_
  refine lv_iload_n (pc := 22) hx hb dX7_build_22 rfl (lv_at hl 2 rfl) ?_
  obtain ⟨x1, hcx1, hf⟩ := bn_some hf
  refine g_callV (pc := 23) (ws' := [(hw0_0, .inr (4, [.ref hw0_1, .int x1.2.1, .int x1.2.2.1, .int x1.2.2.2.1, .int x1.2.2.2.2])), (hw0_1, .inl (G.2.1, 30, .inl x1.1)), (hw1_0, .inr (2, [.ref hw1_1, .ref hw1_2, .ref hw1_3, .ref hw1_4, .ref hw1_5, .ref hw1_6, .int w1.2.2.2.2.2.2.1, .int w1.2.2.2.2.2.2.2.1, .int w1.2.2.2.2.2.2.2.2.1, .int w1.2.2.2.2.2.2.2.2.2.1, .int w1.2.2.2.2.2.2.2.2.2.2])), (hw1_1, .inl (G.2.1, 30, .inl w1.1)), (hw1_2, .inl (G.2.1, 30, .inl w1.2.1)), (hw1_3, .inl (G.2.1, 30, .inl w1.2.2.1)), (hw1_4, .inl (G.2.1, 30, .inl w1.2.2.2.1)), (hw1_5, .inl (G.2.1, 30, .inl w1.2.2.2.2.1)), (hw1_6, .inl (G.2.1, 64, .inl w1.2.2.2.2.2.1))]) (rest := []) hx hb hml hown hts hK (c_X7_placeCopies l G hw0_0 hw0_1 hw1_0 hw1_1 hw1_2 hw1_3 hw1_4 hw1_5 hw1_6 (w0.1, (1 : Int32), (0 : Int32), (0 : Int32), (0 : Int32)) w1 p2 hcx1) wd_688 wd_6 wd_685 wd_687 ws_7 hd_X7_placeCopies ⟨rfl, rfl, Nat.le_of_ble_eq_true rfl, Nat.le_of_ble_eq_true rfl⟩ hP hD hS hA [0, 1, 2, 3, 4, 5, 6, 7, 8] rfl rfl rfl rfl 4 0 rfl rfl rfl rfl hl.1 rfl (Nat.le_of_ble_eq_true rfl) dX7_build_23 ⟨Nat.zero_le _, Nat.zero_le _⟩ (fun H locs hP hD hS => ?_)
  refine lv_iconst (pc := 26) (v := (0 : Int32)) hx hb dX7_build_26 (by decide) ?_
  refine lv_istore_n (pc := 27) (lv' := [(3, .int (0 : Int32)), (0, .ref hw0_0), (1, .ref hw1_0), (2, .int p2)]) hx hb dX7_build_27 rfl hl (by decide) rfl (fun ls hl => ?_)
  exact hL28 FUEL x1 (0 : Int32) hf H locs hP hD hS ls (lv_sub hl [0, 1, 2] rfl)
theorem hd_X7_take : yX7_take.cls ≠ "java/lang/invoke/MethodHandle" ∧ yX7_take.cls ≠ "java/lang/invoke/VarHandle" ∧ (parseMethodDescriptor yX7_take.desc).map (fun d => d.parameters.length) = some 1 := by decide +kernel
abbrev rm_X7_take : Room := { frames := 1, cells := 0, slots := 0, locals := 64 }
noncomputable def f_X7_take (w0 : TPlan) (w1 : TPlan) : Option TPlan :=
  gd (w1.2.1 = 0 ∨ w1.2.1 = 1) (gd (¬ (0 : Int32) < 0 ∧ ¬ (0 : Int32) < 0 ∧ ¬ (30 : Int32) < 0 ∧ (0 : Int32).toNatClampNeg + (30 : Int32).toNatClampNeg ≤ 30 ∧ (0 : Int32).toNatClampNeg + (30 : Int32).toNatClampNeg ≤ 30) (some ((va_cpy w1.1 w0.1 (0 : Int32).toNatClampNeg (0 : Int32).toNatClampNeg (30 : Int32).toNatClampNeg), w1.2.1, w1.2.2.1, w1.2.2.2.1, w1.2.2.2.2)))
set_option maxHeartbeats 4000000 in
set_option maxRecDepth 100000 in
theorem c_X7_take (l : Launch) (G : GT) (hw0_0 hw0_1 : Nat) (hw1_0 hw1_1 : Nat) (w0 : TPlan) (w1 : TPlan) {r : TPlan} (hf : f_X7_take w0 w1 = some r) : Ct l yX7_take (Cond.code yX7_take cX7_take 2 none :: lw_g) rm_X7_take G [.ref hw0_0, .ref hw1_0] [(hw0_0, .inr (4, [.ref hw0_1, .int w0.2.1, .int w0.2.2.1, .int w0.2.2.2.1, .int w0.2.2.2.2])), (hw0_1, .inl (G.2.1, 30, .inl w0.1)), (hw1_0, .inr (4, [.ref hw1_1, .int w1.2.1, .int w1.2.2.1, .int w1.2.2.2.1, .int w1.2.2.2.2])), (hw1_1, .inl (G.2.1, 30, .inl w1.1))] none [(hw0_0, .inr (4, [.ref hw0_1, .int r.2.1, .int r.2.2.1, .int r.2.2.2.1, .int r.2.2.2.2])), (hw0_1, .inl (G.2.1, 30, .inl r.1)), (hw1_0, .inr (4, [.ref hw1_1, .int w1.2.1, .int w1.2.2.1, .int w1.2.2.2.1, .int w1.2.2.2.2])), (hw1_1, .inl (G.2.1, 30, .inl w1.1))] := by
  refine Ct.ofW (cc := cX7_take) (maxL := 2) (ret := none) (own := RX7) (by decide) rfl rfl (Nat.le_of_ble_eq_true rfl) ?_
  intro p e s m args below meth c A hx hb hr hml hts hown hlocks hK hP hD hA hS ls hl
  have hl : lv_has ls 2 [(0, .ref hw0_0), (1, .ref hw1_0)] := hl
  generalize hQ : gMQ below G _ _ A args s = Q
  generalize hH : s.heap = H at hP ⊢
  have hS : va_S A s.heap H [] := by rw [← hH]; exact hS
  generalize ([] : List Loc) = locs at hS ⊢
  unfold f_X7_take at hf
  refine lv_aload_n (pc := 0) hx hb dX7_take_0 rfl (lv_at hl 0 rfl) ?_
  refine lv_aload_n (pc := 1) hx hb dX7_take_1 rfl (lv_at hl 1 rfl) ?_
  refine va_get (pc := 2) (D := G.1) (ci := 4) (v := .int w1.2.1) (C := RX7) (T := TX7) (N := 5) hx hb hts inX7 hown hK.1 hP 2 rfl rfl 1 (by decide) (hts _ wd_117) (fun _ h9 => h9) rfl dX7_take_2 ?_
  obtain ⟨hg, hf⟩ := gd_some hf
  refine va_put (pc := 5) (D := G.1) (ci := 4) (v := .int w1.2.1) (ty := .boolean) (C := RX7) (T := TX7) (N := 5) hx hb hts inX7 tyX7 tyX7_ok nmX7 hown hK.1 hP hD hS 0 rfl rfl 1 (by decide) (hts _ wd_117) (fun _ h9 => h9) rfl (by decide +kernel) (z01 hg) (fz01 hg) (Nat.le_of_ble_eq_true rfl) dX7_take_5 (fun H locs hP hD hS => ?_)
  have hP : va_P G.1 vwCl [(hw0_0, .inr (4, [.ref hw0_1, .int w1.2.1, .int w0.2.2.1, .int w0.2.2.2.1, .int w0.2.2.2.2])), (hw0_1, .inl (G.2.1, 30, .inl w0.1)), (hw1_0, .inr (4, [.ref hw1_1, .int w1.2.1, .int w1.2.2.1, .int w1.2.2.2.1, .int w1.2.2.2.2])), (hw1_1, .inl (G.2.1, 30, .inl w1.1))] H := hP
  have hD : va_D A [(hw0_0, .inr (4, [.ref hw0_1, .int w1.2.1, .int w0.2.2.1, .int w0.2.2.2.1, .int w0.2.2.2.2])), (hw0_1, .inl (G.2.1, 30, .inl w0.1)), (hw1_0, .inr (4, [.ref hw1_1, .int w1.2.1, .int w1.2.2.1, .int w1.2.2.2.1, .int w1.2.2.2.2])), (hw1_1, .inl (G.2.1, 30, .inl w1.1))] := hD
  refine lv_aload_n (pc := 8) hx hb dX7_take_8 rfl (lv_at hl 0 rfl) ?_
  refine lv_aload_n (pc := 9) hx hb dX7_take_9 rfl (lv_at hl 1 rfl) ?_
  refine va_get (pc := 10) (D := G.1) (ci := 4) (v := .int w1.2.2.1) (C := RX7) (T := TX7) (N := 5) hx hb hts inX7 hown hK.1 hP 2 rfl rfl 2 (by decide) (hts _ wd_119) (fun _ h9 => h9) rfl dX7_take_10 ?_
  refine va_put (pc := 13) (D := G.1) (ci := 4) (v := .int w1.2.2.1) (ty := .int) (C := RX7) (T := TX7) (N := 5) hx hb hts inX7 tyX7 tyX7_ok nmX7 hown hK.1 hP hD hS 0 rfl rfl 2 (by decide) (hts _ wd_119) (fun _ h9 => h9) rfl (by decide +kernel) rfl rfl (Nat.le_of_ble_eq_true rfl) dX7_take_13 (fun H locs hP hD hS => ?_)
  have hP : va_P G.1 vwCl [(hw0_0, .inr (4, [.ref hw0_1, .int w1.2.1, .int w1.2.2.1, .int w0.2.2.2.1, .int w0.2.2.2.2])), (hw0_1, .inl (G.2.1, 30, .inl w0.1)), (hw1_0, .inr (4, [.ref hw1_1, .int w1.2.1, .int w1.2.2.1, .int w1.2.2.2.1, .int w1.2.2.2.2])), (hw1_1, .inl (G.2.1, 30, .inl w1.1))] H := hP
  have hD : va_D A [(hw0_0, .inr (4, [.ref hw0_1, .int w1.2.1, .int w1.2.2.1, .int w0.2.2.2.1, .int w0.2.2.2.2])), (hw0_1, .inl (G.2.1, 30, .inl w0.1)), (hw1_0, .inr (4, [.ref hw1_1, .int w1.2.1, .int w1.2.2.1, .int w1.2.2.2.1, .int w1.2.2.2.2])), (hw1_1, .inl (G.2.1, 30, .inl w1.1))] := hD
  refine lv_aload_n (pc := 16) hx hb dX7_take_16 rfl (lv_at hl 0 rfl) ?_
  refine lv_aload_n (pc := 17) hx hb dX7_take_17 rfl (lv_at hl 1 rfl) ?_
  refine va_get (pc := 18) (D := G.1) (ci := 4) (v := .int w1.2.2.2.1) (C := RX7) (T := TX7) (N := 5) hx hb hts inX7 hown hK.1 hP 2 rfl rfl 3 (by decide) (hts _ wd_122) (fun _ h9 => h9) rfl dX7_take_18 ?_
  refine va_put (pc := 21) (D := G.1) (ci := 4) (v := .int w1.2.2.2.1) (ty := .int) (C := RX7) (T := TX7) (N := 5) hx hb hts inX7 tyX7 tyX7_ok nmX7 hown hK.1 hP hD hS 0 rfl rfl 3 (by decide) (hts _ wd_122) (fun _ h9 => h9) rfl (by decide +kernel) rfl rfl (Nat.le_of_ble_eq_true rfl) dX7_take_21 (fun H locs hP hD hS => ?_)
  have hP : va_P G.1 vwCl [(hw0_0, .inr (4, [.ref hw0_1, .int w1.2.1, .int w1.2.2.1, .int w1.2.2.2.1, .int w0.2.2.2.2])), (hw0_1, .inl (G.2.1, 30, .inl w0.1)), (hw1_0, .inr (4, [.ref hw1_1, .int w1.2.1, .int w1.2.2.1, .int w1.2.2.2.1, .int w1.2.2.2.2])), (hw1_1, .inl (G.2.1, 30, .inl w1.1))] H := hP
  have hD : va_D A [(hw0_0, .inr (4, [.ref hw0_1, .int w1.2.1, .int w1.2.2.1, .int w1.2.2.2.1, .int w0.2.2.2.2])), (hw0_1, .inl (G.2.1, 30, .inl w0.1)), (hw1_0, .inr (4, [.ref hw1_1, .int w1.2.1, .int w1.2.2.1, .int w1.2.2.2.1, .int w1.2.2.2.2])), (hw1_1, .inl (G.2.1, 30, .inl w1.1))] := hD
  refine lv_aload_n (pc := 24) hx hb dX7_take_24 rfl (lv_at hl 0 rfl) ?_
  refine lv_aload_n (pc := 25) hx hb dX7_take_25 rfl (lv_at hl 1 rfl) ?_
  refine va_get (pc := 26) (D := G.1) (ci := 4) (v := .int w1.2.2.2.2) (C := RX7) (T := TX7) (N := 5) hx hb hts inX7 hown hK.1 hP 2 rfl rfl 4 (by decide) (hts _ wd_124) (fun _ h9 => h9) rfl dX7_take_26 ?_
  refine va_put (pc := 29) (D := G.1) (ci := 4) (v := .int w1.2.2.2.2) (ty := .int) (C := RX7) (T := TX7) (N := 5) hx hb hts inX7 tyX7 tyX7_ok nmX7 hown hK.1 hP hD hS 0 rfl rfl 4 (by decide) (hts _ wd_124) (fun _ h9 => h9) rfl (by decide +kernel) rfl rfl (Nat.le_of_ble_eq_true rfl) dX7_take_29 (fun H locs hP hD hS => ?_)
  have hP : va_P G.1 vwCl [(hw0_0, .inr (4, [.ref hw0_1, .int w1.2.1, .int w1.2.2.1, .int w1.2.2.2.1, .int w1.2.2.2.2])), (hw0_1, .inl (G.2.1, 30, .inl w0.1)), (hw1_0, .inr (4, [.ref hw1_1, .int w1.2.1, .int w1.2.2.1, .int w1.2.2.2.1, .int w1.2.2.2.2])), (hw1_1, .inl (G.2.1, 30, .inl w1.1))] H := hP
  have hD : va_D A [(hw0_0, .inr (4, [.ref hw0_1, .int w1.2.1, .int w1.2.2.1, .int w1.2.2.2.1, .int w1.2.2.2.2])), (hw0_1, .inl (G.2.1, 30, .inl w0.1)), (hw1_0, .inr (4, [.ref hw1_1, .int w1.2.1, .int w1.2.2.1, .int w1.2.2.2.1, .int w1.2.2.2.2])), (hw1_1, .inl (G.2.1, 30, .inl w1.1))] := hD
  refine lv_aload_n (pc := 32) hx hb dX7_take_32 rfl (lv_at hl 1 rfl) ?_
  refine va_get (pc := 33) (D := G.1) (ci := 4) (v := .ref hw1_1) (C := RX7) (T := TX7) (N := 5) hx hb hts inX7 hown hK.1 hP 2 rfl rfl 0 (by decide) (hts _ wd_115) (fun _ h9 => h9) rfl dX7_take_33 ?_
  refine lv_iconst (pc := 36) (v := (0 : Int32)) hx hb dX7_take_36 (by decide) ?_
  refine lv_aload_n (pc := 37) hx hb dX7_take_37 rfl (lv_at hl 0 rfl) ?_
  refine va_get (pc := 38) (D := G.1) (ci := 4) (v := .ref hw0_1) (C := RX7) (T := TX7) (N := 5) hx hb hts inX7 hown hK.1 hP 0 rfl rfl 0 (by decide) (hts _ wd_115) (fun _ h9 => h9) rfl dX7_take_38 ?_
  refine lv_iconst (pc := 41) (v := (0 : Int32)) hx hb dX7_take_41 (by decide) ?_
  refine lv_bipush (pc := 42) (v := (30 : Int32)) hx hb dX7_take_42 (by decide) ?_
  obtain ⟨⟨hg1, hg2, hg3, hg4, hg5⟩, hf⟩ := gd_some hf
  refine va_copyi (pc := 44) (ty := .int) hx hb (hml.trans hl.1.symm) hown (hts _ wd_273) (hts _ wd_263) (hts _ wd_262) (hts _ wd_16) hK.1 hP hD hS 3 1 0 0 rfl rfl rfl rfl rfl hg1 hg2 hg3 hg4 hg5 (fun _ _ => rfl) (Nat.le_of_ble_eq_true rfl) (by decide +kernel) dX7_take_44 (fun H locs hP hD hS => ?_)
  have hP : va_P G.1 vwCl [(hw0_0, .inr (4, [.ref hw0_1, .int w1.2.1, .int w1.2.2.1, .int w1.2.2.2.1, .int w1.2.2.2.2])), (hw0_1, .inl (G.2.1, 30, .inl (va_cpy w1.1 w0.1 (0 : Int32).toNatClampNeg (0 : Int32).toNatClampNeg (30 : Int32).toNatClampNeg))), (hw1_0, .inr (4, [.ref hw1_1, .int w1.2.1, .int w1.2.2.1, .int w1.2.2.2.1, .int w1.2.2.2.2])), (hw1_1, .inl (G.2.1, 30, .inl w1.1))] H := hP
  have hD : va_D A [(hw0_0, .inr (4, [.ref hw0_1, .int w1.2.1, .int w1.2.2.1, .int w1.2.2.2.1, .int w1.2.2.2.2])), (hw0_1, .inl (G.2.1, 30, .inl (va_cpy w1.1 w0.1 (0 : Int32).toNatClampNeg (0 : Int32).toNatClampNeg (30 : Int32).toNatClampNeg))), (hw1_0, .inr (4, [.ref hw1_1, .int w1.2.1, .int w1.2.2.1, .int w1.2.2.2.1, .int w1.2.2.2.2])), (hw1_1, .inl (G.2.1, 30, .inl w1.1))] := hD
  have hf := Option.some.inj hf; subst hf
  rw [← hQ]
  exact g_vret hx hb hr hlocks hP hS dX7_take_47
theorem hd_X7_mixInto : yX7_mixInto.cls ≠ "java/lang/invoke/MethodHandle" ∧ yX7_mixInto.cls ≠ "java/lang/invoke/VarHandle" ∧ (parseMethodDescriptor yX7_mixInto.desc).map (fun d => d.parameters.length) = some 1 := by decide +kernel
abbrev rm_X7_mixInto : Room := { frames := 2, cells := 0, slots := 0, locals := 42 }
noncomputable def f_X7_mixInto_L22 (w0 : TPlan) (p1 : Int64)  : Nat → Int32 → Int64 → Option Int64
  | 0, _, _ => none
  | k22 + 1, v5, v3 =>
    br (w0.2.2.1 ≤ v5) ((f_X10_mix v3 w0.2.2.2.1.toInt64).bind (fun x2 => some x2)) ((f_X7_at w0 v5).bind (fun x3 => (f_X10_mix v3 x3.toInt64).bind (fun x4 => f_X7_mixInto_L22 w0 p1  k22 (v5 + (1 : Int32)) x4)))
noncomputable def f_X7_mixInto (w0 : TPlan) (p1 : Int64) : Option Int64 :=
  br (w0.2.1 = 0) ((f_X10_mix p1 (0 : Int64)).bind (fun x5 => some x5)) ((f_X10_mix p1 (1 : Int64)).bind (fun x1 => f_X7_mixInto_L22 w0 p1 FUEL (0 : Int32) x1))
set_option maxHeartbeats 4000000 in
set_option maxRecDepth 100000 in
theorem c_X7_mixInto (l : Launch) (G : GT) (hw0_0 hw0_1 : Nat) (w0 : TPlan) (p1 : Int64) {r : Int64} (hf : f_X7_mixInto w0 p1 = some r) : Ct l yX7_mixInto (Cond.code yX7_mixInto cX7_mixInto 6 (some .long) :: lw_g) rm_X7_mixInto G [.ref hw0_0, .long p1] [(hw0_0, .inr (4, [.ref hw0_1, .int w0.2.1, .int w0.2.2.1, .int w0.2.2.2.1, .int w0.2.2.2.2])), (hw0_1, .inl (G.2.1, 30, .inl w0.1))] (some (.long r)) [(hw0_0, .inr (4, [.ref hw0_1, .int w0.2.1, .int w0.2.2.1, .int w0.2.2.2.1, .int w0.2.2.2.2])), (hw0_1, .inl (G.2.1, 30, .inl w0.1))] := by
  refine Ct.ofW (cc := cX7_mixInto) (maxL := 6) (ret := (some .long)) (own := RX7) (by decide) rfl rfl (Nat.le_of_ble_eq_true rfl) ?_
  intro p e s m args below meth c A hx hb hr hml hts hown hlocks hK hP hD hA hS ls hl
  have hl : lv_has ls 6 [(0, .ref hw0_0), (1, .long p1)] := hl
  generalize hQ : gMQ below G _ _ A args s = Q
  generalize hH : s.heap = H at hP ⊢
  have hS : va_S A s.heap H [] := by rw [← hH]; exact hS
  generalize ([] : List Loc) = locs at hS ⊢
  unfold f_X7_mixInto at hf
  have hL22 : ∀ (k22 : Nat) (v5 : Int32) (v3 : Int64), f_X7_mixInto_L22 w0 p1  k22 v5 v3 = some r → ∀ (H : Heap) (locs : List Loc), va_P G.1 vwCl [(hw0_0, .inr (4, [.ref hw0_1, .int w0.2.1, .int w0.2.2.1, .int w0.2.2.2.1, .int w0.2.2.2.2])), (hw0_1, .inl (G.2.1, 30, .inl w0.1))] H → va_D A [(hw0_0, .inr (4, [.ref hw0_1, .int w0.2.1, .int w0.2.2.1, .int w0.2.2.2.1, .int w0.2.2.2.2])), (hw0_1, .inl (G.2.1, 30, .inl w0.1))] → va_S A s.heap H locs → ∀ (ls : Array Slot), lv_has ls 6 [(5, .int v5), (3, .long v3), (0, .ref hw0_0)] → W p l e (rm_X7_mixInto) s m args below meth c H locs 0 0 Q (F0 m 22 ls []) := by
    intro k22
    induction k22 with
    | zero =>
      intro v5 v3 hf
      rw [f_X7_mixInto_L22.eq_1] at hf; cases hf
    | succ k22 ih22 =>
      intro v5 v3 hf H locs hP hD hS ls hl
      rw [f_X7_mixInto_L22.eq_2] at hf
      refine lv_iload (pc := 22) hx hb dX7_mixInto_22 (lv_at hl 0 rfl) ?_
      refine lv_aload_n (pc := 24) hx hb dX7_mixInto_24 rfl (lv_at hl 2 rfl) ?_
      refine va_get (pc := 25) (D := G.1) (ci := 4) (v := .int w0.2.2.1) (C := RX7) (T := TX7) (N := 5) hx hb hts inX7 hown hK.1 hP 0 rfl rfl 2 (by decide) (hts _ wd_119) (fun _ h9 => h9) rfl dX7_mixInto_25 ?_
      refine lv_icmp_ge (pc := 28) (tgt := 49) hx hb dX7_mixInto_28 (by decide) (fun hc => ?_) (fun hc => ?_)
      · have hf := br_y hc hf
        refine lv_lload_n (pc := 49) hx hb dX7_mixInto_49 rfl (lv_at hl 1 rfl) ?_
        refine lv_aload_n (pc := 50) hx hb dX7_mixInto_50 rfl (lv_at hl 2 rfl) ?_
        refine va_get (pc := 51) (D := G.1) (ci := 4) (v := .int w0.2.2.2.1) (C := RX7) (T := TX7) (N := 5) hx hb hts inX7 hown hK.1 hP 0 rfl rfl 3 (by decide) (hts _ wd_122) (fun _ h9 => h9) rfl dX7_mixInto_51 ?_
        refine lv_i2l (pc := 54) (v := w0.2.2.2.1.toInt64) hx hb dX7_mixInto_54 rfl ?_
        obtain ⟨x2, hcx2, hf⟩ := bn_some hf
        refine g_callSN0 (pc := 55) (rest := []) hx hb hml hown hts hK (c_X10_mix l G  v3 w0.2.2.2.1.toInt64 hcx2) wd_454 wd_1 (nmw_478 hK) wd_453 hd_X10_mix ⟨rfl, rfl, Nat.le_of_ble_eq_true rfl, Nat.le_of_ble_eq_true rfl⟩ hP hD hS hA [] rfl rfl rfl hl.1 rfl (Nat.le_of_ble_eq_true rfl) dX7_mixInto_55 ⟨Nat.zero_le _, Nat.zero_le _⟩ (fun H locs hP hS => ?_)
        have hf := Option.some.inj hf; subst hf
        rw [← hQ]
        exact g_lret hx hb hr hlocks hP hS dX7_mixInto_58
      · have hf := br_n hc hf
        refine lv_lload_n (pc := 31) hx hb dX7_mixInto_31 rfl (lv_at hl 1 rfl) ?_
        refine lv_aload_n (pc := 32) hx hb dX7_mixInto_32 rfl (lv_at hl 2 rfl) ?_
        refine lv_iload (pc := 33) hx hb dX7_mixInto_33 (lv_at hl 0 rfl) ?_
        obtain ⟨x3, hcx3, hf⟩ := bn_some hf
        refine g_callV0 (pc := 35) (rest := [.long v3]) hx hb hml hown hts hK (c_X7_at l G hw0_0 hw0_1 w0 v5 hcx3) wd_482 wd_6 wd_479 wd_480 wd_481 hd_X7_at ⟨rfl, rfl, Nat.le_of_ble_eq_true rfl, Nat.le_of_ble_eq_true rfl⟩ hP hD hS hA [0, 1] rfl rfl 4 0 rfl rfl rfl rfl hl.1 rfl (Nat.le_of_ble_eq_true rfl) dX7_mixInto_35 ⟨Nat.zero_le _, Nat.zero_le _⟩ (fun H locs hP hS => ?_)
        refine lv_i2l (pc := 38) (v := x3.toInt64) hx hb dX7_mixInto_38 rfl ?_
        obtain ⟨x4, hcx4, hf⟩ := bn_some hf
        refine g_callSN0 (pc := 39) (rest := []) hx hb hml hown hts hK (c_X10_mix l G  v3 x3.toInt64 hcx4) wd_454 wd_1 (nmw_478 hK) wd_453 hd_X10_mix ⟨rfl, rfl, Nat.le_of_ble_eq_true rfl, Nat.le_of_ble_eq_true rfl⟩ hP hD hS hA [] rfl rfl rfl hl.1 rfl (Nat.le_of_ble_eq_true rfl) dX7_mixInto_39 ⟨Nat.zero_le _, Nat.zero_le _⟩ (fun H locs hP hS => ?_)
        refine lv_lstore_n (pc := 42) (lv' := [(3, .long x4), (5, .int v5), (0, .ref hw0_0)]) hx hb dX7_mixInto_42 rfl hl (by decide) rfl (fun ls hl => ?_)
        refine lv_iinc (pc := 43) (v := (v5 + (1 : Int32))) (lv' := [(5, .int (v5 + (1 : Int32))), (3, .long x4), (0, .ref hw0_0)]) hx hb dX7_mixInto_43 hl (k := 1) rfl rfl (by decide) rfl (fun ls hl => ?_)
        refine lv_goto (pc := 46) (tgt := 22) hx hb dX7_mixInto_46 (by decide) ?_
        exact ih22 (v5 + (1 : Int32)) x4 hf H locs hP hD hS ls (lv_sub hl [0, 1, 2] rfl)
  refine lv_aload_n (pc := 0) hx hb dX7_mixInto_0 rfl (lv_at hl 0 rfl) ?_
  refine va_get (pc := 1) (D := G.1) (ci := 4) (v := .int w0.2.1) (C := RX7) (T := TX7) (N := 5) hx hb hts inX7 hown hK.1 hP 0 rfl rfl 1 (by decide) (hts _ wd_117) (fun _ h9 => h9) rfl dX7_mixInto_1 ?_
  refine lv_if_ne (pc := 4) (tgt := 13) hx hb dX7_mixInto_4 (by decide) (fun hc => ?_) (fun hc => ?_)
  · have hf := br_n hc hf
    refine lv_lload_n (pc := 13) hx hb dX7_mixInto_13 rfl (lv_at hl 1 rfl) ?_
    refine lv_lconst (pc := 14) (v := (1 : Int64)) hx hb dX7_mixInto_14 (by decide) ?_
    obtain ⟨x1, hcx1, hf⟩ := bn_some hf
    refine g_callSN0 (pc := 15) (rest := []) hx hb hml hown hts hK (c_X10_mix l G  p1 (1 : Int64) hcx1) wd_454 wd_1 (nmw_478 hK) wd_453 hd_X10_mix ⟨rfl, rfl, Nat.le_of_ble_eq_true rfl, Nat.le_of_ble_eq_true rfl⟩ hP hD hS hA [] rfl rfl rfl hl.1 rfl (Nat.le_of_ble_eq_true rfl) dX7_mixInto_15 ⟨Nat.zero_le _, Nat.zero_le _⟩ (fun H locs hP hS => ?_)
    refine lv_lstore_n (pc := 18) (lv' := [(3, .long x1), (0, .ref hw0_0), (1, .long p1)]) hx hb dX7_mixInto_18 rfl hl (by decide) rfl (fun ls hl => ?_)
    refine lv_iconst (pc := 19) (v := (0 : Int32)) hx hb dX7_mixInto_19 (by decide) ?_
    refine lv_istore (pc := 20) (lv' := [(5, .int (0 : Int32)), (3, .long x1), (0, .ref hw0_0), (1, .long p1)]) hx hb dX7_mixInto_20 hl (by decide) rfl (fun ls hl => ?_)
    exact hL22 FUEL (0 : Int32) x1 hf H locs hP hD hS ls (lv_sub hl [0, 1, 2] rfl)
  · have hf := br_y hc hf
    refine lv_lload_n (pc := 7) hx hb dX7_mixInto_7 rfl (lv_at hl 1 rfl) ?_
    refine lv_lconst (pc := 8) (v := (0 : Int64)) hx hb dX7_mixInto_8 (by decide) ?_
    obtain ⟨x5, hcx5, hf⟩ := bn_some hf
    refine g_callSN0 (pc := 9) (rest := []) hx hb hml hown hts hK (c_X10_mix l G  p1 (0 : Int64) hcx5) wd_454 wd_1 (nmw_478 hK) wd_453 hd_X10_mix ⟨rfl, rfl, Nat.le_of_ble_eq_true rfl, Nat.le_of_ble_eq_true rfl⟩ hP hD hS hA [] rfl rfl rfl hl.1 rfl (Nat.le_of_ble_eq_true rfl) dX7_mixInto_9 ⟨Nat.zero_le _, Nat.zero_le _⟩ (fun H locs hP hS => ?_)
    have hf := Option.some.inj hf; subst hf
    rw [← hQ]
    exact g_lret hx hb hr hlocks hP hS dX7_mixInto_12
