/-! what the constructors make -/
def sh (h : Nat) (a : Nat → Nat) : Nat → Nat
  | 0 => h
  | k + 1 => a k
abbrev z0 : Nat → Int32 := fun _ => 0
abbrev by0 : TBytes := (z0, 0)
abbrev de0 : TDelta := (z0, z0, z0, z0, z0, z0, 0, 0, 0, 0, -1)
abbrev pl0 : TPlan := (z0, 0, 0, 0, 0)
abbrev wk0 : TWork := (by0, 0, 0)
abbrev st0 : TState := (by0, by0, de0, pl0, by0, wk0)
abbrev hi0 : THistory := ((st0, st0, st0, st0), 0, 0)
abbrev dc0 : TDecoder := (de0, 0, 0, 0)
abbrev mo0 : TModel := (z0, z0, 0, 0, z0, z0, 0, 0, 0, z0, z0, z0, 0, z0)
abbrev maxz (p1 : Int32) : Int32 := if (0 : Int32) < p1 then p1 else (0 : Int32)
def mkBy (G : GT) (h n : Nat) (a : Nat → Nat) : va_W := [(h, .inr (0, [.ref (a 0), .int 0])), (a 0, .inl (G.2.1, n, .inl (fun _ => 0)))]
theorem hd_X0_init : yX0_init.cls ≠ "java/lang/invoke/MethodHandle" ∧ yX0_init.cls ≠ "java/lang/invoke/VarHandle" ∧ (parseMethodDescriptor yX0_init.desc).map (fun d => d.parameters.length) = some 1 := by decide +kernel
abbrev rm_X0_init (n : Nat) : Room := { frames := 1, cells := 1, slots := n, locals := 24 }
set_option maxHeartbeats 4000000 in
set_option maxRecDepth 100000 in
theorem c_X0_init (l : Launch) (G : GT) (h : Nat) (n : Nat) (p1 : Int32) (hn : ¬ maxz p1 < 0) (hN : (maxz p1).toNatClampNeg = n) (hB : n * 4 ≤ 536870912) : CtI l yX0_init (Cond.code yX0_init cX0_init 2 none :: lw_g) (rm_X0_init n) G [.ref h, .int p1] [(h, .inr (0, [.null, .int 0]))] (mkBy G h n) := by
  refine CtI.ofW (cc := cX0_init) (maxL := 2) (own := RX0) (by decide) rfl rfl (Nat.le_of_ble_eq_true rfl) rfl ?_
  intro p e s m args below meth c A hx hb hr hml hts hown hlocks hK hP hD hA hS hO hin ls hl
  have hl : lv_has ls 2 [(0, .ref h), (1, .int p1)] := hl
  generalize hH : s.heap = H at hP ⊢
  have hS : va_S A s.heap H [] := by rw [← hH]; exact hS
  refine lv_aload_n (pc := 0) hx hb dX0_init_0 rfl (lv_at hl 0 rfl) ?_
  refine W.objInit (g := F0 m 1 ls [.ref h]) hx hb hown (hts _ wd_41) (hts _ wd_28) (hts _ wd_29) rfl (by rw [hml]; exact hl.1) rfl dX0_init_1 (Nat.le_of_ble_eq_true rfl) (Nat.le_of_ble_eq_true rfl) ?_
  refine W.eq (g2 := F0 m 4 ls []) rfl ?_
  refine lv_aload_n (pc := 4) hx hb dX0_init_4 rfl (lv_at hl 0 rfl) ?_
  refine lv_iconst (pc := 5) (v := (0 : Int32)) hx hb dX0_init_5 (by decide) ?_
  refine lv_iload_n (pc := 6) hx hb dX0_init_6 rfl (lv_at hl 1 rfl) ?_
  refine va_mmax (pc := 7) hx hb (hml.trans hl.1.symm) hown (hts _ wd_42) (hts _ wd_43) (hts _ wd_4) (hts _ wd_44) (Nat.le_of_ble_eq_true rfl) (Nat.le_of_ble_eq_true rfl) (Nat.zero_le _) (Nat.zero_le _) dX0_init_7 ?_
  refine i_newI (pc := 10) (N' := n) hx hb (hts _ wd_56) hK hP hD hS hA hn hN hB (Nat.le_refl 1) (Nat.le_of_eq (Nat.zero_add n)) dX0_init_10 (fun q1 H hP hD hS => ?_)
  refine W.widen (k := 1) (n := n) (Nat.le_refl 1) (Nat.le_of_eq (Nat.zero_add n)) ?_
  have hP : va_P G.1 vwCl [(h, .inr (0, [.null, .int 0])), (q1, .inl (G.2.1, n, .inl (fun _ => 0)))] H := hP
  have hD : va_D A [(h, .inr (0, [.null, .int 0])), (q1, .inl (G.2.1, n, .inl (fun _ => 0)))] := hD
  refine va_putF (pc := 12) (D := G.1) (ci := 0) (v := .ref q1) (ty := .array .int) (C := RX0) (T := TX0) (N := 2) hx hb hts inX0 tyX0 tyX0_ok nmX0 hown hK.1 hP hD hS 0 rfl rfl 0 (by decide) (hts _ wd_45) (fun _ h9 => h9) rfl hin rfl (by decide +kernel) rfl rfl (Nat.le_of_ble_eq_true rfl) dX0_init_12 (fun H locs hP hD hS => ?_)
  have hP : va_P G.1 vwCl [(h, .inr (0, [.ref q1, .int 0])), (q1, .inl (G.2.1, n, .inl (fun _ => 0)))] H := hP
  have hD : va_D A [(h, .inr (0, [.ref q1, .int 0])), (q1, .inl (G.2.1, n, .inl (fun _ => 0)))] := hD
  exact i_ret (a := fun k => ([q1] : List Nat).getD k 0) hx hb hr hlocks (Nat.le_refl _) (Nat.le_refl _) hP hD hS dX0_init_15
def mkDe (G : GT) (h : Nat) (a : Nat → Nat) : va_W := [(h, .inr (2, [.ref (a 0), .ref (a 1), .ref (a 2), .ref (a 3), .ref (a 4), .ref (a 5), .int 0, .int 0, .int 0, .int 0, .int (-1 : Int32)])), ((a 0), .inl (G.2.1, 30, .inl (fun _ => 0))), ((a 1), .inl (G.2.1, 30, .inl (fun _ => 0))), ((a 2), .inl (G.2.1, 30, .inl (fun _ => 0))), ((a 3), .inl (G.2.1, 30, .inl (fun _ => 0))), ((a 4), .inl (G.2.1, 30, .inl (fun _ => 0))), ((a 5), .inl (G.2.1, 64, .inl (fun _ => 0)))]
theorem hd_X2_init : yX2_init.cls ≠ "java/lang/invoke/MethodHandle" ∧ yX2_init.cls ≠ "java/lang/invoke/VarHandle" ∧ (parseMethodDescriptor yX2_init.desc).map (fun d => d.parameters.length) = some 0 := by decide +kernel
abbrev rm_X2_init : Room := { frames := 1, cells := 6, slots := 214, locals := 12 }
set_option maxHeartbeats 4000000 in
set_option maxRecDepth 100000 in
theorem c_X2_init (l : Launch) (G : GT) (h : Nat) : CtI l yX2_init (Cond.code yX2_init cX2_init 1 none :: lw_g) rm_X2_init G [.ref h] [(h, .inr (2, [.null, .null, .null, .null, .null, .null, .int 0, .int 0, .int 0, .int 0, .int 0]))] (mkDe G h) := by
  refine CtI.ofW (cc := cX2_init) (maxL := 1) (own := RX2) (by decide) rfl rfl (Nat.le_of_ble_eq_true rfl) rfl ?_
  intro p e s m args below meth c A hx hb hr hml hts hown hlocks hK hP hD hA hS hO hin ls hl
  have hl : lv_has ls 1 [(0, .ref h)] := hl
  generalize hH : s.heap = H at hP ⊢
  have hS : va_S A s.heap H [] := by rw [← hH]; exact hS
  refine lv_aload_n (pc := 0) hx hb dX2_init_0 rfl (lv_at hl 0 rfl) ?_
  refine W.objInit (g := F0 m 1 ls [.ref h]) hx hb hown (hts _ wd_62) (hts _ wd_28) (hts _ wd_29) rfl (by rw [hml]; exact hl.1) rfl dX2_init_1 (Nat.le_of_ble_eq_true rfl) (Nat.le_of_ble_eq_true rfl) ?_
  refine W.eq (g2 := F0 m 4 ls []) rfl ?_
  refine lv_aload_n (pc := 4) hx hb dX2_init_4 rfl (lv_at hl 0 rfl) ?_
  refine lv_bipush (pc := 5) (v := (30 : Int32)) hx hb dX2_init_5 (by decide) ?_
  refine i_newI (pc := 7) (N' := 30) hx hb (hts _ wd_56) hK hP hD hS hA (by decide) (by decide) (by decide) (Nat.le_of_ble_eq_true rfl) (Nat.le_of_ble_eq_true rfl) dX2_init_7 (fun q1 H hP hD hS => ?_)
  refine W.widen (k := 1) (n := 30) (Nat.le_of_ble_eq_true rfl) (Nat.le_of_ble_eq_true rfl) ?_
  have hP : va_P G.1 vwCl [(h, .inr (2, [.null, .null, .null, .null, .null, .null, .int 0, .int 0, .int 0, .int 0, .int 0])), (q1, .inl (G.2.1, 30, .inl (fun _ => 0)))] H := hP
  have hD : va_D A [(h, .inr (2, [.null, .null, .null, .null, .null, .null, .int 0, .int 0, .int 0, .int 0, .int 0])), (q1, .inl (G.2.1, 30, .inl (fun _ => 0)))] := hD
  refine va_putF (pc := 9) (D := G.1) (ci := 2) (v := .ref q1) (ty := .array .int) (C := RX2) (T := TX2) (N := 11) hx hb hts inX2 tyX2 tyX2_ok nmX2 hown hK.1 hP hD hS 0 rfl rfl 0 (by decide) (hts _ wd_63) (fun _ h9 => h9) rfl hin rfl (by decide +kernel) rfl rfl (Nat.le_of_ble_eq_true rfl) dX2_init_9 (fun H locs hP hD hS => ?_)
  have hP : va_P G.1 vwCl [(h, .inr (2, [.ref q1, .null, .null, .null, .null, .null, .int 0, .int 0, .int 0, .int 0, .int 0])), (q1, .inl (G.2.1, 30, .inl (fun _ => 0)))] H := hP
  have hD : va_D A [(h, .inr (2, [.ref q1, .null, .null, .null, .null, .null, .int 0, .int 0, .int 0, .int 0, .int 0])), (q1, .inl (G.2.1, 30, .inl (fun _ => 0)))] := hD
  refine lv_aload_n (pc := 12) hx hb dX2_init_12 rfl (lv_at hl 0 rfl) ?_
  refine lv_bipush (pc := 13) (v := (30 : Int32)) hx hb dX2_init_13 (by decide) ?_
  refine i_newI (pc := 15) (N' := 30) hx hb (hts _ wd_56) hK hP hD hS hA (by decide) (by decide) (by decide) (Nat.le_of_ble_eq_true rfl) (Nat.le_of_ble_eq_true rfl) dX2_init_15 (fun q2 H hP hD hS => ?_)
  refine W.widen (k := 2) (n := 60) (Nat.le_of_ble_eq_true rfl) (Nat.le_of_ble_eq_true rfl) ?_
  have hP : va_P G.1 vwCl [(h, .inr (2, [.ref q1, .null, .null, .null, .null, .null, .int 0, .int 0, .int 0, .int 0, .int 0])), (q1, .inl (G.2.1, 30, .inl (fun _ => 0))), (q2, .inl (G.2.1, 30, .inl (fun _ => 0)))] H := hP
  have hD : va_D A [(h, .inr (2, [.ref q1, .null, .null, .null, .null, .null, .int 0, .int 0, .int 0, .int 0, .int 0])), (q1, .inl (G.2.1, 30, .inl (fun _ => 0))), (q2, .inl (G.2.1, 30, .inl (fun _ => 0)))] := hD
  refine va_putF (pc := 17) (D := G.1) (ci := 2) (v := .ref q2) (ty := .array .int) (C := RX2) (T := TX2) (N := 11) hx hb hts inX2 tyX2 tyX2_ok nmX2 hown hK.1 hP hD hS 0 rfl rfl 1 (by decide) (hts _ wd_64) (fun _ h9 => h9) rfl hin rfl (by decide +kernel) rfl rfl (Nat.le_of_ble_eq_true rfl) dX2_init_17 (fun H locs hP hD hS => ?_)
  have hP : va_P G.1 vwCl [(h, .inr (2, [.ref q1, .ref q2, .null, .null, .null, .null, .int 0, .int 0, .int 0, .int 0, .int 0])), (q1, .inl (G.2.1, 30, .inl (fun _ => 0))), (q2, .inl (G.2.1, 30, .inl (fun _ => 0)))] H := hP
  have hD : va_D A [(h, .inr (2, [.ref q1, .ref q2, .null, .null, .null, .null, .int 0, .int 0, .int 0, .int 0, .int 0])), (q1, .inl (G.2.1, 30, .inl (fun _ => 0))), (q2, .inl (G.2.1, 30, .inl (fun _ => 0)))] := hD
  refine lv_aload_n (pc := 20) hx hb dX2_init_20 rfl (lv_at hl 0 rfl) ?_
  refine lv_bipush (pc := 21) (v := (30 : Int32)) hx hb dX2_init_21 (by decide) ?_
  refine i_newI (pc := 23) (N' := 30) hx hb (hts _ wd_56) hK hP hD hS hA (by decide) (by decide) (by decide) (Nat.le_of_ble_eq_true rfl) (Nat.le_of_ble_eq_true rfl) dX2_init_23 (fun q3 H hP hD hS => ?_)
  refine W.widen (k := 3) (n := 90) (Nat.le_of_ble_eq_true rfl) (Nat.le_of_ble_eq_true rfl) ?_
  have hP : va_P G.1 vwCl [(h, .inr (2, [.ref q1, .ref q2, .null, .null, .null, .null, .int 0, .int 0, .int 0, .int 0, .int 0])), (q1, .inl (G.2.1, 30, .inl (fun _ => 0))), (q2, .inl (G.2.1, 30, .inl (fun _ => 0))), (q3, .inl (G.2.1, 30, .inl (fun _ => 0)))] H := hP
  have hD : va_D A [(h, .inr (2, [.ref q1, .ref q2, .null, .null, .null, .null, .int 0, .int 0, .int 0, .int 0, .int 0])), (q1, .inl (G.2.1, 30, .inl (fun _ => 0))), (q2, .inl (G.2.1, 30, .inl (fun _ => 0))), (q3, .inl (G.2.1, 30, .inl (fun _ => 0)))] := hD
  refine va_putF (pc := 25) (D := G.1) (ci := 2) (v := .ref q3) (ty := .array .int) (C := RX2) (T := TX2) (N := 11) hx hb hts inX2 tyX2 tyX2_ok nmX2 hown hK.1 hP hD hS 0 rfl rfl 2 (by decide) (hts _ wd_65) (fun _ h9 => h9) rfl hin rfl (by decide +kernel) rfl rfl (Nat.le_of_ble_eq_true rfl) dX2_init_25 (fun H locs hP hD hS => ?_)
  have hP : va_P G.1 vwCl [(h, .inr (2, [.ref q1, .ref q2, .ref q3, .null, .null, .null, .int 0, .int 0, .int 0, .int 0, .int 0])), (q1, .inl (G.2.1, 30, .inl (fun _ => 0))), (q2, .inl (G.2.1, 30, .inl (fun _ => 0))), (q3, .inl (G.2.1, 30, .inl (fun _ => 0)))] H := hP
  have hD : va_D A [(h, .inr (2, [.ref q1, .ref q2, .ref q3, .null, .null, .null, .int 0, .int 0, .int 0, .int 0, .int 0])), (q1, .inl (G.2.1, 30, .inl (fun _ => 0))), (q2, .inl (G.2.1, 30, .inl (fun _ => 0))), (q3, .inl (G.2.1, 30, .inl (fun _ => 0)))] := hD
  refine lv_aload_n (pc := 28) hx hb dX2_init_28 rfl (lv_at hl 0 rfl) ?_
  refine lv_bipush (pc := 29) (v := (30 : Int32)) hx hb dX2_init_29 (by decide) ?_
  refine i_newI (pc := 31) (N' := 30) hx hb (hts _ wd_56) hK hP hD hS hA (by decide) (by decide) (by decide) (Nat.le_of_ble_eq_true rfl) (Nat.le_of_ble_eq_true rfl) dX2_init_31 (fun q4 H hP hD hS => ?_)
  refine W.widen (k := 4) (n := 120) (Nat.le_of_ble_eq_true rfl) (Nat.le_of_ble_eq_true rfl) ?_
  have hP : va_P G.1 vwCl [(h, .inr (2, [.ref q1, .ref q2, .ref q3, .null, .null, .null, .int 0, .int 0, .int 0, .int 0, .int 0])), (q1, .inl (G.2.1, 30, .inl (fun _ => 0))), (q2, .inl (G.2.1, 30, .inl (fun _ => 0))), (q3, .inl (G.2.1, 30, .inl (fun _ => 0))), (q4, .inl (G.2.1, 30, .inl (fun _ => 0)))] H := hP
  have hD : va_D A [(h, .inr (2, [.ref q1, .ref q2, .ref q3, .null, .null, .null, .int 0, .int 0, .int 0, .int 0, .int 0])), (q1, .inl (G.2.1, 30, .inl (fun _ => 0))), (q2, .inl (G.2.1, 30, .inl (fun _ => 0))), (q3, .inl (G.2.1, 30, .inl (fun _ => 0))), (q4, .inl (G.2.1, 30, .inl (fun _ => 0)))] := hD
  refine va_putF (pc := 33) (D := G.1) (ci := 2) (v := .ref q4) (ty := .array .int) (C := RX2) (T := TX2) (N := 11) hx hb hts inX2 tyX2 tyX2_ok nmX2 hown hK.1 hP hD hS 0 rfl rfl 3 (by decide) (hts _ wd_66) (fun _ h9 => h9) rfl hin rfl (by decide +kernel) rfl rfl (Nat.le_of_ble_eq_true rfl) dX2_init_33 (fun H locs hP hD hS => ?_)
  have hP : va_P G.1 vwCl [(h, .inr (2, [.ref q1, .ref q2, .ref q3, .ref q4, .null, .null, .int 0, .int 0, .int 0, .int 0, .int 0])), (q1, .inl (G.2.1, 30, .inl (fun _ => 0))), (q2, .inl (G.2.1, 30, .inl (fun _ => 0))), (q3, .inl (G.2.1, 30, .inl (fun _ => 0))), (q4, .inl (G.2.1, 30, .inl (fun _ => 0)))] H := hP
  have hD : va_D A [(h, .inr (2, [.ref q1, .ref q2, .ref q3, .ref q4, .null, .null, .int 0, .int 0, .int 0, .int 0, .int 0])), (q1, .inl (G.2.1, 30, .inl (fun _ => 0))), (q2, .inl (G.2.1, 30, .inl (fun _ => 0))), (q3, .inl (G.2.1, 30, .inl (fun _ => 0))), (q4, .inl (G.2.1, 30, .inl (fun _ => 0)))] := hD
  refine lv_aload_n (pc := 36) hx hb dX2_init_36 rfl (lv_at hl 0 rfl) ?_
  refine lv_bipush (pc := 37) (v := (30 : Int32)) hx hb dX2_init_37 (by decide) ?_
  refine i_newI (pc := 39) (N' := 30) hx hb (hts _ wd_56) hK hP hD hS hA (by decide) (by decide) (by decide) (Nat.le_of_ble_eq_true rfl) (Nat.le_of_ble_eq_true rfl) dX2_init_39 (fun q5 H hP hD hS => ?_)
  refine W.widen (k := 5) (n := 150) (Nat.le_of_ble_eq_true rfl) (Nat.le_of_ble_eq_true rfl) ?_
  have hP : va_P G.1 vwCl [(h, .inr (2, [.ref q1, .ref q2, .ref q3, .ref q4, .null, .null, .int 0, .int 0, .int 0, .int 0, .int 0])), (q1, .inl (G.2.1, 30, .inl (fun _ => 0))), (q2, .inl (G.2.1, 30, .inl (fun _ => 0))), (q3, .inl (G.2.1, 30, .inl (fun _ => 0))), (q4, .inl (G.2.1, 30, .inl (fun _ => 0))), (q5, .inl (G.2.1, 30, .inl (fun _ => 0)))] H := hP
  have hD : va_D A [(h, .inr (2, [.ref q1, .ref q2, .ref q3, .ref q4, .null, .null, .int 0, .int 0, .int 0, .int 0, .int 0])), (q1, .inl (G.2.1, 30, .inl (fun _ => 0))), (q2, .inl (G.2.1, 30, .inl (fun _ => 0))), (q3, .inl (G.2.1, 30, .inl (fun _ => 0))), (q4, .inl (G.2.1, 30, .inl (fun _ => 0))), (q5, .inl (G.2.1, 30, .inl (fun _ => 0)))] := hD
  refine va_putF (pc := 41) (D := G.1) (ci := 2) (v := .ref q5) (ty := .array .int) (C := RX2) (T := TX2) (N := 11) hx hb hts inX2 tyX2 tyX2_ok nmX2 hown hK.1 hP hD hS 0 rfl rfl 4 (by decide) (hts _ wd_67) (fun _ h9 => h9) rfl hin rfl (by decide +kernel) rfl rfl (Nat.le_of_ble_eq_true rfl) dX2_init_41 (fun H locs hP hD hS => ?_)
  have hP : va_P G.1 vwCl [(h, .inr (2, [.ref q1, .ref q2, .ref q3, .ref q4, .ref q5, .null, .int 0, .int 0, .int 0, .int 0, .int 0])), (q1, .inl (G.2.1, 30, .inl (fun _ => 0))), (q2, .inl (G.2.1, 30, .inl (fun _ => 0))), (q3, .inl (G.2.1, 30, .inl (fun _ => 0))), (q4, .inl (G.2.1, 30, .inl (fun _ => 0))), (q5, .inl (G.2.1, 30, .inl (fun _ => 0)))] H := hP
  have hD : va_D A [(h, .inr (2, [.ref q1, .ref q2, .ref q3, .ref q4, .ref q5, .null, .int 0, .int 0, .int 0, .int 0, .int 0])), (q1, .inl (G.2.1, 30, .inl (fun _ => 0))), (q2, .inl (G.2.1, 30, .inl (fun _ => 0))), (q3, .inl (G.2.1, 30, .inl (fun _ => 0))), (q4, .inl (G.2.1, 30, .inl (fun _ => 0))), (q5, .inl (G.2.1, 30, .inl (fun _ => 0)))] := hD
  refine lv_aload_n (pc := 44) hx hb dX2_init_44 rfl (lv_at hl 0 rfl) ?_
  refine lv_bipush (pc := 45) (v := (64 : Int32)) hx hb dX2_init_45 (by decide) ?_
  refine i_newI (pc := 47) (N' := 64) hx hb (hts _ wd_56) hK hP hD hS hA (by decide) (by decide) (by decide) (Nat.le_of_ble_eq_true rfl) (Nat.le_of_ble_eq_true rfl) dX2_init_47 (fun q6 H hP hD hS => ?_)
  refine W.widen (k := 6) (n := 214) (Nat.le_of_ble_eq_true rfl) (Nat.le_of_ble_eq_true rfl) ?_
  have hP : va_P G.1 vwCl [(h, .inr (2, [.ref q1, .ref q2, .ref q3, .ref q4, .ref q5, .null, .int 0, .int 0, .int 0, .int 0, .int 0])), (q1, .inl (G.2.1, 30, .inl (fun _ => 0))), (q2, .inl (G.2.1, 30, .inl (fun _ => 0))), (q3, .inl (G.2.1, 30, .inl (fun _ => 0))), (q4, .inl (G.2.1, 30, .inl (fun _ => 0))), (q5, .inl (G.2.1, 30, .inl (fun _ => 0))), (q6, .inl (G.2.1, 64, .inl (fun _ => 0)))] H := hP
  have hD : va_D A [(h, .inr (2, [.ref q1, .ref q2, .ref q3, .ref q4, .ref q5, .null, .int 0, .int 0, .int 0, .int 0, .int 0])), (q1, .inl (G.2.1, 30, .inl (fun _ => 0))), (q2, .inl (G.2.1, 30, .inl (fun _ => 0))), (q3, .inl (G.2.1, 30, .inl (fun _ => 0))), (q4, .inl (G.2.1, 30, .inl (fun _ => 0))), (q5, .inl (G.2.1, 30, .inl (fun _ => 0))), (q6, .inl (G.2.1, 64, .inl (fun _ => 0)))] := hD
  refine va_putF (pc := 49) (D := G.1) (ci := 2) (v := .ref q6) (ty := .array .int) (C := RX2) (T := TX2) (N := 11) hx hb hts inX2 tyX2 tyX2_ok nmX2 hown hK.1 hP hD hS 0 rfl rfl 5 (by decide) (hts _ wd_68) (fun _ h9 => h9) rfl hin rfl (by decide +kernel) rfl rfl (Nat.le_of_ble_eq_true rfl) dX2_init_49 (fun H locs hP hD hS => ?_)
  have hP : va_P G.1 vwCl [(h, .inr (2, [.ref q1, .ref q2, .ref q3, .ref q4, .ref q5, .ref q6, .int 0, .int 0, .int 0, .int 0, .int 0])), (q1, .inl (G.2.1, 30, .inl (fun _ => 0))), (q2, .inl (G.2.1, 30, .inl (fun _ => 0))), (q3, .inl (G.2.1, 30, .inl (fun _ => 0))), (q4, .inl (G.2.1, 30, .inl (fun _ => 0))), (q5, .inl (G.2.1, 30, .inl (fun _ => 0))), (q6, .inl (G.2.1, 64, .inl (fun _ => 0)))] H := hP
  have hD : va_D A [(h, .inr (2, [.ref q1, .ref q2, .ref q3, .ref q4, .ref q5, .ref q6, .int 0, .int 0, .int 0, .int 0, .int 0])), (q1, .inl (G.2.1, 30, .inl (fun _ => 0))), (q2, .inl (G.2.1, 30, .inl (fun _ => 0))), (q3, .inl (G.2.1, 30, .inl (fun _ => 0))), (q4, .inl (G.2.1, 30, .inl (fun _ => 0))), (q5, .inl (G.2.1, 30, .inl (fun _ => 0))), (q6, .inl (G.2.1, 64, .inl (fun _ => 0)))] := hD
  refine lv_aload_n (pc := 52) hx hb dX2_init_52 rfl (lv_at hl 0 rfl) ?_
  refine lv_iconst (pc := 53) (v := (-1 : Int32)) hx hb dX2_init_53 (by decide) ?_
  refine va_put (pc := 54) (D := G.1) (ci := 2) (v := .int (-1 : Int32)) (ty := .int) (C := RX2) (T := TX2) (N := 11) hx hb hts inX2 tyX2 tyX2_ok nmX2 hown hK.1 hP hD hS 0 rfl rfl 10 (by decide) (hts _ wd_85) (fun _ h9 => h9) rfl (by decide +kernel) rfl rfl (Nat.le_of_ble_eq_true rfl) dX2_init_54 (fun H locs hP hD hS => ?_)
  have hP : va_P G.1 vwCl [(h, .inr (2, [.ref q1, .ref q2, .ref q3, .ref q4, .ref q5, .ref q6, .int 0, .int 0, .int 0, .int 0, .int (-1 : Int32)])), (q1, .inl (G.2.1, 30, .inl (fun _ => 0))), (q2, .inl (G.2.1, 30, .inl (fun _ => 0))), (q3, .inl (G.2.1, 30, .inl (fun _ => 0))), (q4, .inl (G.2.1, 30, .inl (fun _ => 0))), (q5, .inl (G.2.1, 30, .inl (fun _ => 0))), (q6, .inl (G.2.1, 64, .inl (fun _ => 0)))] H := hP
  have hD : va_D A [(h, .inr (2, [.ref q1, .ref q2, .ref q3, .ref q4, .ref q5, .ref q6, .int 0, .int 0, .int 0, .int 0, .int (-1 : Int32)])), (q1, .inl (G.2.1, 30, .inl (fun _ => 0))), (q2, .inl (G.2.1, 30, .inl (fun _ => 0))), (q3, .inl (G.2.1, 30, .inl (fun _ => 0))), (q4, .inl (G.2.1, 30, .inl (fun _ => 0))), (q5, .inl (G.2.1, 30, .inl (fun _ => 0))), (q6, .inl (G.2.1, 64, .inl (fun _ => 0)))] := hD
  exact i_ret (a := fun k => ([q1, q2, q3, q4, q5, q6] : List Nat).getD k 0) hx hb hr hlocks (Nat.le_refl _) (Nat.le_refl _) hP hD hS dX2_init_57
def mkPl (G : GT) (h : Nat) (a : Nat → Nat) : va_W := [(h, .inr (4, [.ref (a 0), .int 0, .int 0, .int 0, .int 0])), ((a 0), .inl (G.2.1, 30, .inl (fun _ => 0)))]
theorem hd_X7_init : yX7_init.cls ≠ "java/lang/invoke/MethodHandle" ∧ yX7_init.cls ≠ "java/lang/invoke/VarHandle" ∧ (parseMethodDescriptor yX7_init.desc).map (fun d => d.parameters.length) = some 0 := by decide +kernel
abbrev rm_X7_init : Room := { frames := 1, cells := 1, slots := 30, locals := 12 }
set_option maxHeartbeats 4000000 in
set_option maxRecDepth 100000 in
theorem c_X7_init (l : Launch) (G : GT) (h : Nat) : CtI l yX7_init (Cond.code yX7_init cX7_init 1 none :: lw_g) rm_X7_init G [.ref h] [(h, .inr (4, [.null, .int 0, .int 0, .int 0, .int 0]))] (mkPl G h) := by
  refine CtI.ofW (cc := cX7_init) (maxL := 1) (own := RX7) (by decide) rfl rfl (Nat.le_of_ble_eq_true rfl) rfl ?_
  intro p e s m args below meth c A hx hb hr hml hts hown hlocks hK hP hD hA hS hO hin ls hl
  have hl : lv_has ls 1 [(0, .ref h)] := hl
  generalize hH : s.heap = H at hP ⊢
  have hS : va_S A s.heap H [] := by rw [← hH]; exact hS
  refine lv_aload_n (pc := 0) hx hb dX7_init_0 rfl (lv_at hl 0 rfl) ?_
  refine W.objInit (g := F0 m 1 ls [.ref h]) hx hb hown (hts _ wd_114) (hts _ wd_28) (hts _ wd_29) rfl (by rw [hml]; exact hl.1) rfl dX7_init_1 (Nat.le_of_ble_eq_true rfl) (Nat.le_of_ble_eq_true rfl) ?_
  refine W.eq (g2 := F0 m 4 ls []) rfl ?_
  refine lv_aload_n (pc := 4) hx hb dX7_init_4 rfl (lv_at hl 0 rfl) ?_
  refine lv_bipush (pc := 5) (v := (30 : Int32)) hx hb dX7_init_5 (by decide) ?_
  refine i_newI (pc := 7) (N' := 30) hx hb (hts _ wd_56) hK hP hD hS hA (by decide) (by decide) (by decide) (Nat.le_of_ble_eq_true rfl) (Nat.le_of_ble_eq_true rfl) dX7_init_7 (fun q1 H hP hD hS => ?_)
  refine W.widen (k := 1) (n := 30) (Nat.le_of_ble_eq_true rfl) (Nat.le_of_ble_eq_true rfl) ?_
  have hP : va_P G.1 vwCl [(h, .inr (4, [.null, .int 0, .int 0, .int 0, .int 0])), (q1, .inl (G.2.1, 30, .inl (fun _ => 0)))] H := hP
  have hD : va_D A [(h, .inr (4, [.null, .int 0, .int 0, .int 0, .int 0])), (q1, .inl (G.2.1, 30, .inl (fun _ => 0)))] := hD
  refine va_putF (pc := 9) (D := G.1) (ci := 4) (v := .ref q1) (ty := .array .int) (C := RX7) (T := TX7) (N := 5) hx hb hts inX7 tyX7 tyX7_ok nmX7 hown hK.1 hP hD hS 0 rfl rfl 0 (by decide) (hts _ wd_115) (fun _ h9 => h9) rfl hin rfl (by decide +kernel) rfl rfl (Nat.le_of_ble_eq_true rfl) dX7_init_9 (fun H locs hP hD hS => ?_)
  have hP : va_P G.1 vwCl [(h, .inr (4, [.ref q1, .int 0, .int 0, .int 0, .int 0])), (q1, .inl (G.2.1, 30, .inl (fun _ => 0)))] H := hP
  have hD : va_D A [(h, .inr (4, [.ref q1, .int 0, .int 0, .int 0, .int 0])), (q1, .inl (G.2.1, 30, .inl (fun _ => 0)))] := hD
  exact i_ret (a := fun k => ([q1] : List Nat).getD k 0) hx hb hr hlocks (Nat.le_refl _) (Nat.le_refl _) hP hD hS dX7_init_12
def mkMo (G : GT) (h : Nat) (a : Nat → Nat) : va_W := [(h, .inr (8, [.ref (a 0), .ref (a 1), .int 0, .int 0, .ref (a 2), .ref (a 3), .int 0, .int 0, .int 0, .ref (a 4), .ref (a 5), .ref (a 6), .int 0, .ref (a 7)])), ((a 0), .inl (G.2.1, 617, .inl (fun _ => 0))), ((a 1), .inl (G.2.1, 2468, .inl (fun _ => 0))), ((a 2), .inl (G.2.1, 30, .inl (fun _ => 0))), ((a 3), .inl (G.2.1, 4000, .inl (fun _ => 0))), ((a 4), .inl (G.2.1, 120, .inl (fun _ => 0))), ((a 5), .inl (G.2.1, 64, .inl (fun _ => 0))), ((a 6), .inl (G.2.2.1, 64, .inl (fun _ => 0))), ((a 7), .inl (G.2.1, 64, .inl (fun _ => 0)))]
theorem hd_X11_init : yX11_init.cls ≠ "java/lang/invoke/MethodHandle" ∧ yX11_init.cls ≠ "java/lang/invoke/VarHandle" ∧ (parseMethodDescriptor yX11_init.desc).map (fun d => d.parameters.length) = some 0 := by decide +kernel
abbrev rm_X11_init : Room := { frames := 1, cells := 8, slots := 7427, locals := 12 }
set_option maxHeartbeats 4000000 in
set_option maxRecDepth 100000 in
theorem c_X11_init (l : Launch) (G : GT) (h : Nat) : CtI l yX11_init (Cond.code yX11_init cX11_init 1 none :: lw_g) rm_X11_init G [.ref h] [(h, .inr (8, [.null, .null, .int 0, .int 0, .null, .null, .int 0, .int 0, .int 0, .null, .null, .null, .int 0, .null]))] (mkMo G h) := by
  refine CtI.ofW (cc := cX11_init) (maxL := 1) (own := RX11) (by decide) rfl rfl (Nat.le_of_ble_eq_true rfl) rfl ?_
  intro p e s m args below meth c A hx hb hr hml hts hown hlocks hK hP hD hA hS hO hin ls hl
  have hl : lv_has ls 1 [(0, .ref h)] := hl
  generalize hH : s.heap = H at hP ⊢
  have hS : va_S A s.heap H [] := by rw [← hH]; exact hS
  refine lv_aload_n (pc := 0) hx hb dX11_init_0 rfl (lv_at hl 0 rfl) ?_
  refine W.objInit (g := F0 m 1 ls [.ref h]) hx hb hown (hts _ wd_879) (hts _ wd_28) (hts _ wd_29) rfl (by rw [hml]; exact hl.1) rfl dX11_init_1 (Nat.le_of_ble_eq_true rfl) (Nat.le_of_ble_eq_true rfl) ?_
  refine W.eq (g2 := F0 m 4 ls []) rfl ?_
  refine lv_aload_n (pc := 4) hx hb dX11_init_4 rfl (lv_at hl 0 rfl) ?_
  refine lv_sipush (pc := 5) (v := (617 : Int32)) hx hb dX11_init_5 (by decide) ?_
  refine i_newI (pc := 8) (N' := 617) hx hb (hts _ wd_56) hK hP hD hS hA (by decide) (by decide) (by decide) (Nat.le_of_ble_eq_true rfl) (Nat.le_of_ble_eq_true rfl) dX11_init_8 (fun q1 H hP hD hS => ?_)
  refine W.widen (k := 1) (n := 617) (Nat.le_of_ble_eq_true rfl) (Nat.le_of_ble_eq_true rfl) ?_
  have hP : va_P G.1 vwCl [(h, .inr (8, [.null, .null, .int 0, .int 0, .null, .null, .int 0, .int 0, .int 0, .null, .null, .null, .int 0, .null])), (q1, .inl (G.2.1, 617, .inl (fun _ => 0)))] H := hP
  have hD : va_D A [(h, .inr (8, [.null, .null, .int 0, .int 0, .null, .null, .int 0, .int 0, .int 0, .null, .null, .null, .int 0, .null])), (q1, .inl (G.2.1, 617, .inl (fun _ => 0)))] := hD
  refine va_putF (pc := 10) (D := G.1) (ci := 8) (v := .ref q1) (ty := .array .int) (C := RX11) (T := TX11) (N := 14) hx hb hts inX11 tyX11 tyX11_ok nmX11 hown hK.1 hP hD hS 0 rfl rfl 0 (by decide) (hts _ wd_880) (fun _ h9 => h9) rfl hin rfl (by decide +kernel) rfl rfl (Nat.le_of_ble_eq_true rfl) dX11_init_10 (fun H locs hP hD hS => ?_)
  have hP : va_P G.1 vwCl [(h, .inr (8, [.ref q1, .null, .int 0, .int 0, .null, .null, .int 0, .int 0, .int 0, .null, .null, .null, .int 0, .null])), (q1, .inl (G.2.1, 617, .inl (fun _ => 0)))] H := hP
  have hD : va_D A [(h, .inr (8, [.ref q1, .null, .int 0, .int 0, .null, .null, .int 0, .int 0, .int 0, .null, .null, .null, .int 0, .null])), (q1, .inl (G.2.1, 617, .inl (fun _ => 0)))] := hD
  refine lv_aload_n (pc := 13) hx hb dX11_init_13 rfl (lv_at hl 0 rfl) ?_
  refine lv_sipush (pc := 14) (v := (2468 : Int32)) hx hb dX11_init_14 (by decide) ?_
  refine i_newI (pc := 17) (N' := 2468) hx hb (hts _ wd_56) hK hP hD hS hA (by decide) (by decide) (by decide) (Nat.le_of_ble_eq_true rfl) (Nat.le_of_ble_eq_true rfl) dX11_init_17 (fun q2 H hP hD hS => ?_)
  refine W.widen (k := 2) (n := 3085) (Nat.le_of_ble_eq_true rfl) (Nat.le_of_ble_eq_true rfl) ?_
  have hP : va_P G.1 vwCl [(h, .inr (8, [.ref q1, .null, .int 0, .int 0, .null, .null, .int 0, .int 0, .int 0, .null, .null, .null, .int 0, .null])), (q1, .inl (G.2.1, 617, .inl (fun _ => 0))), (q2, .inl (G.2.1, 2468, .inl (fun _ => 0)))] H := hP
  have hD : va_D A [(h, .inr (8, [.ref q1, .null, .int 0, .int 0, .null, .null, .int 0, .int 0, .int 0, .null, .null, .null, .int 0, .null])), (q1, .inl (G.2.1, 617, .inl (fun _ => 0))), (q2, .inl (G.2.1, 2468, .inl (fun _ => 0)))] := hD
  refine va_putF (pc := 19) (D := G.1) (ci := 8) (v := .ref q2) (ty := .array .int) (C := RX11) (T := TX11) (N := 14) hx hb hts inX11 tyX11 tyX11_ok nmX11 hown hK.1 hP hD hS 0 rfl rfl 1 (by decide) (hts _ wd_881) (fun _ h9 => h9) rfl hin rfl (by decide +kernel) rfl rfl (Nat.le_of_ble_eq_true rfl) dX11_init_19 (fun H locs hP hD hS => ?_)
  have hP : va_P G.1 vwCl [(h, .inr (8, [.ref q1, .ref q2, .int 0, .int 0, .null, .null, .int 0, .int 0, .int 0, .null, .null, .null, .int 0, .null])), (q1, .inl (G.2.1, 617, .inl (fun _ => 0))), (q2, .inl (G.2.1, 2468, .inl (fun _ => 0)))] H := hP
  have hD : va_D A [(h, .inr (8, [.ref q1, .ref q2, .int 0, .int 0, .null, .null, .int 0, .int 0, .int 0, .null, .null, .null, .int 0, .null])), (q1, .inl (G.2.1, 617, .inl (fun _ => 0))), (q2, .inl (G.2.1, 2468, .inl (fun _ => 0)))] := hD
  refine lv_aload_n (pc := 22) hx hb dX11_init_22 rfl (lv_at hl 0 rfl) ?_
  refine lv_bipush (pc := 23) (v := (30 : Int32)) hx hb dX11_init_23 (by decide) ?_
  refine i_newI (pc := 25) (N' := 30) hx hb (hts _ wd_56) hK hP hD hS hA (by decide) (by decide) (by decide) (Nat.le_of_ble_eq_true rfl) (Nat.le_of_ble_eq_true rfl) dX11_init_25 (fun q3 H hP hD hS => ?_)
  refine W.widen (k := 3) (n := 3115) (Nat.le_of_ble_eq_true rfl) (Nat.le_of_ble_eq_true rfl) ?_
  have hP : va_P G.1 vwCl [(h, .inr (8, [.ref q1, .ref q2, .int 0, .int 0, .null, .null, .int 0, .int 0, .int 0, .null, .null, .null, .int 0, .null])), (q1, .inl (G.2.1, 617, .inl (fun _ => 0))), (q2, .inl (G.2.1, 2468, .inl (fun _ => 0))), (q3, .inl (G.2.1, 30, .inl (fun _ => 0)))] H := hP
  have hD : va_D A [(h, .inr (8, [.ref q1, .ref q2, .int 0, .int 0, .null, .null, .int 0, .int 0, .int 0, .null, .null, .null, .int 0, .null])), (q1, .inl (G.2.1, 617, .inl (fun _ => 0))), (q2, .inl (G.2.1, 2468, .inl (fun _ => 0))), (q3, .inl (G.2.1, 30, .inl (fun _ => 0)))] := hD
  refine va_putF (pc := 27) (D := G.1) (ci := 8) (v := .ref q3) (ty := .array .int) (C := RX11) (T := TX11) (N := 14) hx hb hts inX11 tyX11 tyX11_ok nmX11 hown hK.1 hP hD hS 0 rfl rfl 4 (by decide) (hts _ wd_884) (fun _ h9 => h9) rfl hin rfl (by decide +kernel) rfl rfl (Nat.le_of_ble_eq_true rfl) dX11_init_27 (fun H locs hP hD hS => ?_)
  have hP : va_P G.1 vwCl [(h, .inr (8, [.ref q1, .ref q2, .int 0, .int 0, .ref q3, .null, .int 0, .int 0, .int 0, .null, .null, .null, .int 0, .null])), (q1, .inl (G.2.1, 617, .inl (fun _ => 0))), (q2, .inl (G.2.1, 2468, .inl (fun _ => 0))), (q3, .inl (G.2.1, 30, .inl (fun _ => 0)))] H := hP
  have hD : va_D A [(h, .inr (8, [.ref q1, .ref q2, .int 0, .int 0, .ref q3, .null, .int 0, .int 0, .int 0, .null, .null, .null, .int 0, .null])), (q1, .inl (G.2.1, 617, .inl (fun _ => 0))), (q2, .inl (G.2.1, 2468, .inl (fun _ => 0))), (q3, .inl (G.2.1, 30, .inl (fun _ => 0)))] := hD
  refine lv_aload_n (pc := 30) hx hb dX11_init_30 rfl (lv_at hl 0 rfl) ?_
  refine lv_sipush (pc := 31) (v := (4000 : Int32)) hx hb dX11_init_31 (by decide) ?_
  refine i_newI (pc := 34) (N' := 4000) hx hb (hts _ wd_56) hK hP hD hS hA (by decide) (by decide) (by decide) (Nat.le_of_ble_eq_true rfl) (Nat.le_of_ble_eq_true rfl) dX11_init_34 (fun q4 H hP hD hS => ?_)
  refine W.widen (k := 4) (n := 7115) (Nat.le_of_ble_eq_true rfl) (Nat.le_of_ble_eq_true rfl) ?_
  have hP : va_P G.1 vwCl [(h, .inr (8, [.ref q1, .ref q2, .int 0, .int 0, .ref q3, .null, .int 0, .int 0, .int 0, .null, .null, .null, .int 0, .null])), (q1, .inl (G.2.1, 617, .inl (fun _ => 0))), (q2, .inl (G.2.1, 2468, .inl (fun _ => 0))), (q3, .inl (G.2.1, 30, .inl (fun _ => 0))), (q4, .inl (G.2.1, 4000, .inl (fun _ => 0)))] H := hP
  have hD : va_D A [(h, .inr (8, [.ref q1, .ref q2, .int 0, .int 0, .ref q3, .null, .int 0, .int 0, .int 0, .null, .null, .null, .int 0, .null])), (q1, .inl (G.2.1, 617, .inl (fun _ => 0))), (q2, .inl (G.2.1, 2468, .inl (fun _ => 0))), (q3, .inl (G.2.1, 30, .inl (fun _ => 0))), (q4, .inl (G.2.1, 4000, .inl (fun _ => 0)))] := hD
  refine va_putF (pc := 36) (D := G.1) (ci := 8) (v := .ref q4) (ty := .array .int) (C := RX11) (T := TX11) (N := 14) hx hb hts inX11 tyX11 tyX11_ok nmX11 hown hK.1 hP hD hS 0 rfl rfl 5 (by decide) (hts _ wd_885) (fun _ h9 => h9) rfl hin rfl (by decide +kernel) rfl rfl (Nat.le_of_ble_eq_true rfl) dX11_init_36 (fun H locs hP hD hS => ?_)
  have hP : va_P G.1 vwCl [(h, .inr (8, [.ref q1, .ref q2, .int 0, .int 0, .ref q3, .ref q4, .int 0, .int 0, .int 0, .null, .null, .null, .int 0, .null])), (q1, .inl (G.2.1, 617, .inl (fun _ => 0))), (q2, .inl (G.2.1, 2468, .inl (fun _ => 0))), (q3, .inl (G.2.1, 30, .inl (fun _ => 0))), (q4, .inl (G.2.1, 4000, .inl (fun _ => 0)))] H := hP
  have hD : va_D A [(h, .inr (8, [.ref q1, .ref q2, .int 0, .int 0, .ref q3, .ref q4, .int 0, .int 0, .int 0, .null, .null, .null, .int 0, .null])), (q1, .inl (G.2.1, 617, .inl (fun _ => 0))), (q2, .inl (G.2.1, 2468, .inl (fun _ => 0))), (q3, .inl (G.2.1, 30, .inl (fun _ => 0))), (q4, .inl (G.2.1, 4000, .inl (fun _ => 0)))] := hD
  refine lv_aload_n (pc := 39) hx hb dX11_init_39 rfl (lv_at hl 0 rfl) ?_
  refine lv_bipush (pc := 40) (v := (120 : Int32)) hx hb dX11_init_40 (by decide) ?_
  refine i_newI (pc := 42) (N' := 120) hx hb (hts _ wd_56) hK hP hD hS hA (by decide) (by decide) (by decide) (Nat.le_of_ble_eq_true rfl) (Nat.le_of_ble_eq_true rfl) dX11_init_42 (fun q5 H hP hD hS => ?_)
  refine W.widen (k := 5) (n := 7235) (Nat.le_of_ble_eq_true rfl) (Nat.le_of_ble_eq_true rfl) ?_
  have hP : va_P G.1 vwCl [(h, .inr (8, [.ref q1, .ref q2, .int 0, .int 0, .ref q3, .ref q4, .int 0, .int 0, .int 0, .null, .null, .null, .int 0, .null])), (q1, .inl (G.2.1, 617, .inl (fun _ => 0))), (q2, .inl (G.2.1, 2468, .inl (fun _ => 0))), (q3, .inl (G.2.1, 30, .inl (fun _ => 0))), (q4, .inl (G.2.1, 4000, .inl (fun _ => 0))), (q5, .inl (G.2.1, 120, .inl (fun _ => 0)))] H := hP
  have hD : va_D A [(h, .inr (8, [.ref q1, .ref q2, .int 0, .int 0, .ref q3, .ref q4, .int 0, .int 0, .int 0, .null, .null, .null, .int 0, .null])), (q1, .inl (G.2.1, 617, .inl (fun _ => 0))), (q2, .inl (G.2.1, 2468, .inl (fun _ => 0))), (q3, .inl (G.2.1, 30, .inl (fun _ => 0))), (q4, .inl (G.2.1, 4000, .inl (fun _ => 0))), (q5, .inl (G.2.1, 120, .inl (fun _ => 0)))] := hD
  refine va_putF (pc := 44) (D := G.1) (ci := 8) (v := .ref q5) (ty := .array .int) (C := RX11) (T := TX11) (N := 14) hx hb hts inX11 tyX11 tyX11_ok nmX11 hown hK.1 hP hD hS 0 rfl rfl 9 (by decide) (hts _ wd_889) (fun _ h9 => h9) rfl hin rfl (by decide +kernel) rfl rfl (Nat.le_of_ble_eq_true rfl) dX11_init_44 (fun H locs hP hD hS => ?_)
  have hP : va_P G.1 vwCl [(h, .inr (8, [.ref q1, .ref q2, .int 0, .int 0, .ref q3, .ref q4, .int 0, .int 0, .int 0, .ref q5, .null, .null, .int 0, .null])), (q1, .inl (G.2.1, 617, .inl (fun _ => 0))), (q2, .inl (G.2.1, 2468, .inl (fun _ => 0))), (q3, .inl (G.2.1, 30, .inl (fun _ => 0))), (q4, .inl (G.2.1, 4000, .inl (fun _ => 0))), (q5, .inl (G.2.1, 120, .inl (fun _ => 0)))] H := hP
  have hD : va_D A [(h, .inr (8, [.ref q1, .ref q2, .int 0, .int 0, .ref q3, .ref q4, .int 0, .int 0, .int 0, .ref q5, .null, .null, .int 0, .null])), (q1, .inl (G.2.1, 617, .inl (fun _ => 0))), (q2, .inl (G.2.1, 2468, .inl (fun _ => 0))), (q3, .inl (G.2.1, 30, .inl (fun _ => 0))), (q4, .inl (G.2.1, 4000, .inl (fun _ => 0))), (q5, .inl (G.2.1, 120, .inl (fun _ => 0)))] := hD
  refine lv_aload_n (pc := 47) hx hb dX11_init_47 rfl (lv_at hl 0 rfl) ?_
  refine lv_bipush (pc := 48) (v := (64 : Int32)) hx hb dX11_init_48 (by decide) ?_
  refine i_newI (pc := 50) (N' := 64) hx hb (hts _ wd_56) hK hP hD hS hA (by decide) (by decide) (by decide) (Nat.le_of_ble_eq_true rfl) (Nat.le_of_ble_eq_true rfl) dX11_init_50 (fun q6 H hP hD hS => ?_)
  refine W.widen (k := 6) (n := 7299) (Nat.le_of_ble_eq_true rfl) (Nat.le_of_ble_eq_true rfl) ?_
  have hP : va_P G.1 vwCl [(h, .inr (8, [.ref q1, .ref q2, .int 0, .int 0, .ref q3, .ref q4, .int 0, .int 0, .int 0, .ref q5, .null, .null, .int 0, .null])), (q1, .inl (G.2.1, 617, .inl (fun _ => 0))), (q2, .inl (G.2.1, 2468, .inl (fun _ => 0))), (q3, .inl (G.2.1, 30, .inl (fun _ => 0))), (q4, .inl (G.2.1, 4000, .inl (fun _ => 0))), (q5, .inl (G.2.1, 120, .inl (fun _ => 0))), (q6, .inl (G.2.1, 64, .inl (fun _ => 0)))] H := hP
  have hD : va_D A [(h, .inr (8, [.ref q1, .ref q2, .int 0, .int 0, .ref q3, .ref q4, .int 0, .int 0, .int 0, .ref q5, .null, .null, .int 0, .null])), (q1, .inl (G.2.1, 617, .inl (fun _ => 0))), (q2, .inl (G.2.1, 2468, .inl (fun _ => 0))), (q3, .inl (G.2.1, 30, .inl (fun _ => 0))), (q4, .inl (G.2.1, 4000, .inl (fun _ => 0))), (q5, .inl (G.2.1, 120, .inl (fun _ => 0))), (q6, .inl (G.2.1, 64, .inl (fun _ => 0)))] := hD
  refine va_putF (pc := 52) (D := G.1) (ci := 8) (v := .ref q6) (ty := .array .int) (C := RX11) (T := TX11) (N := 14) hx hb hts inX11 tyX11 tyX11_ok nmX11 hown hK.1 hP hD hS 0 rfl rfl 10 (by decide) (hts _ wd_890) (fun _ h9 => h9) rfl hin rfl (by decide +kernel) rfl rfl (Nat.le_of_ble_eq_true rfl) dX11_init_52 (fun H locs hP hD hS => ?_)
  have hP : va_P G.1 vwCl [(h, .inr (8, [.ref q1, .ref q2, .int 0, .int 0, .ref q3, .ref q4, .int 0, .int 0, .int 0, .ref q5, .ref q6, .null, .int 0, .null])), (q1, .inl (G.2.1, 617, .inl (fun _ => 0))), (q2, .inl (G.2.1, 2468, .inl (fun _ => 0))), (q3, .inl (G.2.1, 30, .inl (fun _ => 0))), (q4, .inl (G.2.1, 4000, .inl (fun _ => 0))), (q5, .inl (G.2.1, 120, .inl (fun _ => 0))), (q6, .inl (G.2.1, 64, .inl (fun _ => 0)))] H := hP
  have hD : va_D A [(h, .inr (8, [.ref q1, .ref q2, .int 0, .int 0, .ref q3, .ref q4, .int 0, .int 0, .int 0, .ref q5, .ref q6, .null, .int 0, .null])), (q1, .inl (G.2.1, 617, .inl (fun _ => 0))), (q2, .inl (G.2.1, 2468, .inl (fun _ => 0))), (q3, .inl (G.2.1, 30, .inl (fun _ => 0))), (q4, .inl (G.2.1, 4000, .inl (fun _ => 0))), (q5, .inl (G.2.1, 120, .inl (fun _ => 0))), (q6, .inl (G.2.1, 64, .inl (fun _ => 0)))] := hD
  refine lv_aload_n (pc := 55) hx hb dX11_init_55 rfl (lv_at hl 0 rfl) ?_
  refine lv_bipush (pc := 56) (v := (64 : Int32)) hx hb dX11_init_56 (by decide) ?_
  refine i_newZ (pc := 58) (N' := 64) hx hb (hts _ wd_923) hK hP hD hS hA (by decide) (by decide) (by decide) (Nat.le_of_ble_eq_true rfl) (Nat.le_of_ble_eq_true rfl) dX11_init_58 (fun q7 H hP hD hS => ?_)
  refine W.widen (k := 7) (n := 7363) (Nat.le_of_ble_eq_true rfl) (Nat.le_of_ble_eq_true rfl) ?_
  have hP : va_P G.1 vwCl [(h, .inr (8, [.ref q1, .ref q2, .int 0, .int 0, .ref q3, .ref q4, .int 0, .int 0, .int 0, .ref q5, .ref q6, .null, .int 0, .null])), (q1, .inl (G.2.1, 617, .inl (fun _ => 0))), (q2, .inl (G.2.1, 2468, .inl (fun _ => 0))), (q3, .inl (G.2.1, 30, .inl (fun _ => 0))), (q4, .inl (G.2.1, 4000, .inl (fun _ => 0))), (q5, .inl (G.2.1, 120, .inl (fun _ => 0))), (q6, .inl (G.2.1, 64, .inl (fun _ => 0))), (q7, .inl (G.2.2.1, 64, .inl (fun _ => 0)))] H := hP
  have hD : va_D A [(h, .inr (8, [.ref q1, .ref q2, .int 0, .int 0, .ref q3, .ref q4, .int 0, .int 0, .int 0, .ref q5, .ref q6, .null, .int 0, .null])), (q1, .inl (G.2.1, 617, .inl (fun _ => 0))), (q2, .inl (G.2.1, 2468, .inl (fun _ => 0))), (q3, .inl (G.2.1, 30, .inl (fun _ => 0))), (q4, .inl (G.2.1, 4000, .inl (fun _ => 0))), (q5, .inl (G.2.1, 120, .inl (fun _ => 0))), (q6, .inl (G.2.1, 64, .inl (fun _ => 0))), (q7, .inl (G.2.2.1, 64, .inl (fun _ => 0)))] := hD
  refine va_putF (pc := 60) (D := G.1) (ci := 8) (v := .ref q7) (ty := .array .boolean) (C := RX11) (T := TX11) (N := 14) hx hb hts inX11 tyX11 tyX11_ok nmX11 hown hK.1 hP hD hS 0 rfl rfl 11 (by decide) (hts _ wd_891) (fun _ h9 => h9) rfl hin rfl (by decide +kernel) rfl rfl (Nat.le_of_ble_eq_true rfl) dX11_init_60 (fun H locs hP hD hS => ?_)
  have hP : va_P G.1 vwCl [(h, .inr (8, [.ref q1, .ref q2, .int 0, .int 0, .ref q3, .ref q4, .int 0, .int 0, .int 0, .ref q5, .ref q6, .ref q7, .int 0, .null])), (q1, .inl (G.2.1, 617, .inl (fun _ => 0))), (q2, .inl (G.2.1, 2468, .inl (fun _ => 0))), (q3, .inl (G.2.1, 30, .inl (fun _ => 0))), (q4, .inl (G.2.1, 4000, .inl (fun _ => 0))), (q5, .inl (G.2.1, 120, .inl (fun _ => 0))), (q6, .inl (G.2.1, 64, .inl (fun _ => 0))), (q7, .inl (G.2.2.1, 64, .inl (fun _ => 0)))] H := hP
  have hD : va_D A [(h, .inr (8, [.ref q1, .ref q2, .int 0, .int 0, .ref q3, .ref q4, .int 0, .int 0, .int 0, .ref q5, .ref q6, .ref q7, .int 0, .null])), (q1, .inl (G.2.1, 617, .inl (fun _ => 0))), (q2, .inl (G.2.1, 2468, .inl (fun _ => 0))), (q3, .inl (G.2.1, 30, .inl (fun _ => 0))), (q4, .inl (G.2.1, 4000, .inl (fun _ => 0))), (q5, .inl (G.2.1, 120, .inl (fun _ => 0))), (q6, .inl (G.2.1, 64, .inl (fun _ => 0))), (q7, .inl (G.2.2.1, 64, .inl (fun _ => 0)))] := hD
  refine lv_aload_n (pc := 63) hx hb dX11_init_63 rfl (lv_at hl 0 rfl) ?_
  refine lv_bipush (pc := 64) (v := (64 : Int32)) hx hb dX11_init_64 (by decide) ?_
  refine i_newI (pc := 66) (N' := 64) hx hb (hts _ wd_56) hK hP hD hS hA (by decide) (by decide) (by decide) (Nat.le_of_ble_eq_true rfl) (Nat.le_of_ble_eq_true rfl) dX11_init_66 (fun q8 H hP hD hS => ?_)
  refine W.widen (k := 8) (n := 7427) (Nat.le_of_ble_eq_true rfl) (Nat.le_of_ble_eq_true rfl) ?_
  have hP : va_P G.1 vwCl [(h, .inr (8, [.ref q1, .ref q2, .int 0, .int 0, .ref q3, .ref q4, .int 0, .int 0, .int 0, .ref q5, .ref q6, .ref q7, .int 0, .null])), (q1, .inl (G.2.1, 617, .inl (fun _ => 0))), (q2, .inl (G.2.1, 2468, .inl (fun _ => 0))), (q3, .inl (G.2.1, 30, .inl (fun _ => 0))), (q4, .inl (G.2.1, 4000, .inl (fun _ => 0))), (q5, .inl (G.2.1, 120, .inl (fun _ => 0))), (q6, .inl (G.2.1, 64, .inl (fun _ => 0))), (q7, .inl (G.2.2.1, 64, .inl (fun _ => 0))), (q8, .inl (G.2.1, 64, .inl (fun _ => 0)))] H := hP
  have hD : va_D A [(h, .inr (8, [.ref q1, .ref q2, .int 0, .int 0, .ref q3, .ref q4, .int 0, .int 0, .int 0, .ref q5, .ref q6, .ref q7, .int 0, .null])), (q1, .inl (G.2.1, 617, .inl (fun _ => 0))), (q2, .inl (G.2.1, 2468, .inl (fun _ => 0))), (q3, .inl (G.2.1, 30, .inl (fun _ => 0))), (q4, .inl (G.2.1, 4000, .inl (fun _ => 0))), (q5, .inl (G.2.1, 120, .inl (fun _ => 0))), (q6, .inl (G.2.1, 64, .inl (fun _ => 0))), (q7, .inl (G.2.2.1, 64, .inl (fun _ => 0))), (q8, .inl (G.2.1, 64, .inl (fun _ => 0)))] := hD
  refine va_putF (pc := 68) (D := G.1) (ci := 8) (v := .ref q8) (ty := .array .int) (C := RX11) (T := TX11) (N := 14) hx hb hts inX11 tyX11 tyX11_ok nmX11 hown hK.1 hP hD hS 0 rfl rfl 13 (by decide) (hts _ wd_893) (fun _ h9 => h9) rfl hin rfl (by decide +kernel) rfl rfl (Nat.le_of_ble_eq_true rfl) dX11_init_68 (fun H locs hP hD hS => ?_)
  have hP : va_P G.1 vwCl [(h, .inr (8, [.ref q1, .ref q2, .int 0, .int 0, .ref q3, .ref q4, .int 0, .int 0, .int 0, .ref q5, .ref q6, .ref q7, .int 0, .ref q8])), (q1, .inl (G.2.1, 617, .inl (fun _ => 0))), (q2, .inl (G.2.1, 2468, .inl (fun _ => 0))), (q3, .inl (G.2.1, 30, .inl (fun _ => 0))), (q4, .inl (G.2.1, 4000, .inl (fun _ => 0))), (q5, .inl (G.2.1, 120, .inl (fun _ => 0))), (q6, .inl (G.2.1, 64, .inl (fun _ => 0))), (q7, .inl (G.2.2.1, 64, .inl (fun _ => 0))), (q8, .inl (G.2.1, 64, .inl (fun _ => 0)))] H := hP
  have hD : va_D A [(h, .inr (8, [.ref q1, .ref q2, .int 0, .int 0, .ref q3, .ref q4, .int 0, .int 0, .int 0, .ref q5, .ref q6, .ref q7, .int 0, .ref q8])), (q1, .inl (G.2.1, 617, .inl (fun _ => 0))), (q2, .inl (G.2.1, 2468, .inl (fun _ => 0))), (q3, .inl (G.2.1, 30, .inl (fun _ => 0))), (q4, .inl (G.2.1, 4000, .inl (fun _ => 0))), (q5, .inl (G.2.1, 120, .inl (fun _ => 0))), (q6, .inl (G.2.1, 64, .inl (fun _ => 0))), (q7, .inl (G.2.2.1, 64, .inl (fun _ => 0))), (q8, .inl (G.2.1, 64, .inl (fun _ => 0)))] := hD
  exact i_ret (a := fun k => ([q1, q2, q3, q4, q5, q6, q7, q8] : List Nat).getD k 0) hx hb hr hlocks (Nat.le_refl _) (Nat.le_refl _) hP hD hS dX11_init_71
def mkWk (G : GT) (h : Nat) (a : Nat → Nat) : va_W := [(h, .inr (6, [.ref (a 0), .int 0, .int 0])), (a 0, .inr (0, [.ref (a 1), .int 0])), (a 1, .inl (G.2.1, 64, .inl (fun _ => 0)))]
theorem hd_X9_init : yX9_init.cls ≠ "java/lang/invoke/MethodHandle" ∧ yX9_init.cls ≠ "java/lang/invoke/VarHandle" ∧ (parseMethodDescriptor yX9_init.desc).map (fun d => d.parameters.length) = some 0 := by decide +kernel
abbrev rm_X9_init : Room := { frames := 2, cells := 2, slots := 66, locals := 45 }
set_option maxHeartbeats 4000000 in
set_option maxRecDepth 100000 in
theorem c_X9_init (l : Launch) (G : GT) (h : Nat) : CtI l yX9_init (Cond.code yX9_init cX9_init 1 none :: lw_g) rm_X9_init G [.ref h] [(h, .inr (6, [.null, .int 0, .int 0]))] (mkWk G h) := by
  refine CtI.ofW (cc := cX9_init) (maxL := 1) (own := RX9) (by decide) rfl rfl (Nat.le_of_ble_eq_true rfl) rfl ?_
  intro p e s m args below meth c A hx hb hr hml hts hown hlocks hK hP hD hA hS hO hin ls hl
  have hl : lv_has ls 1 [(0, .ref h)] := hl
  generalize hH : s.heap = H at hP ⊢
  have hS : va_S A s.heap H [] := by rw [← hH]; exact hS
  refine lv_aload_n (pc := 0) hx hb dX9_init_0 rfl (lv_at hl 0 rfl) ?_
  refine W.objInit (g := F0 m 1 ls [.ref h]) hx hb hown (hts _ wd_142) (hts _ wd_28) (hts _ wd_29) rfl (by rw [hml]; exact hl.1) rfl dX9_init_1 (Nat.le_of_ble_eq_true rfl) (Nat.le_of_ble_eq_true rfl) ?_
  refine W.eq (g2 := F0 m 4 ls []) rfl ?_
  refine lv_aload_n (pc := 4) hx hb dX9_init_4 rfl (lv_at hl 0 rfl) ?_
  refine va_new (pc := 5) (ci := 0) (fs := [.null, .int 0]) (C := RX0) (T := TX0) (N := 2) hx hb hts inX0 tyX0 tyX0_ok hown (hts _ wd_143) (hts _ wd_37) (hts _ wd_3) hK.1 hP hD hS hA rfl (by decide +kernel) (Nat.le_of_ble_eq_true rfl) (Nat.le_of_ble_eq_true rfl) dX9_init_5 (fun q1 H hP hD hS => ?_)
  refine W.widen (k := 1) (n := 2) (Nat.le_of_ble_eq_true rfl) (Nat.le_of_ble_eq_true rfl) ?_
  have hP : va_P G.1 vwCl [(h, .inr (6, [.null, .int 0, .int 0])), (q1, .inr (0, [.null, .int 0]))] H := hP
  have hD : va_D A [(h, .inr (6, [.null, .int 0, .int 0])), (q1, .inr (0, [.null, .int 0]))] := hD
  refine lv_dup (pc := 8) hx hb dX9_init_8 rfl ?_
  refine lv_bipush (pc := 9) (v := (64 : Int32)) hx hb dX9_init_9 (by decide) ?_
  refine i_call (pc := 11) (w0 := [(h, .inr (6, [.null, .int 0, .int 0]))]) (rest := [.ref q1, .ref h]) hx hb hml hown hts hK hO (c_X0_init l G q1 64 (64 : Int32) (by decide) (by decide) (by decide)) wd_40 wd_3 wd_144 wd_39 rfl hd_X0_init ⟨(Nat.le_of_ble_eq_true rfl), (Nat.le_of_ble_eq_true rfl)⟩ hP hD hS hA rfl hl.1 rfl (Nat.le_of_ble_eq_true rfl) dX9_init_11 ⟨(Nat.le_of_ble_eq_true rfl), (Nat.le_of_ble_eq_true rfl)⟩ (fun a2 H locs hP hD hS => ?_)
  refine W.widen (k := 2) (n := 66) (Nat.le_of_ble_eq_true rfl) (Nat.le_of_ble_eq_true rfl) ?_
  have hP : va_P G.1 vwCl [(h, .inr (6, [.null, .int 0, .int 0])), (q1, .inr (0, [.ref (a2 0), .int 0])), ((a2 0), .inl (G.2.1, 64, .inl (fun _ => 0)))] H := hP
  have hD : va_D A [(h, .inr (6, [.null, .int 0, .int 0])), (q1, .inr (0, [.ref (a2 0), .int 0])), ((a2 0), .inl (G.2.1, 64, .inl (fun _ => 0)))] := hD
  refine va_putF (pc := 14) (D := G.1) (ci := 6) (v := .ref q1) (ty := .object "InPlaceDelta$Bytes") (C := RX9) (T := TX9) (N := 3) hx hb hts inX9 tyX9 tyX9_ok nmX9 hown hK.1 hP hD hS 0 rfl rfl 0 (by decide) (hts _ wd_145) (fun _ h9 => h9) rfl hin rfl (by decide +kernel) rfl rfl (Nat.le_of_ble_eq_true rfl) dX9_init_14 (fun H locs hP hD hS => ?_)
  have hP : va_P G.1 vwCl [(h, .inr (6, [.ref q1, .int 0, .int 0])), (q1, .inr (0, [.ref (a2 0), .int 0])), ((a2 0), .inl (G.2.1, 64, .inl (fun _ => 0)))] H := hP
  have hD : va_D A [(h, .inr (6, [.ref q1, .int 0, .int 0])), (q1, .inr (0, [.ref (a2 0), .int 0])), ((a2 0), .inl (G.2.1, 64, .inl (fun _ => 0)))] := hD
  exact i_ret (a := fun k => ([q1, a2 0] : List Nat).getD k 0) hx hb hr hlocks (Nat.le_refl _) (Nat.le_refl _) hP hD hS dX9_init_17
def mkSt (G : GT) (h : Nat) (a : Nat → Nat) : va_W := cSt G (sh h a) st0
theorem hd_X8_init : yX8_init.cls ≠ "java/lang/invoke/MethodHandle" ∧ yX8_init.cls ≠ "java/lang/invoke/VarHandle" ∧ (parseMethodDescriptor yX8_init.desc).map (fun d => d.parameters.length) = some 0 := by decide +kernel
abbrev rm_X8_init : Room := { frames := 3, cells := 18, slots := 663, locals := 65 }
set_option maxHeartbeats 4000000 in
set_option maxRecDepth 100000 in
theorem c_X8_init (l : Launch) (G : GT) (h : Nat) : CtI l yX8_init (Cond.code yX8_init cX8_init 1 none :: lw_g) rm_X8_init G [.ref h] [(h, .inr (5, [.null, .null, .null, .null, .null, .null]))] (mkSt G h) := by
  refine CtI.ofW (cc := cX8_init) (maxL := 1) (own := RX8) (by decide) rfl rfl (Nat.le_of_ble_eq_true rfl) rfl ?_
  intro p e s m args below meth c A hx hb hr hml hts hown hlocks hK hP hD hA hS hO hin ls hl
  have hl : lv_has ls 1 [(0, .ref h)] := hl
  generalize hH : s.heap = H at hP ⊢
  have hS : va_S A s.heap H [] := by rw [← hH]; exact hS
  refine lv_aload_n (pc := 0) hx hb dX8_init_0 rfl (lv_at hl 0 rfl) ?_
  refine W.objInit (g := F0 m 1 ls [.ref h]) hx hb hown (hts _ wd_35) (hts _ wd_28) (hts _ wd_29) rfl (by rw [hml]; exact hl.1) rfl dX8_init_1 (Nat.le_of_ble_eq_true rfl) (Nat.le_of_ble_eq_true rfl) ?_
  refine W.eq (g2 := F0 m 4 ls []) rfl ?_
  refine lv_aload_n (pc := 4) hx hb dX8_init_4 rfl (lv_at hl 0 rfl) ?_
  refine va_new (pc := 5) (ci := 0) (fs := [.null, .int 0]) (C := RX0) (T := TX0) (N := 2) hx hb hts inX0 tyX0 tyX0_ok hown (hts _ wd_36) (hts _ wd_37) (hts _ wd_3) hK.1 hP hD hS hA rfl (by decide +kernel) (Nat.le_of_ble_eq_true rfl) (Nat.le_of_ble_eq_true rfl) dX8_init_5 (fun q1 H hP hD hS => ?_)
  refine W.widen (k := 1) (n := 2) (Nat.le_of_ble_eq_true rfl) (Nat.le_of_ble_eq_true rfl) ?_
  have hP : va_P G.1 vwCl [(h, .inr (5, [.null, .null, .null, .null, .null, .null])), (q1, .inr (0, [.null, .int 0]))] H := hP
  have hD : va_D A [(h, .inr (5, [.null, .null, .null, .null, .null, .null])), (q1, .inr (0, [.null, .int 0]))] := hD
  refine lv_dup (pc := 8) hx hb dX8_init_8 rfl ?_
  refine lv_bipush (pc := 9) (v := (64 : Int32)) hx hb dX8_init_9 (by decide) ?_
  refine i_call (pc := 11) (w0 := [(h, .inr (5, [.null, .null, .null, .null, .null, .null]))]) (rest := [.ref q1, .ref h]) hx hb hml hown hts hK hO (c_X0_init l G q1 64 (64 : Int32) (by decide) (by decide) (by decide)) wd_40 wd_3 wd_38 wd_39 rfl hd_X0_init ⟨(Nat.le_of_ble_eq_true rfl), (Nat.le_of_ble_eq_true rfl)⟩ hP hD hS hA rfl hl.1 rfl (Nat.le_of_ble_eq_true rfl) dX8_init_11 ⟨(Nat.le_of_ble_eq_true rfl), (Nat.le_of_ble_eq_true rfl)⟩ (fun a2 H locs hP hD hS => ?_)
  refine W.widen (k := 2) (n := 66) (Nat.le_of_ble_eq_true rfl) (Nat.le_of_ble_eq_true rfl) ?_
  have hP : va_P G.1 vwCl [(h, .inr (5, [.null, .null, .null, .null, .null, .null])), (q1, .inr (0, [.ref (a2 0), .int 0])), ((a2 0), .inl (G.2.1, 64, .inl (fun _ => 0)))] H := hP
  have hD : va_D A [(h, .inr (5, [.null, .null, .null, .null, .null, .null])), (q1, .inr (0, [.ref (a2 0), .int 0])), ((a2 0), .inl (G.2.1, 64, .inl (fun _ => 0)))] := hD
  refine va_putF (pc := 14) (D := G.1) (ci := 5) (v := .ref q1) (ty := .object "InPlaceDelta$Bytes") (C := RX8) (T := TX8) (N := 6) hx hb hts inX8 tyX8 tyX8_ok nmX8 hown hK.1 hP hD hS 0 rfl rfl 0 (by decide) (hts _ wd_159) (fun _ h9 => h9) rfl hin rfl (by decide +kernel) rfl rfl (Nat.le_of_ble_eq_true rfl) dX8_init_14 (fun H locs hP hD hS => ?_)
  have hP : va_P G.1 vwCl [(h, .inr (5, [.ref q1, .null, .null, .null, .null, .null])), (q1, .inr (0, [.ref (a2 0), .int 0])), ((a2 0), .inl (G.2.1, 64, .inl (fun _ => 0)))] H := hP
  have hD : va_D A [(h, .inr (5, [.ref q1, .null, .null, .null, .null, .null])), (q1, .inr (0, [.ref (a2 0), .int 0])), ((a2 0), .inl (G.2.1, 64, .inl (fun _ => 0)))] := hD
  refine lv_aload_n (pc := 17) hx hb dX8_init_17 rfl (lv_at hl 0 rfl) ?_
  refine va_new (pc := 18) (ci := 0) (fs := [.null, .int 0]) (C := RX0) (T := TX0) (N := 2) hx hb hts inX0 tyX0 tyX0_ok hown (hts _ wd_36) (hts _ wd_37) (hts _ wd_3) hK.1 hP hD hS hA rfl (by decide +kernel) (Nat.le_of_ble_eq_true rfl) (Nat.le_of_ble_eq_true rfl) dX8_init_18 (fun q3 H hP hD hS => ?_)
  refine W.widen (k := 3) (n := 68) (Nat.le_of_ble_eq_true rfl) (Nat.le_of_ble_eq_true rfl) ?_
  have hP : va_P G.1 vwCl [(h, .inr (5, [.ref q1, .null, .null, .null, .null, .null])), (q1, .inr (0, [.ref (a2 0), .int 0])), ((a2 0), .inl (G.2.1, 64, .inl (fun _ => 0))), (q3, .inr (0, [.null, .int 0]))] H := hP
  have hD : va_D A [(h, .inr (5, [.ref q1, .null, .null, .null, .null, .null])), (q1, .inr (0, [.ref (a2 0), .int 0])), ((a2 0), .inl (G.2.1, 64, .inl (fun _ => 0))), (q3, .inr (0, [.null, .int 0]))] := hD
  refine lv_dup (pc := 21) hx hb dX8_init_21 rfl ?_
  refine lv_bipush (pc := 22) (v := (64 : Int32)) hx hb dX8_init_22 (by decide) ?_
  refine i_call (pc := 24) (w0 := [(h, .inr (5, [.ref q1, .null, .null, .null, .null, .null])), (q1, .inr (0, [.ref (a2 0), .int 0])), ((a2 0), .inl (G.2.1, 64, .inl (fun _ => 0)))]) (rest := [.ref q3, .ref h]) hx hb hml hown hts hK hO (c_X0_init l G q3 64 (64 : Int32) (by decide) (by decide) (by decide)) wd_40 wd_3 wd_38 wd_39 rfl hd_X0_init ⟨(Nat.le_of_ble_eq_true rfl), (Nat.le_of_ble_eq_true rfl)⟩ hP hD hS hA rfl hl.1 rfl (Nat.le_of_ble_eq_true rfl) dX8_init_24 ⟨(Nat.le_of_ble_eq_true rfl), (Nat.le_of_ble_eq_true rfl)⟩ (fun a4 H locs hP hD hS => ?_)
  refine W.widen (k := 4) (n := 132) (Nat.le_of_ble_eq_true rfl) (Nat.le_of_ble_eq_true rfl) ?_
  have hP : va_P G.1 vwCl [(h, .inr (5, [.ref q1, .null, .null, .null, .null, .null])), (q1, .inr (0, [.ref (a2 0), .int 0])), ((a2 0), .inl (G.2.1, 64, .inl (fun _ => 0))), (q3, .inr (0, [.ref (a4 0), .int 0])), ((a4 0), .inl (G.2.1, 64, .inl (fun _ => 0)))] H := hP
  have hD : va_D A [(h, .inr (5, [.ref q1, .null, .null, .null, .null, .null])), (q1, .inr (0, [.ref (a2 0), .int 0])), ((a2 0), .inl (G.2.1, 64, .inl (fun _ => 0))), (q3, .inr (0, [.ref (a4 0), .int 0])), ((a4 0), .inl (G.2.1, 64, .inl (fun _ => 0)))] := hD
  refine va_putF (pc := 27) (D := G.1) (ci := 5) (v := .ref q3) (ty := .object "InPlaceDelta$Bytes") (C := RX8) (T := TX8) (N := 6) hx hb hts inX8 tyX8 tyX8_ok nmX8 hown hK.1 hP hD hS 0 rfl rfl 1 (by decide) (hts _ wd_162) (fun _ h9 => h9) rfl hin rfl (by decide +kernel) rfl rfl (Nat.le_of_ble_eq_true rfl) dX8_init_27 (fun H locs hP hD hS => ?_)
  have hP : va_P G.1 vwCl [(h, .inr (5, [.ref q1, .ref q3, .null, .null, .null, .null])), (q1, .inr (0, [.ref (a2 0), .int 0])), ((a2 0), .inl (G.2.1, 64, .inl (fun _ => 0))), (q3, .inr (0, [.ref (a4 0), .int 0])), ((a4 0), .inl (G.2.1, 64, .inl (fun _ => 0)))] H := hP
  have hD : va_D A [(h, .inr (5, [.ref q1, .ref q3, .null, .null, .null, .null])), (q1, .inr (0, [.ref (a2 0), .int 0])), ((a2 0), .inl (G.2.1, 64, .inl (fun _ => 0))), (q3, .inr (0, [.ref (a4 0), .int 0])), ((a4 0), .inl (G.2.1, 64, .inl (fun _ => 0)))] := hD
  refine lv_aload_n (pc := 30) hx hb dX8_init_30 rfl (lv_at hl 0 rfl) ?_
  refine va_new (pc := 31) (ci := 2) (fs := [.null, .null, .null, .null, .null, .null, .int 0, .int 0, .int 0, .int 0, .int 0]) (C := RX2) (T := TX2) (N := 11) hx hb hts inX2 tyX2 tyX2_ok hown (hts _ wd_57) (hts _ wd_58) (hts _ wd_5) hK.1 hP hD hS hA rfl (by decide +kernel) (Nat.le_of_ble_eq_true rfl) (Nat.le_of_ble_eq_true rfl) dX8_init_31 (fun q5 H hP hD hS => ?_)
  refine W.widen (k := 5) (n := 143) (Nat.le_of_ble_eq_true rfl) (Nat.le_of_ble_eq_true rfl) ?_
  have hP : va_P G.1 vwCl [(h, .inr (5, [.ref q1, .ref q3, .null, .null, .null, .null])), (q1, .inr (0, [.ref (a2 0), .int 0])), ((a2 0), .inl (G.2.1, 64, .inl (fun _ => 0))), (q3, .inr (0, [.ref (a4 0), .int 0])), ((a4 0), .inl (G.2.1, 64, .inl (fun _ => 0))), (q5, .inr (2, [.null, .null, .null, .null, .null, .null, .int 0, .int 0, .int 0, .int 0, .int 0]))] H := hP
  have hD : va_D A [(h, .inr (5, [.ref q1, .ref q3, .null, .null, .null, .null])), (q1, .inr (0, [.ref (a2 0), .int 0])), ((a2 0), .inl (G.2.1, 64, .inl (fun _ => 0))), (q3, .inr (0, [.ref (a4 0), .int 0])), ((a4 0), .inl (G.2.1, 64, .inl (fun _ => 0))), (q5, .inr (2, [.null, .null, .null, .null, .null, .null, .int 0, .int 0, .int 0, .int 0, .int 0]))] := hD
  refine lv_dup (pc := 34) hx hb dX8_init_34 rfl ?_
  refine i_call (pc := 35) (w0 := [(h, .inr (5, [.ref q1, .ref q3, .null, .null, .null, .null])), (q1, .inr (0, [.ref (a2 0), .int 0])), ((a2 0), .inl (G.2.1, 64, .inl (fun _ => 0))), (q3, .inr (0, [.ref (a4 0), .int 0])), ((a4 0), .inl (G.2.1, 64, .inl (fun _ => 0)))]) (rest := [.ref q5, .ref h]) hx hb hml hown hts hK hO (c_X2_init l G q5) wd_61 wd_5 wd_59 wd_60 rfl hd_X2_init ⟨(Nat.le_of_ble_eq_true rfl), (Nat.le_of_ble_eq_true rfl)⟩ hP hD hS hA rfl hl.1 rfl (Nat.le_of_ble_eq_true rfl) dX8_init_35 ⟨(Nat.le_of_ble_eq_true rfl), (Nat.le_of_ble_eq_true rfl)⟩ (fun a6 H locs hP hD hS => ?_)
  refine W.widen (k := 11) (n := 357) (Nat.le_of_ble_eq_true rfl) (Nat.le_of_ble_eq_true rfl) ?_
  have hP : va_P G.1 vwCl [(h, .inr (5, [.ref q1, .ref q3, .null, .null, .null, .null])), (q1, .inr (0, [.ref (a2 0), .int 0])), ((a2 0), .inl (G.2.1, 64, .inl (fun _ => 0))), (q3, .inr (0, [.ref (a4 0), .int 0])), ((a4 0), .inl (G.2.1, 64, .inl (fun _ => 0))), (q5, .inr (2, [.ref (a6 0), .ref (a6 1), .ref (a6 2), .ref (a6 3), .ref (a6 4), .ref (a6 5), .int 0, .int 0, .int 0, .int 0, .int (-1 : Int32)])), ((a6 0), .inl (G.2.1, 30, .inl (fun _ => 0))), ((a6 1), .inl (G.2.1, 30, .inl (fun _ => 0))), ((a6 2), .inl (G.2.1, 30, .inl (fun _ => 0))), ((a6 3), .inl (G.2.1, 30, .inl (fun _ => 0))), ((a6 4), .inl (G.2.1, 30, .inl (fun _ => 0))), ((a6 5), .inl (G.2.1, 64, .inl (fun _ => 0)))] H := hP
  have hD : va_D A [(h, .inr (5, [.ref q1, .ref q3, .null, .null, .null, .null])), (q1, .inr (0, [.ref (a2 0), .int 0])), ((a2 0), .inl (G.2.1, 64, .inl (fun _ => 0))), (q3, .inr (0, [.ref (a4 0), .int 0])), ((a4 0), .inl (G.2.1, 64, .inl (fun _ => 0))), (q5, .inr (2, [.ref (a6 0), .ref (a6 1), .ref (a6 2), .ref (a6 3), .ref (a6 4), .ref (a6 5), .int 0, .int 0, .int 0, .int 0, .int (-1 : Int32)])), ((a6 0), .inl (G.2.1, 30, .inl (fun _ => 0))), ((a6 1), .inl (G.2.1, 30, .inl (fun _ => 0))), ((a6 2), .inl (G.2.1, 30, .inl (fun _ => 0))), ((a6 3), .inl (G.2.1, 30, .inl (fun _ => 0))), ((a6 4), .inl (G.2.1, 30, .inl (fun _ => 0))), ((a6 5), .inl (G.2.1, 64, .inl (fun _ => 0)))] := hD
  refine va_putF (pc := 38) (D := G.1) (ci := 5) (v := .ref q5) (ty := .object "InPlaceDelta$Delta") (C := RX8) (T := TX8) (N := 6) hx hb hts inX8 tyX8 tyX8_ok nmX8 hown hK.1 hP hD hS 0 rfl rfl 2 (by decide) (hts _ wd_164) (fun _ h9 => h9) rfl hin rfl (by decide +kernel) rfl rfl (Nat.le_of_ble_eq_true rfl) dX8_init_38 (fun H locs hP hD hS => ?_)
  have hP : va_P G.1 vwCl [(h, .inr (5, [.ref q1, .ref q3, .ref q5, .null, .null, .null])), (q1, .inr (0, [.ref (a2 0), .int 0])), ((a2 0), .inl (G.2.1, 64, .inl (fun _ => 0))), (q3, .inr (0, [.ref (a4 0), .int 0])), ((a4 0), .inl (G.2.1, 64, .inl (fun _ => 0))), (q5, .inr (2, [.ref (a6 0), .ref (a6 1), .ref (a6 2), .ref (a6 3), .ref (a6 4), .ref (a6 5), .int 0, .int 0, .int 0, .int 0, .int (-1 : Int32)])), ((a6 0), .inl (G.2.1, 30, .inl (fun _ => 0))), ((a6 1), .inl (G.2.1, 30, .inl (fun _ => 0))), ((a6 2), .inl (G.2.1, 30, .inl (fun _ => 0))), ((a6 3), .inl (G.2.1, 30, .inl (fun _ => 0))), ((a6 4), .inl (G.2.1, 30, .inl (fun _ => 0))), ((a6 5), .inl (G.2.1, 64, .inl (fun _ => 0)))] H := hP
  have hD : va_D A [(h, .inr (5, [.ref q1, .ref q3, .ref q5, .null, .null, .null])), (q1, .inr (0, [.ref (a2 0), .int 0])), ((a2 0), .inl (G.2.1, 64, .inl (fun _ => 0))), (q3, .inr (0, [.ref (a4 0), .int 0])), ((a4 0), .inl (G.2.1, 64, .inl (fun _ => 0))), (q5, .inr (2, [.ref (a6 0), .ref (a6 1), .ref (a6 2), .ref (a6 3), .ref (a6 4), .ref (a6 5), .int 0, .int 0, .int 0, .int 0, .int (-1 : Int32)])), ((a6 0), .inl (G.2.1, 30, .inl (fun _ => 0))), ((a6 1), .inl (G.2.1, 30, .inl (fun _ => 0))), ((a6 2), .inl (G.2.1, 30, .inl (fun _ => 0))), ((a6 3), .inl (G.2.1, 30, .inl (fun _ => 0))), ((a6 4), .inl (G.2.1, 30, .inl (fun _ => 0))), ((a6 5), .inl (G.2.1, 64, .inl (fun _ => 0)))] := hD
  refine lv_aload_n (pc := 41) hx hb dX8_init_41 rfl (lv_at hl 0 rfl) ?_
  refine va_new (pc := 42) (ci := 4) (fs := [.null, .int 0, .int 0, .int 0, .int 0]) (C := RX7) (T := TX7) (N := 5) hx hb hts inX7 tyX7 tyX7_ok hown (hts _ wd_109) (hts _ wd_110) (hts _ wd_6) hK.1 hP hD hS hA rfl (by decide +kernel) (Nat.le_of_ble_eq_true rfl) (Nat.le_of_ble_eq_true rfl) dX8_init_42 (fun q7 H hP hD hS => ?_)
  refine W.widen (k := 12) (n := 362) (Nat.le_of_ble_eq_true rfl) (Nat.le_of_ble_eq_true rfl) ?_
  have hP : va_P G.1 vwCl [(h, .inr (5, [.ref q1, .ref q3, .ref q5, .null, .null, .null])), (q1, .inr (0, [.ref (a2 0), .int 0])), ((a2 0), .inl (G.2.1, 64, .inl (fun _ => 0))), (q3, .inr (0, [.ref (a4 0), .int 0])), ((a4 0), .inl (G.2.1, 64, .inl (fun _ => 0))), (q5, .inr (2, [.ref (a6 0), .ref (a6 1), .ref (a6 2), .ref (a6 3), .ref (a6 4), .ref (a6 5), .int 0, .int 0, .int 0, .int 0, .int (-1 : Int32)])), ((a6 0), .inl (G.2.1, 30, .inl (fun _ => 0))), ((a6 1), .inl (G.2.1, 30, .inl (fun _ => 0))), ((a6 2), .inl (G.2.1, 30, .inl (fun _ => 0))), ((a6 3), .inl (G.2.1, 30, .inl (fun _ => 0))), ((a6 4), .inl (G.2.1, 30, .inl (fun _ => 0))), ((a6 5), .inl (G.2.1, 64, .inl (fun _ => 0))), (q7, .inr (4, [.null, .int 0, .int 0, .int 0, .int 0]))] H := hP
  have hD : va_D A [(h, .inr (5, [.ref q1, .ref q3, .ref q5, .null, .null, .null])), (q1, .inr (0, [.ref (a2 0), .int 0])), ((a2 0), .inl (G.2.1, 64, .inl (fun _ => 0))), (q3, .inr (0, [.ref (a4 0), .int 0])), ((a4 0), .inl (G.2.1, 64, .inl (fun _ => 0))), (q5, .inr (2, [.ref (a6 0), .ref (a6 1), .ref (a6 2), .ref (a6 3), .ref (a6 4), .ref (a6 5), .int 0, .int 0, .int 0, .int 0, .int (-1 : Int32)])), ((a6 0), .inl (G.2.1, 30, .inl (fun _ => 0))), ((a6 1), .inl (G.2.1, 30, .inl (fun _ => 0))), ((a6 2), .inl (G.2.1, 30, .inl (fun _ => 0))), ((a6 3), .inl (G.2.1, 30, .inl (fun _ => 0))), ((a6 4), .inl (G.2.1, 30, .inl (fun _ => 0))), ((a6 5), .inl (G.2.1, 64, .inl (fun _ => 0))), (q7, .inr (4, [.null, .int 0, .int 0, .int 0, .int 0]))] := hD
  refine lv_dup (pc := 45) hx hb dX8_init_45 rfl ?_
  refine i_call (pc := 46) (w0 := [(h, .inr (5, [.ref q1, .ref q3, .ref q5, .null, .null, .null])), (q1, .inr (0, [.ref (a2 0), .int 0])), ((a2 0), .inl (G.2.1, 64, .inl (fun _ => 0))), (q3, .inr (0, [.ref (a4 0), .int 0])), ((a4 0), .inl (G.2.1, 64, .inl (fun _ => 0))), (q5, .inr (2, [.ref (a6 0), .ref (a6 1), .ref (a6 2), .ref (a6 3), .ref (a6 4), .ref (a6 5), .int 0, .int 0, .int 0, .int 0, .int (-1 : Int32)])), ((a6 0), .inl (G.2.1, 30, .inl (fun _ => 0))), ((a6 1), .inl (G.2.1, 30, .inl (fun _ => 0))), ((a6 2), .inl (G.2.1, 30, .inl (fun _ => 0))), ((a6 3), .inl (G.2.1, 30, .inl (fun _ => 0))), ((a6 4), .inl (G.2.1, 30, .inl (fun _ => 0))), ((a6 5), .inl (G.2.1, 64, .inl (fun _ => 0)))]) (rest := [.ref q7, .ref h]) hx hb hml hown hts hK hO (c_X7_init l G q7) wd_113 wd_6 wd_111 wd_112 rfl hd_X7_init ⟨(Nat.le_of_ble_eq_true rfl), (Nat.le_of_ble_eq_true rfl)⟩ hP hD hS hA rfl hl.1 rfl (Nat.le_of_ble_eq_true rfl) dX8_init_46 ⟨(Nat.le_of_ble_eq_true rfl), (Nat.le_of_ble_eq_true rfl)⟩ (fun a8 H locs hP hD hS => ?_)
  refine W.widen (k := 13) (n := 392) (Nat.le_of_ble_eq_true rfl) (Nat.le_of_ble_eq_true rfl) ?_
  have hP : va_P G.1 vwCl [(h, .inr (5, [.ref q1, .ref q3, .ref q5, .null, .null, .null])), (q1, .inr (0, [.ref (a2 0), .int 0])), ((a2 0), .inl (G.2.1, 64, .inl (fun _ => 0))), (q3, .inr (0, [.ref (a4 0), .int 0])), ((a4 0), .inl (G.2.1, 64, .inl (fun _ => 0))), (q5, .inr (2, [.ref (a6 0), .ref (a6 1), .ref (a6 2), .ref (a6 3), .ref (a6 4), .ref (a6 5), .int 0, .int 0, .int 0, .int 0, .int (-1 : Int32)])), ((a6 0), .inl (G.2.1, 30, .inl (fun _ => 0))), ((a6 1), .inl (G.2.1, 30, .inl (fun _ => 0))), ((a6 2), .inl (G.2.1, 30, .inl (fun _ => 0))), ((a6 3), .inl (G.2.1, 30, .inl (fun _ => 0))), ((a6 4), .inl (G.2.1, 30, .inl (fun _ => 0))), ((a6 5), .inl (G.2.1, 64, .inl (fun _ => 0))), (q7, .inr (4, [.ref (a8 0), .int 0, .int 0, .int 0, .int 0])), ((a8 0), .inl (G.2.1, 30, .inl (fun _ => 0)))] H := hP
  have hD : va_D A [(h, .inr (5, [.ref q1, .ref q3, .ref q5, .null, .null, .null])), (q1, .inr (0, [.ref (a2 0), .int 0])), ((a2 0), .inl (G.2.1, 64, .inl (fun _ => 0))), (q3, .inr (0, [.ref (a4 0), .int 0])), ((a4 0), .inl (G.2.1, 64, .inl (fun _ => 0))), (q5, .inr (2, [.ref (a6 0), .ref (a6 1), .ref (a6 2), .ref (a6 3), .ref (a6 4), .ref (a6 5), .int 0, .int 0, .int 0, .int 0, .int (-1 : Int32)])), ((a6 0), .inl (G.2.1, 30, .inl (fun _ => 0))), ((a6 1), .inl (G.2.1, 30, .inl (fun _ => 0))), ((a6 2), .inl (G.2.1, 30, .inl (fun _ => 0))), ((a6 3), .inl (G.2.1, 30, .inl (fun _ => 0))), ((a6 4), .inl (G.2.1, 30, .inl (fun _ => 0))), ((a6 5), .inl (G.2.1, 64, .inl (fun _ => 0))), (q7, .inr (4, [.ref (a8 0), .int 0, .int 0, .int 0, .int 0])), ((a8 0), .inl (G.2.1, 30, .inl (fun _ => 0)))] := hD
  refine va_putF (pc := 49) (D := G.1) (ci := 5) (v := .ref q7) (ty := .object "InPlaceDelta$Plan") (C := RX8) (T := TX8) (N := 6) hx hb hts inX8 tyX8 tyX8_ok nmX8 hown hK.1 hP hD hS 0 rfl rfl 3 (by decide) (hts _ wd_168) (fun _ h9 => h9) rfl hin rfl (by decide +kernel) rfl rfl (Nat.le_of_ble_eq_true rfl) dX8_init_49 (fun H locs hP hD hS => ?_)
  have hP : va_P G.1 vwCl [(h, .inr (5, [.ref q1, .ref q3, .ref q5, .ref q7, .null, .null])), (q1, .inr (0, [.ref (a2 0), .int 0])), ((a2 0), .inl (G.2.1, 64, .inl (fun _ => 0))), (q3, .inr (0, [.ref (a4 0), .int 0])), ((a4 0), .inl (G.2.1, 64, .inl (fun _ => 0))), (q5, .inr (2, [.ref (a6 0), .ref (a6 1), .ref (a6 2), .ref (a6 3), .ref (a6 4), .ref (a6 5), .int 0, .int 0, .int 0, .int 0, .int (-1 : Int32)])), ((a6 0), .inl (G.2.1, 30, .inl (fun _ => 0))), ((a6 1), .inl (G.2.1, 30, .inl (fun _ => 0))), ((a6 2), .inl (G.2.1, 30, .inl (fun _ => 0))), ((a6 3), .inl (G.2.1, 30, .inl (fun _ => 0))), ((a6 4), .inl (G.2.1, 30, .inl (fun _ => 0))), ((a6 5), .inl (G.2.1, 64, .inl (fun _ => 0))), (q7, .inr (4, [.ref (a8 0), .int 0, .int 0, .int 0, .int 0])), ((a8 0), .inl (G.2.1, 30, .inl (fun _ => 0)))] H := hP
  have hD : va_D A [(h, .inr (5, [.ref q1, .ref q3, .ref q5, .ref q7, .null, .null])), (q1, .inr (0, [.ref (a2 0), .int 0])), ((a2 0), .inl (G.2.1, 64, .inl (fun _ => 0))), (q3, .inr (0, [.ref (a4 0), .int 0])), ((a4 0), .inl (G.2.1, 64, .inl (fun _ => 0))), (q5, .inr (2, [.ref (a6 0), .ref (a6 1), .ref (a6 2), .ref (a6 3), .ref (a6 4), .ref (a6 5), .int 0, .int 0, .int 0, .int 0, .int (-1 : Int32)])), ((a6 0), .inl (G.2.1, 30, .inl (fun _ => 0))), ((a6 1), .inl (G.2.1, 30, .inl (fun _ => 0))), ((a6 2), .inl (G.2.1, 30, .inl (fun _ => 0))), ((a6 3), .inl (G.2.1, 30, .inl (fun _ => 0))), ((a6 4), .inl (G.2.1, 30, .inl (fun _ => 0))), ((a6 5), .inl (G.2.1, 64, .inl (fun _ => 0))), (q7, .inr (4, [.ref (a8 0), .int 0, .int 0, .int 0, .int 0])), ((a8 0), .inl (G.2.1, 30, .inl (fun _ => 0)))] := hD
  refine lv_aload_n (pc := 52) hx hb dX8_init_52 rfl (lv_at hl 0 rfl) ?_
  refine va_new (pc := 53) (ci := 0) (fs := [.null, .int 0]) (C := RX0) (T := TX0) (N := 2) hx hb hts inX0 tyX0 tyX0_ok hown (hts _ wd_36) (hts _ wd_37) (hts _ wd_3) hK.1 hP hD hS hA rfl (by decide +kernel) (Nat.le_of_ble_eq_true rfl) (Nat.le_of_ble_eq_true rfl) dX8_init_53 (fun q9 H hP hD hS => ?_)
  refine W.widen (k := 14) (n := 394) (Nat.le_of_ble_eq_true rfl) (Nat.le_of_ble_eq_true rfl) ?_
  have hP : va_P G.1 vwCl [(h, .inr (5, [.ref q1, .ref q3, .ref q5, .ref q7, .null, .null])), (q1, .inr (0, [.ref (a2 0), .int 0])), ((a2 0), .inl (G.2.1, 64, .inl (fun _ => 0))), (q3, .inr (0, [.ref (a4 0), .int 0])), ((a4 0), .inl (G.2.1, 64, .inl (fun _ => 0))), (q5, .inr (2, [.ref (a6 0), .ref (a6 1), .ref (a6 2), .ref (a6 3), .ref (a6 4), .ref (a6 5), .int 0, .int 0, .int 0, .int 0, .int (-1 : Int32)])), ((a6 0), .inl (G.2.1, 30, .inl (fun _ => 0))), ((a6 1), .inl (G.2.1, 30, .inl (fun _ => 0))), ((a6 2), .inl (G.2.1, 30, .inl (fun _ => 0))), ((a6 3), .inl (G.2.1, 30, .inl (fun _ => 0))), ((a6 4), .inl (G.2.1, 30, .inl (fun _ => 0))), ((a6 5), .inl (G.2.1, 64, .inl (fun _ => 0))), (q7, .inr (4, [.ref (a8 0), .int 0, .int 0, .int 0, .int 0])), ((a8 0), .inl (G.2.1, 30, .inl (fun _ => 0))), (q9, .inr (0, [.null, .int 0]))] H := hP
  have hD : va_D A [(h, .inr (5, [.ref q1, .ref q3, .ref q5, .ref q7, .null, .null])), (q1, .inr (0, [.ref (a2 0), .int 0])), ((a2 0), .inl (G.2.1, 64, .inl (fun _ => 0))), (q3, .inr (0, [.ref (a4 0), .int 0])), ((a4 0), .inl (G.2.1, 64, .inl (fun _ => 0))), (q5, .inr (2, [.ref (a6 0), .ref (a6 1), .ref (a6 2), .ref (a6 3), .ref (a6 4), .ref (a6 5), .int 0, .int 0, .int 0, .int 0, .int (-1 : Int32)])), ((a6 0), .inl (G.2.1, 30, .inl (fun _ => 0))), ((a6 1), .inl (G.2.1, 30, .inl (fun _ => 0))), ((a6 2), .inl (G.2.1, 30, .inl (fun _ => 0))), ((a6 3), .inl (G.2.1, 30, .inl (fun _ => 0))), ((a6 4), .inl (G.2.1, 30, .inl (fun _ => 0))), ((a6 5), .inl (G.2.1, 64, .inl (fun _ => 0))), (q7, .inr (4, [.ref (a8 0), .int 0, .int 0, .int 0, .int 0])), ((a8 0), .inl (G.2.1, 30, .inl (fun _ => 0))), (q9, .inr (0, [.null, .int 0]))] := hD
  refine lv_dup (pc := 56) hx hb dX8_init_56 rfl ?_
  refine lv_sipush (pc := 57) (v := (200 : Int32)) hx hb dX8_init_57 (by decide) ?_
  refine i_call (pc := 60) (w0 := [(h, .inr (5, [.ref q1, .ref q3, .ref q5, .ref q7, .null, .null])), (q1, .inr (0, [.ref (a2 0), .int 0])), ((a2 0), .inl (G.2.1, 64, .inl (fun _ => 0))), (q3, .inr (0, [.ref (a4 0), .int 0])), ((a4 0), .inl (G.2.1, 64, .inl (fun _ => 0))), (q5, .inr (2, [.ref (a6 0), .ref (a6 1), .ref (a6 2), .ref (a6 3), .ref (a6 4), .ref (a6 5), .int 0, .int 0, .int 0, .int 0, .int (-1 : Int32)])), ((a6 0), .inl (G.2.1, 30, .inl (fun _ => 0))), ((a6 1), .inl (G.2.1, 30, .inl (fun _ => 0))), ((a6 2), .inl (G.2.1, 30, .inl (fun _ => 0))), ((a6 3), .inl (G.2.1, 30, .inl (fun _ => 0))), ((a6 4), .inl (G.2.1, 30, .inl (fun _ => 0))), ((a6 5), .inl (G.2.1, 64, .inl (fun _ => 0))), (q7, .inr (4, [.ref (a8 0), .int 0, .int 0, .int 0, .int 0])), ((a8 0), .inl (G.2.1, 30, .inl (fun _ => 0)))]) (rest := [.ref q9, .ref h]) hx hb hml hown hts hK hO (c_X0_init l G q9 200 (200 : Int32) (by decide) (by decide) (by decide)) wd_40 wd_3 wd_38 wd_39 rfl hd_X0_init ⟨(Nat.le_of_ble_eq_true rfl), (Nat.le_of_ble_eq_true rfl)⟩ hP hD hS hA rfl hl.1 rfl (Nat.le_of_ble_eq_true rfl) dX8_init_60 ⟨(Nat.le_of_ble_eq_true rfl), (Nat.le_of_ble_eq_true rfl)⟩ (fun a10 H locs hP hD hS => ?_)
  refine W.widen (k := 15) (n := 594) (Nat.le_of_ble_eq_true rfl) (Nat.le_of_ble_eq_true rfl) ?_
  have hP : va_P G.1 vwCl [(h, .inr (5, [.ref q1, .ref q3, .ref q5, .ref q7, .null, .null])), (q1, .inr (0, [.ref (a2 0), .int 0])), ((a2 0), .inl (G.2.1, 64, .inl (fun _ => 0))), (q3, .inr (0, [.ref (a4 0), .int 0])), ((a4 0), .inl (G.2.1, 64, .inl (fun _ => 0))), (q5, .inr (2, [.ref (a6 0), .ref (a6 1), .ref (a6 2), .ref (a6 3), .ref (a6 4), .ref (a6 5), .int 0, .int 0, .int 0, .int 0, .int (-1 : Int32)])), ((a6 0), .inl (G.2.1, 30, .inl (fun _ => 0))), ((a6 1), .inl (G.2.1, 30, .inl (fun _ => 0))), ((a6 2), .inl (G.2.1, 30, .inl (fun _ => 0))), ((a6 3), .inl (G.2.1, 30, .inl (fun _ => 0))), ((a6 4), .inl (G.2.1, 30, .inl (fun _ => 0))), ((a6 5), .inl (G.2.1, 64, .inl (fun _ => 0))), (q7, .inr (4, [.ref (a8 0), .int 0, .int 0, .int 0, .int 0])), ((a8 0), .inl (G.2.1, 30, .inl (fun _ => 0))), (q9, .inr (0, [.ref (a10 0), .int 0])), ((a10 0), .inl (G.2.1, 200, .inl (fun _ => 0)))] H := hP
  have hD : va_D A [(h, .inr (5, [.ref q1, .ref q3, .ref q5, .ref q7, .null, .null])), (q1, .inr (0, [.ref (a2 0), .int 0])), ((a2 0), .inl (G.2.1, 64, .inl (fun _ => 0))), (q3, .inr (0, [.ref (a4 0), .int 0])), ((a4 0), .inl (G.2.1, 64, .inl (fun _ => 0))), (q5, .inr (2, [.ref (a6 0), .ref (a6 1), .ref (a6 2), .ref (a6 3), .ref (a6 4), .ref (a6 5), .int 0, .int 0, .int 0, .int 0, .int (-1 : Int32)])), ((a6 0), .inl (G.2.1, 30, .inl (fun _ => 0))), ((a6 1), .inl (G.2.1, 30, .inl (fun _ => 0))), ((a6 2), .inl (G.2.1, 30, .inl (fun _ => 0))), ((a6 3), .inl (G.2.1, 30, .inl (fun _ => 0))), ((a6 4), .inl (G.2.1, 30, .inl (fun _ => 0))), ((a6 5), .inl (G.2.1, 64, .inl (fun _ => 0))), (q7, .inr (4, [.ref (a8 0), .int 0, .int 0, .int 0, .int 0])), ((a8 0), .inl (G.2.1, 30, .inl (fun _ => 0))), (q9, .inr (0, [.ref (a10 0), .int 0])), ((a10 0), .inl (G.2.1, 200, .inl (fun _ => 0)))] := hD
  refine va_putF (pc := 63) (D := G.1) (ci := 5) (v := .ref q9) (ty := .object "InPlaceDelta$Bytes") (C := RX8) (T := TX8) (N := 6) hx hb hts inX8 tyX8 tyX8_ok nmX8 hown hK.1 hP hD hS 0 rfl rfl 4 (by decide) (hts _ wd_172) (fun _ h9 => h9) rfl hin rfl (by decide +kernel) rfl rfl (Nat.le_of_ble_eq_true rfl) dX8_init_63 (fun H locs hP hD hS => ?_)
  have hP : va_P G.1 vwCl [(h, .inr (5, [.ref q1, .ref q3, .ref q5, .ref q7, .ref q9, .null])), (q1, .inr (0, [.ref (a2 0), .int 0])), ((a2 0), .inl (G.2.1, 64, .inl (fun _ => 0))), (q3, .inr (0, [.ref (a4 0), .int 0])), ((a4 0), .inl (G.2.1, 64, .inl (fun _ => 0))), (q5, .inr (2, [.ref (a6 0), .ref (a6 1), .ref (a6 2), .ref (a6 3), .ref (a6 4), .ref (a6 5), .int 0, .int 0, .int 0, .int 0, .int (-1 : Int32)])), ((a6 0), .inl (G.2.1, 30, .inl (fun _ => 0))), ((a6 1), .inl (G.2.1, 30, .inl (fun _ => 0))), ((a6 2), .inl (G.2.1, 30, .inl (fun _ => 0))), ((a6 3), .inl (G.2.1, 30, .inl (fun _ => 0))), ((a6 4), .inl (G.2.1, 30, .inl (fun _ => 0))), ((a6 5), .inl (G.2.1, 64, .inl (fun _ => 0))), (q7, .inr (4, [.ref (a8 0), .int 0, .int 0, .int 0, .int 0])), ((a8 0), .inl (G.2.1, 30, .inl (fun _ => 0))), (q9, .inr (0, [.ref (a10 0), .int 0])), ((a10 0), .inl (G.2.1, 200, .inl (fun _ => 0)))] H := hP
  have hD : va_D A [(h, .inr (5, [.ref q1, .ref q3, .ref q5, .ref q7, .ref q9, .null])), (q1, .inr (0, [.ref (a2 0), .int 0])), ((a2 0), .inl (G.2.1, 64, .inl (fun _ => 0))), (q3, .inr (0, [.ref (a4 0), .int 0])), ((a4 0), .inl (G.2.1, 64, .inl (fun _ => 0))), (q5, .inr (2, [.ref (a6 0), .ref (a6 1), .ref (a6 2), .ref (a6 3), .ref (a6 4), .ref (a6 5), .int 0, .int 0, .int 0, .int 0, .int (-1 : Int32)])), ((a6 0), .inl (G.2.1, 30, .inl (fun _ => 0))), ((a6 1), .inl (G.2.1, 30, .inl (fun _ => 0))), ((a6 2), .inl (G.2.1, 30, .inl (fun _ => 0))), ((a6 3), .inl (G.2.1, 30, .inl (fun _ => 0))), ((a6 4), .inl (G.2.1, 30, .inl (fun _ => 0))), ((a6 5), .inl (G.2.1, 64, .inl (fun _ => 0))), (q7, .inr (4, [.ref (a8 0), .int 0, .int 0, .int 0, .int 0])), ((a8 0), .inl (G.2.1, 30, .inl (fun _ => 0))), (q9, .inr (0, [.ref (a10 0), .int 0])), ((a10 0), .inl (G.2.1, 200, .inl (fun _ => 0)))] := hD
  refine lv_aload_n (pc := 66) hx hb dX8_init_66 rfl (lv_at hl 0 rfl) ?_
  refine va_new (pc := 67) (ci := 6) (fs := [.null, .int 0, .int 0]) (C := RX9) (T := TX9) (N := 3) hx hb hts inX9 tyX9 tyX9_ok hown (hts _ wd_137) (hts _ wd_138) (hts _ wd_7) hK.1 hP hD hS hA rfl (by decide +kernel) (Nat.le_of_ble_eq_true rfl) (Nat.le_of_ble_eq_true rfl) dX8_init_67 (fun q11 H hP hD hS => ?_)
  refine W.widen (k := 16) (n := 597) (Nat.le_of_ble_eq_true rfl) (Nat.le_of_ble_eq_true rfl) ?_
  have hP : va_P G.1 vwCl [(h, .inr (5, [.ref q1, .ref q3, .ref q5, .ref q7, .ref q9, .null])), (q1, .inr (0, [.ref (a2 0), .int 0])), ((a2 0), .inl (G.2.1, 64, .inl (fun _ => 0))), (q3, .inr (0, [.ref (a4 0), .int 0])), ((a4 0), .inl (G.2.1, 64, .inl (fun _ => 0))), (q5, .inr (2, [.ref (a6 0), .ref (a6 1), .ref (a6 2), .ref (a6 3), .ref (a6 4), .ref (a6 5), .int 0, .int 0, .int 0, .int 0, .int (-1 : Int32)])), ((a6 0), .inl (G.2.1, 30, .inl (fun _ => 0))), ((a6 1), .inl (G.2.1, 30, .inl (fun _ => 0))), ((a6 2), .inl (G.2.1, 30, .inl (fun _ => 0))), ((a6 3), .inl (G.2.1, 30, .inl (fun _ => 0))), ((a6 4), .inl (G.2.1, 30, .inl (fun _ => 0))), ((a6 5), .inl (G.2.1, 64, .inl (fun _ => 0))), (q7, .inr (4, [.ref (a8 0), .int 0, .int 0, .int 0, .int 0])), ((a8 0), .inl (G.2.1, 30, .inl (fun _ => 0))), (q9, .inr (0, [.ref (a10 0), .int 0])), ((a10 0), .inl (G.2.1, 200, .inl (fun _ => 0))), (q11, .inr (6, [.null, .int 0, .int 0]))] H := hP
  have hD : va_D A [(h, .inr (5, [.ref q1, .ref q3, .ref q5, .ref q7, .ref q9, .null])), (q1, .inr (0, [.ref (a2 0), .int 0])), ((a2 0), .inl (G.2.1, 64, .inl (fun _ => 0))), (q3, .inr (0, [.ref (a4 0), .int 0])), ((a4 0), .inl (G.2.1, 64, .inl (fun _ => 0))), (q5, .inr (2, [.ref (a6 0), .ref (a6 1), .ref (a6 2), .ref (a6 3), .ref (a6 4), .ref (a6 5), .int 0, .int 0, .int 0, .int 0, .int (-1 : Int32)])), ((a6 0), .inl (G.2.1, 30, .inl (fun _ => 0))), ((a6 1), .inl (G.2.1, 30, .inl (fun _ => 0))), ((a6 2), .inl (G.2.1, 30, .inl (fun _ => 0))), ((a6 3), .inl (G.2.1, 30, .inl (fun _ => 0))), ((a6 4), .inl (G.2.1, 30, .inl (fun _ => 0))), ((a6 5), .inl (G.2.1, 64, .inl (fun _ => 0))), (q7, .inr (4, [.ref (a8 0), .int 0, .int 0, .int 0, .int 0])), ((a8 0), .inl (G.2.1, 30, .inl (fun _ => 0))), (q9, .inr (0, [.ref (a10 0), .int 0])), ((a10 0), .inl (G.2.1, 200, .inl (fun _ => 0))), (q11, .inr (6, [.null, .int 0, .int 0]))] := hD
  refine lv_dup (pc := 70) hx hb dX8_init_70 rfl ?_
  refine i_call (pc := 71) (w0 := [(h, .inr (5, [.ref q1, .ref q3, .ref q5, .ref q7, .ref q9, .null])), (q1, .inr (0, [.ref (a2 0), .int 0])), ((a2 0), .inl (G.2.1, 64, .inl (fun _ => 0))), (q3, .inr (0, [.ref (a4 0), .int 0])), ((a4 0), .inl (G.2.1, 64, .inl (fun _ => 0))), (q5, .inr (2, [.ref (a6 0), .ref (a6 1), .ref (a6 2), .ref (a6 3), .ref (a6 4), .ref (a6 5), .int 0, .int 0, .int 0, .int 0, .int (-1 : Int32)])), ((a6 0), .inl (G.2.1, 30, .inl (fun _ => 0))), ((a6 1), .inl (G.2.1, 30, .inl (fun _ => 0))), ((a6 2), .inl (G.2.1, 30, .inl (fun _ => 0))), ((a6 3), .inl (G.2.1, 30, .inl (fun _ => 0))), ((a6 4), .inl (G.2.1, 30, .inl (fun _ => 0))), ((a6 5), .inl (G.2.1, 64, .inl (fun _ => 0))), (q7, .inr (4, [.ref (a8 0), .int 0, .int 0, .int 0, .int 0])), ((a8 0), .inl (G.2.1, 30, .inl (fun _ => 0))), (q9, .inr (0, [.ref (a10 0), .int 0])), ((a10 0), .inl (G.2.1, 200, .inl (fun _ => 0)))]) (rest := [.ref q11, .ref h]) hx hb hml hown hts hK hO (c_X9_init l G q11) wd_141 wd_7 wd_139 wd_140 rfl hd_X9_init ⟨(Nat.le_of_ble_eq_true rfl), (Nat.le_of_ble_eq_true rfl)⟩ hP hD hS hA rfl hl.1 rfl (Nat.le_of_ble_eq_true rfl) dX8_init_71 ⟨(Nat.le_of_ble_eq_true rfl), (Nat.le_of_ble_eq_true rfl)⟩ (fun a12 H locs hP hD hS => ?_)
  refine W.widen (k := 18) (n := 663) (Nat.le_of_ble_eq_true rfl) (Nat.le_of_ble_eq_true rfl) ?_
  have hP : va_P G.1 vwCl [(h, .inr (5, [.ref q1, .ref q3, .ref q5, .ref q7, .ref q9, .null])), (q1, .inr (0, [.ref (a2 0), .int 0])), ((a2 0), .inl (G.2.1, 64, .inl (fun _ => 0))), (q3, .inr (0, [.ref (a4 0), .int 0])), ((a4 0), .inl (G.2.1, 64, .inl (fun _ => 0))), (q5, .inr (2, [.ref (a6 0), .ref (a6 1), .ref (a6 2), .ref (a6 3), .ref (a6 4), .ref (a6 5), .int 0, .int 0, .int 0, .int 0, .int (-1 : Int32)])), ((a6 0), .inl (G.2.1, 30, .inl (fun _ => 0))), ((a6 1), .inl (G.2.1, 30, .inl (fun _ => 0))), ((a6 2), .inl (G.2.1, 30, .inl (fun _ => 0))), ((a6 3), .inl (G.2.1, 30, .inl (fun _ => 0))), ((a6 4), .inl (G.2.1, 30, .inl (fun _ => 0))), ((a6 5), .inl (G.2.1, 64, .inl (fun _ => 0))), (q7, .inr (4, [.ref (a8 0), .int 0, .int 0, .int 0, .int 0])), ((a8 0), .inl (G.2.1, 30, .inl (fun _ => 0))), (q9, .inr (0, [.ref (a10 0), .int 0])), ((a10 0), .inl (G.2.1, 200, .inl (fun _ => 0))), (q11, .inr (6, [.ref (a12 0), .int 0, .int 0])), ((a12 0), .inr (0, [.ref (a12 1), .int 0])), ((a12 1), .inl (G.2.1, 64, .inl (fun _ => 0)))] H := hP
  have hD : va_D A [(h, .inr (5, [.ref q1, .ref q3, .ref q5, .ref q7, .ref q9, .null])), (q1, .inr (0, [.ref (a2 0), .int 0])), ((a2 0), .inl (G.2.1, 64, .inl (fun _ => 0))), (q3, .inr (0, [.ref (a4 0), .int 0])), ((a4 0), .inl (G.2.1, 64, .inl (fun _ => 0))), (q5, .inr (2, [.ref (a6 0), .ref (a6 1), .ref (a6 2), .ref (a6 3), .ref (a6 4), .ref (a6 5), .int 0, .int 0, .int 0, .int 0, .int (-1 : Int32)])), ((a6 0), .inl (G.2.1, 30, .inl (fun _ => 0))), ((a6 1), .inl (G.2.1, 30, .inl (fun _ => 0))), ((a6 2), .inl (G.2.1, 30, .inl (fun _ => 0))), ((a6 3), .inl (G.2.1, 30, .inl (fun _ => 0))), ((a6 4), .inl (G.2.1, 30, .inl (fun _ => 0))), ((a6 5), .inl (G.2.1, 64, .inl (fun _ => 0))), (q7, .inr (4, [.ref (a8 0), .int 0, .int 0, .int 0, .int 0])), ((a8 0), .inl (G.2.1, 30, .inl (fun _ => 0))), (q9, .inr (0, [.ref (a10 0), .int 0])), ((a10 0), .inl (G.2.1, 200, .inl (fun _ => 0))), (q11, .inr (6, [.ref (a12 0), .int 0, .int 0])), ((a12 0), .inr (0, [.ref (a12 1), .int 0])), ((a12 1), .inl (G.2.1, 64, .inl (fun _ => 0)))] := hD
  refine va_putF (pc := 74) (D := G.1) (ci := 5) (v := .ref q11) (ty := .object "InPlaceDelta$Work") (C := RX8) (T := TX8) (N := 6) hx hb hts inX8 tyX8 tyX8_ok nmX8 hown hK.1 hP hD hS 0 rfl rfl 5 (by decide) (hts _ wd_175) (fun _ h9 => h9) rfl hin rfl (by decide +kernel) rfl rfl (Nat.le_of_ble_eq_true rfl) dX8_init_74 (fun H locs hP hD hS => ?_)
  have hP : va_P G.1 vwCl [(h, .inr (5, [.ref q1, .ref q3, .ref q5, .ref q7, .ref q9, .ref q11])), (q1, .inr (0, [.ref (a2 0), .int 0])), ((a2 0), .inl (G.2.1, 64, .inl (fun _ => 0))), (q3, .inr (0, [.ref (a4 0), .int 0])), ((a4 0), .inl (G.2.1, 64, .inl (fun _ => 0))), (q5, .inr (2, [.ref (a6 0), .ref (a6 1), .ref (a6 2), .ref (a6 3), .ref (a6 4), .ref (a6 5), .int 0, .int 0, .int 0, .int 0, .int (-1 : Int32)])), ((a6 0), .inl (G.2.1, 30, .inl (fun _ => 0))), ((a6 1), .inl (G.2.1, 30, .inl (fun _ => 0))), ((a6 2), .inl (G.2.1, 30, .inl (fun _ => 0))), ((a6 3), .inl (G.2.1, 30, .inl (fun _ => 0))), ((a6 4), .inl (G.2.1, 30, .inl (fun _ => 0))), ((a6 5), .inl (G.2.1, 64, .inl (fun _ => 0))), (q7, .inr (4, [.ref (a8 0), .int 0, .int 0, .int 0, .int 0])), ((a8 0), .inl (G.2.1, 30, .inl (fun _ => 0))), (q9, .inr (0, [.ref (a10 0), .int 0])), ((a10 0), .inl (G.2.1, 200, .inl (fun _ => 0))), (q11, .inr (6, [.ref (a12 0), .int 0, .int 0])), ((a12 0), .inr (0, [.ref (a12 1), .int 0])), ((a12 1), .inl (G.2.1, 64, .inl (fun _ => 0)))] H := hP
  have hD : va_D A [(h, .inr (5, [.ref q1, .ref q3, .ref q5, .ref q7, .ref q9, .ref q11])), (q1, .inr (0, [.ref (a2 0), .int 0])), ((a2 0), .inl (G.2.1, 64, .inl (fun _ => 0))), (q3, .inr (0, [.ref (a4 0), .int 0])), ((a4 0), .inl (G.2.1, 64, .inl (fun _ => 0))), (q5, .inr (2, [.ref (a6 0), .ref (a6 1), .ref (a6 2), .ref (a6 3), .ref (a6 4), .ref (a6 5), .int 0, .int 0, .int 0, .int 0, .int (-1 : Int32)])), ((a6 0), .inl (G.2.1, 30, .inl (fun _ => 0))), ((a6 1), .inl (G.2.1, 30, .inl (fun _ => 0))), ((a6 2), .inl (G.2.1, 30, .inl (fun _ => 0))), ((a6 3), .inl (G.2.1, 30, .inl (fun _ => 0))), ((a6 4), .inl (G.2.1, 30, .inl (fun _ => 0))), ((a6 5), .inl (G.2.1, 64, .inl (fun _ => 0))), (q7, .inr (4, [.ref (a8 0), .int 0, .int 0, .int 0, .int 0])), ((a8 0), .inl (G.2.1, 30, .inl (fun _ => 0))), (q9, .inr (0, [.ref (a10 0), .int 0])), ((a10 0), .inl (G.2.1, 200, .inl (fun _ => 0))), (q11, .inr (6, [.ref (a12 0), .int 0, .int 0])), ((a12 0), .inr (0, [.ref (a12 1), .int 0])), ((a12 1), .inl (G.2.1, 64, .inl (fun _ => 0)))] := hD
  exact i_ret (a := fun k => ([q1, a2 0, q3, a4 0, q5, a6 0, a6 1, a6 2, a6 3, a6 4, a6 5, q7, a8 0, q9, a10 0, q11, a12 0, a12 1] : List Nat).getD k 0) hx hb hr hlocks (Nat.le_refl _) (Nat.le_refl _) hP hD hS dX8_init_77
def mkDc (G : GT) (h : Nat) (a : Nat → Nat) : va_W := (h, .inr (1, [.ref (a 0), .int 0, .int 0, .int 0])) :: mkDe G (a 0) (fun k => a (k + 1))
theorem hd_X1_init : yX1_init.cls ≠ "java/lang/invoke/MethodHandle" ∧ yX1_init.cls ≠ "java/lang/invoke/VarHandle" ∧ (parseMethodDescriptor yX1_init.desc).map (fun d => d.parameters.length) = some 0 := by decide +kernel
abbrev rm_X1_init : Room := { frames := 2, cells := 7, slots := 225, locals := 32 }
set_option maxHeartbeats 4000000 in
set_option maxRecDepth 100000 in
theorem c_X1_init (l : Launch) (G : GT) (h : Nat) : CtI l yX1_init (Cond.code yX1_init cX1_init 1 none :: lw_g) rm_X1_init G [.ref h] [(h, .inr (1, [.null, .int 0, .int 0, .int 0]))] (mkDc G h) := by
  refine CtI.ofW (cc := cX1_init) (maxL := 1) (own := RX1) (by decide) rfl rfl (Nat.le_of_ble_eq_true rfl) rfl ?_
  intro p e s m args below meth c A hx hb hr hml hts hown hlocks hK hP hD hA hS hO hin ls hl
  have hl : lv_has ls 1 [(0, .ref h)] := hl
  generalize hH : s.heap = H at hP ⊢
  have hS : va_S A s.heap H [] := by rw [← hH]; exact hS
  refine lv_aload_n (pc := 0) hx hb dX1_init_0 rfl (lv_at hl 0 rfl) ?_
  refine W.objInit (g := F0 m 1 ls [.ref h]) hx hb hown (hts _ wd_215) (hts _ wd_28) (hts _ wd_29) rfl (by rw [hml]; exact hl.1) rfl dX1_init_1 (Nat.le_of_ble_eq_true rfl) (Nat.le_of_ble_eq_true rfl) ?_
  refine W.eq (g2 := F0 m 4 ls []) rfl ?_
  refine lv_aload_n (pc := 4) hx hb dX1_init_4 rfl (lv_at hl 0 rfl) ?_
  refine va_new (pc := 5) (ci := 2) (fs := [.null, .null, .null, .null, .null, .null, .int 0, .int 0, .int 0, .int 0, .int 0]) (C := RX2) (T := TX2) (N := 11) hx hb hts inX2 tyX2 tyX2_ok hown (hts _ wd_216) (hts _ wd_58) (hts _ wd_5) hK.1 hP hD hS hA rfl (by decide +kernel) (Nat.le_of_ble_eq_true rfl) (Nat.le_of_ble_eq_true rfl) dX1_init_5 (fun q1 H hP hD hS => ?_)
  refine W.widen (k := 1) (n := 11) (Nat.le_of_ble_eq_true rfl) (Nat.le_of_ble_eq_true rfl) ?_
  have hP : va_P G.1 vwCl [(h, .inr (1, [.null, .int 0, .int 0, .int 0])), (q1, .inr (2, [.null, .null, .null, .null, .null, .null, .int 0, .int 0, .int 0, .int 0, .int 0]))] H := hP
  have hD : va_D A [(h, .inr (1, [.null, .int 0, .int 0, .int 0])), (q1, .inr (2, [.null, .null, .null, .null, .null, .null, .int 0, .int 0, .int 0, .int 0, .int 0]))] := hD
  refine lv_dup (pc := 8) hx hb dX1_init_8 rfl ?_
  refine i_call (pc := 9) (w0 := [(h, .inr (1, [.null, .int 0, .int 0, .int 0]))]) (rest := [.ref q1, .ref h]) hx hb hml hown hts hK hO (c_X2_init l G q1) wd_61 wd_5 wd_217 wd_60 rfl hd_X2_init ⟨(Nat.le_of_ble_eq_true rfl), (Nat.le_of_ble_eq_true rfl)⟩ hP hD hS hA rfl hl.1 rfl (Nat.le_of_ble_eq_true rfl) dX1_init_9 ⟨(Nat.le_of_ble_eq_true rfl), (Nat.le_of_ble_eq_true rfl)⟩ (fun a2 H locs hP hD hS => ?_)
  refine W.widen (k := 7) (n := 225) (Nat.le_of_ble_eq_true rfl) (Nat.le_of_ble_eq_true rfl) ?_
  have hP : va_P G.1 vwCl [(h, .inr (1, [.null, .int 0, .int 0, .int 0])), (q1, .inr (2, [.ref (a2 0), .ref (a2 1), .ref (a2 2), .ref (a2 3), .ref (a2 4), .ref (a2 5), .int 0, .int 0, .int 0, .int 0, .int (-1 : Int32)])), ((a2 0), .inl (G.2.1, 30, .inl (fun _ => 0))), ((a2 1), .inl (G.2.1, 30, .inl (fun _ => 0))), ((a2 2), .inl (G.2.1, 30, .inl (fun _ => 0))), ((a2 3), .inl (G.2.1, 30, .inl (fun _ => 0))), ((a2 4), .inl (G.2.1, 30, .inl (fun _ => 0))), ((a2 5), .inl (G.2.1, 64, .inl (fun _ => 0)))] H := hP
  have hD : va_D A [(h, .inr (1, [.null, .int 0, .int 0, .int 0])), (q1, .inr (2, [.ref (a2 0), .ref (a2 1), .ref (a2 2), .ref (a2 3), .ref (a2 4), .ref (a2 5), .int 0, .int 0, .int 0, .int 0, .int (-1 : Int32)])), ((a2 0), .inl (G.2.1, 30, .inl (fun _ => 0))), ((a2 1), .inl (G.2.1, 30, .inl (fun _ => 0))), ((a2 2), .inl (G.2.1, 30, .inl (fun _ => 0))), ((a2 3), .inl (G.2.1, 30, .inl (fun _ => 0))), ((a2 4), .inl (G.2.1, 30, .inl (fun _ => 0))), ((a2 5), .inl (G.2.1, 64, .inl (fun _ => 0)))] := hD
  refine va_putF (pc := 12) (D := G.1) (ci := 1) (v := .ref q1) (ty := .object "InPlaceDelta$Delta") (C := RX1) (T := TX1) (N := 4) hx hb hts inX1 tyX1 tyX1_ok nmX1 hown hK.1 hP hD hS 0 rfl rfl 0 (by decide) (hts _ wd_218) (fun _ h9 => h9) rfl hin rfl (by decide +kernel) rfl rfl (Nat.le_of_ble_eq_true rfl) dX1_init_12 (fun H locs hP hD hS => ?_)
  have hP : va_P G.1 vwCl [(h, .inr (1, [.ref q1, .int 0, .int 0, .int 0])), (q1, .inr (2, [.ref (a2 0), .ref (a2 1), .ref (a2 2), .ref (a2 3), .ref (a2 4), .ref (a2 5), .int 0, .int 0, .int 0, .int 0, .int (-1 : Int32)])), ((a2 0), .inl (G.2.1, 30, .inl (fun _ => 0))), ((a2 1), .inl (G.2.1, 30, .inl (fun _ => 0))), ((a2 2), .inl (G.2.1, 30, .inl (fun _ => 0))), ((a2 3), .inl (G.2.1, 30, .inl (fun _ => 0))), ((a2 4), .inl (G.2.1, 30, .inl (fun _ => 0))), ((a2 5), .inl (G.2.1, 64, .inl (fun _ => 0)))] H := hP
  have hD : va_D A [(h, .inr (1, [.ref q1, .int 0, .int 0, .int 0])), (q1, .inr (2, [.ref (a2 0), .ref (a2 1), .ref (a2 2), .ref (a2 3), .ref (a2 4), .ref (a2 5), .int 0, .int 0, .int 0, .int 0, .int (-1 : Int32)])), ((a2 0), .inl (G.2.1, 30, .inl (fun _ => 0))), ((a2 1), .inl (G.2.1, 30, .inl (fun _ => 0))), ((a2 2), .inl (G.2.1, 30, .inl (fun _ => 0))), ((a2 3), .inl (G.2.1, 30, .inl (fun _ => 0))), ((a2 4), .inl (G.2.1, 30, .inl (fun _ => 0))), ((a2 5), .inl (G.2.1, 64, .inl (fun _ => 0)))] := hD
  exact i_ret (a := fun k => ([q1, a2 0, a2 1, a2 2, a2 3, a2 4, a2 5] : List Nat).getD k 0) hx hb hr hlocks (Nat.le_refl _) (Nat.le_refl _) hP hD hS dX1_init_15
def mkHi' (G : GT) (h : Nat) (A0 A1 A2 A3 A4 : Nat → Nat) : va_W := cHist G h (A0 0) A1 A2 A3 A4 hi0
def mkHi (G : GT) (h : Nat) (a : Nat → Nat) : va_W := mkHi' G h (fun k => a (5 * k)) (fun k => a (5 * k + 1)) (fun k => a (5 * k + 2)) (fun k => a (5 * k + 3)) (fun k => a (5 * k + 4))
theorem cmb5 (f0 f1 f2 f3 f4 : Nat → Nat) : ∃ a : Nat → Nat, (fun k => a (5 * k)) = f0 ∧ (fun k => a (5 * k + 1)) = f1 ∧ (fun k => a (5 * k + 2)) = f2 ∧ (fun k => a (5 * k + 3)) = f3 ∧ (fun k => a (5 * k + 4)) = f4 := by
  refine ⟨fun j => if j % 5 = 0 then f0 (j / 5) else if j % 5 = 1 then f1 (j / 5) else if j % 5 = 2 then f2 (j / 5) else if j % 5 = 3 then f3 (j / 5) else f4 (j / 5), ?_, ?_, ?_, ?_, ?_⟩
  · funext k
    show (if (5 * k) % 5 = 0 then _ else _) = _
    rw [if_pos (by omega), show 5 * k / 5 = k by omega]
  · funext k
    show (if (5 * k + 1) % 5 = 0 then _ else _) = _
    rw [if_neg (by omega), if_pos (by omega), show (5 * k + 1) / 5 = k by omega]
  · funext k
    show (if (5 * k + 2) % 5 = 0 then _ else _) = _
    rw [if_neg (by omega), if_neg (by omega), if_pos (by omega), show (5 * k + 2) / 5 = k by omega]
  · funext k
    show (if (5 * k + 3) % 5 = 0 then _ else _) = _
    rw [if_neg (by omega), if_neg (by omega), if_neg (by omega), if_pos (by omega), show (5 * k + 3) / 5 = k by omega]
  · funext k
    show (if (5 * k + 4) % 5 = 0 then _ else _) = _
    rw [if_neg (by omega), if_neg (by omega), if_neg (by omega), if_neg (by omega), show (5 * k + 4) / 5 = k by omega]
theorem cmb3 (f0 f1 f2 : Nat → Nat) : ∃ a : Nat → Nat, (fun k => a (3 * k)) = f0 ∧ (fun k => a (3 * k + 1)) = f1 ∧ (fun k => a (3 * k + 2)) = f2 := by
  refine ⟨fun j => if j % 3 = 0 then f0 (j / 3) else if j % 3 = 1 then f1 (j / 3) else f2 (j / 3), ?_, ?_, ?_⟩
  · funext k
    show (if (3 * k) % 3 = 0 then _ else _) = _
    rw [if_pos (by omega), show 3 * k / 3 = k by omega]
  · funext k
    show (if (3 * k + 1) % 3 = 0 then _ else _) = _
    rw [if_neg (by omega), if_pos (by omega), show (3 * k + 1) / 3 = k by omega]
  · funext k
    show (if (3 * k + 2) % 3 = 0 then _ else _) = _
    rw [if_neg (by omega), if_neg (by omega), show (3 * k + 2) / 3 = k by omega]
theorem arrV_same {cA : ClassId} {n : Nat} {f g : Nat → Value} (h : ∀ j, j < n → f j = g j) : arrV cA n f = arrV cA n g := by
  have e : (fun j : Fin n => f j.val) = (fun j : Fin n => g j.val) := funext fun j => h j.val j.isLt
  unfold arrV
  rw [e]
theorem va_P_row {D : va_G} {cl : List vw_C} {ws : va_W} {H : Heap} (hP : va_P D cl ws H) (k : Nat) {q n : Nat} {cA : ClassId} {f : Nat → Option Nat} (hk : ws[k]? = some (q, .inl (cA, n, .inr (.inr (.inr (.inr f)))))) (g : Nat → Option Nat) (hfg : ∀ j, j < n → f j = g j) : va_P D cl (ws.set k (q, .inl (cA, n, .inr (.inr (.inr (.inr g)))))) H := by
  intro i z hz
  by_cases hi : i = k
  · subst hi
    rw [List.getElem?_set_self (List.getElem?_eq_some_iff.mp hk).1] at hz
    cases hz
    have h1 := hP i _ hk
    show H[q]? = some (vp_cell cA (n, .inr (.inr (.inr (.inr g)))))
    have h2 : H[q]? = some (vp_cell cA (n, .inr (.inr (.inr (.inr f))))) := h1
    rw [h2, vp_cell_q, vp_cell_q]
    congr 1
    exact arrV_same (fun j hj => by rw [hfg j hj])
  · rw [List.getElem?_set_ne (Ne.symm hi)] at hz
    exact hP i z hz
theorem hd_X4_init : yX4_init.cls ≠ "java/lang/invoke/MethodHandle" ∧ yX4_init.cls ≠ "java/lang/invoke/VarHandle" ∧ (parseMethodDescriptor yX4_init.desc).map (fun d => d.parameters.length) = some 0 := by decide +kernel
abbrev rm_X4_init : Room := { frames := 4, cells := 77, slots := 2680, locals := 85 }
set_option maxHeartbeats 4000000 in
set_option maxRecDepth 100000 in
theorem c_X4_init (l : Launch) (G : GT) (h : Nat) : CtI l yX4_init (Cond.code yX4_init cX4_init 2 none :: lw_g) rm_X4_init G [.ref h] [(h, .inr (3, [.null, .int 0, .int 0]))] (mkHi G h) := by
  refine CtI.ofW (cc := cX4_init) (maxL := 2) (own := RX4) (by decide) rfl rfl (Nat.le_of_ble_eq_true rfl) rfl ?_
  intro p e s m args below meth c A hx hb hr hml hts hown hlocks hK hP hD hA hS hO hin ls hl
  have hl : lv_has ls 2 [(0, .ref h)] := hl
  generalize hH : s.heap = H at hP ⊢
  have hS : va_S A s.heap H [] := by rw [← hH]; exact hS
  refine lv_aload_n (pc := 0) hx hb dX4_init_0 rfl (lv_at hl 0 rfl) ?_
  refine W.objInit (g := F0 m 1 ls [.ref h]) hx hb hown (hts _ wd_195) (hts _ wd_28) (hts _ wd_29) rfl (by rw [hml]; exact hl.1) rfl dX4_init_1 (Nat.le_of_ble_eq_true rfl) (Nat.le_of_ble_eq_true rfl) ?_
  refine W.eq (g2 := F0 m 4 ls []) rfl ?_
  refine lv_aload_n (pc := 4) hx hb dX4_init_4 rfl (lv_at hl 0 rfl) ?_
  refine lv_iconst (pc := 5) (v := (4 : Int32)) hx hb dX4_init_5 (by decide) ?_
  refine i_newS (pc := 6) (N' := 4) hx hb hown (hts _ wd_196) hO hK hP hD hS hA (by decide) (by decide) (by decide) (Nat.le_of_ble_eq_true rfl) (Nat.le_of_ble_eq_true rfl) dX4_init_6 (fun q1 H hP hD hS => ?_)
  refine W.widen (k := 1) (n := 4) (Nat.le_of_ble_eq_true rfl) (Nat.le_of_ble_eq_true rfl) ?_
  have hP : va_P G.1 vwCl [(h, .inr (3, [.null, .int 0, .int 0])), (q1, .inl (G.2.2.2.2, 4, .inr (.inr (.inr (.inr (fun _ => none))))))] H := hP
  have hD : va_D A [(h, .inr (3, [.null, .int 0, .int 0])), (q1, .inl (G.2.2.2.2, 4, .inr (.inr (.inr (.inr (fun _ => none))))))] := hD
  refine va_putF (pc := 9) (D := G.1) (ci := 3) (v := .ref q1) (ty := .array (.object "InPlaceDelta$State")) (C := RX4) (T := TX4) (N := 3) hx hb hts inX4 tyX4 tyX4_ok nmX4 hown hK.1 hP hD hS 0 rfl rfl 0 (by decide) (hts _ wd_199) (fun _ h9 => h9) rfl hin rfl (by decide +kernel) rfl rfl (Nat.le_of_ble_eq_true rfl) dX4_init_9 (fun H locs hP hD hS => ?_)
  have hP : va_P G.1 vwCl [(h, .inr (3, [.ref q1, .int 0, .int 0])), (q1, .inl (G.2.2.2.2, 4, .inr (.inr (.inr (.inr (fun _ => none))))))] H := hP
  have hD : va_D A [(h, .inr (3, [.ref q1, .int 0, .int 0])), (q1, .inl (G.2.2.2.2, 4, .inr (.inr (.inr (.inr (fun _ => none))))))] := hD
  refine lv_iconst (pc := 12) (v := (0 : Int32)) hx hb dX4_init_12 (by decide) ?_
  refine lv_istore_n (pc := 13) (lv' := [(1, .int (0 : Int32)), (0, .ref h)]) hx hb dX4_init_13 rfl hl (by decide) rfl (fun ls hl => ?_)
  refine lv_iload_n (pc := 14) hx hb dX4_init_14 rfl (lv_at hl 0 rfl) ?_
  refine lv_iconst (pc := 15) (v := (4 : Int32)) hx hb dX4_init_15 (by decide) ?_
  refine lv_icmp_ge (pc := 16) (tgt := 38) hx hb dX4_init_16 (by decide) (fun hc => absurd hc (by decide)) (fun hc => ?_)
  refine lv_aload_n (pc := 19) hx hb dX4_init_19 rfl (lv_at hl 1 rfl) ?_
  refine va_get (pc := 20) (D := G.1) (ci := 3) (v := .ref q1) (C := RX4) (T := TX4) (N := 3) hx hb hts inX4 hown hK.1 hP 0 rfl rfl 0 (by decide) (hts _ wd_199) (fun _ h9 => h9) rfl dX4_init_20 ?_
  refine lv_iload_n (pc := 23) hx hb dX4_init_23 rfl (lv_at hl 0 rfl) ?_
  refine va_new (pc := 24) (ci := 5) (fs := [.null, .null, .null, .null, .null, .null]) (C := RX8) (T := TX8) (N := 6) hx hb hts inX8 tyX8 tyX8_ok hown (hts _ wd_196) (hts _ wd_31) (hts _ wd_2) hK.1 hP hD hS hA rfl (by decide +kernel) (Nat.le_of_ble_eq_true rfl) (Nat.le_of_ble_eq_true rfl) dX4_init_24 (fun q2 H hP hD hS => ?_)
  refine W.widen (k := 2) (n := 10) (Nat.le_of_ble_eq_true rfl) (Nat.le_of_ble_eq_true rfl) ?_
  have hP : va_P G.1 vwCl [(h, .inr (3, [.ref q1, .int 0, .int 0])), (q1, .inl (G.2.2.2.2, 4, .inr (.inr (.inr (.inr (fun _ => none)))))), (q2, .inr (5, [.null, .null, .null, .null, .null, .null]))] H := hP
  have hD : va_D A [(h, .inr (3, [.ref q1, .int 0, .int 0])), (q1, .inl (G.2.2.2.2, 4, .inr (.inr (.inr (.inr (fun _ => none)))))), (q2, .inr (5, [.null, .null, .null, .null, .null, .null]))] := hD
  refine lv_dup (pc := 27) hx hb dX4_init_27 rfl ?_
  refine i_call (pc := 28) (w0 := [(h, .inr (3, [.ref q1, .int 0, .int 0])), (q1, .inl (G.2.2.2.2, 4, .inr (.inr (.inr (.inr (fun _ => none))))))]) (rest := [.ref q2, .int (0 : Int32), .ref q1]) hx hb hml hown hts hK hO (c_X8_init l G q2) wd_34 wd_2 wd_198 wd_33 rfl hd_X8_init ⟨(Nat.le_of_ble_eq_true rfl), (Nat.le_of_ble_eq_true rfl)⟩ hP hD hS hA rfl hl.1 rfl (Nat.le_of_ble_eq_true rfl) dX4_init_28 ⟨(Nat.le_of_ble_eq_true rfl), (Nat.le_of_ble_eq_true rfl)⟩ (fun a3 H locs hP hD hS => ?_)
  refine W.widen (k := 20) (n := 673) (Nat.le_of_ble_eq_true rfl) (Nat.le_of_ble_eq_true rfl) ?_
  have hP : va_P G.1 vwCl ([(h, .inr (3, [.ref q1, .int 0, .int 0])), (q1, .inl (G.2.2.2.2, 4, .inr (.inr (.inr (.inr (fun _ => none))))))] ++ mkSt G q2 a3) H := hP
  have hD : va_D A ([(h, .inr (3, [.ref q1, .int 0, .int 0])), (q1, .inl (G.2.2.2.2, 4, .inr (.inr (.inr (.inr (fun _ => none))))))] ++ mkSt G q2 a3) := hD
  refine va_astq (pc := 31) (r := (RX8, TX8, 6)) hx hb hK.1 hP hD hS 1 3 2 5 rfl rfl rfl rfl (by unfold vp_in; decide) dX4_init_31 (fun H locs hP hD hS => ?_)
  have hP : va_P G.1 vwCl ([(h, .inr (3, [.ref q1, .int 0, .int 0])), (q1, .inl (G.2.2.2.2, 4, .inr (.inr (.inr (.inr (va_up (fun _ => none) (0 : Int32).toNatClampNeg (some q2)))))))] ++ mkSt G q2 a3) H := hP
  have hD : va_D A ([(h, .inr (3, [.ref q1, .int 0, .int 0])), (q1, .inl (G.2.2.2.2, 4, .inr (.inr (.inr (.inr (va_up (fun _ => none) (0 : Int32).toNatClampNeg (some q2)))))))] ++ mkSt G q2 a3) := hD
  refine lv_iinc (pc := 32) (v := (1 : Int32)) (lv' := [(1, .int (1 : Int32)), (0, .ref h)]) hx hb dX4_init_32 hl (k := 0) rfl (by decide) (by decide) rfl (fun ls hl => ?_)
  refine lv_goto (pc := 35) (tgt := 14) hx hb dX4_init_35 (by decide) ?_
  refine lv_iload_n (pc := 14) hx hb dX4_init_14 rfl (lv_at hl 0 rfl) ?_
  refine lv_iconst (pc := 15) (v := (4 : Int32)) hx hb dX4_init_15 (by decide) ?_
  refine lv_icmp_ge (pc := 16) (tgt := 38) hx hb dX4_init_16 (by decide) (fun hc => absurd hc (by decide)) (fun hc => ?_)
  refine lv_aload_n (pc := 19) hx hb dX4_init_19 rfl (lv_at hl 1 rfl) ?_
  refine va_get (pc := 20) (D := G.1) (ci := 3) (v := .ref q1) (C := RX4) (T := TX4) (N := 3) hx hb hts inX4 hown hK.1 hP 0 rfl rfl 0 (by decide) (hts _ wd_199) (fun _ h9 => h9) rfl dX4_init_20 ?_
  refine lv_iload_n (pc := 23) hx hb dX4_init_23 rfl (lv_at hl 0 rfl) ?_
  refine va_new (pc := 24) (ci := 5) (fs := [.null, .null, .null, .null, .null, .null]) (C := RX8) (T := TX8) (N := 6) hx hb hts inX8 tyX8 tyX8_ok hown (hts _ wd_196) (hts _ wd_31) (hts _ wd_2) hK.1 hP hD hS hA rfl (by decide +kernel) (Nat.le_of_ble_eq_true rfl) (Nat.le_of_ble_eq_true rfl) dX4_init_24 (fun q4 H hP hD hS => ?_)
  refine W.widen (k := 21) (n := 679) (Nat.le_of_ble_eq_true rfl) (Nat.le_of_ble_eq_true rfl) ?_
  have hP : va_P G.1 vwCl (([(h, .inr (3, [.ref q1, .int 0, .int 0])), (q1, .inl (G.2.2.2.2, 4, .inr (.inr (.inr (.inr (va_up (fun _ => none) (0 : Int32).toNatClampNeg (some q2)))))))] ++ mkSt G q2 a3) ++ [(q4, .inr (5, [.null, .null, .null, .null, .null, .null]))]) H := hP
  have hD : va_D A (([(h, .inr (3, [.ref q1, .int 0, .int 0])), (q1, .inl (G.2.2.2.2, 4, .inr (.inr (.inr (.inr (va_up (fun _ => none) (0 : Int32).toNatClampNeg (some q2)))))))] ++ mkSt G q2 a3) ++ [(q4, .inr (5, [.null, .null, .null, .null, .null, .null]))]) := hD
  refine lv_dup (pc := 27) hx hb dX4_init_27 rfl ?_
  refine i_call (pc := 28) (w0 := ([(h, .inr (3, [.ref q1, .int 0, .int 0])), (q1, .inl (G.2.2.2.2, 4, .inr (.inr (.inr (.inr (va_up (fun _ => none) (0 : Int32).toNatClampNeg (some q2)))))))] ++ mkSt G q2 a3)) (rest := [.ref q4, .int (1 : Int32), .ref q1]) hx hb hml hown hts hK hO (c_X8_init l G q4) wd_34 wd_2 wd_198 wd_33 rfl hd_X8_init ⟨(Nat.le_of_ble_eq_true rfl), (Nat.le_of_ble_eq_true rfl)⟩ hP hD hS hA rfl hl.1 rfl (Nat.le_of_ble_eq_true rfl) dX4_init_28 ⟨(Nat.le_of_ble_eq_true rfl), (Nat.le_of_ble_eq_true rfl)⟩ (fun a5 H locs hP hD hS => ?_)
  refine W.widen (k := 39) (n := 1342) (Nat.le_of_ble_eq_true rfl) (Nat.le_of_ble_eq_true rfl) ?_
  have hP : va_P G.1 vwCl (([(h, .inr (3, [.ref q1, .int 0, .int 0])), (q1, .inl (G.2.2.2.2, 4, .inr (.inr (.inr (.inr (va_up (fun _ => none) (0 : Int32).toNatClampNeg (some q2)))))))] ++ mkSt G q2 a3) ++ mkSt G q4 a5) H := hP
  have hD : va_D A (([(h, .inr (3, [.ref q1, .int 0, .int 0])), (q1, .inl (G.2.2.2.2, 4, .inr (.inr (.inr (.inr (va_up (fun _ => none) (0 : Int32).toNatClampNeg (some q2)))))))] ++ mkSt G q2 a3) ++ mkSt G q4 a5) := hD
  refine va_astq (pc := 31) (r := (RX8, TX8, 6)) hx hb hK.1 hP hD hS 1 3 21 5 rfl rfl rfl rfl (by unfold vp_in; decide) dX4_init_31 (fun H locs hP hD hS => ?_)
  have hP : va_P G.1 vwCl (([(h, .inr (3, [.ref q1, .int 0, .int 0])), (q1, .inl (G.2.2.2.2, 4, .inr (.inr (.inr (.inr (va_up (va_up (fun _ => none) (0 : Int32).toNatClampNeg (some q2)) (1 : Int32).toNatClampNeg (some q4)))))))] ++ mkSt G q2 a3) ++ mkSt G q4 a5) H := hP
  have hD : va_D A (([(h, .inr (3, [.ref q1, .int 0, .int 0])), (q1, .inl (G.2.2.2.2, 4, .inr (.inr (.inr (.inr (va_up (va_up (fun _ => none) (0 : Int32).toNatClampNeg (some q2)) (1 : Int32).toNatClampNeg (some q4)))))))] ++ mkSt G q2 a3) ++ mkSt G q4 a5) := hD
  refine lv_iinc (pc := 32) (v := (2 : Int32)) (lv' := [(1, .int (2 : Int32)), (0, .ref h)]) hx hb dX4_init_32 hl (k := 0) rfl (by decide) (by decide) rfl (fun ls hl => ?_)
  refine lv_goto (pc := 35) (tgt := 14) hx hb dX4_init_35 (by decide) ?_
  refine lv_iload_n (pc := 14) hx hb dX4_init_14 rfl (lv_at hl 0 rfl) ?_
  refine lv_iconst (pc := 15) (v := (4 : Int32)) hx hb dX4_init_15 (by decide) ?_
  refine lv_icmp_ge (pc := 16) (tgt := 38) hx hb dX4_init_16 (by decide) (fun hc => absurd hc (by decide)) (fun hc => ?_)
  refine lv_aload_n (pc := 19) hx hb dX4_init_19 rfl (lv_at hl 1 rfl) ?_
  refine va_get (pc := 20) (D := G.1) (ci := 3) (v := .ref q1) (C := RX4) (T := TX4) (N := 3) hx hb hts inX4 hown hK.1 hP 0 rfl rfl 0 (by decide) (hts _ wd_199) (fun _ h9 => h9) rfl dX4_init_20 ?_
  refine lv_iload_n (pc := 23) hx hb dX4_init_23 rfl (lv_at hl 0 rfl) ?_
  refine va_new (pc := 24) (ci := 5) (fs := [.null, .null, .null, .null, .null, .null]) (C := RX8) (T := TX8) (N := 6) hx hb hts inX8 tyX8 tyX8_ok hown (hts _ wd_196) (hts _ wd_31) (hts _ wd_2) hK.1 hP hD hS hA rfl (by decide +kernel) (Nat.le_of_ble_eq_true rfl) (Nat.le_of_ble_eq_true rfl) dX4_init_24 (fun q6 H hP hD hS => ?_)
  refine W.widen (k := 40) (n := 1348) (Nat.le_of_ble_eq_true rfl) (Nat.le_of_ble_eq_true rfl) ?_
  have hP : va_P G.1 vwCl ((([(h, .inr (3, [.ref q1, .int 0, .int 0])), (q1, .inl (G.2.2.2.2, 4, .inr (.inr (.inr (.inr (va_up (va_up (fun _ => none) (0 : Int32).toNatClampNeg (some q2)) (1 : Int32).toNatClampNeg (some q4)))))))] ++ mkSt G q2 a3) ++ mkSt G q4 a5) ++ [(q6, .inr (5, [.null, .null, .null, .null, .null, .null]))]) H := hP
  have hD : va_D A ((([(h, .inr (3, [.ref q1, .int 0, .int 0])), (q1, .inl (G.2.2.2.2, 4, .inr (.inr (.inr (.inr (va_up (va_up (fun _ => none) (0 : Int32).toNatClampNeg (some q2)) (1 : Int32).toNatClampNeg (some q4)))))))] ++ mkSt G q2 a3) ++ mkSt G q4 a5) ++ [(q6, .inr (5, [.null, .null, .null, .null, .null, .null]))]) := hD
  refine lv_dup (pc := 27) hx hb dX4_init_27 rfl ?_
  refine i_call (pc := 28) (w0 := (([(h, .inr (3, [.ref q1, .int 0, .int 0])), (q1, .inl (G.2.2.2.2, 4, .inr (.inr (.inr (.inr (va_up (va_up (fun _ => none) (0 : Int32).toNatClampNeg (some q2)) (1 : Int32).toNatClampNeg (some q4)))))))] ++ mkSt G q2 a3) ++ mkSt G q4 a5)) (rest := [.ref q6, .int (2 : Int32), .ref q1]) hx hb hml hown hts hK hO (c_X8_init l G q6) wd_34 wd_2 wd_198 wd_33 rfl hd_X8_init ⟨(Nat.le_of_ble_eq_true rfl), (Nat.le_of_ble_eq_true rfl)⟩ hP hD hS hA rfl hl.1 rfl (Nat.le_of_ble_eq_true rfl) dX4_init_28 ⟨(Nat.le_of_ble_eq_true rfl), (Nat.le_of_ble_eq_true rfl)⟩ (fun a7 H locs hP hD hS => ?_)
  refine W.widen (k := 58) (n := 2011) (Nat.le_of_ble_eq_true rfl) (Nat.le_of_ble_eq_true rfl) ?_
  have hP : va_P G.1 vwCl ((([(h, .inr (3, [.ref q1, .int 0, .int 0])), (q1, .inl (G.2.2.2.2, 4, .inr (.inr (.inr (.inr (va_up (va_up (fun _ => none) (0 : Int32).toNatClampNeg (some q2)) (1 : Int32).toNatClampNeg (some q4)))))))] ++ mkSt G q2 a3) ++ mkSt G q4 a5) ++ mkSt G q6 a7) H := hP
  have hD : va_D A ((([(h, .inr (3, [.ref q1, .int 0, .int 0])), (q1, .inl (G.2.2.2.2, 4, .inr (.inr (.inr (.inr (va_up (va_up (fun _ => none) (0 : Int32).toNatClampNeg (some q2)) (1 : Int32).toNatClampNeg (some q4)))))))] ++ mkSt G q2 a3) ++ mkSt G q4 a5) ++ mkSt G q6 a7) := hD
  refine va_astq (pc := 31) (r := (RX8, TX8, 6)) hx hb hK.1 hP hD hS 1 3 40 5 rfl rfl rfl rfl (by unfold vp_in; decide) dX4_init_31 (fun H locs hP hD hS => ?_)
  have hP : va_P G.1 vwCl ((([(h, .inr (3, [.ref q1, .int 0, .int 0])), (q1, .inl (G.2.2.2.2, 4, .inr (.inr (.inr (.inr (va_up (va_up (va_up (fun _ => none) (0 : Int32).toNatClampNeg (some q2)) (1 : Int32).toNatClampNeg (some q4)) (2 : Int32).toNatClampNeg (some q6)))))))] ++ mkSt G q2 a3) ++ mkSt G q4 a5) ++ mkSt G q6 a7) H := hP
  have hD : va_D A ((([(h, .inr (3, [.ref q1, .int 0, .int 0])), (q1, .inl (G.2.2.2.2, 4, .inr (.inr (.inr (.inr (va_up (va_up (va_up (fun _ => none) (0 : Int32).toNatClampNeg (some q2)) (1 : Int32).toNatClampNeg (some q4)) (2 : Int32).toNatClampNeg (some q6)))))))] ++ mkSt G q2 a3) ++ mkSt G q4 a5) ++ mkSt G q6 a7) := hD
  refine lv_iinc (pc := 32) (v := (3 : Int32)) (lv' := [(1, .int (3 : Int32)), (0, .ref h)]) hx hb dX4_init_32 hl (k := 0) rfl (by decide) (by decide) rfl (fun ls hl => ?_)
  refine lv_goto (pc := 35) (tgt := 14) hx hb dX4_init_35 (by decide) ?_
  refine lv_iload_n (pc := 14) hx hb dX4_init_14 rfl (lv_at hl 0 rfl) ?_
  refine lv_iconst (pc := 15) (v := (4 : Int32)) hx hb dX4_init_15 (by decide) ?_
  refine lv_icmp_ge (pc := 16) (tgt := 38) hx hb dX4_init_16 (by decide) (fun hc => absurd hc (by decide)) (fun hc => ?_)
  refine lv_aload_n (pc := 19) hx hb dX4_init_19 rfl (lv_at hl 1 rfl) ?_
  refine va_get (pc := 20) (D := G.1) (ci := 3) (v := .ref q1) (C := RX4) (T := TX4) (N := 3) hx hb hts inX4 hown hK.1 hP 0 rfl rfl 0 (by decide) (hts _ wd_199) (fun _ h9 => h9) rfl dX4_init_20 ?_
  refine lv_iload_n (pc := 23) hx hb dX4_init_23 rfl (lv_at hl 0 rfl) ?_
  refine va_new (pc := 24) (ci := 5) (fs := [.null, .null, .null, .null, .null, .null]) (C := RX8) (T := TX8) (N := 6) hx hb hts inX8 tyX8 tyX8_ok hown (hts _ wd_196) (hts _ wd_31) (hts _ wd_2) hK.1 hP hD hS hA rfl (by decide +kernel) (Nat.le_of_ble_eq_true rfl) (Nat.le_of_ble_eq_true rfl) dX4_init_24 (fun q8 H hP hD hS => ?_)
  refine W.widen (k := 59) (n := 2017) (Nat.le_of_ble_eq_true rfl) (Nat.le_of_ble_eq_true rfl) ?_
  have hP : va_P G.1 vwCl (((([(h, .inr (3, [.ref q1, .int 0, .int 0])), (q1, .inl (G.2.2.2.2, 4, .inr (.inr (.inr (.inr (va_up (va_up (va_up (fun _ => none) (0 : Int32).toNatClampNeg (some q2)) (1 : Int32).toNatClampNeg (some q4)) (2 : Int32).toNatClampNeg (some q6)))))))] ++ mkSt G q2 a3) ++ mkSt G q4 a5) ++ mkSt G q6 a7) ++ [(q8, .inr (5, [.null, .null, .null, .null, .null, .null]))]) H := hP
  have hD : va_D A (((([(h, .inr (3, [.ref q1, .int 0, .int 0])), (q1, .inl (G.2.2.2.2, 4, .inr (.inr (.inr (.inr (va_up (va_up (va_up (fun _ => none) (0 : Int32).toNatClampNeg (some q2)) (1 : Int32).toNatClampNeg (some q4)) (2 : Int32).toNatClampNeg (some q6)))))))] ++ mkSt G q2 a3) ++ mkSt G q4 a5) ++ mkSt G q6 a7) ++ [(q8, .inr (5, [.null, .null, .null, .null, .null, .null]))]) := hD
  refine lv_dup (pc := 27) hx hb dX4_init_27 rfl ?_
  refine i_call (pc := 28) (w0 := ((([(h, .inr (3, [.ref q1, .int 0, .int 0])), (q1, .inl (G.2.2.2.2, 4, .inr (.inr (.inr (.inr (va_up (va_up (va_up (fun _ => none) (0 : Int32).toNatClampNeg (some q2)) (1 : Int32).toNatClampNeg (some q4)) (2 : Int32).toNatClampNeg (some q6)))))))] ++ mkSt G q2 a3) ++ mkSt G q4 a5) ++ mkSt G q6 a7)) (rest := [.ref q8, .int (3 : Int32), .ref q1]) hx hb hml hown hts hK hO (c_X8_init l G q8) wd_34 wd_2 wd_198 wd_33 rfl hd_X8_init ⟨(Nat.le_of_ble_eq_true rfl), (Nat.le_of_ble_eq_true rfl)⟩ hP hD hS hA rfl hl.1 rfl (Nat.le_of_ble_eq_true rfl) dX4_init_28 ⟨(Nat.le_of_ble_eq_true rfl), (Nat.le_of_ble_eq_true rfl)⟩ (fun a9 H locs hP hD hS => ?_)
  refine W.widen (k := 77) (n := 2680) (Nat.le_of_ble_eq_true rfl) (Nat.le_of_ble_eq_true rfl) ?_
  have hP : va_P G.1 vwCl (((([(h, .inr (3, [.ref q1, .int 0, .int 0])), (q1, .inl (G.2.2.2.2, 4, .inr (.inr (.inr (.inr (va_up (va_up (va_up (fun _ => none) (0 : Int32).toNatClampNeg (some q2)) (1 : Int32).toNatClampNeg (some q4)) (2 : Int32).toNatClampNeg (some q6)))))))] ++ mkSt G q2 a3) ++ mkSt G q4 a5) ++ mkSt G q6 a7) ++ mkSt G q8 a9) H := hP
  have hD : va_D A (((([(h, .inr (3, [.ref q1, .int 0, .int 0])), (q1, .inl (G.2.2.2.2, 4, .inr (.inr (.inr (.inr (va_up (va_up (va_up (fun _ => none) (0 : Int32).toNatClampNeg (some q2)) (1 : Int32).toNatClampNeg (some q4)) (2 : Int32).toNatClampNeg (some q6)))))))] ++ mkSt G q2 a3) ++ mkSt G q4 a5) ++ mkSt G q6 a7) ++ mkSt G q8 a9) := hD
  refine va_astq (pc := 31) (r := (RX8, TX8, 6)) hx hb hK.1 hP hD hS 1 3 59 5 rfl rfl rfl rfl (by unfold vp_in; decide) dX4_init_31 (fun H locs hP hD hS => ?_)
  have hP : va_P G.1 vwCl (((([(h, .inr (3, [.ref q1, .int 0, .int 0])), (q1, .inl (G.2.2.2.2, 4, .inr (.inr (.inr (.inr (va_up (va_up (va_up (va_up (fun _ => none) (0 : Int32).toNatClampNeg (some q2)) (1 : Int32).toNatClampNeg (some q4)) (2 : Int32).toNatClampNeg (some q6)) (3 : Int32).toNatClampNeg (some q8)))))))] ++ mkSt G q2 a3) ++ mkSt G q4 a5) ++ mkSt G q6 a7) ++ mkSt G q8 a9) H := hP
  have hD : va_D A (((([(h, .inr (3, [.ref q1, .int 0, .int 0])), (q1, .inl (G.2.2.2.2, 4, .inr (.inr (.inr (.inr (va_up (va_up (va_up (va_up (fun _ => none) (0 : Int32).toNatClampNeg (some q2)) (1 : Int32).toNatClampNeg (some q4)) (2 : Int32).toNatClampNeg (some q6)) (3 : Int32).toNatClampNeg (some q8)))))))] ++ mkSt G q2 a3) ++ mkSt G q4 a5) ++ mkSt G q6 a7) ++ mkSt G q8 a9) := hD
  refine lv_iinc (pc := 32) (v := (4 : Int32)) (lv' := [(1, .int (4 : Int32)), (0, .ref h)]) hx hb dX4_init_32 hl (k := 0) rfl (by decide) (by decide) rfl (fun ls hl => ?_)
  refine lv_goto (pc := 35) (tgt := 14) hx hb dX4_init_35 (by decide) ?_
  refine lv_iload_n (pc := 14) hx hb dX4_init_14 rfl (lv_at hl 0 rfl) ?_
  refine lv_iconst (pc := 15) (v := (4 : Int32)) hx hb dX4_init_15 (by decide) ?_
  refine lv_icmp_ge (pc := 16) (tgt := 38) hx hb dX4_init_16 (by decide) (fun hc => ?_) (fun hc => absurd (by decide) hc)
  obtain ⟨a, e0, e1, e2, e3, e4⟩ := cmb5 (fun _ => q1) (sh q2 a3) (sh q4 a5) (sh q6 a7) (sh q8 a9)
  have hP := va_P_row hP 1 rfl (sv4 q2 q4 q6 q8) (fun j hj => by match j, hj with | 0, _ => rfl | 1, _ => rfl | 2, _ => rfl | 3, _ => rfl)
  have hP : va_P G.1 vwCl (((([(h, .inr (3, [.ref q1, .int 0, .int 0])), (q1, .inl (G.2.2.2.2, 4, .inr (.inr (.inr (.inr (sv4 q2 q4 q6 q8))))))] ++ mkSt G q2 a3) ++ mkSt G q4 a5) ++ mkSt G q6 a7) ++ mkSt G q8 a9) H := hP
  have hD : va_D A (((([(h, .inr (3, [.ref q1, .int 0, .int 0])), (q1, .inl (G.2.2.2.2, 4, .inr (.inr (.inr (.inr (sv4 q2 q4 q6 q8))))))] ++ mkSt G q2 a3) ++ mkSt G q4 a5) ++ mkSt G q6 a7) ++ mkSt G q8 a9) := vaD_cong hD rfl
  simp only [List.append_assoc] at hP hD
  refine i_ret (a := a) hx hb hr hlocks (Nat.le_refl _) (Nat.le_refl _) ?_ ?_ hS dX4_init_38
  · show va_P G.1 vwCl (mkHi' G h _ _ _ _ _) H
    rw [e0, e1, e2, e3, e4]
    exact hP
  · show va_D A (mkHi' G h _ _ _ _ _)
    rw [e0, e1, e2, e3, e4]
    exact hD
def mkMa' (G : GT) (h : Nat) (A0 A1 A2 : Nat → Nat) : va_W := [(h, .inr (7, [.ref (A0 0), .ref (A1 0), .ref (A2 0)]))] ++ (cSt G A0 st0 ++ (mkHi G (A1 0) (fun k => A1 (k + 1)) ++ mkDc G (A2 0) (fun k => A2 (k + 1))))
def mkMa (G : GT) (h : Nat) (a : Nat → Nat) : va_W := mkMa' G h (fun k => a (3 * k)) (fun k => a (3 * k + 1)) (fun k => a (3 * k + 2))
theorem hd_X10_init : yX10_init.cls ≠ "java/lang/invoke/MethodHandle" ∧ yX10_init.cls ≠ "java/lang/invoke/VarHandle" ∧ (parseMethodDescriptor yX10_init.desc).map (fun d => d.parameters.length) = some 0 := by decide +kernel
abbrev rm_X10_init : Room := { frames := 5, cells := 105, slots := 3581, locals := 106 }
set_option maxHeartbeats 4000000 in
set_option maxRecDepth 100000 in
theorem c_X10_init (l : Launch) (G : GT) (h : Nat) : CtI l yX10_init (Cond.code yX10_init cX10_init 1 none :: lw_g) rm_X10_init G [.ref h] [(h, .inr (7, [.null, .null, .null]))] (mkMa G h) := by
  refine CtI.ofW (cc := cX10_init) (maxL := 1) (own := RX10) (by decide) rfl rfl (Nat.le_of_ble_eq_true rfl) rfl ?_
  intro p e s m args below meth c A hx hb hr hml hts hown hlocks hK hP hD hA hS hO hin ls hl
  have hl : lv_has ls 1 [(0, .ref h)] := hl
  generalize hH : s.heap = H at hP ⊢
  have hS : va_S A s.heap H [] := by rw [← hH]; exact hS
  refine lv_aload_n (pc := 0) hx hb dX10_init_0 rfl (lv_at hl 0 rfl) ?_
  refine W.objInit (g := F0 m 1 ls [.ref h]) hx hb hown (hts _ wd_27) (hts _ wd_28) (hts _ wd_29) rfl (by rw [hml]; exact hl.1) rfl dX10_init_1 (Nat.le_of_ble_eq_true rfl) (Nat.le_of_ble_eq_true rfl) ?_
  refine W.eq (g2 := F0 m 4 ls []) rfl ?_
  refine lv_aload_n (pc := 4) hx hb dX10_init_4 rfl (lv_at hl 0 rfl) ?_
  refine va_new (pc := 5) (ci := 5) (fs := [.null, .null, .null, .null, .null, .null]) (C := RX8) (T := TX8) (N := 6) hx hb hts inX8 tyX8 tyX8_ok hown (hts _ wd_30) (hts _ wd_31) (hts _ wd_2) hK.1 hP hD hS hA rfl (by decide +kernel) (Nat.le_of_ble_eq_true rfl) (Nat.le_of_ble_eq_true rfl) dX10_init_5 (fun q1 H hP hD hS => ?_)
  refine W.widen (k := 1) (n := 6) (Nat.le_of_ble_eq_true rfl) (Nat.le_of_ble_eq_true rfl) ?_
  have hP : va_P G.1 vwCl [(h, .inr (7, [.null, .null, .null])), (q1, .inr (5, [.null, .null, .null, .null, .null, .null]))] H := hP
  have hD : va_D A [(h, .inr (7, [.null, .null, .null])), (q1, .inr (5, [.null, .null, .null, .null, .null, .null]))] := hD
  refine lv_dup (pc := 8) hx hb dX10_init_8 rfl ?_
  refine i_call (pc := 9) (w0 := [(h, .inr (7, [.null, .null, .null]))]) (rest := [.ref q1, .ref h]) hx hb hml hown hts hK hO (c_X8_init l G q1) wd_34 wd_2 wd_32 wd_33 rfl hd_X8_init ⟨(Nat.le_of_ble_eq_true rfl), (Nat.le_of_ble_eq_true rfl)⟩ hP hD hS hA rfl hl.1 rfl (Nat.le_of_ble_eq_true rfl) dX10_init_9 ⟨(Nat.le_of_ble_eq_true rfl), (Nat.le_of_ble_eq_true rfl)⟩ (fun a2 H locs hP hD hS => ?_)
  refine W.widen (k := 19) (n := 669) (Nat.le_of_ble_eq_true rfl) (Nat.le_of_ble_eq_true rfl) ?_
  have hP : va_P G.1 vwCl ([(h, .inr (7, [.null, .null, .null]))] ++ mkSt G q1 a2) H := hP
  have hD : va_D A ([(h, .inr (7, [.null, .null, .null]))] ++ mkSt G q1 a2) := hD
  refine va_putF (pc := 12) (D := G.1) (ci := 7) (v := .ref q1) (ty := .object "InPlaceDelta$State") (C := RX10) (T := TX10) (N := 3) hx hb hts inX10 tyX10 tyX10_ok nmX10 hown hK.1 hP hD hS 0 rfl rfl 0 (by decide) (hts _ wd_232) (fun _ h9 => h9) rfl hin rfl (by decide +kernel) rfl rfl (Nat.le_of_ble_eq_true rfl) dX10_init_12 (fun H locs hP hD hS => ?_)
  have hP : va_P G.1 vwCl ([(h, .inr (7, [.ref q1, .null, .null]))] ++ mkSt G q1 a2) H := hP
  have hD : va_D A ([(h, .inr (7, [.ref q1, .null, .null]))] ++ mkSt G q1 a2) := hD
  refine lv_aload_n (pc := 15) hx hb dX10_init_15 rfl (lv_at hl 0 rfl) ?_
  refine va_new (pc := 16) (ci := 3) (fs := [.null, .int 0, .int 0]) (C := RX4) (T := TX4) (N := 3) hx hb hts inX4 tyX4 tyX4_ok hown (hts _ wd_190) (hts _ wd_191) (hts _ wd_8) hK.1 hP hD hS hA rfl (by decide +kernel) (Nat.le_of_ble_eq_true rfl) (Nat.le_of_ble_eq_true rfl) dX10_init_16 (fun q3 H hP hD hS => ?_)
  refine W.widen (k := 20) (n := 672) (Nat.le_of_ble_eq_true rfl) (Nat.le_of_ble_eq_true rfl) ?_
  have hP : va_P G.1 vwCl (([(h, .inr (7, [.ref q1, .null, .null]))] ++ mkSt G q1 a2) ++ [(q3, .inr (3, [.null, .int 0, .int 0]))]) H := hP
  have hD : va_D A (([(h, .inr (7, [.ref q1, .null, .null]))] ++ mkSt G q1 a2) ++ [(q3, .inr (3, [.null, .int 0, .int 0]))]) := hD
  refine lv_dup (pc := 19) hx hb dX10_init_19 rfl ?_
  refine i_call (pc := 20) (w0 := ([(h, .inr (7, [.ref q1, .null, .null]))] ++ mkSt G q1 a2)) (rest := [.ref q3, .ref h]) hx hb hml hown hts hK hO (c_X4_init l G q3) wd_194 wd_8 wd_192 wd_193 rfl hd_X4_init ⟨(Nat.le_of_ble_eq_true rfl), (Nat.le_of_ble_eq_true rfl)⟩ hP hD hS hA rfl hl.1 rfl (Nat.le_of_ble_eq_true rfl) dX10_init_20 ⟨(Nat.le_of_ble_eq_true rfl), (Nat.le_of_ble_eq_true rfl)⟩ (fun a4 H locs hP hD hS => ?_)
  refine W.widen (k := 97) (n := 3352) (Nat.le_of_ble_eq_true rfl) (Nat.le_of_ble_eq_true rfl) ?_
  have hP : va_P G.1 vwCl (([(h, .inr (7, [.ref q1, .null, .null]))] ++ mkSt G q1 a2) ++ mkHi G q3 a4) H := hP
  have hD : va_D A (([(h, .inr (7, [.ref q1, .null, .null]))] ++ mkSt G q1 a2) ++ mkHi G q3 a4) := hD
  refine va_putF (pc := 23) (D := G.1) (ci := 7) (v := .ref q3) (ty := .object "InPlaceDelta$History") (C := RX10) (T := TX10) (N := 3) hx hb hts inX10 tyX10 tyX10_ok nmX10 hown hK.1 hP hD hS 0 rfl rfl 1 (by decide) (hts _ wd_233) (fun _ h9 => h9) rfl hin rfl (by decide +kernel) rfl rfl (Nat.le_of_ble_eq_true rfl) dX10_init_23 (fun H locs hP hD hS => ?_)
  have hP : va_P G.1 vwCl (([(h, .inr (7, [.ref q1, .ref q3, .null]))] ++ mkSt G q1 a2) ++ mkHi G q3 a4) H := hP
  have hD : va_D A (([(h, .inr (7, [.ref q1, .ref q3, .null]))] ++ mkSt G q1 a2) ++ mkHi G q3 a4) := hD
  refine lv_aload_n (pc := 26) hx hb dX10_init_26 rfl (lv_at hl 0 rfl) ?_
  refine va_new (pc := 27) (ci := 1) (fs := [.null, .int 0, .int 0, .int 0]) (C := RX1) (T := TX1) (N := 4) hx hb hts inX1 tyX1 tyX1_ok hown (hts _ wd_210) (hts _ wd_211) (hts _ wd_9) hK.1 hP hD hS hA rfl (by decide +kernel) (Nat.le_of_ble_eq_true rfl) (Nat.le_of_ble_eq_true rfl) dX10_init_27 (fun q5 H hP hD hS => ?_)
  refine W.widen (k := 98) (n := 3356) (Nat.le_of_ble_eq_true rfl) (Nat.le_of_ble_eq_true rfl) ?_
  have hP : va_P G.1 vwCl ((([(h, .inr (7, [.ref q1, .ref q3, .null]))] ++ mkSt G q1 a2) ++ mkHi G q3 a4) ++ [(q5, .inr (1, [.null, .int 0, .int 0, .int 0]))]) H := hP
  have hD : va_D A ((([(h, .inr (7, [.ref q1, .ref q3, .null]))] ++ mkSt G q1 a2) ++ mkHi G q3 a4) ++ [(q5, .inr (1, [.null, .int 0, .int 0, .int 0]))]) := hD
  refine lv_dup (pc := 30) hx hb dX10_init_30 rfl ?_
  refine i_call (pc := 31) (w0 := (([(h, .inr (7, [.ref q1, .ref q3, .null]))] ++ mkSt G q1 a2) ++ mkHi G q3 a4)) (rest := [.ref q5, .ref h]) hx hb hml hown hts hK hO (c_X1_init l G q5) wd_214 wd_9 wd_212 wd_213 rfl hd_X1_init ⟨(Nat.le_of_ble_eq_true rfl), (Nat.le_of_ble_eq_true rfl)⟩ hP hD hS hA rfl hl.1 rfl (Nat.le_of_ble_eq_true rfl) dX10_init_31 ⟨(Nat.le_of_ble_eq_true rfl), (Nat.le_of_ble_eq_true rfl)⟩ (fun a6 H locs hP hD hS => ?_)
  refine W.widen (k := 105) (n := 3581) (Nat.le_of_ble_eq_true rfl) (Nat.le_of_ble_eq_true rfl) ?_
  have hP : va_P G.1 vwCl ((([(h, .inr (7, [.ref q1, .ref q3, .null]))] ++ mkSt G q1 a2) ++ mkHi G q3 a4) ++ mkDc G q5 a6) H := hP
  have hD : va_D A ((([(h, .inr (7, [.ref q1, .ref q3, .null]))] ++ mkSt G q1 a2) ++ mkHi G q3 a4) ++ mkDc G q5 a6) := hD
  refine va_putF (pc := 34) (D := G.1) (ci := 7) (v := .ref q5) (ty := .object "InPlaceDelta$Decoder") (C := RX10) (T := TX10) (N := 3) hx hb hts inX10 tyX10 tyX10_ok nmX10 hown hK.1 hP hD hS 0 rfl rfl 2 (by decide) (hts _ wd_234) (fun _ h9 => h9) rfl hin rfl (by decide +kernel) rfl rfl (Nat.le_of_ble_eq_true rfl) dX10_init_34 (fun H locs hP hD hS => ?_)
  have hP : va_P G.1 vwCl ((([(h, .inr (7, [.ref q1, .ref q3, .ref q5]))] ++ mkSt G q1 a2) ++ mkHi G q3 a4) ++ mkDc G q5 a6) H := hP
  have hD : va_D A ((([(h, .inr (7, [.ref q1, .ref q3, .ref q5]))] ++ mkSt G q1 a2) ++ mkHi G q3 a4) ++ mkDc G q5 a6) := hD
  obtain ⟨a, e0, e1, e2⟩ := cmb3 (sh q1 a2) (sh q3 a4) (sh q5 a6)
  simp only [List.append_assoc] at hP hD
  refine i_ret (a := a) hx hb hr hlocks (Nat.le_refl _) (Nat.le_refl _) ?_ ?_ hS dX10_init_37
  · show va_P G.1 vwCl (mkMa' G h _ _ _) H
    rw [e0, e1, e2]
    exact hP
  · show va_D A (mkMa' G h _ _ _)
    rw [e0, e1, e2]
    exact hD
