theorem hd_X10_compare : yX10_compare.cls ≠ "java/lang/invoke/MethodHandle" ∧ yX10_compare.cls ≠ "java/lang/invoke/VarHandle" ∧ (parseMethodDescriptor yX10_compare.desc).map (fun d => d.parameters.length) = some 0 := by decide +kernel
abbrev rm_X10_compare : Room := { frames := 7, cells := 1, slots := 6, locals := 112 }
noncomputable def f_X10_compare (now : TState) : Option (String ⊕ Int32) :=
  (f_X10_requireWork now).bind (fun x1 => rx x1 ((f_X0_common 64 now.2.2.2.2.2.1 64 now.2.1 (0 : Int32) (0 : Int32)).bind (fun x2 => br (x2 = now.2.2.2.2.2.1.2) (br (x2 = now.2.1.2) (some (.inr (-1 : Int32))) (some (.inr x2))) (some (.inr x2)))))
set_option maxHeartbeats 4000000 in
set_option maxRecDepth 100000 in
theorem c_X10_compare (l : Launch) (hl0 : l.stackTraces = false) (G : GT) (hx_0 hhist_0 hdec_0 : Nat) (anow : Nat → Nat) (now : TState) {r : String ⊕ Int32} (hf : f_X10_compare now = some r) : CtP l yX10_compare (Cond.code yX10_compare cX10_compare 4 (some .int) :: lw_g) rm_X10_compare G [.ref hx_0] (List.flatten [[(hx_0, .inr (7, [.ref (anow 0), .ref hhist_0, .ref hdec_0]))], [((anow 0), .inr (5, [.ref (anow 1), .ref (anow 3), .ref (anow 5), .ref (anow 12), .ref (anow 14), .ref (anow 16)]))], cBy G (anow 1) (anow 2) 64 now.1, cBy G (anow 3) (anow 4) 64 now.2.1, cDe G (anow 5) (anow 6) (anow 7) (anow 8) (anow 9) (anow 10) (anow 11) now.2.2.1, cPl G (anow 12) (anow 13) now.2.2.2.1, cBy G (anow 14) (anow 15) 200 now.2.2.2.2.1, [((anow 16), .inr (6, [.ref (anow 17), .int now.2.2.2.2.2.2.1, .int now.2.2.2.2.2.2.2]))], cBy G (anow 17) (anow 18) 64 now.2.2.2.2.2.1]) (pR (fun (r : Int32) => (some (.int r))) (fun (r : Int32) => (List.flatten [[(hx_0, .inr (7, [.ref (anow 0), .ref hhist_0, .ref hdec_0]))], [((anow 0), .inr (5, [.ref (anow 1), .ref (anow 3), .ref (anow 5), .ref (anow 12), .ref (anow 14), .ref (anow 16)]))], cBy G (anow 1) (anow 2) 64 now.1, cBy G (anow 3) (anow 4) 64 now.2.1, cDe G (anow 5) (anow 6) (anow 7) (anow 8) (anow 9) (anow 10) (anow 11) now.2.2.1, cPl G (anow 12) (anow 13) now.2.2.2.1, cBy G (anow 14) (anow 15) 200 now.2.2.2.2.1, [((anow 16), .inr (6, [.ref (anow 17), .int now.2.2.2.2.2.2.1, .int now.2.2.2.2.2.2.2]))], cBy G (anow 17) (anow 18) 64 now.2.2.2.2.2.1])) r) := by
  refine CtP.ofW (cc := cX10_compare) (maxL := 4) (ret := (some .int)) (own := RX10) (by decide) rfl rfl (Nat.le_of_ble_eq_true rfl) ?_
  intro p e s m args below meth c A hx hb hr hml hts hown hlocks hK hP hD hA hS hno hZ ls hl
  have hl : lv_has ls 4 [(0, .ref hx_0)] := hl
  generalize hX : pR _ _ r = X
  generalize hQ : xMQ below G _ A X args s _ _ = Q
  generalize hH : s.heap = H at hP ⊢
  have hS : va_S A s.heap H [] := by rw [← hH]; exact hS
  generalize ([] : List Loc) = locs at hS ⊢
  unfold f_X10_compare at hf
  refine lv_aload_n (pc := 0) hx hb dX10_compare_0 rfl (lv_at hl 0 rfl) ?_
  obtain ⟨x1, hcx1, hf⟩ := bn_some hf
  rw [← hQ]
  refine x_callV (x1 := x1) (rest := []) hx hb hml hown hts hK hZ (c_X10_requireWork l hl0 G hx_0 hhist_0 hdec_0 anow now hcx1) wd_829 wd_1 wd_826 wd_828 ws_11 hd_X10_requireWork ⟨(Nat.le_of_ble_eq_true rfl), (Nat.le_of_ble_eq_true rfl)⟩ hP hD hS hA [0, 1, 2, 3, 4, 5, 6, 7, 8, 9, 10, 11, 12, 13, 14, 15, 16, 17, 18, 19] rfl rfl hno hlocks (fun E e9 => by rw [← hX, rx_E hf E e9]; rfl) (Nat.le_of_ble_eq_true rfl) (Nat.le_of_ble_eq_true rfl) 7 0 rfl rfl rfl rfl hl.1 rfl (Nat.le_of_ble_eq_true rfl) dX10_compare_1 ⟨(Nat.le_of_ble_eq_true rfl), (Nat.le_of_ble_eq_true rfl)⟩ (fun e9 H locs hP hS => ?_)
  have hf := rx_n hf e9
  refine W.widen (k := 1) (n := 6) (Nat.le_of_ble_eq_true rfl) (Nat.le_of_ble_eq_true rfl) ?_
  rw [hQ]
  refine lv_aload_n (pc := 4) hx hb dX10_compare_4 rfl (lv_at hl 0 rfl) ?_
  refine va_get (pc := 5) (D := G.1) (ci := 7) (v := .ref (anow 0)) (C := RX10) (T := TX10) (N := 3) hx hb hts inX10 hown hK.1 hP 0 rfl rfl 0 (by decide) (hts _ wd_232) (fun _ h9 => h9) rfl dX10_compare_5 ?_
  refine va_getN (pc := 8) (D := G.1) (ci := 5) (v := .ref (anow 16)) (C := RX8) (T := TX8) (N := 6) hx hb hts inX8 hown hK.1 hP 1 rfl rfl 5 (by decide) (nfw_176 hK) (fun _ h9 => h9) rfl dX10_compare_8 ?_
  refine va_getN (pc := 11) (D := G.1) (ci := 6) (v := .ref (anow 17)) (C := RX9) (T := TX9) (N := 3) hx hb hts inX9 hown hK.1 hP 17 rfl rfl 0 (by decide) (nfw_146 hK) (fun _ h9 => h9) rfl dX10_compare_11 ?_
  refine lv_astore_n (pc := 14) (lv' := [(1, .ref (anow 17)), (0, .ref hx_0)]) hx hb dX10_compare_14 rfl hl (by decide) rfl (fun ls hl => ?_)
  refine lv_aload_n (pc := 15) hx hb dX10_compare_15 rfl (lv_at hl 1 rfl) ?_
  refine va_get (pc := 16) (D := G.1) (ci := 7) (v := .ref (anow 0)) (C := RX10) (T := TX10) (N := 3) hx hb hts inX10 hown hK.1 hP 0 rfl rfl 0 (by decide) (hts _ wd_232) (fun _ h9 => h9) rfl dX10_compare_16 ?_
  refine va_getN (pc := 19) (D := G.1) (ci := 5) (v := .ref (anow 3)) (C := RX8) (T := TX8) (N := 6) hx hb hts inX8 hown hK.1 hP 1 rfl rfl 1 (by decide) (nfw_163 hK) (fun _ h9 => h9) rfl dX10_compare_19 ?_
  refine lv_astore_n (pc := 22) (lv' := [(2, .ref (anow 3)), (1, .ref (anow 17)), (0, .ref hx_0)]) hx hb dX10_compare_22 rfl hl (by decide) rfl (fun ls hl => ?_)
  refine lv_aload_n (pc := 23) hx hb dX10_compare_23 rfl (lv_at hl 1 rfl) ?_
  refine lv_iconst (pc := 24) (v := (0 : Int32)) hx hb dX10_compare_24 (by decide) ?_
  refine lv_aload_n (pc := 25) hx hb dX10_compare_25 rfl (lv_at hl 0 rfl) ?_
  refine lv_iconst (pc := 26) (v := (0 : Int32)) hx hb dX10_compare_26 (by decide) ?_
  obtain ⟨x2, hcx2, hf⟩ := bn_some hf
  refine g_callVB (pc := 27) (bs' := [[(hx_0, .inr (7, [.ref (anow 0), .ref hhist_0, .ref hdec_0]))], [((anow 0), .inr (5, [.ref (anow 1), .ref (anow 3), .ref (anow 5), .ref (anow 12), .ref (anow 14), .ref (anow 16)]))], cBy G (anow 1) (anow 2) 64 now.1, cBy G (anow 3) (anow 4) 64 now.2.1, cDe G (anow 5) (anow 6) (anow 7) (anow 8) (anow 9) (anow 10) (anow 11) now.2.2.1, cPl G (anow 12) (anow 13) now.2.2.2.1, cBy G (anow 14) (anow 15) 200 now.2.2.2.2.1, [((anow 16), .inr (6, [.ref (anow 17), .int now.2.2.2.2.2.2.1, .int now.2.2.2.2.2.2.2]))], cBy G (anow 17) (anow 18) 64 now.2.2.2.2.2.1]) (rest := []) hx hb hml hown hts hK (c_X0_commonB l G (anow 17) (anow 18) (anow 3) (anow 4) 64 now.2.2.2.2.2.1 64 now.2.1 (0 : Int32) (0 : Int32) hcx2) wd_307 wd_3 wd_861 wd_305 wd_306 hd_X0_common ⟨rfl, rfl, Nat.le_of_ble_eq_true rfl, Nat.le_of_ble_eq_true rfl⟩ hP hD hS hA [8, 3] rfl (blk_D [8, 3] rfl hD rfl) rfl rfl 0 18 rfl rfl rfl rfl hl.1 rfl (Nat.le_of_ble_eq_true rfl) dX10_compare_27 ⟨Nat.le_of_ble_eq_true rfl, Nat.le_of_ble_eq_true rfl⟩ (fun H locs hP hD hS => ?_)
  refine lv_istore_n (pc := 30) (lv' := [(3, .int x2), (2, .ref (anow 3)), (1, .ref (anow 17)), (0, .ref hx_0)]) hx hb dX10_compare_30 rfl hl (by decide) rfl (fun ls hl => ?_)
  refine lv_iload_n (pc := 31) hx hb dX10_compare_31 rfl (lv_at hl 0 rfl) ?_
  refine lv_aload_n (pc := 32) hx hb dX10_compare_32 rfl (lv_at hl 2 rfl) ?_
  refine va_getN (pc := 33) (D := G.1) (ci := 0) (v := .int now.2.2.2.2.2.1.2) (C := RX0) (T := TX0) (N := 2) hx hb hts inX0 hown hK.1 hP 18 rfl rfl 1 (by decide) (nfw_49 hK) (fun _ h9 => h9) rfl dX10_compare_33 ?_
  refine lv_icmp_ne (pc := 36) (tgt := 51) hx hb dX10_compare_36 (by decide) (fun hc => ?_) (fun hc => ?_)
  · have hf := br_n hc hf
    refine lv_iload_n (pc := 51) hx hb dX10_compare_51 rfl (lv_at hl 0 rfl) ?_
    have hf := Option.some.inj hf; subst hf
    rw [← hQ]
    exact x_iret hx hb hr hlocks hX.symm (Nat.le_of_ble_eq_true rfl) (Nat.le_of_ble_eq_true rfl) hP hS dX10_compare_52
  · have hf := br_y hc hf
    refine lv_iload_n (pc := 39) hx hb dX10_compare_39 rfl (lv_at hl 0 rfl) ?_
    refine lv_aload_n (pc := 40) hx hb dX10_compare_40 rfl (lv_at hl 1 rfl) ?_
    refine va_getN (pc := 41) (D := G.1) (ci := 0) (v := .int now.2.1.2) (C := RX0) (T := TX0) (N := 2) hx hb hts inX0 hown hK.1 hP 4 rfl rfl 1 (by decide) (nfw_49 hK) (fun _ h9 => h9) rfl dX10_compare_41 ?_
    refine lv_icmp_ne (pc := 44) (tgt := 51) hx hb dX10_compare_44 (by decide) (fun hc => ?_) (fun hc => ?_)
    · have hf := br_n hc hf
      refine lv_iload_n (pc := 51) hx hb dX10_compare_51 rfl (lv_at hl 0 rfl) ?_
      have hf := Option.some.inj hf; subst hf
      rw [← hQ]
      exact x_iret hx hb hr hlocks hX.symm (Nat.le_of_ble_eq_true rfl) (Nat.le_of_ble_eq_true rfl) hP hS dX10_compare_52
    · have hf := br_y hc hf
      refine lv_iconst (pc := 47) (v := (-1 : Int32)) hx hb dX10_compare_47 (by decide) ?_
      refine lv_goto (pc := 48) (tgt := 52) hx hb dX10_compare_48 (by decide) ?_
      have hf := Option.some.inj hf; subst hf
      rw [← hQ]
      exact x_iret hx hb hr hlocks hX.symm (Nat.le_of_ble_eq_true rfl) (Nat.le_of_ble_eq_true rfl) hP hS dX10_compare_52
theorem hd_X10_ratio : yX10_ratio.cls ≠ "java/lang/invoke/MethodHandle" ∧ yX10_ratio.cls ≠ "java/lang/invoke/VarHandle" ∧ (parseMethodDescriptor yX10_ratio.desc).map (fun d => d.parameters.length) = some 0 := by decide +kernel
abbrev rm_X10_ratio : Room := { frames := 0, cells := 0, slots := 0, locals := 0 }
noncomputable def f_X10_ratio (now : TState) : Option UInt64 :=
  br (now.2.1.2 = 0) (some (0 : UInt64)) (gd (vf_n64 (FP.ddiv (FP.i2d now.2.2.2.2.1.2) (FP.i2d now.2.1.2))) (some (FP.ddiv (FP.i2d now.2.2.2.2.1.2) (FP.i2d now.2.1.2))))
set_option maxHeartbeats 4000000 in
set_option maxRecDepth 100000 in
theorem c_X10_ratio (l : Launch) (G : GT) (hx_0 hhist_0 hdec_0 : Nat) (anow : Nat → Nat) (now : TState) {r : UInt64} (hf : f_X10_ratio now = some r) : Ct l yX10_ratio (Cond.code yX10_ratio cX10_ratio 1 (some .double) :: lw_g) rm_X10_ratio G [.ref hx_0] (List.flatten [[(hx_0, .inr (7, [.ref (anow 0), .ref hhist_0, .ref hdec_0]))], [((anow 0), .inr (5, [.ref (anow 1), .ref (anow 3), .ref (anow 5), .ref (anow 12), .ref (anow 14), .ref (anow 16)]))], cBy G (anow 1) (anow 2) 64 now.1, cBy G (anow 3) (anow 4) 64 now.2.1, cDe G (anow 5) (anow 6) (anow 7) (anow 8) (anow 9) (anow 10) (anow 11) now.2.2.1, cPl G (anow 12) (anow 13) now.2.2.2.1, cBy G (anow 14) (anow 15) 200 now.2.2.2.2.1, [((anow 16), .inr (6, [.ref (anow 17), .int now.2.2.2.2.2.2.1, .int now.2.2.2.2.2.2.2]))], cBy G (anow 17) (anow 18) 64 now.2.2.2.2.2.1]) (some (.double r)) (List.flatten [[(hx_0, .inr (7, [.ref (anow 0), .ref hhist_0, .ref hdec_0]))], [((anow 0), .inr (5, [.ref (anow 1), .ref (anow 3), .ref (anow 5), .ref (anow 12), .ref (anow 14), .ref (anow 16)]))], cBy G (anow 1) (anow 2) 64 now.1, cBy G (anow 3) (anow 4) 64 now.2.1, cDe G (anow 5) (anow 6) (anow 7) (anow 8) (anow 9) (anow 10) (anow 11) now.2.2.1, cPl G (anow 12) (anow 13) now.2.2.2.1, cBy G (anow 14) (anow 15) 200 now.2.2.2.2.1, [((anow 16), .inr (6, [.ref (anow 17), .int now.2.2.2.2.2.2.1, .int now.2.2.2.2.2.2.2]))], cBy G (anow 17) (anow 18) 64 now.2.2.2.2.2.1]) := by
  refine Ct.ofW (cc := cX10_ratio) (maxL := 1) (ret := (some .double)) (own := RX10) (by decide) rfl rfl (Nat.le_of_ble_eq_true rfl) ?_
  intro p e s m args below meth c A hx hb hr hml hts hown hlocks hK hP hD hA hS ls hl
  have hl : lv_has ls 1 [(0, .ref hx_0)] := hl
  generalize hQ : gMQ below G _ _ A args s = Q
  generalize hH : s.heap = H at hP ⊢
  have hS : va_S A s.heap H [] := by rw [← hH]; exact hS
  generalize ([] : List Loc) = locs at hS ⊢
  unfold f_X10_ratio at hf
  refine lv_aload_n (pc := 0) hx hb dX10_ratio_0 rfl (lv_at hl 0 rfl) ?_
  refine va_get (pc := 1) (D := G.1) (ci := 7) (v := .ref (anow 0)) (C := RX10) (T := TX10) (N := 3) hx hb hts inX10 hown hK.1 hP 0 rfl rfl 0 (by decide) (hts _ wd_232) (fun _ h9 => h9) rfl dX10_ratio_1 ?_
  refine va_getN (pc := 4) (D := G.1) (ci := 5) (v := .ref (anow 3)) (C := RX8) (T := TX8) (N := 6) hx hb hts inX8 hown hK.1 hP 1 rfl rfl 1 (by decide) (nfw_163 hK) (fun _ h9 => h9) rfl dX10_ratio_4 ?_
  refine va_getN (pc := 7) (D := G.1) (ci := 0) (v := .int now.2.1.2) (C := RX0) (T := TX0) (N := 2) hx hb hts inX0 hown hK.1 hP 4 rfl rfl 1 (by decide) (nfw_49 hK) (fun _ h9 => h9) rfl dX10_ratio_7 ?_
  refine lv_if_ne (pc := 10) (tgt := 15) hx hb dX10_ratio_10 (by decide) (fun hc => ?_) (fun hc => ?_)
  · have hf := br_n hc hf
    refine lv_aload_n (pc := 15) hx hb dX10_ratio_15 rfl (lv_at hl 0 rfl) ?_
    refine va_get (pc := 16) (D := G.1) (ci := 7) (v := .ref (anow 0)) (C := RX10) (T := TX10) (N := 3) hx hb hts inX10 hown hK.1 hP 0 rfl rfl 0 (by decide) (hts _ wd_232) (fun _ h9 => h9) rfl dX10_ratio_16 ?_
    refine va_getN (pc := 19) (D := G.1) (ci := 5) (v := .ref (anow 14)) (C := RX8) (T := TX8) (N := 6) hx hb hts inX8 hown hK.1 hP 1 rfl rfl 4 (by decide) (nfw_174 hK) (fun _ h9 => h9) rfl dX10_ratio_19 ?_
    refine va_getN (pc := 22) (D := G.1) (ci := 0) (v := .int now.2.2.2.2.1.2) (C := RX0) (T := TX0) (N := 2) hx hb hts inX0 hown hK.1 hP 15 rfl rfl 1 (by decide) (nfw_49 hK) (fun _ h9 => h9) rfl dX10_ratio_22 ?_
    refine lv_i2d (pc := 25) hx hb dX10_ratio_25 ?_
    refine lv_aload_n (pc := 26) hx hb dX10_ratio_26 rfl (lv_at hl 0 rfl) ?_
    refine va_get (pc := 27) (D := G.1) (ci := 7) (v := .ref (anow 0)) (C := RX10) (T := TX10) (N := 3) hx hb hts inX10 hown hK.1 hP 0 rfl rfl 0 (by decide) (hts _ wd_232) (fun _ h9 => h9) rfl dX10_ratio_27 ?_
    refine va_getN (pc := 30) (D := G.1) (ci := 5) (v := .ref (anow 3)) (C := RX8) (T := TX8) (N := 6) hx hb hts inX8 hown hK.1 hP 1 rfl rfl 1 (by decide) (nfw_163 hK) (fun _ h9 => h9) rfl dX10_ratio_30 ?_
    refine va_getN (pc := 33) (D := G.1) (ci := 0) (v := .int now.2.1.2) (C := RX0) (T := TX0) (N := 2) hx hb hts inX0 hown hK.1 hP 4 rfl rfl 1 (by decide) (nfw_49 hK) (fun _ h9 => h9) rfl dX10_ratio_33 ?_
    refine lv_i2d (pc := 36) hx hb dX10_ratio_36 ?_
    obtain ⟨hg, hf⟩ := gd_some hf
    refine lv_ddiv (pc := 37) hx hb dX10_ratio_37 hg ?_
    have hf := Option.some.inj hf; subst hf
    rw [← hQ]
    exact g_dret hx hb hr hlocks hP hS dX10_ratio_38
  · have hf := br_y hc hf
    refine lv_dconst0 (pc := 13) hx hb dX10_ratio_13 ?_
    have hf := Option.some.inj hf; subst hf
    rw [← hQ]
    exact g_dret hx hb hr hlocks hP hS dX10_ratio_14
theorem hd_X10_undo : yX10_undo.cls ≠ "java/lang/invoke/MethodHandle" ∧ yX10_undo.cls ≠ "java/lang/invoke/VarHandle" ∧ (parseMethodDescriptor yX10_undo.desc).map (fun d => d.parameters.length) = some 0 := by decide +kernel
abbrev rm_X10_undo : Room := { frames := 6, cells := 1, slots := 6, locals := 148 }
noncomputable def f_X10_undo (now : TState) (hist : THistory) : Option (String ⊕ (Int32 × TState × THistory)) :=
  br (hist.2.2 = 0) (some (.inl "java/lang/IllegalStateException")) ((f_X4_restore hist now).bind (fun x1 => some (.inr (x1.1.2.2, x1.2, x1.1))))
set_option maxHeartbeats 4000000 in
set_option maxRecDepth 100000 in
theorem c_X10_undo (l : Launch) (hl0 : l.stackTraces = false) (G : GT) (hx_0 hdec_0 : Nat) (anow : Nat → Nat) (hhist_0 hhist_1 : Nat) (ahist0 ahist1 ahist2 ahist3 : Nat → Nat) (now : TState) (hist : THistory) {r : String ⊕ (Int32 × TState × THistory)} (hf : f_X10_undo now hist = some r) : CtP l yX10_undo (Cond.code yX10_undo cX10_undo 1 (some .int) :: lw_g) rm_X10_undo G [.ref hx_0] (List.flatten [[(hx_0, .inr (7, [.ref (anow 0), .ref hhist_0, .ref hdec_0]))], [((anow 0), .inr (5, [.ref (anow 1), .ref (anow 3), .ref (anow 5), .ref (anow 12), .ref (anow 14), .ref (anow 16)]))], cBy G (anow 1) (anow 2) 64 now.1, cBy G (anow 3) (anow 4) 64 now.2.1, cDe G (anow 5) (anow 6) (anow 7) (anow 8) (anow 9) (anow 10) (anow 11) now.2.2.1, cPl G (anow 12) (anow 13) now.2.2.2.1, cBy G (anow 14) (anow 15) 200 now.2.2.2.2.1, [((anow 16), .inr (6, [.ref (anow 17), .int now.2.2.2.2.2.2.1, .int now.2.2.2.2.2.2.2]))], cBy G (anow 17) (anow 18) 64 now.2.2.2.2.2.1, cHist G hhist_0 hhist_1 ahist0 ahist1 ahist2 ahist3 hist]) (pR (fun (r : (Int32 × TState × THistory)) => (some (.int r.1))) (fun (r : (Int32 × TState × THistory)) => (List.flatten [[(hx_0, .inr (7, [.ref (anow 0), .ref hhist_0, .ref hdec_0]))], [((anow 0), .inr (5, [.ref (anow 1), .ref (anow 3), .ref (anow 5), .ref (anow 12), .ref (anow 14), .ref (anow 16)]))], cBy G (anow 1) (anow 2) 64 r.2.1.1, cBy G (anow 3) (anow 4) 64 r.2.1.2.1, cDe G (anow 5) (anow 6) (anow 7) (anow 8) (anow 9) (anow 10) (anow 11) r.2.1.2.2.1, cPl G (anow 12) (anow 13) r.2.1.2.2.2.1, cBy G (anow 14) (anow 15) 200 r.2.1.2.2.2.2.1, [((anow 16), .inr (6, [.ref (anow 17), .int r.2.1.2.2.2.2.2.2.1, .int r.2.1.2.2.2.2.2.2.2]))], cBy G (anow 17) (anow 18) 64 r.2.1.2.2.2.2.2.1, cHist G hhist_0 hhist_1 ahist0 ahist1 ahist2 ahist3 r.2.2])) r) := by
  refine CtP.ofW (cc := cX10_undo) (maxL := 1) (ret := (some .int)) (own := RX10) (by decide) rfl rfl (Nat.le_of_ble_eq_true rfl) ?_
  intro p e s m args below meth c A hx hb hr hml hts hown hlocks hK hP hD hA hS hno hZ ls hl
  have hl : lv_has ls 1 [(0, .ref hx_0)] := hl
  generalize hX : pR _ _ r = X
  generalize hQ : xMQ below G _ A X args s _ _ = Q
  generalize hH : s.heap = H at hP ⊢
  have hS : va_S A s.heap H [] := by rw [← hH]; exact hS
  generalize ([] : List Loc) = locs at hS ⊢
  unfold f_X10_undo at hf
  refine lv_aload_n (pc := 0) hx hb dX10_undo_0 rfl (lv_at hl 0 rfl) ?_
  refine va_get (pc := 1) (D := G.1) (ci := 7) (v := .ref hhist_0) (C := RX10) (T := TX10) (N := 3) hx hb hts inX10 hown hK.1 hP 0 rfl rfl 1 (by decide) (hts _ wd_233) (fun _ h9 => h9) rfl dX10_undo_1 ?_
  refine va_getN (pc := 4) (D := G.1) (ci := 3) (v := .int hist.2.2) (C := RX4) (T := TX4) (N := 3) hx hb hts inX4 hown hK.1 hP 20 rfl rfl 2 (by decide) (nfw_202 hK) (fun _ h9 => h9) rfl dX10_undo_4 ?_
  refine lv_if_ne (pc := 7) (tgt := 20) hx hb dX10_undo_7 (by decide) (fun hc => ?_) (fun hc => ?_)
  · have hf := br_n hc hf
    refine lv_aload_n (pc := 20) hx hb dX10_undo_20 rfl (lv_at hl 0 rfl) ?_
    refine va_get (pc := 21) (D := G.1) (ci := 7) (v := .ref hhist_0) (C := RX10) (T := TX10) (N := 3) hx hb hts inX10 hown hK.1 hP 0 rfl rfl 1 (by decide) (hts _ wd_233) (fun _ h9 => h9) rfl dX10_undo_21 ?_
    refine lv_aload_n (pc := 24) hx hb dX10_undo_24 rfl (lv_at hl 0 rfl) ?_
    refine va_get (pc := 25) (D := G.1) (ci := 7) (v := .ref (anow 0)) (C := RX10) (T := TX10) (N := 3) hx hb hts inX10 hown hK.1 hP 0 rfl rfl 0 (by decide) (hts _ wd_232) (fun _ h9 => h9) rfl dX10_undo_25 ?_
    obtain ⟨x1, hcx1, hf⟩ := bn_some hf
    refine g_callVB (pc := 28) (bs' := [[(hx_0, .inr (7, [.ref (anow 0), .ref hhist_0, .ref hdec_0]))], [((anow 0), .inr (5, [.ref (anow 1), .ref (anow 3), .ref (anow 5), .ref (anow 12), .ref (anow 14), .ref (anow 16)]))], cBy G (anow 1) (anow 2) 64 x1.2.1, cBy G (anow 3) (anow 4) 64 x1.2.2.1, cDe G (anow 5) (anow 6) (anow 7) (anow 8) (anow 9) (anow 10) (anow 11) x1.2.2.2.1, cPl G (anow 12) (anow 13) x1.2.2.2.2.1, cBy G (anow 14) (anow 15) 200 x1.2.2.2.2.2.1, [((anow 16), .inr (6, [.ref (anow 17), .int x1.2.2.2.2.2.2.2.1, .int x1.2.2.2.2.2.2.2.2]))], cBy G (anow 17) (anow 18) 64 x1.2.2.2.2.2.2.1, cHist G hhist_0 hhist_1 ahist0 ahist1 ahist2 ahist3 x1.1]) (rest := []) hx hb hml hown hts hK (c_X4_restoreB l G hhist_0 hhist_1 ahist0 ahist1 ahist2 ahist3 anow hist now hcx1) wd_873 wd_8 wd_870 wd_871 wd_872 hd_X4_restore ⟨rfl, rfl, Nat.le_of_ble_eq_true rfl, Nat.le_of_ble_eq_true rfl⟩ hP hD hS hA [9, 1, 2, 3, 4, 5, 6, 7, 8] rfl (blk_D [9, 1, 2, 3, 4, 5, 6, 7, 8] rfl hD rfl) rfl rfl 3 20 rfl rfl rfl rfl hl.1 rfl (Nat.le_of_ble_eq_true rfl) dX10_undo_28 ⟨Nat.zero_le _, Nat.zero_le _⟩ (fun H locs hP hD hS => ?_)
    refine lv_aload_n (pc := 31) hx hb dX10_undo_31 rfl (lv_at hl 0 rfl) ?_
    refine va_get (pc := 32) (D := G.1) (ci := 7) (v := .ref hhist_0) (C := RX10) (T := TX10) (N := 3) hx hb hts inX10 hown hK.1 hP 0 rfl rfl 1 (by decide) (hts _ wd_233) (fun _ h9 => h9) rfl dX10_undo_32 ?_
    refine va_getN (pc := 35) (D := G.1) (ci := 3) (v := .int x1.1.2.2) (C := RX4) (T := TX4) (N := 3) hx hb hts inX4 hown hK.1 hP 20 rfl rfl 2 (by decide) (nfw_202 hK) (fun _ h9 => h9) rfl dX10_undo_35 ?_
    have hf := Option.some.inj hf; subst hf
    rw [← hQ]
    exact x_iret hx hb hr hlocks hX.symm (Nat.le_of_ble_eq_true rfl) (Nat.le_of_ble_eq_true rfl) hP hS dX10_undo_38
  · have hf := br_y hc hf
    have hf := Option.some.inj hf; subst hf
    rw [← hQ]
    exact x_throw (pc := 10) (names := xRE) (cls := xISE) hl0 hx hb hown hts hK (by decide +kernel) nX wd_585 wd_15 rfl sr_219 at1_ISE at2_ISE at3_ISE hno hZ hP hS (hl.1.trans hml.symm) dX10_undo_10 dX10_undo_13 dX10_undo_14 dX10_undo_16 dX10_undo_19 (Nat.le_of_ble_eq_true rfl) (Nat.le_of_ble_eq_true rfl) (Nat.le_of_ble_eq_true rfl) (Nat.le_of_ble_eq_true rfl) hlocks hX.symm (Nat.le_of_ble_eq_true rfl) (Nat.le_of_ble_eq_true rfl)
theorem hd_X10_digest : yX10_digest.cls ≠ "java/lang/invoke/MethodHandle" ∧ yX10_digest.cls ≠ "java/lang/invoke/VarHandle" ∧ (parseMethodDescriptor yX10_digest.desc).map (fun d => d.parameters.length) = some 0 := by decide +kernel
abbrev rm_X10_digest : Room := { frames := 47, cells := 0, slots := 0, locals := 1279 }
noncomputable def f_X10_digest (now : TState) (hist : THistory) : Option (Int64 × TState) :=
  (f_X0_mixInto 64 now.1 (2777 : Int64)).bind (fun x1 => (f_X0_mixInto 64 now.2.1 x1).bind (fun x2 => (f_X2_mixInto now.2.2.1 x2).bind (fun x3 => (f_X2_least now.2.2.1).bind (fun x4 => (f_X10_mix x3 x4.1.toInt64).bind (fun x5 => (f_X7_mixInto now.2.2.2.1 x5).bind (fun x6 => (f_X0_mixInto 200 now.2.2.2.2.1 x6).bind (fun x7 => (f_X9_mixInto now.2.2.2.2.2 x7).bind (fun x8 => (f_X10_mix x8 hist.2.2.toInt64).bind (fun x9 => some (x9, (now.1, now.2.1, x4.2, now.2.2.2.1, now.2.2.2.2.1, now.2.2.2.2.2)))))))))))
set_option maxHeartbeats 4000000 in
set_option maxRecDepth 100000 in
theorem c_X10_digest (l : Launch) (G : GT) (hx_0 hdec_0 : Nat) (anow : Nat → Nat) (hhist_0 hhist_1 : Nat) (ahist0 ahist1 ahist2 ahist3 : Nat → Nat) (now : TState) (hist : THistory) {r : Int64 × TState} (hf : f_X10_digest now hist = some r) : Ct l yX10_digest (Cond.code yX10_digest cX10_digest 3 (some .long) :: lw_g) rm_X10_digest G [.ref hx_0] (List.flatten [[(hx_0, .inr (7, [.ref (anow 0), .ref hhist_0, .ref hdec_0]))], [((anow 0), .inr (5, [.ref (anow 1), .ref (anow 3), .ref (anow 5), .ref (anow 12), .ref (anow 14), .ref (anow 16)]))], cBy G (anow 1) (anow 2) 64 now.1, cBy G (anow 3) (anow 4) 64 now.2.1, cDe G (anow 5) (anow 6) (anow 7) (anow 8) (anow 9) (anow 10) (anow 11) now.2.2.1, cPl G (anow 12) (anow 13) now.2.2.2.1, cBy G (anow 14) (anow 15) 200 now.2.2.2.2.1, [((anow 16), .inr (6, [.ref (anow 17), .int now.2.2.2.2.2.2.1, .int now.2.2.2.2.2.2.2]))], cBy G (anow 17) (anow 18) 64 now.2.2.2.2.2.1, cHist G hhist_0 hhist_1 ahist0 ahist1 ahist2 ahist3 hist]) (some (.long r.1)) (List.flatten [[(hx_0, .inr (7, [.ref (anow 0), .ref hhist_0, .ref hdec_0]))], [((anow 0), .inr (5, [.ref (anow 1), .ref (anow 3), .ref (anow 5), .ref (anow 12), .ref (anow 14), .ref (anow 16)]))], cBy G (anow 1) (anow 2) 64 r.2.1, cBy G (anow 3) (anow 4) 64 r.2.2.1, cDe G (anow 5) (anow 6) (anow 7) (anow 8) (anow 9) (anow 10) (anow 11) r.2.2.2.1, cPl G (anow 12) (anow 13) r.2.2.2.2.1, cBy G (anow 14) (anow 15) 200 r.2.2.2.2.2.1, [((anow 16), .inr (6, [.ref (anow 17), .int r.2.2.2.2.2.2.2.1, .int r.2.2.2.2.2.2.2.2]))], cBy G (anow 17) (anow 18) 64 r.2.2.2.2.2.2.1, cHist G hhist_0 hhist_1 ahist0 ahist1 ahist2 ahist3 hist]) := by
  refine Ct.ofW (cc := cX10_digest) (maxL := 3) (ret := (some .long)) (own := RX10) (by decide) rfl rfl (Nat.le_of_ble_eq_true rfl) ?_
  intro p e s m args below meth c A hx hb hr hml hts hown hlocks hK hP hD hA hS ls hl
  have hl : lv_has ls 3 [(0, .ref hx_0)] := hl
  generalize hQ : gMQ below G _ _ A args s = Q
  generalize hH : s.heap = H at hP ⊢
  have hS : va_S A s.heap H [] := by rw [← hH]; exact hS
  generalize ([] : List Loc) = locs at hS ⊢
  unfold f_X10_digest at hf
  refine lv_aload_n (pc := 0) hx hb dX10_digest_0 rfl (lv_at hl 0 rfl) ?_
  refine va_get (pc := 1) (D := G.1) (ci := 7) (v := .ref (anow 0)) (C := RX10) (T := TX10) (N := 3) hx hb hts inX10 hown hK.1 hP 0 rfl rfl 0 (by decide) (hts _ wd_232) (fun _ h9 => h9) rfl dX10_digest_1 ?_
  refine va_getN (pc := 4) (D := G.1) (ci := 5) (v := .ref (anow 1)) (C := RX8) (T := TX8) (N := 6) hx hb hts inX8 hown hK.1 hP 1 rfl rfl 0 (by decide) (nfw_161 hK) (fun _ h9 => h9) rfl dX10_digest_4 ?_
  refine lv_ldc2 (pc := 7) (v := (2777 : Int64)) hx hb hown (hts _ wd_447) dX10_digest_7 ?_
  obtain ⟨x1, hcx1, hf⟩ := bn_some hf
  refine g_callVB (pc := 10) (bs' := [[(hx_0, .inr (7, [.ref (anow 0), .ref hhist_0, .ref hdec_0]))], [((anow 0), .inr (5, [.ref (anow 1), .ref (anow 3), .ref (anow 5), .ref (anow 12), .ref (anow 14), .ref (anow 16)]))], cBy G (anow 1) (anow 2) 64 now.1, cBy G (anow 3) (anow 4) 64 now.2.1, cDe G (anow 5) (anow 6) (anow 7) (anow 8) (anow 9) (anow 10) (anow 11) now.2.2.1, cPl G (anow 12) (anow 13) now.2.2.2.1, cBy G (anow 14) (anow 15) 200 now.2.2.2.2.1, [((anow 16), .inr (6, [.ref (anow 17), .int now.2.2.2.2.2.2.1, .int now.2.2.2.2.2.2.2]))], cBy G (anow 17) (anow 18) 64 now.2.2.2.2.2.1, cHist G hhist_0 hhist_1 ahist0 ahist1 ahist2 ahist3 hist]) (rest := []) hx hb hml hown hts hK (c_X0_mixIntoB l G (anow 1) (anow 2) 64 now.1 (2777 : Int64) hcx1) wd_451 wd_3 wd_448 wd_449 wd_450 hd_X0_mixInto ⟨rfl, rfl, Nat.le_of_ble_eq_true rfl, Nat.le_of_ble_eq_true rfl⟩ hP hD hS hA [2] rfl (blk_D [2] rfl hD rfl) rfl rfl 0 2 rfl rfl rfl rfl hl.1 rfl (Nat.le_of_ble_eq_true rfl) dX10_digest_10 ⟨Nat.zero_le _, Nat.zero_le _⟩ (fun H locs hP hD hS => ?_)
  refine lv_lstore_n (pc := 13) (lv' := [(1, .long x1), (0, .ref hx_0)]) hx hb dX10_digest_13 rfl hl (by decide) rfl (fun ls hl => ?_)
  refine lv_aload_n (pc := 14) hx hb dX10_digest_14 rfl (lv_at hl 1 rfl) ?_
  refine va_get (pc := 15) (D := G.1) (ci := 7) (v := .ref (anow 0)) (C := RX10) (T := TX10) (N := 3) hx hb hts inX10 hown hK.1 hP 0 rfl rfl 0 (by decide) (hts _ wd_232) (fun _ h9 => h9) rfl dX10_digest_15 ?_
  refine va_getN (pc := 18) (D := G.1) (ci := 5) (v := .ref (anow 3)) (C := RX8) (T := TX8) (N := 6) hx hb hts inX8 hown hK.1 hP 1 rfl rfl 1 (by decide) (nfw_163 hK) (fun _ h9 => h9) rfl dX10_digest_18 ?_
  refine lv_lload_n (pc := 21) hx hb dX10_digest_21 rfl (lv_at hl 0 rfl) ?_
  obtain ⟨x2, hcx2, hf⟩ := bn_some hf
  refine g_callVB (pc := 22) (bs' := [[(hx_0, .inr (7, [.ref (anow 0), .ref hhist_0, .ref hdec_0]))], [((anow 0), .inr (5, [.ref (anow 1), .ref (anow 3), .ref (anow 5), .ref (anow 12), .ref (anow 14), .ref (anow 16)]))], cBy G (anow 1) (anow 2) 64 now.1, cBy G (anow 3) (anow 4) 64 now.2.1, cDe G (anow 5) (anow 6) (anow 7) (anow 8) (anow 9) (anow 10) (anow 11) now.2.2.1, cPl G (anow 12) (anow 13) now.2.2.2.1, cBy G (anow 14) (anow 15) 200 now.2.2.2.2.1, [((anow 16), .inr (6, [.ref (anow 17), .int now.2.2.2.2.2.2.1, .int now.2.2.2.2.2.2.2]))], cBy G (anow 17) (anow 18) 64 now.2.2.2.2.2.1, cHist G hhist_0 hhist_1 ahist0 ahist1 ahist2 ahist3 hist]) (rest := []) hx hb hml hown hts hK (c_X0_mixIntoB l G (anow 3) (anow 4) 64 now.2.1 x1 hcx2) wd_451 wd_3 wd_448 wd_449 wd_450 hd_X0_mixInto ⟨rfl, rfl, Nat.le_of_ble_eq_true rfl, Nat.le_of_ble_eq_true rfl⟩ hP hD hS hA [3] rfl (blk_D [3] rfl hD rfl) rfl rfl 0 4 rfl rfl rfl rfl hl.1 rfl (Nat.le_of_ble_eq_true rfl) dX10_digest_22 ⟨Nat.zero_le _, Nat.zero_le _⟩ (fun H locs hP hD hS => ?_)
  refine lv_lstore_n (pc := 25) (lv' := [(1, .long x2), (0, .ref hx_0)]) hx hb dX10_digest_25 rfl hl (by decide) rfl (fun ls hl => ?_)
  refine lv_aload_n (pc := 26) hx hb dX10_digest_26 rfl (lv_at hl 1 rfl) ?_
  refine va_get (pc := 27) (D := G.1) (ci := 7) (v := .ref (anow 0)) (C := RX10) (T := TX10) (N := 3) hx hb hts inX10 hown hK.1 hP 0 rfl rfl 0 (by decide) (hts _ wd_232) (fun _ h9 => h9) rfl dX10_digest_27 ?_
  refine va_getN (pc := 30) (D := G.1) (ci := 5) (v := .ref (anow 5)) (C := RX8) (T := TX8) (N := 6) hx hb hts inX8 hown hK.1 hP 1 rfl rfl 2 (by decide) (nfw_167 hK) (fun _ h9 => h9) rfl dX10_digest_30 ?_
  refine lv_lload_n (pc := 33) hx hb dX10_digest_33 rfl (lv_at hl 0 rfl) ?_
  obtain ⟨x3, hcx3, hf⟩ := bn_some hf
  refine g_callVB (pc := 34) (bs' := [[(hx_0, .inr (7, [.ref (anow 0), .ref hhist_0, .ref hdec_0]))], [((anow 0), .inr (5, [.ref (anow 1), .ref (anow 3), .ref (anow 5), .ref (anow 12), .ref (anow 14), .ref (anow 16)]))], cBy G (anow 1) (anow 2) 64 now.1, cBy G (anow 3) (anow 4) 64 now.2.1, cDe G (anow 5) (anow 6) (anow 7) (anow 8) (anow 9) (anow 10) (anow 11) now.2.2.1, cPl G (anow 12) (anow 13) now.2.2.2.1, cBy G (anow 14) (anow 15) 200 now.2.2.2.2.1, [((anow 16), .inr (6, [.ref (anow 17), .int now.2.2.2.2.2.2.1, .int now.2.2.2.2.2.2.2]))], cBy G (anow 17) (anow 18) 64 now.2.2.2.2.2.1, cHist G hhist_0 hhist_1 ahist0 ahist1 ahist2 ahist3 hist]) (rest := []) hx hb hml hown hts hK (c_X2_mixIntoB l G (anow 5) (anow 6) (anow 7) (anow 8) (anow 9) (anow 10) (anow 11) now.2.2.1 x2 hcx3) wd_459 wd_5 wd_456 wd_457 wd_458 hd_X2_mixInto ⟨rfl, rfl, Nat.le_of_ble_eq_true rfl, Nat.le_of_ble_eq_true rfl⟩ hP hD hS hA [4] rfl (blk_D [4] rfl hD rfl) rfl rfl 2 6 rfl rfl rfl rfl hl.1 rfl (Nat.le_of_ble_eq_true rfl) dX10_digest_34 ⟨Nat.zero_le _, Nat.zero_le _⟩ (fun H locs hP hD hS => ?_)
  refine lv_lstore_n (pc := 37) (lv' := [(1, .long x3), (0, .ref hx_0)]) hx hb dX10_digest_37 rfl hl (by decide) rfl (fun ls hl => ?_)
  refine lv_lload_n (pc := 38) hx hb dX10_digest_38 rfl (lv_at hl 0 rfl) ?_
  refine lv_aload_n (pc := 39) hx hb dX10_digest_39 rfl (lv_at hl 1 rfl) ?_
  refine va_get (pc := 40) (D := G.1) (ci := 7) (v := .ref (anow 0)) (C := RX10) (T := TX10) (N := 3) hx hb hts inX10 hown hK.1 hP 0 rfl rfl 0 (by decide) (hts _ wd_232) (fun _ h9 => h9) rfl dX10_digest_40 ?_
  refine va_getN (pc := 43) (D := G.1) (ci := 5) (v := .ref (anow 5)) (C := RX8) (T := TX8) (N := 6) hx hb hts inX8 hown hK.1 hP 1 rfl rfl 2 (by decide) (nfw_167 hK) (fun _ h9 => h9) rfl dX10_digest_43 ?_
  obtain ⟨x4, hcx4, hf⟩ := bn_some hf
  refine g_callVB (pc := 46) (bs' := [[(hx_0, .inr (7, [.ref (anow 0), .ref hhist_0, .ref hdec_0]))], [((anow 0), .inr (5, [.ref (anow 1), .ref (anow 3), .ref (anow 5), .ref (anow 12), .ref (anow 14), .ref (anow 16)]))], cBy G (anow 1) (anow 2) 64 now.1, cBy G (anow 3) (anow 4) 64 now.2.1, cDe G (anow 5) (anow 6) (anow 7) (anow 8) (anow 9) (anow 10) (anow 11) x4.2, cPl G (anow 12) (anow 13) now.2.2.2.1, cBy G (anow 14) (anow 15) 200 now.2.2.2.2.1, [((anow 16), .inr (6, [.ref (anow 17), .int now.2.2.2.2.2.2.1, .int now.2.2.2.2.2.2.2]))], cBy G (anow 17) (anow 18) 64 now.2.2.2.2.2.1, cHist G hhist_0 hhist_1 ahist0 ahist1 ahist2 ahist3 hist]) (rest := [.long x3]) hx hb hml hown hts hK (c_X2_leastB l G (anow 5) (anow 6) (anow 7) (anow 8) (anow 9) (anow 10) (anow 11) now.2.2.1 hcx4) wd_374 wd_5 wd_371 wd_372 wd_373 hd_X2_least ⟨rfl, rfl, Nat.le_of_ble_eq_true rfl, Nat.le_of_ble_eq_true rfl⟩ hP hD hS hA [4] rfl (blk_D [4] rfl hD rfl) rfl rfl 2 6 rfl rfl rfl rfl hl.1 rfl (Nat.le_of_ble_eq_true rfl) dX10_digest_46 ⟨Nat.zero_le _, Nat.zero_le _⟩ (fun H locs hP hD hS => ?_)
  refine lv_i2l (pc := 49) (v := x4.1.toInt64) hx hb dX10_digest_49 rfl ?_
  obtain ⟨x5, hcx5, hf⟩ := bn_some hf
  refine g_callSB (pc := 50) (bs' := [[(hx_0, .inr (7, [.ref (anow 0), .ref hhist_0, .ref hdec_0]))], [((anow 0), .inr (5, [.ref (anow 1), .ref (anow 3), .ref (anow 5), .ref (anow 12), .ref (anow 14), .ref (anow 16)]))], cBy G (anow 1) (anow 2) 64 now.1, cBy G (anow 3) (anow 4) 64 now.2.1, cDe G (anow 5) (anow 6) (anow 7) (anow 8) (anow 9) (anow 10) (anow 11) x4.2, cPl G (anow 12) (anow 13) now.2.2.2.1, cBy G (anow 14) (anow 15) 200 now.2.2.2.2.1, [((anow 16), .inr (6, [.ref (anow 17), .int now.2.2.2.2.2.2.1, .int now.2.2.2.2.2.2.2]))], cBy G (anow 17) (anow 18) 64 now.2.2.2.2.2.1, cHist G hhist_0 hhist_1 ahist0 ahist1 ahist2 ahist3 hist]) (rest := []) hx hb hml hown hts hK (c_X10_mixB l G  x3 x4.1.toInt64 hcx5) wd_454 wd_1 wd_473 wd_453 hd_X10_mix ⟨rfl, rfl, Nat.le_of_ble_eq_true rfl, Nat.le_of_ble_eq_true rfl⟩ hP hD hS hA [] rfl (blk_D [] rfl hD rfl) rfl rfl rfl hl.1 rfl (Nat.le_of_ble_eq_true rfl) dX10_digest_50 ⟨Nat.zero_le _, Nat.zero_le _⟩ (fun H locs hP hD hS => ?_)
  refine lv_lstore_n (pc := 53) (lv' := [(1, .long x5), (0, .ref hx_0)]) hx hb dX10_digest_53 rfl hl (by decide) rfl (fun ls hl => ?_)
  refine lv_aload_n (pc := 54) hx hb dX10_digest_54 rfl (lv_at hl 1 rfl) ?_
  refine va_get (pc := 55) (D := G.1) (ci := 7) (v := .ref (anow 0)) (C := RX10) (T := TX10) (N := 3) hx hb hts inX10 hown hK.1 hP 0 rfl rfl 0 (by decide) (hts _ wd_232) (fun _ h9 => h9) rfl dX10_digest_55 ?_
  refine va_getN (pc := 58) (D := G.1) (ci := 5) (v := .ref (anow 12)) (C := RX8) (T := TX8) (N := 6) hx hb hts inX8 hown hK.1 hP 1 rfl rfl 3 (by decide) (nfw_171 hK) (fun _ h9 => h9) rfl dX10_digest_58 ?_
  refine lv_lload_n (pc := 61) hx hb dX10_digest_61 rfl (lv_at hl 0 rfl) ?_
  obtain ⟨x6, hcx6, hf⟩ := bn_some hf
  refine g_callVB (pc := 62) (bs' := [[(hx_0, .inr (7, [.ref (anow 0), .ref hhist_0, .ref hdec_0]))], [((anow 0), .inr (5, [.ref (anow 1), .ref (anow 3), .ref (anow 5), .ref (anow 12), .ref (anow 14), .ref (anow 16)]))], cBy G (anow 1) (anow 2) 64 now.1, cBy G (anow 3) (anow 4) 64 now.2.1, cDe G (anow 5) (anow 6) (anow 7) (anow 8) (anow 9) (anow 10) (anow 11) x4.2, cPl G (anow 12) (anow 13) now.2.2.2.1, cBy G (anow 14) (anow 15) 200 now.2.2.2.2.1, [((anow 16), .inr (6, [.ref (anow 17), .int now.2.2.2.2.2.2.1, .int now.2.2.2.2.2.2.2]))], cBy G (anow 17) (anow 18) 64 now.2.2.2.2.2.1, cHist G hhist_0 hhist_1 ahist0 ahist1 ahist2 ahist3 hist]) (rest := []) hx hb hml hown hts hK (c_X7_mixIntoB l G (anow 12) (anow 13) now.2.2.2.1 x5 hcx6) wd_477 wd_6 wd_474 wd_475 wd_476 hd_X7_mixInto ⟨rfl, rfl, Nat.le_of_ble_eq_true rfl, Nat.le_of_ble_eq_true rfl⟩ hP hD hS hA [5] rfl (blk_D [5] rfl hD rfl) rfl rfl 4 13 rfl rfl rfl rfl hl.1 rfl (Nat.le_of_ble_eq_true rfl) dX10_digest_62 ⟨Nat.zero_le _, Nat.zero_le _⟩ (fun H locs hP hD hS => ?_)
  refine lv_lstore_n (pc := 65) (lv' := [(1, .long x6), (0, .ref hx_0)]) hx hb dX10_digest_65 rfl hl (by decide) rfl (fun ls hl => ?_)
  refine lv_aload_n (pc := 66) hx hb dX10_digest_66 rfl (lv_at hl 1 rfl) ?_
  refine va_get (pc := 67) (D := G.1) (ci := 7) (v := .ref (anow 0)) (C := RX10) (T := TX10) (N := 3) hx hb hts inX10 hown hK.1 hP 0 rfl rfl 0 (by decide) (hts _ wd_232) (fun _ h9 => h9) rfl dX10_digest_67 ?_
  refine va_getN (pc := 70) (D := G.1) (ci := 5) (v := .ref (anow 14)) (C := RX8) (T := TX8) (N := 6) hx hb hts inX8 hown hK.1 hP 1 rfl rfl 4 (by decide) (nfw_174 hK) (fun _ h9 => h9) rfl dX10_digest_70 ?_
  refine lv_lload_n (pc := 73) hx hb dX10_digest_73 rfl (lv_at hl 0 rfl) ?_
  obtain ⟨x7, hcx7, hf⟩ := bn_some hf
  refine g_callVB (pc := 74) (bs' := [[(hx_0, .inr (7, [.ref (anow 0), .ref hhist_0, .ref hdec_0]))], [((anow 0), .inr (5, [.ref (anow 1), .ref (anow 3), .ref (anow 5), .ref (anow 12), .ref (anow 14), .ref (anow 16)]))], cBy G (anow 1) (anow 2) 64 now.1, cBy G (anow 3) (anow 4) 64 now.2.1, cDe G (anow 5) (anow 6) (anow 7) (anow 8) (anow 9) (anow 10) (anow 11) x4.2, cPl G (anow 12) (anow 13) now.2.2.2.1, cBy G (anow 14) (anow 15) 200 now.2.2.2.2.1, [((anow 16), .inr (6, [.ref (anow 17), .int now.2.2.2.2.2.2.1, .int now.2.2.2.2.2.2.2]))], cBy G (anow 17) (anow 18) 64 now.2.2.2.2.2.1, cHist G hhist_0 hhist_1 ahist0 ahist1 ahist2 ahist3 hist]) (rest := []) hx hb hml hown hts hK (c_X0_mixIntoB l G (anow 14) (anow 15) 200 now.2.2.2.2.1 x6 hcx7) wd_451 wd_3 wd_448 wd_449 wd_450 hd_X0_mixInto ⟨rfl, rfl, Nat.le_of_ble_eq_true rfl, Nat.le_of_ble_eq_true rfl⟩ hP hD hS hA [6] rfl (blk_D [6] rfl hD rfl) rfl rfl 0 15 rfl rfl rfl rfl hl.1 rfl (Nat.le_of_ble_eq_true rfl) dX10_digest_74 ⟨Nat.zero_le _, Nat.zero_le _⟩ (fun H locs hP hD hS => ?_)
  refine lv_lstore_n (pc := 77) (lv' := [(1, .long x7), (0, .ref hx_0)]) hx hb dX10_digest_77 rfl hl (by decide) rfl (fun ls hl => ?_)
  refine lv_aload_n (pc := 78) hx hb dX10_digest_78 rfl (lv_at hl 1 rfl) ?_
  refine va_get (pc := 79) (D := G.1) (ci := 7) (v := .ref (anow 0)) (C := RX10) (T := TX10) (N := 3) hx hb hts inX10 hown hK.1 hP 0 rfl rfl 0 (by decide) (hts _ wd_232) (fun _ h9 => h9) rfl dX10_digest_79 ?_
  refine va_getN (pc := 82) (D := G.1) (ci := 5) (v := .ref (anow 16)) (C := RX8) (T := TX8) (N := 6) hx hb hts inX8 hown hK.1 hP 1 rfl rfl 5 (by decide) (nfw_176 hK) (fun _ h9 => h9) rfl dX10_digest_82 ?_
  refine lv_lload_n (pc := 85) hx hb dX10_digest_85 rfl (lv_at hl 0 rfl) ?_
  obtain ⟨x8, hcx8, hf⟩ := bn_some hf
  refine g_callVB (pc := 86) (bs' := [[(hx_0, .inr (7, [.ref (anow 0), .ref hhist_0, .ref hdec_0]))], [((anow 0), .inr (5, [.ref (anow 1), .ref (anow 3), .ref (anow 5), .ref (anow 12), .ref (anow 14), .ref (anow 16)]))], cBy G (anow 1) (anow 2) 64 now.1, cBy G (anow 3) (anow 4) 64 now.2.1, cDe G (anow 5) (anow 6) (anow 7) (anow 8) (anow 9) (anow 10) (anow 11) x4.2, cPl G (anow 12) (anow 13) now.2.2.2.1, cBy G (anow 14) (anow 15) 200 now.2.2.2.2.1, [((anow 16), .inr (6, [.ref (anow 17), .int now.2.2.2.2.2.2.1, .int now.2.2.2.2.2.2.2]))], cBy G (anow 17) (anow 18) 64 now.2.2.2.2.2.1, cHist G hhist_0 hhist_1 ahist0 ahist1 ahist2 ahist3 hist]) (rest := []) hx hb hml hown hts hK (c_X9_mixIntoB l G (anow 16) (anow 17) (anow 18) now.2.2.2.2.2 x7 hcx8) wd_490 wd_7 wd_487 wd_488 wd_489 hd_X9_mixInto ⟨rfl, rfl, Nat.le_of_ble_eq_true rfl, Nat.le_of_ble_eq_true rfl⟩ hP hD hS hA [7, 8] rfl (blk_D [7, 8] rfl hD rfl) rfl rfl 6 17 rfl rfl rfl rfl hl.1 rfl (Nat.le_of_ble_eq_true rfl) dX10_digest_86 ⟨Nat.zero_le _, Nat.zero_le _⟩ (fun H locs hP hD hS => ?_)
  refine lv_lstore_n (pc := 89) (lv' := [(1, .long x8), (0, .ref hx_0)]) hx hb dX10_digest_89 rfl hl (by decide) rfl (fun ls hl => ?_)
  refine lv_lload_n (pc := 90) hx hb dX10_digest_90 rfl (lv_at hl 0 rfl) ?_
  refine lv_aload_n (pc := 91) hx hb dX10_digest_91 rfl (lv_at hl 1 rfl) ?_
  refine va_get (pc := 92) (D := G.1) (ci := 7) (v := .ref hhist_0) (C := RX10) (T := TX10) (N := 3) hx hb hts inX10 hown hK.1 hP 0 rfl rfl 1 (by decide) (hts _ wd_233) (fun _ h9 => h9) rfl dX10_digest_92 ?_
  refine va_getN (pc := 95) (D := G.1) (ci := 3) (v := .int hist.2.2) (C := RX4) (T := TX4) (N := 3) hx hb hts inX4 hown hK.1 hP 20 rfl rfl 2 (by decide) (nfw_202 hK) (fun _ h9 => h9) rfl dX10_digest_95 ?_
  refine lv_i2l (pc := 98) (v := hist.2.2.toInt64) hx hb dX10_digest_98 rfl ?_
  obtain ⟨x9, hcx9, hf⟩ := bn_some hf
  refine g_callSB (pc := 99) (bs' := [[(hx_0, .inr (7, [.ref (anow 0), .ref hhist_0, .ref hdec_0]))], [((anow 0), .inr (5, [.ref (anow 1), .ref (anow 3), .ref (anow 5), .ref (anow 12), .ref (anow 14), .ref (anow 16)]))], cBy G (anow 1) (anow 2) 64 now.1, cBy G (anow 3) (anow 4) 64 now.2.1, cDe G (anow 5) (anow 6) (anow 7) (anow 8) (anow 9) (anow 10) (anow 11) x4.2, cPl G (anow 12) (anow 13) now.2.2.2.1, cBy G (anow 14) (anow 15) 200 now.2.2.2.2.1, [((anow 16), .inr (6, [.ref (anow 17), .int now.2.2.2.2.2.2.1, .int now.2.2.2.2.2.2.2]))], cBy G (anow 17) (anow 18) 64 now.2.2.2.2.2.1, cHist G hhist_0 hhist_1 ahist0 ahist1 ahist2 ahist3 hist]) (rest := []) hx hb hml hown hts hK (c_X10_mixB l G  x8 hist.2.2.toInt64 hcx9) wd_454 wd_1 wd_473 wd_453 hd_X10_mix ⟨rfl, rfl, Nat.le_of_ble_eq_true rfl, Nat.le_of_ble_eq_true rfl⟩ hP hD hS hA [] rfl (blk_D [] rfl hD rfl) rfl rfl rfl hl.1 rfl (Nat.le_of_ble_eq_true rfl) dX10_digest_99 ⟨Nat.zero_le _, Nat.zero_le _⟩ (fun H locs hP hD hS => ?_)
  have hf := Option.some.inj hf; subst hf
  rw [← hQ]
  exact g_lret hx hb hr hlocks hP hS dX10_digest_102
