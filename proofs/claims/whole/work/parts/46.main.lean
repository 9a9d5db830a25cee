theorem hd_X10_planned : yX10_planned.cls ≠ "java/lang/invoke/MethodHandle" ∧ yX10_planned.cls ≠ "java/lang/invoke/VarHandle" ∧ (parseMethodDescriptor yX10_planned.desc).map (fun d => d.parameters.length) = some 1 := by decide +kernel
abbrev rm_X10_planned : Room := { frames := 7, cells := 2, slots := 12, locals := 112 }
noncomputable def f_X10_planned (now : TState) (p1 : Int32) : Option (String ⊕ Int32) :=
  (f_X10_requirePlan now).bind (fun x1 => rx x1 ((f_X7_has now.2.2.2.1 p1).bind (fun x2 => (f_X10_requireIndex x2).bind (fun x3 => rx x3 ((f_X7_at now.2.2.2.1 p1).bind (fun x4 => some (.inr x4)))))))
set_option maxHeartbeats 4000000 in
set_option maxRecDepth 100000 in
theorem c_X10_planned (l : Launch) (hl0 : l.stackTraces = false) (G : GT) (hx_0 hhist_0 hdec_0 : Nat) (anow : Nat → Nat) (now : TState) (p1 : Int32) {r : String ⊕ Int32} (hf : f_X10_planned now p1 = some r) : CtP l yX10_planned (Cond.code yX10_planned cX10_planned 2 (some .int) :: lw_g) rm_X10_planned G [.ref hx_0, .int p1] (List.flatten [[(hx_0, .inr (7, [.ref (anow 0), .ref hhist_0, .ref hdec_0]))], [((anow 0), .inr (5, [.ref (anow 1), .ref (anow 3), .ref (anow 5), .ref (anow 12), .ref (anow 14), .ref (anow 16)]))], cBy G (anow 1) (anow 2) 64 now.1, cBy G (anow 3) (anow 4) 64 now.2.1, cDe G (anow 5) (anow 6) (anow 7) (anow 8) (anow 9) (anow 10) (anow 11) now.2.2.1, cPl G (anow 12) (anow 13) now.2.2.2.1, cBy G (anow 14) (anow 15) 200 now.2.2.2.2.1, [((anow 16), .inr (6, [.ref (anow 17), .int now.2.2.2.2.2.2.1, .int now.2.2.2.2.2.2.2]))], cBy G (anow 17) (anow 18) 64 now.2.2.2.2.2.1]) (pR (fun (r : Int32) => (some (.int r))) (fun (r : Int32) => (List.flatten [[(hx_0, .inr (7, [.ref (anow 0), .ref hhist_0, .ref hdec_0]))], [((anow 0), .inr (5, [.ref (anow 1), .ref (anow 3), .ref (anow 5), .ref (anow 12), .ref (anow 14), .ref (anow 16)]))], cBy G (anow 1) (anow 2) 64 now.1, cBy G (anow 3) (anow 4) 64 now.2.1, cDe G (anow 5) (anow 6) (anow 7) (anow 8) (anow 9) (anow 10) (anow 11) now.2.2.1, cPl G (anow 12) (anow 13) now.2.2.2.1, cBy G (anow 14) (anow 15) 200 now.2.2.2.2.1, [((anow 16), .inr (6, [.ref (anow 17), .int now.2.2.2.2.2.2.1, .int now.2.2.2.2.2.2.2]))], cBy G (anow 17) (anow 18) 64 now.2.2.2.2.2.1])) r) := by
  refine CtP.ofW (cc := cX10_planned) (maxL := 2) (ret := (some .int)) (own := RX10) (by decide) rfl rfl (Nat.le_of_ble_eq_true rfl) ?_
  intro p e s m args below meth c A hx hb hr hml hts hown hlocks hK hP hD hA hS hno hZ ls hl
  have hl : lv_has ls 2 [(0, .ref hx_0), (1, .int p1)] := hl
  generalize hX : pR _ _ r = X
  generalize hQ : xMQ below G _ A X args s _ _ = Q
  generalize hH : s.heap = H at hP ⊢
  have hS : va_S A s.heap H [] := by rw [← hH]; exact hS
  generalize ([] : List Loc) = locs at hS ⊢
  unfold f_X10_planned at hf
  refine lv_aload_n (pc := 0) hx hb dX10_planned_0 rfl (lv_at hl 0 rfl) ?_
  obtain ⟨x1, hcx1, hf⟩ := bn_some hf
  rw [← hQ]
  refine x_callV (x1 := x1) (rest := []) hx hb hml hown hts hK hZ (c_X10_requirePlan l hl0 G hx_0 hhist_0 hdec_0 anow now hcx1) wd_724 wd_1 wd_721 wd_723 ws_9 hd_X10_requirePlan ⟨(Nat.le_of_ble_eq_true rfl), (Nat.le_of_ble_eq_true rfl)⟩ hP hD hS hA [0, 1, 2, 3, 4, 5, 6, 7, 8, 9, 10, 11, 12, 13, 14, 15, 16, 17, 18, 19] rfl rfl hno hlocks (fun E e9 => by rw [← hX, rx_E hf E e9]; rfl) (Nat.le_of_ble_eq_true rfl) (Nat.le_of_ble_eq_true rfl) 7 0 rfl rfl rfl rfl hl.1 rfl (Nat.le_of_ble_eq_true rfl) dX10_planned_1 ⟨(Nat.le_of_ble_eq_true rfl), (Nat.le_of_ble_eq_true rfl)⟩ (fun e9 H locs hP hS => ?_)
  have hf := rx_n hf e9
  refine W.widen (k := 1) (n := 6) (Nat.le_of_ble_eq_true rfl) (Nat.le_of_ble_eq_true rfl) ?_
  rw [hQ]
  refine lv_aload_n (pc := 4) hx hb dX10_planned_4 rfl (lv_at hl 0 rfl) ?_
  refine va_get (pc := 5) (D := G.1) (ci := 7) (v := .ref (anow 0)) (C := RX10) (T := TX10) (N := 3) hx hb hts inX10 hown hK.1 hP 0 rfl rfl 0 (by decide) (hts _ wd_232) (fun _ h9 => h9) rfl dX10_planned_5 ?_
  refine va_getN (pc := 8) (D := G.1) (ci := 5) (v := .ref (anow 12)) (C := RX8) (T := TX8) (N := 6) hx hb hts inX8 hown hK.1 hP 1 rfl rfl 3 (by decide) (nfw_171 hK) (fun _ h9 => h9) rfl dX10_planned_8 ?_
  refine lv_iload_n (pc := 11) hx hb dX10_planned_11 rfl (lv_at hl 1 rfl) ?_
  obtain ⟨x2, hcx2, hf⟩ := bn_some hf
  refine g_callVB (pc := 12) (bs' := [[(hx_0, .inr (7, [.ref (anow 0), .ref hhist_0, .ref hdec_0]))], [((anow 0), .inr (5, [.ref (anow 1), .ref (anow 3), .ref (anow 5), .ref (anow 12), .ref (anow 14), .ref (anow 16)]))], cBy G (anow 1) (anow 2) 64 now.1, cBy G (anow 3) (anow 4) 64 now.2.1, cDe G (anow 5) (anow 6) (anow 7) (anow 8) (anow 9) (anow 10) (anow 11) now.2.2.1, cPl G (anow 12) (anow 13) now.2.2.2.1, cBy G (anow 14) (anow 15) 200 now.2.2.2.2.1, [((anow 16), .inr (6, [.ref (anow 17), .int now.2.2.2.2.2.2.1, .int now.2.2.2.2.2.2.2]))], cBy G (anow 17) (anow 18) 64 now.2.2.2.2.2.1]) (rest := []) hx hb hml hown hts hK (c_X7_hasB l G (anow 12) (anow 13) now.2.2.2.1 p1 hcx2) wd_486 wd_6 wd_726 wd_484 wd_485 hd_X7_has ⟨rfl, rfl, Nat.le_of_ble_eq_true rfl, Nat.le_of_ble_eq_true rfl⟩ hP hD hS hA [5] rfl (blk_D [5] rfl hD rfl) rfl rfl 4 13 rfl rfl rfl rfl hl.1 rfl (Nat.le_of_ble_eq_true rfl) dX10_planned_12 ⟨Nat.le_of_ble_eq_true rfl, Nat.le_of_ble_eq_true rfl⟩ (fun H locs hP hD hS => ?_)
  obtain ⟨x3, hcx3, hf⟩ := bn_some hf
  rw [← hQ]
  refine x_callS (x1 := x3) (rest := []) hx hb hml hown hts hK hZ (c_X10_requireIndex l hl0 G  x2 hcx3) wd_617 wd_1 wd_615 wd_616 hd_X10_requireIndex ⟨(Nat.le_of_ble_eq_true rfl), (Nat.le_of_ble_eq_true rfl)⟩ hP hD hS hA [] rfl rfl hno hlocks (fun E e9 => by rw [← hX, rx_E hf E e9]; rfl) (Nat.le_of_ble_eq_true rfl) (Nat.le_of_ble_eq_true rfl) rfl hl.1 rfl (Nat.le_of_ble_eq_true rfl) dX10_planned_15 ⟨(Nat.le_of_ble_eq_true rfl), (Nat.le_of_ble_eq_true rfl)⟩ (fun e9 H locs hP hS => ?_)
  have hf := rx_n hf e9
  refine W.widen (k := 2) (n := 12) (Nat.le_of_ble_eq_true rfl) (Nat.le_of_ble_eq_true rfl) ?_
  rw [hQ]
  refine lv_aload_n (pc := 18) hx hb dX10_planned_18 rfl (lv_at hl 0 rfl) ?_
  refine va_get (pc := 19) (D := G.1) (ci := 7) (v := .ref (anow 0)) (C := RX10) (T := TX10) (N := 3) hx hb hts inX10 hown hK.1 hP 0 rfl rfl 0 (by decide) (hts _ wd_232) (fun _ h9 => h9) rfl dX10_planned_19 ?_
  refine va_getN (pc := 22) (D := G.1) (ci := 5) (v := .ref (anow 12)) (C := RX8) (T := TX8) (N := 6) hx hb hts inX8 hown hK.1 hP 1 rfl rfl 3 (by decide) (nfw_171 hK) (fun _ h9 => h9) rfl dX10_planned_22 ?_
  refine lv_iload_n (pc := 25) hx hb dX10_planned_25 rfl (lv_at hl 1 rfl) ?_
  obtain ⟨x4, hcx4, hf⟩ := bn_some hf
  refine g_callVB (pc := 26) (bs' := [[(hx_0, .inr (7, [.ref (anow 0), .ref hhist_0, .ref hdec_0]))], [((anow 0), .inr (5, [.ref (anow 1), .ref (anow 3), .ref (anow 5), .ref (anow 12), .ref (anow 14), .ref (anow 16)]))], cBy G (anow 1) (anow 2) 64 now.1, cBy G (anow 3) (anow 4) 64 now.2.1, cDe G (anow 5) (anow 6) (anow 7) (anow 8) (anow 9) (anow 10) (anow 11) now.2.2.1, cPl G (anow 12) (anow 13) now.2.2.2.1, cBy G (anow 14) (anow 15) 200 now.2.2.2.2.1, [((anow 16), .inr (6, [.ref (anow 17), .int now.2.2.2.2.2.2.1, .int now.2.2.2.2.2.2.2]))], cBy G (anow 17) (anow 18) 64 now.2.2.2.2.2.1]) (rest := []) hx hb hml hown hts hK (c_X7_atB l G (anow 12) (anow 13) now.2.2.2.1 p1 hcx4) wd_482 wd_6 wd_727 wd_480 wd_481 hd_X7_at ⟨rfl, rfl, Nat.le_of_ble_eq_true rfl, Nat.le_of_ble_eq_true rfl⟩ hP hD hS hA [5] rfl (blk_D [5] rfl hD rfl) rfl rfl 4 13 rfl rfl rfl rfl hl.1 rfl (Nat.le_of_ble_eq_true rfl) dX10_planned_26 ⟨Nat.le_of_ble_eq_true rfl, Nat.le_of_ble_eq_true rfl⟩ (fun H locs hP hD hS => ?_)
  have hf := Option.some.inj hf; subst hf
  rw [← hQ]
  exact x_iret hx hb hr hlocks hX.symm (Nat.le_of_ble_eq_true rfl) (Nat.le_of_ble_eq_true rfl) hP hS dX10_planned_29
theorem hd_X10_converted : yX10_converted.cls ≠ "java/lang/invoke/MethodHandle" ∧ yX10_converted.cls ≠ "java/lang/invoke/VarHandle" ∧ (parseMethodDescriptor yX10_converted.desc).map (fun d => d.parameters.length) = some 0 := by decide +kernel
abbrev rm_X10_converted : Room := { frames := 7, cells := 1, slots := 6, locals := 112 }
noncomputable def f_X10_converted (now : TState) : Option (String ⊕ Int32) :=
  (f_X10_requirePlan now).bind (fun x1 => rx x1 (some (.inr now.2.2.2.1.2.2.2.1)))
set_option maxHeartbeats 4000000 in
set_option maxRecDepth 100000 in
theorem c_X10_converted (l : Launch) (hl0 : l.stackTraces = false) (G : GT) (hx_0 hhist_0 hdec_0 : Nat) (anow : Nat → Nat) (now : TState) {r : String ⊕ Int32} (hf : f_X10_converted now = some r) : CtP l yX10_converted (Cond.code yX10_converted cX10_converted 1 (some .int) :: lw_g) rm_X10_converted G [.ref hx_0] (List.flatten [[(hx_0, .inr (7, [.ref (anow 0), .ref hhist_0, .ref hdec_0]))], [((anow 0), .inr (5, [.ref (anow 1), .ref (anow 3), .ref (anow 5), .ref (anow 12), .ref (anow 14), .ref (anow 16)]))], cBy G (anow 1) (anow 2) 64 now.1, cBy G (anow 3) (anow 4) 64 now.2.1, cDe G (anow 5) (anow 6) (anow 7) (anow 8) (anow 9) (anow 10) (anow 11) now.2.2.1, cPl G (anow 12) (anow 13) now.2.2.2.1, cBy G (anow 14) (anow 15) 200 now.2.2.2.2.1, [((anow 16), .inr (6, [.ref (anow 17), .int now.2.2.2.2.2.2.1, .int now.2.2.2.2.2.2.2]))], cBy G (anow 17) (anow 18) 64 now.2.2.2.2.2.1]) (pR (fun (r : Int32) => (some (.int r))) (fun (r : Int32) => (List.flatten [[(hx_0, .inr (7, [.ref (anow 0), .ref hhist_0, .ref hdec_0]))], [((anow 0), .inr (5, [.ref (anow 1), .ref (anow 3), .ref (anow 5), .ref (anow 12), .ref (anow 14), .ref (anow 16)]))], cBy G (anow 1) (anow 2) 64 now.1, cBy G (anow 3) (anow 4) 64 now.2.1, cDe G (anow 5) (anow 6) (anow 7) (anow 8) (anow 9) (anow 10) (anow 11) now.2.2.1, cPl G (anow 12) (anow 13) now.2.2.2.1, cBy G (anow 14) (anow 15) 200 now.2.2.2.2.1, [((anow 16), .inr (6, [.ref (anow 17), .int now.2.2.2.2.2.2.1, .int now.2.2.2.2.2.2.2]))], cBy G (anow 17) (anow 18) 64 now.2.2.2.2.2.1])) r) := by
  refine CtP.ofW (cc := cX10_converted) (maxL := 1) (ret := (some .int)) (own := RX10) (by decide) rfl rfl (Nat.le_of_ble_eq_true rfl) ?_
  intro p e s m args below meth c A hx hb hr hml hts hown hlocks hK hP hD hA hS hno hZ ls hl
  have hl : lv_has ls 1 [(0, .ref hx_0)] := hl
  generalize hX : pR _ _ r = X
  generalize hQ : xMQ below G _ A X args s _ _ = Q
  generalize hH : s.heap = H at hP ⊢
  have hS : va_S A s.heap H [] := by rw [← hH]; exact hS
  generalize ([] : List Loc) = locs at hS ⊢
  unfold f_X10_converted at hf
  refine lv_aload_n (pc := 0) hx hb dX10_converted_0 rfl (lv_at hl 0 rfl) ?_
  obtain ⟨x1, hcx1, hf⟩ := bn_some hf
  rw [← hQ]
  refine x_callV (x1 := x1) (rest := []) hx hb hml hown hts hK hZ (c_X10_requirePlan l hl0 G hx_0 hhist_0 hdec_0 anow now hcx1) wd_724 wd_1 wd_721 wd_723 ws_9 hd_X10_requirePlan ⟨(Nat.le_of_ble_eq_true rfl), (Nat.le_of_ble_eq_true rfl)⟩ hP hD hS hA [0, 1, 2, 3, 4, 5, 6, 7, 8, 9, 10, 11, 12, 13, 14, 15, 16, 17, 18, 19] rfl rfl hno hlocks (fun E e9 => by rw [← hX, rx_E hf E e9]; rfl) (Nat.le_of_ble_eq_true rfl) (Nat.le_of_ble_eq_true rfl) 7 0 rfl rfl rfl rfl hl.1 rfl (Nat.le_of_ble_eq_true rfl) dX10_converted_1 ⟨(Nat.le_of_ble_eq_true rfl), (Nat.le_of_ble_eq_true rfl)⟩ (fun e9 H locs hP hS => ?_)
  have hf := rx_n hf e9
  refine W.widen (k := 1) (n := 6) (Nat.le_of_ble_eq_true rfl) (Nat.le_of_ble_eq_true rfl) ?_
  rw [hQ]
  refine lv_aload_n (pc := 4) hx hb dX10_converted_4 rfl (lv_at hl 0 rfl) ?_
  refine va_get (pc := 5) (D := G.1) (ci := 7) (v := .ref (anow 0)) (C := RX10) (T := TX10) (N := 3) hx hb hts inX10 hown hK.1 hP 0 rfl rfl 0 (by decide) (hts _ wd_232) (fun _ h9 => h9) rfl dX10_converted_5 ?_
  refine va_getN (pc := 8) (D := G.1) (ci := 5) (v := .ref (anow 12)) (C := RX8) (T := TX8) (N := 6) hx hb hts inX8 hown hK.1 hP 1 rfl rfl 3 (by decide) (nfw_171 hK) (fun _ h9 => h9) rfl dX10_converted_8 ?_
  refine va_getN (pc := 11) (D := G.1) (ci := 4) (v := .int now.2.2.2.1.2.2.2.1) (C := RX7) (T := TX7) (N := 5) hx hb hts inX7 hown hK.1 hP 13 rfl rfl 3 (by decide) (nfw_123 hK) (fun _ h9 => h9) rfl dX10_converted_11 ?_
  have hf := Option.some.inj hf; subst hf
  rw [← hQ]
  exact x_iret hx hb hr hlocks hX.symm (Nat.le_of_ble_eq_true rfl) (Nat.le_of_ble_eq_true rfl) hP hS dX10_converted_14
theorem hd_X10_loss : yX10_loss.cls ≠ "java/lang/invoke/MethodHandle" ∧ yX10_loss.cls ≠ "java/lang/invoke/VarHandle" ∧ (parseMethodDescriptor yX10_loss.desc).map (fun d => d.parameters.length) = some 0 := by decide +kernel
abbrev rm_X10_loss : Room := { frames := 7, cells := 1, slots := 6, locals := 112 }
noncomputable def f_X10_loss (now : TState) : Option (String ⊕ Int32) :=
  (f_X10_requirePlan now).bind (fun x1 => rx x1 (some (.inr now.2.2.2.1.2.2.2.2)))
set_option maxHeartbeats 4000000 in
set_option maxRecDepth 100000 in
theorem c_X10_loss (l : Launch) (hl0 : l.stackTraces = false) (G : GT) (hx_0 hhist_0 hdec_0 : Nat) (anow : Nat → Nat) (now : TState) {r : String ⊕ Int32} (hf : f_X10_loss now = some r) : CtP l yX10_loss (Cond.code yX10_loss cX10_loss 1 (some .int) :: lw_g) rm_X10_loss G [.ref hx_0] (List.flatten [[(hx_0, .inr (7, [.ref (anow 0), .ref hhist_0, .ref hdec_0]))], [((anow 0), .inr (5, [.ref (anow 1), .ref (anow 3), .ref (anow 5), .ref (anow 12), .ref (anow 14), .ref (anow 16)]))], cBy G (anow 1) (anow 2) 64 now.1, cBy G (anow 3) (anow 4) 64 now.2.1, cDe G (anow 5) (anow 6) (anow 7) (anow 8) (anow 9) (anow 10) (anow 11) now.2.2.1, cPl G (anow 12) (anow 13) now.2.2.2.1, cBy G (anow 14) (anow 15) 200 now.2.2.2.2.1, [((anow 16), .inr (6, [.ref (anow 17), .int now.2.2.2.2.2.2.1, .int now.2.2.2.2.2.2.2]))], cBy G (anow 17) (anow 18) 64 now.2.2.2.2.2.1]) (pR (fun (r : Int32) => (some (.int r))) (fun (r : Int32) => (List.flatten [[(hx_0, .inr (7, [.ref (anow 0), .ref hhist_0, .ref hdec_0]))], [((anow 0), .inr (5, [.ref (anow 1), .ref (anow 3), .ref (anow 5), .ref (anow 12), .ref (anow 14), .ref (anow 16)]))], cBy G (anow 1) (anow 2) 64 now.1, cBy G (anow 3) (anow 4) 64 now.2.1, cDe G (anow 5) (anow 6) (anow 7) (anow 8) (anow 9) (anow 10) (anow 11) now.2.2.1, cPl G (anow 12) (anow 13) now.2.2.2.1, cBy G (anow 14) (anow 15) 200 now.2.2.2.2.1, [((anow 16), .inr (6, [.ref (anow 17), .int now.2.2.2.2.2.2.1, .int now.2.2.2.2.2.2.2]))], cBy G (anow 17) (anow 18) 64 now.2.2.2.2.2.1])) r) := by
  refine CtP.ofW (cc := cX10_loss) (maxL := 1) (ret := (some .int)) (own := RX10) (by decide) rfl rfl (Nat.le_of_ble_eq_true rfl) ?_
  intro p e s m args below meth c A hx hb hr hml hts hown hlocks hK hP hD hA hS hno hZ ls hl
  have hl : lv_has ls 1 [(0, .ref hx_0)] := hl
  generalize hX : pR _ _ r = X
  generalize hQ : xMQ below G _ A X args s _ _ = Q
  generalize hH : s.heap = H at hP ⊢
  have hS : va_S A s.heap H [] := by rw [← hH]; exact hS
  generalize ([] : List Loc) = locs at hS ⊢
  unfold f_X10_loss at hf
  refine lv_aload_n (pc := 0) hx hb dX10_loss_0 rfl (lv_at hl 0 rfl) ?_
  obtain ⟨x1, hcx1, hf⟩ := bn_some hf
  rw [← hQ]
  refine x_callV (x1 := x1) (rest := []) hx hb hml hown hts hK hZ (c_X10_requirePlan l hl0 G hx_0 hhist_0 hdec_0 anow now hcx1) wd_724 wd_1 wd_721 wd_723 ws_9 hd_X10_requirePlan ⟨(Nat.le_of_ble_eq_true rfl), (Nat.le_of_ble_eq_true rfl)⟩ hP hD hS hA [0, 1, 2, 3, 4, 5, 6, 7, 8, 9, 10, 11, 12, 13, 14, 15, 16, 17, 18, 19] rfl rfl hno hlocks (fun E e9 => by rw [← hX, rx_E hf E e9]; rfl) (Nat.le_of_ble_eq_true rfl) (Nat.le_of_ble_eq_true rfl) 7 0 rfl rfl rfl rfl hl.1 rfl (Nat.le_of_ble_eq_true rfl) dX10_loss_1 ⟨(Nat.le_of_ble_eq_true rfl), (Nat.le_of_ble_eq_true rfl)⟩ (fun e9 H locs hP hS => ?_)
  have hf := rx_n hf e9
  refine W.widen (k := 1) (n := 6) (Nat.le_of_ble_eq_true rfl) (Nat.le_of_ble_eq_true rfl) ?_
  rw [hQ]
  refine lv_aload_n (pc := 4) hx hb dX10_loss_4 rfl (lv_at hl 0 rfl) ?_
  refine va_get (pc := 5) (D := G.1) (ci := 7) (v := .ref (anow 0)) (C := RX10) (T := TX10) (N := 3) hx hb hts inX10 hown hK.1 hP 0 rfl rfl 0 (by decide) (hts _ wd_232) (fun _ h9 => h9) rfl dX10_loss_5 ?_
  refine va_getN (pc := 8) (D := G.1) (ci := 5) (v := .ref (anow 12)) (C := RX8) (T := TX8) (N := 6) hx hb hts inX8 hown hK.1 hP 1 rfl rfl 3 (by decide) (nfw_171 hK) (fun _ h9 => h9) rfl dX10_loss_8 ?_
  refine va_getN (pc := 11) (D := G.1) (ci := 4) (v := .int now.2.2.2.1.2.2.2.2) (C := RX7) (T := TX7) (N := 5) hx hb hts inX7 hown hK.1 hP 13 rfl rfl 4 (by decide) (nfw_125 hK) (fun _ h9 => h9) rfl dX10_loss_11 ?_
  have hf := Option.some.inj hf; subst hf
  rw [← hQ]
  exact x_iret hx hb hr hlocks hX.symm (Nat.le_of_ble_eq_true rfl) (Nat.le_of_ble_eq_true rfl) hP hS dX10_loss_14
theorem hd_X10_leastLoss : yX10_leastLoss.cls ≠ "java/lang/invoke/MethodHandle" ∧ yX10_leastLoss.cls ≠ "java/lang/invoke/VarHandle" ∧ (parseMethodDescriptor yX10_leastLoss.desc).map (fun d => d.parameters.length) = some 0 := by decide +kernel
abbrev rm_X10_leastLoss : Room := { frames := 47, cells := 0, slots := 0, locals := 1279 }
noncomputable def f_X10_leastLoss (now : TState) : Option (Int32 × TState) :=
  (f_X2_least now.2.2.1).bind (fun x1 => some (x1.1, (now.1, now.2.1, x1.2, now.2.2.2.1, now.2.2.2.2.1, now.2.2.2.2.2)))
set_option maxHeartbeats 4000000 in
set_option maxRecDepth 100000 in
theorem c_X10_leastLoss (l : Launch) (G : GT) (hx_0 hhist_0 hdec_0 : Nat) (anow : Nat → Nat) (now : TState) {r : Int32 × TState} (hf : f_X10_leastLoss now = some r) : Ct l yX10_leastLoss (Cond.code yX10_leastLoss cX10_leastLoss 1 (some .int) :: lw_g) rm_X10_leastLoss G [.ref hx_0] (List.flatten [[(hx_0, .inr (7, [.ref (anow 0), .ref hhist_0, .ref hdec_0]))], [((anow 0), .inr (5, [.ref (anow 1), .ref (anow 3), .ref (anow 5), .ref (anow 12), .ref (anow 14), .ref (anow 16)]))], cBy G (anow 1) (anow 2) 64 now.1, cBy G (anow 3) (anow 4) 64 now.2.1, cDe G (anow 5) (anow 6) (anow 7) (anow 8) (anow 9) (anow 10) (anow 11) now.2.2.1, cPl G (anow 12) (anow 13) now.2.2.2.1, cBy G (anow 14) (anow 15) 200 now.2.2.2.2.1, [((anow 16), .inr (6, [.ref (anow 17), .int now.2.2.2.2.2.2.1, .int now.2.2.2.2.2.2.2]))], cBy G (anow 17) (anow 18) 64 now.2.2.2.2.2.1]) (some (.int r.1)) (List.flatten [[(hx_0, .inr (7, [.ref (anow 0), .ref hhist_0, .ref hdec_0]))], [((anow 0), .inr (5, [.ref (anow 1), .ref (anow 3), .ref (anow 5), .ref (anow 12), .ref (anow 14), .ref (anow 16)]))], cBy G (anow 1) (anow 2) 64 r.2.1, cBy G (anow 3) (anow 4) 64 r.2.2.1, cDe G (anow 5) (anow 6) (anow 7) (anow 8) (anow 9) (anow 10) (anow 11) r.2.2.2.1, cPl G (anow 12) (anow 13) r.2.2.2.2.1, cBy G (anow 14) (anow 15) 200 r.2.2.2.2.2.1, [((anow 16), .inr (6, [.ref (anow 17), .int r.2.2.2.2.2.2.2.1, .int r.2.2.2.2.2.2.2.2]))], cBy G (anow 17) (anow 18) 64 r.2.2.2.2.2.2.1]) := by
  refine Ct.ofW (cc := cX10_leastLoss) (maxL := 1) (ret := (some .int)) (own := RX10) (by decide) rfl rfl (Nat.le_of_ble_eq_true rfl) ?_
  intro p e s m args below meth c A hx hb hr hml hts hown hlocks hK hP hD hA hS ls hl
  have hl : lv_has ls 1 [(0, .ref hx_0)] := hl
  generalize hQ : gMQ below G _ _ A args s = Q
  generalize hH : s.heap = H at hP ⊢
  have hS : va_S A s.heap H [] := by rw [← hH]; exact hS
  generalize ([] : List Loc) = locs at hS ⊢
  unfold f_X10_leastLoss at hf
  refine lv_aload_n (pc := 0) hx hb dX10_leastLoss_0 rfl (lv_at hl 0 rfl) ?_
  refine va_get (pc := 1) (D := G.1) (ci := 7) (v := .ref (anow 0)) (C := RX10) (T := TX10) (N := 3) hx hb hts inX10 hown hK.1 hP 0 rfl rfl 0 (by decide) (hts _ wd_232) (fun _ h9 => h9) rfl dX10_leastLoss_1 ?_
  refine va_getN (pc := 4) (D := G.1) (ci := 5) (v := .ref (anow 5)) (C := RX8) (T := TX8) (N := 6) hx hb hts inX8 hown hK.1 hP 1 rfl rfl 2 (by decide) (nfw_167 hK) (fun _ h9 => h9) rfl dX10_leastLoss_4 ?_
  obtain ⟨x1, hcx1, hf⟩ := bn_some hf
  refine g_callVB (pc := 7) (bs' := [[(hx_0, .inr (7, [.ref (anow 0), .ref hhist_0, .ref hdec_0]))], [((anow 0), .inr (5, [.ref (anow 1), .ref (anow 3), .ref (anow 5), .ref (anow 12), .ref (anow 14), .ref (anow 16)]))], cBy G (anow 1) (anow 2) 64 now.1, cBy G (anow 3) (anow 4) 64 now.2.1, cDe G (anow 5) (anow 6) (anow 7) (anow 8) (anow 9) (anow 10) (anow 11) x1.2, cPl G (anow 12) (anow 13) now.2.2.2.1, cBy G (anow 14) (anow 15) 200 now.2.2.2.2.1, [((anow 16), .inr (6, [.ref (anow 17), .int now.2.2.2.2.2.2.1, .int now.2.2.2.2.2.2.2]))], cBy G (anow 17) (anow 18) 64 now.2.2.2.2.2.1]) (rest := []) hx hb hml hown hts hK (c_X2_leastB l G (anow 5) (anow 6) (anow 7) (anow 8) (anow 9) (anow 10) (anow 11) now.2.2.1 hcx1) wd_374 wd_5 wd_371 wd_372 wd_373 hd_X2_least ⟨rfl, rfl, Nat.le_of_ble_eq_true rfl, Nat.le_of_ble_eq_true rfl⟩ hP hD hS hA [4] rfl (blk_D [4] rfl hD rfl) rfl rfl 2 6 rfl rfl rfl rfl hl.1 rfl (Nat.le_of_ble_eq_true rfl) dX10_leastLoss_7 ⟨Nat.zero_le _, Nat.zero_le _⟩ (fun H locs hP hD hS => ?_)
  have hf := Option.some.inj hf; subst hf
  rw [← hQ]
  exact g_iret hx hb hr hlocks hP hS dX10_leastLoss_10
theorem hd_X10_encode : yX10_encode.cls ≠ "java/lang/invoke/MethodHandle" ∧ yX10_encode.cls ≠ "java/lang/invoke/VarHandle" ∧ (parseMethodDescriptor yX10_encode.desc).map (fun d => d.parameters.length) = some 0 := by decide +kernel
abbrev rm_X10_encode : Room := { frames := 7, cells := 2, slots := 12, locals := 148 }
noncomputable def f_X10_encode (now : TState) (hist : THistory) : Option (String ⊕ (Int32 × TState × THistory)) :=
  (f_X10_requirePlan now).bind (fun x1 => rx x1 ((f_X3_lengthOf now).bind (fun x2 => br (x2 ≤ (200 : Int32)) ((f_X4_save hist now).bind (fun x3 => (f_X3_fill now).bind (fun x4 => some (.inr (x4.2.2.2.2.1.2, x4, x3))))) (some (.inl "java/lang/IllegalStateException")))))
set_option maxHeartbeats 4000000 in
set_option maxRecDepth 100000 in
theorem c_X10_encode (l : Launch) (hl0 : l.stackTraces = false) (G : GT) (hx_0 hdec_0 : Nat) (anow : Nat → Nat) (hhist_0 hhist_1 : Nat) (ahist0 ahist1 ahist2 ahist3 : Nat → Nat) (now : TState) (hist : THistory) {r : String ⊕ (Int32 × TState × THistory)} (hf : f_X10_encode now hist = some r) : CtP l yX10_encode (Cond.code yX10_encode cX10_encode 1 (some .int) :: lw_g) rm_X10_encode G [.ref hx_0] (List.flatten [[(hx_0, .inr (7, [.ref (anow 0), .ref hhist_0, .ref hdec_0]))], [((anow 0), .inr (5, [.ref (anow 1), .ref (anow 3), .ref (anow 5), .ref (anow 12), .ref (anow 14), .ref (anow 16)]))], cBy G (anow 1) (anow 2) 64 now.1, cBy G (anow 3) (anow 4) 64 now.2.1, cDe G (anow 5) (anow 6) (anow 7) (anow 8) (anow 9) (anow 10) (anow 11) now.2.2.1, cPl G (anow 12) (anow 13) now.2.2.2.1, cBy G (anow 14) (anow 15) 200 now.2.2.2.2.1, [((anow 16), .inr (6, [.ref (anow 17), .int now.2.2.2.2.2.2.1, .int now.2.2.2.2.2.2.2]))], cBy G (anow 17) (anow 18) 64 now.2.2.2.2.2.1, cHist G hhist_0 hhist_1 ahist0 ahist1 ahist2 ahist3 hist]) (pR (fun (r : (Int32 × TState × THistory)) => (some (.int r.1))) (fun (r : (Int32 × TState × THistory)) => (List.flatten [[(hx_0, .inr (7, [.ref (anow 0), .ref hhist_0, .ref hdec_0]))], [((anow 0), .inr (5, [.ref (anow 1), .ref (anow 3), .ref (anow 5), .ref (anow 12), .ref (anow 14), .ref (anow 16)]))], cBy G (anow 1) (anow 2) 64 r.2.1.1, cBy G (anow 3) (anow 4) 64 r.2.1.2.1, cDe G (anow 5) (anow 6) (anow 7) (anow 8) (anow 9) (anow 10) (anow 11) r.2.1.2.2.1, cPl G (anow 12) (anow 13) r.2.1.2.2.2.1, cBy G (anow 14) (anow 15) 200 r.2.1.2.2.2.2.1, [((anow 16), .inr (6, [.ref (anow 17), .int r.2.1.2.2.2.2.2.2.1, .int r.2.1.2.2.2.2.2.2.2]))], cBy G (anow 17) (anow 18) 64 r.2.1.2.2.2.2.2.1, cHist G hhist_0 hhist_1 ahist0 ahist1 ahist2 ahist3 r.2.2])) r) := by
  refine CtP.ofW (cc := cX10_encode) (maxL := 1) (ret := (some .int)) (own := RX10) (by decide) rfl rfl (Nat.le_of_ble_eq_true rfl) ?_
  intro p e s m args below meth c A hx hb hr hml hts hown hlocks hK hP hD hA hS hno hZ ls hl
  have hl : lv_has ls 1 [(0, .ref hx_0)] := hl
  generalize hX : pR _ _ r = X
  generalize hQ : xMQ below G _ A X args s _ _ = Q
  generalize hH : s.heap = H at hP ⊢
  have hS : va_S A s.heap H [] := by rw [← hH]; exact hS
  generalize ([] : List Loc) = locs at hS ⊢
  unfold f_X10_encode at hf
  refine lv_aload_n (pc := 0) hx hb dX10_encode_0 rfl (lv_at hl 0 rfl) ?_
  obtain ⟨x1, hcx1, hf⟩ := bn_some hf
  rw [← hQ]
  refine x_callV (x1 := x1) (rest := []) hx hb hml hown hts hK hZ (c_X10_requirePlan l hl0 G hx_0 hhist_0 hdec_0 anow now hcx1) wd_724 wd_1 wd_721 wd_723 ws_9 hd_X10_requirePlan ⟨(Nat.le_of_ble_eq_true rfl), (Nat.le_of_ble_eq_true rfl)⟩ hP hD hS hA [0, 1, 2, 3, 4, 5, 6, 7, 8, 9, 10, 11, 12, 13, 14, 15, 16, 17, 18, 19] rfl rfl hno hlocks (fun E e9 => by rw [← hX, rx_E hf E e9]; rfl) (Nat.le_of_ble_eq_true rfl) (Nat.le_of_ble_eq_true rfl) 7 0 rfl rfl rfl rfl hl.1 rfl (Nat.le_of_ble_eq_true rfl) dX10_encode_1 ⟨(Nat.le_of_ble_eq_true rfl), (Nat.le_of_ble_eq_true rfl)⟩ (fun e9 H locs hP hS => ?_)
  have hf := rx_n hf e9
  refine W.widen (k := 1) (n := 6) (Nat.le_of_ble_eq_true rfl) (Nat.le_of_ble_eq_true rfl) ?_
  rw [hQ]
  refine lv_aload_n (pc := 4) hx hb dX10_encode_4 rfl (lv_at hl 0 rfl) ?_
  refine va_get (pc := 5) (D := G.1) (ci := 7) (v := .ref (anow 0)) (C := RX10) (T := TX10) (N := 3) hx hb hts inX10 hown hK.1 hP 0 rfl rfl 0 (by decide) (hts _ wd_232) (fun _ h9 => h9) rfl dX10_encode_5 ?_
  obtain ⟨x2, hcx2, hf⟩ := bn_some hf
  refine g_callSB (pc := 8) (bs' := [[(hx_0, .inr (7, [.ref (anow 0), .ref hhist_0, .ref hdec_0]))], [((anow 0), .inr (5, [.ref (anow 1), .ref (anow 3), .ref (anow 5), .ref (anow 12), .ref (anow 14), .ref (anow 16)]))], cBy G (anow 1) (anow 2) 64 now.1, cBy G (anow 3) (anow 4) 64 now.2.1, cDe G (anow 5) (anow 6) (anow 7) (anow 8) (anow 9) (anow 10) (anow 11) now.2.2.1, cPl G (anow 12) (anow 13) now.2.2.2.1, cBy G (anow 14) (anow 15) 200 now.2.2.2.2.1, [((anow 16), .inr (6, [.ref (anow 17), .int now.2.2.2.2.2.2.1, .int now.2.2.2.2.2.2.2]))], cBy G (anow 17) (anow 18) 64 now.2.2.2.2.2.1, cHist G hhist_0 hhist_1 ahist0 ahist1 ahist2 ahist3 hist]) (rest := []) hx hb hml hown hts hK (c_X3_lengthOfB l G anow now hcx2) wd_751 wd_21 wd_749 wd_750 hd_X3_lengthOf ⟨rfl, rfl, Nat.le_of_ble_eq_true rfl, Nat.le_of_ble_eq_true rfl⟩ hP hD hS hA [1, 2, 3, 4, 5, 6, 7, 8] rfl (blk_D [1, 2, 3, 4, 5, 6, 7, 8] rfl hD rfl) rfl rfl rfl hl.1 rfl (Nat.le_of_ble_eq_true rfl) dX10_encode_8 ⟨Nat.le_of_ble_eq_true rfl, Nat.le_of_ble_eq_true rfl⟩ (fun H locs hP hD hS => ?_)
  refine lv_sipush (pc := 11) (v := (200 : Int32)) hx hb dX10_encode_11 (by decide) ?_
  refine lv_icmp_le (pc := 14) (tgt := 27) hx hb dX10_encode_14 (by decide) (fun hc => ?_) (fun hc => ?_)
  · have hf := br_y hc hf
    refine lv_aload_n (pc := 27) hx hb dX10_encode_27 rfl (lv_at hl 0 rfl) ?_
    refine va_get (pc := 28) (D := G.1) (ci := 7) (v := .ref hhist_0) (C := RX10) (T := TX10) (N := 3) hx hb hts inX10 hown hK.1 hP 0 rfl rfl 1 (by decide) (hts _ wd_233) (fun _ h9 => h9) rfl dX10_encode_28 ?_
    refine lv_aload_n (pc := 31) hx hb dX10_encode_31 rfl (lv_at hl 0 rfl) ?_
    refine va_get (pc := 32) (D := G.1) (ci := 7) (v := .ref (anow 0)) (C := RX10) (T := TX10) (N := 3) hx hb hts inX10 hown hK.1 hP 0 rfl rfl 0 (by decide) (hts _ wd_232) (fun _ h9 => h9) rfl dX10_encode_32 ?_
    obtain ⟨x3, hcx3, hf⟩ := bn_some hf
    refine g_callVB (pc := 35) (bs' := [[(hx_0, .inr (7, [.ref (anow 0), .ref hhist_0, .ref hdec_0]))], [((anow 0), .inr (5, [.ref (anow 1), .ref (anow 3), .ref (anow 5), .ref (anow 12), .ref (anow 14), .ref (anow 16)]))], cBy G (anow 1) (anow 2) 64 now.1, cBy G (anow 3) (anow 4) 64 now.2.1, cDe G (anow 5) (anow 6) (anow 7) (anow 8) (anow 9) (anow 10) (anow 11) now.2.2.1, cPl G (anow 12) (anow 13) now.2.2.2.1, cBy G (anow 14) (anow 15) 200 now.2.2.2.2.1, [((anow 16), .inr (6, [.ref (anow 17), .int now.2.2.2.2.2.2.1, .int now.2.2.2.2.2.2.2]))], cBy G (anow 17) (anow 18) 64 now.2.2.2.2.2.1, cHist G hhist_0 hhist_1 ahist0 ahist1 ahist2 ahist3 x3]) (rest := []) hx hb hml hown hts hK (c_X4_saveB l G hhist_0 hhist_1 ahist0 ahist1 ahist2 ahist3 anow hist now hcx3) wd_249 wd_8 wd_246 wd_247 wd_248 hd_X4_save ⟨rfl, rfl, Nat.le_of_ble_eq_true rfl, Nat.le_of_ble_eq_true rfl⟩ hP hD hS hA [9, 1, 2, 3, 4, 5, 6, 7, 8] rfl (blk_D [9, 1, 2, 3, 4, 5, 6, 7, 8] rfl hD rfl) rfl rfl 3 20 rfl rfl rfl rfl hl.1 rfl (Nat.le_of_ble_eq_true rfl) dX10_encode_35 ⟨Nat.le_of_ble_eq_true rfl, Nat.le_of_ble_eq_true rfl⟩ (fun H locs hP hD hS => ?_)
    refine lv_aload_n (pc := 38) hx hb dX10_encode_38 rfl (lv_at hl 0 rfl) ?_
    refine va_get (pc := 39) (D := G.1) (ci := 7) (v := .ref (anow 0)) (C := RX10) (T := TX10) (N := 3) hx hb hts inX10 hown hK.1 hP 0 rfl rfl 0 (by decide) (hts _ wd_232) (fun _ h9 => h9) rfl dX10_encode_39 ?_
    obtain ⟨x4, hcx4, hf⟩ := bn_some hf
    refine g_callSB (pc := 42) (bs' := [[(hx_0, .inr (7, [.ref (anow 0), .ref hhist_0, .ref hdec_0]))], [((anow 0), .inr (5, [.ref (anow 1), .ref (anow 3), .ref (anow 5), .ref (anow 12), .ref (anow 14), .ref (anow 16)]))], cBy G (anow 1) (anow 2) 64 x4.1, cBy G (anow 3) (anow 4) 64 x4.2.1, cDe G (anow 5) (anow 6) (anow 7) (anow 8) (anow 9) (anow 10) (anow 11) x4.2.2.1, cPl G (anow 12) (anow 13) x4.2.2.2.1, cBy G (anow 14) (anow 15) 200 x4.2.2.2.2.1, [((anow 16), .inr (6, [.ref (anow 17), .int x4.2.2.2.2.2.2.1, .int x4.2.2.2.2.2.2.2]))], cBy G (anow 17) (anow 18) 64 x4.2.2.2.2.2.1, cHist G hhist_0 hhist_1 ahist0 ahist1 ahist2 ahist3 x3]) (rest := []) hx hb hml hown hts hK (c_X3_fillB l G anow now hcx4) wd_757 wd_21 wd_755 wd_756 hd_X3_fill ⟨rfl, rfl, Nat.le_of_ble_eq_true rfl, Nat.le_of_ble_eq_true rfl⟩ hP hD hS hA [1, 2, 3, 4, 5, 6, 7, 8] rfl (blk_D [1, 2, 3, 4, 5, 6, 7, 8] rfl hD rfl) rfl rfl rfl hl.1 rfl (Nat.le_of_ble_eq_true rfl) dX10_encode_42 ⟨Nat.le_of_ble_eq_true rfl, Nat.le_of_ble_eq_true rfl⟩ (fun H locs hP hD hS => ?_)
    refine lv_aload_n (pc := 45) hx hb dX10_encode_45 rfl (lv_at hl 0 rfl) ?_
    refine va_get (pc := 46) (D := G.1) (ci := 7) (v := .ref (anow 0)) (C := RX10) (T := TX10) (N := 3) hx hb hts inX10 hown hK.1 hP 0 rfl rfl 0 (by decide) (hts _ wd_232) (fun _ h9 => h9) rfl dX10_encode_46 ?_
    refine va_getN (pc := 49) (D := G.1) (ci := 5) (v := .ref (anow 14)) (C := RX8) (T := TX8) (N := 6) hx hb hts inX8 hown hK.1 hP 1 rfl rfl 4 (by decide) (nfw_174 hK) (fun _ h9 => h9) rfl dX10_encode_49 ?_
    refine va_getN (pc := 52) (D := G.1) (ci := 0) (v := .int x4.2.2.2.2.1.2) (C := RX0) (T := TX0) (N := 2) hx hb hts inX0 hown hK.1 hP 15 rfl rfl 1 (by decide) (nfw_49 hK) (fun _ h9 => h9) rfl dX10_encode_52 ?_
    have hf := Option.some.inj hf; subst hf
    rw [← hQ]
    exact x_iret hx hb hr hlocks hX.symm (Nat.le_of_ble_eq_true rfl) (Nat.le_of_ble_eq_true rfl) hP hS dX10_encode_55
  · have hf := br_n hc hf
    have hf := Option.some.inj hf; subst hf
    rw [← hQ]
    exact x_throw (pc := 17) (names := xRE) (cls := xISE) hl0 hx hb hown hts hK (by decide +kernel) nX wd_585 wd_15 rfl sr_167 at1_ISE at2_ISE at3_ISE hno hZ hP hS (hl.1.trans hml.symm) dX10_encode_17 dX10_encode_20 dX10_encode_21 dX10_encode_23 dX10_encode_26 (Nat.le_of_ble_eq_true rfl) (Nat.le_of_ble_eq_true rfl) (Nat.le_of_ble_eq_true rfl) (Nat.le_of_ble_eq_true rfl) hlocks hX.symm (Nat.le_of_ble_eq_true rfl) (Nat.le_of_ble_eq_true rfl)
theorem hd_X10_write : yX10_write.cls ≠ "java/lang/invoke/MethodHandle" ∧ yX10_write.cls ≠ "java/lang/invoke/VarHandle" ∧ (parseMethodDescriptor yX10_write.desc).map (fun d => d.parameters.length) = some 1 := by decide +kernel
abbrev rm_X10_write : Room := { frames := 7, cells := 2, slots := 12, locals := 148 }
noncomputable def f_X10_write (now : TState) (hist : THistory) (p1 : Int32) : Option (String ⊕ (Int32 × TState × THistory)) :=
  (f_X10_requireByte p1).bind (fun x1 => rx x1 ((f_X0_isFull 200 now.2.2.2.2.1).bind (fun x2 => br (x2 = 0) ((f_X4_save hist now).bind (fun x3 => (f_X0_push 200 now.2.2.2.2.1 p1).bind (fun x4 => some (.inr (x4.2, (now.1, now.2.1, now.2.2.1, now.2.2.2.1, x4, now.2.2.2.2.2), x3))))) (some (.inl "java/lang/IllegalStateException")))))
set_option maxHeartbeats 4000000 in
set_option maxRecDepth 100000 in
theorem c_X10_write (l : Launch) (hl0 : l.stackTraces = false) (G : GT) (hx_0 hdec_0 : Nat) (anow : Nat → Nat) (hhist_0 hhist_1 : Nat) (ahist0 ahist1 ahist2 ahist3 : Nat → Nat) (now : TState) (hist : THistory) (p1 : Int32) {r : String ⊕ (Int32 × TState × THistory)} (hf : f_X10_write now hist p1 = some r) : CtP l yX10_write (Cond.code yX10_write cX10_write 2 (some .int) :: lw_g) rm_X10_write G [.ref hx_0, .int p1] (List.flatten [[(hx_0, .inr (7, [.ref (anow 0), .ref hhist_0, .ref hdec_0]))], [((anow 0), .inr (5, [.ref (anow 1), .ref (anow 3), .ref (anow 5), .ref (anow 12), .ref (anow 14), .ref (anow 16)]))], cBy G (anow 1) (anow 2) 64 now.1, cBy G (anow 3) (anow 4) 64 now.2.1, cDe G (anow 5) (anow 6) (anow 7) (anow 8) (anow 9) (anow 10) (anow 11) now.2.2.1, cPl G (anow 12) (anow 13) now.2.2.2.1, cBy G (anow 14) (anow 15) 200 now.2.2.2.2.1, [((anow 16), .inr (6, [.ref (anow 17), .int now.2.2.2.2.2.2.1, .int now.2.2.2.2.2.2.2]))], cBy G (anow 17) (anow 18) 64 now.2.2.2.2.2.1, cHist G hhist_0 hhist_1 ahist0 ahist1 ahist2 ahist3 hist]) (pR (fun (r : (Int32 × TState × THistory)) => (some (.int r.1))) (fun (r : (Int32 × TState × THistory)) => (List.flatten [[(hx_0, .inr (7, [.ref (anow 0), .ref hhist_0, .ref hdec_0]))], [((anow 0), .inr (5, [.ref (anow 1), .ref (anow 3), .ref (anow 5), .ref (anow 12), .ref (anow 14), .ref (anow 16)]))], cBy G (anow 1) (anow 2) 64 r.2.1.1, cBy G (anow 3) (anow 4) 64 r.2.1.2.1, cDe G (anow 5) (anow 6) (anow 7) (anow 8) (anow 9) (anow 10) (anow 11) r.2.1.2.2.1, cPl G (anow 12) (anow 13) r.2.1.2.2.2.1, cBy G (anow 14) (anow 15) 200 r.2.1.2.2.2.2.1, [((anow 16), .inr (6, [.ref (anow 17), .int r.2.1.2.2.2.2.2.2.1, .int r.2.1.2.2.2.2.2.2.2]))], cBy G (anow 17) (anow 18) 64 r.2.1.2.2.2.2.2.1, cHist G hhist_0 hhist_1 ahist0 ahist1 ahist2 ahist3 r.2.2])) r) := by
  refine CtP.ofW (cc := cX10_write) (maxL := 2) (ret := (some .int)) (own := RX10) (by decide) rfl rfl (Nat.le_of_ble_eq_true rfl) ?_
  intro p e s m args below meth c A hx hb hr hml hts hown hlocks hK hP hD hA hS hno hZ ls hl
  have hl : lv_has ls 2 [(0, .ref hx_0), (1, .int p1)] := hl
  generalize hX : pR _ _ r = X
  generalize hQ : xMQ below G _ A X args s _ _ = Q
  generalize hH : s.heap = H at hP ⊢
  have hS : va_S A s.heap H [] := by rw [← hH]; exact hS
  generalize ([] : List Loc) = locs at hS ⊢
  unfold f_X10_write at hf
  refine lv_iload_n (pc := 0) hx hb dX10_write_0 rfl (lv_at hl 1 rfl) ?_
  obtain ⟨x1, hcx1, hf⟩ := bn_some hf
  rw [← hQ]
  refine x_callS (x1 := x1) (rest := []) hx hb hml hown hts hK hZ (c_X10_requireByte l hl0 G  p1 hcx1) wd_575 wd_1 wd_573 wd_574 hd_X10_requireByte ⟨(Nat.le_of_ble_eq_true rfl), (Nat.le_of_ble_eq_true rfl)⟩ hP hD hS hA [] rfl rfl hno hlocks (fun E e9 => by rw [← hX, rx_E hf E e9]; rfl) (Nat.le_of_ble_eq_true rfl) (Nat.le_of_ble_eq_true rfl) rfl hl.1 rfl (Nat.le_of_ble_eq_true rfl) dX10_write_1 ⟨(Nat.le_of_ble_eq_true rfl), (Nat.le_of_ble_eq_true rfl)⟩ (fun e9 H locs hP hS => ?_)
  have hf := rx_n hf e9
  refine W.widen (k := 1) (n := 6) (Nat.le_of_ble_eq_true rfl) (Nat.le_of_ble_eq_true rfl) ?_
  rw [hQ]
  refine lv_aload_n (pc := 4) hx hb dX10_write_4 rfl (lv_at hl 0 rfl) ?_
  refine va_get (pc := 5) (D := G.1) (ci := 7) (v := .ref (anow 0)) (C := RX10) (T := TX10) (N := 3) hx hb hts inX10 hown hK.1 hP 0 rfl rfl 0 (by decide) (hts _ wd_232) (fun _ h9 => h9) rfl dX10_write_5 ?_
  refine va_getN (pc := 8) (D := G.1) (ci := 5) (v := .ref (anow 14)) (C := RX8) (T := TX8) (N := 6) hx hb hts inX8 hown hK.1 hP 1 rfl rfl 4 (by decide) (nfw_174 hK) (fun _ h9 => h9) rfl dX10_write_8 ?_
  obtain ⟨x2, hcx2, hf⟩ := bn_some hf
  refine g_callVB (pc := 11) (bs' := [[(hx_0, .inr (7, [.ref (anow 0), .ref hhist_0, .ref hdec_0]))], [((anow 0), .inr (5, [.ref (anow 1), .ref (anow 3), .ref (anow 5), .ref (anow 12), .ref (anow 14), .ref (anow 16)]))], cBy G (anow 1) (anow 2) 64 now.1, cBy G (anow 3) (anow 4) 64 now.2.1, cDe G (anow 5) (anow 6) (anow 7) (anow 8) (anow 9) (anow 10) (anow 11) now.2.2.1, cPl G (anow 12) (anow 13) now.2.2.2.1, cBy G (anow 14) (anow 15) 200 now.2.2.2.2.1, [((anow 16), .inr (6, [.ref (anow 17), .int now.2.2.2.2.2.2.1, .int now.2.2.2.2.2.2.2]))], cBy G (anow 17) (anow 18) 64 now.2.2.2.2.2.1, cHist G hhist_0 hhist_1 ahist0 ahist1 ahist2 ahist3 hist]) (rest := []) hx hb hml hown hts hK (c_X0_isFullB l G (anow 14) (anow 15) 200 now.2.2.2.2.1 hcx2) wd_584 wd_3 wd_581 wd_582 wd_583 hd_X0_isFull ⟨rfl, rfl, Nat.le_of_ble_eq_true rfl, Nat.le_of_ble_eq_true rfl⟩ hP hD hS hA [6] rfl (blk_D [6] rfl hD rfl) rfl rfl 0 15 rfl rfl rfl rfl hl.1 rfl (Nat.le_of_ble_eq_true rfl) dX10_write_11 ⟨Nat.le_of_ble_eq_true rfl, Nat.le_of_ble_eq_true rfl⟩ (fun H locs hP hD hS => ?_)
  refine lv_if_eq (pc := 14) (tgt := 27) hx hb dX10_write_14 (by decide) (fun hc => ?_) (fun hc => ?_)
  · have hf := br_y hc hf
    refine lv_aload_n (pc := 27) hx hb dX10_write_27 rfl (lv_at hl 0 rfl) ?_
    refine va_get (pc := 28) (D := G.1) (ci := 7) (v := .ref hhist_0) (C := RX10) (T := TX10) (N := 3) hx hb hts inX10 hown hK.1 hP 0 rfl rfl 1 (by decide) (hts _ wd_233) (fun _ h9 => h9) rfl dX10_write_28 ?_
    refine lv_aload_n (pc := 31) hx hb dX10_write_31 rfl (lv_at hl 0 rfl) ?_
    refine va_get (pc := 32) (D := G.1) (ci := 7) (v := .ref (anow 0)) (C := RX10) (T := TX10) (N := 3) hx hb hts inX10 hown hK.1 hP 0 rfl rfl 0 (by decide) (hts _ wd_232) (fun _ h9 => h9) rfl dX10_write_32 ?_
    obtain ⟨x3, hcx3, hf⟩ := bn_some hf
    refine g_callVB (pc := 35) (bs' := [[(hx_0, .inr (7, [.ref (anow 0), .ref hhist_0, .ref hdec_0]))], [((anow 0), .inr (5, [.ref (anow 1), .ref (anow 3), .ref (anow 5), .ref (anow 12), .ref (anow 14), .ref (anow 16)]))], cBy G (anow 1) (anow 2) 64 now.1, cBy G (anow 3) (anow 4) 64 now.2.1, cDe G (anow 5) (anow 6) (anow 7) (anow 8) (anow 9) (anow 10) (anow 11) now.2.2.1, cPl G (anow 12) (anow 13) now.2.2.2.1, cBy G (anow 14) (anow 15) 200 now.2.2.2.2.1, [((anow 16), .inr (6, [.ref (anow 17), .int now.2.2.2.2.2.2.1, .int now.2.2.2.2.2.2.2]))], cBy G (anow 17) (anow 18) 64 now.2.2.2.2.2.1, cHist G hhist_0 hhist_1 ahist0 ahist1 ahist2 ahist3 x3]) (rest := []) hx hb hml hown hts hK (c_X4_saveB l G hhist_0 hhist_1 ahist0 ahist1 ahist2 ahist3 anow hist now hcx3) wd_249 wd_8 wd_246 wd_247 wd_248 hd_X4_save ⟨rfl, rfl, Nat.le_of_ble_eq_true rfl, Nat.le_of_ble_eq_true rfl⟩ hP hD hS hA [9, 1, 2, 3, 4, 5, 6, 7, 8] rfl (blk_D [9, 1, 2, 3, 4, 5, 6, 7, 8] rfl hD rfl) rfl rfl 3 20 rfl rfl rfl rfl hl.1 rfl (Nat.le_of_ble_eq_true rfl) dX10_write_35 ⟨Nat.le_of_ble_eq_true rfl, Nat.le_of_ble_eq_true rfl⟩ (fun H locs hP hD hS => ?_)
    refine lv_aload_n (pc := 38) hx hb dX10_write_38 rfl (lv_at hl 0 rfl) ?_
    refine va_get (pc := 39) (D := G.1) (ci := 7) (v := .ref (anow 0)) (C := RX10) (T := TX10) (N := 3) hx hb hts inX10 hown hK.1 hP 0 rfl rfl 0 (by decide) (hts _ wd_232) (fun _ h9 => h9) rfl dX10_write_39 ?_
    refine va_getN (pc := 42) (D := G.1) (ci := 5) (v := .ref (anow 14)) (C := RX8) (T := TX8) (N := 6) hx hb hts inX8 hown hK.1 hP 1 rfl rfl 4 (by decide) (nfw_174 hK) (fun _ h9 => h9) rfl dX10_write_42 ?_
    refine lv_iload_n (pc := 45) hx hb dX10_write_45 rfl (lv_at hl 1 rfl) ?_
    obtain ⟨x4, hcx4, hf⟩ := bn_some hf
    refine g_callVB (pc := 46) (bs' := [[(hx_0, .inr (7, [.ref (anow 0), .ref hhist_0, .ref hdec_0]))], [((anow 0), .inr (5, [.ref (anow 1), .ref (anow 3), .ref (anow 5), .ref (anow 12), .ref (anow 14), .ref (anow 16)]))], cBy G (anow 1) (anow 2) 64 now.1, cBy G (anow 3) (anow 4) 64 now.2.1, cDe G (anow 5) (anow 6) (anow 7) (anow 8) (anow 9) (anow 10) (anow 11) now.2.2.1, cPl G (anow 12) (anow 13) now.2.2.2.1, cBy G (anow 14) (anow 15) 200 x4, [((anow 16), .inr (6, [.ref (anow 17), .int now.2.2.2.2.2.2.1, .int now.2.2.2.2.2.2.2]))], cBy G (anow 17) (anow 18) 64 now.2.2.2.2.2.1, cHist G hhist_0 hhist_1 ahist0 ahist1 ahist2 ahist3 x3]) (rest := []) hx hb hml hown hts hK (c_X0_pushB l G (anow 14) (anow 15) 200 now.2.2.2.2.1 p1 hcx4) wd_604 wd_3 wd_601 wd_602 wd_603 hd_X0_push ⟨rfl, rfl, Nat.le_of_ble_eq_true rfl, Nat.le_of_ble_eq_true rfl⟩ hP hD hS hA [6] rfl (blk_D [6] rfl hD rfl) rfl rfl 0 15 rfl rfl rfl rfl hl.1 rfl (Nat.le_of_ble_eq_true rfl) dX10_write_46 ⟨Nat.le_of_ble_eq_true rfl, Nat.le_of_ble_eq_true rfl⟩ (fun H locs hP hD hS => ?_)
    refine lv_aload_n (pc := 49) hx hb dX10_write_49 rfl (lv_at hl 0 rfl) ?_
    refine va_get (pc := 50) (D := G.1) (ci := 7) (v := .ref (anow 0)) (C := RX10) (T := TX10) (N := 3) hx hb hts inX10 hown hK.1 hP 0 rfl rfl 0 (by decide) (hts _ wd_232) (fun _ h9 => h9) rfl dX10_write_50 ?_
    refine va_getN (pc := 53) (D := G.1) (ci := 5) (v := .ref (anow 14)) (C := RX8) (T := TX8) (N := 6) hx hb hts inX8 hown hK.1 hP 1 rfl rfl 4 (by decide) (nfw_174 hK) (fun _ h9 => h9) rfl dX10_write_53 ?_
    refine va_getN (pc := 56) (D := G.1) (ci := 0) (v := .int x4.2) (C := RX0) (T := TX0) (N := 2) hx hb hts inX0 hown hK.1 hP 15 rfl rfl 1 (by decide) (nfw_49 hK) (fun _ h9 => h9) rfl dX10_write_56 ?_
    have hf := Option.some.inj hf; subst hf
    rw [← hQ]
    exact x_iret hx hb hr hlocks hX.symm (Nat.le_of_ble_eq_true rfl) (Nat.le_of_ble_eq_true rfl) hP hS dX10_write_59
  · have hf := br_n hc hf
    have hf := Option.some.inj hf; subst hf
    rw [← hQ]
    exact x_throw (pc := 17) (names := xRE) (cls := xISE) hl0 hx hb hown hts hK (by decide +kernel) nX wd_585 wd_15 rfl sr_174 at1_ISE at2_ISE at3_ISE hno hZ hP hS (hl.1.trans hml.symm) dX10_write_17 dX10_write_20 dX10_write_21 dX10_write_23 dX10_write_26 (Nat.le_of_ble_eq_true rfl) (Nat.le_of_ble_eq_true rfl) (Nat.le_of_ble_eq_true rfl) (Nat.le_of_ble_eq_true rfl) hlocks hX.symm (Nat.le_of_ble_eq_true rfl) (Nat.le_of_ble_eq_true rfl)
theorem hd_X10_clearCode : yX10_clearCode.cls ≠ "java/lang/invoke/MethodHandle" ∧ yX10_clearCode.cls ≠ "java/lang/invoke/VarHandle" ∧ (parseMethodDescriptor yX10_clearCode.desc).map (fun d => d.parameters.length) = some 0 := by decide +kernel
abbrev rm_X10_clearCode : Room := { frames := 5, cells := 0, slots := 0, locals := 148 }
noncomputable def f_X10_clearCode (now : TState) (hist : THistory) : Option (Int32 × TState × THistory) :=
  (f_X4_save hist now).bind (fun x1 => (f_X0_cut 200 now.2.2.2.2.1 (0 : Int32)).bind (fun x2 => some (now.2.2.2.2.1.2, (now.1, now.2.1, now.2.2.1, now.2.2.2.1, x2, now.2.2.2.2.2), x1)))
set_option maxHeartbeats 4000000 in
set_option maxRecDepth 100000 in
theorem c_X10_clearCode (l : Launch) (G : GT) (hx_0 hdec_0 : Nat) (anow : Nat → Nat) (hhist_0 hhist_1 : Nat) (ahist0 ahist1 ahist2 ahist3 : Nat → Nat) (now : TState) (hist : THistory) {r : Int32 × TState × THistory} (hf : f_X10_clearCode now hist = some r) : Ct l yX10_clearCode (Cond.code yX10_clearCode cX10_clearCode 2 (some .int) :: lw_g) rm_X10_clearCode G [.ref hx_0] (List.flatten [[(hx_0, .inr (7, [.ref (anow 0), .ref hhist_0, .ref hdec_0]))], [((anow 0), .inr (5, [.ref (anow 1), .ref (anow 3), .ref (anow 5), .ref (anow 12), .ref (anow 14), .ref (anow 16)]))], cBy G (anow 1) (anow 2) 64 now.1, cBy G (anow 3) (anow 4) 64 now.2.1, cDe G (anow 5) (anow 6) (anow 7) (anow 8) (anow 9) (anow 10) (anow 11) now.2.2.1, cPl G (anow 12) (anow 13) now.2.2.2.1, cBy G (anow 14) (anow 15) 200 now.2.2.2.2.1, [((anow 16), .inr (6, [.ref (anow 17), .int now.2.2.2.2.2.2.1, .int now.2.2.2.2.2.2.2]))], cBy G (anow 17) (anow 18) 64 now.2.2.2.2.2.1, cHist G hhist_0 hhist_1 ahist0 ahist1 ahist2 ahist3 hist]) (some (.int r.1)) (List.flatten [[(hx_0, .inr (7, [.ref (anow 0), .ref hhist_0, .ref hdec_0]))], [((anow 0), .inr (5, [.ref (anow 1), .ref (anow 3), .ref (anow 5), .ref (anow 12), .ref (anow 14), .ref (anow 16)]))], cBy G (anow 1) (anow 2) 64 r.2.1.1, cBy G (anow 3) (anow 4) 64 r.2.1.2.1, cDe G (anow 5) (anow 6) (anow 7) (anow 8) (anow 9) (anow 10) (anow 11) r.2.1.2.2.1, cPl G (anow 12) (anow 13) r.2.1.2.2.2.1, cBy G (anow 14) (anow 15) 200 r.2.1.2.2.2.2.1, [((anow 16), .inr (6, [.ref (anow 17), .int r.2.1.2.2.2.2.2.2.1, .int r.2.1.2.2.2.2.2.2.2]))], cBy G (anow 17) (anow 18) 64 r.2.1.2.2.2.2.2.1, cHist G hhist_0 hhist_1 ahist0 ahist1 ahist2 ahist3 r.2.2]) := by
  refine Ct.ofW (cc := cX10_clearCode) (maxL := 2) (ret := (some .int)) (own := RX10) (by decide) rfl rfl (Nat.le_of_ble_eq_true rfl) ?_
  intro p e s m args below meth c A hx hb hr hml hts hown hlocks hK hP hD hA hS ls hl
  have hl : lv_has ls 2 [(0, .ref hx_0)] := hl
  generalize hQ : gMQ below G _ _ A args s = Q
  generalize hH : s.heap = H at hP ⊢
  have hS : va_S A s.heap H [] := by rw [← hH]; exact hS
  generalize ([] : List Loc) = locs at hS ⊢
  unfold f_X10_clearCode at hf
  refine lv_aload_n (pc := 0) hx hb dX10_clearCode_0 rfl (lv_at hl 0 rfl) ?_
  refine va_get (pc := 1) (D := G.1) (ci := 7) (v := .ref hhist_0) (C := RX10) (T := TX10) (N := 3) hx hb hts inX10 hown hK.1 hP 0 rfl rfl 1 (by decide) (hts _ wd_233) (fun _ h9 => h9) rfl dX10_clearCode_1 ?_
  refine lv_aload_n (pc := 4) hx hb dX10_clearCode_4 rfl (lv_at hl 0 rfl) ?_
  refine va_get (pc := 5) (D := G.1) (ci := 7) (v := .ref (anow 0)) (C := RX10) (T := TX10) (N := 3) hx hb hts inX10 hown hK.1 hP 0 rfl rfl 0 (by decide) (hts _ wd_232) (fun _ h9 => h9) rfl dX10_clearCode_5 ?_
  obtain ⟨x1, hcx1, hf⟩ := bn_some hf
  refine g_callVB (pc := 8) (bs' := [[(hx_0, .inr (7, [.ref (anow 0), .ref hhist_0, .ref hdec_0]))], [((anow 0), .inr (5, [.ref (anow 1), .ref (anow 3), .ref (anow 5), .ref (anow 12), .ref (anow 14), .ref (anow 16)]))], cBy G (anow 1) (anow 2) 64 now.1, cBy G (anow 3) (anow 4) 64 now.2.1, cDe G (anow 5) (anow 6) (anow 7) (anow 8) (anow 9) (anow 10) (anow 11) now.2.2.1, cPl G (anow 12) (anow 13) now.2.2.2.1, cBy G (anow 14) (anow 15) 200 now.2.2.2.2.1, [((anow 16), .inr (6, [.ref (anow 17), .int now.2.2.2.2.2.2.1, .int now.2.2.2.2.2.2.2]))], cBy G (anow 17) (anow 18) 64 now.2.2.2.2.2.1, cHist G hhist_0 hhist_1 ahist0 ahist1 ahist2 ahist3 x1]) (rest := []) hx hb hml hown hts hK (c_X4_saveB l G hhist_0 hhist_1 ahist0 ahist1 ahist2 ahist3 anow hist now hcx1) wd_249 wd_8 wd_246 wd_247 wd_248 hd_X4_save ⟨rfl, rfl, Nat.le_of_ble_eq_true rfl, Nat.le_of_ble_eq_true rfl⟩ hP hD hS hA [9, 1, 2, 3, 4, 5, 6, 7, 8] rfl (blk_D [9, 1, 2, 3, 4, 5, 6, 7, 8] rfl hD rfl) rfl rfl 3 20 rfl rfl rfl rfl hl.1 rfl (Nat.le_of_ble_eq_true rfl) dX10_clearCode_8 ⟨Nat.zero_le _, Nat.zero_le _⟩ (fun H locs hP hD hS => ?_)
  refine lv_aload_n (pc := 11) hx hb dX10_clearCode_11 rfl (lv_at hl 0 rfl) ?_
  refine va_get (pc := 12) (D := G.1) (ci := 7) (v := .ref (anow 0)) (C := RX10) (T := TX10) (N := 3) hx hb hts inX10 hown hK.1 hP 0 rfl rfl 0 (by decide) (hts _ wd_232) (fun _ h9 => h9) rfl dX10_clearCode_12 ?_
  refine va_getN (pc := 15) (D := G.1) (ci := 5) (v := .ref (anow 14)) (C := RX8) (T := TX8) (N := 6) hx hb hts inX8 hown hK.1 hP 1 rfl rfl 4 (by decide) (nfw_174 hK) (fun _ h9 => h9) rfl dX10_clearCode_15 ?_
  refine va_getN (pc := 18) (D := G.1) (ci := 0) (v := .int now.2.2.2.2.1.2) (C := RX0) (T := TX0) (N := 2) hx hb hts inX0 hown hK.1 hP 15 rfl rfl 1 (by decide) (nfw_49 hK) (fun _ h9 => h9) rfl dX10_clearCode_18 ?_
  refine lv_istore_n (pc := 21) (lv' := [(1, .int now.2.2.2.2.1.2), (0, .ref hx_0)]) hx hb dX10_clearCode_21 rfl hl (by decide) rfl (fun ls hl => ?_)
  refine lv_aload_n (pc := 22) hx hb dX10_clearCode_22 rfl (lv_at hl 1 rfl) ?_
  refine va_get (pc := 23) (D := G.1) (ci := 7) (v := .ref (anow 0)) (C := RX10) (T := TX10) (N := 3) hx hb hts inX10 hown hK.1 hP 0 rfl rfl 0 (by decide) (hts _ wd_232) (fun _ h9 => h9) rfl dX10_clearCode_23 ?_
  refine va_getN (pc := 26) (D := G.1) (ci := 5) (v := .ref (anow 14)) (C := RX8) (T := TX8) (N := 6) hx hb hts inX8 hown hK.1 hP 1 rfl rfl 4 (by decide) (nfw_174 hK) (fun _ h9 => h9) rfl dX10_clearCode_26 ?_
  refine lv_iconst (pc := 29) (v := (0 : Int32)) hx hb dX10_clearCode_29 (by decide) ?_
  obtain ⟨x2, hcx2, hf⟩ := bn_some hf
  refine g_callVB (pc := 30) (bs' := [[(hx_0, .inr (7, [.ref (anow 0), .ref hhist_0, .ref hdec_0]))], [((anow 0), .inr (5, [.ref (anow 1), .ref (anow 3), .ref (anow 5), .ref (anow 12), .ref (anow 14), .ref (anow 16)]))], cBy G (anow 1) (anow 2) 64 now.1, cBy G (anow 3) (anow 4) 64 now.2.1, cDe G (anow 5) (anow 6) (anow 7) (anow 8) (anow 9) (anow 10) (anow 11) now.2.2.1, cPl G (anow 12) (anow 13) now.2.2.2.1, cBy G (anow 14) (anow 15) 200 x2, [((anow 16), .inr (6, [.ref (anow 17), .int now.2.2.2.2.2.2.1, .int now.2.2.2.2.2.2.2]))], cBy G (anow 17) (anow 18) 64 now.2.2.2.2.2.1, cHist G hhist_0 hhist_1 ahist0 ahist1 ahist2 ahist3 x1]) (rest := []) hx hb hml hown hts hK (c_X0_cutB l G (anow 14) (anow 15) 200 now.2.2.2.2.1 (0 : Int32) hcx2) wd_407 wd_3 wd_404 wd_405 wd_406 hd_X0_cut ⟨rfl, rfl, Nat.le_of_ble_eq_true rfl, Nat.le_of_ble_eq_true rfl⟩ hP hD hS hA [6] rfl (blk_D [6] rfl hD rfl) rfl rfl 0 15 rfl rfl rfl rfl hl.1 rfl (Nat.le_of_ble_eq_true rfl) dX10_clearCode_30 ⟨Nat.zero_le _, Nat.zero_le _⟩ (fun H locs hP hD hS => ?_)
  refine lv_iload_n (pc := 33) hx hb dX10_clearCode_33 rfl (lv_at hl 0 rfl) ?_
  have hf := Option.some.inj hf; subst hf
  rw [← hQ]
  exact g_iret hx hb hr hlocks hP hS dX10_clearCode_34
