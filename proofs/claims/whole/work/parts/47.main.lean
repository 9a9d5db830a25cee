theorem hd_X10_code : yX10_code.cls ≠ "java/lang/invoke/MethodHandle" ∧ yX10_code.cls ≠ "java/lang/invoke/VarHandle" ∧ (parseMethodDescriptor yX10_code.desc).map (fun d => d.parameters.length) = some 1 := by decide +kernel
abbrev rm_X10_code : Room := { frames := 7, cells := 1, slots := 6, locals := 112 }
noncomputable def f_X10_code (now : TState) (p1 : Int32) : Option (String ⊕ Int32) :=
  (f_X10_requireIndexOrLength p1).bind (fun x1 => rx x1 ((f_X0_atOrLength 200 now.2.2.2.2.1 p1).bind (fun x2 => some (.inr x2))))
set_option maxHeartbeats 4000000 in
set_option maxRecDepth 100000 in
theorem c_X10_code (l : Launch) (hl0 : l.stackTraces = false) (G : GT) (hx_0 hhist_0 hdec_0 : Nat) (anow : Nat → Nat) (now : TState) (p1 : Int32) {r : String ⊕ Int32} (hf : f_X10_code now p1 = some r) : CtP l yX10_code (Cond.code yX10_code cX10_code 2 (some .int) :: lw_g) rm_X10_code G [.ref hx_0, .int p1] (List.flatten [[(hx_0, .inr (7, [.ref (anow 0), .ref hhist_0, .ref hdec_0]))], [((anow 0), .inr (5, [.ref (anow 1), .ref (anow 3), .ref (anow 5), .ref (anow 12), .ref (anow 14), .ref (anow 16)]))], cBy G (anow 1) (anow 2) 64 now.1, cBy G (anow 3) (anow 4) 64 now.2.1, cDe G (anow 5) (anow 6) (anow 7) (anow 8) (anow 9) (anow 10) (anow 11) now.2.2.1, cPl G (anow 12) (anow 13) now.2.2.2.1, cBy G (anow 14) (anow 15) 200 now.2.2.2.2.1, [((anow 16), .inr (6, [.ref (anow 17), .int now.2.2.2.2.2.2.1, .int now.2.2.2.2.2.2.2]))], cBy G (anow 17) (anow 18) 64 now.2.2.2.2.2.1]) (pR (fun (r : Int32) => (some (.int r))) (fun (r : Int32) => (List.flatten [[(hx_0, .inr (7, [.ref (anow 0), .ref hhist_0, .ref hdec_0]))], [((anow 0), .inr (5, [.ref (anow 1), .ref (anow 3), .ref (anow 5), .ref (anow 12), .ref (anow 14), .ref (anow 16)]))], cBy G (anow 1) (anow 2) 64 now.1, cBy G (anow 3) (anow 4) 64 now.2.1, cDe G (anow 5) (anow 6) (anow 7) (anow 8) (anow 9) (anow 10) (anow 11) now.2.2.1, cPl G (anow 12) (anow 13) now.2.2.2.1, cBy G (anow 14) (anow 15) 200 now.2.2.2.2.1, [((anow 16), .inr (6, [.ref (anow 17), .int now.2.2.2.2.2.2.1, .int now.2.2.2.2.2.2.2]))], cBy G (anow 17) (anow 18) 64 now.2.2.2.2.2.1])) r) := by
  refine CtP.ofW (cc := cX10_code) (maxL := 2) (ret := (some .int)) (own := RX10) (by decide) rfl rfl (Nat.le_of_ble_eq_true rfl) ?_
  intro p e s m args below meth c A hx hb hr hml hts hown hlocks hK hP hD hA hS hno hZ ls hl
  have hl : lv_has ls 2 [(0, .ref hx_0), (1, .int p1)] := hl
  generalize hX : pR _ _ r = X
  generalize hQ : xMQ below G _ A X args s _ _ = Q
  generalize hH : s.heap = H at hP ⊢
  have hS : va_S A s.heap H [] := by rw [← hH]; exact hS
  generalize ([] : List Loc) = locs at hS ⊢
  unfold f_X10_code at hf
  refine lv_iload_n (pc := 0) hx hb dX10_code_0 rfl (lv_at hl 1 rfl) ?_
  obtain ⟨x1, hcx1, hf⟩ := bn_some hf
  rw [← hQ]
  refine x_callS (x1 := x1) (rest := []) hx hb hml hown hts hK hZ (c_X10_requireIndexOrLength l hl0 G  p1 hcx1) wd_796 wd_1 wd_794 wd_795 hd_X10_requireIndexOrLength ⟨(Nat.le_of_ble_eq_true rfl), (Nat.le_of_ble_eq_true rfl)⟩ hP hD hS hA [] rfl rfl hno hlocks (fun E e9 => by rw [← hX, rx_E hf E e9]; rfl) (Nat.le_of_ble_eq_true rfl) (Nat.le_of_ble_eq_true rfl) rfl hl.1 rfl (Nat.le_of_ble_eq_true rfl) dX10_code_1 ⟨(Nat.le_of_ble_eq_true rfl), (Nat.le_of_ble_eq_true rfl)⟩ (fun e9 H locs hP hS => ?_)
  have hf := rx_n hf e9
  refine W.widen (k := 1) (n := 6) (Nat.le_of_ble_eq_true rfl) (Nat.le_of_ble_eq_true rfl) ?_
  rw [hQ]
  refine lv_aload_n (pc := 4) hx hb dX10_code_4 rfl (lv_at hl 0 rfl) ?_
  refine va_get (pc := 5) (D := G.1) (ci := 7) (v := .ref (anow 0)) (C := RX10) (T := TX10) (N := 3) hx hb hts inX10 hown hK.1 hP 0 rfl rfl 0 (by decide) (hts _ wd_232) (fun _ h9 => h9) rfl dX10_code_5 ?_
  refine va_getN (pc := 8) (D := G.1) (ci := 5) (v := .ref (anow 14)) (C := RX8) (T := TX8) (N := 6) hx hb hts inX8 hown hK.1 hP 1 rfl rfl 4 (by decide) (nfw_174 hK) (fun _ h9 => h9) rfl dX10_code_8 ?_
  refine lv_iload_n (pc := 11) hx hb dX10_code_11 rfl (lv_at hl 1 rfl) ?_
  obtain ⟨x2, hcx2, hf⟩ := bn_some hf
  refine g_callVB (pc := 12) (bs' := [[(hx_0, .inr (7, [.ref (anow 0), .ref hhist_0, .ref hdec_0]))], [((anow 0), .inr (5, [.ref (anow 1), .ref (anow 3), .ref (anow 5), .ref (anow 12), .ref (anow 14), .ref (anow 16)]))], cBy G (anow 1) (anow 2) 64 now.1, cBy G (anow 3) (anow 4) 64 now.2.1, cDe G (anow 5) (anow 6) (anow 7) (anow 8) (anow 9) (anow 10) (anow 11) now.2.2.1, cPl G (anow 12) (anow 13) now.2.2.2.1, cBy G (anow 14) (anow 15) 200 now.2.2.2.2.1, [((anow 16), .inr (6, [.ref (anow 17), .int now.2.2.2.2.2.2.1, .int now.2.2.2.2.2.2.2]))], cBy G (anow 17) (anow 18) 64 now.2.2.2.2.2.1]) (rest := []) hx hb hml hown hts hK (c_X0_atOrLengthB l G (anow 14) (anow 15) 200 now.2.2.2.2.1 p1 hcx2) wd_801 wd_3 wd_798 wd_799 wd_800 hd_X0_atOrLength ⟨rfl, rfl, Nat.le_of_ble_eq_true rfl, Nat.le_of_ble_eq_true rfl⟩ hP hD hS hA [6] rfl (blk_D [6] rfl hD rfl) rfl rfl 0 15 rfl rfl rfl rfl hl.1 rfl (Nat.le_of_ble_eq_true rfl) dX10_code_12 ⟨Nat.le_of_ble_eq_true rfl, Nat.le_of_ble_eq_true rfl⟩ (fun H locs hP hD hS => ?_)
  have hf := Option.some.inj hf; subst hf
  rw [← hQ]
  exact x_iret hx hb hr hlocks hX.symm (Nat.le_of_ble_eq_true rfl) (Nat.le_of_ble_eq_true rfl) hP hS dX10_code_15
theorem hd_X10_decode : yX10_decode.cls ≠ "java/lang/invoke/MethodHandle" ∧ yX10_decode.cls ≠ "java/lang/invoke/VarHandle" ∧ (parseMethodDescriptor yX10_decode.desc).map (fun d => d.parameters.length) = some 0 := by decide +kernel
abbrev rm_X10_decode : Room := { frames := 7, cells := 0, slots := 0, locals := 161 }
noncomputable def f_X10_decode (now : TState) (hist : THistory) (dec : TDecoder) : Option (Int32 × TState × THistory × TDecoder) :=
  (f_X1_read dec 200 now.2.2.2.2.1).bind (fun x1 => br (x1.1 = (-1 : Int32)) ((f_X4_save hist now).bind (fun x2 => (f_X8_dropPlan now).bind (fun x3 => (f_X2_take x3.2.2.1 x1.2.1).bind (fun x4 => some (x4.2.2.2.2.2.2.2.2.1, (x3.1, x3.2.1, x4, x3.2.2.2.1, x3.2.2.2.2.1, x3.2.2.2.2.2), x2, x1.2))))) (some (((-10 : Int32) - x1.1), now, hist, x1.2)))
set_option maxHeartbeats 4000000 in
set_option maxRecDepth 100000 in
theorem c_X10_decode (l : Launch) (G : GT) (hx_0 : Nat) (anow : Nat → Nat) (hhist_0 hhist_1 : Nat) (ahist0 ahist1 ahist2 ahist3 : Nat → Nat) (hdec_0 hdec_1 hdec_2 hdec_3 hdec_4 hdec_5 hdec_6 hdec_7 : Nat) (now : TState) (hist : THistory) (dec : TDecoder) {r : Int32 × TState × THistory × TDecoder} (hf : f_X10_decode now hist dec = some r) : Ct l yX10_decode (Cond.code yX10_decode cX10_decode 2 (some .int) :: lw_g) rm_X10_decode G [.ref hx_0] (List.flatten [[(hx_0, .inr (7, [.ref (anow 0), .ref hhist_0, .ref hdec_0]))], [((anow 0), .inr (5, [.ref (anow 1), .ref (anow 3), .ref (anow 5), .ref (anow 12), .ref (anow 14), .ref (anow 16)]))], cBy G (anow 1) (anow 2) 64 now.1, cBy G (anow 3) (anow 4) 64 now.2.1, cDe G (anow 5) (anow 6) (anow 7) (anow 8) (anow 9) (anow 10) (anow 11) now.2.2.1, cPl G (anow 12) (anow 13) now.2.2.2.1, cBy G (anow 14) (anow 15) 200 now.2.2.2.2.1, [((anow 16), .inr (6, [.ref (anow 17), .int now.2.2.2.2.2.2.1, .int now.2.2.2.2.2.2.2]))], cBy G (anow 17) (anow 18) 64 now.2.2.2.2.2.1, cHist G hhist_0 hhist_1 ahist0 ahist1 ahist2 ahist3 hist, [(hdec_0, .inr (1, [.ref hdec_1, .int dec.2.1, .int dec.2.2.1, .int dec.2.2.2]))], cDe G hdec_1 hdec_2 hdec_3 hdec_4 hdec_5 hdec_6 hdec_7 dec.1]) (some (.int r.1)) (List.flatten [[(hx_0, .inr (7, [.ref (anow 0), .ref hhist_0, .ref hdec_0]))], [((anow 0), .inr (5, [.ref (anow 1), .ref (anow 3), .ref (anow 5), .ref (anow 12), .ref (anow 14), .ref (anow 16)]))], cBy G (anow 1) (anow 2) 64 r.2.1.1, cBy G (anow 3) (anow 4) 64 r.2.1.2.1, cDe G (anow 5) (anow 6) (anow 7) (anow 8) (anow 9) (anow 10) (anow 11) r.2.1.2.2.1, cPl G (anow 12) (anow 13) r.2.1.2.2.2.1, cBy G (anow 14) (anow 15) 200 r.2.1.2.2.2.2.1, [((anow 16), .inr (6, [.ref (anow 17), .int r.2.1.2.2.2.2.2.2.1, .int r.2.1.2.2.2.2.2.2.2]))], cBy G (anow 17) (anow 18) 64 r.2.1.2.2.2.2.2.1, cHist G hhist_0 hhist_1 ahist0 ahist1 ahist2 ahist3 r.2.2.1, [(hdec_0, .inr (1, [.ref hdec_1, .int r.2.2.2.2.1, .int r.2.2.2.2.2.1, .int r.2.2.2.2.2.2]))], cDe G hdec_1 hdec_2 hdec_3 hdec_4 hdec_5 hdec_6 hdec_7 r.2.2.2.1]) := by
  refine Ct.ofW (cc := cX10_decode) (maxL := 2) (ret := (some .int)) (own := RX10) (by decide) rfl rfl (Nat.le_of_ble_eq_true rfl) ?_
  intro p e s m args below meth c A hx hb hr hml hts hown hlocks hK hP hD hA hS ls hl
  have hl : lv_has ls 2 [(0, .ref hx_0)] := hl
  generalize hQ : gMQ below G _ _ A args s = Q
  generalize hH : s.heap = H at hP ⊢
  have hS : va_S A s.heap H [] := by rw [← hH]; exact hS
  generalize ([] : List Loc) = locs at hS ⊢
  unfold f_X10_decode at hf
  refine lv_aload_n (pc := 0) hx hb dX10_decode_0 rfl (lv_at hl 0 rfl) ?_
  refine va_get (pc := 1) (D := G.1) (ci := 7) (v := .ref hdec_0) (C := RX10) (T := TX10) (N := 3) hx hb hts inX10 hown hK.1 hP 0 rfl rfl 2 (by decide) (hts _ wd_234) (fun _ h9 => h9) rfl dX10_decode_1 ?_
  refine lv_aload_n (pc := 4) hx hb dX10_decode_4 rfl (lv_at hl 0 rfl) ?_
  refine va_get (pc := 5) (D := G.1) (ci := 7) (v := .ref (anow 0)) (C := RX10) (T := TX10) (N := 3) hx hb hts inX10 hown hK.1 hP 0 rfl rfl 0 (by decide) (hts _ wd_232) (fun _ h9 => h9) rfl dX10_decode_5 ?_
  refine va_getN (pc := 8) (D := G.1) (ci := 5) (v := .ref (anow 14)) (C := RX8) (T := TX8) (N := 6) hx hb hts inX8 hown hK.1 hP 1 rfl rfl 4 (by decide) (nfw_174 hK) (fun _ h9 => h9) rfl dX10_decode_8 ?_
  obtain ⟨x1, hcx1, hf⟩ := bn_some hf
  refine g_callVB (pc := 11) (bs' := [[(hx_0, .inr (7, [.ref (anow 0), .ref hhist_0, .ref hdec_0]))], [((anow 0), .inr (5, [.ref (anow 1), .ref (anow 3), .ref (anow 5), .ref (anow 12), .ref (anow 14), .ref (anow 16)]))], cBy G (anow 1) (anow 2) 64 now.1, cBy G (anow 3) (anow 4) 64 now.2.1, cDe G (anow 5) (anow 6) (anow 7) (anow 8) (anow 9) (anow 10) (anow 11) now.2.2.1, cPl G (anow 12) (anow 13) now.2.2.2.1, cBy G (anow 14) (anow 15) 200 now.2.2.2.2.1, [((anow 16), .inr (6, [.ref (anow 17), .int now.2.2.2.2.2.2.1, .int now.2.2.2.2.2.2.2]))], cBy G (anow 17) (anow 18) 64 now.2.2.2.2.2.1, cHist G hhist_0 hhist_1 ahist0 ahist1 ahist2 ahist3 hist, [(hdec_0, .inr (1, [.ref hdec_1, .int x1.2.2.1, .int x1.2.2.2.1, .int x1.2.2.2.2]))], cDe G hdec_1 hdec_2 hdec_3 hdec_4 hdec_5 hdec_6 hdec_7 x1.2.1]) (rest := []) hx hb hml hown hts hK (c_X1_readB l G hdec_0 hdec_1 hdec_2 hdec_3 hdec_4 hdec_5 hdec_6 hdec_7 (anow 14) (anow 15) dec 200 now.2.2.2.2.1 hcx1) wd_415 wd_9 wd_412 wd_413 wd_414 hd_X1_read ⟨rfl, rfl, Nat.le_of_ble_eq_true rfl, Nat.le_of_ble_eq_true rfl⟩ hP hD hS hA [10, 11, 6] rfl (blk_D [10, 11, 6] rfl hD rfl) rfl rfl 1 98 rfl rfl rfl rfl hl.1 rfl (Nat.le_of_ble_eq_true rfl) dX10_decode_11 ⟨Nat.zero_le _, Nat.zero_le _⟩ (fun H locs hP hD hS => ?_)
  refine lv_istore_n (pc := 14) (lv' := [(1, .int x1.1), (0, .ref hx_0)]) hx hb dX10_decode_14 rfl hl (by decide) rfl (fun ls hl => ?_)
  refine lv_iload_n (pc := 15) hx hb dX10_decode_15 rfl (lv_at hl 0 rfl) ?_
  refine lv_iconst (pc := 16) (v := (-1 : Int32)) hx hb dX10_decode_16 (by decide) ?_
  refine lv_icmp_eq (pc := 17) (tgt := 25) hx hb dX10_decode_17 (by decide) (fun hc => ?_) (fun hc => ?_)
  · have hf := br_y hc hf
    refine lv_aload_n (pc := 25) hx hb dX10_decode_25 rfl (lv_at hl 1 rfl) ?_
    refine va_get (pc := 26) (D := G.1) (ci := 7) (v := .ref hhist_0) (C := RX10) (T := TX10) (N := 3) hx hb hts inX10 hown hK.1 hP 0 rfl rfl 1 (by decide) (hts _ wd_233) (fun _ h9 => h9) rfl dX10_decode_26 ?_
    refine lv_aload_n (pc := 29) hx hb dX10_decode_29 rfl (lv_at hl 1 rfl) ?_
    refine va_get (pc := 30) (D := G.1) (ci := 7) (v := .ref (anow 0)) (C := RX10) (T := TX10) (N := 3) hx hb hts inX10 hown hK.1 hP 0 rfl rfl 0 (by decide) (hts _ wd_232) (fun _ h9 => h9) rfl dX10_decode_30 ?_
    obtain ⟨x2, hcx2, hf⟩ := bn_some hf
    refine g_callVB (pc := 33) (bs' := [[(hx_0, .inr (7, [.ref (anow 0), .ref hhist_0, .ref hdec_0]))], [((anow 0), .inr (5, [.ref (anow 1), .ref (anow 3), .ref (anow 5), .ref (anow 12), .ref (anow 14), .ref (anow 16)]))], cBy G (anow 1) (anow 2) 64 now.1, cBy G (anow 3) (anow 4) 64 now.2.1, cDe G (anow 5) (anow 6) (anow 7) (anow 8) (anow 9) (anow 10) (anow 11) now.2.2.1, cPl G (anow 12) (anow 13) now.2.2.2.1, cBy G (anow 14) (anow 15) 200 now.2.2.2.2.1, [((anow 16), .inr (6, [.ref (anow 17), .int now.2.2.2.2.2.2.1, .int now.2.2.2.2.2.2.2]))], cBy G (anow 17) (anow 18) 64 now.2.2.2.2.2.1, cHist G hhist_0 hhist_1 ahist0 ahist1 ahist2 ahist3 x2, [(hdec_0, .inr (1, [.ref hdec_1, .int x1.2.2.1, .int x1.2.2.2.1, .int x1.2.2.2.2]))], cDe G hdec_1 hdec_2 hdec_3 hdec_4 hdec_5 hdec_6 hdec_7 x1.2.1]) (rest := []) hx hb hml hown hts hK (c_X4_saveB l G hhist_0 hhist_1 ahist0 ahist1 ahist2 ahist3 anow hist now hcx2) wd_249 wd_8 wd_246 wd_247 wd_248 hd_X4_save ⟨rfl, rfl, Nat.le_of_ble_eq_true rfl, Nat.le_of_ble_eq_true rfl⟩ hP hD hS hA [9, 1, 2, 3, 4, 5, 6, 7, 8] rfl (blk_D [9, 1, 2, 3, 4, 5, 6, 7, 8] rfl hD rfl) rfl rfl 3 20 rfl rfl rfl rfl hl.1 rfl (Nat.le_of_ble_eq_true rfl) dX10_decode_33 ⟨Nat.zero_le _, Nat.zero_le _⟩ (fun H locs hP hD hS => ?_)
    refine lv_aload_n (pc := 36) hx hb dX10_decode_36 rfl (lv_at hl 1 rfl) ?_
    refine va_get (pc := 37) (D := G.1) (ci := 7) (v := .ref (anow 0)) (C := RX10) (T := TX10) (N := 3) hx hb hts inX10 hown hK.1 hP 0 rfl rfl 0 (by decide) (hts _ wd_232) (fun _ h9 => h9) rfl dX10_decode_37 ?_
    obtain ⟨x3, hcx3, hf⟩ := bn_some hf
    refine g_callVB (pc := 40) (bs' := [[(hx_0, .inr (7, [.ref (anow 0), .ref hhist_0, .ref hdec_0]))], [((anow 0), .inr (5, [.ref (anow 1), .ref (anow 3), .ref (anow 5), .ref (anow 12), .ref (anow 14), .ref (anow 16)]))], cBy G (anow 1) (anow 2) 64 x3.1, cBy G (anow 3) (anow 4) 64 x3.2.1, cDe G (anow 5) (anow 6) (anow 7) (anow 8) (anow 9) (anow 10) (anow 11) x3.2.2.1, cPl G (anow 12) (anow 13) x3.2.2.2.1, cBy G (anow 14) (anow 15) 200 x3.2.2.2.2.1, [((anow 16), .inr (6, [.ref (anow 17), .int x3.2.2.2.2.2.2.1, .int x3.2.2.2.2.2.2.2]))], cBy G (anow 17) (anow 18) 64 x3.2.2.2.2.2.1, cHist G hhist_0 hhist_1 ahist0 ahist1 ahist2 ahist3 x2, [(hdec_0, .inr (1, [.ref hdec_1, .int x1.2.2.1, .int x1.2.2.2.1, .int x1.2.2.2.2]))], cDe G hdec_1 hdec_2 hdec_3 hdec_4 hdec_5 hdec_6 hdec_7 x1.2.1]) (rest := []) hx hb hml hown hts hK (c_X8_dropPlanB l G anow now hcx3) wd_283 wd_2 wd_280 wd_281 wd_282 hd_X8_dropPlan ⟨rfl, rfl, Nat.le_of_ble_eq_true rfl, Nat.le_of_ble_eq_true rfl⟩ hP hD hS hA [1, 2, 3, 4, 5, 6, 7, 8] rfl (blk_D [1, 2, 3, 4, 5, 6, 7, 8] rfl hD rfl) rfl rfl 5 1 rfl rfl rfl rfl hl.1 rfl (Nat.le_of_ble_eq_true rfl) dX10_decode_40 ⟨Nat.zero_le _, Nat.zero_le _⟩ (fun H locs hP hD hS => ?_)
    refine lv_aload_n (pc := 43) hx hb dX10_decode_43 rfl (lv_at hl 1 rfl) ?_
    refine va_get (pc := 44) (D := G.1) (ci := 7) (v := .ref (anow 0)) (C := RX10) (T := TX10) (N := 3) hx hb hts inX10 hown hK.1 hP 0 rfl rfl 0 (by decide) (hts _ wd_232) (fun _ h9 => h9) rfl dX10_decode_44 ?_
    refine va_getN (pc := 47) (D := G.1) (ci := 5) (v := .ref (anow 5)) (C := RX8) (T := TX8) (N := 6) hx hb hts inX8 hown hK.1 hP 1 rfl rfl 2 (by decide) (nfw_167 hK) (fun _ h9 => h9) rfl dX10_decode_47 ?_
    refine lv_aload_n (pc := 50) hx hb dX10_decode_50 rfl (lv_at hl 1 rfl) ?_
    refine va_get (pc := 51) (D := G.1) (ci := 7) (v := .ref hdec_0) (C := RX10) (T := TX10) (N := 3) hx hb hts inX10 hown hK.1 hP 0 rfl rfl 2 (by decide) (hts _ wd_234) (fun _ h9 => h9) rfl dX10_decode_51 ?_
    refine va_getN (pc := 54) (D := G.1) (ci := 1) (v := .ref hdec_1) (C := RX1) (T := TX1) (N := 4) hx hb hts inX1 hown hK.1 hP 98 rfl rfl 0 (by decide) (nfw_219 hK) (fun _ h9 => h9) rfl dX10_decode_54 ?_
    obtain ⟨x4, hcx4, hf⟩ := bn_some hf
    refine g_callVB (pc := 57) (bs' := [[(hx_0, .inr (7, [.ref (anow 0), .ref hhist_0, .ref hdec_0]))], [((anow 0), .inr (5, [.ref (anow 1), .ref (anow 3), .ref (anow 5), .ref (anow 12), .ref (anow 14), .ref (anow 16)]))], cBy G (anow 1) (anow 2) 64 x3.1, cBy G (anow 3) (anow 4) 64 x3.2.1, cDe G (anow 5) (anow 6) (anow 7) (anow 8) (anow 9) (anow 10) (anow 11) x4, cPl G (anow 12) (anow 13) x3.2.2.2.1, cBy G (anow 14) (anow 15) 200 x3.2.2.2.2.1, [((anow 16), .inr (6, [.ref (anow 17), .int x3.2.2.2.2.2.2.1, .int x3.2.2.2.2.2.2.2]))], cBy G (anow 17) (anow 18) 64 x3.2.2.2.2.2.1, cHist G hhist_0 hhist_1 ahist0 ahist1 ahist2 ahist3 x2, [(hdec_0, .inr (1, [.ref hdec_1, .int x1.2.2.1, .int x1.2.2.2.1, .int x1.2.2.2.2]))], cDe G hdec_1 hdec_2 hdec_3 hdec_4 hdec_5 hdec_6 hdec_7 x1.2.1]) (rest := []) hx hb hml hown hts hK (c_X2_takeB l G (anow 5) (anow 6) (anow 7) (anow 8) (anow 9) (anow 10) (anow 11) hdec_1 hdec_2 hdec_3 hdec_4 hdec_5 hdec_6 hdec_7 x3.2.2.1 x1.2.1 hcx4) wd_267 wd_5 wd_438 wd_265 wd_266 hd_X2_take ⟨rfl, rfl, Nat.le_of_ble_eq_true rfl, Nat.le_of_ble_eq_true rfl⟩ hP hD hS hA [4, 11] rfl (blk_D [4, 11] rfl hD rfl) rfl rfl 2 6 rfl rfl rfl rfl hl.1 rfl (Nat.le_of_ble_eq_true rfl) dX10_decode_57 ⟨Nat.zero_le _, Nat.zero_le _⟩ (fun H locs hP hD hS => ?_)
    refine lv_aload_n (pc := 60) hx hb dX10_decode_60 rfl (lv_at hl 1 rfl) ?_
    refine va_get (pc := 61) (D := G.1) (ci := 7) (v := .ref (anow 0)) (C := RX10) (T := TX10) (N := 3) hx hb hts inX10 hown hK.1 hP 0 rfl rfl 0 (by decide) (hts _ wd_232) (fun _ h9 => h9) rfl dX10_decode_61 ?_
    refine va_getN (pc := 64) (D := G.1) (ci := 5) (v := .ref (anow 5)) (C := RX8) (T := TX8) (N := 6) hx hb hts inX8 hown hK.1 hP 1 rfl rfl 2 (by decide) (nfw_167 hK) (fun _ h9 => h9) rfl dX10_decode_64 ?_
    refine va_getN (pc := 67) (D := G.1) (ci := 2) (v := .int x4.2.2.2.2.2.2.2.2.1) (C := RX2) (T := TX2) (N := 11) hx hb hts inX2 hown hK.1 hP 6 rfl rfl 8 (by decide) (nfw_81 hK) (fun _ h9 => h9) rfl dX10_decode_67 ?_
    have hf := Option.some.inj hf; subst hf
    rw [← hQ]
    exact g_iret hx hb hr hlocks hP hS dX10_decode_70
  · have hf := br_n hc hf
    refine lv_bipush (pc := 20) (v := (-10 : Int32)) hx hb dX10_decode_20 (by decide) ?_
    refine lv_iload_n (pc := 22) hx hb dX10_decode_22 rfl (lv_at hl 0 rfl) ?_
    refine lv_isub (pc := 23) hx hb dX10_decode_23 ?_
    have hf := Option.some.inj hf; subst hf
    rw [← hQ]
    exact g_iret hx hb hr hlocks hP hS dX10_decode_24
theorem hd_X10_begin : yX10_begin.cls ≠ "java/lang/invoke/MethodHandle" ∧ yX10_begin.cls ≠ "java/lang/invoke/VarHandle" ∧ (parseMethodDescriptor yX10_begin.desc).map (fun d => d.parameters.length) = some 0 := by decide +kernel
abbrev rm_X10_begin : Room := { frames := 7, cells := 1, slots := 6, locals := 148 }
noncomputable def f_X10_begin (now : TState) (hist : THistory) : Option (String ⊕ (Int32 × TState × THistory)) :=
  (f_X10_requirePlan now).bind (fun x1 => rx x1 ((f_X4_save hist now).bind (fun x2 => (f_X9_start now).bind (fun x3 => some (.inr (x3.2.2.2.2.2.2.2, x3, x2))))))
set_option maxHeartbeats 4000000 in
set_option maxRecDepth 100000 in
theorem c_X10_begin (l : Launch) (hl0 : l.stackTraces = false) (G : GT) (hx_0 hdec_0 : Nat) (anow : Nat → Nat) (hhist_0 hhist_1 : Nat) (ahist0 ahist1 ahist2 ahist3 : Nat → Nat) (now : TState) (hist : THistory) {r : String ⊕ (Int32 × TState × THistory)} (hf : f_X10_begin now hist = some r) : CtP l yX10_begin (Cond.code yX10_begin cX10_begin 1 (some .int) :: lw_g) rm_X10_begin G [.ref hx_0] (List.flatten [[(hx_0, .inr (7, [.ref (anow 0), .ref hhist_0, .ref hdec_0]))], [((anow 0), .inr (5, [.ref (anow 1), .ref (anow 3), .ref (anow 5), .ref (anow 12), .ref (anow 14), .ref (anow 16)]))], cBy G (anow 1) (anow 2) 64 now.1, cBy G (anow 3) (anow 4) 64 now.2.1, cDe G (anow 5) (anow 6) (anow 7) (anow 8) (anow 9) (anow 10) (anow 11) now.2.2.1, cPl G (anow 12) (anow 13) now.2.2.2.1, cBy G (anow 14) (anow 15) 200 now.2.2.2.2.1, [((anow 16), .inr (6, [.ref (anow 17), .int now.2.2.2.2.2.2.1, .int now.2.2.2.2.2.2.2]))], cBy G (anow 17) (anow 18) 64 now.2.2.2.2.2.1, cHist G hhist_0 hhist_1 ahist0 ahist1 ahist2 ahist3 hist]) (pR (fun (r : (Int32 × TState × THistory)) => (some (.int r.1))) (fun (r : (Int32 × TState × THistory)) => (List.flatten [[(hx_0, .inr (7, [.ref (anow 0), .ref hhist_0, .ref hdec_0]))], [((anow 0), .inr (5, [.ref (anow 1), .ref (anow 3), .ref (anow 5), .ref (anow 12), .ref (anow 14), .ref (anow 16)]))], cBy G (anow 1) (anow 2) 64 r.2.1.1, cBy G (anow 3) (anow 4) 64 r.2.1.2.1, cDe G (anow 5) (anow 6) (anow 7) (anow 8) (anow 9) (anow 10) (anow 11) r.2.1.2.2.1, cPl G (anow 12) (anow 13) r.2.1.2.2.2.1, cBy G (anow 14) (anow 15) 200 r.2.1.2.2.2.2.1, [((anow 16), .inr (6, [.ref (anow 17), .int r.2.1.2.2.2.2.2.2.1, .int r.2.1.2.2.2.2.2.2.2]))], cBy G (anow 17) (anow 18) 64 r.2.1.2.2.2.2.2.1, cHist G hhist_0 hhist_1 ahist0 ahist1 ahist2 ahist3 r.2.2])) r) := by
  refine CtP.ofW (cc := cX10_begin) (maxL := 1) (ret := (some .int)) (own := RX10) (by decide) rfl rfl (Nat.le_of_ble_eq_true rfl) ?_
  intro p e s m args below meth c A hx hb hr hml hts hown hlocks hK hP hD hA hS hno hZ ls hl
  have hl : lv_has ls 1 [(0, .ref hx_0)] := hl
  generalize hX : pR _ _ r = X
  generalize hQ : xMQ below G _ A X args s _ _ = Q
  generalize hH : s.heap = H at hP ⊢
  have hS : va_S A s.heap H [] := by rw [← hH]; exact hS
  generalize ([] : List Loc) = locs at hS ⊢
  unfold f_X10_begin at hf
  refine lv_aload_n (pc := 0) hx hb dX10_begin_0 rfl (lv_at hl 0 rfl) ?_
  obtain ⟨x1, hcx1, hf⟩ := bn_some hf
  rw [← hQ]
  refine x_callV (x1 := x1) (rest := []) hx hb hml hown hts hK hZ (c_X10_requirePlan l hl0 G hx_0 hhist_0 hdec_0 anow now hcx1) wd_724 wd_1 wd_721 wd_723 ws_9 hd_X10_requirePlan ⟨(Nat.le_of_ble_eq_true rfl), (Nat.le_of_ble_eq_true rfl)⟩ hP hD hS hA [0, 1, 2, 3, 4, 5, 6, 7, 8, 9, 10, 11, 12, 13, 14, 15, 16, 17, 18, 19] rfl rfl hno hlocks (fun E e9 => by rw [← hX, rx_E hf E e9]; rfl) (Nat.le_of_ble_eq_true rfl) (Nat.le_of_ble_eq_true rfl) 7 0 rfl rfl rfl rfl hl.1 rfl (Nat.le_of_ble_eq_true rfl) dX10_begin_1 ⟨(Nat.le_of_ble_eq_true rfl), (Nat.le_of_ble_eq_true rfl)⟩ (fun e9 H locs hP hS => ?_)
  have hf := rx_n hf e9
  refine W.widen (k := 1) (n := 6) (Nat.le_of_ble_eq_true rfl) (Nat.le_of_ble_eq_true rfl) ?_
  rw [hQ]
  refine lv_aload_n (pc := 4) hx hb dX10_begin_4 rfl (lv_at hl 0 rfl) ?_
  refine va_get (pc := 5) (D := G.1) (ci := 7) (v := .ref hhist_0) (C := RX10) (T := TX10) (N := 3) hx hb hts inX10 hown hK.1 hP 0 rfl rfl 1 (by decide) (hts _ wd_233) (fun _ h9 => h9) rfl dX10_begin_5 ?_
  refine lv_aload_n (pc := 8) hx hb dX10_begin_8 rfl (lv_at hl 0 rfl) ?_
  refine va_get (pc := 9) (D := G.1) (ci := 7) (v := .ref (anow 0)) (C := RX10) (T := TX10) (N := 3) hx hb hts inX10 hown hK.1 hP 0 rfl rfl 0 (by decide) (hts _ wd_232) (fun _ h9 => h9) rfl dX10_begin_9 ?_
  obtain ⟨x2, hcx2, hf⟩ := bn_some hf
  refine g_callVB (pc := 12) (bs' := [[(hx_0, .inr (7, [.ref (anow 0), .ref hhist_0, .ref hdec_0]))], [((anow 0), .inr (5, [.ref (anow 1), .ref (anow 3), .ref (anow 5), .ref (anow 12), .ref (anow 14), .ref (anow 16)]))], cBy G (anow 1) (anow 2) 64 now.1, cBy G (anow 3) (anow 4) 64 now.2.1, cDe G (anow 5) (anow 6) (anow 7) (anow 8) (anow 9) (anow 10) (anow 11) now.2.2.1, cPl G (anow 12) (anow 13) now.2.2.2.1, cBy G (anow 14) (anow 15) 200 now.2.2.2.2.1, [((anow 16), .inr (6, [.ref (anow 17), .int now.2.2.2.2.2.2.1, .int now.2.2.2.2.2.2.2]))], cBy G (anow 17) (anow 18) 64 now.2.2.2.2.2.1, cHist G hhist_0 hhist_1 ahist0 ahist1 ahist2 ahist3 x2]) (rest := []) hx hb hml hown hts hK (c_X4_saveB l G hhist_0 hhist_1 ahist0 ahist1 ahist2 ahist3 anow hist now hcx2) wd_249 wd_8 wd_246 wd_247 wd_248 hd_X4_save ⟨rfl, rfl, Nat.le_of_ble_eq_true rfl, Nat.le_of_ble_eq_true rfl⟩ hP hD hS hA [9, 1, 2, 3, 4, 5, 6, 7, 8] rfl (blk_D [9, 1, 2, 3, 4, 5, 6, 7, 8] rfl hD rfl) rfl rfl 3 20 rfl rfl rfl rfl hl.1 rfl (Nat.le_of_ble_eq_true rfl) dX10_begin_12 ⟨Nat.le_of_ble_eq_true rfl, Nat.le_of_ble_eq_true rfl⟩ (fun H locs hP hD hS => ?_)
  refine lv_aload_n (pc := 15) hx hb dX10_begin_15 rfl (lv_at hl 0 rfl) ?_
  refine va_get (pc := 16) (D := G.1) (ci := 7) (v := .ref (anow 0)) (C := RX10) (T := TX10) (N := 3) hx hb hts inX10 hown hK.1 hP 0 rfl rfl 0 (by decide) (hts _ wd_232) (fun _ h9 => h9) rfl dX10_begin_16 ?_
  refine va_getN (pc := 19) (D := G.1) (ci := 5) (v := .ref (anow 16)) (C := RX8) (T := TX8) (N := 6) hx hb hts inX8 hown hK.1 hP 1 rfl rfl 5 (by decide) (nfw_176 hK) (fun _ h9 => h9) rfl dX10_begin_19 ?_
  refine lv_aload_n (pc := 22) hx hb dX10_begin_22 rfl (lv_at hl 0 rfl) ?_
  refine va_get (pc := 23) (D := G.1) (ci := 7) (v := .ref (anow 0)) (C := RX10) (T := TX10) (N := 3) hx hb hts inX10 hown hK.1 hP 0 rfl rfl 0 (by decide) (hts _ wd_232) (fun _ h9 => h9) rfl dX10_begin_23 ?_
  obtain ⟨x3, hcx3, hf⟩ := bn_some hf
  refine g_callVB (pc := 26) (bs' := [[(hx_0, .inr (7, [.ref (anow 0), .ref hhist_0, .ref hdec_0]))], [((anow 0), .inr (5, [.ref (anow 1), .ref (anow 3), .ref (anow 5), .ref (anow 12), .ref (anow 14), .ref (anow 16)]))], cBy G (anow 1) (anow 2) 64 x3.1, cBy G (anow 3) (anow 4) 64 x3.2.1, cDe G (anow 5) (anow 6) (anow 7) (anow 8) (anow 9) (anow 10) (anow 11) x3.2.2.1, cPl G (anow 12) (anow 13) x3.2.2.2.1, cBy G (anow 14) (anow 15) 200 x3.2.2.2.2.1, [((anow 16), .inr (6, [.ref (anow 17), .int x3.2.2.2.2.2.2.1, .int x3.2.2.2.2.2.2.2]))], cBy G (anow 17) (anow 18) 64 x3.2.2.2.2.2.1, cHist G hhist_0 hhist_1 ahist0 ahist1 ahist2 ahist3 x2]) (rest := []) hx hb hml hown hts hK (c_X9_startB l G anow now hcx3) wd_812 wd_7 wd_809 wd_810 wd_811 hd_X9_start ⟨rfl, rfl, Nat.le_of_ble_eq_true rfl, Nat.le_of_ble_eq_true rfl⟩ hP hD hS hA [1, 2, 3, 4, 5, 6, 7, 8] rfl (blk_D [1, 2, 3, 4, 5, 6, 7, 8] rfl hD rfl) rfl rfl 6 17 rfl rfl rfl rfl hl.1 rfl (Nat.le_of_ble_eq_true rfl) dX10_begin_26 ⟨Nat.le_of_ble_eq_true rfl, Nat.le_of_ble_eq_true rfl⟩ (fun H locs hP hD hS => ?_)
  refine lv_aload_n (pc := 29) hx hb dX10_begin_29 rfl (lv_at hl 0 rfl) ?_
  refine va_get (pc := 30) (D := G.1) (ci := 7) (v := .ref (anow 0)) (C := RX10) (T := TX10) (N := 3) hx hb hts inX10 hown hK.1 hP 0 rfl rfl 0 (by decide) (hts _ wd_232) (fun _ h9 => h9) rfl dX10_begin_30 ?_
  refine va_getN (pc := 33) (D := G.1) (ci := 5) (v := .ref (anow 16)) (C := RX8) (T := TX8) (N := 6) hx hb hts inX8 hown hK.1 hP 1 rfl rfl 5 (by decide) (nfw_176 hK) (fun _ h9 => h9) rfl dX10_begin_33 ?_
  refine va_getN (pc := 36) (D := G.1) (ci := 6) (v := .int x3.2.2.2.2.2.2.2) (C := RX9) (T := TX9) (N := 3) hx hb hts inX9 hown hK.1 hP 17 rfl rfl 2 (by decide) (nfw_151 hK) (fun _ h9 => h9) rfl dX10_begin_36 ?_
  have hf := Option.some.inj hf; subst hf
  rw [← hQ]
  exact x_iret hx hb hr hlocks hX.symm (Nat.le_of_ble_eq_true rfl) (Nat.le_of_ble_eq_true rfl) hP hS dX10_begin_39
theorem hd_X10_step : yX10_step.cls ≠ "java/lang/invoke/MethodHandle" ∧ yX10_step.cls ≠ "java/lang/invoke/VarHandle" ∧ (parseMethodDescriptor yX10_step.desc).map (fun d => d.parameters.length) = some 0 := by decide +kernel
abbrev rm_X10_step : Room := { frames := 7, cells := 2, slots := 12, locals := 148 }
noncomputable def f_X10_step (now : TState) (hist : THistory) : Option (String ⊕ (Int32 × TState × THistory)) :=
  (f_X10_requireWork now).bind (fun x1 => rx x1 (br (now.2.2.2.2.2.2.2 = 0) (some (.inl "java/lang/IllegalStateException")) ((f_X4_save hist now).bind (fun x2 => (f_X9_carryOutNext now).bind (fun x3 => some (.inr (x3.2.2.2.2.2.2.2, x3, x2)))))))
set_option maxHeartbeats 4000000 in
set_option maxRecDepth 100000 in
theorem c_X10_step (l : Launch) (hl0 : l.stackTraces = false) (G : GT) (hx_0 hdec_0 : Nat) (anow : Nat → Nat) (hhist_0 hhist_1 : Nat) (ahist0 ahist1 ahist2 ahist3 : Nat → Nat) (now : TState) (hist : THistory) {r : String ⊕ (Int32 × TState × THistory)} (hf : f_X10_step now hist = some r) : CtP l yX10_step (Cond.code yX10_step cX10_step 1 (some .int) :: lw_g) rm_X10_step G [.ref hx_0] (List.flatten [[(hx_0, .inr (7, [.ref (anow 0), .ref hhist_0, .ref hdec_0]))], [((anow 0), .inr (5, [.ref (anow 1), .ref (anow 3), .ref (anow 5), .ref (anow 12), .ref (anow 14), .ref (anow 16)]))], cBy G (anow 1) (anow 2) 64 now.1, cBy G (anow 3) (anow 4) 64 now.2.1, cDe G (anow 5) (anow 6) (anow 7) (anow 8) (anow 9) (anow 10) (anow 11) now.2.2.1, cPl G (anow 12) (anow 13) now.2.2.2.1, cBy G (anow 14) (anow 15) 200 now.2.2.2.2.1, [((anow 16), .inr (6, [.ref (anow 17), .int now.2.2.2.2.2.2.1, .int now.2.2.2.2.2.2.2]))], cBy G (anow 17) (anow 18) 64 now.2.2.2.2.2.1, cHist G hhist_0 hhist_1 ahist0 ahist1 ahist2 ahist3 hist]) (pR (fun (r : (Int32 × TState × THistory)) => (some (.int r.1))) (fun (r : (Int32 × TState × THistory)) => (List.flatten [[(hx_0, .inr (7, [.ref (anow 0), .ref hhist_0, .ref hdec_0]))], [((anow 0), .inr (5, [.ref (anow 1), .ref (anow 3), .ref (anow 5), .ref (anow 12), .ref (anow 14), .ref (anow 16)]))], cBy G (anow 1) (anow 2) 64 r.2.1.1, cBy G (anow 3) (anow 4) 64 r.2.1.2.1, cDe G (anow 5) (anow 6) (anow 7) (anow 8) (anow 9) (anow 10) (anow 11) r.2.1.2.2.1, cPl G (anow 12) (anow 13) r.2.1.2.2.2.1, cBy G (anow 14) (anow 15) 200 r.2.1.2.2.2.2.1, [((anow 16), .inr (6, [.ref (anow 17), .int r.2.1.2.2.2.2.2.2.1, .int r.2.1.2.2.2.2.2.2.2]))], cBy G (anow 17) (anow 18) 64 r.2.1.2.2.2.2.2.1, cHist G hhist_0 hhist_1 ahist0 ahist1 ahist2 ahist3 r.2.2])) r) := by
  refine CtP.ofW (cc := cX10_step) (maxL := 1) (ret := (some .int)) (own := RX10) (by decide) rfl rfl (Nat.le_of_ble_eq_true rfl) ?_
  intro p e s m args below meth c A hx hb hr hml hts hown hlocks hK hP hD hA hS hno hZ ls hl
  have hl : lv_has ls 1 [(0, .ref hx_0)] := hl
  generalize hX : pR _ _ r = X
  generalize hQ : xMQ below G _ A X args s _ _ = Q
  generalize hH : s.heap = H at hP ⊢
  have hS : va_S A s.heap H [] := by rw [← hH]; exact hS
  generalize ([] : List Loc) = locs at hS ⊢
  unfold f_X10_step at hf
  refine lv_aload_n (pc := 0) hx hb dX10_step_0 rfl (lv_at hl 0 rfl) ?_
  obtain ⟨x1, hcx1, hf⟩ := bn_some hf
  rw [← hQ]
  refine x_callV (x1 := x1) (rest := []) hx hb hml hown hts hK hZ (c_X10_requireWork l hl0 G hx_0 hhist_0 hdec_0 anow now hcx1) wd_829 wd_1 wd_826 wd_828 ws_11 hd_X10_requireWork ⟨(Nat.le_of_ble_eq_true rfl), (Nat.le_of_ble_eq_true rfl)⟩ hP hD hS hA [0, 1, 2, 3, 4, 5, 6, 7, 8, 9, 10, 11, 12, 13, 14, 15, 16, 17, 18, 19] rfl rfl hno hlocks (fun E e9 => by rw [← hX, rx_E hf E e9]; rfl) (Nat.le_of_ble_eq_true rfl) (Nat.le_of_ble_eq_true rfl) 7 0 rfl rfl rfl rfl hl.1 rfl (Nat.le_of_ble_eq_true rfl) dX10_step_1 ⟨(Nat.le_of_ble_eq_true rfl), (Nat.le_of_ble_eq_true rfl)⟩ (fun e9 H locs hP hS => ?_)
  have hf := rx_n hf e9
  refine W.widen (k := 1) (n := 6) (Nat.le_of_ble_eq_true rfl) (Nat.le_of_ble_eq_true rfl) ?_
  rw [hQ]
  refine lv_aload_n (pc := 4) hx hb dX10_step_4 rfl (lv_at hl 0 rfl) ?_
  refine va_get (pc := 5) (D := G.1) (ci := 7) (v := .ref (anow 0)) (C := RX10) (T := TX10) (N := 3) hx hb hts inX10 hown hK.1 hP 0 rfl rfl 0 (by decide) (hts _ wd_232) (fun _ h9 => h9) rfl dX10_step_5 ?_
  refine va_getN (pc := 8) (D := G.1) (ci := 5) (v := .ref (anow 16)) (C := RX8) (T := TX8) (N := 6) hx hb hts inX8 hown hK.1 hP 1 rfl rfl 5 (by decide) (nfw_176 hK) (fun _ h9 => h9) rfl dX10_step_8 ?_
  refine va_getN (pc := 11) (D := G.1) (ci := 6) (v := .int now.2.2.2.2.2.2.2) (C := RX9) (T := TX9) (N := 3) hx hb hts inX9 hown hK.1 hP 17 rfl rfl 2 (by decide) (nfw_151 hK) (fun _ h9 => h9) rfl dX10_step_11 ?_
  refine lv_if_ne (pc := 14) (tgt := 27) hx hb dX10_step_14 (by decide) (fun hc => ?_) (fun hc => ?_)
  · have hf := br_n hc hf
    refine lv_aload_n (pc := 27) hx hb dX10_step_27 rfl (lv_at hl 0 rfl) ?_
    refine va_get (pc := 28) (D := G.1) (ci := 7) (v := .ref hhist_0) (C := RX10) (T := TX10) (N := 3) hx hb hts inX10 hown hK.1 hP 0 rfl rfl 1 (by decide) (hts _ wd_233) (fun _ h9 => h9) rfl dX10_step_28 ?_
    refine lv_aload_n (pc := 31) hx hb dX10_step_31 rfl (lv_at hl 0 rfl) ?_
    refine va_get (pc := 32) (D := G.1) (ci := 7) (v := .ref (anow 0)) (C := RX10) (T := TX10) (N := 3) hx hb hts inX10 hown hK.1 hP 0 rfl rfl 0 (by decide) (hts _ wd_232) (fun _ h9 => h9) rfl dX10_step_32 ?_
    obtain ⟨x2, hcx2, hf⟩ := bn_some hf
    refine g_callVB (pc := 35) (bs' := [[(hx_0, .inr (7, [.ref (anow 0), .ref hhist_0, .ref hdec_0]))], [((anow 0), .inr (5, [.ref (anow 1), .ref (anow 3), .ref (anow 5), .ref (anow 12), .ref (anow 14), .ref (anow 16)]))], cBy G (anow 1) (anow 2) 64 now.1, cBy G (anow 3) (anow 4) 64 now.2.1, cDe G (anow 5) (anow 6) (anow 7) (anow 8) (anow 9) (anow 10) (anow 11) now.2.2.1, cPl G (anow 12) (anow 13) now.2.2.2.1, cBy G (anow 14) (anow 15) 200 now.2.2.2.2.1, [((anow 16), .inr (6, [.ref (anow 17), .int now.2.2.2.2.2.2.1, .int now.2.2.2.2.2.2.2]))], cBy G (anow 17) (anow 18) 64 now.2.2.2.2.2.1, cHist G hhist_0 hhist_1 ahist0 ahist1 ahist2 ahist3 x2]) (rest := []) hx hb hml hown hts hK (c_X4_saveB l G hhist_0 hhist_1 ahist0 ahist1 ahist2 ahist3 anow hist now hcx2) wd_249 wd_8 wd_246 wd_247 wd_248 hd_X4_save ⟨rfl, rfl, Nat.le_of_ble_eq_true rfl, Nat.le_of_ble_eq_true rfl⟩ hP hD hS hA [9, 1, 2, 3, 4, 5, 6, 7, 8] rfl (blk_D [9, 1, 2, 3, 4, 5, 6, 7, 8] rfl hD rfl) rfl rfl 3 20 rfl rfl rfl rfl hl.1 rfl (Nat.le_of_ble_eq_true rfl) dX10_step_35 ⟨Nat.le_of_ble_eq_true rfl, Nat.le_of_ble_eq_true rfl⟩ (fun H locs hP hD hS => ?_)
    refine lv_aload_n (pc := 38) hx hb dX10_step_38 rfl (lv_at hl 0 rfl) ?_
    refine va_get (pc := 39) (D := G.1) (ci := 7) (v := .ref (anow 0)) (C := RX10) (T := TX10) (N := 3) hx hb hts inX10 hown hK.1 hP 0 rfl rfl 0 (by decide) (hts _ wd_232) (fun _ h9 => h9) rfl dX10_step_39 ?_
    refine va_getN (pc := 42) (D := G.1) (ci := 5) (v := .ref (anow 16)) (C := RX8) (T := TX8) (N := 6) hx hb hts inX8 hown hK.1 hP 1 rfl rfl 5 (by decide) (nfw_176 hK) (fun _ h9 => h9) rfl dX10_step_42 ?_
    refine lv_aload_n (pc := 45) hx hb dX10_step_45 rfl (lv_at hl 0 rfl) ?_
    refine va_get (pc := 46) (D := G.1) (ci := 7) (v := .ref (anow 0)) (C := RX10) (T := TX10) (N := 3) hx hb hts inX10 hown hK.1 hP 0 rfl rfl 0 (by decide) (hts _ wd_232) (fun _ h9 => h9) rfl dX10_step_46 ?_
    obtain ⟨x3, hcx3, hf⟩ := bn_some hf
    refine g_callVB (pc := 49) (bs' := [[(hx_0, .inr (7, [.ref (anow 0), .ref hhist_0, .ref hdec_0]))], [((anow 0), .inr (5, [.ref (anow 1), .ref (anow 3), .ref (anow 5), .ref (anow 12), .ref (anow 14), .ref (anow 16)]))], cBy G (anow 1) (anow 2) 64 x3.1, cBy G (anow 3) (anow 4) 64 x3.2.1, cDe G (anow 5) (anow 6) (anow 7) (anow 8) (anow 9) (anow 10) (anow 11) x3.2.2.1, cPl G (anow 12) (anow 13) x3.2.2.2.1, cBy G (anow 14) (anow 15) 200 x3.2.2.2.2.1, [((anow 16), .inr (6, [.ref (anow 17), .int x3.2.2.2.2.2.2.1, .int x3.2.2.2.2.2.2.2]))], cBy G (anow 17) (anow 18) 64 x3.2.2.2.2.2.1, cHist G hhist_0 hhist_1 ahist0 ahist1 ahist2 ahist3 x2]) (rest := []) hx hb hml hown hts hK (c_X9_carryOutNextB l G anow now hcx3) wd_835 wd_7 wd_832 wd_833 wd_834 hd_X9_carryOutNext ⟨rfl, rfl, Nat.le_of_ble_eq_true rfl, Nat.le_of_ble_eq_true rfl⟩ hP hD hS hA [1, 2, 3, 4, 5, 6, 7, 8] rfl (blk_D [1, 2, 3, 4, 5, 6, 7, 8] rfl hD rfl) rfl rfl 6 17 rfl rfl rfl rfl hl.1 rfl (Nat.le_of_ble_eq_true rfl) dX10_step_49 ⟨Nat.le_of_ble_eq_true rfl, Nat.le_of_ble_eq_true rfl⟩ (fun H locs hP hD hS => ?_)
    refine lv_aload_n (pc := 52) hx hb dX10_step_52 rfl (lv_at hl 0 rfl) ?_
    refine va_get (pc := 53) (D := G.1) (ci := 7) (v := .ref (anow 0)) (C := RX10) (T := TX10) (N := 3) hx hb hts inX10 hown hK.1 hP 0 rfl rfl 0 (by decide) (hts _ wd_232) (fun _ h9 => h9) rfl dX10_step_53 ?_
    refine va_getN (pc := 56) (D := G.1) (ci := 5) (v := .ref (anow 16)) (C := RX8) (T := TX8) (N := 6) hx hb hts inX8 hown hK.1 hP 1 rfl rfl 5 (by decide) (nfw_176 hK) (fun _ h9 => h9) rfl dX10_step_56 ?_
    refine va_getN (pc := 59) (D := G.1) (ci := 6) (v := .int x3.2.2.2.2.2.2.2) (C := RX9) (T := TX9) (N := 3) hx hb hts inX9 hown hK.1 hP 17 rfl rfl 2 (by decide) (nfw_151 hK) (fun _ h9 => h9) rfl dX10_step_59 ?_
    have hf := Option.some.inj hf; subst hf
    rw [← hQ]
    exact x_iret hx hb hr hlocks hX.symm (Nat.le_of_ble_eq_true rfl) (Nat.le_of_ble_eq_true rfl) hP hS dX10_step_62
  · have hf := br_y hc hf
    have hf := Option.some.inj hf; subst hf
    rw [← hQ]
    exact x_throw (pc := 17) (names := xRE) (cls := xISE) hl0 hx hb hown hts hK (by decide +kernel) nX wd_585 wd_15 rfl sr_206 at1_ISE at2_ISE at3_ISE hno hZ hP hS (hl.1.trans hml.symm) dX10_step_17 dX10_step_20 dX10_step_21 dX10_step_23 dX10_step_26 (Nat.le_of_ble_eq_true rfl) (Nat.le_of_ble_eq_true rfl) (Nat.le_of_ble_eq_true rfl) (Nat.le_of_ble_eq_true rfl) hlocks hX.symm (Nat.le_of_ble_eq_true rfl) (Nat.le_of_ble_eq_true rfl)
theorem hd_X10_workByte : yX10_workByte.cls ≠ "java/lang/invoke/MethodHandle" ∧ yX10_workByte.cls ≠ "java/lang/invoke/VarHandle" ∧ (parseMethodDescriptor yX10_workByte.desc).map (fun d => d.parameters.length) = some 1 := by decide +kernel
abbrev rm_X10_workByte : Room := { frames := 7, cells := 2, slots := 12, locals := 112 }
noncomputable def f_X10_workByte (now : TState) (p1 : Int32) : Option (String ⊕ Int32) :=
  (f_X10_requireIndexOrLength p1).bind (fun x1 => rx x1 ((f_X10_requireWork now).bind (fun x2 => rx x2 ((f_X0_atOrLength 64 now.2.2.2.2.2.1 p1).bind (fun x3 => some (.inr x3))))))
set_option maxHeartbeats 4000000 in
set_option maxRecDepth 100000 in
theorem c_X10_workByte (l : Launch) (hl0 : l.stackTraces = false) (G : GT) (hx_0 hhist_0 hdec_0 : Nat) (anow : Nat → Nat) (now : TState) (p1 : Int32) {r : String ⊕ Int32} (hf : f_X10_workByte now p1 = some r) : CtP l yX10_workByte (Cond.code yX10_workByte cX10_workByte 2 (some .int) :: lw_g) rm_X10_workByte G [.ref hx_0, .int p1] (List.flatten [[(hx_0, .inr (7, [.ref (anow 0), .ref hhist_0, .ref hdec_0]))], [((anow 0), .inr (5, [.ref (anow 1), .ref (anow 3), .ref (anow 5), .ref (anow 12), .ref (anow 14), .ref (anow 16)]))], cBy G (anow 1) (anow 2) 64 now.1, cBy G (anow 3) (anow 4) 64 now.2.1, cDe G (anow 5) (anow 6) (anow 7) (anow 8) (anow 9) (anow 10) (anow 11) now.2.2.1, cPl G (anow 12) (anow 13) now.2.2.2.1, cBy G (anow 14) (anow 15) 200 now.2.2.2.2.1, [((anow 16), .inr (6, [.ref (anow 17), .int now.2.2.2.2.2.2.1, .int now.2.2.2.2.2.2.2]))], cBy G (anow 17) (anow 18) 64 now.2.2.2.2.2.1]) (pR (fun (r : Int32) => (some (.int r))) (fun (r : Int32) => (List.flatten [[(hx_0, .inr (7, [.ref (anow 0), .ref hhist_0, .ref hdec_0]))], [((anow 0), .inr (5, [.ref (anow 1), .ref (anow 3), .ref (anow 5), .ref (anow 12), .ref (anow 14), .ref (anow 16)]))], cBy G (anow 1) (anow 2) 64 now.1, cBy G (anow 3) (anow 4) 64 now.2.1, cDe G (anow 5) (anow 6) (anow 7) (anow 8) (anow 9) (anow 10) (anow 11) now.2.2.1, cPl G (anow 12) (anow 13) now.2.2.2.1, cBy G (anow 14) (anow 15) 200 now.2.2.2.2.1, [((anow 16), .inr (6, [.ref (anow 17), .int now.2.2.2.2.2.2.1, .int now.2.2.2.2.2.2.2]))], cBy G (anow 17) (anow 18) 64 now.2.2.2.2.2.1])) r) := by
  refine CtP.ofW (cc := cX10_workByte) (maxL := 2) (ret := (some .int)) (own := RX10) (by decide) rfl rfl (Nat.le_of_ble_eq_true rfl) ?_
  intro p e s m args below meth c A hx hb hr hml hts hown hlocks hK hP hD hA hS hno hZ ls hl
  have hl : lv_has ls 2 [(0, .ref hx_0), (1, .int p1)] := hl
  generalize hX : pR _ _ r = X
  generalize hQ : xMQ below G _ A X args s _ _ = Q
  generalize hH : s.heap = H at hP ⊢
  have hS : va_S A s.heap H [] := by rw [← hH]; exact hS
  generalize ([] : List Loc) = locs at hS ⊢
  unfold f_X10_workByte at hf
  refine lv_iload_n (pc := 0) hx hb dX10_workByte_0 rfl (lv_at hl 1 rfl) ?_
  obtain ⟨x1, hcx1, hf⟩ := bn_some hf
  rw [← hQ]
  refine x_callS (x1 := x1) (rest := []) hx hb hml hown hts hK hZ (c_X10_requireIndexOrLength l hl0 G  p1 hcx1) wd_796 wd_1 wd_794 wd_795 hd_X10_requireIndexOrLength ⟨(Nat.le_of_ble_eq_true rfl), (Nat.le_of_ble_eq_true rfl)⟩ hP hD hS hA [] rfl rfl hno hlocks (fun E e9 => by rw [← hX, rx_E hf E e9]; rfl) (Nat.le_of_ble_eq_true rfl) (Nat.le_of_ble_eq_true rfl) rfl hl.1 rfl (Nat.le_of_ble_eq_true rfl) dX10_workByte_1 ⟨(Nat.le_of_ble_eq_true rfl), (Nat.le_of_ble_eq_true rfl)⟩ (fun e9 H locs hP hS => ?_)
  have hf := rx_n hf e9
  refine W.widen (k := 1) (n := 6) (Nat.le_of_ble_eq_true rfl) (Nat.le_of_ble_eq_true rfl) ?_
  rw [hQ]
  refine lv_aload_n (pc := 4) hx hb dX10_workByte_4 rfl (lv_at hl 0 rfl) ?_
  obtain ⟨x2, hcx2, hf⟩ := bn_some hf
  rw [← hQ]
  refine x_callV (x1 := x2) (rest := []) hx hb hml hown hts hK hZ (c_X10_requireWork l hl0 G hx_0 hhist_0 hdec_0 anow now hcx2) wd_829 wd_1 wd_826 wd_828 ws_11 hd_X10_requireWork ⟨(Nat.le_of_ble_eq_true rfl), (Nat.le_of_ble_eq_true rfl)⟩ hP hD hS hA [0, 1, 2, 3, 4, 5, 6, 7, 8, 9, 10, 11, 12, 13, 14, 15, 16, 17, 18, 19] rfl rfl hno hlocks (fun E e9 => by rw [← hX, rx_E hf E e9]; rfl) (Nat.le_of_ble_eq_true rfl) (Nat.le_of_ble_eq_true rfl) 7 0 rfl rfl rfl rfl hl.1 rfl (Nat.le_of_ble_eq_true rfl) dX10_workByte_5 ⟨(Nat.le_of_ble_eq_true rfl), (Nat.le_of_ble_eq_true rfl)⟩ (fun e9 H locs hP hS => ?_)
  have hf := rx_n hf e9
  refine W.widen (k := 2) (n := 12) (Nat.le_of_ble_eq_true rfl) (Nat.le_of_ble_eq_true rfl) ?_
  rw [hQ]
  refine lv_aload_n (pc := 8) hx hb dX10_workByte_8 rfl (lv_at hl 0 rfl) ?_
  refine va_get (pc := 9) (D := G.1) (ci := 7) (v := .ref (anow 0)) (C := RX10) (T := TX10) (N := 3) hx hb hts inX10 hown hK.1 hP 0 rfl rfl 0 (by decide) (hts _ wd_232) (fun _ h9 => h9) rfl dX10_workByte_9 ?_
  refine va_getN (pc := 12) (D := G.1) (ci := 5) (v := .ref (anow 16)) (C := RX8) (T := TX8) (N := 6) hx hb hts inX8 hown hK.1 hP 1 rfl rfl 5 (by decide) (nfw_176 hK) (fun _ h9 => h9) rfl dX10_workByte_12 ?_
  refine va_getN (pc := 15) (D := G.1) (ci := 6) (v := .ref (anow 17)) (C := RX9) (T := TX9) (N := 3) hx hb hts inX9 hown hK.1 hP 17 rfl rfl 0 (by decide) (nfw_146 hK) (fun _ h9 => h9) rfl dX10_workByte_15 ?_
  refine lv_iload_n (pc := 18) hx hb dX10_workByte_18 rfl (lv_at hl 1 rfl) ?_
  obtain ⟨x3, hcx3, hf⟩ := bn_some hf
  refine g_callVB (pc := 19) (bs' := [[(hx_0, .inr (7, [.ref (anow 0), .ref hhist_0, .ref hdec_0]))], [((anow 0), .inr (5, [.ref (anow 1), .ref (anow 3), .ref (anow 5), .ref (anow 12), .ref (anow 14), .ref (anow 16)]))], cBy G (anow 1) (anow 2) 64 now.1, cBy G (anow 3) (anow 4) 64 now.2.1, cDe G (anow 5) (anow 6) (anow 7) (anow 8) (anow 9) (anow 10) (anow 11) now.2.2.1, cPl G (anow 12) (anow 13) now.2.2.2.1, cBy G (anow 14) (anow 15) 200 now.2.2.2.2.1, [((anow 16), .inr (6, [.ref (anow 17), .int now.2.2.2.2.2.2.1, .int now.2.2.2.2.2.2.2]))], cBy G (anow 17) (anow 18) 64 now.2.2.2.2.2.1]) (rest := []) hx hb hml hown hts hK (c_X0_atOrLengthB l G (anow 17) (anow 18) 64 now.2.2.2.2.2.1 p1 hcx3) wd_801 wd_3 wd_798 wd_799 wd_800 hd_X0_atOrLength ⟨rfl, rfl, Nat.le_of_ble_eq_true rfl, Nat.le_of_ble_eq_true rfl⟩ hP hD hS hA [8] rfl (blk_D [8] rfl hD rfl) rfl rfl 0 18 rfl rfl rfl rfl hl.1 rfl (Nat.le_of_ble_eq_true rfl) dX10_workByte_19 ⟨Nat.le_of_ble_eq_true rfl, Nat.le_of_ble_eq_true rfl⟩ (fun H locs hP hD hS => ?_)
  have hf := Option.some.inj hf; subst hf
  rw [← hQ]
  exact x_iret hx hb hr hlocks hX.symm (Nat.le_of_ble_eq_true rfl) (Nat.le_of_ble_eq_true rfl) hP hS dX10_workByte_22
