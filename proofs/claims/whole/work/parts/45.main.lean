theorem hd_X10_make : yX10_make.cls ≠ "java/lang/invoke/MethodHandle" ∧ yX10_make.cls ≠ "java/lang/invoke/VarHandle" ∧ (parseMethodDescriptor yX10_make.desc).map (fun d => d.parameters.length) = some 0 := by decide +kernel
abbrev rm_X10_make : Room := { frames := 7, cells := 0, slots := 0, locals := 160 }
noncomputable def f_X10_make (now : TState) (hist : THistory) : Option (Int32 × TState × THistory) :=
  (f_X4_save hist now).bind (fun x1 => (f_X8_dropPlan now).bind (fun x2 => (f_X6_fill x2.2.2.1 64 x2.1 64 x2.2.1).bind (fun x3 => some (x3.2.2.2.2.2.2.2.2.1, (x2.1, x2.2.1, x3, x2.2.2.2.1, x2.2.2.2.2.1, x2.2.2.2.2.2), x1))))
set_option maxHeartbeats 4000000 in
set_option maxRecDepth 100000 in
theorem c_X10_make (l : Launch) (G : GT) (hx_0 hdec_0 : Nat) (anow : Nat → Nat) (hhist_0 hhist_1 : Nat) (ahist0 ahist1 ahist2 ahist3 : Nat → Nat) (now : TState) (hist : THistory) {r : Int32 × TState × THistory} (hf : f_X10_make now hist = some r) : Ct l yX10_make (Cond.code yX10_make cX10_make 1 (some .int) :: lw_g) rm_X10_make G [.ref hx_0] (List.flatten [[(hx_0, .inr (7, [.ref (anow 0), .ref hhist_0, .ref hdec_0]))], [((anow 0), .inr (5, [.ref (anow 1), .ref (anow 3), .ref (anow 5), .ref (anow 12), .ref (anow 14), .ref (anow 16)]))], cBy G (anow 1) (anow 2) 64 now.1, cBy G (anow 3) (anow 4) 64 now.2.1, cDe G (anow 5) (anow 6) (anow 7) (anow 8) (anow 9) (anow 10) (anow 11) now.2.2.1, cPl G (anow 12) (anow 13) now.2.2.2.1, cBy G (anow 14) (anow 15) 200 now.2.2.2.2.1, [((anow 16), .inr (6, [.ref (anow 17), .int now.2.2.2.2.2.2.1, .int now.2.2.2.2.2.2.2]))], cBy G (anow 17) (anow 18) 64 now.2.2.2.2.2.1, cHist G hhist_0 hhist_1 ahist0 ahist1 ahist2 ahist3 hist]) (some (.int r.1)) (List.flatten [[(hx_0, .inr (7, [.ref (anow 0), .ref hhist_0, .ref hdec_0]))], [((anow 0), .inr (5, [.ref (anow 1), .ref (anow 3), .ref (anow 5), .ref (anow 12), .ref (anow 14), .ref (anow 16)]))], cBy G (anow 1) (anow 2) 64 r.2.1.1, cBy G (anow 3) (anow 4) 64 r.2.1.2.1, cDe G (anow 5) (anow 6) (anow 7) (anow 8) (anow 9) (anow 10) (anow 11) r.2.1.2.2.1, cPl G (anow 12) (anow 13) r.2.1.2.2.2.1, cBy G (anow 14) (anow 15) 200 r.2.1.2.2.2.2.1, [((anow 16), .inr (6, [.ref (anow 17), .int r.2.1.2.2.2.2.2.2.1, .int r.2.1.2.2.2.2.2.2.2]))], cBy G (anow 17) (anow 18) 64 r.2.1.2.2.2.2.2.1, cHist G hhist_0 hhist_1 ahist0 ahist1 ahist2 ahist3 r.2.2]) := by
  refine Ct.ofW (cc := cX10_make) (maxL := 1) (ret := (some .int)) (own := RX10) (by decide) rfl rfl (Nat.le_of_ble_eq_true rfl) ?_
  intro p e s m args below meth c A hx hb hr hml hts hown hlocks hK hP hD hA hS ls hl
  have hl : lv_has ls 1 [(0, .ref hx_0)] := hl
  generalize hQ : gMQ below G _ _ A args s = Q
  generalize hH : s.heap = H at hP ⊢
  have hS : va_S A s.heap H [] := by rw [← hH]; exact hS
  generalize ([] : List Loc) = locs at hS ⊢
  unfold f_X10_make at hf
  refine lv_aload_n (pc := 0) hx hb dX10_make_0 rfl (lv_at hl 0 rfl) ?_
  refine va_get (pc := 1) (D := G.1) (ci := 7) (v := .ref hhist_0) (C := RX10) (T := TX10) (N := 3) hx hb hts inX10 hown hK.1 hP 0 rfl rfl 1 (by decide) (hts _ wd_233) (fun _ h9 => h9) rfl dX10_make_1 ?_
  refine lv_aload_n (pc := 4) hx hb dX10_make_4 rfl (lv_at hl 0 rfl) ?_
  refine va_get (pc := 5) (D := G.1) (ci := 7) (v := .ref (anow 0)) (C := RX10) (T := TX10) (N := 3) hx hb hts inX10 hown hK.1 hP 0 rfl rfl 0 (by decide) (hts _ wd_232) (fun _ h9 => h9) rfl dX10_make_5 ?_
  obtain ⟨x1, hcx1, hf⟩ := bn_some hf
  refine g_callVB (pc := 8) (bs' := [[(hx_0, .inr (7, [.ref (anow 0), .ref hhist_0, .ref hdec_0]))], [((anow 0), .inr (5, [.ref (anow 1), .ref (anow 3), .ref (anow 5), .ref (anow 12), .ref (anow 14), .ref (anow 16)]))], cBy G (anow 1) (anow 2) 64 now.1, cBy G (anow 3) (anow 4) 64 now.2.1, cDe G (anow 5) (anow 6) (anow 7) (anow 8) (anow 9) (anow 10) (anow 11) now.2.2.1, cPl G (anow 12) (anow 13) now.2.2.2.1, cBy G (anow 14) (anow 15) 200 now.2.2.2.2.1, [((anow 16), .inr (6, [.ref (anow 17), .int now.2.2.2.2.2.2.1, .int now.2.2.2.2.2.2.2]))], cBy G (anow 17) (anow 18) 64 now.2.2.2.2.2.1, cHist G hhist_0 hhist_1 ahist0 ahist1 ahist2 ahist3 x1]) (rest := []) hx hb hml hown hts hK (c_X4_saveB l G hhist_0 hhist_1 ahist0 ahist1 ahist2 ahist3 anow hist now hcx1) wd_249 wd_8 wd_246 wd_247 wd_248 hd_X4_save ⟨rfl, rfl, Nat.le_of_ble_eq_true rfl, Nat.le_of_ble_eq_true rfl⟩ hP hD hS hA [9, 1, 2, 3, 4, 5, 6, 7, 8] rfl (blk_D [9, 1, 2, 3, 4, 5, 6, 7, 8] rfl hD rfl) rfl rfl 3 20 rfl rfl rfl rfl hl.1 rfl (Nat.le_of_ble_eq_true rfl) dX10_make_8 ⟨Nat.zero_le _, Nat.zero_le _⟩ (fun H locs hP hD hS => ?_)
  refine lv_aload_n (pc := 11) hx hb dX10_make_11 rfl (lv_at hl 0 rfl) ?_
  refine va_get (pc := 12) (D := G.1) (ci := 7) (v := .ref (anow 0)) (C := RX10) (T := TX10) (N := 3) hx hb hts inX10 hown hK.1 hP 0 rfl rfl 0 (by decide) (hts _ wd_232) (fun _ h9 => h9) rfl dX10_make_12 ?_
  obtain ⟨x2, hcx2, hf⟩ := bn_some hf
  refine g_callVB (pc := 15) (bs' := [[(hx_0, .inr (7, [.ref (anow 0), .ref hhist_0, .ref hdec_0]))], [((anow 0), .inr (5, [.ref (anow 1), .ref (anow 3), .ref (anow 5), .ref (anow 12), .ref (anow 14), .ref (anow 16)]))], cBy G (anow 1) (anow 2) 64 x2.1, cBy G (anow 3) (anow 4) 64 x2.2.1, cDe G (anow 5) (anow 6) (anow 7) (anow 8) (anow 9) (anow 10) (anow 11) x2.2.2.1, cPl G (anow 12) (anow 13) x2.2.2.2.1, cBy G (anow 14) (anow 15) 200 x2.2.2.2.2.1, [((anow 16), .inr (6, [.ref (anow 17), .int x2.2.2.2.2.2.2.1, .int x2.2.2.2.2.2.2.2]))], cBy G (anow 17) (anow 18) 64 x2.2.2.2.2.2.1, cHist G hhist_0 hhist_1 ahist0 ahist1 ahist2 ahist3 x1]) (rest := []) hx hb hml hown hts hK (c_X8_dropPlanB l G anow now hcx2) wd_283 wd_2 wd_280 wd_281 wd_282 hd_X8_dropPlan ⟨rfl, rfl, Nat.le_of_ble_eq_true rfl, Nat.le_of_ble_eq_true rfl⟩ hP hD hS hA [1, 2, 3, 4, 5, 6, 7, 8] rfl (blk_D [1, 2, 3, 4, 5, 6, 7, 8] rfl hD rfl) rfl rfl 5 1 rfl rfl rfl rfl hl.1 rfl (Nat.le_of_ble_eq_true rfl) dX10_make_15 ⟨Nat.zero_le _, Nat.zero_le _⟩ (fun H locs hP hD hS => ?_)
  refine lv_aload_n (pc := 18) hx hb dX10_make_18 rfl (lv_at hl 0 rfl) ?_
  refine va_get (pc := 19) (D := G.1) (ci := 7) (v := .ref (anow 0)) (C := RX10) (T := TX10) (N := 3) hx hb hts inX10 hown hK.1 hP 0 rfl rfl 0 (by decide) (hts _ wd_232) (fun _ h9 => h9) rfl dX10_make_19 ?_
  refine va_getN (pc := 22) (D := G.1) (ci := 5) (v := .ref (anow 5)) (C := RX8) (T := TX8) (N := 6) hx hb hts inX8 hown hK.1 hP 1 rfl rfl 2 (by decide) (nfw_167 hK) (fun _ h9 => h9) rfl dX10_make_22 ?_
  refine lv_aload_n (pc := 25) hx hb dX10_make_25 rfl (lv_at hl 0 rfl) ?_
  refine va_get (pc := 26) (D := G.1) (ci := 7) (v := .ref (anow 0)) (C := RX10) (T := TX10) (N := 3) hx hb hts inX10 hown hK.1 hP 0 rfl rfl 0 (by decide) (hts _ wd_232) (fun _ h9 => h9) rfl dX10_make_26 ?_
  refine va_getN (pc := 29) (D := G.1) (ci := 5) (v := .ref (anow 1)) (C := RX8) (T := TX8) (N := 6) hx hb hts inX8 hown hK.1 hP 1 rfl rfl 0 (by decide) (nfw_161 hK) (fun _ h9 => h9) rfl dX10_make_29 ?_
  refine lv_aload_n (pc := 32) hx hb dX10_make_32 rfl (lv_at hl 0 rfl) ?_
  refine va_get (pc := 33) (D := G.1) (ci := 7) (v := .ref (anow 0)) (C := RX10) (T := TX10) (N := 3) hx hb hts inX10 hown hK.1 hP 0 rfl rfl 0 (by decide) (hts _ wd_232) (fun _ h9 => h9) rfl dX10_make_33 ?_
  refine va_getN (pc := 36) (D := G.1) (ci := 5) (v := .ref (anow 3)) (C := RX8) (T := TX8) (N := 6) hx hb hts inX8 hown hK.1 hP 1 rfl rfl 1 (by decide) (nfw_163 hK) (fun _ h9 => h9) rfl dX10_make_36 ?_
  obtain ⟨x3, hcx3, hf⟩ := bn_some hf
  refine g_callSB (pc := 39) (bs' := [[(hx_0, .inr (7, [.ref (anow 0), .ref hhist_0, .ref hdec_0]))], [((anow 0), .inr (5, [.ref (anow 1), .ref (anow 3), .ref (anow 5), .ref (anow 12), .ref (anow 14), .ref (anow 16)]))], cBy G (anow 1) (anow 2) 64 x2.1, cBy G (anow 3) (anow 4) 64 x2.2.1, cDe G (anow 5) (anow 6) (anow 7) (anow 8) (anow 9) (anow 10) (anow 11) x3, cPl G (anow 12) (anow 13) x2.2.2.2.1, cBy G (anow 14) (anow 15) 200 x2.2.2.2.2.1, [((anow 16), .inr (6, [.ref (anow 17), .int x2.2.2.2.2.2.2.1, .int x2.2.2.2.2.2.2.2]))], cBy G (anow 17) (anow 18) 64 x2.2.2.2.2.2.1, cHist G hhist_0 hhist_1 ahist0 ahist1 ahist2 ahist3 x1]) (rest := []) hx hb hml hown hts hK (c_X6_fillB l G (anow 5) (anow 6) (anow 7) (anow 8) (anow 9) (anow 10) (anow 11) (anow 1) (anow 2) (anow 3) (anow 4) x2.2.2.1 64 x2.1 64 x2.2.1 hcx3) wd_286 wd_18 wd_284 wd_285 hd_X6_fill ⟨rfl, rfl, Nat.le_of_ble_eq_true rfl, Nat.le_of_ble_eq_true rfl⟩ hP hD hS hA [4, 2, 3] rfl (blk_D [4, 2, 3] rfl hD rfl) rfl rfl rfl hl.1 rfl (Nat.le_of_ble_eq_true rfl) dX10_make_39 ⟨Nat.zero_le _, Nat.zero_le _⟩ (fun H locs hP hD hS => ?_)
  refine lv_aload_n (pc := 42) hx hb dX10_make_42 rfl (lv_at hl 0 rfl) ?_
  refine va_get (pc := 43) (D := G.1) (ci := 7) (v := .ref (anow 0)) (C := RX10) (T := TX10) (N := 3) hx hb hts inX10 hown hK.1 hP 0 rfl rfl 0 (by decide) (hts _ wd_232) (fun _ h9 => h9) rfl dX10_make_43 ?_
  refine va_getN (pc := 46) (D := G.1) (ci := 5) (v := .ref (anow 5)) (C := RX8) (T := TX8) (N := 6) hx hb hts inX8 hown hK.1 hP 1 rfl rfl 2 (by decide) (nfw_167 hK) (fun _ h9 => h9) rfl dX10_make_46 ?_
  refine va_getN (pc := 49) (D := G.1) (ci := 2) (v := .int x3.2.2.2.2.2.2.2.2.1) (C := RX2) (T := TX2) (N := 11) hx hb hts inX2 hown hK.1 hP 6 rfl rfl 8 (by decide) (nfw_81 hK) (fun _ h9 => h9) rfl dX10_make_49 ?_
  have hf := Option.some.inj hf; subst hf
  rw [← hQ]
  exact g_iret hx hb hr hlocks hP hS dX10_make_52
theorem hd_X10_commands : yX10_commands.cls ≠ "java/lang/invoke/MethodHandle" ∧ yX10_commands.cls ≠ "java/lang/invoke/VarHandle" ∧ (parseMethodDescriptor yX10_commands.desc).map (fun d => d.parameters.length) = some 0 := by decide +kernel
abbrev rm_X10_commands : Room := { frames := 0, cells := 0, slots := 0, locals := 0 }
noncomputable def f_X10_commands (now : TState) : Option Int32 :=
  some now.2.2.1.2.2.2.2.2.2.2.2.1
set_option maxHeartbeats 4000000 in
set_option maxRecDepth 100000 in
theorem c_X10_commands (l : Launch) (G : GT) (hx_0 hhist_0 hdec_0 : Nat) (anow : Nat → Nat) (now : TState) {r : Int32} (hf : f_X10_commands now = some r) : Ct l yX10_commands (Cond.code yX10_commands cX10_commands 1 (some .int) :: lw_g) rm_X10_commands G [.ref hx_0] (List.flatten [[(hx_0, .inr (7, [.ref (anow 0), .ref hhist_0, .ref hdec_0]))], [((anow 0), .inr (5, [.ref (anow 1), .ref (anow 3), .ref (anow 5), .ref (anow 12), .ref (anow 14), .ref (anow 16)]))], cBy G (anow 1) (anow 2) 64 now.1, cBy G (anow 3) (anow 4) 64 now.2.1, cDe G (anow 5) (anow 6) (anow 7) (anow 8) (anow 9) (anow 10) (anow 11) now.2.2.1, cPl G (anow 12) (anow 13) now.2.2.2.1, cBy G (anow 14) (anow 15) 200 now.2.2.2.2.1, [((anow 16), .inr (6, [.ref (anow 17), .int now.2.2.2.2.2.2.1, .int now.2.2.2.2.2.2.2]))], cBy G (anow 17) (anow 18) 64 now.2.2.2.2.2.1]) (some (.int r)) (List.flatten [[(hx_0, .inr (7, [.ref (anow 0), .ref hhist_0, .ref hdec_0]))], [((anow 0), .inr (5, [.ref (anow 1), .ref (anow 3), .ref (anow 5), .ref (anow 12), .ref (anow 14), .ref (anow 16)]))], cBy G (anow 1) (anow 2) 64 now.1, cBy G (anow 3) (anow 4) 64 now.2.1, cDe G (anow 5) (anow 6) (anow 7) (anow 8) (anow 9) (anow 10) (anow 11) now.2.2.1, cPl G (anow 12) (anow 13) now.2.2.2.1, cBy G (anow 14) (anow 15) 200 now.2.2.2.2.1, [((anow 16), .inr (6, [.ref (anow 17), .int now.2.2.2.2.2.2.1, .int now.2.2.2.2.2.2.2]))], cBy G (anow 17) (anow 18) 64 now.2.2.2.2.2.1]) := by
  refine Ct.ofW (cc := cX10_commands) (maxL := 1) (ret := (some .int)) (own := RX10) (by decide) rfl rfl (Nat.le_of_ble_eq_true rfl) ?_
  intro p e s m args below meth c A hx hb hr hml hts hown hlocks hK hP hD hA hS ls hl
  have hl : lv_has ls 1 [(0, .ref hx_0)] := hl
  generalize hQ : gMQ below G _ _ A args s = Q
  generalize hH : s.heap = H at hP ⊢
  have hS : va_S A s.heap H [] := by rw [← hH]; exact hS
  generalize ([] : List Loc) = locs at hS ⊢
  unfold f_X10_commands at hf
  refine lv_aload_n (pc := 0) hx hb dX10_commands_0 rfl (lv_at hl 0 rfl) ?_
  refine va_get (pc := 1) (D := G.1) (ci := 7) (v := .ref (anow 0)) (C := RX10) (T := TX10) (N := 3) hx hb hts inX10 hown hK.1 hP 0 rfl rfl 0 (by decide) (hts _ wd_232) (fun _ h9 => h9) rfl dX10_commands_1 ?_
  refine va_getN (pc := 4) (D := G.1) (ci := 5) (v := .ref (anow 5)) (C := RX8) (T := TX8) (N := 6) hx hb hts inX8 hown hK.1 hP 1 rfl rfl 2 (by decide) (nfw_167 hK) (fun _ h9 => h9) rfl dX10_commands_4 ?_
  refine va_getN (pc := 7) (D := G.1) (ci := 2) (v := .int now.2.2.1.2.2.2.2.2.2.2.2.1) (C := RX2) (T := TX2) (N := 11) hx hb hts inX2 hown hK.1 hP 6 rfl rfl 8 (by decide) (nfw_81 hK) (fun _ h9 => h9) rfl dX10_commands_7 ?_
  have hf := Option.some.inj hf; subst hf
  rw [← hQ]
  exact g_iret hx hb hr hlocks hP hS dX10_commands_10
theorem hd_X10_command : yX10_command.cls ≠ "java/lang/invoke/MethodHandle" ∧ yX10_command.cls ≠ "java/lang/invoke/VarHandle" ∧ (parseMethodDescriptor yX10_command.desc).map (fun d => d.parameters.length) = some 2 := by decide +kernel
abbrev rm_X10_command : Room := { frames := 7, cells := 2, slots := 12, locals := 112 }
noncomputable def f_X10_command (now : TState) (p1 : Int32) (p2 : Int32) : Option (String ⊕ Int32) :=
  (f_X2_has now.2.2.1 p1).bind (fun x1 => (f_X10_requireIndex x1).bind (fun x2 => rx x2 (br (p2 < 0) (some (.inl "java/lang/IllegalArgumentException")) (br (p2 ≤ (3 : Int32)) ((f_X2_describe now.2.2.1 p1 p2).bind (fun x3 => some (.inr x3))) (some (.inl "java/lang/IllegalArgumentException"))))))
set_option maxHeartbeats 4000000 in
set_option maxRecDepth 100000 in
theorem c_X10_command (l : Launch) (hl0 : l.stackTraces = false) (G : GT) (hx_0 hhist_0 hdec_0 : Nat) (anow : Nat → Nat) (now : TState) (p1 : Int32) (p2 : Int32) {r : String ⊕ Int32} (hf : f_X10_command now p1 p2 = some r) : CtP l yX10_command (Cond.code yX10_command cX10_command 3 (some .int) :: lw_g) rm_X10_command G [.ref hx_0, .int p1, .int p2] (List.flatten [[(hx_0, .inr (7, [.ref (anow 0), .ref hhist_0, .ref hdec_0]))], [((anow 0), .inr (5, [.ref (anow 1), .ref (anow 3), .ref (anow 5), .ref (anow 12), .ref (anow 14), .ref (anow 16)]))], cBy G (anow 1) (anow 2) 64 now.1, cBy G (anow 3) (anow 4) 64 now.2.1, cDe G (anow 5) (anow 6) (anow 7) (anow 8) (anow 9) (anow 10) (anow 11) now.2.2.1, cPl G (anow 12) (anow 13) now.2.2.2.1, cBy G (anow 14) (anow 15) 200 now.2.2.2.2.1, [((anow 16), .inr (6, [.ref (anow 17), .int now.2.2.2.2.2.2.1, .int now.2.2.2.2.2.2.2]))], cBy G (anow 17) (anow 18) 64 now.2.2.2.2.2.1]) (pR (fun (r : Int32) => (some (.int r))) (fun (r : Int32) => (List.flatten [[(hx_0, .inr (7, [.ref (anow 0), .ref hhist_0, .ref hdec_0]))], [((anow 0), .inr (5, [.ref (anow 1), .ref (anow 3), .ref (anow 5), .ref (anow 12), .ref (anow 14), .ref (anow 16)]))], cBy G (anow 1) (anow 2) 64 now.1, cBy G (anow 3) (anow 4) 64 now.2.1, cDe G (anow 5) (anow 6) (anow 7) (anow 8) (anow 9) (anow 10) (anow 11) now.2.2.1, cPl G (anow 12) (anow 13) now.2.2.2.1, cBy G (anow 14) (anow 15) 200 now.2.2.2.2.1, [((anow 16), .inr (6, [.ref (anow 17), .int now.2.2.2.2.2.2.1, .int now.2.2.2.2.2.2.2]))], cBy G (anow 17) (anow 18) 64 now.2.2.2.2.2.1])) r) := by
  refine CtP.ofW (cc := cX10_command) (maxL := 3) (ret := (some .int)) (own := RX10) (by decide) rfl rfl (Nat.le_of_ble_eq_true rfl) ?_
  intro p e s m args below meth c A hx hb hr hml hts hown hlocks hK hP hD hA hS hno hZ ls hl
  have hl : lv_has ls 3 [(0, .ref hx_0), (1, .int p1), (2, .int p2)] := hl
  generalize hX : pR _ _ r = X
  generalize hQ : xMQ below G _ A X args s _ _ = Q
  generalize hH : s.heap = H at hP ⊢
  have hS : va_S A s.heap H [] := by rw [← hH]; exact hS
  generalize ([] : List Loc) = locs at hS ⊢
  unfold f_X10_command at hf
  refine lv_aload_n (pc := 0) hx hb dX10_command_0 rfl (lv_at hl 0 rfl) ?_
  refine va_get (pc := 1) (D := G.1) (ci := 7) (v := .ref (anow 0)) (C := RX10) (T := TX10) (N := 3) hx hb hts inX10 hown hK.1 hP 0 rfl rfl 0 (by decide) (hts _ wd_232) (fun _ h9 => h9) rfl dX10_command_1 ?_
  refine va_getN (pc := 4) (D := G.1) (ci := 5) (v := .ref (anow 5)) (C := RX8) (T := TX8) (N := 6) hx hb hts inX8 hown hK.1 hP 1 rfl rfl 2 (by decide) (nfw_167 hK) (fun _ h9 => h9) rfl dX10_command_4 ?_
  refine lv_iload_n (pc := 7) hx hb dX10_command_7 rfl (lv_at hl 1 rfl) ?_
  obtain ⟨x1, hcx1, hf⟩ := bn_some hf
  refine g_callVB (pc := 8) (bs' := [[(hx_0, .inr (7, [.ref (anow 0), .ref hhist_0, .ref hdec_0]))], [((anow 0), .inr (5, [.ref (anow 1), .ref (anow 3), .ref (anow 5), .ref (anow 12), .ref (anow 14), .ref (anow 16)]))], cBy G (anow 1) (anow 2) 64 now.1, cBy G (anow 3) (anow 4) 64 now.2.1, cDe G (anow 5) (anow 6) (anow 7) (anow 8) (anow 9) (anow 10) (anow 11) now.2.2.1, cPl G (anow 12) (anow 13) now.2.2.2.1, cBy G (anow 14) (anow 15) 200 now.2.2.2.2.1, [((anow 16), .inr (6, [.ref (anow 17), .int now.2.2.2.2.2.2.1, .int now.2.2.2.2.2.2.2]))], cBy G (anow 17) (anow 18) 64 now.2.2.2.2.2.1]) (rest := []) hx hb hml hown hts hK (c_X2_hasB l G (anow 5) (anow 6) (anow 7) (anow 8) (anow 9) (anow 10) (anow 11) now.2.2.1 p1 hcx1) wd_345 wd_5 wd_660 wd_343 wd_344 hd_X2_has ⟨rfl, rfl, Nat.le_of_ble_eq_true rfl, Nat.le_of_ble_eq_true rfl⟩ hP hD hS hA [4] rfl (blk_D [4] rfl hD rfl) rfl rfl 2 6 rfl rfl rfl rfl hl.1 rfl (Nat.le_of_ble_eq_true rfl) dX10_command_8 ⟨Nat.zero_le _, Nat.zero_le _⟩ (fun H locs hP hD hS => ?_)
  obtain ⟨x2, hcx2, hf⟩ := bn_some hf
  rw [← hQ]
  refine x_callS (x1 := x2) (rest := []) hx hb hml hown hts hK hZ (c_X10_requireIndex l hl0 G  x1 hcx2) wd_617 wd_1 wd_615 wd_616 hd_X10_requireIndex ⟨(Nat.le_of_ble_eq_true rfl), (Nat.le_of_ble_eq_true rfl)⟩ hP hD hS hA [] rfl rfl hno hlocks (fun E e9 => by rw [← hX, rx_E hf E e9]; rfl) (Nat.le_of_ble_eq_true rfl) (Nat.le_of_ble_eq_true rfl) rfl hl.1 rfl (Nat.le_of_ble_eq_true rfl) dX10_command_11 ⟨(Nat.le_of_ble_eq_true rfl), (Nat.le_of_ble_eq_true rfl)⟩ (fun e9 H locs hP hS => ?_)
  have hf := rx_n hf e9
  refine W.widen (k := 1) (n := 6) (Nat.le_of_ble_eq_true rfl) (Nat.le_of_ble_eq_true rfl) ?_
  rw [hQ]
  refine lv_iload_n (pc := 14) hx hb dX10_command_14 rfl (lv_at hl 2 rfl) ?_
  refine lv_if_lt (pc := 15) (tgt := 23) hx hb dX10_command_15 (by decide) (fun hc => ?_) (fun hc => ?_)
  · have hf := br_y hc hf
    have hf := Option.some.inj hf; subst hf
    rw [← hQ]
    exact x_throw (pc := 23) (names := xRE) (cls := xIAE) hl0 hx hb hown hts hK (by decide +kernel) nX wd_505 wd_14 rfl sr_110 at1_IAE at2_IAE at3_IAE hno hZ hP hS (hl.1.trans hml.symm) dX10_command_23 dX10_command_26 dX10_command_27 dX10_command_29 dX10_command_32 (Nat.le_of_ble_eq_true rfl) (Nat.le_of_ble_eq_true rfl) (Nat.le_of_ble_eq_true rfl) (Nat.le_of_ble_eq_true rfl) hlocks hX.symm (Nat.le_of_ble_eq_true rfl) (Nat.le_of_ble_eq_true rfl)
  · have hf := br_n hc hf
    refine lv_iload_n (pc := 18) hx hb dX10_command_18 rfl (lv_at hl 2 rfl) ?_
    refine lv_iconst (pc := 19) (v := (3 : Int32)) hx hb dX10_command_19 (by decide) ?_
    refine lv_icmp_le (pc := 20) (tgt := 33) hx hb dX10_command_20 (by decide) (fun hc => ?_) (fun hc => ?_)
    · have hf := br_y hc hf
      refine lv_aload_n (pc := 33) hx hb dX10_command_33 rfl (lv_at hl 0 rfl) ?_
      refine va_get (pc := 34) (D := G.1) (ci := 7) (v := .ref (anow 0)) (C := RX10) (T := TX10) (N := 3) hx hb hts inX10 hown hK.1 hP 0 rfl rfl 0 (by decide) (hts _ wd_232) (fun _ h9 => h9) rfl dX10_command_34 ?_
      refine va_getN (pc := 37) (D := G.1) (ci := 5) (v := .ref (anow 5)) (C := RX8) (T := TX8) (N := 6) hx hb hts inX8 hown hK.1 hP 1 rfl rfl 2 (by decide) (nfw_167 hK) (fun _ h9 => h9) rfl dX10_command_37 ?_
      refine lv_iload_n (pc := 40) hx hb dX10_command_40 rfl (lv_at hl 1 rfl) ?_
      refine lv_iload_n (pc := 41) hx hb dX10_command_41 rfl (lv_at hl 2 rfl) ?_
      obtain ⟨x3, hcx3, hf⟩ := bn_some hf
      refine g_callVB (pc := 42) (bs' := [[(hx_0, .inr (7, [.ref (anow 0), .ref hhist_0, .ref hdec_0]))], [((anow 0), .inr (5, [.ref (anow 1), .ref (anow 3), .ref (anow 5), .ref (anow 12), .ref (anow 14), .ref (anow 16)]))], cBy G (anow 1) (anow 2) 64 now.1, cBy G (anow 3) (anow 4) 64 now.2.1, cDe G (anow 5) (anow 6) (anow 7) (anow 8) (anow 9) (anow 10) (anow 11) now.2.2.1, cPl G (anow 12) (anow 13) now.2.2.2.1, cBy G (anow 14) (anow 15) 200 now.2.2.2.2.1, [((anow 16), .inr (6, [.ref (anow 17), .int now.2.2.2.2.2.2.1, .int now.2.2.2.2.2.2.2]))], cBy G (anow 17) (anow 18) 64 now.2.2.2.2.2.1]) (rest := []) hx hb hml hown hts hK (c_X2_describeB l G (anow 5) (anow 6) (anow 7) (anow 8) (anow 9) (anow 10) (anow 11) now.2.2.1 p1 p2 hcx3) wd_468 wd_5 wd_662 wd_466 wd_467 hd_X2_describe ⟨rfl, rfl, Nat.le_of_ble_eq_true rfl, Nat.le_of_ble_eq_true rfl⟩ hP hD hS hA [4] rfl (blk_D [4] rfl hD rfl) rfl rfl 2 6 rfl rfl rfl rfl hl.1 rfl (Nat.le_of_ble_eq_true rfl) dX10_command_42 ⟨Nat.le_of_ble_eq_true rfl, Nat.le_of_ble_eq_true rfl⟩ (fun H locs hP hD hS => ?_)
      have hf := Option.some.inj hf; subst hf
      rw [← hQ]
      exact x_iret hx hb hr hlocks hX.symm (Nat.le_of_ble_eq_true rfl) (Nat.le_of_ble_eq_true rfl) hP hS dX10_command_45
    · have hf := br_n hc hf
      have hf := Option.some.inj hf; subst hf
      rw [← hQ]
      exact x_throw (pc := 23) (names := xRE) (cls := xIAE) hl0 hx hb hown hts hK (by decide +kernel) nX wd_505 wd_14 rfl sr_110 at1_IAE at2_IAE at3_IAE hno hZ hP hS (hl.1.trans hml.symm) dX10_command_23 dX10_command_26 dX10_command_27 dX10_command_29 dX10_command_32 (Nat.le_of_ble_eq_true rfl) (Nat.le_of_ble_eq_true rfl) (Nat.le_of_ble_eq_true rfl) (Nat.le_of_ble_eq_true rfl) hlocks hX.symm (Nat.le_of_ble_eq_true rfl) (Nat.le_of_ble_eq_true rfl)
theorem hd_X10_mustPrecede : yX10_mustPrecede.cls ≠ "java/lang/invoke/MethodHandle" ∧ yX10_mustPrecede.cls ≠ "java/lang/invoke/VarHandle" ∧ (parseMethodDescriptor yX10_mustPrecede.desc).map (fun d => d.parameters.length) = some 2 := by decide +kernel
abbrev rm_X10_mustPrecede : Room := { frames := 7, cells := 1, slots := 6, locals := 112 }
noncomputable def f_X10_mustPrecede_J33 (now : TState) (p1 : Int32) (p2 : Int32)  (s0 : Int32) : Option (String ⊕ Int32) :=
  (f_X10_requireIndex s0).bind (fun x2 => rx x2 ((f_X2_precedersOf now.2.2.1 p2).bind (fun x3 => (f_X10_isIn x3 p1).bind (fun x4 => gd (x4 = 0 ∨ x4 = 1) (some (.inr x4))))))
noncomputable def f_X10_mustPrecede_J32 (now : TState) (p1 : Int32) (p2 : Int32)   : Option (String ⊕ Int32) :=
  f_X10_mustPrecede_J33 now p1 p2 (0 : Int32)
noncomputable def f_X10_mustPrecede (now : TState) (p1 : Int32) (p2 : Int32) : Option (String ⊕ Int32) :=
  (f_X2_has now.2.2.1 p1).bind (fun x1 => br (x1 = 0) (f_X10_mustPrecede_J32 now p1 p2) ((f_X2_has now.2.2.1 p2).bind (fun x5 => br (x5 = 0) (f_X10_mustPrecede_J32 now p1 p2) (f_X10_mustPrecede_J33 now p1 p2 (1 : Int32)))))
set_option maxHeartbeats 4000000 in
set_option maxRecDepth 100000 in
theorem c_X10_mustPrecede (l : Launch) (hl0 : l.stackTraces = false) (G : GT) (hx_0 hhist_0 hdec_0 : Nat) (anow : Nat → Nat) (now : TState) (p1 : Int32) (p2 : Int32) {r : String ⊕ Int32} (hf : f_X10_mustPrecede now p1 p2 = some r) : CtP l yX10_mustPrecede (Cond.code yX10_mustPrecede cX10_mustPrecede 3 (some .boolean) :: lw_g) rm_X10_mustPrecede G [.ref hx_0, .int p1, .int p2] (List.flatten [[(hx_0, .inr (7, [.ref (anow 0), .ref hhist_0, .ref hdec_0]))], [((anow 0), .inr (5, [.ref (anow 1), .ref (anow 3), .ref (anow 5), .ref (anow 12), .ref (anow 14), .ref (anow 16)]))], cBy G (anow 1) (anow 2) 64 now.1, cBy G (anow 3) (anow 4) 64 now.2.1, cDe G (anow 5) (anow 6) (anow 7) (anow 8) (anow 9) (anow 10) (anow 11) now.2.2.1, cPl G (anow 12) (anow 13) now.2.2.2.1, cBy G (anow 14) (anow 15) 200 now.2.2.2.2.1, [((anow 16), .inr (6, [.ref (anow 17), .int now.2.2.2.2.2.2.1, .int now.2.2.2.2.2.2.2]))], cBy G (anow 17) (anow 18) 64 now.2.2.2.2.2.1]) (pR (fun (r : Int32) => (some (.int r))) (fun (r : Int32) => (List.flatten [[(hx_0, .inr (7, [.ref (anow 0), .ref hhist_0, .ref hdec_0]))], [((anow 0), .inr (5, [.ref (anow 1), .ref (anow 3), .ref (anow 5), .ref (anow 12), .ref (anow 14), .ref (anow 16)]))], cBy G (anow 1) (anow 2) 64 now.1, cBy G (anow 3) (anow 4) 64 now.2.1, cDe G (anow 5) (anow 6) (anow 7) (anow 8) (anow 9) (anow 10) (anow 11) now.2.2.1, cPl G (anow 12) (anow 13) now.2.2.2.1, cBy G (anow 14) (anow 15) 200 now.2.2.2.2.1, [((anow 16), .inr (6, [.ref (anow 17), .int now.2.2.2.2.2.2.1, .int now.2.2.2.2.2.2.2]))], cBy G (anow 17) (anow 18) 64 now.2.2.2.2.2.1])) r) := by
  refine CtP.ofW (cc := cX10_mustPrecede) (maxL := 3) (ret := (some .boolean)) (own := RX10) (by decide) rfl rfl (Nat.le_of_ble_eq_true rfl) ?_
  intro p e s m args below meth c A hx hb hr hml hts hown hlocks hK hP hD hA hS hno hZ ls hl
  have hl : lv_has ls 3 [(0, .ref hx_0), (1, .int p1), (2, .int p2)] := hl
  generalize hX : pR _ _ r = X
  generalize hQ : xMQ below G _ A X args s _ _ = Q
  generalize hH : s.heap = H at hP ⊢
  have hS : va_S A s.heap H [] := by rw [← hH]; exact hS
  generalize ([] : List Loc) = locs at hS ⊢
  unfold f_X10_mustPrecede at hf
  have hJ33 : ∀ (s0 : Int32), f_X10_mustPrecede_J33 now p1 p2  s0 = some r → ∀ (H : Heap) (locs : List Loc), va_P G.1 vwCl (List.flatten [[(hx_0, .inr (7, [.ref (anow 0), .ref hhist_0, .ref hdec_0]))], [((anow 0), .inr (5, [.ref (anow 1), .ref (anow 3), .ref (anow 5), .ref (anow 12), .ref (anow 14), .ref (anow 16)]))], cBy G (anow 1) (anow 2) 64 now.1, cBy G (anow 3) (anow 4) 64 now.2.1, cDe G (anow 5) (anow 6) (anow 7) (anow 8) (anow 9) (anow 10) (anow 11) now.2.2.1, cPl G (anow 12) (anow 13) now.2.2.2.1, cBy G (anow 14) (anow 15) 200 now.2.2.2.2.1, [((anow 16), .inr (6, [.ref (anow 17), .int now.2.2.2.2.2.2.1, .int now.2.2.2.2.2.2.2]))], cBy G (anow 17) (anow 18) 64 now.2.2.2.2.2.1]) H → va_D A (List.flatten [[(hx_0, .inr (7, [.ref (anow 0), .ref hhist_0, .ref hdec_0]))], [((anow 0), .inr (5, [.ref (anow 1), .ref (anow 3), .ref (anow 5), .ref (anow 12), .ref (anow 14), .ref (anow 16)]))], cBy G (anow 1) (anow 2) 64 now.1, cBy G (anow 3) (anow 4) 64 now.2.1, cDe G (anow 5) (anow 6) (anow 7) (anow 8) (anow 9) (anow 10) (anow 11) now.2.2.1, cPl G (anow 12) (anow 13) now.2.2.2.1, cBy G (anow 14) (anow 15) 200 now.2.2.2.2.1, [((anow 16), .inr (6, [.ref (anow 17), .int now.2.2.2.2.2.2.1, .int now.2.2.2.2.2.2.2]))], cBy G (anow 17) (anow 18) 64 now.2.2.2.2.2.1]) → va_S A s.heap H locs → ∀ (ls : Array Slot), lv_has ls 3 [(0, .ref hx_0), (1, .int p1), (2, .int p2)] → W p l e (rm_X10_mustPrecede) s m args below meth c H locs 0 0 Q (F0 m 33 ls [.int s0]) := by
    intro s0 hf H locs hP hD hS ls hl
    unfold f_X10_mustPrecede_J33 at hf
    obtain ⟨x2, hcx2, hf⟩ := bn_some hf
    rw [← hQ]
    refine x_callS (x1 := x2) (rest := []) hx hb hml hown hts hK hZ (c_X10_requireIndex l hl0 G  s0 hcx2) wd_617 wd_1 wd_615 wd_616 hd_X10_requireIndex ⟨(Nat.le_of_ble_eq_true rfl), (Nat.le_of_ble_eq_true rfl)⟩ hP hD hS hA [] rfl rfl hno hlocks (fun E e9 => by rw [← hX, rx_E hf E e9]; rfl) (Nat.le_of_ble_eq_true rfl) (Nat.le_of_ble_eq_true rfl) rfl hl.1 rfl (Nat.le_of_ble_eq_true rfl) dX10_mustPrecede_33 ⟨(Nat.le_of_ble_eq_true rfl), (Nat.le_of_ble_eq_true rfl)⟩ (fun e9 H locs hP hS => ?_)
    have hf := rx_n hf e9
    refine W.widen (k := 1) (n := 6) (Nat.le_of_ble_eq_true rfl) (Nat.le_of_ble_eq_true rfl) ?_
    rw [hQ]
    refine lv_aload_n (pc := 36) hx hb dX10_mustPrecede_36 rfl (lv_at hl 0 rfl) ?_
    refine va_get (pc := 37) (D := G.1) (ci := 7) (v := .ref (anow 0)) (C := RX10) (T := TX10) (N := 3) hx hb hts inX10 hown hK.1 hP 0 rfl rfl 0 (by decide) (hts _ wd_232) (fun _ h9 => h9) rfl dX10_mustPrecede_37 ?_
    refine va_getN (pc := 40) (D := G.1) (ci := 5) (v := .ref (anow 5)) (C := RX8) (T := TX8) (N := 6) hx hb hts inX8 hown hK.1 hP 1 rfl rfl 2 (by decide) (nfw_167 hK) (fun _ h9 => h9) rfl dX10_mustPrecede_40 ?_
    refine lv_iload_n (pc := 43) hx hb dX10_mustPrecede_43 rfl (lv_at hl 2 rfl) ?_
    obtain ⟨x3, hcx3, hf⟩ := bn_some hf
    refine g_callVB (pc := 44) (bs' := [[(hx_0, .inr (7, [.ref (anow 0), .ref hhist_0, .ref hdec_0]))], [((anow 0), .inr (5, [.ref (anow 1), .ref (anow 3), .ref (anow 5), .ref (anow 12), .ref (anow 14), .ref (anow 16)]))], cBy G (anow 1) (anow 2) 64 now.1, cBy G (anow 3) (anow 4) 64 now.2.1, cDe G (anow 5) (anow 6) (anow 7) (anow 8) (anow 9) (anow 10) (anow 11) now.2.2.1, cPl G (anow 12) (anow 13) now.2.2.2.1, cBy G (anow 14) (anow 15) 200 now.2.2.2.2.1, [((anow 16), .inr (6, [.ref (anow 17), .int now.2.2.2.2.2.2.1, .int now.2.2.2.2.2.2.2]))], cBy G (anow 17) (anow 18) 64 now.2.2.2.2.2.1]) (rest := []) hx hb hml hown hts hK (c_X2_precedersOfB l G (anow 5) (anow 6) (anow 7) (anow 8) (anow 9) (anow 10) (anow 11) now.2.2.1 p2 hcx3) wd_388 wd_5 wd_670 wd_386 wd_387 hd_X2_precedersOf ⟨rfl, rfl, Nat.le_of_ble_eq_true rfl, Nat.le_of_ble_eq_true rfl⟩ hP hD hS hA [4] rfl (blk_D [4] rfl hD rfl) rfl rfl 2 6 rfl rfl rfl rfl hl.1 rfl (Nat.le_of_ble_eq_true rfl) dX10_mustPrecede_44 ⟨Nat.le_of_ble_eq_true rfl, Nat.le_of_ble_eq_true rfl⟩ (fun H locs hP hD hS => ?_)
    refine lv_iload_n (pc := 47) hx hb dX10_mustPrecede_47 rfl (lv_at hl 1 rfl) ?_
    obtain ⟨x4, hcx4, hf⟩ := bn_some hf
    refine g_callSB (pc := 48) (bs' := [[(hx_0, .inr (7, [.ref (anow 0), .ref hhist_0, .ref hdec_0]))], [((anow 0), .inr (5, [.ref (anow 1), .ref (anow 3), .ref (anow 5), .ref (anow 12), .ref (anow 14), .ref (anow 16)]))], cBy G (anow 1) (anow 2) 64 now.1, cBy G (anow 3) (anow 4) 64 now.2.1, cDe G (anow 5) (anow 6) (anow 7) (anow 8) (anow 9) (anow 10) (anow 11) now.2.2.1, cPl G (anow 12) (anow 13) now.2.2.2.1, cBy G (anow 14) (anow 15) 200 now.2.2.2.2.1, [((anow 16), .inr (6, [.ref (anow 17), .int now.2.2.2.2.2.2.1, .int now.2.2.2.2.2.2.2]))], cBy G (anow 17) (anow 18) 64 now.2.2.2.2.2.1]) (rest := []) hx hb hml hown hts hK (c_X10_isInB l G  x3 p1 hcx4) wd_333 wd_1 wd_671 wd_332 hd_X10_isIn ⟨rfl, rfl, Nat.le_of_ble_eq_true rfl, Nat.le_of_ble_eq_true rfl⟩ hP hD hS hA [] rfl (blk_D [] rfl hD rfl) rfl rfl rfl hl.1 rfl (Nat.le_of_ble_eq_true rfl) dX10_mustPrecede_48 ⟨Nat.le_of_ble_eq_true rfl, Nat.le_of_ble_eq_true rfl⟩ (fun H locs hP hD hS => ?_)
    obtain ⟨hg, hf⟩ := gd_some hf
    have hf := Option.some.inj hf; subst hf
    rw [← hQ]
    exact x_zret hx hb hr hlocks (z01 hg) hX.symm (Nat.le_of_ble_eq_true rfl) (Nat.le_of_ble_eq_true rfl) hP hS dX10_mustPrecede_51
  have hJ32 : f_X10_mustPrecede_J32 now p1 p2   = some r → ∀ (H : Heap) (locs : List Loc), va_P G.1 vwCl (List.flatten [[(hx_0, .inr (7, [.ref (anow 0), .ref hhist_0, .ref hdec_0]))], [((anow 0), .inr (5, [.ref (anow 1), .ref (anow 3), .ref (anow 5), .ref (anow 12), .ref (anow 14), .ref (anow 16)]))], cBy G (anow 1) (anow 2) 64 now.1, cBy G (anow 3) (anow 4) 64 now.2.1, cDe G (anow 5) (anow 6) (anow 7) (anow 8) (anow 9) (anow 10) (anow 11) now.2.2.1, cPl G (anow 12) (anow 13) now.2.2.2.1, cBy G (anow 14) (anow 15) 200 now.2.2.2.2.1, [((anow 16), .inr (6, [.ref (anow 17), .int now.2.2.2.2.2.2.1, .int now.2.2.2.2.2.2.2]))], cBy G (anow 17) (anow 18) 64 now.2.2.2.2.2.1]) H → va_D A (List.flatten [[(hx_0, .inr (7, [.ref (anow 0), .ref hhist_0, .ref hdec_0]))], [((anow 0), .inr (5, [.ref (anow 1), .ref (anow 3), .ref (anow 5), .ref (anow 12), .ref (anow 14), .ref (anow 16)]))], cBy G (anow 1) (anow 2) 64 now.1, cBy G (anow 3) (anow 4) 64 now.2.1, cDe G (anow 5) (anow 6) (anow 7) (anow 8) (anow 9) (anow 10) (anow 11) now.2.2.1, cPl G (anow 12) (anow 13) now.2.2.2.1, cBy G (anow 14) (anow 15) 200 now.2.2.2.2.1, [((anow 16), .inr (6, [.ref (anow 17), .int now.2.2.2.2.2.2.1, .int now.2.2.2.2.2.2.2]))], cBy G (anow 17) (anow 18) 64 now.2.2.2.2.2.1]) → va_S A s.heap H locs → ∀ (ls : Array Slot), lv_has ls 3 [(0, .ref hx_0), (1, .int p1), (2, .int p2)] → W p l e (rm_X10_mustPrecede) s m args below meth c H locs 0 0 Q (F0 m 32 ls []) := by
    intro  hf H locs hP hD hS ls hl
    unfold f_X10_mustPrecede_J32 at hf
    refine lv_iconst (pc := 32) (v := (0 : Int32)) hx hb dX10_mustPrecede_32 (by decide) ?_
    exact hJ33 (0 : Int32) hf H locs hP hD hS ls (lv_sub hl [0, 1, 2] rfl)
  refine lv_aload_n (pc := 0) hx hb dX10_mustPrecede_0 rfl (lv_at hl 0 rfl) ?_
  refine va_get (pc := 1) (D := G.1) (ci := 7) (v := .ref (anow 0)) (C := RX10) (T := TX10) (N := 3) hx hb hts inX10 hown hK.1 hP 0 rfl rfl 0 (by decide) (hts _ wd_232) (fun _ h9 => h9) rfl dX10_mustPrecede_1 ?_
  refine va_getN (pc := 4) (D := G.1) (ci := 5) (v := .ref (anow 5)) (C := RX8) (T := TX8) (N := 6) hx hb hts inX8 hown hK.1 hP 1 rfl rfl 2 (by decide) (nfw_167 hK) (fun _ h9 => h9) rfl dX10_mustPrecede_4 ?_
  refine lv_iload_n (pc := 7) hx hb dX10_mustPrecede_7 rfl (lv_at hl 1 rfl) ?_
  obtain ⟨x1, hcx1, hf⟩ := bn_some hf
  refine g_callVB (pc := 8) (bs' := [[(hx_0, .inr (7, [.ref (anow 0), .ref hhist_0, .ref hdec_0]))], [((anow 0), .inr (5, [.ref (anow 1), .ref (anow 3), .ref (anow 5), .ref (anow 12), .ref (anow 14), .ref (anow 16)]))], cBy G (anow 1) (anow 2) 64 now.1, cBy G (anow 3) (anow 4) 64 now.2.1, cDe G (anow 5) (anow 6) (anow 7) (anow 8) (anow 9) (anow 10) (anow 11) now.2.2.1, cPl G (anow 12) (anow 13) now.2.2.2.1, cBy G (anow 14) (anow 15) 200 now.2.2.2.2.1, [((anow 16), .inr (6, [.ref (anow 17), .int now.2.2.2.2.2.2.1, .int now.2.2.2.2.2.2.2]))], cBy G (anow 17) (anow 18) 64 now.2.2.2.2.2.1]) (rest := []) hx hb hml hown hts hK (c_X2_hasB l G (anow 5) (anow 6) (anow 7) (anow 8) (anow 9) (anow 10) (anow 11) now.2.2.1 p1 hcx1) wd_345 wd_5 wd_660 wd_343 wd_344 hd_X2_has ⟨rfl, rfl, Nat.le_of_ble_eq_true rfl, Nat.le_of_ble_eq_true rfl⟩ hP hD hS hA [4] rfl (blk_D [4] rfl hD rfl) rfl rfl 2 6 rfl rfl rfl rfl hl.1 rfl (Nat.le_of_ble_eq_true rfl) dX10_mustPrecede_8 ⟨Nat.zero_le _, Nat.zero_le _⟩ (fun H locs hP hD hS => ?_)
  refine lv_if_eq (pc := 11) (tgt := 32) hx hb dX10_mustPrecede_11 (by decide) (fun hc => ?_) (fun hc => ?_)
  · have hf := br_y hc hf
    exact hJ32  hf H locs hP hD hS ls (lv_sub hl [0, 1, 2] rfl)
  · have hf := br_n hc hf
    refine lv_aload_n (pc := 14) hx hb dX10_mustPrecede_14 rfl (lv_at hl 0 rfl) ?_
    refine va_get (pc := 15) (D := G.1) (ci := 7) (v := .ref (anow 0)) (C := RX10) (T := TX10) (N := 3) hx hb hts inX10 hown hK.1 hP 0 rfl rfl 0 (by decide) (hts _ wd_232) (fun _ h9 => h9) rfl dX10_mustPrecede_15 ?_
    refine va_getN (pc := 18) (D := G.1) (ci := 5) (v := .ref (anow 5)) (C := RX8) (T := TX8) (N := 6) hx hb hts inX8 hown hK.1 hP 1 rfl rfl 2 (by decide) (nfw_167 hK) (fun _ h9 => h9) rfl dX10_mustPrecede_18 ?_
    refine lv_iload_n (pc := 21) hx hb dX10_mustPrecede_21 rfl (lv_at hl 2 rfl) ?_
    obtain ⟨x5, hcx5, hf⟩ := bn_some hf
    refine g_callVB (pc := 22) (bs' := [[(hx_0, .inr (7, [.ref (anow 0), .ref hhist_0, .ref hdec_0]))], [((anow 0), .inr (5, [.ref (anow 1), .ref (anow 3), .ref (anow 5), .ref (anow 12), .ref (anow 14), .ref (anow 16)]))], cBy G (anow 1) (anow 2) 64 now.1, cBy G (anow 3) (anow 4) 64 now.2.1, cDe G (anow 5) (anow 6) (anow 7) (anow 8) (anow 9) (anow 10) (anow 11) now.2.2.1, cPl G (anow 12) (anow 13) now.2.2.2.1, cBy G (anow 14) (anow 15) 200 now.2.2.2.2.1, [((anow 16), .inr (6, [.ref (anow 17), .int now.2.2.2.2.2.2.1, .int now.2.2.2.2.2.2.2]))], cBy G (anow 17) (anow 18) 64 now.2.2.2.2.2.1]) (rest := []) hx hb hml hown hts hK (c_X2_hasB l G (anow 5) (anow 6) (anow 7) (anow 8) (anow 9) (anow 10) (anow 11) now.2.2.1 p2 hcx5) wd_345 wd_5 wd_660 wd_343 wd_344 hd_X2_has ⟨rfl, rfl, Nat.le_of_ble_eq_true rfl, Nat.le_of_ble_eq_true rfl⟩ hP hD hS hA [4] rfl (blk_D [4] rfl hD rfl) rfl rfl 2 6 rfl rfl rfl rfl hl.1 rfl (Nat.le_of_ble_eq_true rfl) dX10_mustPrecede_22 ⟨Nat.zero_le _, Nat.zero_le _⟩ (fun H locs hP hD hS => ?_)
    refine lv_if_eq (pc := 25) (tgt := 32) hx hb dX10_mustPrecede_25 (by decide) (fun hc => ?_) (fun hc => ?_)
    · have hf := br_y hc hf
      exact hJ32  hf H locs hP hD hS ls (lv_sub hl [0, 1, 2] rfl)
    · have hf := br_n hc hf
      refine lv_iconst (pc := 28) (v := (1 : Int32)) hx hb dX10_mustPrecede_28 (by decide) ?_
      refine lv_goto (pc := 29) (tgt := 33) hx hb dX10_mustPrecede_29 (by decide) ?_
      exact hJ33 (1 : Int32) hf H locs hP hD hS ls (lv_sub hl [0, 1, 2] rfl)
theorem hd_X10_plan : yX10_plan.cls ≠ "java/lang/invoke/MethodHandle" ∧ yX10_plan.cls ≠ "java/lang/invoke/VarHandle" ∧ (parseMethodDescriptor yX10_plan.desc).map (fun d => d.parameters.length) = some 1 := by decide +kernel
abbrev rm_X10_plan : Room := { frames := 7, cells := 1, slots := 6, locals := 163 }
noncomputable def f_X10_plan (now : TState) (hist : THistory) (p1 : Int32) : Option (String ⊕ (Int32 × TState × THistory)) :=
  br (p1 < 0) (some (.inl "java/lang/IllegalArgumentException")) (br (p1 ≤ (2 : Int32)) (br (now.1.2 = now.2.2.1.2.2.2.2.2.2.1) ((f_X4_save hist now).bind (fun x1 => (f_X8_dropPlan now).bind (fun x2 => (f_X7_build x2.2.2.2.1 x2.2.2.1 p1).bind (fun x3 => (f_J6_bitCount_0f7a4 x3.2.2.2.1).bind (fun x4 => some (.inr (x4, (x2.1, x2.2.1, x2.2.2.1, x3, x2.2.2.2.2.1, x2.2.2.2.2.2), x1))))))) (some (.inl "java/lang/IllegalStateException"))) (some (.inl "java/lang/IllegalArgumentException")))
set_option maxHeartbeats 4000000 in
set_option maxRecDepth 100000 in
theorem c_X10_plan (l : Launch) (hl0 : l.stackTraces = false) (G : GT) (hx_0 hdec_0 : Nat) (anow : Nat → Nat) (hhist_0 hhist_1 : Nat) (ahist0 ahist1 ahist2 ahist3 : Nat → Nat) (now : TState) (hist : THistory) (p1 : Int32) {r : String ⊕ (Int32 × TState × THistory)} (hf : f_X10_plan now hist p1 = some r) : CtP l yX10_plan (Cond.code yX10_plan cX10_plan 2 (some .int) :: lw_g) rm_X10_plan G [.ref hx_0, .int p1] (List.flatten [[(hx_0, .inr (7, [.ref (anow 0), .ref hhist_0, .ref hdec_0]))], [((anow 0), .inr (5, [.ref (anow 1), .ref (anow 3), .ref (anow 5), .ref (anow 12), .ref (anow 14), .ref (anow 16)]))], cBy G (anow 1) (anow 2) 64 now.1, cBy G (anow 3) (anow 4) 64 now.2.1, cDe G (anow 5) (anow 6) (anow 7) (anow 8) (anow 9) (anow 10) (anow 11) now.2.2.1, cPl G (anow 12) (anow 13) now.2.2.2.1, cBy G (anow 14) (anow 15) 200 now.2.2.2.2.1, [((anow 16), .inr (6, [.ref (anow 17), .int now.2.2.2.2.2.2.1, .int now.2.2.2.2.2.2.2]))], cBy G (anow 17) (anow 18) 64 now.2.2.2.2.2.1, cHist G hhist_0 hhist_1 ahist0 ahist1 ahist2 ahist3 hist]) (pR (fun (r : (Int32 × TState × THistory)) => (some (.int r.1))) (fun (r : (Int32 × TState × THistory)) => (List.flatten [[(hx_0, .inr (7, [.ref (anow 0), .ref hhist_0, .ref hdec_0]))], [((anow 0), .inr (5, [.ref (anow 1), .ref (anow 3), .ref (anow 5), .ref (anow 12), .ref (anow 14), .ref (anow 16)]))], cBy G (anow 1) (anow 2) 64 r.2.1.1, cBy G (anow 3) (anow 4) 64 r.2.1.2.1, cDe G (anow 5) (anow 6) (anow 7) (anow 8) (anow 9) (anow 10) (anow 11) r.2.1.2.2.1, cPl G (anow 12) (anow 13) r.2.1.2.2.2.1, cBy G (anow 14) (anow 15) 200 r.2.1.2.2.2.2.1, [((anow 16), .inr (6, [.ref (anow 17), .int r.2.1.2.2.2.2.2.2.1, .int r.2.1.2.2.2.2.2.2.2]))], cBy G (anow 17) (anow 18) 64 r.2.1.2.2.2.2.2.1, cHist G hhist_0 hhist_1 ahist0 ahist1 ahist2 ahist3 r.2.2])) r) := by
  refine CtP.ofW (cc := cX10_plan) (maxL := 2) (ret := (some .int)) (own := RX10) (by decide) rfl rfl (Nat.le_of_ble_eq_true rfl) ?_
  intro p e s m args below meth c A hx hb hr hml hts hown hlocks hK hP hD hA hS hno hZ ls hl
  have hl : lv_has ls 2 [(0, .ref hx_0), (1, .int p1)] := hl
  generalize hX : pR _ _ r = X
  generalize hQ : xMQ below G _ A X args s _ _ = Q
  generalize hH : s.heap = H at hP ⊢
  have hS : va_S A s.heap H [] := by rw [← hH]; exact hS
  generalize ([] : List Loc) = locs at hS ⊢
  unfold f_X10_plan at hf
  refine lv_iload_n (pc := 0) hx hb dX10_plan_0 rfl (lv_at hl 1 rfl) ?_
  refine lv_if_lt (pc := 1) (tgt := 9) hx hb dX10_plan_1 (by decide) (fun hc => ?_) (fun hc => ?_)
  · have hf := br_y hc hf
    have hf := Option.some.inj hf; subst hf
    rw [← hQ]
    exact x_throw (pc := 9) (names := xRE) (cls := xIAE) hl0 hx hb hown hts hK (by decide +kernel) nX wd_505 wd_14 rfl sr_124 at1_IAE at2_IAE at3_IAE hno hZ hP hS (hl.1.trans hml.symm) dX10_plan_9 dX10_plan_12 dX10_plan_13 dX10_plan_15 dX10_plan_18 (Nat.le_of_ble_eq_true rfl) (Nat.le_of_ble_eq_true rfl) (Nat.le_of_ble_eq_true rfl) (Nat.le_of_ble_eq_true rfl) hlocks hX.symm (Nat.le_of_ble_eq_true rfl) (Nat.le_of_ble_eq_true rfl)
  · have hf := br_n hc hf
    refine lv_iload_n (pc := 4) hx hb dX10_plan_4 rfl (lv_at hl 1 rfl) ?_
    refine lv_iconst (pc := 5) (v := (2 : Int32)) hx hb dX10_plan_5 (by decide) ?_
    refine lv_icmp_le (pc := 6) (tgt := 19) hx hb dX10_plan_6 (by decide) (fun hc => ?_) (fun hc => ?_)
    · have hf := br_y hc hf
      refine lv_aload_n (pc := 19) hx hb dX10_plan_19 rfl (lv_at hl 0 rfl) ?_
      refine va_get (pc := 20) (D := G.1) (ci := 7) (v := .ref (anow 0)) (C := RX10) (T := TX10) (N := 3) hx hb hts inX10 hown hK.1 hP 0 rfl rfl 0 (by decide) (hts _ wd_232) (fun _ h9 => h9) rfl dX10_plan_20 ?_
      refine va_getN (pc := 23) (D := G.1) (ci := 5) (v := .ref (anow 1)) (C := RX8) (T := TX8) (N := 6) hx hb hts inX8 hown hK.1 hP 1 rfl rfl 0 (by decide) (nfw_161 hK) (fun _ h9 => h9) rfl dX10_plan_23 ?_
      refine va_getN (pc := 26) (D := G.1) (ci := 0) (v := .int now.1.2) (C := RX0) (T := TX0) (N := 2) hx hb hts inX0 hown hK.1 hP 2 rfl rfl 1 (by decide) (nfw_49 hK) (fun _ h9 => h9) rfl dX10_plan_26 ?_
      refine lv_aload_n (pc := 29) hx hb dX10_plan_29 rfl (lv_at hl 0 rfl) ?_
      refine va_get (pc := 30) (D := G.1) (ci := 7) (v := .ref (anow 0)) (C := RX10) (T := TX10) (N := 3) hx hb hts inX10 hown hK.1 hP 0 rfl rfl 0 (by decide) (hts _ wd_232) (fun _ h9 => h9) rfl dX10_plan_30 ?_
      refine va_getN (pc := 33) (D := G.1) (ci := 5) (v := .ref (anow 5)) (C := RX8) (T := TX8) (N := 6) hx hb hts inX8 hown hK.1 hP 1 rfl rfl 2 (by decide) (nfw_167 hK) (fun _ h9 => h9) rfl dX10_plan_33 ?_
      refine va_getN (pc := 36) (D := G.1) (ci := 2) (v := .int now.2.2.1.2.2.2.2.2.2.1) (C := RX2) (T := TX2) (N := 11) hx hb hts inX2 hown hK.1 hP 6 rfl rfl 6 (by decide) (nfw_71 hK) (fun _ h9 => h9) rfl dX10_plan_36 ?_
      refine lv_icmp_eq (pc := 39) (tgt := 52) hx hb dX10_plan_39 (by decide) (fun hc => ?_) (fun hc => ?_)
      · have hf := br_y hc hf
        refine lv_aload_n (pc := 52) hx hb dX10_plan_52 rfl (lv_at hl 0 rfl) ?_
        refine va_get (pc := 53) (D := G.1) (ci := 7) (v := .ref hhist_0) (C := RX10) (T := TX10) (N := 3) hx hb hts inX10 hown hK.1 hP 0 rfl rfl 1 (by decide) (hts _ wd_233) (fun _ h9 => h9) rfl dX10_plan_53 ?_
        refine lv_aload_n (pc := 56) hx hb dX10_plan_56 rfl (lv_at hl 0 rfl) ?_
        refine va_get (pc := 57) (D := G.1) (ci := 7) (v := .ref (anow 0)) (C := RX10) (T := TX10) (N := 3) hx hb hts inX10 hown hK.1 hP 0 rfl rfl 0 (by decide) (hts _ wd_232) (fun _ h9 => h9) rfl dX10_plan_57 ?_
        obtain ⟨x1, hcx1, hf⟩ := bn_some hf
        refine g_callVB (pc := 60) (bs' := [[(hx_0, .inr (7, [.ref (anow 0), .ref hhist_0, .ref hdec_0]))], [((anow 0), .inr (5, [.ref (anow 1), .ref (anow 3), .ref (anow 5), .ref (anow 12), .ref (anow 14), .ref (anow 16)]))], cBy G (anow 1) (anow 2) 64 now.1, cBy G (anow 3) (anow 4) 64 now.2.1, cDe G (anow 5) (anow 6) (anow 7) (anow 8) (anow 9) (anow 10) (anow 11) now.2.2.1, cPl G (anow 12) (anow 13) now.2.2.2.1, cBy G (anow 14) (anow 15) 200 now.2.2.2.2.1, [((anow 16), .inr (6, [.ref (anow 17), .int now.2.2.2.2.2.2.1, .int now.2.2.2.2.2.2.2]))], cBy G (anow 17) (anow 18) 64 now.2.2.2.2.2.1, cHist G hhist_0 hhist_1 ahist0 ahist1 ahist2 ahist3 x1]) (rest := []) hx hb hml hown hts hK (c_X4_saveB l G hhist_0 hhist_1 ahist0 ahist1 ahist2 ahist3 anow hist now hcx1) wd_249 wd_8 wd_246 wd_247 wd_248 hd_X4_save ⟨rfl, rfl, Nat.le_of_ble_eq_true rfl, Nat.le_of_ble_eq_true rfl⟩ hP hD hS hA [9, 1, 2, 3, 4, 5, 6, 7, 8] rfl (blk_D [9, 1, 2, 3, 4, 5, 6, 7, 8] rfl hD rfl) rfl rfl 3 20 rfl rfl rfl rfl hl.1 rfl (Nat.le_of_ble_eq_true rfl) dX10_plan_60 ⟨Nat.zero_le _, Nat.zero_le _⟩ (fun H locs hP hD hS => ?_)
        refine lv_aload_n (pc := 63) hx hb dX10_plan_63 rfl (lv_at hl 0 rfl) ?_
        refine va_get (pc := 64) (D := G.1) (ci := 7) (v := .ref (anow 0)) (C := RX10) (T := TX10) (N := 3) hx hb hts inX10 hown hK.1 hP 0 rfl rfl 0 (by decide) (hts _ wd_232) (fun _ h9 => h9) rfl dX10_plan_64 ?_
        obtain ⟨x2, hcx2, hf⟩ := bn_some hf
        refine g_callVB (pc := 67) (bs' := [[(hx_0, .inr (7, [.ref (anow 0), .ref hhist_0, .ref hdec_0]))], [((anow 0), .inr (5, [.ref (anow 1), .ref (anow 3), .ref (anow 5), .ref (anow 12), .ref (anow 14), .ref (anow 16)]))], cBy G (anow 1) (anow 2) 64 x2.1, cBy G (anow 3) (anow 4) 64 x2.2.1, cDe G (anow 5) (anow 6) (anow 7) (anow 8) (anow 9) (anow 10) (anow 11) x2.2.2.1, cPl G (anow 12) (anow 13) x2.2.2.2.1, cBy G (anow 14) (anow 15) 200 x2.2.2.2.2.1, [((anow 16), .inr (6, [.ref (anow 17), .int x2.2.2.2.2.2.2.1, .int x2.2.2.2.2.2.2.2]))], cBy G (anow 17) (anow 18) 64 x2.2.2.2.2.2.1, cHist G hhist_0 hhist_1 ahist0 ahist1 ahist2 ahist3 x1]) (rest := []) hx hb hml hown hts hK (c_X8_dropPlanB l G anow now hcx2) wd_283 wd_2 wd_280 wd_281 wd_282 hd_X8_dropPlan ⟨rfl, rfl, Nat.le_of_ble_eq_true rfl, Nat.le_of_ble_eq_true rfl⟩ hP hD hS hA [1, 2, 3, 4, 5, 6, 7, 8] rfl (blk_D [1, 2, 3, 4, 5, 6, 7, 8] rfl hD rfl) rfl rfl 5 1 rfl rfl rfl rfl hl.1 rfl (Nat.le_of_ble_eq_true rfl) dX10_plan_67 ⟨Nat.zero_le _, Nat.zero_le _⟩ (fun H locs hP hD hS => ?_)
        refine lv_aload_n (pc := 70) hx hb dX10_plan_70 rfl (lv_at hl 0 rfl) ?_
        refine va_get (pc := 71) (D := G.1) (ci := 7) (v := .ref (anow 0)) (C := RX10) (T := TX10) (N := 3) hx hb hts inX10 hown hK.1 hP 0 rfl rfl 0 (by decide) (hts _ wd_232) (fun _ h9 => h9) rfl dX10_plan_71 ?_
        refine va_getN (pc := 74) (D := G.1) (ci := 5) (v := .ref (anow 12)) (C := RX8) (T := TX8) (N := 6) hx hb hts inX8 hown hK.1 hP 1 rfl rfl 3 (by decide) (nfw_171 hK) (fun _ h9 => h9) rfl dX10_plan_74 ?_
        refine lv_aload_n (pc := 77) hx hb dX10_plan_77 rfl (lv_at hl 0 rfl) ?_
        refine va_get (pc := 78) (D := G.1) (ci := 7) (v := .ref (anow 0)) (C := RX10) (T := TX10) (N := 3) hx hb hts inX10 hown hK.1 hP 0 rfl rfl 0 (by decide) (hts _ wd_232) (fun _ h9 => h9) rfl dX10_plan_78 ?_
        refine va_getN (pc := 81) (D := G.1) (ci := 5) (v := .ref (anow 5)) (C := RX8) (T := TX8) (N := 6) hx hb hts inX8 hown hK.1 hP 1 rfl rfl 2 (by decide) (nfw_167 hK) (fun _ h9 => h9) rfl dX10_plan_81 ?_
        refine lv_iload_n (pc := 84) hx hb dX10_plan_84 rfl (lv_at hl 1 rfl) ?_
        obtain ⟨x3, hcx3, hf⟩ := bn_some hf
        refine g_callVB (pc := 85) (bs' := [[(hx_0, .inr (7, [.ref (anow 0), .ref hhist_0, .ref hdec_0]))], [((anow 0), .inr (5, [.ref (anow 1), .ref (anow 3), .ref (anow 5), .ref (anow 12), .ref (anow 14), .ref (anow 16)]))], cBy G (anow 1) (anow 2) 64 x2.1, cBy G (anow 3) (anow 4) 64 x2.2.1, cDe G (anow 5) (anow 6) (anow 7) (anow 8) (anow 9) (anow 10) (anow 11) x2.2.2.1, cPl G (anow 12) (anow 13) x3, cBy G (anow 14) (anow 15) 200 x2.2.2.2.2.1, [((anow 16), .inr (6, [.ref (anow 17), .int x2.2.2.2.2.2.2.1, .int x2.2.2.2.2.2.2.2]))], cBy G (anow 17) (anow 18) 64 x2.2.2.2.2.2.1, cHist G hhist_0 hhist_1 ahist0 ahist1 ahist2 ahist3 x1]) (rest := []) hx hb hml hown hts hK (c_X7_buildB l G (anow 12) (anow 13) (anow 5) (anow 6) (anow 7) (anow 8) (anow 9) (anow 10) (anow 11) x2.2.2.2.1 x2.2.2.1 p1 hcx3) wd_684 wd_6 wd_681 wd_682 wd_683 hd_X7_build ⟨rfl, rfl, Nat.le_of_ble_eq_true rfl, Nat.le_of_ble_eq_true rfl⟩ hP hD hS hA [5, 4] rfl (blk_D [5, 4] rfl hD rfl) rfl rfl 4 13 rfl rfl rfl rfl hl.1 rfl (Nat.le_of_ble_eq_true rfl) dX10_plan_85 ⟨Nat.zero_le _, Nat.zero_le _⟩ (fun H locs hP hD hS => ?_)
        refine lv_aload_n (pc := 88) hx hb dX10_plan_88 rfl (lv_at hl 0 rfl) ?_
        refine va_get (pc := 89) (D := G.1) (ci := 7) (v := .ref (anow 0)) (C := RX10) (T := TX10) (N := 3) hx hb hts inX10 hown hK.1 hP 0 rfl rfl 0 (by decide) (hts _ wd_232) (fun _ h9 => h9) rfl dX10_plan_89 ?_
        refine va_getN (pc := 92) (D := G.1) (ci := 5) (v := .ref (anow 12)) (C := RX8) (T := TX8) (N := 6) hx hb hts inX8 hown hK.1 hP 1 rfl rfl 3 (by decide) (nfw_171 hK) (fun _ h9 => h9) rfl dX10_plan_92 ?_
        refine va_getN (pc := 95) (D := G.1) (ci := 4) (v := .int x3.2.2.2.1) (C := RX7) (T := TX7) (N := 5) hx hb hts inX7 hown hK.1 hP 13 rfl rfl 3 (by decide) (nfw_123 hK) (fun _ h9 => h9) rfl dX10_plan_95 ?_
        obtain ⟨x4, hcx4, hf⟩ := bn_some hf
        refine g_callSB (pc := 98) (bs' := [[(hx_0, .inr (7, [.ref (anow 0), .ref hhist_0, .ref hdec_0]))], [((anow 0), .inr (5, [.ref (anow 1), .ref (anow 3), .ref (anow 5), .ref (anow 12), .ref (anow 14), .ref (anow 16)]))], cBy G (anow 1) (anow 2) 64 x2.1, cBy G (anow 3) (anow 4) 64 x2.2.1, cDe G (anow 5) (anow 6) (anow 7) (anow 8) (anow 9) (anow 10) (anow 11) x2.2.2.1, cPl G (anow 12) (anow 13) x3, cBy G (anow 14) (anow 15) 200 x2.2.2.2.2.1, [((anow 16), .inr (6, [.ref (anow 17), .int x2.2.2.2.2.2.2.1, .int x2.2.2.2.2.2.2.2]))], cBy G (anow 17) (anow 18) 64 x2.2.2.2.2.2.1, cHist G hhist_0 hhist_1 ahist0 ahist1 ahist2 ahist3 x1]) (rest := []) hx hb hml hown hts hK (c_J6_bitCount_0f7a4B l G  x3.2.2.2.1 hcx4) wd_297 wd_19 wd_713 wd_296 hd_J6_bitCount_0f7a4 ⟨rfl, rfl, Nat.le_of_ble_eq_true rfl, Nat.le_of_ble_eq_true rfl⟩ hP hD hS hA [] rfl (blk_D [] rfl hD rfl) rfl rfl rfl hl.1 rfl (Nat.le_of_ble_eq_true rfl) dX10_plan_98 ⟨Nat.zero_le _, Nat.zero_le _⟩ (fun H locs hP hD hS => ?_)
        have hf := Option.some.inj hf; subst hf
        rw [← hQ]
        exact x_iret hx hb hr hlocks hX.symm (Nat.le_of_ble_eq_true rfl) (Nat.le_of_ble_eq_true rfl) hP hS dX10_plan_101
      · have hf := br_n hc hf
        have hf := Option.some.inj hf; subst hf
        rw [← hQ]
        exact x_throw (pc := 42) (names := xRE) (cls := xISE) hl0 hx hb hown hts hK (by decide +kernel) nX wd_585 wd_15 rfl sr_129 at1_ISE at2_ISE at3_ISE hno hZ hP hS (hl.1.trans hml.symm) dX10_plan_42 dX10_plan_45 dX10_plan_46 dX10_plan_48 dX10_plan_51 (Nat.le_of_ble_eq_true rfl) (Nat.le_of_ble_eq_true rfl) (Nat.le_of_ble_eq_true rfl) (Nat.le_of_ble_eq_true rfl) hlocks hX.symm (Nat.le_of_ble_eq_true rfl) (Nat.le_of_ble_eq_true rfl)
    · have hf := br_n hc hf
      have hf := Option.some.inj hf; subst hf
      rw [← hQ]
      exact x_throw (pc := 9) (names := xRE) (cls := xIAE) hl0 hx hb hown hts hK (by decide +kernel) nX wd_505 wd_14 rfl sr_124 at1_IAE at2_IAE at3_IAE hno hZ hP hS (hl.1.trans hml.symm) dX10_plan_9 dX10_plan_12 dX10_plan_13 dX10_plan_15 dX10_plan_18 (Nat.le_of_ble_eq_true rfl) (Nat.le_of_ble_eq_true rfl) (Nat.le_of_ble_eq_true rfl) (Nat.le_of_ble_eq_true rfl) hlocks hX.symm (Nat.le_of_ble_eq_true rfl) (Nat.le_of_ble_eq_true rfl)
