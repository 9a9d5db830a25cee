abbrev TSaved : Type := TState × TState × TState × TState
abbrev THistory : Type := TSaved × Int32 × Int32
abbrev rm_X8_version : Room := { frames := 0, cells := 0, slots := 0, locals := 0 }
theorem hd_X8_version : yX8_version.cls ≠ "java/lang/invoke/MethodHandle" ∧ yX8_version.cls ≠ "java/lang/invoke/VarHandle" ∧ (parseMethodDescriptor yX8_version.desc).map (fun d => d.parameters.length) = some 1 := by decide +kernel
set_option maxHeartbeats 4000000 in
set_option maxRecDepth 100000 in
theorem c_X8_version0 (l : Launch) (G : GT) (aw0 : Nat → Nat) (w0 : TState) (p1 : Int32) (hv : p1 = 0) : Ct l yX8_version (Cond.code yX8_version cX8_version 2 (some (.object "InPlaceDelta$Bytes")) :: lw_g) rm_X8_version G [.ref (aw0 0), .int p1] [((aw0 0), .inr (5, [.ref (aw0 1), .ref (aw0 3), .ref (aw0 5), .ref (aw0 12), .ref (aw0 14), .ref (aw0 16)])), ((aw0 1), .inr (0, [.ref (aw0 2), .int w0.1.2])), ((aw0 2), .inl (G.2.1, 64, .inl w0.1.1)), ((aw0 3), .inr (0, [.ref (aw0 4), .int w0.2.1.2])), ((aw0 4), .inl (G.2.1, 64, .inl w0.2.1.1)), ((aw0 5), .inr (2, [.ref (aw0 6), .ref (aw0 7), .ref (aw0 8), .ref (aw0 9), .ref (aw0 10), .ref (aw0 11), .int w0.2.2.1.2.2.2.2.2.2.1, .int w0.2.2.1.2.2.2.2.2.2.2.1, .int w0.2.2.1.2.2.2.2.2.2.2.2.1, .int w0.2.2.1.2.2.2.2.2.2.2.2.2.1, .int w0.2.2.1.2.2.2.2.2.2.2.2.2.2])), ((aw0 6), .inl (G.2.1, 30, .inl w0.2.2.1.1)), ((aw0 7), .inl (G.2.1, 30, .inl w0.2.2.1.2.1)), ((aw0 8), .inl (G.2.1, 30, .inl w0.2.2.1.2.2.1)), ((aw0 9), .inl (G.2.1, 30, .inl w0.2.2.1.2.2.2.1)), ((aw0 10), .inl (G.2.1, 30, .inl w0.2.2.1.2.2.2.2.1)), ((aw0 11), .inl (G.2.1, 64, .inl w0.2.2.1.2.2.2.2.2.1)), ((aw0 12), .inr (4, [.ref (aw0 13), .int w0.2.2.2.1.2.1, .int w0.2.2.2.1.2.2.1, .int w0.2.2.2.1.2.2.2.1, .int w0.2.2.2.1.2.2.2.2])), ((aw0 13), .inl (G.2.1, 30, .inl w0.2.2.2.1.1)), ((aw0 14), .inr (0, [.ref (aw0 15), .int w0.2.2.2.2.1.2])), ((aw0 15), .inl (G.2.1, 200, .inl w0.2.2.2.2.1.1)), ((aw0 16), .inr (6, [.ref (aw0 17), .int w0.2.2.2.2.2.2.1, .int w0.2.2.2.2.2.2.2])), ((aw0 17), .inr (0, [.ref (aw0 18), .int w0.2.2.2.2.2.1.2])), ((aw0 18), .inl (G.2.1, 64, .inl w0.2.2.2.2.2.1.1))] (some (.ref (aw0 1))) [((aw0 0), .inr (5, [.ref (aw0 1), .ref (aw0 3), .ref (aw0 5), .ref (aw0 12), .ref (aw0 14), .ref (aw0 16)])), ((aw0 1), .inr (0, [.ref (aw0 2), .int w0.1.2])), ((aw0 2), .inl (G.2.1, 64, .inl w0.1.1)), ((aw0 3), .inr (0, [.ref (aw0 4), .int w0.2.1.2])), ((aw0 4), .inl (G.2.1, 64, .inl w0.2.1.1)), ((aw0 5), .inr (2, [.ref (aw0 6), .ref (aw0 7), .ref (aw0 8), .ref (aw0 9), .ref (aw0 10), .ref (aw0 11), .int w0.2.2.1.2.2.2.2.2.2.1, .int w0.2.2.1.2.2.2.2.2.2.2.1, .int w0.2.2.1.2.2.2.2.2.2.2.2.1, .int w0.2.2.1.2.2.2.2.2.2.2.2.2.1, .int w0.2.2.1.2.2.2.2.2.2.2.2.2.2])), ((aw0 6), .inl (G.2.1, 30, .inl w0.2.2.1.1)), ((aw0 7), .inl (G.2.1, 30, .inl w0.2.2.1.2.1)), ((aw0 8), .inl (G.2.1, 30, .inl w0.2.2.1.2.2.1)), ((aw0 9), .inl (G.2.1, 30, .inl w0.2.2.1.2.2.2.1)), ((aw0 10), .inl (G.2.1, 30, .inl w0.2.2.1.2.2.2.2.1)), ((aw0 11), .inl (G.2.1, 64, .inl w0.2.2.1.2.2.2.2.2.1)), ((aw0 12), .inr (4, [.ref (aw0 13), .int w0.2.2.2.1.2.1, .int w0.2.2.2.1.2.2.1, .int w0.2.2.2.1.2.2.2.1, .int w0.2.2.2.1.2.2.2.2])), ((aw0 13), .inl (G.2.1, 30, .inl w0.2.2.2.1.1)), ((aw0 14), .inr (0, [.ref (aw0 15), .int w0.2.2.2.2.1.2])), ((aw0 15), .inl (G.2.1, 200, .inl w0.2.2.2.2.1.1)), ((aw0 16), .inr (6, [.ref (aw0 17), .int w0.2.2.2.2.2.2.1, .int w0.2.2.2.2.2.2.2])), ((aw0 17), .inr (0, [.ref (aw0 18), .int w0.2.2.2.2.2.1.2])), ((aw0 18), .inl (G.2.1, 64, .inl w0.2.2.2.2.2.1.1))] := by
  refine Ct.ofW (cc := cX8_version) (maxL := 2) (ret := (some (.object "InPlaceDelta$Bytes"))) (own := RX8) (by decide) rfl rfl (Nat.le_of_ble_eq_true rfl) ?_
  intro p e s m args below meth c A hx hb hr hml hts hown hlocks hK hP hD hA hS ls hl
  have hl : lv_has ls 2 [(0, .ref (aw0 0)), (1, .int p1)] := hl
  refine lv_iload_n (pc := 0) hx hb dX8_version_0 rfl (lv_at hl 1 rfl) ?_
  refine lv_if_ne (pc := 1) (tgt := 11) hx hb dX8_version_1 (by decide) (fun hc => ?_) (fun hc => ?_)
  · exact absurd hv hc
  · refine lv_aload_n (pc := 4) hx hb dX8_version_4 rfl (lv_at hl 0 rfl) ?_
    refine va_get (pc := 5) (D := G.1) (ci := 5) (v := .ref (aw0 1)) (C := RX8) (T := TX8) (N := 6) hx hb hts inX8 hown hK.1 hP 0 rfl rfl 0 (by decide) (hts _ wd_159) (fun _ h9 => h9) rfl dX8_version_5 ?_
    refine lv_goto (pc := 8) (tgt := 15) hx hb dX8_version_8 (by decide) ?_
    exact W.aret hx hb hr (Or.inl ⟨_, rfl⟩) (Or.inr ⟨_, rfl⟩) (fun t ht _ => ⟨rfl, by rw [ht]; exact hP, hS.F ht⟩) hS.2.2 dX8_version_15 hlocks
set_option maxHeartbeats 4000000 in
set_option maxRecDepth 100000 in
theorem c_X8_version1 (l : Launch) (G : GT) (aw0 : Nat → Nat) (w0 : TState) (p1 : Int32) (hv : ¬ p1 = 0) : Ct l yX8_version (Cond.code yX8_version cX8_version 2 (some (.object "InPlaceDelta$Bytes")) :: lw_g) rm_X8_version G [.ref (aw0 0), .int p1] [((aw0 0), .inr (5, [.ref (aw0 1), .ref (aw0 3), .ref (aw0 5), .ref (aw0 12), .ref (aw0 14), .ref (aw0 16)])), ((aw0 1), .inr (0, [.ref (aw0 2), .int w0.1.2])), ((aw0 2), .inl (G.2.1, 64, .inl w0.1.1)), ((aw0 3), .inr (0, [.ref (aw0 4), .int w0.2.1.2])), ((aw0 4), .inl (G.2.1, 64, .inl w0.2.1.1)), ((aw0 5), .inr (2, [.ref (aw0 6), .ref (aw0 7), .ref (aw0 8), .ref (aw0 9), .ref (aw0 10), .ref (aw0 11), .int w0.2.2.1.2.2.2.2.2.2.1, .int w0.2.2.1.2.2.2.2.2.2.2.1, .int w0.2.2.1.2.2.2.2.2.2.2.2.1, .int w0.2.2.1.2.2.2.2.2.2.2.2.2.1, .int w0.2.2.1.2.2.2.2.2.2.2.2.2.2])), ((aw0 6), .inl (G.2.1, 30, .inl w0.2.2.1.1)), ((aw0 7), .inl (G.2.1, 30, .inl w0.2.2.1.2.1)), ((aw0 8), .inl (G.2.1, 30, .inl w0.2.2.1.2.2.1)), ((aw0 9), .inl (G.2.1, 30, .inl w0.2.2.1.2.2.2.1)), ((aw0 10), .inl (G.2.1, 30, .inl w0.2.2.1.2.2.2.2.1)), ((aw0 11), .inl (G.2.1, 64, .inl w0.2.2.1.2.2.2.2.2.1)), ((aw0 12), .inr (4, [.ref (aw0 13), .int w0.2.2.2.1.2.1, .int w0.2.2.2.1.2.2.1, .int w0.2.2.2.1.2.2.2.1, .int w0.2.2.2.1.2.2.2.2])), ((aw0 13), .inl (G.2.1, 30, .inl w0.2.2.2.1.1)), ((aw0 14), .inr (0, [.ref (aw0 15), .int w0.2.2.2.2.1.2])), ((aw0 15), .inl (G.2.1, 200, .inl w0.2.2.2.2.1.1)), ((aw0 16), .inr (6, [.ref (aw0 17), .int w0.2.2.2.2.2.2.1, .int w0.2.2.2.2.2.2.2])), ((aw0 17), .inr (0, [.ref (aw0 18), .int w0.2.2.2.2.2.1.2])), ((aw0 18), .inl (G.2.1, 64, .inl w0.2.2.2.2.2.1.1))] (some (.ref (aw0 3))) [((aw0 0), .inr (5, [.ref (aw0 1), .ref (aw0 3), .ref (aw0 5), .ref (aw0 12), .ref (aw0 14), .ref (aw0 16)])), ((aw0 1), .inr (0, [.ref (aw0 2), .int w0.1.2])), ((aw0 2), .inl (G.2.1, 64, .inl w0.1.1)), ((aw0 3), .inr (0, [.ref (aw0 4), .int w0.2.1.2])), ((aw0 4), .inl (G.2.1, 64, .inl w0.2.1.1)), ((aw0 5), .inr (2, [.ref (aw0 6), .ref (aw0 7), .ref (aw0 8), .ref (aw0 9), .ref (aw0 10), .ref (aw0 11), .int w0.2.2.1.2.2.2.2.2.2.1, .int w0.2.2.1.2.2.2.2.2.2.2.1, .int w0.2.2.1.2.2.2.2.2.2.2.2.1, .int w0.2.2.1.2.2.2.2.2.2.2.2.2.1, .int w0.2.2.1.2.2.2.2.2.2.2.2.2.2])), ((aw0 6), .inl (G.2.1, 30, .inl w0.2.2.1.1)), ((aw0 7), .inl (G.2.1, 30, .inl w0.2.2.1.2.1)), ((aw0 8), .inl (G.2.1, 30, .inl w0.2.2.1.2.2.1)), ((aw0 9), .inl (G.2.1, 30, .inl w0.2.2.1.2.2.2.1)), ((aw0 10), .inl (G.2.1, 30, .inl w0.2.2.1.2.2.2.2.1)), ((aw0 11), .inl (G.2.1, 64, .inl w0.2.2.1.2.2.2.2.2.1)), ((aw0 12), .inr (4, [.ref (aw0 13), .int w0.2.2.2.1.2.1, .int w0.2.2.2.1.2.2.1, .int w0.2.2.2.1.2.2.2.1, .int w0.2.2.2.1.2.2.2.2])), ((aw0 13), .inl (G.2.1, 30, .inl w0.2.2.2.1.1)), ((aw0 14), .inr (0, [.ref (aw0 15), .int w0.2.2.2.2.1.2])), ((aw0 15), .inl (G.2.1, 200, .inl w0.2.2.2.2.1.1)), ((aw0 16), .inr (6, [.ref (aw0 17), .int w0.2.2.2.2.2.2.1, .int w0.2.2.2.2.2.2.2])), ((aw0 17), .inr (0, [.ref (aw0 18), .int w0.2.2.2.2.2.1.2])), ((aw0 18), .inl (G.2.1, 64, .inl w0.2.2.2.2.2.1.1))] := by
  refine Ct.ofW (cc := cX8_version) (maxL := 2) (ret := (some (.object "InPlaceDelta$Bytes"))) (own := RX8) (by decide) rfl rfl (Nat.le_of_ble_eq_true rfl) ?_
  intro p e s m args below meth c A hx hb hr hml hts hown hlocks hK hP hD hA hS ls hl
  have hl : lv_has ls 2 [(0, .ref (aw0 0)), (1, .int p1)] := hl
  refine lv_iload_n (pc := 0) hx hb dX8_version_0 rfl (lv_at hl 1 rfl) ?_
  refine lv_if_ne (pc := 1) (tgt := 11) hx hb dX8_version_1 (by decide) (fun hc => ?_) (fun hc => ?_)
  · refine lv_aload_n (pc := 11) hx hb dX8_version_11 rfl (lv_at hl 0 rfl) ?_
    refine va_get (pc := 12) (D := G.1) (ci := 5) (v := .ref (aw0 3)) (C := RX8) (T := TX8) (N := 6) hx hb hts inX8 hown hK.1 hP 0 rfl rfl 1 (by decide) (hts _ wd_162) (fun _ h9 => h9) rfl dX8_version_12 ?_
    exact W.aret hx hb hr (Or.inl ⟨_, rfl⟩) (Or.inr ⟨_, rfl⟩) (fun t ht _ => ⟨rfl, by rw [ht]; exact hP, hS.F ht⟩) hS.2.2 dX8_version_15 hlocks
  · exact absurd hc hv
def cSt (G : GT) (aw0 : Nat → Nat) (w0 : TState) : va_W := [((aw0 0), .inr (5, [.ref (aw0 1), .ref (aw0 3), .ref (aw0 5), .ref (aw0 12), .ref (aw0 14), .ref (aw0 16)])), ((aw0 1), .inr (0, [.ref (aw0 2), .int w0.1.2])), ((aw0 2), .inl (G.2.1, 64, .inl w0.1.1)), ((aw0 3), .inr (0, [.ref (aw0 4), .int w0.2.1.2])), ((aw0 4), .inl (G.2.1, 64, .inl w0.2.1.1)), ((aw0 5), .inr (2, [.ref (aw0 6), .ref (aw0 7), .ref (aw0 8), .ref (aw0 9), .ref (aw0 10), .ref (aw0 11), .int w0.2.2.1.2.2.2.2.2.2.1, .int w0.2.2.1.2.2.2.2.2.2.2.1, .int w0.2.2.1.2.2.2.2.2.2.2.2.1, .int w0.2.2.1.2.2.2.2.2.2.2.2.2.1, .int w0.2.2.1.2.2.2.2.2.2.2.2.2.2])), ((aw0 6), .inl (G.2.1, 30, .inl w0.2.2.1.1)), ((aw0 7), .inl (G.2.1, 30, .inl w0.2.2.1.2.1)), ((aw0 8), .inl (G.2.1, 30, .inl w0.2.2.1.2.2.1)), ((aw0 9), .inl (G.2.1, 30, .inl w0.2.2.1.2.2.2.1)), ((aw0 10), .inl (G.2.1, 30, .inl w0.2.2.1.2.2.2.2.1)), ((aw0 11), .inl (G.2.1, 64, .inl w0.2.2.1.2.2.2.2.2.1)), ((aw0 12), .inr (4, [.ref (aw0 13), .int w0.2.2.2.1.2.1, .int w0.2.2.2.1.2.2.1, .int w0.2.2.2.1.2.2.2.1, .int w0.2.2.2.1.2.2.2.2])), ((aw0 13), .inl (G.2.1, 30, .inl w0.2.2.2.1.1)), ((aw0 14), .inr (0, [.ref (aw0 15), .int w0.2.2.2.2.1.2])), ((aw0 15), .inl (G.2.1, 200, .inl w0.2.2.2.2.1.1)), ((aw0 16), .inr (6, [.ref (aw0 17), .int w0.2.2.2.2.2.2.1, .int w0.2.2.2.2.2.2.2])), ((aw0 17), .inr (0, [.ref (aw0 18), .int w0.2.2.2.2.2.1.2])), ((aw0 18), .inl (G.2.1, 64, .inl w0.2.2.2.2.2.1.1))]
def cHist (G : GT) (h0 h1 : Nat) (a0 a1 a2 a3 : Nat → Nat) (w : THistory) : va_W := [(h0, .inr (3, [.ref h1, .int w.2.1, .int w.2.2])), (h1, .inl (G.2.2.2.2, 4, .inr (.inr (.inr (.inr (sv4 (a0 0) (a1 0) (a2 0) (a3 0)))))))] ++ (cSt G a0 w.1.1 ++ (cSt G a1 w.1.2.1 ++ (cSt G a2 w.1.2.2.1 ++ cSt G a3 w.1.2.2.2)))
set_option maxHeartbeats 4000000 in
set_option maxRecDepth 100000 in
theorem c_X8_takeB (l : Launch) (G : GT) (aw0 : Nat → Nat) (aw1 : Nat → Nat) (w0 : TState) (w1 : TState) {r : TState} (hf : f_X8_take w0 w1 = some r) : Ct l yX8_take (Cond.code yX8_take cX8_take 2 none :: lw_g) rm_X8_take G [.ref (aw0 0), .ref (aw1 0)] (List.flatten [cSt G aw0 w0, cSt G aw1 w1]) none (List.flatten [cSt G aw0 r, cSt G aw1 w1]) := c_X8_take l G aw0 aw1 w0 w1 hf

theorem hd_X4_save : yX4_save.cls ≠ "java/lang/invoke/MethodHandle" ∧ yX4_save.cls ≠ "java/lang/invoke/VarHandle" ∧ (parseMethodDescriptor yX4_save.desc).map (fun d => d.parameters.length) = some 1 := by decide +kernel
abbrev rm_X4_save : Room := { frames := 4, cells := 0, slots := 0, locals := 127 }
noncomputable def f_X4_save (w0 : THistory) (w1 : TState) : Option THistory :=
  br (w0.2.1 = (0 : Int32)) ((f_X8_take w0.1.1 w1).bind (fun x1 => some ((x1, w0.1.2.1, w0.1.2.2.1, w0.1.2.2.2), ((w0.2.1 + (1 : Int32)) - (w0.2.1 + (1 : Int32)) / (4 : Int32) * (4 : Int32)), (if (4 : Int32) < (w0.2.2 + (1 : Int32)) then (4 : Int32) else (w0.2.2 + (1 : Int32)))))) (br (w0.2.1 = (1 : Int32)) ((f_X8_take w0.1.2.1 w1).bind (fun x2 => some ((w0.1.1, x2, w0.1.2.2.1, w0.1.2.2.2), ((w0.2.1 + (1 : Int32)) - (w0.2.1 + (1 : Int32)) / (4 : Int32) * (4 : Int32)), (if (4 : Int32) < (w0.2.2 + (1 : Int32)) then (4 : Int32) else (w0.2.2 + (1 : Int32)))))) (br (w0.2.1 = (2 : Int32)) ((f_X8_take w0.1.2.2.1 w1).bind (fun x3 => some ((w0.1.1, w0.1.2.1, x3, w0.1.2.2.2), ((w0.2.1 + (1 : Int32)) - (w0.2.1 + (1 : Int32)) / (4 : Int32) * (4 : Int32)), (if (4 : Int32) < (w0.2.2 + (1 : Int32)) then (4 : Int32) else (w0.2.2 + (1 : Int32)))))) (gd (w0.2.1 = (3 : Int32)) ((f_X8_take w0.1.2.2.2 w1).bind (fun x4 => some ((w0.1.1, w0.1.2.1, w0.1.2.2.1, x4), ((w0.2.1 + (1 : Int32)) - (w0.2.1 + (1 : Int32)) / (4 : Int32) * (4 : Int32)), (if (4 : Int32) < (w0.2.2 + (1 : Int32)) then (4 : Int32) else (w0.2.2 + (1 : Int32)))))))))
set_option maxHeartbeats 4000000 in
set_option maxRecDepth 100000 in
theorem c_X4_save (l : Launch) (G : GT) (hw0_0 hw0_1 : Nat) (aw00 aw01 aw02 aw03 : Nat → Nat) (aw1 : Nat → Nat) (w0 : THistory) (w1 : TState) {r : THistory} (hf : f_X4_save w0 w1 = some r) : Ct l yX4_save (Cond.code yX4_save cX4_save 2 none :: lw_g) rm_X4_save G [.ref hw0_0, .ref (aw1 0)] (List.flatten [[(hw0_0, .inr (3, [.ref hw0_1, .int w0.2.1, .int w0.2.2])), (hw0_1, .inl (G.2.2.2.2, 4, .inr (.inr (.inr (.inr (sv4 (aw00 0) (aw01 0) (aw02 0) (aw03 0)))))))], cSt G aw00 w0.1.1, cSt G aw01 w0.1.2.1, cSt G aw02 w0.1.2.2.1, cSt G aw03 w0.1.2.2.2, cSt G aw1 w1]) none (List.flatten [[(hw0_0, .inr (3, [.ref hw0_1, .int r.2.1, .int r.2.2])), (hw0_1, .inl (G.2.2.2.2, 4, .inr (.inr (.inr (.inr (sv4 (aw00 0) (aw01 0) (aw02 0) (aw03 0)))))))], cSt G aw00 r.1.1, cSt G aw01 r.1.2.1, cSt G aw02 r.1.2.2.1, cSt G aw03 r.1.2.2.2, cSt G aw1 w1]) := by
  refine Ct.ofW (cc := cX4_save) (maxL := 2) (ret := none) (own := RX4) (by decide) rfl rfl (Nat.le_of_ble_eq_true rfl) ?_
  intro p e s m args below meth c A hx hb hr hml hts hown hlocks hK hP hD hA hS ls hl
  have hl : lv_has ls 2 [(0, .ref hw0_0), (1, .ref (aw1 0))] := hl
  generalize hQ : gMQ below G _ _ A args s = Q
  generalize hH : s.heap = H at hP ⊢
  have hS : va_S A s.heap H [] := by rw [← hH]; exact hS
  generalize ([] : List Loc) = locs at hS ⊢
  unfold f_X4_save at hf
  refine lv_aload_n (pc := 0) hx hb dX4_save_0 rfl (lv_at hl 0 rfl) ?_
  refine va_get (pc := 1) (D := G.1) (ci := 3) (v := .ref hw0_1) (C := RX4) (T := TX4) (N := 3) hx hb hts inX4 hown hK.1 hP 0 rfl rfl 0 (by decide) (hts _ wd_199) (fun _ h9 => h9) rfl dX4_save_1 ?_
  refine lv_aload_n (pc := 4) hx hb dX4_save_4 rfl (lv_at hl 0 rfl) ?_
  refine va_get (pc := 5) (D := G.1) (ci := 3) (v := .int w0.2.1) (C := RX4) (T := TX4) (N := 3) hx hb hts inX4 hown hK.1 hP 0 rfl rfl 1 (by decide) (hts _ wd_200) (fun _ h9 => h9) rfl dX4_save_5 ?_
  by_cases hv0 : w0.2.1 = (0 : Int32)
  · have hf := br_y hv0 hf
    refine g_aaload (pc := 8) hx hb hK.1 hP 1 3 rfl (C := "InPlaceDelta$State") rfl (by rw [hv0]; exact vin4_0) (b := (aw00 0)) (by rw [hv0]; rfl) dX4_save_8 ?_
    refine lv_aload_n (pc := 9) hx hb dX4_save_9 rfl (lv_at hl 1 rfl) ?_
    obtain ⟨x1, hcx1, hf⟩ := bn_some hf
    refine g_callVB (pc := 10) (bs' := [[(hw0_0, .inr (3, [.ref hw0_1, .int w0.2.1, .int w0.2.2])), (hw0_1, .inl (G.2.2.2.2, 4, .inr (.inr (.inr (.inr (sv4 (aw00 0) (aw01 0) (aw02 0) (aw03 0)))))))], cSt G aw00 x1, cSt G aw01 w0.1.2.1, cSt G aw02 w0.1.2.2.1, cSt G aw03 w0.1.2.2.2, cSt G aw1 w1]) (rest := []) hx hb hml hown hts hK (c_X8_takeB l G aw00 aw1 w0.1.1 w1 hcx1) wd_253 wd_2 wd_250 wd_251 wd_252 hd_X8_take ⟨rfl, rfl, Nat.le_of_ble_eq_true rfl, Nat.le_of_ble_eq_true rfl⟩ hP hD hS hA [1, 5] rfl (blk_D [1, 5] rfl hD rfl) rfl rfl 5 2 rfl rfl rfl rfl hl.1 rfl (Nat.le_of_ble_eq_true rfl) dX4_save_10 ⟨Nat.zero_le _, Nat.zero_le _⟩ (fun H locs hP hD hS => ?_)
    refine lv_aload_n (pc := 13) hx hb dX4_save_13 rfl (lv_at hl 0 rfl) ?_
    refine lv_aload_n (pc := 14) hx hb dX4_save_14 rfl (lv_at hl 0 rfl) ?_
    refine va_get (pc := 15) (D := G.1) (ci := 3) (v := .int w0.2.1) (C := RX4) (T := TX4) (N := 3) hx hb hts inX4 hown hK.1 hP 0 rfl rfl 1 (by decide) (hts _ wd_200) (fun _ h9 => h9) rfl dX4_save_15 ?_
    refine lv_iconst (pc := 18) (v := (1 : Int32)) hx hb dX4_save_18 (by decide) ?_
    refine lv_iadd (pc := 19) hx hb dX4_save_19 ?_
    refine lv_iconst (pc := 20) (v := (4 : Int32)) hx hb dX4_save_20 (by decide) ?_
    refine lv_irem (pc := 21) hx hb dX4_save_21 (by decide) ?_
    refine va_put (pc := 22) (D := G.1) (ci := 3) (v := .int ((w0.2.1 + (1 : Int32)) - (w0.2.1 + (1 : Int32)) / (4 : Int32) * (4 : Int32))) (ty := .int) (C := RX4) (T := TX4) (N := 3) hx hb hts inX4 tyX4 tyX4_ok nmX4 hown hK.1 hP hD hS 0 rfl rfl 1 (by decide) (hts _ wd_200) (fun _ h9 => h9) rfl (by decide +kernel) rfl rfl (Nat.le_of_ble_eq_true rfl) dX4_save_22 (fun H locs hP hD hS => ?_)
    have hP : va_P G.1 vwCl (List.flatten [[(hw0_0, .inr (3, [.ref hw0_1, .int ((w0.2.1 + (1 : Int32)) - (w0.2.1 + (1 : Int32)) / (4 : Int32) * (4 : Int32)), .int w0.2.2])), (hw0_1, .inl (G.2.2.2.2, 4, .inr (.inr (.inr (.inr (sv4 (aw00 0) (aw01 0) (aw02 0) (aw03 0)))))))], cSt G aw00 x1, cSt G aw01 w0.1.2.1, cSt G aw02 w0.1.2.2.1, cSt G aw03 w0.1.2.2.2, cSt G aw1 w1]) H := hP
    have hD : va_D A (List.flatten [[(hw0_0, .inr (3, [.ref hw0_1, .int ((w0.2.1 + (1 : Int32)) - (w0.2.1 + (1 : Int32)) / (4 : Int32) * (4 : Int32)), .int w0.2.2])), (hw0_1, .inl (G.2.2.2.2, 4, .inr (.inr (.inr (.inr (sv4 (aw00 0) (aw01 0) (aw02 0) (aw03 0)))))))], cSt G aw00 x1, cSt G aw01 w0.1.2.1, cSt G aw02 w0.1.2.2.1, cSt G aw03 w0.1.2.2.2, cSt G aw1 w1]) := hD
    refine lv_aload_n (pc := 25) hx hb dX4_save_25 rfl (lv_at hl 0 rfl) ?_
    refine lv_aload_n (pc := 26) hx hb dX4_save_26 rfl (lv_at hl 0 rfl) ?_
    refine va_get (pc := 27) (D := G.1) (ci := 3) (v := .int w0.2.2) (C := RX4) (T := TX4) (N := 3) hx hb hts inX4 hown hK.1 hP 0 rfl rfl 2 (by decide) (hts _ wd_201) (fun _ h9 => h9) rfl dX4_save_27 ?_
    refine lv_iconst (pc := 30) (v := (1 : Int32)) hx hb dX4_save_30 (by decide) ?_
    refine lv_iadd (pc := 31) hx hb dX4_save_31 ?_
    refine lv_iconst (pc := 32) (v := (4 : Int32)) hx hb dX4_save_32 (by decide) ?_
    refine va_mmin (pc := 33) hx hb (hml.trans hl.1.symm) hown (hts _ wd_279) (hts _ wd_259) (hts _ wd_4) (hts _ wd_260) (Nat.le_of_ble_eq_true rfl) (Nat.le_of_ble_eq_true rfl) (Nat.le_of_ble_eq_true rfl) (Nat.le_of_ble_eq_true rfl) dX4_save_33 ?_
    refine va_put (pc := 36) (D := G.1) (ci := 3) (v := .int (if (4 : Int32) < (w0.2.2 + (1 : Int32)) then (4 : Int32) else (w0.2.2 + (1 : Int32)))) (ty := .int) (C := RX4) (T := TX4) (N := 3) hx hb hts inX4 tyX4 tyX4_ok nmX4 hown hK.1 hP hD hS 0 rfl rfl 2 (by decide) (hts _ wd_201) (fun _ h9 => h9) rfl (by decide +kernel) rfl rfl (Nat.le_of_ble_eq_true rfl) dX4_save_36 (fun H locs hP hD hS => ?_)
    have hP : va_P G.1 vwCl (List.flatten [[(hw0_0, .inr (3, [.ref hw0_1, .int ((w0.2.1 + (1 : Int32)) - (w0.2.1 + (1 : Int32)) / (4 : Int32) * (4 : Int32)), .int (if (4 : Int32) < (w0.2.2 + (1 : Int32)) then (4 : Int32) else (w0.2.2 + (1 : Int32)))])), (hw0_1, .inl (G.2.2.2.2, 4, .inr (.inr (.inr (.inr (sv4 (aw00 0) (aw01 0) (aw02 0) (aw03 0)))))))], cSt G aw00 x1, cSt G aw01 w0.1.2.1, cSt G aw02 w0.1.2.2.1, cSt G aw03 w0.1.2.2.2, cSt G aw1 w1]) H := hP
    have hD : va_D A (List.flatten [[(hw0_0, .inr (3, [.ref hw0_1, .int ((w0.2.1 + (1 : Int32)) - (w0.2.1 + (1 : Int32)) / (4 : Int32) * (4 : Int32)), .int (if (4 : Int32) < (w0.2.2 + (1 : Int32)) then (4 : Int32) else (w0.2.2 + (1 : Int32)))])), (hw0_1, .inl (G.2.2.2.2, 4, .inr (.inr (.inr (.inr (sv4 (aw00 0) (aw01 0) (aw02 0) (aw03 0)))))))], cSt G aw00 x1, cSt G aw01 w0.1.2.1, cSt G aw02 w0.1.2.2.1, cSt G aw03 w0.1.2.2.2, cSt G aw1 w1]) := hD
    have hf := Option.some.inj hf; subst hf
    rw [← hQ]
    exact g_vret hx hb hr hlocks hP hS dX4_save_39
  have hf := br_n hv0 hf
  by_cases hv1 : w0.2.1 = (1 : Int32)
  · have hf := br_y hv1 hf
    refine g_aaload (pc := 8) hx hb hK.1 hP 1 3 rfl (C := "InPlaceDelta$State") rfl (by rw [hv1]; exact vin4_1) (b := (aw01 0)) (by rw [hv1]; rfl) dX4_save_8 ?_
    refine lv_aload_n (pc := 9) hx hb dX4_save_9 rfl (lv_at hl 1 rfl) ?_
    obtain ⟨x2, hcx2, hf⟩ := bn_some hf
    refine g_callVB (pc := 10) (bs' := [[(hw0_0, .inr (3, [.ref hw0_1, .int w0.2.1, .int w0.2.2])), (hw0_1, .inl (G.2.2.2.2, 4, .inr (.inr (.inr (.inr (sv4 (aw00 0) (aw01 0) (aw02 0) (aw03 0)))))))], cSt G aw00 w0.1.1, cSt G aw01 x2, cSt G aw02 w0.1.2.2.1, cSt G aw03 w0.1.2.2.2, cSt G aw1 w1]) (rest := []) hx hb hml hown hts hK (c_X8_takeB l G aw01 aw1 w0.1.2.1 w1 hcx2) wd_253 wd_2 wd_250 wd_251 wd_252 hd_X8_take ⟨rfl, rfl, Nat.le_of_ble_eq_true rfl, Nat.le_of_ble_eq_true rfl⟩ hP hD hS hA [2, 5] rfl (blk_D [2, 5] rfl hD rfl) rfl rfl 5 21 rfl rfl rfl rfl hl.1 rfl (Nat.le_of_ble_eq_true rfl) dX4_save_10 ⟨Nat.zero_le _, Nat.zero_le _⟩ (fun H locs hP hD hS => ?_)
    refine lv_aload_n (pc := 13) hx hb dX4_save_13 rfl (lv_at hl 0 rfl) ?_
    refine lv_aload_n (pc := 14) hx hb dX4_save_14 rfl (lv_at hl 0 rfl) ?_
    refine va_get (pc := 15) (D := G.1) (ci := 3) (v := .int w0.2.1) (C := RX4) (T := TX4) (N := 3) hx hb hts inX4 hown hK.1 hP 0 rfl rfl 1 (by decide) (hts _ wd_200) (fun _ h9 => h9) rfl dX4_save_15 ?_
    refine lv_iconst (pc := 18) (v := (1 : Int32)) hx hb dX4_save_18 (by decide) ?_
    refine lv_iadd (pc := 19) hx hb dX4_save_19 ?_
    refine lv_iconst (pc := 20) (v := (4 : Int32)) hx hb dX4_save_20 (by decide) ?_
    refine lv_irem (pc := 21) hx hb dX4_save_21 (by decide) ?_
    refine va_put (pc := 22) (D := G.1) (ci := 3) (v := .int ((w0.2.1 + (1 : Int32)) - (w0.2.1 + (1 : Int32)) / (4 : Int32) * (4 : Int32))) (ty := .int) (C := RX4) (T := TX4) (N := 3) hx hb hts inX4 tyX4 tyX4_ok nmX4 hown hK.1 hP hD hS 0 rfl rfl 1 (by decide) (hts _ wd_200) (fun _ h9 => h9) rfl (by decide +kernel) rfl rfl (Nat.le_of_ble_eq_true rfl) dX4_save_22 (fun H locs hP hD hS => ?_)
    have hP : va_P G.1 vwCl (List.flatten [[(hw0_0, .inr (3, [.ref hw0_1, .int ((w0.2.1 + (1 : Int32)) - (w0.2.1 + (1 : Int32)) / (4 : Int32) * (4 : Int32)), .int w0.2.2])), (hw0_1, .inl (G.2.2.2.2, 4, .inr (.inr (.inr (.inr (sv4 (aw00 0) (aw01 0) (aw02 0) (aw03 0)))))))], cSt G aw00 w0.1.1, cSt G aw01 x2, cSt G aw02 w0.1.2.2.1, cSt G aw03 w0.1.2.2.2, cSt G aw1 w1]) H := hP
    have hD : va_D A (List.flatten [[(hw0_0, .inr (3, [.ref hw0_1, .int ((w0.2.1 + (1 : Int32)) - (w0.2.1 + (1 : Int32)) / (4 : Int32) * (4 : Int32)), .int w0.2.2])), (hw0_1, .inl (G.2.2.2.2, 4, .inr (.inr (.inr (.inr (sv4 (aw00 0) (aw01 0) (aw02 0) (aw03 0)))))))], cSt G aw00 w0.1.1, cSt G aw01 x2, cSt G aw02 w0.1.2.2.1, cSt G aw03 w0.1.2.2.2, cSt G aw1 w1]) := hD
    refine lv_aload_n (pc := 25) hx hb dX4_save_25 rfl (lv_at hl 0 rfl) ?_
    refine lv_aload_n (pc := 26) hx hb dX4_save_26 rfl (lv_at hl 0 rfl) ?_
    refine va_get (pc := 27) (D := G.1) (ci := 3) (v := .int w0.2.2) (C := RX4) (T := TX4) (N := 3) hx hb hts inX4 hown hK.1 hP 0 rfl rfl 2 (by decide) (hts _ wd_201) (fun _ h9 => h9) rfl dX4_save_27 ?_
    refine lv_iconst (pc := 30) (v := (1 : Int32)) hx hb dX4_save_30 (by decide) ?_
    refine lv_iadd (pc := 31) hx hb dX4_save_31 ?_
    refine lv_iconst (pc := 32) (v := (4 : Int32)) hx hb dX4_save_32 (by decide) ?_
    refine va_mmin (pc := 33) hx hb (hml.trans hl.1.symm) hown (hts _ wd_279) (hts _ wd_259) (hts _ wd_4) (hts _ wd_260) (Nat.le_of_ble_eq_true rfl) (Nat.le_of_ble_eq_true rfl) (Nat.le_of_ble_eq_true rfl) (Nat.le_of_ble_eq_true rfl) dX4_save_33 ?_
    refine va_put (pc := 36) (D := G.1) (ci := 3) (v := .int (if (4 : Int32) < (w0.2.2 + (1 : Int32)) then (4 : Int32) else (w0.2.2 + (1 : Int32)))) (ty := .int) (C := RX4) (T := TX4) (N := 3) hx hb hts inX4 tyX4 tyX4_ok nmX4 hown hK.1 hP hD hS 0 rfl rfl 2 (by decide) (hts _ wd_201) (fun _ h9 => h9) rfl (by decide +kernel) rfl rfl (Nat.le_of_ble_eq_true rfl) dX4_save_36 (fun H locs hP hD hS => ?_)
    have hP : va_P G.1 vwCl (List.flatten [[(hw0_0, .inr (3, [.ref hw0_1, .int ((w0.2.1 + (1 : Int32)) - (w0.2.1 + (1 : Int32)) / (4 : Int32) * (4 : Int32)), .int (if (4 : Int32) < (w0.2.2 + (1 : Int32)) then (4 : Int32) else (w0.2.2 + (1 : Int32)))])), (hw0_1, .inl (G.2.2.2.2, 4, .inr (.inr (.inr (.inr (sv4 (aw00 0) (aw01 0) (aw02 0) (aw03 0)))))))], cSt G aw00 w0.1.1, cSt G aw01 x2, cSt G aw02 w0.1.2.2.1, cSt G aw03 w0.1.2.2.2, cSt G aw1 w1]) H := hP
    have hD : va_D A (List.flatten [[(hw0_0, .inr (3, [.ref hw0_1, .int ((w0.2.1 + (1 : Int32)) - (w0.2.1 + (1 : Int32)) / (4 : Int32) * (4 : Int32)), .int (if (4 : Int32) < (w0.2.2 + (1 : Int32)) then (4 : Int32) else (w0.2.2 + (1 : Int32)))])), (hw0_1, .inl (G.2.2.2.2, 4, .inr (.inr (.inr (.inr (sv4 (aw00 0) (aw01 0) (aw02 0) (aw03 0)))))))], cSt G aw00 w0.1.1, cSt G aw01 x2, cSt G aw02 w0.1.2.2.1, cSt G aw03 w0.1.2.2.2, cSt G aw1 w1]) := hD
    have hf := Option.some.inj hf; subst hf
    rw [← hQ]
    exact g_vret hx hb hr hlocks hP hS dX4_save_39
  have hf := br_n hv1 hf
  by_cases hv2 : w0.2.1 = (2 : Int32)
  · have hf := br_y hv2 hf
    refine g_aaload (pc := 8) hx hb hK.1 hP 1 3 rfl (C := "InPlaceDelta$State") rfl (by rw [hv2]; exact vin4_2) (b := (aw02 0)) (by rw [hv2]; rfl) dX4_save_8 ?_
    refine lv_aload_n (pc := 9) hx hb dX4_save_9 rfl (lv_at hl 1 rfl) ?_
    obtain ⟨x3, hcx3, hf⟩ := bn_some hf
    refine g_callVB (pc := 10) (bs' := [[(hw0_0, .inr (3, [.ref hw0_1, .int w0.2.1, .int w0.2.2])), (hw0_1, .inl (G.2.2.2.2, 4, .inr (.inr (.inr (.inr (sv4 (aw00 0) (aw01 0) (aw02 0) (aw03 0)))))))], cSt G aw00 w0.1.1, cSt G aw01 w0.1.2.1, cSt G aw02 x3, cSt G aw03 w0.1.2.2.2, cSt G aw1 w1]) (rest := []) hx hb hml hown hts hK (c_X8_takeB l G aw02 aw1 w0.1.2.2.1 w1 hcx3) wd_253 wd_2 wd_250 wd_251 wd_252 hd_X8_take ⟨rfl, rfl, Nat.le_of_ble_eq_true rfl, Nat.le_of_ble_eq_true rfl⟩ hP hD hS hA [3, 5] rfl (blk_D [3, 5] rfl hD rfl) rfl rfl 5 40 rfl rfl rfl rfl hl.1 rfl (Nat.le_of_ble_eq_true rfl) dX4_save_10 ⟨Nat.zero_le _, Nat.zero_le _⟩ (fun H locs hP hD hS => ?_)
    refine lv_aload_n (pc := 13) hx hb dX4_save_13 rfl (lv_at hl 0 rfl) ?_
    refine lv_aload_n (pc := 14) hx hb dX4_save_14 rfl (lv_at hl 0 rfl) ?_
    refine va_get (pc := 15) (D := G.1) (ci := 3) (v := .int w0.2.1) (C := RX4) (T := TX4) (N := 3) hx hb hts inX4 hown hK.1 hP 0 rfl rfl 1 (by decide) (hts _ wd_200) (fun _ h9 => h9) rfl dX4_save_15 ?_
    refine lv_iconst (pc := 18) (v := (1 : Int32)) hx hb dX4_save_18 (by decide) ?_
    refine lv_iadd (pc := 19) hx hb dX4_save_19 ?_
    refine lv_iconst (pc := 20) (v := (4 : Int32)) hx hb dX4_save_20 (by decide) ?_
    refine lv_irem (pc := 21) hx hb dX4_save_21 (by decide) ?_
    refine va_put (pc := 22) (D := G.1) (ci := 3) (v := .int ((w0.2.1 + (1 : Int32)) - (w0.2.1 + (1 : Int32)) / (4 : Int32) * (4 : Int32))) (ty := .int) (C := RX4) (T := TX4) (N := 3) hx hb hts inX4 tyX4 tyX4_ok nmX4 hown hK.1 hP hD hS 0 rfl rfl 1 (by decide) (hts _ wd_200) (fun _ h9 => h9) rfl (by decide +kernel) rfl rfl (Nat.le_of_ble_eq_true rfl) dX4_save_22 (fun H locs hP hD hS => ?_)
    have hP : va_P G.1 vwCl (List.flatten [[(hw0_0, .inr (3, [.ref hw0_1, .int ((w0.2.1 + (1 : Int32)) - (w0.2.1 + (1 : Int32)) / (4 : Int32) * (4 : Int32)), .int w0.2.2])), (hw0_1, .inl (G.2.2.2.2, 4, .inr (.inr (.inr (.inr (sv4 (aw00 0) (aw01 0) (aw02 0) (aw03 0)))))))], cSt G aw00 w0.1.1, cSt G aw01 w0.1.2.1, cSt G aw02 x3, cSt G aw03 w0.1.2.2.2, cSt G aw1 w1]) H := hP
    have hD : va_D A (List.flatten [[(hw0_0, .inr (3, [.ref hw0_1, .int ((w0.2.1 + (1 : Int32)) - (w0.2.1 + (1 : Int32)) / (4 : Int32) * (4 : Int32)), .int w0.2.2])), (hw0_1, .inl (G.2.2.2.2, 4, .inr (.inr (.inr (.inr (sv4 (aw00 0) (aw01 0) (aw02 0) (aw03 0)))))))], cSt G aw00 w0.1.1, cSt G aw01 w0.1.2.1, cSt G aw02 x3, cSt G aw03 w0.1.2.2.2, cSt G aw1 w1]) := hD
    refine lv_aload_n (pc := 25) hx hb dX4_save_25 rfl (lv_at hl 0 rfl) ?_
    refine lv_aload_n (pc := 26) hx hb dX4_save_26 rfl (lv_at hl 0 rfl) ?_
    refine va_get (pc := 27) (D := G.1) (ci := 3) (v := .int w0.2.2) (C := RX4) (T := TX4) (N := 3) hx hb hts inX4 hown hK.1 hP 0 rfl rfl 2 (by decide) (hts _ wd_201) (fun _ h9 => h9) rfl dX4_save_27 ?_
    refine lv_iconst (pc := 30) (v := (1 : Int32)) hx hb dX4_save_30 (by decide) ?_
    refine lv_iadd (pc := 31) hx hb dX4_save_31 ?_
    refine lv_iconst (pc := 32) (v := (4 : Int32)) hx hb dX4_save_32 (by decide) ?_
    refine va_mmin (pc := 33) hx hb (hml.trans hl.1.symm) hown (hts _ wd_279) (hts _ wd_259) (hts _ wd_4) (hts _ wd_260) (Nat.le_of_ble_eq_true rfl) (Nat.le_of_ble_eq_true rfl) (Nat.le_of_ble_eq_true rfl) (Nat.le_of_ble_eq_true rfl) dX4_save_33 ?_
    refine va_put (pc := 36) (D := G.1) (ci := 3) (v := .int (if (4 : Int32) < (w0.2.2 + (1 : Int32)) then (4 : Int32) else (w0.2.2 + (1 : Int32)))) (ty := .int) (C := RX4) (T := TX4) (N := 3) hx hb hts inX4 tyX4 tyX4_ok nmX4 hown hK.1 hP hD hS 0 rfl rfl 2 (by decide) (hts _ wd_201) (fun _ h9 => h9) rfl (by decide +kernel) rfl rfl (Nat.le_of_ble_eq_true rfl) dX4_save_36 (fun H locs hP hD hS => ?_)
    have hP : va_P G.1 vwCl (List.flatten [[(hw0_0, .inr (3, [.ref hw0_1, .int ((w0.2.1 + (1 : Int32)) - (w0.2.1 + (1 : Int32)) / (4 : Int32) * (4 : Int32)), .int (if (4 : Int32) < (w0.2.2 + (1 : Int32)) then (4 : Int32) else (w0.2.2 + (1 : Int32)))])), (hw0_1, .inl (G.2.2.2.2, 4, .inr (.inr (.inr (.inr (sv4 (aw00 0) (aw01 0) (aw02 0) (aw03 0)))))))], cSt G aw00 w0.1.1, cSt G aw01 w0.1.2.1, cSt G aw02 x3, cSt G aw03 w0.1.2.2.2, cSt G aw1 w1]) H := hP
    have hD : va_D A (List.flatten [[(hw0_0, .inr (3, [.ref hw0_1, .int ((w0.2.1 + (1 : Int32)) - (w0.2.1 + (1 : Int32)) / (4 : Int32) * (4 : Int32)), .int (if (4 : Int32) < (w0.2.2 + (1 : Int32)) then (4 : Int32) else (w0.2.2 + (1 : Int32)))])), (hw0_1, .inl (G.2.2.2.2, 4, .inr (.inr (.inr (.inr (sv4 (aw00 0) (aw01 0) (aw02 0) (aw03 0)))))))], cSt G aw00 w0.1.1, cSt G aw01 w0.1.2.1, cSt G aw02 x3, cSt G aw03 w0.1.2.2.2, cSt G aw1 w1]) := hD
    have hf := Option.some.inj hf; subst hf
    rw [← hQ]
    exact g_vret hx hb hr hlocks hP hS dX4_save_39
  have hf := br_n hv2 hf
  obtain ⟨hv3, hf⟩ := gd_some hf
  refine g_aaload (pc := 8) hx hb hK.1 hP 1 3 rfl (C := "InPlaceDelta$State") rfl (by rw [hv3]; exact vin4_3) (b := (aw03 0)) (by rw [hv3]; rfl) dX4_save_8 ?_
  refine lv_aload_n (pc := 9) hx hb dX4_save_9 rfl (lv_at hl 1 rfl) ?_
  obtain ⟨x4, hcx4, hf⟩ := bn_some hf
  refine g_callVB (pc := 10) (bs' := [[(hw0_0, .inr (3, [.ref hw0_1, .int w0.2.1, .int w0.2.2])), (hw0_1, .inl (G.2.2.2.2, 4, .inr (.inr (.inr (.inr (sv4 (aw00 0) (aw01 0) (aw02 0) (aw03 0)))))))], cSt G aw00 w0.1.1, cSt G aw01 w0.1.2.1, cSt G aw02 w0.1.2.2.1, cSt G aw03 x4, cSt G aw1 w1]) (rest := []) hx hb hml hown hts hK (c_X8_takeB l G aw03 aw1 w0.1.2.2.2 w1 hcx4) wd_253 wd_2 wd_250 wd_251 wd_252 hd_X8_take ⟨rfl, rfl, Nat.le_of_ble_eq_true rfl, Nat.le_of_ble_eq_true rfl⟩ hP hD hS hA [4, 5] rfl (blk_D [4, 5] rfl hD rfl) rfl rfl 5 59 rfl rfl rfl rfl hl.1 rfl (Nat.le_of_ble_eq_true rfl) dX4_save_10 ⟨Nat.zero_le _, Nat.zero_le _⟩ (fun H locs hP hD hS => ?_)
  refine lv_aload_n (pc := 13) hx hb dX4_save_13 rfl (lv_at hl 0 rfl) ?_
  refine lv_aload_n (pc := 14) hx hb dX4_save_14 rfl (lv_at hl 0 rfl) ?_
  refine va_get (pc := 15) (D := G.1) (ci := 3) (v := .int w0.2.1) (C := RX4) (T := TX4) (N := 3) hx hb hts inX4 hown hK.1 hP 0 rfl rfl 1 (by decide) (hts _ wd_200) (fun _ h9 => h9) rfl dX4_save_15 ?_
  refine lv_iconst (pc := 18) (v := (1 : Int32)) hx hb dX4_save_18 (by decide) ?_
  refine lv_iadd (pc := 19) hx hb dX4_save_19 ?_
  refine lv_iconst (pc := 20) (v := (4 : Int32)) hx hb dX4_save_20 (by decide) ?_
  refine lv_irem (pc := 21) hx hb dX4_save_21 (by decide) ?_
  refine va_put (pc := 22) (D := G.1) (ci := 3) (v := .int ((w0.2.1 + (1 : Int32)) - (w0.2.1 + (1 : Int32)) / (4 : Int32) * (4 : Int32))) (ty := .int) (C := RX4) (T := TX4) (N := 3) hx hb hts inX4 tyX4 tyX4_ok nmX4 hown hK.1 hP hD hS 0 rfl rfl 1 (by decide) (hts _ wd_200) (fun _ h9 => h9) rfl (by decide +kernel) rfl rfl (Nat.le_of_ble_eq_true rfl) dX4_save_22 (fun H locs hP hD hS => ?_)
  have hP : va_P G.1 vwCl (List.flatten [[(hw0_0, .inr (3, [.ref hw0_1, .int ((w0.2.1 + (1 : Int32)) - (w0.2.1 + (1 : Int32)) / (4 : Int32) * (4 : Int32)), .int w0.2.2])), (hw0_1, .inl (G.2.2.2.2, 4, .inr (.inr (.inr (.inr (sv4 (aw00 0) (aw01 0) (aw02 0) (aw03 0)))))))], cSt G aw00 w0.1.1, cSt G aw01 w0.1.2.1, cSt G aw02 w0.1.2.2.1, cSt G aw03 x4, cSt G aw1 w1]) H := hP
  have hD : va_D A (List.flatten [[(hw0_0, .inr (3, [.ref hw0_1, .int ((w0.2.1 + (1 : Int32)) - (w0.2.1 + (1 : Int32)) / (4 : Int32) * (4 : Int32)), .int w0.2.2])), (hw0_1, .inl (G.2.2.2.2, 4, .inr (.inr (.inr (.inr (sv4 (aw00 0) (aw01 0) (aw02 0) (aw03 0)))))))], cSt G aw00 w0.1.1, cSt G aw01 w0.1.2.1, cSt G aw02 w0.1.2.2.1, cSt G aw03 x4, cSt G aw1 w1]) := hD
  refine lv_aload_n (pc := 25) hx hb dX4_save_25 rfl (lv_at hl 0 rfl) ?_
  refine lv_aload_n (pc := 26) hx hb dX4_save_26 rfl (lv_at hl 0 rfl) ?_
  refine va_get (pc := 27) (D := G.1) (ci := 3) (v := .int w0.2.2) (C := RX4) (T := TX4) (N := 3) hx hb hts inX4 hown hK.1 hP 0 rfl rfl 2 (by decide) (hts _ wd_201) (fun _ h9 => h9) rfl dX4_save_27 ?_
  refine lv_iconst (pc := 30) (v := (1 : Int32)) hx hb dX4_save_30 (by decide) ?_
  refine lv_iadd (pc := 31) hx hb dX4_save_31 ?_
  refine lv_iconst (pc := 32) (v := (4 : Int32)) hx hb dX4_save_32 (by decide) ?_
  refine va_mmin (pc := 33) hx hb (hml.trans hl.1.symm) hown (hts _ wd_279) (hts _ wd_259) (hts _ wd_4) (hts _ wd_260) (Nat.le_of_ble_eq_true rfl) (Nat.le_of_ble_eq_true rfl) (Nat.le_of_ble_eq_true rfl) (Nat.le_of_ble_eq_true rfl) dX4_save_33 ?_
  refine va_put (pc := 36) (D := G.1) (ci := 3) (v := .int (if (4 : Int32) < (w0.2.2 + (1 : Int32)) then (4 : Int32) else (w0.2.2 + (1 : Int32)))) (ty := .int) (C := RX4) (T := TX4) (N := 3) hx hb hts inX4 tyX4 tyX4_ok nmX4 hown hK.1 hP hD hS 0 rfl rfl 2 (by decide) (hts _ wd_201) (fun _ h9 => h9) rfl (by decide +kernel) rfl rfl (Nat.le_of_ble_eq_true rfl) dX4_save_36 (fun H locs hP hD hS => ?_)
  have hP : va_P G.1 vwCl (List.flatten [[(hw0_0, .inr (3, [.ref hw0_1, .int ((w0.2.1 + (1 : Int32)) - (w0.2.1 + (1 : Int32)) / (4 : Int32) * (4 : Int32)), .int (if (4 : Int32) < (w0.2.2 + (1 : Int32)) then (4 : Int32) else (w0.2.2 + (1 : Int32)))])), (hw0_1, .inl (G.2.2.2.2, 4, .inr (.inr (.inr (.inr (sv4 (aw00 0) (aw01 0) (aw02 0) (aw03 0)))))))], cSt G aw00 w0.1.1, cSt G aw01 w0.1.2.1, cSt G aw02 w0.1.2.2.1, cSt G aw03 x4, cSt G aw1 w1]) H := hP
  have hD : va_D A (List.flatten [[(hw0_0, .inr (3, [.ref hw0_1, .int ((w0.2.1 + (1 : Int32)) - (w0.2.1 + (1 : Int32)) / (4 : Int32) * (4 : Int32)), .int (if (4 : Int32) < (w0.2.2 + (1 : Int32)) then (4 : Int32) else (w0.2.2 + (1 : Int32)))])), (hw0_1, .inl (G.2.2.2.2, 4, .inr (.inr (.inr (.inr (sv4 (aw00 0) (aw01 0) (aw02 0) (aw03 0)))))))], cSt G aw00 w0.1.1, cSt G aw01 w0.1.2.1, cSt G aw02 w0.1.2.2.1, cSt G aw03 x4, cSt G aw1 w1]) := hD
  have hf := Option.some.inj hf; subst hf
  rw [← hQ]
  exact g_vret hx hb hr hlocks hP hS dX4_save_39
theorem hd_X4_restore : yX4_restore.cls ≠ "java/lang/invoke/MethodHandle" ∧ yX4_restore.cls ≠ "java/lang/invoke/VarHandle" ∧ (parseMethodDescriptor yX4_restore.desc).map (fun d => d.parameters.length) = some 1 := by decide +kernel
abbrev rm_X4_restore : Room := { frames := 4, cells := 0, slots := 0, locals := 127 }
noncomputable def f_X4_restore (w0 : THistory) (w1 : TState) : Option (THistory × TState) :=
  br ((((w0.2.1 + (4 : Int32)) - (1 : Int32)) - ((w0.2.1 + (4 : Int32)) - (1 : Int32)) / (4 : Int32) * (4 : Int32)) = (0 : Int32)) ((f_X8_take w1 w0.1.1).bind (fun x1 => some ((w0.1, (((w0.2.1 + (4 : Int32)) - (1 : Int32)) - ((w0.2.1 + (4 : Int32)) - (1 : Int32)) / (4 : Int32) * (4 : Int32)), (w0.2.2 - (1 : Int32))), x1))) (br ((((w0.2.1 + (4 : Int32)) - (1 : Int32)) - ((w0.2.1 + (4 : Int32)) - (1 : Int32)) / (4 : Int32) * (4 : Int32)) = (1 : Int32)) ((f_X8_take w1 w0.1.2.1).bind (fun x2 => some ((w0.1, (((w0.2.1 + (4 : Int32)) - (1 : Int32)) - ((w0.2.1 + (4 : Int32)) - (1 : Int32)) / (4 : Int32) * (4 : Int32)), (w0.2.2 - (1 : Int32))), x2))) (br ((((w0.2.1 + (4 : Int32)) - (1 : Int32)) - ((w0.2.1 + (4 : Int32)) - (1 : Int32)) / (4 : Int32) * (4 : Int32)) = (2 : Int32)) ((f_X8_take w1 w0.1.2.2.1).bind (fun x3 => some ((w0.1, (((w0.2.1 + (4 : Int32)) - (1 : Int32)) - ((w0.2.1 + (4 : Int32)) - (1 : Int32)) / (4 : Int32) * (4 : Int32)), (w0.2.2 - (1 : Int32))), x3))) (gd ((((w0.2.1 + (4 : Int32)) - (1 : Int32)) - ((w0.2.1 + (4 : Int32)) - (1 : Int32)) / (4 : Int32) * (4 : Int32)) = (3 : Int32)) ((f_X8_take w1 w0.1.2.2.2).bind (fun x4 => some ((w0.1, (((w0.2.1 + (4 : Int32)) - (1 : Int32)) - ((w0.2.1 + (4 : Int32)) - (1 : Int32)) / (4 : Int32) * (4 : Int32)), (w0.2.2 - (1 : Int32))), x4))))))
set_option maxHeartbeats 4000000 in
set_option maxRecDepth 100000 in
theorem c_X4_restore (l : Launch) (G : GT) (hw0_0 hw0_1 : Nat) (aw00 aw01 aw02 aw03 : Nat → Nat) (aw1 : Nat → Nat) (w0 : THistory) (w1 : TState) {r : THistory × TState} (hf : f_X4_restore w0 w1 = some r) : Ct l yX4_restore (Cond.code yX4_restore cX4_restore 2 none :: lw_g) rm_X4_restore G [.ref hw0_0, .ref (aw1 0)] (List.flatten [[(hw0_0, .inr (3, [.ref hw0_1, .int w0.2.1, .int w0.2.2])), (hw0_1, .inl (G.2.2.2.2, 4, .inr (.inr (.inr (.inr (sv4 (aw00 0) (aw01 0) (aw02 0) (aw03 0)))))))], cSt G aw00 w0.1.1, cSt G aw01 w0.1.2.1, cSt G aw02 w0.1.2.2.1, cSt G aw03 w0.1.2.2.2, cSt G aw1 w1]) none (List.flatten [[(hw0_0, .inr (3, [.ref hw0_1, .int r.1.2.1, .int r.1.2.2])), (hw0_1, .inl (G.2.2.2.2, 4, .inr (.inr (.inr (.inr (sv4 (aw00 0) (aw01 0) (aw02 0) (aw03 0)))))))], cSt G aw00 r.1.1.1, cSt G aw01 r.1.1.2.1, cSt G aw02 r.1.1.2.2.1, cSt G aw03 r.1.1.2.2.2, cSt G aw1 r.2]) := by
  refine Ct.ofW (cc := cX4_restore) (maxL := 2) (ret := none) (own := RX4) (by decide) rfl rfl (Nat.le_of_ble_eq_true rfl) ?_
  intro p e s m args below meth c A hx hb hr hml hts hown hlocks hK hP hD hA hS ls hl
  have hl : lv_has ls 2 [(0, .ref hw0_0), (1, .ref (aw1 0))] := hl
  generalize hQ : gMQ below G _ _ A args s = Q
  generalize hH : s.heap = H at hP ⊢
  have hS : va_S A s.heap H [] := by rw [← hH]; exact hS
  generalize ([] : List Loc) = locs at hS ⊢
  unfold f_X4_restore at hf
  refine lv_aload_n (pc := 0) hx hb dX4_restore_0 rfl (lv_at hl 0 rfl) ?_
  refine lv_aload_n (pc := 1) hx hb dX4_restore_1 rfl (lv_at hl 0 rfl) ?_
  refine va_get (pc := 2) (D := G.1) (ci := 3) (v := .int w0.2.1) (C := RX4) (T := TX4) (N := 3) hx hb hts inX4 hown hK.1 hP 0 rfl rfl 1 (by decide) (hts _ wd_200) (fun _ h9 => h9) rfl dX4_restore_2 ?_
  refine lv_iconst (pc := 5) (v := (4 : Int32)) hx hb dX4_restore_5 (by decide) ?_
  refine lv_iadd (pc := 6) hx hb dX4_restore_6 ?_
  refine lv_iconst (pc := 7) (v := (1 : Int32)) hx hb dX4_restore_7 (by decide) ?_
  refine lv_isub (pc := 8) hx hb dX4_restore_8 ?_
  refine lv_iconst (pc := 9) (v := (4 : Int32)) hx hb dX4_restore_9 (by decide) ?_
  refine lv_irem (pc := 10) hx hb dX4_restore_10 (by decide) ?_
  refine va_put (pc := 11) (D := G.1) (ci := 3) (v := .int (((w0.2.1 + (4 : Int32)) - (1 : Int32)) - ((w0.2.1 + (4 : Int32)) - (1 : Int32)) / (4 : Int32) * (4 : Int32))) (ty := .int) (C := RX4) (T := TX4) (N := 3) hx hb hts inX4 tyX4 tyX4_ok nmX4 hown hK.1 hP hD hS 0 rfl rfl 1 (by decide) (hts _ wd_200) (fun _ h9 => h9) rfl (by decide +kernel) rfl rfl (Nat.le_of_ble_eq_true rfl) dX4_restore_11 (fun H locs hP hD hS => ?_)
  have hP : va_P G.1 vwCl (List.flatten [[(hw0_0, .inr (3, [.ref hw0_1, .int (((w0.2.1 + (4 : Int32)) - (1 : Int32)) - ((w0.2.1 + (4 : Int32)) - (1 : Int32)) / (4 : Int32) * (4 : Int32)), .int w0.2.2])), (hw0_1, .inl (G.2.2.2.2, 4, .inr (.inr (.inr (.inr (sv4 (aw00 0) (aw01 0) (aw02 0) (aw03 0)))))))], cSt G aw00 w0.1.1, cSt G aw01 w0.1.2.1, cSt G aw02 w0.1.2.2.1, cSt G aw03 w0.1.2.2.2, cSt G aw1 w1]) H := hP
  have hD : va_D A (List.flatten [[(hw0_0, .inr (3, [.ref hw0_1, .int (((w0.2.1 + (4 : Int32)) - (1 : Int32)) - ((w0.2.1 + (4 : Int32)) - (1 : Int32)) / (4 : Int32) * (4 : Int32)), .int w0.2.2])), (hw0_1, .inl (G.2.2.2.2, 4, .inr (.inr (.inr (.inr (sv4 (aw00 0) (aw01 0) (aw02 0) (aw03 0)))))))], cSt G aw00 w0.1.1, cSt G aw01 w0.1.2.1, cSt G aw02 w0.1.2.2.1, cSt G aw03 w0.1.2.2.2, cSt G aw1 w1]) := hD
  refine lv_aload_n (pc := 14) hx hb dX4_restore_14 rfl (lv_at hl 1 rfl) ?_
  refine lv_aload_n (pc := 15) hx hb dX4_restore_15 rfl (lv_at hl 0 rfl) ?_
  refine va_get (pc := 16) (D := G.1) (ci := 3) (v := .ref hw0_1) (C := RX4) (T := TX4) (N := 3) hx hb hts inX4 hown hK.1 hP 0 rfl rfl 0 (by decide) (hts _ wd_199) (fun _ h9 => h9) rfl dX4_restore_16 ?_
  refine lv_aload_n (pc := 19) hx hb dX4_restore_19 rfl (lv_at hl 0 rfl) ?_
  refine va_get (pc := 20) (D := G.1) (ci := 3) (v := .int (((w0.2.1 + (4 : Int32)) - (1 : Int32)) - ((w0.2.1 + (4 : Int32)) - (1 : Int32)) / (4 : Int32) * (4 : Int32))) (C := RX4) (T := TX4) (N := 3) hx hb hts inX4 hown hK.1 hP 0 rfl rfl 1 (by decide) (hts _ wd_200) (fun _ h9 => h9) rfl dX4_restore_20 ?_
  by_cases hv0 : (((w0.2.1 + (4 : Int32)) - (1 : Int32)) - ((w0.2.1 + (4 : Int32)) - (1 : Int32)) / (4 : Int32) * (4 : Int32)) = (0 : Int32)
  · have hf := br_y hv0 hf
    refine g_aaload (pc := 23) hx hb hK.1 hP 1 3 rfl (C := "InPlaceDelta$State") rfl (by rw [hv0]; exact vin4_0) (b := (aw00 0)) (by rw [hv0]; rfl) dX4_restore_23 ?_
    obtain ⟨x1, hcx1, hf⟩ := bn_some hf
    refine g_callVB (pc := 24) (bs' := [[(hw0_0, .inr (3, [.ref hw0_1, .int (((w0.2.1 + (4 : Int32)) - (1 : Int32)) - ((w0.2.1 + (4 : Int32)) - (1 : Int32)) / (4 : Int32) * (4 : Int32)), .int w0.2.2])), (hw0_1, .inl (G.2.2.2.2, 4, .inr (.inr (.inr (.inr (sv4 (aw00 0) (aw01 0) (aw02 0) (aw03 0)))))))], cSt G aw00 w0.1.1, cSt G aw01 w0.1.2.1, cSt G aw02 w0.1.2.2.1, cSt G aw03 w0.1.2.2.2, cSt G aw1 x1]) (rest := []) hx hb hml hown hts hK (c_X8_takeB l G aw1 aw00 w1 w0.1.1 hcx1) wd_253 wd_2 wd_250 wd_251 wd_252 hd_X8_take ⟨rfl, rfl, Nat.le_of_ble_eq_true rfl, Nat.le_of_ble_eq_true rfl⟩ hP hD hS hA [5, 1] rfl (blk_D [5, 1] rfl hD rfl) rfl rfl 5 78 rfl rfl rfl rfl hl.1 rfl (Nat.le_of_ble_eq_true rfl) dX4_restore_24 ⟨Nat.zero_le _, Nat.zero_le _⟩ (fun H locs hP hD hS => ?_)
    refine lv_aload_n (pc := 27) hx hb dX4_restore_27 rfl (lv_at hl 0 rfl) ?_
    refine lv_dup (pc := 28) hx hb dX4_restore_28 rfl ?_
    refine va_get (pc := 29) (D := G.1) (ci := 3) (v := .int w0.2.2) (C := RX4) (T := TX4) (N := 3) hx hb hts inX4 hown hK.1 hP 0 rfl rfl 2 (by decide) (hts _ wd_201) (fun _ h9 => h9) rfl dX4_restore_29 ?_
    refine lv_iconst (pc := 32) (v := (1 : Int32)) hx hb dX4_restore_32 (by decide) ?_
    refine lv_isub (pc := 33) hx hb dX4_restore_33 ?_
    refine va_put (pc := 34) (D := G.1) (ci := 3) (v := .int (w0.2.2 - (1 : Int32))) (ty := .int) (C := RX4) (T := TX4) (N := 3) hx hb hts inX4 tyX4 tyX4_ok nmX4 hown hK.1 hP hD hS 0 rfl rfl 2 (by decide) (hts _ wd_201) (fun _ h9 => h9) rfl (by decide +kernel) rfl rfl (Nat.le_of_ble_eq_true rfl) dX4_restore_34 (fun H locs hP hD hS => ?_)
    have hP : va_P G.1 vwCl (List.flatten [[(hw0_0, .inr (3, [.ref hw0_1, .int (((w0.2.1 + (4 : Int32)) - (1 : Int32)) - ((w0.2.1 + (4 : Int32)) - (1 : Int32)) / (4 : Int32) * (4 : Int32)), .int (w0.2.2 - (1 : Int32))])), (hw0_1, .inl (G.2.2.2.2, 4, .inr (.inr (.inr (.inr (sv4 (aw00 0) (aw01 0) (aw02 0) (aw03 0)))))))], cSt G aw00 w0.1.1, cSt G aw01 w0.1.2.1, cSt G aw02 w0.1.2.2.1, cSt G aw03 w0.1.2.2.2, cSt G aw1 x1]) H := hP
    have hD : va_D A (List.flatten [[(hw0_0, .inr (3, [.ref hw0_1, .int (((w0.2.1 + (4 : Int32)) - (1 : Int32)) - ((w0.2.1 + (4 : Int32)) - (1 : Int32)) / (4 : Int32) * (4 : Int32)), .int (w0.2.2 - (1 : Int32))])), (hw0_1, .inl (G.2.2.2.2, 4, .inr (.inr (.inr (.inr (sv4 (aw00 0) (aw01 0) (aw02 0) (aw03 0)))))))], cSt G aw00 w0.1.1, cSt G aw01 w0.1.2.1, cSt G aw02 w0.1.2.2.1, cSt G aw03 w0.1.2.2.2, cSt G aw1 x1]) := hD
    have hf := Option.some.inj hf; subst hf
    rw [← hQ]
    exact g_vret hx hb hr hlocks hP hS dX4_restore_37
  have hf := br_n hv0 hf
  by_cases hv1 : (((w0.2.1 + (4 : Int32)) - (1 : Int32)) - ((w0.2.1 + (4 : Int32)) - (1 : Int32)) / (4 : Int32) * (4 : Int32)) = (1 : Int32)
  · have hf := br_y hv1 hf
    refine g_aaload (pc := 23) hx hb hK.1 hP 1 3 rfl (C := "InPlaceDelta$State") rfl (by rw [hv1]; exact vin4_1) (b := (aw01 0)) (by rw [hv1]; rfl) dX4_restore_23 ?_
    obtain ⟨x2, hcx2, hf⟩ := bn_some hf
    refine g_callVB (pc := 24) (bs' := [[(hw0_0, .inr (3, [.ref hw0_1, .int (((w0.2.1 + (4 : Int32)) - (1 : Int32)) - ((w0.2.1 + (4 : Int32)) - (1 : Int32)) / (4 : Int32) * (4 : Int32)), .int w0.2.2])), (hw0_1, .inl (G.2.2.2.2, 4, .inr (.inr (.inr (.inr (sv4 (aw00 0) (aw01 0) (aw02 0) (aw03 0)))))))], cSt G aw00 w0.1.1, cSt G aw01 w0.1.2.1, cSt G aw02 w0.1.2.2.1, cSt G aw03 w0.1.2.2.2, cSt G aw1 x2]) (rest := []) hx hb hml hown hts hK (c_X8_takeB l G aw1 aw01 w1 w0.1.2.1 hcx2) wd_253 wd_2 wd_250 wd_251 wd_252 hd_X8_take ⟨rfl, rfl, Nat.le_of_ble_eq_true rfl, Nat.le_of_ble_eq_true rfl⟩ hP hD hS hA [5, 2] rfl (blk_D [5, 2] rfl hD rfl) rfl rfl 5 78 rfl rfl rfl rfl hl.1 rfl (Nat.le_of_ble_eq_true rfl) dX4_restore_24 ⟨Nat.zero_le _, Nat.zero_le _⟩ (fun H locs hP hD hS => ?_)
    refine lv_aload_n (pc := 27) hx hb dX4_restore_27 rfl (lv_at hl 0 rfl) ?_
    refine lv_dup (pc := 28) hx hb dX4_restore_28 rfl ?_
    refine va_get (pc := 29) (D := G.1) (ci := 3) (v := .int w0.2.2) (C := RX4) (T := TX4) (N := 3) hx hb hts inX4 hown hK.1 hP 0 rfl rfl 2 (by decide) (hts _ wd_201) (fun _ h9 => h9) rfl dX4_restore_29 ?_
    refine lv_iconst (pc := 32) (v := (1 : Int32)) hx hb dX4_restore_32 (by decide) ?_
    refine lv_isub (pc := 33) hx hb dX4_restore_33 ?_
    refine va_put (pc := 34) (D := G.1) (ci := 3) (v := .int (w0.2.2 - (1 : Int32))) (ty := .int) (C := RX4) (T := TX4) (N := 3) hx hb hts inX4 tyX4 tyX4_ok nmX4 hown hK.1 hP hD hS 0 rfl rfl 2 (by decide) (hts _ wd_201) (fun _ h9 => h9) rfl (by decide +kernel) rfl rfl (Nat.le_of_ble_eq_true rfl) dX4_restore_34 (fun H locs hP hD hS => ?_)
    have hP : va_P G.1 vwCl (List.flatten [[(hw0_0, .inr (3, [.ref hw0_1, .int (((w0.2.1 + (4 : Int32)) - (1 : Int32)) - ((w0.2.1 + (4 : Int32)) - (1 : Int32)) / (4 : Int32) * (4 : Int32)), .int (w0.2.2 - (1 : Int32))])), (hw0_1, .inl (G.2.2.2.2, 4, .inr (.inr (.inr (.inr (sv4 (aw00 0) (aw01 0) (aw02 0) (aw03 0)))))))], cSt G aw00 w0.1.1, cSt G aw01 w0.1.2.1, cSt G aw02 w0.1.2.2.1, cSt G aw03 w0.1.2.2.2, cSt G aw1 x2]) H := hP
    have hD : va_D A (List.flatten [[(hw0_0, .inr (3, [.ref hw0_1, .int (((w0.2.1 + (4 : Int32)) - (1 : Int32)) - ((w0.2.1 + (4 : Int32)) - (1 : Int32)) / (4 : Int32) * (4 : Int32)), .int (w0.2.2 - (1 : Int32))])), (hw0_1, .inl (G.2.2.2.2, 4, .inr (.inr (.inr (.inr (sv4 (aw00 0) (aw01 0) (aw02 0) (aw03 0)))))))], cSt G aw00 w0.1.1, cSt G aw01 w0.1.2.1, cSt G aw02 w0.1.2.2.1, cSt G aw03 w0.1.2.2.2, cSt G aw1 x2]) := hD
    have hf := Option.some.inj hf; subst hf
    rw [← hQ]
    exact g_vret hx hb hr hlocks hP hS dX4_restore_37
  have hf := br_n hv1 hf
  by_cases hv2 : (((w0.2.1 + (4 : Int32)) - (1 : Int32)) - ((w0.2.1 + (4 : Int32)) - (1 : Int32)) / (4 : Int32) * (4 : Int32)) = (2 : Int32)
  · have hf := br_y hv2 hf
    refine g_aaload (pc := 23) hx hb hK.1 hP 1 3 rfl (C := "InPlaceDelta$State") rfl (by rw [hv2]; exact vin4_2) (b := (aw02 0)) (by rw [hv2]; rfl) dX4_restore_23 ?_
    obtain ⟨x3, hcx3, hf⟩ := bn_some hf
    refine g_callVB (pc := 24) (bs' := [[(hw0_0, .inr (3, [.ref hw0_1, .int (((w0.2.1 + (4 : Int32)) - (1 : Int32)) - ((w0.2.1 + (4 : Int32)) - (1 : Int32)) / (4 : Int32) * (4 : Int32)), .int w0.2.2])), (hw0_1, .inl (G.2.2.2.2, 4, .inr (.inr (.inr (.inr (sv4 (aw00 0) (aw01 0) (aw02 0) (aw03 0)))))))], cSt G aw00 w0.1.1, cSt G aw01 w0.1.2.1, cSt G aw02 w0.1.2.2.1, cSt G aw03 w0.1.2.2.2, cSt G aw1 x3]) (rest := []) hx hb hml hown hts hK (c_X8_takeB l G aw1 aw02 w1 w0.1.2.2.1 hcx3) wd_253 wd_2 wd_250 wd_251 wd_252 hd_X8_take ⟨rfl, rfl, Nat.le_of_ble_eq_true rfl, Nat.le_of_ble_eq_true rfl⟩ hP hD hS hA [5, 3] rfl (blk_D [5, 3] rfl hD rfl) rfl rfl 5 78 rfl rfl rfl rfl hl.1 rfl (Nat.le_of_ble_eq_true rfl) dX4_restore_24 ⟨Nat.zero_le _, Nat.zero_le _⟩ (fun H locs hP hD hS => ?_)
    refine lv_aload_n (pc := 27) hx hb dX4_restore_27 rfl (lv_at hl 0 rfl) ?_
    refine lv_dup (pc := 28) hx hb dX4_restore_28 rfl ?_
    refine va_get (pc := 29) (D := G.1) (ci := 3) (v := .int w0.2.2) (C := RX4) (T := TX4) (N := 3) hx hb hts inX4 hown hK.1 hP 0 rfl rfl 2 (by decide) (hts _ wd_201) (fun _ h9 => h9) rfl dX4_restore_29 ?_
    refine lv_iconst (pc := 32) (v := (1 : Int32)) hx hb dX4_restore_32 (by decide) ?_
    refine lv_isub (pc := 33) hx hb dX4_restore_33 ?_
    refine va_put (pc := 34) (D := G.1) (ci := 3) (v := .int (w0.2.2 - (1 : Int32))) (ty := .int) (C := RX4) (T := TX4) (N := 3) hx hb hts inX4 tyX4 tyX4_ok nmX4 hown hK.1 hP hD hS 0 rfl rfl 2 (by decide) (hts _ wd_201) (fun _ h9 => h9) rfl (by decide +kernel) rfl rfl (Nat.le_of_ble_eq_true rfl) dX4_restore_34 (fun H locs hP hD hS => ?_)
    have hP : va_P G.1 vwCl (List.flatten [[(hw0_0, .inr (3, [.ref hw0_1, .int (((w0.2.1 + (4 : Int32)) - (1 : Int32)) - ((w0.2.1 + (4 : Int32)) - (1 : Int32)) / (4 : Int32) * (4 : Int32)), .int (w0.2.2 - (1 : Int32))])), (hw0_1, .inl (G.2.2.2.2, 4, .inr (.inr (.inr (.inr (sv4 (aw00 0) (aw01 0) (aw02 0) (aw03 0)))))))], cSt G aw00 w0.1.1, cSt G aw01 w0.1.2.1, cSt G aw02 w0.1.2.2.1, cSt G aw03 w0.1.2.2.2, cSt G aw1 x3]) H := hP
    have hD : va_D A (List.flatten [[(hw0_0, .inr (3, [.ref hw0_1, .int (((w0.2.1 + (4 : Int32)) - (1 : Int32)) - ((w0.2.1 + (4 : Int32)) - (1 : Int32)) / (4 : Int32) * (4 : Int32)), .int (w0.2.2 - (1 : Int32))])), (hw0_1, .inl (G.2.2.2.2, 4, .inr (.inr (.inr (.inr (sv4 (aw00 0) (aw01 0) (aw02 0) (aw03 0)))))))], cSt G aw00 w0.1.1, cSt G aw01 w0.1.2.1, cSt G aw02 w0.1.2.2.1, cSt G aw03 w0.1.2.2.2, cSt G aw1 x3]) := hD
    have hf := Option.some.inj hf; subst hf
    rw [← hQ]
    exact g_vret hx hb hr hlocks hP hS dX4_restore_37
  have hf := br_n hv2 hf
  obtain ⟨hv3, hf⟩ := gd_some hf
  refine g_aaload (pc := 23) hx hb hK.1 hP 1 3 rfl (C := "InPlaceDelta$State") rfl (by rw [hv3]; exact vin4_3) (b := (aw03 0)) (by rw [hv3]; rfl) dX4_restore_23 ?_
  obtain ⟨x4, hcx4, hf⟩ := bn_some hf
  refine g_callVB (pc := 24) (bs' := [[(hw0_0, .inr (3, [.ref hw0_1, .int (((w0.2.1 + (4 : Int32)) - (1 : Int32)) - ((w0.2.1 + (4 : Int32)) - (1 : Int32)) / (4 : Int32) * (4 : Int32)), .int w0.2.2])), (hw0_1, .inl (G.2.2.2.2, 4, .inr (.inr (.inr (.inr (sv4 (aw00 0) (aw01 0) (aw02 0) (aw03 0)))))))], cSt G aw00 w0.1.1, cSt G aw01 w0.1.2.1, cSt G aw02 w0.1.2.2.1, cSt G aw03 w0.1.2.2.2, cSt G aw1 x4]) (rest := []) hx hb hml hown hts hK (c_X8_takeB l G aw1 aw03 w1 w0.1.2.2.2 hcx4) wd_253 wd_2 wd_250 wd_251 wd_252 hd_X8_take ⟨rfl, rfl, Nat.le_of_ble_eq_true rfl, Nat.le_of_ble_eq_true rfl⟩ hP hD hS hA [5, 4] rfl (blk_D [5, 4] rfl hD rfl) rfl rfl 5 78 rfl rfl rfl rfl hl.1 rfl (Nat.le_of_ble_eq_true rfl) dX4_restore_24 ⟨Nat.zero_le _, Nat.zero_le _⟩ (fun H locs hP hD hS => ?_)
  refine lv_aload_n (pc := 27) hx hb dX4_restore_27 rfl (lv_at hl 0 rfl) ?_
  refine lv_dup (pc := 28) hx hb dX4_restore_28 rfl ?_
  refine va_get (pc := 29) (D := G.1) (ci := 3) (v := .int w0.2.2) (C := RX4) (T := TX4) (N := 3) hx hb hts inX4 hown hK.1 hP 0 rfl rfl 2 (by decide) (hts _ wd_201) (fun _ h9 => h9) rfl dX4_restore_29 ?_
  refine lv_iconst (pc := 32) (v := (1 : Int32)) hx hb dX4_restore_32 (by decide) ?_
  refine lv_isub (pc := 33) hx hb dX4_restore_33 ?_
  refine va_put (pc := 34) (D := G.1) (ci := 3) (v := .int (w0.2.2 - (1 : Int32))) (ty := .int) (C := RX4) (T := TX4) (N := 3) hx hb hts inX4 tyX4 tyX4_ok nmX4 hown hK.1 hP hD hS 0 rfl rfl 2 (by decide) (hts _ wd_201) (fun _ h9 => h9) rfl (by decide +kernel) rfl rfl (Nat.le_of_ble_eq_true rfl) dX4_restore_34 (fun H locs hP hD hS => ?_)
  have hP : va_P G.1 vwCl (List.flatten [[(hw0_0, .inr (3, [.ref hw0_1, .int (((w0.2.1 + (4 : Int32)) - (1 : Int32)) - ((w0.2.1 + (4 : Int32)) - (1 : Int32)) / (4 : Int32) * (4 : Int32)), .int (w0.2.2 - (1 : Int32))])), (hw0_1, .inl (G.2.2.2.2, 4, .inr (.inr (.inr (.inr (sv4 (aw00 0) (aw01 0) (aw02 0) (aw03 0)))))))], cSt G aw00 w0.1.1, cSt G aw01 w0.1.2.1, cSt G aw02 w0.1.2.2.1, cSt G aw03 w0.1.2.2.2, cSt G aw1 x4]) H := hP
  have hD : va_D A (List.flatten [[(hw0_0, .inr (3, [.ref hw0_1, .int (((w0.2.1 + (4 : Int32)) - (1 : Int32)) - ((w0.2.1 + (4 : Int32)) - (1 : Int32)) / (4 : Int32) * (4 : Int32)), .int (w0.2.2 - (1 : Int32))])), (hw0_1, .inl (G.2.2.2.2, 4, .inr (.inr (.inr (.inr (sv4 (aw00 0) (aw01 0) (aw02 0) (aw03 0)))))))], cSt G aw00 w0.1.1, cSt G aw01 w0.1.2.1, cSt G aw02 w0.1.2.2.1, cSt G aw03 w0.1.2.2.2, cSt G aw1 x4]) := hD
  have hf := Option.some.inj hf; subst hf
  rw [← hQ]
  exact g_vret hx hb hr hlocks hP hS dX4_restore_37
set_option maxHeartbeats 4000000 in
set_option maxRecDepth 100000 in
theorem c_X4_saveH (l : Launch) (G : GT) (h0 h1 : Nat) (a0 a1 a2 a3 aw1 : Nat → Nat) (w0 : THistory) (w1 : TState) {r : THistory} (hf : f_X4_save w0 w1 = some r) : Ct l yX4_save (Cond.code yX4_save cX4_save 2 none :: lw_g) rm_X4_save G [.ref h0, .ref (aw1 0)] (List.flatten [cHist G h0 h1 a0 a1 a2 a3 w0, cSt G aw1 w1]) none (List.flatten [cHist G h0 h1 a0 a1 a2 a3 r, cSt G aw1 w1]) := c_X4_save l G h0 h1 a0 a1 a2 a3 aw1 w0 w1 hf
set_option maxHeartbeats 4000000 in
set_option maxRecDepth 100000 in
theorem c_X4_restoreH (l : Launch) (G : GT) (h0 h1 : Nat) (a0 a1 a2 a3 aw1 : Nat → Nat) (w0 : THistory) (w1 : TState) {r : THistory × TState} (hf : f_X4_restore w0 w1 = some r) : Ct l yX4_restore (Cond.code yX4_restore cX4_restore 2 none :: lw_g) rm_X4_restore G [.ref h0, .ref (aw1 0)] (List.flatten [cHist G h0 h1 a0 a1 a2 a3 w0, cSt G aw1 w1]) none (List.flatten [cHist G h0 h1 a0 a1 a2 a3 r.1, cSt G aw1 r.2]) := c_X4_restore l G h0 h1 a0 a1 a2 a3 aw1 w0 w1 hf
