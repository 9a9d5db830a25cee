abbrev DEPTH : Nat := 40

theorem hd_X5_cyclicPart : yX5_cyclicPart.cls ≠ "java/lang/invoke/MethodHandle" ∧ yX5_cyclicPart.cls ≠ "java/lang/invoke/VarHandle" ∧ (parseMethodDescriptor yX5_cyclicPart.desc).map (fun d => d.parameters.length) = some 2 := by decide +kernel
abbrev rm_X5_cyclicPart : Room := { frames := 3, cells := 0, slots := 0, locals := 64 }
noncomputable def f_X5_cyclicPart_L4 (w0 : TDelta) (p1 : Int32)  : Nat → Int32 → Int32 → Option Int32
  | 0, _, _ => none
  | k4 + 1, v3, v2 =>
    br ((30 : Int32) ≤ v3) (some v2) ((f_X2_firstFree w0 v2).bind (fun x1 => br (x1 = (-1 : Int32)) (some v2) ((f_X10_without v2 x1).bind (fun x2 => f_X5_cyclicPart_L4 w0 p1  k4 (v3 + (1 : Int32)) x2))))
noncomputable def f_X5_cyclicPart (w0 : TDelta) (p1 : Int32) : Option Int32 :=
  f_X5_cyclicPart_L4 w0 p1 FUEL (0 : Int32) p1
set_option maxHeartbeats 4000000 in
set_option maxRecDepth 100000 in
theorem c_X5_cyclicPart (l : Launch) (G : GT) (hw0_0 hw0_1 hw0_2 hw0_3 hw0_4 hw0_5 hw0_6 : Nat) (w0 : TDelta) (p1 : Int32) {r : Int32} (hf : f_X5_cyclicPart w0 p1 = some r) : Ct l yX5_cyclicPart (Cond.code yX5_cyclicPart cX5_cyclicPart 5 (some .int) :: lw_g) rm_X5_cyclicPart G [.ref hw0_0, .int p1] [(hw0_0, .inr (2, [.ref hw0_1, .ref hw0_2, .ref hw0_3, .ref hw0_4, .ref hw0_5, .ref hw0_6, .int w0.2.2.2.2.2.2.1, .int w0.2.2.2.2.2.2.2.1, .int w0.2.2.2.2.2.2.2.2.1, .int w0.2.2.2.2.2.2.2.2.2.1, .int w0.2.2.2.2.2.2.2.2.2.2])), (hw0_1, .inl (G.2.1, 30, .inl w0.1)), (hw0_2, .inl (G.2.1, 30, .inl w0.2.1)), (hw0_3, .inl (G.2.1, 30, .inl w0.2.2.1)), (hw0_4, .inl (G.2.1, 30, .inl w0.2.2.2.1)), (hw0_5, .inl (G.2.1, 30, .inl w0.2.2.2.2.1)), (hw0_6, .inl (G.2.1, 64, .inl w0.2.2.2.2.2.1))] (some (.int r)) [(hw0_0, .inr (2, [.ref hw0_1, .ref hw0_2, .ref hw0_3, .ref hw0_4, .ref hw0_5, .ref hw0_6, .int w0.2.2.2.2.2.2.1, .int w0.2.2.2.2.2.2.2.1, .int w0.2.2.2.2.2.2.2.2.1, .int w0.2.2.2.2.2.2.2.2.2.1, .int w0.2.2.2.2.2.2.2.2.2.2])), (hw0_1, .inl (G.2.1, 30, .inl w0.1)), (hw0_2, .inl (G.2.1, 30, .inl w0.2.1)), (hw0_3, .inl (G.2.1, 30, .inl w0.2.2.1)), (hw0_4, .inl (G.2.1, 30, .inl w0.2.2.2.1)), (hw0_5, .inl (G.2.1, 30, .inl w0.2.2.2.2.1)), (hw0_6, .inl (G.2.1, 64, .inl w0.2.2.2.2.2.1))] := by
  refine Ct.ofW (cc := cX5_cyclicPart) (maxL := 5) (ret := (some .int)) (own := RX5) (by decide) rfl rfl (Nat.le_of_ble_eq_true rfl) ?_
  intro p e s m args below meth c A hx hb hr hml hts hown hlocks hK hP hD hA hS ls hl
  have hl : lv_has ls 5 [(0, .ref hw0_0), (1, .int p1)] := hl
  generalize hQ : gMQ below G _ _ A args s = Q
  generalize hH : s.heap = H at hP ⊢
  have hS : va_S A s.heap H [] := by rw [← hH]; exact hS
  generalize ([] : List Loc) = locs at hS ⊢
  unfold f_X5_cyclicPart at hf
  have hL4 : ∀ (k4 : Nat) (v3 : Int32) (v2 : Int32), f_X5_cyclicPart_L4 w0 p1  k4 v3 v2 = some r → ∀ (H : Heap) (locs : List Loc), va_P G.1 vwCl [(hw0_0, .inr (2, [.ref hw0_1, .ref hw0_2, .ref hw0_3, .ref hw0_4, .ref hw0_5, .ref hw0_6, .int w0.2.2.2.2.2.2.1, .int w0.2.2.2.2.2.2.2.1, .int w0.2.2.2.2.2.2.2.2.1, .int w0.2.2.2.2.2.2.2.2.2.1, .int w0.2.2.2.2.2.2.2.2.2.2])), (hw0_1, .inl (G.2.1, 30, .inl w0.1)), (hw0_2, .inl (G.2.1, 30, .inl w0.2.1)), (hw0_3, .inl (G.2.1, 30, .inl w0.2.2.1)), (hw0_4, .inl (G.2.1, 30, .inl w0.2.2.2.1)), (hw0_5, .inl (G.2.1, 30, .inl w0.2.2.2.2.1)), (hw0_6, .inl (G.2.1, 64, .inl w0.2.2.2.2.2.1))] H → va_D A [(hw0_0, .inr (2, [.ref hw0_1, .ref hw0_2, .ref hw0_3, .ref hw0_4, .ref hw0_5, .ref hw0_6, .int w0.2.2.2.2.2.2.1, .int w0.2.2.2.2.2.2.2.1, .int w0.2.2.2.2.2.2.2.2.1, .int w0.2.2.2.2.2.2.2.2.2.1, .int w0.2.2.2.2.2.2.2.2.2.2])), (hw0_1, .inl (G.2.1, 30, .inl w0.1)), (hw0_2, .inl (G.2.1, 30, .inl w0.2.1)), (hw0_3, .inl (G.2.1, 30, .inl w0.2.2.1)), (hw0_4, .inl (G.2.1, 30, .inl w0.2.2.2.1)), (hw0_5, .inl (G.2.1, 30, .inl w0.2.2.2.2.1)), (hw0_6, .inl (G.2.1, 64, .inl w0.2.2.2.2.2.1))] → va_S A s.heap H locs → ∀ (ls : Array Slot), lv_has ls 5 [(3, .int v3), (2, .int v2), (0, .ref hw0_0)] → W p l e (rm_X5_cyclicPart) s m args below meth c H locs 0 0 Q (F0 m 4 ls []) := by
    intro k4
    induction k4 with
    | zero =>
      intro v3 v2 hf
      rw [f_X5_cyclicPart_L4.eq_1] at hf; cases hf
    | succ k4 ih4 =>
      intro v3 v2 hf H locs hP hD hS ls hl
      rw [f_X5_cyclicPart_L4.eq_2] at hf
      refine lv_iload_n (pc := 4) hx hb dX5_cyclicPart_4 rfl (lv_at hl 0 rfl) ?_
      refine lv_bipush (pc := 5) (v := (30 : Int32)) hx hb dX5_cyclicPart_5 (by decide) ?_
      refine lv_icmp_ge (pc := 7) (tgt := 38) hx hb dX5_cyclicPart_7 (by decide) (fun hc => ?_) (fun hc => ?_)
      · have hf := br_y hc hf
        refine lv_iload_n (pc := 38) hx hb dX5_cyclicPart_38 rfl (lv_at hl 1 rfl) ?_
        have hf := Option.some.inj hf; subst hf
        rw [← hQ]
        exact g_iret hx hb hr hlocks hP hS dX5_cyclicPart_39
      · have hf := br_n hc hf
        refine lv_aload_n (pc := 10) hx hb dX5_cyclicPart_10 rfl (lv_at hl 2 rfl) ?_
        refine lv_iload_n (pc := 11) hx hb dX5_cyclicPart_11 rfl (lv_at hl 1 rfl) ?_
        obtain ⟨x1, hcx1, hf⟩ := bn_some hf
        refine g_callV0 (pc := 12) (rest := []) hx hb hml hown hts hK (c_X2_firstFree l G hw0_0 hw0_1 hw0_2 hw0_3 hw0_4 hw0_5 hw0_6 w0 v2 hcx1) wd_384 wd_5 wd_381 wd_382 wd_383 hd_X2_firstFree ⟨rfl, rfl, Nat.le_of_ble_eq_true rfl, Nat.le_of_ble_eq_true rfl⟩ hP hD hS hA [0, 1, 2, 3, 4, 5, 6] rfl rfl 2 0 rfl rfl rfl rfl hl.1 rfl (Nat.le_of_ble_eq_true rfl) dX5_cyclicPart_12 ⟨Nat.zero_le _, Nat.zero_le _⟩ (fun H locs hP hS => ?_)
        refine lv_istore (pc := 15) (lv' := [(4, .int x1), (3, .int v3), (2, .int v2), (0, .ref hw0_0)]) hx hb dX5_cyclicPart_15 hl (by decide) rfl (fun ls hl => ?_)
        refine lv_iload (pc := 17) hx hb dX5_cyclicPart_17 (lv_at hl 0 rfl) ?_
        refine lv_iconst (pc := 19) (v := (-1 : Int32)) hx hb dX5_cyclicPart_19 (by decide) ?_
        refine lv_icmp_ne (pc := 20) (tgt := 25) hx hb dX5_cyclicPart_20 (by decide) (fun hc => ?_) (fun hc => ?_)
        · have hf := br_n hc hf
          refine lv_iload_n (pc := 25) hx hb dX5_cyclicPart_25 rfl (lv_at hl 2 rfl) ?_
          refine lv_iload (pc := 26) hx hb dX5_cyclicPart_26 (lv_at hl 0 rfl) ?_
          obtain ⟨x2, hcx2, hf⟩ := bn_some hf
          refine g_callSN0 (pc := 28) (rest := []) hx hb hml hown hts hK (c_X10_without l G  v2 x1 hcx2) wd_391 wd_1 (nmw_389 hK) wd_390 hd_X10_without ⟨rfl, rfl, Nat.le_of_ble_eq_true rfl, Nat.le_of_ble_eq_true rfl⟩ hP hD hS hA [] rfl rfl rfl hl.1 rfl (Nat.le_of_ble_eq_true rfl) dX5_cyclicPart_28 ⟨Nat.zero_le _, Nat.zero_le _⟩ (fun H locs hP hS => ?_)
          refine lv_istore_n (pc := 31) (lv' := [(2, .int x2), (4, .int x1), (3, .int v3), (0, .ref hw0_0)]) hx hb dX5_cyclicPart_31 rfl hl (by decide) rfl (fun ls hl => ?_)
          refine lv_iinc (pc := 32) (v := (v3 + (1 : Int32))) (lv' := [(3, .int (v3 + (1 : Int32))), (2, .int x2), (4, .int x1), (0, .ref hw0_0)]) hx hb dX5_cyclicPart_32 hl (k := 2) rfl rfl (by decide) rfl (fun ls hl => ?_)
          refine lv_goto (pc := 35) (tgt := 4) hx hb dX5_cyclicPart_35 (by decide) ?_
          exact ih4 (v3 + (1 : Int32)) x2 hf H locs hP hD hS ls (lv_sub hl [0, 1, 3] rfl)
        · have hf := br_y hc hf
          refine lv_iload_n (pc := 23) hx hb dX5_cyclicPart_23 rfl (lv_at hl 2 rfl) ?_
          have hf := Option.some.inj hf; subst hf
          rw [← hQ]
          exact g_iret hx hb hr hlocks hP hS dX5_cyclicPart_24
  refine lv_iload_n (pc := 0) hx hb dX5_cyclicPart_0 rfl (lv_at hl 1 rfl) ?_
  refine lv_istore_n (pc := 1) (lv' := [(2, .int p1), (0, .ref hw0_0), (1, .int p1)]) hx hb dX5_cyclicPart_1 rfl hl (by decide) rfl (fun ls hl => ?_)
  refine lv_iconst (pc := 2) (v := (0 : Int32)) hx hb dX5_cyclicPart_2 (by decide) ?_
  refine lv_istore_n (pc := 3) (lv' := [(3, .int (0 : Int32)), (2, .int p1), (0, .ref hw0_0), (1, .int p1)]) hx hb dX5_cyclicPart_3 rfl hl (by decide) rfl (fun ls hl => ?_)
  exact hL4 FUEL (0 : Int32) p1 hf H locs hP hD hS ls (lv_sub hl [0, 1, 2] rfl)
theorem hd_X5_nextOf : yX5_nextOf.cls ≠ "java/lang/invoke/MethodHandle" ∧ yX5_nextOf.cls ≠ "java/lang/invoke/VarHandle" ∧ (parseMethodDescriptor yX5_nextOf.desc).map (fun d => d.parameters.length) = some 2 := by decide +kernel
abbrev rm_X5_nextOf : Room := { frames := 1, cells := 0, slots := 0, locals := 21 }
noncomputable def f_X5_nextOf_L2 (p0 : Int32) (p1 : Int32)  : Nat → Int32 → Option Int32
  | 0, _ => none
  | k2 + 1, v2 =>
    br ((30 : Int32) ≤ v2) (some (30 : Int32)) ((f_X10_isIn p0 v2).bind (fun x1 => br (x1 = 0) (f_X5_nextOf_L2 p0 p1  k2 (v2 + (1 : Int32))) (some v2)))
noncomputable def f_X5_nextOf (p0 : Int32) (p1 : Int32) : Option Int32 :=
  f_X5_nextOf_L2 p0 p1 FUEL p1
set_option maxHeartbeats 4000000 in
set_option maxRecDepth 100000 in
theorem c_X5_nextOf (l : Launch) (G : GT)  (p0 : Int32) (p1 : Int32) {r : Int32} (hf : f_X5_nextOf p0 p1 = some r) : Ct l yX5_nextOf (Cond.code yX5_nextOf cX5_nextOf 3 (some .int) :: lw_g) rm_X5_nextOf G [.int p0, .int p1] [] (some (.int r)) [] := by
  refine Ct.ofW (cc := cX5_nextOf) (maxL := 3) (ret := (some .int)) (own := RX5) (by decide) rfl rfl (Nat.le_of_ble_eq_true rfl) ?_
  intro p e s m args below meth c A hx hb hr hml hts hown hlocks hK hP hD hA hS ls hl
  have hl : lv_has ls 3 [(0, .int p0), (1, .int p1)] := hl
  generalize hQ : gMQ below G _ _ A args s = Q
  generalize hH : s.heap = H at hP ⊢
  have hS : va_S A s.heap H [] := by rw [← hH]; exact hS
  generalize ([] : List Loc) = locs at hS ⊢
  unfold f_X5_nextOf at hf
  have hL2 : ∀ (k2 : Nat) (v2 : Int32), f_X5_nextOf_L2 p0 p1  k2 v2 = some r → ∀ (H : Heap) (locs : List Loc), va_P G.1 vwCl [] H → va_D A [] → va_S A s.heap H locs → ∀ (ls : Array Slot), lv_has ls 3 [(2, .int v2), (0, .int p0)] → W p l e (rm_X5_nextOf) s m args below meth c H locs 0 0 Q (F0 m 2 ls []) := by
    intro k2
    induction k2 with
    | zero =>
      intro v2 hf
      rw [f_X5_nextOf_L2.eq_1] at hf; cases hf
    | succ k2 ih2 =>
      intro v2 hf H locs hP hD hS ls hl
      rw [f_X5_nextOf_L2.eq_2] at hf
      refine lv_iload_n (pc := 2) hx hb dX5_nextOf_2 rfl (lv_at hl 0 rfl) ?_
      refine lv_bipush (pc := 3) (v := (30 : Int32)) hx hb dX5_nextOf_3 (by decide) ?_
      refine lv_icmp_ge (pc := 5) (tgt := 24) hx hb dX5_nextOf_5 (by decide) (fun hc => ?_) (fun hc => ?_)
      · have hf := br_y hc hf
        refine lv_bipush (pc := 24) (v := (30 : Int32)) hx hb dX5_nextOf_24 (by decide) ?_
        have hf := Option.some.inj hf; subst hf
        rw [← hQ]
        exact g_iret hx hb hr hlocks hP hS dX5_nextOf_26
      · have hf := br_n hc hf
        refine lv_iload_n (pc := 8) hx hb dX5_nextOf_8 rfl (lv_at hl 1 rfl) ?_
        refine lv_iload_n (pc := 9) hx hb dX5_nextOf_9 rfl (lv_at hl 0 rfl) ?_
        obtain ⟨x1, hcx1, hf⟩ := bn_some hf
        refine g_callSN0 (pc := 10) (rest := []) hx hb hml hown hts hK (c_X10_isIn l G  p0 v2 hcx1) wd_333 wd_1 (nmw_392 hK) wd_332 hd_X10_isIn ⟨rfl, rfl, Nat.le_of_ble_eq_true rfl, Nat.le_of_ble_eq_true rfl⟩ hP hD hS hA [] rfl rfl rfl hl.1 rfl (Nat.le_of_ble_eq_true rfl) dX5_nextOf_10 ⟨Nat.zero_le _, Nat.zero_le _⟩ (fun H locs hP hS => ?_)
        refine lv_if_eq (pc := 13) (tgt := 18) hx hb dX5_nextOf_13 (by decide) (fun hc => ?_) (fun hc => ?_)
        · have hf := br_y hc hf
          refine lv_iinc (pc := 18) (v := (v2 + (1 : Int32))) (lv' := [(2, .int (v2 + (1 : Int32))), (0, .int p0)]) hx hb dX5_nextOf_18 hl (k := 0) rfl rfl (by decide) rfl (fun ls hl => ?_)
          refine lv_goto (pc := 21) (tgt := 2) hx hb dX5_nextOf_21 (by decide) ?_
          exact ih2 (v2 + (1 : Int32)) hf H locs hP hD hS ls (lv_sub hl [0, 1] rfl)
        · have hf := br_n hc hf
          refine lv_iload_n (pc := 16) hx hb dX5_nextOf_16 rfl (lv_at hl 0 rfl) ?_
          have hf := Option.some.inj hf; subst hf
          rw [← hQ]
          exact g_iret hx hb hr hlocks hP hS dX5_nextOf_17
  refine lv_iload_n (pc := 0) hx hb dX5_nextOf_0 rfl (lv_at hl 1 rfl) ?_
  refine lv_istore_n (pc := 1) (lv' := [(2, .int p1), (0, .int p0), (1, .int p1)]) hx hb dX5_nextOf_1 rfl hl (by decide) rfl (fun ls hl => ?_)
  exact hL2 FUEL p1 hf H locs hP hD hS ls (lv_sub hl [0, 1] rfl)
theorem hd_X5_search : yX5_search.cls ≠ "java/lang/invoke/MethodHandle" ∧ yX5_search.cls ≠ "java/lang/invoke/VarHandle" ∧ (parseMethodDescriptor yX5_search.desc).map (fun d => d.parameters.length) = some 6 := by decide +kernel
abbrev rm_X5_search (k : Nat) : Room := { frames := 4 + k, cells := 0, slots := 0, locals := 88 + 28 * k }
noncomputable def f_X5_search : Nat → TDelta → Int32 → Int32 → Int32 → Int32 → Int32 → Option Int32
  | 0, _, _, _, _, _, _ => none
  | k + 1, w0, p1, p2, p3, p4, p5 =>
    br (p4 < p5) (br (p1 < (30 : Int32)) ((f_X5_nextOf p2 (p1 + (1 : Int32))).bind (fun x1 => (f_X5_cyclicPart w0 (p3 ||| ((1 : Int32) <<< (p1 &&& 31)))).bind (fun x2 => br (x2 = 0) ((f_X5_search k w0 x1 p2 (p3 ||| ((1 : Int32) <<< (p1 &&& 31))) p4 p5).bind (fun x5 => (f_X2_lengthOf w0 p1).bind (fun x6 => (f_X5_search k w0 x1 p2 p3 (p4 + x6) x5).bind (fun x7 => some x7)))) ((f_X2_lengthOf w0 p1).bind (fun x3 => (f_X5_search k w0 x1 p2 p3 (p4 + x3) p5).bind (fun x4 => some x4)))))) (some p4)) (some p5)
set_option maxHeartbeats 4000000 in
set_option maxRecDepth 100000 in
theorem c_X5_search (l : Launch) (G : GT) (hw0_0 hw0_1 hw0_2 hw0_3 hw0_4 hw0_5 hw0_6 : Nat) : ∀ (k : Nat) (w0 : TDelta) (p1 : Int32) (p2 : Int32) (p3 : Int32) (p4 : Int32) (p5 : Int32) {r : Int32} (hf : f_X5_search k w0 p1 p2 p3 p4 p5 = some r), Ct l yX5_search (Cond.code yX5_search cX5_search 9 (some .int) :: lw_g) (rm_X5_search k) G [.ref hw0_0, .int p1, .int p2, .int p3, .int p4, .int p5] [(hw0_0, .inr (2, [.ref hw0_1, .ref hw0_2, .ref hw0_3, .ref hw0_4, .ref hw0_5, .ref hw0_6, .int w0.2.2.2.2.2.2.1, .int w0.2.2.2.2.2.2.2.1, .int w0.2.2.2.2.2.2.2.2.1, .int w0.2.2.2.2.2.2.2.2.2.1, .int w0.2.2.2.2.2.2.2.2.2.2])), (hw0_1, .inl (G.2.1, 30, .inl w0.1)), (hw0_2, .inl (G.2.1, 30, .inl w0.2.1)), (hw0_3, .inl (G.2.1, 30, .inl w0.2.2.1)), (hw0_4, .inl (G.2.1, 30, .inl w0.2.2.2.1)), (hw0_5, .inl (G.2.1, 30, .inl w0.2.2.2.2.1)), (hw0_6, .inl (G.2.1, 64, .inl w0.2.2.2.2.2.1))] (some (.int r)) [(hw0_0, .inr (2, [.ref hw0_1, .ref hw0_2, .ref hw0_3, .ref hw0_4, .ref hw0_5, .ref hw0_6, .int w0.2.2.2.2.2.2.1, .int w0.2.2.2.2.2.2.2.1, .int w0.2.2.2.2.2.2.2.2.1, .int w0.2.2.2.2.2.2.2.2.2.1, .int w0.2.2.2.2.2.2.2.2.2.2])), (hw0_1, .inl (G.2.1, 30, .inl w0.1)), (hw0_2, .inl (G.2.1, 30, .inl w0.2.1)), (hw0_3, .inl (G.2.1, 30, .inl w0.2.2.1)), (hw0_4, .inl (G.2.1, 30, .inl w0.2.2.2.1)), (hw0_5, .inl (G.2.1, 30, .inl w0.2.2.2.2.1)), (hw0_6, .inl (G.2.1, 64, .inl w0.2.2.2.2.2.1))] := by
  intro k
  induction k with
  | zero =>
    intro w0 p1 p2 p3 p4 p5 r hf
    rw [f_X5_search.eq_1] at hf; cases hf
  | succ k ih =>
    intro w0 p1 p2 p3 p4 p5 r hf
    refine Ct.ofW (cc := cX5_search) (maxL := 9) (ret := (some .int)) (own := RX5) (by decide) rfl rfl (Nat.le_of_ble_eq_true rfl) ?_
    intro p e s m args below meth c A hx hb hr hml hts hown hlocks hK hP hD hA hS ls hl
    have hl : lv_has ls 9 [(0, .ref hw0_0), (1, .int p1), (2, .int p2), (3, .int p3), (4, .int p4), (5, .int p5)] := hl
    generalize hQ : gMQ below G _ _ A args s = Q
    generalize hH : s.heap = H at hP ⊢
    have hS : va_S A s.heap H [] := by rw [← hH]; exact hS
    generalize ([] : List Loc) = locs at hS ⊢
    rw [f_X5_search.eq_2] at hf
    refine lv_iload (pc := 0) hx hb dX5_search_0 (lv_at hl 4 rfl) ?_
    refine lv_iload (pc := 2) hx hb dX5_search_2 (lv_at hl 5 rfl) ?_
    refine lv_icmp_lt (pc := 4) (tgt := 10) hx hb dX5_search_4 (by decide) (fun hc => ?_) (fun hc => ?_)
    · have hf := br_y hc hf
      refine lv_iload_n (pc := 10) hx hb dX5_search_10 rfl (lv_at hl 1 rfl) ?_
      refine lv_bipush (pc := 11) (v := (30 : Int32)) hx hb dX5_search_11 (by decide) ?_
      refine lv_icmp_lt (pc := 13) (tgt := 19) hx hb dX5_search_13 (by decide) (fun hc => ?_) (fun hc => ?_)
      · have hf := br_y hc hf
        refine lv_iload_n (pc := 19) hx hb dX5_search_19 rfl (lv_at hl 2 rfl) ?_
        refine lv_iload_n (pc := 20) hx hb dX5_search_20 rfl (lv_at hl 1 rfl) ?_
        refine lv_iconst (pc := 21) (v := (1 : Int32)) hx hb dX5_search_21 (by decide) ?_
        refine lv_iadd (pc := 22) hx hb dX5_search_22 ?_
        obtain ⟨x1, hcx1, hf⟩ := bn_some hf
        refine g_callS0 (pc := 23) (rest := []) hx hb hml hown hts hK (c_X5_nextOf l G  p2 (p1 + (1 : Int32)) hcx1) wd_396 wd_20 wd_394 wd_395 hd_X5_nextOf ⟨rfl, rfl, by dsimp only [rm_X5_nextOf, rm_X5_search]; omega, by dsimp only [rm_X5_nextOf, rm_X5_search]; omega⟩ hP hD hS hA [] rfl rfl rfl hl.1 rfl (Nat.le_of_ble_eq_true rfl) dX5_search_23 ⟨Nat.zero_le _, Nat.zero_le _⟩ (fun H locs hP hS => ?_)
        refine lv_istore (pc := 26) (lv' := [(6, .int x1), (0, .ref hw0_0), (1, .int p1), (2, .int p2), (3, .int p3), (4, .int p4), (5, .int p5)]) hx hb dX5_search_26 hl (by decide) rfl (fun ls hl => ?_)
        refine lv_iload (pc := 28) hx hb dX5_search_28 (lv_at hl 6 rfl) ?_
        refine lv_istore (pc := 30) (lv' := [(7, .int p5), (6, .int x1), (0, .ref hw0_0), (1, .int p1), (2, .int p2), (3, .int p3), (4, .int p4), (5, .int p5)]) hx hb dX5_search_30 hl (by decide) rfl (fun ls hl => ?_)
        refine lv_iload_n (pc := 32) hx hb dX5_search_32 rfl (lv_at hl 5 rfl) ?_
        refine lv_iconst (pc := 33) (v := (1 : Int32)) hx hb dX5_search_33 (by decide) ?_
        refine lv_iload_n (pc := 34) hx hb dX5_search_34 rfl (lv_at hl 3 rfl) ?_
        refine lv_ishl (pc := 35) hx hb dX5_search_35 ?_
        refine lv_ior (pc := 36) hx hb dX5_search_36 ?_
        refine lv_istore (pc := 37) (lv' := [(8, .int (p3 ||| ((1 : Int32) <<< (p1 &&& 31)))), (7, .int p5), (6, .int x1), (0, .ref hw0_0), (1, .int p1), (2, .int p2), (3, .int p3), (4, .int p4), (5, .int p5)]) hx hb dX5_search_37 hl (by decide) rfl (fun ls hl => ?_)
        refine lv_aload_n (pc := 39) hx hb dX5_search_39 rfl (lv_at hl 3 rfl) ?_
        refine lv_iload (pc := 40) hx hb dX5_search_40 (lv_at hl 0 rfl) ?_
        obtain ⟨x2, hcx2, hf⟩ := bn_some hf
        refine g_callS0 (pc := 42) (rest := []) hx hb hml hown hts hK (c_X5_cyclicPart l G hw0_0 hw0_1 hw0_2 hw0_3 hw0_4 hw0_5 hw0_6 w0 (p3 ||| ((1 : Int32) <<< (p1 &&& 31))) hcx2) wd_380 wd_20 wd_378 wd_379 hd_X5_cyclicPart ⟨rfl, rfl, by dsimp only [rm_X5_cyclicPart, rm_X5_search]; omega, by dsimp only [rm_X5_cyclicPart, rm_X5_search]; omega⟩ hP hD hS hA [0, 1, 2, 3, 4, 5, 6] rfl rfl rfl hl.1 rfl (Nat.le_of_ble_eq_true rfl) dX5_search_42 ⟨Nat.zero_le _, Nat.zero_le _⟩ (fun H locs hP hS => ?_)
        refine lv_if_ne (pc := 45) (tgt := 63) hx hb dX5_search_45 (by decide) (fun hc => ?_) (fun hc => ?_)
        · have hf := br_n hc hf
          refine lv_aload_n (pc := 63) hx hb dX5_search_63 rfl (lv_at hl 3 rfl) ?_
          refine lv_iload (pc := 64) hx hb dX5_search_64 (lv_at hl 2 rfl) ?_
          refine lv_iload_n (pc := 66) hx hb dX5_search_66 rfl (lv_at hl 5 rfl) ?_
          refine lv_iload_n (pc := 67) hx hb dX5_search_67 rfl (lv_at hl 6 rfl) ?_
          refine lv_iload (pc := 68) hx hb dX5_search_68 (lv_at hl 7 rfl) ?_
          refine lv_aload_n (pc := 70) hx hb dX5_search_70 rfl (lv_at hl 3 rfl) ?_
          refine lv_iload_n (pc := 71) hx hb dX5_search_71 rfl (lv_at hl 4 rfl) ?_
          obtain ⟨x3, hcx3, hf⟩ := bn_some hf
          refine g_callV0 (pc := 72) (rest := [.int p4, .int p3, .int p2, .int x1, .ref hw0_0]) hx hb hml hown hts hK (c_X2_lengthOf l G hw0_0 hw0_1 hw0_2 hw0_3 hw0_4 hw0_5 hw0_6 w0 p1 hcx3) wd_349 wd_5 wd_393 wd_347 wd_348 hd_X2_lengthOf ⟨rfl, rfl, by dsimp only [rm_X2_lengthOf, rm_X5_search]; omega, by dsimp only [rm_X2_lengthOf, rm_X5_search]; omega⟩ hP hD hS hA [0, 1, 2, 3, 4, 5, 6] rfl rfl 2 0 rfl rfl rfl rfl hl.1 rfl (Nat.le_of_ble_eq_true rfl) dX5_search_72 ⟨Nat.zero_le _, Nat.zero_le _⟩ (fun H locs hP hS => ?_)
          refine lv_iadd (pc := 75) hx hb dX5_search_75 ?_
          refine lv_iload (pc := 76) hx hb dX5_search_76 (lv_at hl 1 rfl) ?_
          obtain ⟨x4, hcx4, hf⟩ := bn_some hf
          refine g_callS0 (pc := 78) (rest := []) hx hb hml hown hts hK (ih w0 x1 p2 p3 (p4 + x3) p5 hcx4) wd_399 wd_20 wd_397 wd_398 hd_X5_search ⟨rfl, rfl, by dsimp only [rm_X5_search, rm_X5_search]; omega, by dsimp only [rm_X5_search, rm_X5_search]; omega⟩ hP hD hS hA [0, 1, 2, 3, 4, 5, 6] rfl rfl rfl hl.1 rfl (Nat.le_of_ble_eq_true rfl) dX5_search_78 ⟨Nat.zero_le _, Nat.zero_le _⟩ (fun H locs hP hS => ?_)
          have hf := Option.some.inj hf; subst hf
          rw [← hQ]
          exact g_iret hx hb hr hlocks hP hS dX5_search_81
        · have hf := br_y hc hf
          refine lv_aload_n (pc := 48) hx hb dX5_search_48 rfl (lv_at hl 3 rfl) ?_
          refine lv_iload (pc := 49) hx hb dX5_search_49 (lv_at hl 2 rfl) ?_
          refine lv_iload_n (pc := 51) hx hb dX5_search_51 rfl (lv_at hl 5 rfl) ?_
          refine lv_iload (pc := 52) hx hb dX5_search_52 (lv_at hl 0 rfl) ?_
          refine lv_iload (pc := 54) hx hb dX5_search_54 (lv_at hl 7 rfl) ?_
          refine lv_iload (pc := 56) hx hb dX5_search_56 (lv_at hl 1 rfl) ?_
          obtain ⟨x5, hcx5, hf⟩ := bn_some hf
          refine g_callS0 (pc := 58) (rest := []) hx hb hml hown hts hK (ih w0 x1 p2 (p3 ||| ((1 : Int32) <<< (p1 &&& 31))) p4 p5 hcx5) wd_399 wd_20 wd_397 wd_398 hd_X5_search ⟨rfl, rfl, by dsimp only [rm_X5_search, rm_X5_search]; omega, by dsimp only [rm_X5_search, rm_X5_search]; omega⟩ hP hD hS hA [0, 1, 2, 3, 4, 5, 6] rfl rfl rfl hl.1 rfl (Nat.le_of_ble_eq_true rfl) dX5_search_58 ⟨Nat.zero_le _, Nat.zero_le _⟩ (fun H locs hP hS => ?_)
          refine lv_istore (pc := 61) (lv' := [(7, .int x5), (8, .int (p3 ||| ((1 : Int32) <<< (p1 &&& 31)))), (6, .int x1), (0, .ref hw0_0), (1, .int p1), (2, .int p2), (3, .int p3), (4, .int p4), (5, .int p5)]) hx hb dX5_search_61 hl (by decide) rfl (fun ls hl => ?_)
          refine lv_aload_n (pc := 63) hx hb dX5_search_63 rfl (lv_at hl 3 rfl) ?_
          refine lv_iload (pc := 64) hx hb dX5_search_64 (lv_at hl 2 rfl) ?_
          refine lv_iload_n (pc := 66) hx hb dX5_search_66 rfl (lv_at hl 5 rfl) ?_
          refine lv_iload_n (pc := 67) hx hb dX5_search_67 rfl (lv_at hl 6 rfl) ?_
          refine lv_iload (pc := 68) hx hb dX5_search_68 (lv_at hl 7 rfl) ?_
          refine lv_aload_n (pc := 70) hx hb dX5_search_70 rfl (lv_at hl 3 rfl) ?_
          refine lv_iload_n (pc := 71) hx hb dX5_search_71 rfl (lv_at hl 4 rfl) ?_
          obtain ⟨x6, hcx6, hf⟩ := bn_some hf
          refine g_callV0 (pc := 72) (rest := [.int p4, .int p3, .int p2, .int x1, .ref hw0_0]) hx hb hml hown hts hK (c_X2_lengthOf l G hw0_0 hw0_1 hw0_2 hw0_3 hw0_4 hw0_5 hw0_6 w0 p1 hcx6) wd_349 wd_5 wd_393 wd_347 wd_348 hd_X2_lengthOf ⟨rfl, rfl, by dsimp only [rm_X2_lengthOf, rm_X5_search]; omega, by dsimp only [rm_X2_lengthOf, rm_X5_search]; omega⟩ hP hD hS hA [0, 1, 2, 3, 4, 5, 6] rfl rfl 2 0 rfl rfl rfl rfl hl.1 rfl (Nat.le_of_ble_eq_true rfl) dX5_search_72 ⟨Nat.zero_le _, Nat.zero_le _⟩ (fun H locs hP hS => ?_)
          refine lv_iadd (pc := 75) hx hb dX5_search_75 ?_
          refine lv_iload (pc := 76) hx hb dX5_search_76 (lv_at hl 0 rfl) ?_
          obtain ⟨x7, hcx7, hf⟩ := bn_some hf
          refine g_callS0 (pc := 78) (rest := []) hx hb hml hown hts hK (ih w0 x1 p2 p3 (p4 + x6) x5 hcx7) wd_399 wd_20 wd_397 wd_398 hd_X5_search ⟨rfl, rfl, by dsimp only [rm_X5_search, rm_X5_search]; omega, by dsimp only [rm_X5_search, rm_X5_search]; omega⟩ hP hD hS hA [0, 1, 2, 3, 4, 5, 6] rfl rfl rfl hl.1 rfl (Nat.le_of_ble_eq_true rfl) dX5_search_78 ⟨Nat.zero_le _, Nat.zero_le _⟩ (fun H locs hP hS => ?_)
          have hf := Option.some.inj hf; subst hf
          rw [← hQ]
          exact g_iret hx hb hr hlocks hP hS dX5_search_81
      · have hf := br_n hc hf
        refine lv_iload (pc := 16) hx hb dX5_search_16 (lv_at hl 4 rfl) ?_
        have hf := Option.some.inj hf; subst hf
        rw [← hQ]
        exact g_iret hx hb hr hlocks hP hS dX5_search_18
    · have hf := br_n hc hf
      refine lv_iload (pc := 7) hx hb dX5_search_7 (lv_at hl 5 rfl) ?_
      have hf := Option.some.inj hf; subst hf
      rw [← hQ]
      exact g_iret hx hb hr hlocks hP hS dX5_search_9
theorem hd_X5_of : yX5_of.cls ≠ "java/lang/invoke/MethodHandle" ∧ yX5_of.cls ≠ "java/lang/invoke/VarHandle" ∧ (parseMethodDescriptor yX5_of.desc).map (fun d => d.parameters.length) = some 1 := by decide +kernel
abbrev rm_X5_of : Room := { frames := 45, cells := 0, slots := 0, locals := 1236 }
noncomputable def f_X5_of_J39 (w0 : TDelta) (rec13 : Int32 → Int32 → Int32 → Option Int32) (v3 : Int32) (v1 : Int32) (s0 : Int32) (s1 : Int32) : Option Int32 :=
  rec13 (v3 + (1 : Int32)) (s1 + s0) v1
noncomputable def f_X5_of_L13 (w0 : TDelta)  : Nat → Int32 → Int32 → Int32 → Option Int32
  | 0, _, _, _ => none
  | k13 + 1, v3, v2, v1 =>
    br (w0.2.2.2.2.2.2.2.2.1 ≤ v3) ((f_X5_nextOf v1 (0 : Int32)).bind (fun x2 => (f_X5_search DEPTH w0 x2 v1 (0 : Int32) (0 : Int32) v2).bind (fun x3 => some x3))) ((f_X10_isIn v1 v3).bind (fun x4 => br (x4 = 0) (f_X5_of_J39 w0 (f_X5_of_L13 w0  k13) v3 v1 (0 : Int32) v2) ((f_X2_lengthOf w0 v3).bind (fun x5 => f_X5_of_J39 w0 (f_X5_of_L13 w0  k13) v3 v1 x5 v2))))
noncomputable def f_X5_of (w0 : TDelta) : Option Int32 :=
  (f_X5_cyclicPart w0 w0.2.2.2.2.2.2.2.2.2.1).bind (fun x1 => f_X5_of_L13 w0 FUEL (0 : Int32) (0 : Int32) x1)
set_option maxHeartbeats 4000000 in
set_option maxRecDepth 100000 in
theorem c_X5_of (l : Launch) (G : GT) (hw0_0 hw0_1 hw0_2 hw0_3 hw0_4 hw0_5 hw0_6 : Nat) (w0 : TDelta) {r : Int32} (hf : f_X5_of w0 = some r) : Ct l yX5_of (Cond.code yX5_of cX5_of 4 (some .int) :: lw_g) rm_X5_of G [.ref hw0_0] [(hw0_0, .inr (2, [.ref hw0_1, .ref hw0_2, .ref hw0_3, .ref hw0_4, .ref hw0_5, .ref hw0_6, .int w0.2.2.2.2.2.2.1, .int w0.2.2.2.2.2.2.2.1, .int w0.2.2.2.2.2.2.2.2.1, .int w0.2.2.2.2.2.2.2.2.2.1, .int w0.2.2.2.2.2.2.2.2.2.2])), (hw0_1, .inl (G.2.1, 30, .inl w0.1)), (hw0_2, .inl (G.2.1, 30, .inl w0.2.1)), (hw0_3, .inl (G.2.1, 30, .inl w0.2.2.1)), (hw0_4, .inl (G.2.1, 30, .inl w0.2.2.2.1)), (hw0_5, .inl (G.2.1, 30, .inl w0.2.2.2.2.1)), (hw0_6, .inl (G.2.1, 64, .inl w0.2.2.2.2.2.1))] (some (.int r)) [(hw0_0, .inr (2, [.ref hw0_1, .ref hw0_2, .ref hw0_3, .ref hw0_4, .ref hw0_5, .ref hw0_6, .int w0.2.2.2.2.2.2.1, .int w0.2.2.2.2.2.2.2.1, .int w0.2.2.2.2.2.2.2.2.1, .int w0.2.2.2.2.2.2.2.2.2.1, .int w0.2.2.2.2.2.2.2.2.2.2])), (hw0_1, .inl (G.2.1, 30, .inl w0.1)), (hw0_2, .inl (G.2.1, 30, .inl w0.2.1)), (hw0_3, .inl (G.2.1, 30, .inl w0.2.2.1)), (hw0_4, .inl (G.2.1, 30, .inl w0.2.2.2.1)), (hw0_5, .inl (G.2.1, 30, .inl w0.2.2.2.2.1)), (hw0_6, .inl (G.2.1, 64, .inl w0.2.2.2.2.2.1))] := by
  refine Ct.ofW (cc := cX5_of) (maxL := 4) (ret := (some .int)) (own := RX5) (by decide) rfl rfl (Nat.le_of_ble_eq_true rfl) ?_
  intro p e s m args below meth c A hx hb hr hml hts hown hlocks hK hP hD hA hS ls hl
  have hl : lv_has ls 4 [(0, .ref hw0_0)] := hl
  generalize hQ : gMQ below G _ _ A args s = Q
  generalize hH : s.heap = H at hP ⊢
  have hS : va_S A s.heap H [] := by rw [← hH]; exact hS
  generalize ([] : List Loc) = locs at hS ⊢
  unfold f_X5_of at hf
  have hL13 : ∀ (k13 : Nat) (v3 : Int32) (v2 : Int32) (v1 : Int32), f_X5_of_L13 w0  k13 v3 v2 v1 = some r → ∀ (H : Heap) (locs : List Loc), va_P G.1 vwCl [(hw0_0, .inr (2, [.ref hw0_1, .ref hw0_2, .ref hw0_3, .ref hw0_4, .ref hw0_5, .ref hw0_6, .int w0.2.2.2.2.2.2.1, .int w0.2.2.2.2.2.2.2.1, .int w0.2.2.2.2.2.2.2.2.1, .int w0.2.2.2.2.2.2.2.2.2.1, .int w0.2.2.2.2.2.2.2.2.2.2])), (hw0_1, .inl (G.2.1, 30, .inl w0.1)), (hw0_2, .inl (G.2.1, 30, .inl w0.2.1)), (hw0_3, .inl (G.2.1, 30, .inl w0.2.2.1)), (hw0_4, .inl (G.2.1, 30, .inl w0.2.2.2.1)), (hw0_5, .inl (G.2.1, 30, .inl w0.2.2.2.2.1)), (hw0_6, .inl (G.2.1, 64, .inl w0.2.2.2.2.2.1))] H → va_D A [(hw0_0, .inr (2, [.ref hw0_1, .ref hw0_2, .ref hw0_3, .ref hw0_4, .ref hw0_5, .ref hw0_6, .int w0.2.2.2.2.2.2.1, .int w0.2.2.2.2.2.2.2.1, .int w0.2.2.2.2.2.2.2.2.1, .int w0.2.2.2.2.2.2.2.2.2.1, .int w0.2.2.2.2.2.2.2.2.2.2])), (hw0_1, .inl (G.2.1, 30, .inl w0.1)), (hw0_2, .inl (G.2.1, 30, .inl w0.2.1)), (hw0_3, .inl (G.2.1, 30, .inl w0.2.2.1)), (hw0_4, .inl (G.2.1, 30, .inl w0.2.2.2.1)), (hw0_5, .inl (G.2.1, 30, .inl w0.2.2.2.2.1)), (hw0_6, .inl (G.2.1, 64, .inl w0.2.2.2.2.2.1))] → va_S A s.heap H locs → ∀ (ls : Array Slot), lv_has ls 4 [(3, .int v3), (2, .int v2), (1, .int v1), (0, .ref hw0_0)] → W p l e (rm_X5_of) s m args below meth c H locs 0 0 Q (F0 m 13 ls []) := by
    intro k13
    induction k13 with
    | zero =>
      intro v3 v2 v1 hf
      rw [f_X5_of_L13.eq_1] at hf; cases hf
    | succ k13 ih13 =>
      have hJ39 : ∀ (v3 : Int32) (v1 : Int32) (s0 : Int32) (s1 : Int32), f_X5_of_J39 w0 (f_X5_of_L13 w0 k13) v3 v1 s0 s1 = some r → ∀ (H : Heap) (locs : List Loc), va_P G.1 vwCl [(hw0_0, .inr (2, [.ref hw0_1, .ref hw0_2, .ref hw0_3, .ref hw0_4, .ref hw0_5, .ref hw0_6, .int w0.2.2.2.2.2.2.1, .int w0.2.2.2.2.2.2.2.1, .int w0.2.2.2.2.2.2.2.2.1, .int w0.2.2.2.2.2.2.2.2.2.1, .int w0.2.2.2.2.2.2.2.2.2.2])), (hw0_1, .inl (G.2.1, 30, .inl w0.1)), (hw0_2, .inl (G.2.1, 30, .inl w0.2.1)), (hw0_3, .inl (G.2.1, 30, .inl w0.2.2.1)), (hw0_4, .inl (G.2.1, 30, .inl w0.2.2.2.1)), (hw0_5, .inl (G.2.1, 30, .inl w0.2.2.2.2.1)), (hw0_6, .inl (G.2.1, 64, .inl w0.2.2.2.2.2.1))] H → va_D A [(hw0_0, .inr (2, [.ref hw0_1, .ref hw0_2, .ref hw0_3, .ref hw0_4, .ref hw0_5, .ref hw0_6, .int w0.2.2.2.2.2.2.1, .int w0.2.2.2.2.2.2.2.1, .int w0.2.2.2.2.2.2.2.2.1, .int w0.2.2.2.2.2.2.2.2.2.1, .int w0.2.2.2.2.2.2.2.2.2.2])), (hw0_1, .inl (G.2.1, 30, .inl w0.1)), (hw0_2, .inl (G.2.1, 30, .inl w0.2.1)), (hw0_3, .inl (G.2.1, 30, .inl w0.2.2.1)), (hw0_4, .inl (G.2.1, 30, .inl w0.2.2.2.1)), (hw0_5, .inl (G.2.1, 30, .inl w0.2.2.2.2.1)), (hw0_6, .inl (G.2.1, 64, .inl w0.2.2.2.2.2.1))] → va_S A s.heap H locs → ∀ (ls : Array Slot), lv_has ls 4 [(3, .int v3), (1, .int v1), (0, .ref hw0_0)] → W p l e (rm_X5_of) s m args below meth c H locs 0 0 Q (F0 m 39 ls [.int s0, .int s1]) := by
        intro v3 v1 s0 s1 hf H locs hP hD hS ls hl
        unfold f_X5_of_J39 at hf
        refine lv_iadd (pc := 39) hx hb dX5_of_39 ?_
        refine lv_istore_n (pc := 40) (lv' := [(2, .int (s1 + s0)), (3, .int v3), (1, .int v1), (0, .ref hw0_0)]) hx hb dX5_of_40 rfl hl (by decide) rfl (fun ls hl => ?_)
        refine lv_iinc (pc := 41) (v := (v3 + (1 : Int32))) (lv' := [(3, .int (v3 + (1 : Int32))), (2, .int (s1 + s0)), (1, .int v1), (0, .ref hw0_0)]) hx hb dX5_of_41 hl (k := 1) rfl rfl (by decide) rfl (fun ls hl => ?_)
        refine lv_goto (pc := 44) (tgt := 13) hx hb dX5_of_44 (by decide) ?_
        exact ih13 (v3 + (1 : Int32)) (s1 + s0) v1 hf H locs hP hD hS ls (lv_sub hl [0, 1, 2, 3] rfl)
      intro v3 v2 v1 hf H locs hP hD hS ls hl
      rw [f_X5_of_L13.eq_2] at hf
      refine lv_iload_n (pc := 13) hx hb dX5_of_13 rfl (lv_at hl 0 rfl) ?_
      refine lv_aload_n (pc := 14) hx hb dX5_of_14 rfl (lv_at hl 3 rfl) ?_
      refine va_getN (pc := 15) (D := G.1) (ci := 2) (v := .int w0.2.2.2.2.2.2.2.2.1) (C := RX2) (T := TX2) (N := 11) hx hb hts inX2 hown hK.1 hP 0 rfl rfl 8 (by decide) (nfw_79 hK) (fun _ h9 => h9) rfl dX5_of_15 ?_
      refine lv_icmp_ge (pc := 18) (tgt := 47) hx hb dX5_of_18 (by decide) (fun hc => ?_) (fun hc => ?_)
      · have hf := br_y hc hf
        refine lv_aload_n (pc := 47) hx hb dX5_of_47 rfl (lv_at hl 3 rfl) ?_
        refine lv_iload_n (pc := 48) hx hb dX5_of_48 rfl (lv_at hl 2 rfl) ?_
        refine lv_iconst (pc := 49) (v := (0 : Int32)) hx hb dX5_of_49 (by decide) ?_
        obtain ⟨x2, hcx2, hf⟩ := bn_some hf
        refine g_callS0 (pc := 50) (rest := [.ref hw0_0]) hx hb hml hown hts hK (c_X5_nextOf l G  v1 (0 : Int32) hcx2) wd_396 wd_20 wd_394 wd_395 hd_X5_nextOf ⟨rfl, rfl, Nat.le_of_ble_eq_true rfl, Nat.le_of_ble_eq_true rfl⟩ hP hD hS hA [] rfl rfl rfl hl.1 rfl (Nat.le_of_ble_eq_true rfl) dX5_of_50 ⟨Nat.zero_le _, Nat.zero_le _⟩ (fun H locs hP hS => ?_)
        refine lv_iload_n (pc := 53) hx hb dX5_of_53 rfl (lv_at hl 2 rfl) ?_
        refine lv_iconst (pc := 54) (v := (0 : Int32)) hx hb dX5_of_54 (by decide) ?_
        refine lv_iconst (pc := 55) (v := (0 : Int32)) hx hb dX5_of_55 (by decide) ?_
        refine lv_iload_n (pc := 56) hx hb dX5_of_56 rfl (lv_at hl 1 rfl) ?_
        obtain ⟨x3, hcx3, hf⟩ := bn_some hf
        refine g_callS0 (pc := 57) (rest := []) hx hb hml hown hts hK (c_X5_search l G hw0_0 hw0_1 hw0_2 hw0_3 hw0_4 hw0_5 hw0_6 DEPTH w0 x2 v1 (0 : Int32) (0 : Int32) v2 hcx3) wd_399 wd_20 wd_397 wd_398 hd_X5_search ⟨rfl, rfl, Nat.le_of_ble_eq_true rfl, Nat.le_of_ble_eq_true rfl⟩ hP hD hS hA [0, 1, 2, 3, 4, 5, 6] rfl rfl rfl hl.1 rfl (Nat.le_of_ble_eq_true rfl) dX5_of_57 ⟨Nat.zero_le _, Nat.zero_le _⟩ (fun H locs hP hS => ?_)
        have hf := Option.some.inj hf; subst hf
        rw [← hQ]
        exact g_iret hx hb hr hlocks hP hS dX5_of_60
      · have hf := br_n hc hf
        refine lv_iload_n (pc := 21) hx hb dX5_of_21 rfl (lv_at hl 1 rfl) ?_
        refine lv_iload_n (pc := 22) hx hb dX5_of_22 rfl (lv_at hl 2 rfl) ?_
        refine lv_iload_n (pc := 23) hx hb dX5_of_23 rfl (lv_at hl 0 rfl) ?_
        obtain ⟨x4, hcx4, hf⟩ := bn_some hf
        refine g_callSN0 (pc := 24) (rest := [.int v2]) hx hb hml hown hts hK (c_X10_isIn l G  v1 v3 hcx4) wd_333 wd_1 (nmw_392 hK) wd_332 hd_X10_isIn ⟨rfl, rfl, Nat.le_of_ble_eq_true rfl, Nat.le_of_ble_eq_true rfl⟩ hP hD hS hA [] rfl rfl rfl hl.1 rfl (Nat.le_of_ble_eq_true rfl) dX5_of_24 ⟨Nat.zero_le _, Nat.zero_le _⟩ (fun H locs hP hS => ?_)
        refine lv_if_eq (pc := 27) (tgt := 38) hx hb dX5_of_27 (by decide) (fun hc => ?_) (fun hc => ?_)
        · have hf := br_y hc hf
          refine lv_iconst (pc := 38) (v := (0 : Int32)) hx hb dX5_of_38 (by decide) ?_
          exact hJ39 v3 v1 (0 : Int32) v2 hf H locs hP hD hS ls (lv_sub hl [0, 2, 3] rfl)
        · have hf := br_n hc hf
          refine lv_aload_n (pc := 30) hx hb dX5_of_30 rfl (lv_at hl 3 rfl) ?_
          refine lv_iload_n (pc := 31) hx hb dX5_of_31 rfl (lv_at hl 0 rfl) ?_
          obtain ⟨x5, hcx5, hf⟩ := bn_some hf
          refine g_callV0 (pc := 32) (rest := [.int v2]) hx hb hml hown hts hK (c_X2_lengthOf l G hw0_0 hw0_1 hw0_2 hw0_3 hw0_4 hw0_5 hw0_6 w0 v3 hcx5) wd_349 wd_5 wd_393 wd_347 wd_348 hd_X2_lengthOf ⟨rfl, rfl, Nat.le_of_ble_eq_true rfl, Nat.le_of_ble_eq_true rfl⟩ hP hD hS hA [0, 1, 2, 3, 4, 5, 6] rfl rfl 2 0 rfl rfl rfl rfl hl.1 rfl (Nat.le_of_ble_eq_true rfl) dX5_of_32 ⟨Nat.zero_le _, Nat.zero_le _⟩ (fun H locs hP hS => ?_)
          refine lv_goto (pc := 35) (tgt := 39) hx hb dX5_of_35 (by decide) ?_
          exact hJ39 v3 v1 x5 v2 hf H locs hP hD hS ls (lv_sub hl [0, 2, 3] rfl)
  refine lv_aload_n (pc := 0) hx hb dX5_of_0 rfl (lv_at hl 0 rfl) ?_
  refine lv_aload_n (pc := 1) hx hb dX5_of_1 rfl (lv_at hl 0 rfl) ?_
  refine va_getN (pc := 2) (D := G.1) (ci := 2) (v := .int w0.2.2.2.2.2.2.2.2.2.1) (C := RX2) (T := TX2) (N := 11) hx hb hts inX2 hown hK.1 hP 0 rfl rfl 9 (by decide) (nfw_82 hK) (fun _ h9 => h9) rfl dX5_of_2 ?_
  obtain ⟨x1, hcx1, hf⟩ := bn_some hf
  refine g_callS0 (pc := 5) (rest := []) hx hb hml hown hts hK (c_X5_cyclicPart l G hw0_0 hw0_1 hw0_2 hw0_3 hw0_4 hw0_5 hw0_6 w0 w0.2.2.2.2.2.2.2.2.2.1 hcx1) wd_380 wd_20 wd_378 wd_379 hd_X5_cyclicPart ⟨rfl, rfl, Nat.le_of_ble_eq_true rfl, Nat.le_of_ble_eq_true rfl⟩ hP hD hS hA [0, 1, 2, 3, 4, 5, 6] rfl rfl rfl hl.1 rfl (Nat.le_of_ble_eq_true rfl) dX5_of_5 ⟨Nat.zero_le _, Nat.zero_le _⟩ (fun H locs hP hS => ?_)
  refine lv_istore_n (pc := 8) (lv' := [(1, .int x1), (0, .ref hw0_0)]) hx hb dX5_of_8 rfl hl (by decide) rfl (fun ls hl => ?_)
  refine lv_iconst (pc := 9) (v := (0 : Int32)) hx hb dX5_of_9 (by decide) ?_
  refine lv_istore_n (pc := 10) (lv' := [(2, .int (0 : Int32)), (1, .int x1), (0, .ref hw0_0)]) hx hb dX5_of_10 rfl hl (by decide) rfl (fun ls hl => ?_)
  refine lv_iconst (pc := 11) (v := (0 : Int32)) hx hb dX5_of_11 (by decide) ?_
  refine lv_istore_n (pc := 12) (lv' := [(3, .int (0 : Int32)), (2, .int (0 : Int32)), (1, .int x1), (0, .ref hw0_0)]) hx hb dX5_of_12 rfl hl (by decide) rfl (fun ls hl => ?_)
  exact hL13 FUEL (0 : Int32) (0 : Int32) x1 hf H locs hP hD hS ls (lv_sub hl [0, 1, 2, 3] rfl)
theorem hd_X2_least : yX2_least.cls ≠ "java/lang/invoke/MethodHandle" ∧ yX2_least.cls ≠ "java/lang/invoke/VarHandle" ∧ (parseMethodDescriptor yX2_least.desc).map (fun d => d.parameters.length) = some 0 := by decide +kernel
abbrev rm_X2_least : Room := { frames := 46, cells := 0, slots := 0, locals := 1259 }
noncomputable def f_X2_least (w0 : TDelta) : Option (Int32 × TDelta) :=
  br (w0.2.2.2.2.2.2.2.2.2.2 = (-1 : Int32)) ((f_X5_of w0).bind (fun x1 => some (x1, (w0.1, w0.2.1, w0.2.2.1, w0.2.2.2.1, w0.2.2.2.2.1, w0.2.2.2.2.2.1, w0.2.2.2.2.2.2.1, w0.2.2.2.2.2.2.2.1, w0.2.2.2.2.2.2.2.2.1, w0.2.2.2.2.2.2.2.2.2.1, x1)))) (some (w0.2.2.2.2.2.2.2.2.2.2, w0))
set_option maxHeartbeats 4000000 in
set_option maxRecDepth 100000 in
theorem c_X2_least (l : Launch) (G : GT) (hw0_0 hw0_1 hw0_2 hw0_3 hw0_4 hw0_5 hw0_6 : Nat) (w0 : TDelta) {r : Int32 × TDelta} (hf : f_X2_least w0 = some r) : Ct l yX2_least (Cond.code yX2_least cX2_least 1 (some .int) :: lw_g) rm_X2_least G [.ref hw0_0] [(hw0_0, .inr (2, [.ref hw0_1, .ref hw0_2, .ref hw0_3, .ref hw0_4, .ref hw0_5, .ref hw0_6, .int w0.2.2.2.2.2.2.1, .int w0.2.2.2.2.2.2.2.1, .int w0.2.2.2.2.2.2.2.2.1, .int w0.2.2.2.2.2.2.2.2.2.1, .int w0.2.2.2.2.2.2.2.2.2.2])), (hw0_1, .inl (G.2.1, 30, .inl w0.1)), (hw0_2, .inl (G.2.1, 30, .inl w0.2.1)), (hw0_3, .inl (G.2.1, 30, .inl w0.2.2.1)), (hw0_4, .inl (G.2.1, 30, .inl w0.2.2.2.1)), (hw0_5, .inl (G.2.1, 30, .inl w0.2.2.2.2.1)), (hw0_6, .inl (G.2.1, 64, .inl w0.2.2.2.2.2.1))] (some (.int r.1)) [(hw0_0, .inr (2, [.ref hw0_1, .ref hw0_2, .ref hw0_3, .ref hw0_4, .ref hw0_5, .ref hw0_6, .int r.2.2.2.2.2.2.2.1, .int r.2.2.2.2.2.2.2.2.1, .int r.2.2.2.2.2.2.2.2.2.1, .int r.2.2.2.2.2.2.2.2.2.2.1, .int r.2.2.2.2.2.2.2.2.2.2.2])), (hw0_1, .inl (G.2.1, 30, .inl r.2.1)), (hw0_2, .inl (G.2.1, 30, .inl r.2.2.1)), (hw0_3, .inl (G.2.1, 30, .inl r.2.2.2.1)), (hw0_4, .inl (G.2.1, 30, .inl r.2.2.2.2.1)), (hw0_5, .inl (G.2.1, 30, .inl r.2.2.2.2.2.1)), (hw0_6, .inl (G.2.1, 64, .inl r.2.2.2.2.2.2.1))] := by
  refine Ct.ofW (cc := cX2_least) (maxL := 1) (ret := (some .int)) (own := RX2) (by decide) rfl rfl (Nat.le_of_ble_eq_true rfl) ?_
  intro p e s m args below meth c A hx hb hr hml hts hown hlocks hK hP hD hA hS ls hl
  have hl : lv_has ls 1 [(0, .ref hw0_0)] := hl
  generalize hQ : gMQ below G _ _ A args s = Q
  generalize hH : s.heap = H at hP ⊢
  have hS : va_S A s.heap H [] := by rw [← hH]; exact hS
  generalize ([] : List Loc) = locs at hS ⊢
  unfold f_X2_least at hf
  refine lv_aload_n (pc := 0) hx hb dX2_least_0 rfl (lv_at hl 0 rfl) ?_
  refine va_get (pc := 1) (D := G.1) (ci := 2) (v := .int w0.2.2.2.2.2.2.2.2.2.2) (C := RX2) (T := TX2) (N := 11) hx hb hts inX2 hown hK.1 hP 0 rfl rfl 10 (by decide) (hts _ wd_85) (fun _ h9 => h9) rfl dX2_least_1 ?_
  refine lv_iconst (pc := 4) (v := (-1 : Int32)) hx hb dX2_least_4 (by decide) ?_
  refine lv_icmp_ne (pc := 5) (tgt := 16) hx hb dX2_least_5 (by decide) (fun hc => ?_) (fun hc => ?_)
  · have hf := br_n hc hf
    refine lv_aload_n (pc := 16) hx hb dX2_least_16 rfl (lv_at hl 0 rfl) ?_
    refine va_get (pc := 17) (D := G.1) (ci := 2) (v := .int w0.2.2.2.2.2.2.2.2.2.2) (C := RX2) (T := TX2) (N := 11) hx hb hts inX2 hown hK.1 hP 0 rfl rfl 10 (by decide) (hts _ wd_85) (fun _ h9 => h9) rfl dX2_least_17 ?_
    have hf := Option.some.inj hf; subst hf
    rw [← hQ]
    exact g_iret hx hb hr hlocks hP hS dX2_least_20
  · have hf := br_y hc hf
    refine lv_aload_n (pc := 8) hx hb dX2_least_8 rfl (lv_at hl 0 rfl) ?_
    refine lv_aload_n (pc := 9) hx hb dX2_least_9 rfl (lv_at hl 0 rfl) ?_
    obtain ⟨x1, hcx1, hf⟩ := bn_some hf
    refine g_callS0 (pc := 10) (rest := [.ref hw0_0]) hx hb hml hown hts hK (c_X5_of l G hw0_0 hw0_1 hw0_2 hw0_3 hw0_4 hw0_5 hw0_6 w0 hcx1) wd_377 wd_20 wd_375 wd_376 hd_X5_of ⟨rfl, rfl, Nat.le_of_ble_eq_true rfl, Nat.le_of_ble_eq_true rfl⟩ hP hD hS hA [0, 1, 2, 3, 4, 5, 6] rfl rfl rfl hl.1 rfl (Nat.le_of_ble_eq_true rfl) dX2_least_10 ⟨Nat.zero_le _, Nat.zero_le _⟩ (fun H locs hP hS => ?_)
    refine va_put (pc := 13) (D := G.1) (ci := 2) (v := .int x1) (ty := .int) (C := RX2) (T := TX2) (N := 11) hx hb hts inX2 tyX2 tyX2_ok nmX2 hown hK.1 hP hD hS 0 rfl rfl 10 (by decide) (hts _ wd_85) (fun _ h9 => h9) rfl (by decide +kernel) rfl rfl (Nat.le_of_ble_eq_true rfl) dX2_least_13 (fun H locs hP hD hS => ?_)
    have hP : va_P G.1 vwCl [(hw0_0, .inr (2, [.ref hw0_1, .ref hw0_2, .ref hw0_3, .ref hw0_4, .ref hw0_5, .ref hw0_6, .int w0.2.2.2.2.2.2.1, .int w0.2.2.2.2.2.2.2.1, .int w0.2.2.2.2.2.2.2.2.1, .int w0.2.2.2.2.2.2.2.2.2.1, .int x1])), (hw0_1, .inl (G.2.1, 30, .inl w0.1)), (hw0_2, .inl (G.2.1, 30, .inl w0.2.1)), (hw0_3, .inl (G.2.1, 30, .inl w0.2.2.1)), (hw0_4, .inl (G.2.1, 30, .inl w0.2.2.2.1)), (hw0_5, .inl (G.2.1, 30, .inl w0.2.2.2.2.1)), (hw0_6, .inl (G.2.1, 64, .inl w0.2.2.2.2.2.1))] H := hP
    have hD : va_D A [(hw0_0, .inr (2, [.ref hw0_1, .ref hw0_2, .ref hw0_3, .ref hw0_4, .ref hw0_5, .ref hw0_6, .int w0.2.2.2.2.2.2.1, .int w0.2.2.2.2.2.2.2.1, .int w0.2.2.2.2.2.2.2.2.1, .int w0.2.2.2.2.2.2.2.2.2.1, .int x1])), (hw0_1, .inl (G.2.1, 30, .inl w0.1)), (hw0_2, .inl (G.2.1, 30, .inl w0.2.1)), (hw0_3, .inl (G.2.1, 30, .inl w0.2.2.1)), (hw0_4, .inl (G.2.1, 30, .inl w0.2.2.2.1)), (hw0_5, .inl (G.2.1, 30, .inl w0.2.2.2.2.1)), (hw0_6, .inl (G.2.1, 64, .inl w0.2.2.2.2.2.1))] := hD
    refine lv_aload_n (pc := 16) hx hb dX2_least_16 rfl (lv_at hl 0 rfl) ?_
    refine va_get (pc := 17) (D := G.1) (ci := 2) (v := .int x1) (C := RX2) (T := TX2) (N := 11) hx hb hts inX2 hown hK.1 hP 0 rfl rfl 10 (by decide) (hts _ wd_85) (fun _ h9 => h9) rfl dX2_least_17 ?_
    have hf := Option.some.inj hf; subst hf
    rw [← hQ]
    exact g_iret hx hb hr hlocks hP hS dX2_least_20
