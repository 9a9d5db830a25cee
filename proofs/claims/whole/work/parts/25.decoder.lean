theorem hd_X1_next : yX1_next.cls ≠ "java/lang/invoke/MethodHandle" ∧ yX1_next.cls ≠ "java/lang/invoke/VarHandle" ∧ (parseMethodDescriptor yX1_next.desc).map (fun d => d.parameters.length) = some 3 := by decide +kernel
abbrev rm_X1_next : Room := { frames := 2, cells := 0, slots := 0, locals := 42 }
noncomputable def f_X1_next_J53 (n1 : Nat) (w1 : TBytes) (p2 : Int32) (p3 : Int32)  (w0 : TDecoder) : Option (Int32 × TDecoder) :=
  some (p2, (w0.1, w0.2.1, w0.2.2.1, w0.2.1))
noncomputable def f_X1_next (w0 : TDecoder) (n1 : Nat) (w1 : TBytes) (p2 : Int32) (p3 : Int32) : Option (Int32 × TDecoder) :=
  br (w0.2.2.2 = (-1 : Int32)) ((f_X0_has n1 w1 w0.2.1).bind (fun x1 => br (x1 = 0) (some (p2, (w0.1, w0.2.1, w0.2.2.1, w1.2))) ((f_X0_at n1 w1 w0.2.1).bind (fun x2 => br (x2 < p2) (f_X1_next_J53 n1 w1 p2 p3 w0) (br (x2 ≤ p3) (some (x2, (w0.1, (w0.2.1 + (1 : Int32)), (w0.2.2.1 + x2), w0.2.2.2))) (f_X1_next_J53 n1 w1 p2 p3 w0)))))) (some (p2, w0))
set_option maxHeartbeats 4000000 in
set_option maxRecDepth 100000 in
theorem c_X1_next (l : Launch) (G : GT) (hw0_0 hw0_1 hw0_2 hw0_3 hw0_4 hw0_5 hw0_6 hw0_7 : Nat) (hw1_0 hw1_1 : Nat) (w0 : TDecoder) (n1 : Nat) (w1 : TBytes) (p2 : Int32) (p3 : Int32) {r : Int32 × TDecoder} (hf : f_X1_next w0 n1 w1 p2 p3 = some r) : Ct l yX1_next (Cond.code yX1_next cX1_next 5 (some .int) :: lw_g) rm_X1_next G [.ref hw0_0, .ref hw1_0, .int p2, .int p3] [(hw0_0, .inr (1, [.ref hw0_1, .int w0.2.1, .int w0.2.2.1, .int w0.2.2.2])), (hw0_1, .inr (2, [.ref hw0_2, .ref hw0_3, .ref hw0_4, .ref hw0_5, .ref hw0_6, .ref hw0_7, .int w0.1.2.2.2.2.2.2.1, .int w0.1.2.2.2.2.2.2.2.1, .int w0.1.2.2.2.2.2.2.2.2.1, .int w0.1.2.2.2.2.2.2.2.2.2.1, .int w0.1.2.2.2.2.2.2.2.2.2.2])), (hw0_2, .inl (G.2.1, 30, .inl w0.1.1)), (hw0_3, .inl (G.2.1, 30, .inl w0.1.2.1)), (hw0_4, .inl (G.2.1, 30, .inl w0.1.2.2.1)), (hw0_5, .inl (G.2.1, 30, .inl w0.1.2.2.2.1)), (hw0_6, .inl (G.2.1, 30, .inl w0.1.2.2.2.2.1)), (hw0_7, .inl (G.2.1, 64, .inl w0.1.2.2.2.2.2.1)), (hw1_0, .inr (0, [.ref hw1_1, .int w1.2])), (hw1_1, .inl (G.2.1, n1, .inl w1.1))] (some (.int r.1)) [(hw0_0, .inr (1, [.ref hw0_1, .int r.2.2.1, .int r.2.2.2.1, .int r.2.2.2.2])), (hw0_1, .inr (2, [.ref hw0_2, .ref hw0_3, .ref hw0_4, .ref hw0_5, .ref hw0_6, .ref hw0_7, .int r.2.1.2.2.2.2.2.2.1, .int r.2.1.2.2.2.2.2.2.2.1, .int r.2.1.2.2.2.2.2.2.2.2.1, .int r.2.1.2.2.2.2.2.2.2.2.2.1, .int r.2.1.2.2.2.2.2.2.2.2.2.2])), (hw0_2, .inl (G.2.1, 30, .inl r.2.1.1)), (hw0_3, .inl (G.2.1, 30, .inl r.2.1.2.1)), (hw0_4, .inl (G.2.1, 30, .inl r.2.1.2.2.1)), (hw0_5, .inl (G.2.1, 30, .inl r.2.1.2.2.2.1)), (hw0_6, .inl (G.2.1, 30, .inl r.2.1.2.2.2.2.1)), (hw0_7, .inl (G.2.1, 64, .inl r.2.1.2.2.2.2.2.1)), (hw1_0, .inr (0, [.ref hw1_1, .int w1.2])), (hw1_1, .inl (G.2.1, n1, .inl w1.1))] := by
  refine Ct.ofW (cc := cX1_next) (maxL := 5) (ret := (some .int)) (own := RX1) (by decide) rfl rfl (Nat.le_of_ble_eq_true rfl) ?_
  intro p e s m args below meth c A hx hb hr hml hts hown hlocks hK hP hD hA hS ls hl
  have hl : lv_has ls 5 [(0, .ref hw0_0), (1, .ref hw1_0), (2, .int p2), (3, .int p3)] := hl
  generalize hQ : gMQ below G _ _ A args s = Q
  generalize hH : s.heap = H at hP ⊢
  have hS : va_S A s.heap H [] := by rw [← hH]; exact hS
  generalize ([] : List Loc) = locs at hS ⊢
  unfold f_X1_next at hf
  have hJ53 : ∀ (w0 : TDecoder), f_X1_next_J53 n1 w1 p2 p3  w0 = some r → ∀ (H : Heap) (locs : List Loc), va_P G.1 vwCl [(hw0_0, .inr (1, [.ref hw0_1, .int w0.2.1, .int w0.2.2.1, .int w0.2.2.2])), (hw0_1, .inr (2, [.ref hw0_2, .ref hw0_3, .ref hw0_4, .ref hw0_5, .ref hw0_6, .ref hw0_7, .int w0.1.2.2.2.2.2.2.1, .int w0.1.2.2.2.2.2.2.2.1, .int w0.1.2.2.2.2.2.2.2.2.1, .int w0.1.2.2.2.2.2.2.2.2.2.1, .int w0.1.2.2.2.2.2.2.2.2.2.2])), (hw0_2, .inl (G.2.1, 30, .inl w0.1.1)), (hw0_3, .inl (G.2.1, 30, .inl w0.1.2.1)), (hw0_4, .inl (G.2.1, 30, .inl w0.1.2.2.1)), (hw0_5, .inl (G.2.1, 30, .inl w0.1.2.2.2.1)), (hw0_6, .inl (G.2.1, 30, .inl w0.1.2.2.2.2.1)), (hw0_7, .inl (G.2.1, 64, .inl w0.1.2.2.2.2.2.1)), (hw1_0, .inr (0, [.ref hw1_1, .int w1.2])), (hw1_1, .inl (G.2.1, n1, .inl w1.1))] H → va_D A [(hw0_0, .inr (1, [.ref hw0_1, .int w0.2.1, .int w0.2.2.1, .int w0.2.2.2])), (hw0_1, .inr (2, [.ref hw0_2, .ref hw0_3, .ref hw0_4, .ref hw0_5, .ref hw0_6, .ref hw0_7, .int w0.1.2.2.2.2.2.2.1, .int w0.1.2.2.2.2.2.2.2.1, .int w0.1.2.2.2.2.2.2.2.2.1, .int w0.1.2.2.2.2.2.2.2.2.2.1, .int w0.1.2.2.2.2.2.2.2.2.2.2])), (hw0_2, .inl (G.2.1, 30, .inl w0.1.1)), (hw0_3, .inl (G.2.1, 30, .inl w0.1.2.1)), (hw0_4, .inl (G.2.1, 30, .inl w0.1.2.2.1)), (hw0_5, .inl (G.2.1, 30, .inl w0.1.2.2.2.1)), (hw0_6, .inl (G.2.1, 30, .inl w0.1.2.2.2.2.1)), (hw0_7, .inl (G.2.1, 64, .inl w0.1.2.2.2.2.2.1)), (hw1_0, .inr (0, [.ref hw1_1, .int w1.2])), (hw1_1, .inl (G.2.1, n1, .inl w1.1))] → va_S A s.heap H locs → ∀ (ls : Array Slot), lv_has ls 5 [(0, .ref hw0_0), (2, .int p2)] → W p l e (rm_X1_next) s m args below meth c H locs 0 0 Q (F0 m 53 ls []) := by
    intro w0 hf H locs hP hD hS ls hl
    unfold f_X1_next_J53 at hf
    refine lv_aload_n (pc := 53) hx hb dX1_next_53 rfl (lv_at hl 0 rfl) ?_
    refine lv_aload_n (pc := 54) hx hb dX1_next_54 rfl (lv_at hl 0 rfl) ?_
    refine va_get (pc := 55) (D := G.1) (ci := 1) (v := .int w0.2.1) (C := RX1) (T := TX1) (N := 4) hx hb hts inX1 hown hK.1 hP 0 rfl rfl 1 (by decide) (hts _ wd_220) (fun _ h9 => h9) rfl dX1_next_55 ?_
    refine va_put (pc := 58) (D := G.1) (ci := 1) (v := .int w0.2.1) (ty := .int) (C := RX1) (T := TX1) (N := 4) hx hb hts inX1 tyX1 tyX1_ok nmX1 hown hK.1 hP hD hS 0 rfl rfl 3 (by decide) (hts _ wd_222) (fun _ h9 => h9) rfl (by decide +kernel) rfl rfl (Nat.le_of_ble_eq_true rfl) dX1_next_58 (fun H locs hP hD hS => ?_)
    have hP : va_P G.1 vwCl [(hw0_0, .inr (1, [.ref hw0_1, .int w0.2.1, .int w0.2.2.1, .int w0.2.1])), (hw0_1, .inr (2, [.ref hw0_2, .ref hw0_3, .ref hw0_4, .ref hw0_5, .ref hw0_6, .ref hw0_7, .int w0.1.2.2.2.2.2.2.1, .int w0.1.2.2.2.2.2.2.2.1, .int w0.1.2.2.2.2.2.2.2.2.1, .int w0.1.2.2.2.2.2.2.2.2.2.1, .int w0.1.2.2.2.2.2.2.2.2.2.2])), (hw0_2, .inl (G.2.1, 30, .inl w0.1.1)), (hw0_3, .inl (G.2.1, 30, .inl w0.1.2.1)), (hw0_4, .inl (G.2.1, 30, .inl w0.1.2.2.1)), (hw0_5, .inl (G.2.1, 30, .inl w0.1.2.2.2.1)), (hw0_6, .inl (G.2.1, 30, .inl w0.1.2.2.2.2.1)), (hw0_7, .inl (G.2.1, 64, .inl w0.1.2.2.2.2.2.1)), (hw1_0, .inr (0, [.ref hw1_1, .int w1.2])), (hw1_1, .inl (G.2.1, n1, .inl w1.1))] H := hP
    have hD : va_D A [(hw0_0, .inr (1, [.ref hw0_1, .int w0.2.1, .int w0.2.2.1, .int w0.2.1])), (hw0_1, .inr (2, [.ref hw0_2, .ref hw0_3, .ref hw0_4, .ref hw0_5, .ref hw0_6, .ref hw0_7, .int w0.1.2.2.2.2.2.2.1, .int w0.1.2.2.2.2.2.2.2.1, .int w0.1.2.2.2.2.2.2.2.2.1, .int w0.1.2.2.2.2.2.2.2.2.2.1, .int w0.1.2.2.2.2.2.2.2.2.2.2])), (hw0_2, .inl (G.2.1, 30, .inl w0.1.1)), (hw0_3, .inl (G.2.1, 30, .inl w0.1.2.1)), (hw0_4, .inl (G.2.1, 30, .inl w0.1.2.2.1)), (hw0_5, .inl (G.2.1, 30, .inl w0.1.2.2.2.1)), (hw0_6, .inl (G.2.1, 30, .inl w0.1.2.2.2.2.1)), (hw0_7, .inl (G.2.1, 64, .inl w0.1.2.2.2.2.2.1)), (hw1_0, .inr (0, [.ref hw1_1, .int w1.2])), (hw1_1, .inl (G.2.1, n1, .inl w1.1))] := hD
    refine lv_iload_n (pc := 61) hx hb dX1_next_61 rfl (lv_at hl 1 rfl) ?_
    have hf := Option.some.inj hf; subst hf
    rw [← hQ]
    exact g_iret hx hb hr hlocks hP hS dX1_next_62
  refine lv_aload_n (pc := 0) hx hb dX1_next_0 rfl (lv_at hl 0 rfl) ?_
  refine va_get (pc := 1) (D := G.1) (ci := 1) (v := .int w0.2.2.2) (C := RX1) (T := TX1) (N := 4) hx hb hts inX1 hown hK.1 hP 0 rfl rfl 3 (by decide) (hts _ wd_222) (fun _ h9 => h9) rfl dX1_next_1 ?_
  refine lv_iconst (pc := 4) (v := (-1 : Int32)) hx hb dX1_next_4 (by decide) ?_
  refine lv_icmp_eq (pc := 5) (tgt := 10) hx hb dX1_next_5 (by decide) (fun hc => ?_) (fun hc => ?_)
  · have hf := br_y hc hf
    refine lv_aload_n (pc := 10) hx hb dX1_next_10 rfl (lv_at hl 1 rfl) ?_
    refine lv_aload_n (pc := 11) hx hb dX1_next_11 rfl (lv_at hl 0 rfl) ?_
    refine va_get (pc := 12) (D := G.1) (ci := 1) (v := .int w0.2.1) (C := RX1) (T := TX1) (N := 4) hx hb hts inX1 hown hK.1 hP 0 rfl rfl 1 (by decide) (hts _ wd_220) (fun _ h9 => h9) rfl dX1_next_12 ?_
    obtain ⟨x1, hcx1, hf⟩ := bn_some hf
    refine g_callV0 (pc := 15) (rest := []) hx hb hml hown hts hK (c_X0_has l G hw1_0 hw1_1 n1 w1 w0.2.1 hcx1) wd_315 wd_3 wd_420 wd_313 wd_314 hd_X0_has ⟨rfl, rfl, Nat.le_of_ble_eq_true rfl, Nat.le_of_ble_eq_true rfl⟩ hP hD hS hA [8, 9] rfl rfl 0 8 rfl rfl rfl rfl hl.1 rfl (Nat.le_of_ble_eq_true rfl) dX1_next_15 ⟨Nat.zero_le _, Nat.zero_le _⟩ (fun H locs hP hS => ?_)
    refine lv_if_ne (pc := 18) (tgt := 31) hx hb dX1_next_18 (by decide) (fun hc => ?_) (fun hc => ?_)
    · have hf := br_n hc hf
      refine lv_aload_n (pc := 31) hx hb dX1_next_31 rfl (lv_at hl 1 rfl) ?_
      refine lv_aload_n (pc := 32) hx hb dX1_next_32 rfl (lv_at hl 0 rfl) ?_
      refine va_get (pc := 33) (D := G.1) (ci := 1) (v := .int w0.2.1) (C := RX1) (T := TX1) (N := 4) hx hb hts inX1 hown hK.1 hP 0 rfl rfl 1 (by decide) (hts _ wd_220) (fun _ h9 => h9) rfl dX1_next_33 ?_
      obtain ⟨x2, hcx2, hf⟩ := bn_some hf
      refine g_callV0 (pc := 36) (rest := []) hx hb hml hown hts hK (c_X0_at l G hw1_0 hw1_1 n1 w1 w0.2.1 hcx2) wd_311 wd_3 wd_421 wd_309 wd_310 hd_X0_at ⟨rfl, rfl, Nat.le_of_ble_eq_true rfl, Nat.le_of_ble_eq_true rfl⟩ hP hD hS hA [8, 9] rfl rfl 0 8 rfl rfl rfl rfl hl.1 rfl (Nat.le_of_ble_eq_true rfl) dX1_next_36 ⟨Nat.zero_le _, Nat.zero_le _⟩ (fun H locs hP hS => ?_)
      refine lv_istore (pc := 39) (lv' := [(4, .int x2), (0, .ref hw0_0), (1, .ref hw1_0), (2, .int p2), (3, .int p3)]) hx hb dX1_next_39 hl (by decide) rfl (fun ls hl => ?_)
      refine lv_iload (pc := 41) hx hb dX1_next_41 (lv_at hl 0 rfl) ?_
      refine lv_iload_n (pc := 43) hx hb dX1_next_43 rfl (lv_at hl 3 rfl) ?_
      refine lv_icmp_lt (pc := 44) (tgt := 53) hx hb dX1_next_44 (by decide) (fun hc => ?_) (fun hc => ?_)
      · have hf := br_y hc hf
        exact hJ53 w0 hf H locs hP hD hS ls (lv_sub hl [1, 3] rfl)
      · have hf := br_n hc hf
        refine lv_iload (pc := 47) hx hb dX1_next_47 (lv_at hl 0 rfl) ?_
        refine lv_iload_n (pc := 49) hx hb dX1_next_49 rfl (lv_at hl 4 rfl) ?_
        refine lv_icmp_le (pc := 50) (tgt := 63) hx hb dX1_next_50 (by decide) (fun hc => ?_) (fun hc => ?_)
        · have hf := br_y hc hf
          refine lv_aload_n (pc := 63) hx hb dX1_next_63 rfl (lv_at hl 1 rfl) ?_
          refine lv_dup (pc := 64) hx hb dX1_next_64 rfl ?_
          refine va_get (pc := 65) (D := G.1) (ci := 1) (v := .int w0.2.2.1) (C := RX1) (T := TX1) (N := 4) hx hb hts inX1 hown hK.1 hP 0 rfl rfl 2 (by decide) (hts _ wd_221) (fun _ h9 => h9) rfl dX1_next_65 ?_
          refine lv_iload (pc := 68) hx hb dX1_next_68 (lv_at hl 0 rfl) ?_
          refine lv_iadd (pc := 70) hx hb dX1_next_70 ?_
          refine va_put (pc := 71) (D := G.1) (ci := 1) (v := .int (w0.2.2.1 + x2)) (ty := .int) (C := RX1) (T := TX1) (N := 4) hx hb hts inX1 tyX1 tyX1_ok nmX1 hown hK.1 hP hD hS 0 rfl rfl 2 (by decide) (hts _ wd_221) (fun _ h9 => h9) rfl (by decide +kernel) rfl rfl (Nat.le_of_ble_eq_true rfl) dX1_next_71 (fun H locs hP hD hS => ?_)
          have hP : va_P G.1 vwCl [(hw0_0, .inr (1, [.ref hw0_1, .int w0.2.1, .int (w0.2.2.1 + x2), .int w0.2.2.2])), (hw0_1, .inr (2, [.ref hw0_2, .ref hw0_3, .ref hw0_4, .ref hw0_5, .ref hw0_6, .ref hw0_7, .int w0.1.2.2.2.2.2.2.1, .int w0.1.2.2.2.2.2.2.2.1, .int w0.1.2.2.2.2.2.2.2.2.1, .int w0.1.2.2.2.2.2.2.2.2.2.1, .int w0.1.2.2.2.2.2.2.2.2.2.2])), (hw0_2, .inl (G.2.1, 30, .inl w0.1.1)), (hw0_3, .inl (G.2.1, 30, .inl w0.1.2.1)), (hw0_4, .inl (G.2.1, 30, .inl w0.1.2.2.1)), (hw0_5, .inl (G.2.1, 30, .inl w0.1.2.2.2.1)), (hw0_6, .inl (G.2.1, 30, .inl w0.1.2.2.2.2.1)), (hw0_7, .inl (G.2.1, 64, .inl w0.1.2.2.2.2.2.1)), (hw1_0, .inr (0, [.ref hw1_1, .int w1.2])), (hw1_1, .inl (G.2.1, n1, .inl w1.1))] H := hP
          have hD : va_D A [(hw0_0, .inr (1, [.ref hw0_1, .int w0.2.1, .int (w0.2.2.1 + x2), .int w0.2.2.2])), (hw0_1, .inr (2, [.ref hw0_2, .ref hw0_3, .ref hw0_4, .ref hw0_5, .ref hw0_6, .ref hw0_7, .int w0.1.2.2.2.2.2.2.1, .int w0.1.2.2.2.2.2.2.2.1, .int w0.1.2.2.2.2.2.2.2.2.1, .int w0.1.2.2.2.2.2.2.2.2.2.1, .int w0.1.2.2.2.2.2.2.2.2.2.2])), (hw0_2, .inl (G.2.1, 30, .inl w0.1.1)), (hw0_3, .inl (G.2.1, 30, .inl w0.1.2.1)), (hw0_4, .inl (G.2.1, 30, .inl w0.1.2.2.1)), (hw0_5, .inl (G.2.1, 30, .inl w0.1.2.2.2.1)), (hw0_6, .inl (G.2.1, 30, .inl w0.1.2.2.2.2.1)), (hw0_7, .inl (G.2.1, 64, .inl w0.1.2.2.2.2.2.1)), (hw1_0, .inr (0, [.ref hw1_1, .int w1.2])), (hw1_1, .inl (G.2.1, n1, .inl w1.1))] := hD
          refine lv_aload_n (pc := 74) hx hb dX1_next_74 rfl (lv_at hl 1 rfl) ?_
          refine lv_dup (pc := 75) hx hb dX1_next_75 rfl ?_
          refine va_get (pc := 76) (D := G.1) (ci := 1) (v := .int w0.2.1) (C := RX1) (T := TX1) (N := 4) hx hb hts inX1 hown hK.1 hP 0 rfl rfl 1 (by decide) (hts _ wd_220) (fun _ h9 => h9) rfl dX1_next_76 ?_
          refine lv_iconst (pc := 79) (v := (1 : Int32)) hx hb dX1_next_79 (by decide) ?_
          refine lv_iadd (pc := 80) hx hb dX1_next_80 ?_
          refine va_put (pc := 81) (D := G.1) (ci := 1) (v := .int (w0.2.1 + (1 : Int32))) (ty := .int) (C := RX1) (T := TX1) (N := 4) hx hb hts inX1 tyX1 tyX1_ok nmX1 hown hK.1 hP hD hS 0 rfl rfl 1 (by decide) (hts _ wd_220) (fun _ h9 => h9) rfl (by decide +kernel) rfl rfl (Nat.le_of_ble_eq_true rfl) dX1_next_81 (fun H locs hP hD hS => ?_)
          have hP : va_P G.1 vwCl [(hw0_0, .inr (1, [.ref hw0_1, .int (w0.2.1 + (1 : Int32)), .int (w0.2.2.1 + x2), .int w0.2.2.2])), (hw0_1, .inr (2, [.ref hw0_2, .ref hw0_3, .ref hw0_4, .ref hw0_5, .ref hw0_6, .ref hw0_7, .int w0.1.2.2.2.2.2.2.1, .int w0.1.2.2.2.2.2.2.2.1, .int w0.1.2.2.2.2.2.2.2.2.1, .int w0.1.2.2.2.2.2.2.2.2.2.1, .int w0.1.2.2.2.2.2.2.2.2.2.2])), (hw0_2, .inl (G.2.1, 30, .inl w0.1.1)), (hw0_3, .inl (G.2.1, 30, .inl w0.1.2.1)), (hw0_4, .inl (G.2.1, 30, .inl w0.1.2.2.1)), (hw0_5, .inl (G.2.1, 30, .inl w0.1.2.2.2.1)), (hw0_6, .inl (G.2.1, 30, .inl w0.1.2.2.2.2.1)), (hw0_7, .inl (G.2.1, 64, .inl w0.1.2.2.2.2.2.1)), (hw1_0, .inr (0, [.ref hw1_1, .int w1.2])), (hw1_1, .inl (G.2.1, n1, .inl w1.1))] H := hP
          have hD : va_D A [(hw0_0, .inr (1, [.ref hw0_1, .int (w0.2.1 + (1 : Int32)), .int (w0.2.2.1 + x2), .int w0.2.2.2])), (hw0_1, .inr (2, [.ref hw0_2, .ref hw0_3, .ref hw0_4, .ref hw0_5, .ref hw0_6, .ref hw0_7, .int w0.1.2.2.2.2.2.2.1, .int w0.1.2.2.2.2.2.2.2.1, .int w0.1.2.2.2.2.2.2.2.2.1, .int w0.1.2.2.2.2.2.2.2.2.2.1, .int w0.1.2.2.2.2.2.2.2.2.2.2])), (hw0_2, .inl (G.2.1, 30, .inl w0.1.1)), (hw0_3, .inl (G.2.1, 30, .inl w0.1.2.1)), (hw0_4, .inl (G.2.1, 30, .inl w0.1.2.2.1)), (hw0_5, .inl (G.2.1, 30, .inl w0.1.2.2.2.1)), (hw0_6, .inl (G.2.1, 30, .inl w0.1.2.2.2.2.1)), (hw0_7, .inl (G.2.1, 64, .inl w0.1.2.2.2.2.2.1)), (hw1_0, .inr (0, [.ref hw1_1, .int w1.2])), (hw1_1, .inl (G.2.1, n1, .inl w1.1))] := hD
          refine lv_iload (pc := 84) hx hb dX1_next_84 (lv_at hl 0 rfl) ?_
          have hf := Option.some.inj hf; subst hf
          rw [← hQ]
          exact g_iret hx hb hr hlocks hP hS dX1_next_86
        · have hf := br_n hc hf
          exact hJ53 w0 hf H locs hP hD hS ls (lv_sub hl [1, 3] rfl)
    · have hf := br_y hc hf
      refine lv_aload_n (pc := 21) hx hb dX1_next_21 rfl (lv_at hl 0 rfl) ?_
      refine lv_aload_n (pc := 22) hx hb dX1_next_22 rfl (lv_at hl 1 rfl) ?_
      refine va_getN (pc := 23) (D := G.1) (ci := 0) (v := .int w1.2) (C := RX0) (T := TX0) (N := 2) hx hb hts inX0 hown hK.1 hP 8 rfl rfl 1 (by decide) (nfw_50 hK) (fun _ h9 => h9) rfl dX1_next_23 ?_
      refine va_put (pc := 26) (D := G.1) (ci := 1) (v := .int w1.2) (ty := .int) (C := RX1) (T := TX1) (N := 4) hx hb hts inX1 tyX1 tyX1_ok nmX1 hown hK.1 hP hD hS 0 rfl rfl 3 (by decide) (hts _ wd_222) (fun _ h9 => h9) rfl (by decide +kernel) rfl rfl (Nat.le_of_ble_eq_true rfl) dX1_next_26 (fun H locs hP hD hS => ?_)
      have hP : va_P G.1 vwCl [(hw0_0, .inr (1, [.ref hw0_1, .int w0.2.1, .int w0.2.2.1, .int w1.2])), (hw0_1, .inr (2, [.ref hw0_2, .ref hw0_3, .ref hw0_4, .ref hw0_5, .ref hw0_6, .ref hw0_7, .int w0.1.2.2.2.2.2.2.1, .int w0.1.2.2.2.2.2.2.2.1, .int w0.1.2.2.2.2.2.2.2.2.1, .int w0.1.2.2.2.2.2.2.2.2.2.1, .int w0.1.2.2.2.2.2.2.2.2.2.2])), (hw0_2, .inl (G.2.1, 30, .inl w0.1.1)), (hw0_3, .inl (G.2.1, 30, .inl w0.1.2.1)), (hw0_4, .inl (G.2.1, 30, .inl w0.1.2.2.1)), (hw0_5, .inl (G.2.1, 30, .inl w0.1.2.2.2.1)), (hw0_6, .inl (G.2.1, 30, .inl w0.1.2.2.2.2.1)), (hw0_7, .inl (G.2.1, 64, .inl w0.1.2.2.2.2.2.1)), (hw1_0, .inr (0, [.ref hw1_1, .int w1.2])), (hw1_1, .inl (G.2.1, n1, .inl w1.1))] H := hP
      have hD : va_D A [(hw0_0, .inr (1, [.ref hw0_1, .int w0.2.1, .int w0.2.2.1, .int w1.2])), (hw0_1, .inr (2, [.ref hw0_2, .ref hw0_3, .ref hw0_4, .ref hw0_5, .ref hw0_6, .ref hw0_7, .int w0.1.2.2.2.2.2.2.1, .int w0.1.2.2.2.2.2.2.2.1, .int w0.1.2.2.2.2.2.2.2.2.1, .int w0.1.2.2.2.2.2.2.2.2.2.1, .int w0.1.2.2.2.2.2.2.2.2.2.2])), (hw0_2, .inl (G.2.1, 30, .inl w0.1.1)), (hw0_3, .inl (G.2.1, 30, .inl w0.1.2.1)), (hw0_4, .inl (G.2.1, 30, .inl w0.1.2.2.1)), (hw0_5, .inl (G.2.1, 30, .inl w0.1.2.2.2.1)), (hw0_6, .inl (G.2.1, 30, .inl w0.1.2.2.2.2.1)), (hw0_7, .inl (G.2.1, 64, .inl w0.1.2.2.2.2.2.1)), (hw1_0, .inr (0, [.ref hw1_1, .int w1.2])), (hw1_1, .inl (G.2.1, n1, .inl w1.1))] := hD
      refine lv_iload_n (pc := 29) hx hb dX1_next_29 rfl (lv_at hl 2 rfl) ?_
      have hf := Option.some.inj hf; subst hf
      rw [← hQ]
      exact g_iret hx hb hr hlocks hP hS dX1_next_30
  · have hf := br_n hc hf
    refine lv_iload_n (pc := 8) hx hb dX1_next_8 rfl (lv_at hl 2 rfl) ?_
    have hf := Option.some.inj hf; subst hf
    rw [← hQ]
    exact g_iret hx hb hr hlocks hP hS dX1_next_9
theorem hd_X1_rangeFault : yX1_rangeFault.cls ≠ "java/lang/invoke/MethodHandle" ∧ yX1_rangeFault.cls ≠ "java/lang/invoke/VarHandle" ∧ (parseMethodDescriptor yX1_rangeFault.desc).map (fun d => d.parameters.length) = some 4 := by decide +kernel
abbrev rm_X1_rangeFault : Room := { frames := 3, cells := 0, slots := 0, locals := 65 }
noncomputable def f_X1_rangeFault_J30 (w0 : TDecoder) (p1 : Int32) (p2 : Int32) (p3 : Int32) (p4 : Int32)  (v5 : Int32) : Option Int32 :=
  br ((p3 + p4) ≤ w0.1.2.2.2.2.2.2.2.1) ((f_X2_writesAnyOf w0.1 p3 p4).bind (fun x1 => br (x1 = 0) (some (-1 : Int32)) (some (v5 - (1 : Int32))))) (some v5)
noncomputable def f_X1_rangeFault (w0 : TDecoder) (p1 : Int32) (p2 : Int32) (p3 : Int32) (p4 : Int32) : Option Int32 :=
  br (p1 = (1 : Int32)) (br ((p2 + p4) ≤ w0.1.2.2.2.2.2.2.1) (f_X1_rangeFault_J30 w0 p1 p2 p3 p4 (w0.2.1 - (1 : Int32))) (some (w0.2.1 - (1 : Int32)))) (f_X1_rangeFault_J30 w0 p1 p2 p3 p4 (w0.2.1 - (1 : Int32)))
set_option maxHeartbeats 4000000 in
set_option maxRecDepth 100000 in
theorem c_X1_rangeFault (l : Launch) (G : GT) (hw0_0 hw0_1 hw0_2 hw0_3 hw0_4 hw0_5 hw0_6 hw0_7 : Nat) (w0 : TDecoder) (p1 : Int32) (p2 : Int32) (p3 : Int32) (p4 : Int32) {r : Int32} (hf : f_X1_rangeFault w0 p1 p2 p3 p4 = some r) : Ct l yX1_rangeFault (Cond.code yX1_rangeFault cX1_rangeFault 6 (some .int) :: lw_g) rm_X1_rangeFault G [.ref hw0_0, .int p1, .int p2, .int p3, .int p4] [(hw0_0, .inr (1, [.ref hw0_1, .int w0.2.1, .int w0.2.2.1, .int w0.2.2.2])), (hw0_1, .inr (2, [.ref hw0_2, .ref hw0_3, .ref hw0_4, .ref hw0_5, .ref hw0_6, .ref hw0_7, .int w0.1.2.2.2.2.2.2.1, .int w0.1.2.2.2.2.2.2.2.1, .int w0.1.2.2.2.2.2.2.2.2.1, .int w0.1.2.2.2.2.2.2.2.2.2.1, .int w0.1.2.2.2.2.2.2.2.2.2.2])), (hw0_2, .inl (G.2.1, 30, .inl w0.1.1)), (hw0_3, .inl (G.2.1, 30, .inl w0.1.2.1)), (hw0_4, .inl (G.2.1, 30, .inl w0.1.2.2.1)), (hw0_5, .inl (G.2.1, 30, .inl w0.1.2.2.2.1)), (hw0_6, .inl (G.2.1, 30, .inl w0.1.2.2.2.2.1)), (hw0_7, .inl (G.2.1, 64, .inl w0.1.2.2.2.2.2.1))] (some (.int r)) [(hw0_0, .inr (1, [.ref hw0_1, .int w0.2.1, .int w0.2.2.1, .int w0.2.2.2])), (hw0_1, .inr (2, [.ref hw0_2, .ref hw0_3, .ref hw0_4, .ref hw0_5, .ref hw0_6, .ref hw0_7, .int w0.1.2.2.2.2.2.2.1, .int w0.1.2.2.2.2.2.2.2.1, .int w0.1.2.2.2.2.2.2.2.2.1, .int w0.1.2.2.2.2.2.2.2.2.2.1, .int w0.1.2.2.2.2.2.2.2.2.2.2])), (hw0_2, .inl (G.2.1, 30, .inl w0.1.1)), (hw0_3, .inl (G.2.1, 30, .inl w0.1.2.1)), (hw0_4, .inl (G.2.1, 30, .inl w0.1.2.2.1)), (hw0_5, .inl (G.2.1, 30, .inl w0.1.2.2.2.1)), (hw0_6, .inl (G.2.1, 30, .inl w0.1.2.2.2.2.1)), (hw0_7, .inl (G.2.1, 64, .inl w0.1.2.2.2.2.2.1))] := by
  refine Ct.ofW (cc := cX1_rangeFault) (maxL := 6) (ret := (some .int)) (own := RX1) (by decide) rfl rfl (Nat.le_of_ble_eq_true rfl) ?_
  intro p e s m args below meth c A hx hb hr hml hts hown hlocks hK hP hD hA hS ls hl
  have hl : lv_has ls 6 [(0, .ref hw0_0), (1, .int p1), (2, .int p2), (3, .int p3), (4, .int p4)] := hl
  generalize hQ : gMQ below G _ _ A args s = Q
  generalize hH : s.heap = H at hP ⊢
  have hS : va_S A s.heap H [] := by rw [← hH]; exact hS
  generalize ([] : List Loc) = locs at hS ⊢
  unfold f_X1_rangeFault at hf
  have hJ30 : ∀ (v5 : Int32), f_X1_rangeFault_J30 w0 p1 p2 p3 p4  v5 = some r → ∀ (H : Heap) (locs : List Loc), va_P G.1 vwCl [(hw0_0, .inr (1, [.ref hw0_1, .int w0.2.1, .int w0.2.2.1, .int w0.2.2.2])), (hw0_1, .inr (2, [.ref hw0_2, .ref hw0_3, .ref hw0_4, .ref hw0_5, .ref hw0_6, .ref hw0_7, .int w0.1.2.2.2.2.2.2.1, .int w0.1.2.2.2.2.2.2.2.1, .int w0.1.2.2.2.2.2.2.2.2.1, .int w0.1.2.2.2.2.2.2.2.2.2.1, .int w0.1.2.2.2.2.2.2.2.2.2.2])), (hw0_2, .inl (G.2.1, 30, .inl w0.1.1)), (hw0_3, .inl (G.2.1, 30, .inl w0.1.2.1)), (hw0_4, .inl (G.2.1, 30, .inl w0.1.2.2.1)), (hw0_5, .inl (G.2.1, 30, .inl w0.1.2.2.2.1)), (hw0_6, .inl (G.2.1, 30, .inl w0.1.2.2.2.2.1)), (hw0_7, .inl (G.2.1, 64, .inl w0.1.2.2.2.2.2.1))] H → va_D A [(hw0_0, .inr (1, [.ref hw0_1, .int w0.2.1, .int w0.2.2.1, .int w0.2.2.2])), (hw0_1, .inr (2, [.ref hw0_2, .ref hw0_3, .ref hw0_4, .ref hw0_5, .ref hw0_6, .ref hw0_7, .int w0.1.2.2.2.2.2.2.1, .int w0.1.2.2.2.2.2.2.2.1, .int w0.1.2.2.2.2.2.2.2.2.1, .int w0.1.2.2.2.2.2.2.2.2.2.1, .int w0.1.2.2.2.2.2.2.2.2.2.2])), (hw0_2, .inl (G.2.1, 30, .inl w0.1.1)), (hw0_3, .inl (G.2.1, 30, .inl w0.1.2.1)), (hw0_4, .inl (G.2.1, 30, .inl w0.1.2.2.1)), (hw0_5, .inl (G.2.1, 30, .inl w0.1.2.2.2.1)), (hw0_6, .inl (G.2.1, 30, .inl w0.1.2.2.2.2.1)), (hw0_7, .inl (G.2.1, 64, .inl w0.1.2.2.2.2.2.1))] → va_S A s.heap H locs → ∀ (ls : Array Slot), lv_has ls 6 [(5, .int v5), (0, .ref hw0_0), (3, .int p3), (4, .int p4)] → W p l e (rm_X1_rangeFault) s m args below meth c H locs 0 0 Q (F0 m 30 ls []) := by
    intro v5 hf H locs hP hD hS ls hl
    unfold f_X1_rangeFault_J30 at hf
    refine lv_iload_n (pc := 30) hx hb dX1_rangeFault_30 rfl (lv_at hl 2 rfl) ?_
    refine lv_iload (pc := 31) hx hb dX1_rangeFault_31 (lv_at hl 3 rfl) ?_
    refine lv_iadd (pc := 33) hx hb dX1_rangeFault_33 ?_
    refine lv_aload_n (pc := 34) hx hb dX1_rangeFault_34 rfl (lv_at hl 1 rfl) ?_
    refine va_get (pc := 35) (D := G.1) (ci := 1) (v := .ref hw0_1) (C := RX1) (T := TX1) (N := 4) hx hb hts inX1 hown hK.1 hP 0 rfl rfl 0 (by decide) (hts _ wd_218) (fun _ h9 => h9) rfl dX1_rangeFault_35 ?_
    refine va_getN (pc := 38) (D := G.1) (ci := 2) (v := .int w0.1.2.2.2.2.2.2.2.1) (C := RX2) (T := TX2) (N := 11) hx hb hts inX2 hown hK.1 hP 1 rfl rfl 7 (by decide) (nfw_75 hK) (fun _ h9 => h9) rfl dX1_rangeFault_38 ?_
    refine lv_icmp_le (pc := 41) (tgt := 47) hx hb dX1_rangeFault_41 (by decide) (fun hc => ?_) (fun hc => ?_)
    · have hf := br_y hc hf
      refine lv_aload_n (pc := 47) hx hb dX1_rangeFault_47 rfl (lv_at hl 1 rfl) ?_
      refine va_get (pc := 48) (D := G.1) (ci := 1) (v := .ref hw0_1) (C := RX1) (T := TX1) (N := 4) hx hb hts inX1 hown hK.1 hP 0 rfl rfl 0 (by decide) (hts _ wd_218) (fun _ h9 => h9) rfl dX1_rangeFault_48 ?_
      refine lv_iload_n (pc := 51) hx hb dX1_rangeFault_51 rfl (lv_at hl 2 rfl) ?_
      refine lv_iload (pc := 52) hx hb dX1_rangeFault_52 (lv_at hl 3 rfl) ?_
      obtain ⟨x1, hcx1, hf⟩ := bn_some hf
      refine g_callV0 (pc := 54) (rest := []) hx hb hml hown hts hK (c_X2_writesAnyOf l G hw0_1 hw0_2 hw0_3 hw0_4 hw0_5 hw0_6 hw0_7 w0.1 p3 p4 hcx1) wd_435 wd_5 wd_432 wd_433 wd_434 hd_X2_writesAnyOf ⟨rfl, rfl, Nat.le_of_ble_eq_true rfl, Nat.le_of_ble_eq_true rfl⟩ hP hD hS hA [1, 2, 3, 4, 5, 6, 7] rfl rfl 2 1 rfl rfl rfl rfl hl.1 rfl (Nat.le_of_ble_eq_true rfl) dX1_rangeFault_54 ⟨Nat.zero_le _, Nat.zero_le _⟩ (fun H locs hP hS => ?_)
      refine lv_if_eq (pc := 57) (tgt := 67) hx hb dX1_rangeFault_57 (by decide) (fun hc => ?_) (fun hc => ?_)
      · have hf := br_y hc hf
        refine lv_iconst (pc := 67) (v := (-1 : Int32)) hx hb dX1_rangeFault_67 (by decide) ?_
        have hf := Option.some.inj hf; subst hf
        rw [← hQ]
        exact g_iret hx hb hr hlocks hP hS dX1_rangeFault_68
      · have hf := br_n hc hf
        refine lv_iload (pc := 60) hx hb dX1_rangeFault_60 (lv_at hl 0 rfl) ?_
        refine lv_iconst (pc := 62) (v := (1 : Int32)) hx hb dX1_rangeFault_62 (by decide) ?_
        refine lv_isub (pc := 63) hx hb dX1_rangeFault_63 ?_
        refine lv_goto (pc := 64) (tgt := 68) hx hb dX1_rangeFault_64 (by decide) ?_
        have hf := Option.some.inj hf; subst hf
        rw [← hQ]
        exact g_iret hx hb hr hlocks hP hS dX1_rangeFault_68
    · have hf := br_n hc hf
      refine lv_iload (pc := 44) hx hb dX1_rangeFault_44 (lv_at hl 0 rfl) ?_
      have hf := Option.some.inj hf; subst hf
      rw [← hQ]
      exact g_iret hx hb hr hlocks hP hS dX1_rangeFault_46
  refine lv_aload_n (pc := 0) hx hb dX1_rangeFault_0 rfl (lv_at hl 0 rfl) ?_
  refine va_get (pc := 1) (D := G.1) (ci := 1) (v := .int w0.2.1) (C := RX1) (T := TX1) (N := 4) hx hb hts inX1 hown hK.1 hP 0 rfl rfl 1 (by decide) (hts _ wd_220) (fun _ h9 => h9) rfl dX1_rangeFault_1 ?_
  refine lv_iconst (pc := 4) (v := (1 : Int32)) hx hb dX1_rangeFault_4 (by decide) ?_
  refine lv_isub (pc := 5) hx hb dX1_rangeFault_5 ?_
  refine lv_istore (pc := 6) (lv' := [(5, .int (w0.2.1 - (1 : Int32))), (0, .ref hw0_0), (1, .int p1), (2, .int p2), (3, .int p3), (4, .int p4)]) hx hb dX1_rangeFault_6 hl (by decide) rfl (fun ls hl => ?_)
  refine lv_iload_n (pc := 8) hx hb dX1_rangeFault_8 rfl (lv_at hl 2 rfl) ?_
  refine lv_iconst (pc := 9) (v := (1 : Int32)) hx hb dX1_rangeFault_9 (by decide) ?_
  refine lv_icmp_ne (pc := 10) (tgt := 30) hx hb dX1_rangeFault_10 (by decide) (fun hc => ?_) (fun hc => ?_)
  · have hf := br_n hc hf
    exact hJ30 (w0.2.1 - (1 : Int32)) hf H locs hP hD hS ls (lv_sub hl [0, 1, 4, 5] rfl)
  · have hf := br_y hc hf
    refine lv_iload_n (pc := 13) hx hb dX1_rangeFault_13 rfl (lv_at hl 3 rfl) ?_
    refine lv_iload (pc := 14) hx hb dX1_rangeFault_14 (lv_at hl 5 rfl) ?_
    refine lv_iadd (pc := 16) hx hb dX1_rangeFault_16 ?_
    refine lv_aload_n (pc := 17) hx hb dX1_rangeFault_17 rfl (lv_at hl 1 rfl) ?_
    refine va_get (pc := 18) (D := G.1) (ci := 1) (v := .ref hw0_1) (C := RX1) (T := TX1) (N := 4) hx hb hts inX1 hown hK.1 hP 0 rfl rfl 0 (by decide) (hts _ wd_218) (fun _ h9 => h9) rfl dX1_rangeFault_18 ?_
    refine va_getN (pc := 21) (D := G.1) (ci := 2) (v := .int w0.1.2.2.2.2.2.2.1) (C := RX2) (T := TX2) (N := 11) hx hb hts inX2 hown hK.1 hP 1 rfl rfl 6 (by decide) (nfw_70 hK) (fun _ h9 => h9) rfl dX1_rangeFault_21 ?_
    refine lv_icmp_le (pc := 24) (tgt := 30) hx hb dX1_rangeFault_24 (by decide) (fun hc => ?_) (fun hc => ?_)
    · have hf := br_y hc hf
      exact hJ30 (w0.2.1 - (1 : Int32)) hf H locs hP hD hS ls (lv_sub hl [0, 1, 4, 5] rfl)
    · have hf := br_n hc hf
      refine lv_iload (pc := 27) hx hb dX1_rangeFault_27 (lv_at hl 0 rfl) ?_
      have hf := Option.some.inj hf; subst hf
      rw [← hQ]
      exact g_iret hx hb hr hlocks hP hS dX1_rangeFault_29
theorem hd_X1_readCommand : yX1_readCommand.cls ≠ "java/lang/invoke/MethodHandle" ∧ yX1_readCommand.cls ≠ "java/lang/invoke/VarHandle" ∧ (parseMethodDescriptor yX1_readCommand.desc).map (fun d => d.parameters.length) = some 1 := by decide +kernel
abbrev rm_X1_readCommand : Room := { frames := 5, cells := 0, slots := 0, locals := 110 }
noncomputable def f_X1_readCommand_L112 (n1 : Nat) (w1 : TBytes)  : Nat → TDecoder → Int32 → Int32 → Int32 → Option TDecoder
  | 0, _, _, _, _ => none
  | k112 + 1, w0, v6, v5, v4 =>
    br (v5 ≤ v6) (some w0) ((f_X1_next w0 n1 w1 (0 : Int32) (255 : Int32)).bind (fun x6 => (f_X2_putAdded x6.2.1 (v4 + v6) x6.1).bind (fun x7 => f_X1_readCommand_L112 n1 w1  k112 (x7, x6.2.2.1, x6.2.2.2.1, x6.2.2.2.2) (v6 + (1 : Int32)) v5 v4)))
noncomputable def f_X1_readCommand_J82 (n1 : Nat) (w1 : TBytes)  (w0 : TDecoder) (v5 : Int32) (v4 : Int32) (v3 : Int32) (v2 : Int32) : Option TDecoder :=
  br (w0.2.2.2 = (-1 : Int32)) ((f_X2_push w0.1 v2 v3 v4 v5).bind (fun x5 => br (v2 = (2 : Int32)) (f_X1_readCommand_L112 n1 w1 FUEL (x5, w0.2.1, w0.2.2.1, w0.2.2.2) (0 : Int32) v5 v4) (some (x5, w0.2.1, w0.2.2.1, w0.2.2.2)))) (some w0)
noncomputable def f_X1_readCommand_J39 (n1 : Nat) (w1 : TBytes)  (w0 : TDecoder) (v2 : Int32) (s0 : Int32) : Option TDecoder :=
  (f_X1_next w0 n1 w1 (0 : Int32) (64 : Int32)).bind (fun x3 => (f_X1_next x3.2 n1 w1 (1 : Int32) (64 : Int32)).bind (fun x4 => br (x4.2.2.2.2 = (-1 : Int32)) ((f_X1_rangeFault x4.2 v2 s0 x3.1 x4.1).bind (fun x8 => f_X1_readCommand_J82 n1 w1 (x4.2.1, x4.2.2.1, x4.2.2.2.1, x8) x4.1 x3.1 s0 v2)) (f_X1_readCommand_J82 n1 w1 x4.2 x4.1 x3.1 s0 v2)))
noncomputable def f_X1_readCommand_J17 (n1 : Nat) (w1 : TBytes)  (w0 : TDecoder) (s0 : Int32) : Option TDecoder :=
  (f_X1_next w0 n1 w1 s0 (2 : Int32)).bind (fun x2 => br (x2.1 = (1 : Int32)) ((f_X1_next x2.2 n1 w1 (0 : Int32) (64 : Int32)).bind (fun x9 => f_X1_readCommand_J39 n1 w1 x9.2 x2.1 x9.1)) (f_X1_readCommand_J39 n1 w1 x2.2 x2.1 (-1 : Int32)))
noncomputable def f_X1_readCommand (w0 : TDecoder) (n1 : Nat) (w1 : TBytes) : Option TDecoder :=
  (f_X2_mayCopy w0.1).bind (fun x1 => br (x1 = 0) (f_X1_readCommand_J17 n1 w1 w0 (2 : Int32)) (f_X1_readCommand_J17 n1 w1 w0 (1 : Int32)))
set_option maxHeartbeats 4000000 in
set_option maxRecDepth 100000 in
theorem c_X1_readCommand (l : Launch) (G : GT) (hw0_0 hw0_1 hw0_2 hw0_3 hw0_4 hw0_5 hw0_6 hw0_7 : Nat) (hw1_0 hw1_1 : Nat) (w0 : TDecoder) (n1 : Nat) (w1 : TBytes) {r : TDecoder} (hf : f_X1_readCommand w0 n1 w1 = some r) : Ct l yX1_readCommand (Cond.code yX1_readCommand cX1_readCommand 7 none :: lw_g) rm_X1_readCommand G [.ref hw0_0, .ref hw1_0] [(hw0_0, .inr (1, [.ref hw0_1, .int w0.2.1, .int w0.2.2.1, .int w0.2.2.2])), (hw0_1, .inr (2, [.ref hw0_2, .ref hw0_3, .ref hw0_4, .ref hw0_5, .ref hw0_6, .ref hw0_7, .int w0.1.2.2.2.2.2.2.1, .int w0.1.2.2.2.2.2.2.2.1, .int w0.1.2.2.2.2.2.2.2.2.1, .int w0.1.2.2.2.2.2.2.2.2.2.1, .int w0.1.2.2.2.2.2.2.2.2.2.2])), (hw0_2, .inl (G.2.1, 30, .inl w0.1.1)), (hw0_3, .inl (G.2.1, 30, .inl w0.1.2.1)), (hw0_4, .inl (G.2.1, 30, .inl w0.1.2.2.1)), (hw0_5, .inl (G.2.1, 30, .inl w0.1.2.2.2.1)), (hw0_6, .inl (G.2.1, 30, .inl w0.1.2.2.2.2.1)), (hw0_7, .inl (G.2.1, 64, .inl w0.1.2.2.2.2.2.1)), (hw1_0, .inr (0, [.ref hw1_1, .int w1.2])), (hw1_1, .inl (G.2.1, n1, .inl w1.1))] none [(hw0_0, .inr (1, [.ref hw0_1, .int r.2.1, .int r.2.2.1, .int r.2.2.2])), (hw0_1, .inr (2, [.ref hw0_2, .ref hw0_3, .ref hw0_4, .ref hw0_5, .ref hw0_6, .ref hw0_7, .int r.1.2.2.2.2.2.2.1, .int r.1.2.2.2.2.2.2.2.1, .int r.1.2.2.2.2.2.2.2.2.1, .int r.1.2.2.2.2.2.2.2.2.2.1, .int r.1.2.2.2.2.2.2.2.2.2.2])), (hw0_2, .inl (G.2.1, 30, .inl r.1.1)), (hw0_3, .inl (G.2.1, 30, .inl r.1.2.1)), (hw0_4, .inl (G.2.1, 30, .inl r.1.2.2.1)), (hw0_5, .inl (G.2.1, 30, .inl r.1.2.2.2.1)), (hw0_6, .inl (G.2.1, 30, .inl r.1.2.2.2.2.1)), (hw0_7, .inl (G.2.1, 64, .inl r.1.2.2.2.2.2.1)), (hw1_0, .inr (0, [.ref hw1_1, .int w1.2])), (hw1_1, .inl (G.2.1, n1, .inl w1.1))] := by
  refine Ct.ofW (cc := cX1_readCommand) (maxL := 7) (ret := none) (own := RX1) (by decide) rfl rfl (Nat.le_of_ble_eq_true rfl) ?_
  intro p e s m args below meth c A hx hb hr hml hts hown hlocks hK hP hD hA hS ls hl
  have hl : lv_has ls 7 [(0, .ref hw0_0), (1, .ref hw1_0)] := hl
  generalize hQ : gMQ below G _ _ A args s = Q
  generalize hH : s.heap = H at hP ⊢
  have hS : va_S A s.heap H [] := by rw [← hH]; exact hS
  generalize ([] : List Loc) = locs at hS ⊢
  unfold f_X1_readCommand at hf
  have hL112 : ∀ (k112 : Nat) (w0 : TDecoder) (v6 : Int32) (v5 : Int32) (v4 : Int32), f_X1_readCommand_L112 n1 w1  k112 w0 v6 v5 v4 = some r → ∀ (H : Heap) (locs : List Loc), va_P G.1 vwCl [(hw0_0, .inr (1, [.ref hw0_1, .int w0.2.1, .int w0.2.2.1, .int w0.2.2.2])), (hw0_1, .inr (2, [.ref hw0_2, .ref hw0_3, .ref hw0_4, .ref hw0_5, .ref hw0_6, .ref hw0_7, .int w0.1.2.2.2.2.2.2.1, .int w0.1.2.2.2.2.2.2.2.1, .int w0.1.2.2.2.2.2.2.2.2.1, .int w0.1.2.2.2.2.2.2.2.2.2.1, .int w0.1.2.2.2.2.2.2.2.2.2.2])), (hw0_2, .inl (G.2.1, 30, .inl w0.1.1)), (hw0_3, .inl (G.2.1, 30, .inl w0.1.2.1)), (hw0_4, .inl (G.2.1, 30, .inl w0.1.2.2.1)), (hw0_5, .inl (G.2.1, 30, .inl w0.1.2.2.2.1)), (hw0_6, .inl (G.2.1, 30, .inl w0.1.2.2.2.2.1)), (hw0_7, .inl (G.2.1, 64, .inl w0.1.2.2.2.2.2.1)), (hw1_0, .inr (0, [.ref hw1_1, .int w1.2])), (hw1_1, .inl (G.2.1, n1, .inl w1.1))] H → va_D A [(hw0_0, .inr (1, [.ref hw0_1, .int w0.2.1, .int w0.2.2.1, .int w0.2.2.2])), (hw0_1, .inr (2, [.ref hw0_2, .ref hw0_3, .ref hw0_4, .ref hw0_5, .ref hw0_6, .ref hw0_7, .int w0.1.2.2.2.2.2.2.1, .int w0.1.2.2.2.2.2.2.2.1, .int w0.1.2.2.2.2.2.2.2.2.1, .int w0.1.2.2.2.2.2.2.2.2.2.1, .int w0.1.2.2.2.2.2.2.2.2.2.2])), (hw0_2, .inl (G.2.1, 30, .inl w0.1.1)), (hw0_3, .inl (G.2.1, 30, .inl w0.1.2.1)), (hw0_4, .inl (G.2.1, 30, .inl w0.1.2.2.1)), (hw0_5, .inl (G.2.1, 30, .inl w0.1.2.2.2.1)), (hw0_6, .inl (G.2.1, 30, .inl w0.1.2.2.2.2.1)), (hw0_7, .inl (G.2.1, 64, .inl w0.1.2.2.2.2.2.1)), (hw1_0, .inr (0, [.ref hw1_1, .int w1.2])), (hw1_1, .inl (G.2.1, n1, .inl w1.1))] → va_S A s.heap H locs → ∀ (ls : Array Slot), lv_has ls 7 [(6, .int v6), (5, .int v5), (4, .int v4), (0, .ref hw0_0), (1, .ref hw1_0)] → W p l e (rm_X1_readCommand) s m args below meth c H locs 0 0 Q (F0 m 112 ls []) := by
    intro k112
    induction k112 with
    | zero =>
      intro w0 v6 v5 v4 hf
      rw [f_X1_readCommand_L112.eq_1] at hf; cases hf
    | succ k112 ih112 =>
      intro w0 v6 v5 v4 hf H locs hP hD hS ls hl
      rw [f_X1_readCommand_L112.eq_2] at hf
      refine lv_iload (pc := 112) hx hb dX1_readCommand_112 (lv_at hl 0 rfl) ?_
      refine lv_iload (pc := 114) hx hb dX1_readCommand_114 (lv_at hl 1 rfl) ?_
      refine lv_icmp_ge (pc := 116) (tgt := 146) hx hb dX1_readCommand_116 (by decide) (fun hc => ?_) (fun hc => ?_)
      · have hf := br_y hc hf
        have hf := Option.some.inj hf; subst hf
        rw [← hQ]
        exact g_vret hx hb hr hlocks hP hS dX1_readCommand_146
      · have hf := br_n hc hf
        refine lv_aload_n (pc := 119) hx hb dX1_readCommand_119 rfl (lv_at hl 3 rfl) ?_
        refine va_get (pc := 120) (D := G.1) (ci := 1) (v := .ref hw0_1) (C := RX1) (T := TX1) (N := 4) hx hb hts inX1 hown hK.1 hP 0 rfl rfl 0 (by decide) (hts _ wd_218) (fun _ h9 => h9) rfl dX1_readCommand_120 ?_
        refine lv_iload (pc := 123) hx hb dX1_readCommand_123 (lv_at hl 2 rfl) ?_
        refine lv_iload (pc := 125) hx hb dX1_readCommand_125 (lv_at hl 0 rfl) ?_
        refine lv_iadd (pc := 127) hx hb dX1_readCommand_127 ?_
        refine lv_aload_n (pc := 128) hx hb dX1_readCommand_128 rfl (lv_at hl 3 rfl) ?_
        refine lv_aload_n (pc := 129) hx hb dX1_readCommand_129 rfl (lv_at hl 4 rfl) ?_
        refine lv_iconst (pc := 130) (v := (0 : Int32)) hx hb dX1_readCommand_130 (by decide) ?_
        refine lv_sipush (pc := 131) (v := (255 : Int32)) hx hb dX1_readCommand_131 (by decide) ?_
        obtain ⟨x6, hcx6, hf⟩ := bn_some hf
        refine g_callV (pc := 134) (ws' := [(hw0_0, .inr (1, [.ref hw0_1, .int x6.2.2.1, .int x6.2.2.2.1, .int x6.2.2.2.2])), (hw0_1, .inr (2, [.ref hw0_2, .ref hw0_3, .ref hw0_4, .ref hw0_5, .ref hw0_6, .ref hw0_7, .int x6.2.1.2.2.2.2.2.2.1, .int x6.2.1.2.2.2.2.2.2.2.1, .int x6.2.1.2.2.2.2.2.2.2.2.1, .int x6.2.1.2.2.2.2.2.2.2.2.2.1, .int x6.2.1.2.2.2.2.2.2.2.2.2.2])), (hw0_2, .inl (G.2.1, 30, .inl x6.2.1.1)), (hw0_3, .inl (G.2.1, 30, .inl x6.2.1.2.1)), (hw0_4, .inl (G.2.1, 30, .inl x6.2.1.2.2.1)), (hw0_5, .inl (G.2.1, 30, .inl x6.2.1.2.2.2.1)), (hw0_6, .inl (G.2.1, 30, .inl x6.2.1.2.2.2.2.1)), (hw0_7, .inl (G.2.1, 64, .inl x6.2.1.2.2.2.2.2.1)), (hw1_0, .inr (0, [.ref hw1_1, .int w1.2])), (hw1_1, .inl (G.2.1, n1, .inl w1.1))]) (rest := [.int (v4 + v6), .ref hw0_1]) hx hb hml hown hts hK (c_X1_next l G hw0_0 hw0_1 hw0_2 hw0_3 hw0_4 hw0_5 hw0_6 hw0_7 hw1_0 hw1_1 w0 n1 w1 (0 : Int32) (255 : Int32) hcx6) wd_419 wd_9 wd_416 wd_418 ws_2 hd_X1_next ⟨rfl, rfl, Nat.le_of_ble_eq_true rfl, Nat.le_of_ble_eq_true rfl⟩ hP hD hS hA [0, 1, 2, 3, 4, 5, 6, 7, 8, 9] rfl rfl rfl rfl 1 0 rfl rfl rfl rfl hl.1 rfl (Nat.le_of_ble_eq_true rfl) dX1_readCommand_134 ⟨Nat.zero_le _, Nat.zero_le _⟩ (fun H locs hP hD hS => ?_)
        obtain ⟨x7, hcx7, hf⟩ := bn_some hf
        refine g_callV (pc := 137) (ws' := [(hw0_0, .inr (1, [.ref hw0_1, .int x6.2.2.1, .int x6.2.2.2.1, .int x6.2.2.2.2])), (hw0_1, .inr (2, [.ref hw0_2, .ref hw0_3, .ref hw0_4, .ref hw0_5, .ref hw0_6, .ref hw0_7, .int x7.2.2.2.2.2.2.1, .int x7.2.2.2.2.2.2.2.1, .int x7.2.2.2.2.2.2.2.2.1, .int x7.2.2.2.2.2.2.2.2.2.1, .int x7.2.2.2.2.2.2.2.2.2.2])), (hw0_2, .inl (G.2.1, 30, .inl x7.1)), (hw0_3, .inl (G.2.1, 30, .inl x7.2.1)), (hw0_4, .inl (G.2.1, 30, .inl x7.2.2.1)), (hw0_5, .inl (G.2.1, 30, .inl x7.2.2.2.1)), (hw0_6, .inl (G.2.1, 30, .inl x7.2.2.2.2.1)), (hw0_7, .inl (G.2.1, 64, .inl x7.2.2.2.2.2.1)), (hw1_0, .inr (0, [.ref hw1_1, .int w1.2])), (hw1_1, .inl (G.2.1, n1, .inl w1.1))]) (rest := []) hx hb hml hown hts hK (c_X2_putAdded l G hw0_1 hw0_2 hw0_3 hw0_4 hw0_5 hw0_6 hw0_7 x6.2.1 (v4 + v6) x6.1 hcx7) wd_361 wd_5 wd_437 wd_359 wd_360 hd_X2_putAdded ⟨rfl, rfl, Nat.le_of_ble_eq_true rfl, Nat.le_of_ble_eq_true rfl⟩ hP hD hS hA [1, 2, 3, 4, 5, 6, 7] rfl rfl rfl rfl 2 1 rfl rfl rfl rfl hl.1 rfl (Nat.le_of_ble_eq_true rfl) dX1_readCommand_137 ⟨Nat.zero_le _, Nat.zero_le _⟩ (fun H locs hP hD hS => ?_)
        refine lv_iinc (pc := 140) (v := (v6 + (1 : Int32))) (lv' := [(6, .int (v6 + (1 : Int32))), (5, .int v5), (4, .int v4), (0, .ref hw0_0), (1, .ref hw1_0)]) hx hb dX1_readCommand_140 hl (k := 0) rfl rfl (by decide) rfl (fun ls hl => ?_)
        refine lv_goto (pc := 143) (tgt := 112) hx hb dX1_readCommand_143 (by decide) ?_
        exact ih112 (x7, x6.2.2.1, x6.2.2.2.1, x6.2.2.2.2) (v6 + (1 : Int32)) v5 v4 hf H locs hP hD hS ls (lv_sub hl [0, 1, 2, 3, 4] rfl)
  have hJ82 : ∀ (w0 : TDecoder) (v5 : Int32) (v4 : Int32) (v3 : Int32) (v2 : Int32), f_X1_readCommand_J82 n1 w1  w0 v5 v4 v3 v2 = some r → ∀ (H : Heap) (locs : List Loc), va_P G.1 vwCl [(hw0_0, .inr (1, [.ref hw0_1, .int w0.2.1, .int w0.2.2.1, .int w0.2.2.2])), (hw0_1, .inr (2, [.ref hw0_2, .ref hw0_3, .ref hw0_4, .ref hw0_5, .ref hw0_6, .ref hw0_7, .int w0.1.2.2.2.2.2.2.1, .int w0.1.2.2.2.2.2.2.2.1, .int w0.1.2.2.2.2.2.2.2.2.1, .int w0.1.2.2.2.2.2.2.2.2.2.1, .int w0.1.2.2.2.2.2.2.2.2.2.2])), (hw0_2, .inl (G.2.1, 30, .inl w0.1.1)), (hw0_3, .inl (G.2.1, 30, .inl w0.1.2.1)), (hw0_4, .inl (G.2.1, 30, .inl w0.1.2.2.1)), (hw0_5, .inl (G.2.1, 30, .inl w0.1.2.2.2.1)), (hw0_6, .inl (G.2.1, 30, .inl w0.1.2.2.2.2.1)), (hw0_7, .inl (G.2.1, 64, .inl w0.1.2.2.2.2.2.1)), (hw1_0, .inr (0, [.ref hw1_1, .int w1.2])), (hw1_1, .inl (G.2.1, n1, .inl w1.1))] H → va_D A [(hw0_0, .inr (1, [.ref hw0_1, .int w0.2.1, .int w0.2.2.1, .int w0.2.2.2])), (hw0_1, .inr (2, [.ref hw0_2, .ref hw0_3, .ref hw0_4, .ref hw0_5, .ref hw0_6, .ref hw0_7, .int w0.1.2.2.2.2.2.2.1, .int w0.1.2.2.2.2.2.2.2.1, .int w0.1.2.2.2.2.2.2.2.2.1, .int w0.1.2.2.2.2.2.2.2.2.2.1, .int w0.1.2.2.2.2.2.2.2.2.2.2])), (hw0_2, .inl (G.2.1, 30, .inl w0.1.1)), (hw0_3, .inl (G.2.1, 30, .inl w0.1.2.1)), (hw0_4, .inl (G.2.1, 30, .inl w0.1.2.2.1)), (hw0_5, .inl (G.2.1, 30, .inl w0.1.2.2.2.1)), (hw0_6, .inl (G.2.1, 30, .inl w0.1.2.2.2.2.1)), (hw0_7, .inl (G.2.1, 64, .inl w0.1.2.2.2.2.2.1)), (hw1_0, .inr (0, [.ref hw1_1, .int w1.2])), (hw1_1, .inl (G.2.1, n1, .inl w1.1))] → va_S A s.heap H locs → ∀ (ls : Array Slot), lv_has ls 7 [(5, .int v5), (4, .int v4), (3, .int v3), (2, .int v2), (0, .ref hw0_0), (1, .ref hw1_0)] → W p l e (rm_X1_readCommand) s m args below meth c H locs 0 0 Q (F0 m 82 ls []) := by
    intro w0 v5 v4 v3 v2 hf H locs hP hD hS ls hl
    unfold f_X1_readCommand_J82 at hf
    refine lv_aload_n (pc := 82) hx hb dX1_readCommand_82 rfl (lv_at hl 4 rfl) ?_
    refine va_get (pc := 83) (D := G.1) (ci := 1) (v := .int w0.2.2.2) (C := RX1) (T := TX1) (N := 4) hx hb hts inX1 hown hK.1 hP 0 rfl rfl 3 (by decide) (hts _ wd_222) (fun _ h9 => h9) rfl dX1_readCommand_83 ?_
    refine lv_iconst (pc := 86) (v := (-1 : Int32)) hx hb dX1_readCommand_86 (by decide) ?_
    refine lv_icmp_eq (pc := 87) (tgt := 91) hx hb dX1_readCommand_87 (by decide) (fun hc => ?_) (fun hc => ?_)
    · have hf := br_y hc hf
      refine lv_aload_n (pc := 91) hx hb dX1_readCommand_91 rfl (lv_at hl 4 rfl) ?_
      refine va_get (pc := 92) (D := G.1) (ci := 1) (v := .ref hw0_1) (C := RX1) (T := TX1) (N := 4) hx hb hts inX1 hown hK.1 hP 0 rfl rfl 0 (by decide) (hts _ wd_218) (fun _ h9 => h9) rfl dX1_readCommand_92 ?_
      refine lv_iload_n (pc := 95) hx hb dX1_readCommand_95 rfl (lv_at hl 3 rfl) ?_
      refine lv_iload_n (pc := 96) hx hb dX1_readCommand_96 rfl (lv_at hl 2 rfl) ?_
      refine lv_iload (pc := 97) hx hb dX1_readCommand_97 (lv_at hl 1 rfl) ?_
      refine lv_iload (pc := 99) hx hb dX1_readCommand_99 (lv_at hl 0 rfl) ?_
      obtain ⟨x5, hcx5, hf⟩ := bn_some hf
      refine g_callV (pc := 101) (ws' := [(hw0_0, .inr (1, [.ref hw0_1, .int w0.2.1, .int w0.2.2.1, .int w0.2.2.2])), (hw0_1, .inr (2, [.ref hw0_2, .ref hw0_3, .ref hw0_4, .ref hw0_5, .ref hw0_6, .ref hw0_7, .int x5.2.2.2.2.2.2.1, .int x5.2.2.2.2.2.2.2.1, .int x5.2.2.2.2.2.2.2.2.1, .int x5.2.2.2.2.2.2.2.2.2.1, .int x5.2.2.2.2.2.2.2.2.2.2])), (hw0_2, .inl (G.2.1, 30, .inl x5.1)), (hw0_3, .inl (G.2.1, 30, .inl x5.2.1)), (hw0_4, .inl (G.2.1, 30, .inl x5.2.2.1)), (hw0_5, .inl (G.2.1, 30, .inl x5.2.2.2.1)), (hw0_6, .inl (G.2.1, 30, .inl x5.2.2.2.2.1)), (hw0_7, .inl (G.2.1, 64, .inl x5.2.2.2.2.2.1)), (hw1_0, .inr (0, [.ref hw1_1, .int w1.2])), (hw1_1, .inl (G.2.1, n1, .inl w1.1))]) (rest := []) hx hb hml hown hts hK (c_X2_push l G hw0_1 hw0_2 hw0_3 hw0_4 hw0_5 hw0_6 hw0_7 w0.1 v2 v3 v4 v5 hcx5) wd_322 wd_5 wd_436 wd_320 wd_321 hd_X2_push ⟨rfl, rfl, Nat.le_of_ble_eq_true rfl, Nat.le_of_ble_eq_true rfl⟩ hP hD hS hA [1, 2, 3, 4, 5, 6, 7] rfl rfl rfl rfl 2 1 rfl rfl rfl rfl hl.1 rfl (Nat.le_of_ble_eq_true rfl) dX1_readCommand_101 ⟨Nat.zero_le _, Nat.zero_le _⟩ (fun H locs hP hD hS => ?_)
      refine lv_iload_n (pc := 104) hx hb dX1_readCommand_104 rfl (lv_at hl 3 rfl) ?_
      refine lv_iconst (pc := 105) (v := (2 : Int32)) hx hb dX1_readCommand_105 (by decide) ?_
      refine lv_icmp_ne (pc := 106) (tgt := 146) hx hb dX1_readCommand_106 (by decide) (fun hc => ?_) (fun hc => ?_)
      · have hf := br_n hc hf
        have hf := Option.some.inj hf; subst hf
        rw [← hQ]
        exact g_vret hx hb hr hlocks hP hS dX1_readCommand_146
      · have hf := br_y hc hf
        refine lv_iconst (pc := 109) (v := (0 : Int32)) hx hb dX1_readCommand_109 (by decide) ?_
        refine lv_istore (pc := 110) (lv' := [(6, .int (0 : Int32)), (5, .int v5), (4, .int v4), (3, .int v3), (2, .int v2), (0, .ref hw0_0), (1, .ref hw1_0)]) hx hb dX1_readCommand_110 hl (by decide) rfl (fun ls hl => ?_)
        exact hL112 FUEL (x5, w0.2.1, w0.2.2.1, w0.2.2.2) (0 : Int32) v5 v4 hf H locs hP hD hS ls (lv_sub hl [0, 1, 2, 5, 6] rfl)
    · have hf := br_n hc hf
      have hf := Option.some.inj hf; subst hf
      rw [← hQ]
      exact g_vret hx hb hr hlocks hP hS dX1_readCommand_90
  have hJ39 : ∀ (w0 : TDecoder) (v2 : Int32) (s0 : Int32), f_X1_readCommand_J39 n1 w1  w0 v2 s0 = some r → ∀ (H : Heap) (locs : List Loc), va_P G.1 vwCl [(hw0_0, .inr (1, [.ref hw0_1, .int w0.2.1, .int w0.2.2.1, .int w0.2.2.2])), (hw0_1, .inr (2, [.ref hw0_2, .ref hw0_3, .ref hw0_4, .ref hw0_5, .ref hw0_6, .ref hw0_7, .int w0.1.2.2.2.2.2.2.1, .int w0.1.2.2.2.2.2.2.2.1, .int w0.1.2.2.2.2.2.2.2.2.1, .int w0.1.2.2.2.2.2.2.2.2.2.1, .int w0.1.2.2.2.2.2.2.2.2.2.2])), (hw0_2, .inl (G.2.1, 30, .inl w0.1.1)), (hw0_3, .inl (G.2.1, 30, .inl w0.1.2.1)), (hw0_4, .inl (G.2.1, 30, .inl w0.1.2.2.1)), (hw0_5, .inl (G.2.1, 30, .inl w0.1.2.2.2.1)), (hw0_6, .inl (G.2.1, 30, .inl w0.1.2.2.2.2.1)), (hw0_7, .inl (G.2.1, 64, .inl w0.1.2.2.2.2.2.1)), (hw1_0, .inr (0, [.ref hw1_1, .int w1.2])), (hw1_1, .inl (G.2.1, n1, .inl w1.1))] H → va_D A [(hw0_0, .inr (1, [.ref hw0_1, .int w0.2.1, .int w0.2.2.1, .int w0.2.2.2])), (hw0_1, .inr (2, [.ref hw0_2, .ref hw0_3, .ref hw0_4, .ref hw0_5, .ref hw0_6, .ref hw0_7, .int w0.1.2.2.2.2.2.2.1, .int w0.1.2.2.2.2.2.2.2.1, .int w0.1.2.2.2.2.2.2.2.2.1, .int w0.1.2.2.2.2.2.2.2.2.2.1, .int w0.1.2.2.2.2.2.2.2.2.2.2])), (hw0_2, .inl (G.2.1, 30, .inl w0.1.1)), (hw0_3, .inl (G.2.1, 30, .inl w0.1.2.1)), (hw0_4, .inl (G.2.1, 30, .inl w0.1.2.2.1)), (hw0_5, .inl (G.2.1, 30, .inl w0.1.2.2.2.1)), (hw0_6, .inl (G.2.1, 30, .inl w0.1.2.2.2.2.1)), (hw0_7, .inl (G.2.1, 64, .inl w0.1.2.2.2.2.2.1)), (hw1_0, .inr (0, [.ref hw1_1, .int w1.2])), (hw1_1, .inl (G.2.1, n1, .inl w1.1))] → va_S A s.heap H locs → ∀ (ls : Array Slot), lv_has ls 7 [(2, .int v2), (0, .ref hw0_0), (1, .ref hw1_0)] → W p l e (rm_X1_readCommand) s m args below meth c H locs 0 0 Q (F0 m 39 ls [.int s0]) := by
    intro w0 v2 s0 hf H locs hP hD hS ls hl
    unfold f_X1_readCommand_J39 at hf
    refine lv_istore_n (pc := 39) (lv' := [(3, .int s0), (2, .int v2), (0, .ref hw0_0), (1, .ref hw1_0)]) hx hb dX1_readCommand_39 rfl hl (by decide) rfl (fun ls hl => ?_)
    refine lv_aload_n (pc := 40) hx hb dX1_readCommand_40 rfl (lv_at hl 2 rfl) ?_
    refine lv_aload_n (pc := 41) hx hb dX1_readCommand_41 rfl (lv_at hl 3 rfl) ?_
    refine lv_iconst (pc := 42) (v := (0 : Int32)) hx hb dX1_readCommand_42 (by decide) ?_
    refine lv_bipush (pc := 43) (v := (64 : Int32)) hx hb dX1_readCommand_43 (by decide) ?_
    obtain ⟨x3, hcx3, hf⟩ := bn_some hf
    refine g_callV (pc := 45) (ws' := [(hw0_0, .inr (1, [.ref hw0_1, .int x3.2.2.1, .int x3.2.2.2.1, .int x3.2.2.2.2])), (hw0_1, .inr (2, [.ref hw0_2, .ref hw0_3, .ref hw0_4, .ref hw0_5, .ref hw0_6, .ref hw0_7, .int x3.2.1.2.2.2.2.2.2.1, .int x3.2.1.2.2.2.2.2.2.2.1, .int x3.2.1.2.2.2.2.2.2.2.2.1, .int x3.2.1.2.2.2.2.2.2.2.2.2.1, .int x3.2.1.2.2.2.2.2.2.2.2.2.2])), (hw0_2, .inl (G.2.1, 30, .inl x3.2.1.1)), (hw0_3, .inl (G.2.1, 30, .inl x3.2.1.2.1)), (hw0_4, .inl (G.2.1, 30, .inl x3.2.1.2.2.1)), (hw0_5, .inl (G.2.1, 30, .inl x3.2.1.2.2.2.1)), (hw0_6, .inl (G.2.1, 30, .inl x3.2.1.2.2.2.2.1)), (hw0_7, .inl (G.2.1, 64, .inl x3.2.1.2.2.2.2.2.1)), (hw1_0, .inr (0, [.ref hw1_1, .int w1.2])), (hw1_1, .inl (G.2.1, n1, .inl w1.1))]) (rest := []) hx hb hml hown hts hK (c_X1_next l G hw0_0 hw0_1 hw0_2 hw0_3 hw0_4 hw0_5 hw0_6 hw0_7 hw1_0 hw1_1 w0 n1 w1 (0 : Int32) (64 : Int32) hcx3) wd_419 wd_9 wd_416 wd_418 ws_2 hd_X1_next ⟨rfl, rfl, Nat.le_of_ble_eq_true rfl, Nat.le_of_ble_eq_true rfl⟩ hP hD hS hA [0, 1, 2, 3, 4, 5, 6, 7, 8, 9] rfl rfl rfl rfl 1 0 rfl rfl rfl rfl hl.1 rfl (Nat.le_of_ble_eq_true rfl) dX1_readCommand_45 ⟨Nat.zero_le _, Nat.zero_le _⟩ (fun H locs hP hD hS => ?_)
    refine lv_istore (pc := 48) (lv' := [(4, .int x3.1), (3, .int s0), (2, .int v2), (0, .ref hw0_0), (1, .ref hw1_0)]) hx hb dX1_readCommand_48 hl (by decide) rfl (fun ls hl => ?_)
    refine lv_aload_n (pc := 50) hx hb dX1_readCommand_50 rfl (lv_at hl 3 rfl) ?_
    refine lv_aload_n (pc := 51) hx hb dX1_readCommand_51 rfl (lv_at hl 4 rfl) ?_
    refine lv_iconst (pc := 52) (v := (1 : Int32)) hx hb dX1_readCommand_52 (by decide) ?_
    refine lv_bipush (pc := 53) (v := (64 : Int32)) hx hb dX1_readCommand_53 (by decide) ?_
    obtain ⟨x4, hcx4, hf⟩ := bn_some hf
    refine g_callV (pc := 55) (ws' := [(hw0_0, .inr (1, [.ref hw0_1, .int x4.2.2.1, .int x4.2.2.2.1, .int x4.2.2.2.2])), (hw0_1, .inr (2, [.ref hw0_2, .ref hw0_3, .ref hw0_4, .ref hw0_5, .ref hw0_6, .ref hw0_7, .int x4.2.1.2.2.2.2.2.2.1, .int x4.2.1.2.2.2.2.2.2.2.1, .int x4.2.1.2.2.2.2.2.2.2.2.1, .int x4.2.1.2.2.2.2.2.2.2.2.2.1, .int x4.2.1.2.2.2.2.2.2.2.2.2.2])), (hw0_2, .inl (G.2.1, 30, .inl x4.2.1.1)), (hw0_3, .inl (G.2.1, 30, .inl x4.2.1.2.1)), (hw0_4, .inl (G.2.1, 30, .inl x4.2.1.2.2.1)), (hw0_5, .inl (G.2.1, 30, .inl x4.2.1.2.2.2.1)), (hw0_6, .inl (G.2.1, 30, .inl x4.2.1.2.2.2.2.1)), (hw0_7, .inl (G.2.1, 64, .inl x4.2.1.2.2.2.2.2.1)), (hw1_0, .inr (0, [.ref hw1_1, .int w1.2])), (hw1_1, .inl (G.2.1, n1, .inl w1.1))]) (rest := []) hx hb hml hown hts hK (c_X1_next l G hw0_0 hw0_1 hw0_2 hw0_3 hw0_4 hw0_5 hw0_6 hw0_7 hw1_0 hw1_1 x3.2 n1 w1 (1 : Int32) (64 : Int32) hcx4) wd_419 wd_9 wd_416 wd_418 ws_2 hd_X1_next ⟨rfl, rfl, Nat.le_of_ble_eq_true rfl, Nat.le_of_ble_eq_true rfl⟩ hP hD hS hA [0, 1, 2, 3, 4, 5, 6, 7, 8, 9] rfl rfl rfl rfl 1 0 rfl rfl rfl rfl hl.1 rfl (Nat.le_of_ble_eq_true rfl) dX1_readCommand_55 ⟨Nat.zero_le _, Nat.zero_le _⟩ (fun H locs hP hD hS => ?_)
    refine lv_istore (pc := 58) (lv' := [(5, .int x4.1), (4, .int x3.1), (3, .int s0), (2, .int v2), (0, .ref hw0_0), (1, .ref hw1_0)]) hx hb dX1_readCommand_58 hl (by decide) rfl (fun ls hl => ?_)
    refine lv_aload_n (pc := 60) hx hb dX1_readCommand_60 rfl (lv_at hl 4 rfl) ?_
    refine va_get (pc := 61) (D := G.1) (ci := 1) (v := .int x4.2.2.2.2) (C := RX1) (T := TX1) (N := 4) hx hb hts inX1 hown hK.1 hP 0 rfl rfl 3 (by decide) (hts _ wd_222) (fun _ h9 => h9) rfl dX1_readCommand_61 ?_
    refine lv_iconst (pc := 64) (v := (-1 : Int32)) hx hb dX1_readCommand_64 (by decide) ?_
    refine lv_icmp_ne (pc := 65) (tgt := 82) hx hb dX1_readCommand_65 (by decide) (fun hc => ?_) (fun hc => ?_)
    · have hf := br_n hc hf
      exact hJ82 x4.2 x4.1 x3.1 s0 v2 hf H locs hP hD hS ls (lv_sub hl [0, 1, 2, 3, 4, 5] rfl)
    · have hf := br_y hc hf
      refine lv_aload_n (pc := 68) hx hb dX1_readCommand_68 rfl (lv_at hl 4 rfl) ?_
      refine lv_aload_n (pc := 69) hx hb dX1_readCommand_69 rfl (lv_at hl 4 rfl) ?_
      refine lv_iload_n (pc := 70) hx hb dX1_readCommand_70 rfl (lv_at hl 3 rfl) ?_
      refine lv_iload_n (pc := 71) hx hb dX1_readCommand_71 rfl (lv_at hl 2 rfl) ?_
      refine lv_iload (pc := 72) hx hb dX1_readCommand_72 (lv_at hl 1 rfl) ?_
      refine lv_iload (pc := 74) hx hb dX1_readCommand_74 (lv_at hl 0 rfl) ?_
      obtain ⟨x8, hcx8, hf⟩ := bn_some hf
      refine g_callV0 (pc := 76) (rest := [.ref hw0_0]) hx hb hml hown hts hK (c_X1_rangeFault l G hw0_0 hw0_1 hw0_2 hw0_3 hw0_4 hw0_5 hw0_6 hw0_7 x4.2 v2 s0 x3.1 x4.1 hcx8) wd_431 wd_9 wd_428 wd_430 ws_4 hd_X1_rangeFault ⟨rfl, rfl, Nat.le_of_ble_eq_true rfl, Nat.le_of_ble_eq_true rfl⟩ hP hD hS hA [0, 1, 2, 3, 4, 5, 6, 7] rfl rfl 1 0 rfl rfl rfl rfl hl.1 rfl (Nat.le_of_ble_eq_true rfl) dX1_readCommand_76 ⟨Nat.zero_le _, Nat.zero_le _⟩ (fun H locs hP hS => ?_)
      refine va_put (pc := 79) (D := G.1) (ci := 1) (v := .int x8) (ty := .int) (C := RX1) (T := TX1) (N := 4) hx hb hts inX1 tyX1 tyX1_ok nmX1 hown hK.1 hP hD hS 0 rfl rfl 3 (by decide) (hts _ wd_222) (fun _ h9 => h9) rfl (by decide +kernel) rfl rfl (Nat.le_of_ble_eq_true rfl) dX1_readCommand_79 (fun H locs hP hD hS => ?_)
      have hP : va_P G.1 vwCl [(hw0_0, .inr (1, [.ref hw0_1, .int x4.2.2.1, .int x4.2.2.2.1, .int x8])), (hw0_1, .inr (2, [.ref hw0_2, .ref hw0_3, .ref hw0_4, .ref hw0_5, .ref hw0_6, .ref hw0_7, .int x4.2.1.2.2.2.2.2.2.1, .int x4.2.1.2.2.2.2.2.2.2.1, .int x4.2.1.2.2.2.2.2.2.2.2.1, .int x4.2.1.2.2.2.2.2.2.2.2.2.1, .int x4.2.1.2.2.2.2.2.2.2.2.2.2])), (hw0_2, .inl (G.2.1, 30, .inl x4.2.1.1)), (hw0_3, .inl (G.2.1, 30, .inl x4.2.1.2.1)), (hw0_4, .inl (G.2.1, 30, .inl x4.2.1.2.2.1)), (hw0_5, .inl (G.2.1, 30, .inl x4.2.1.2.2.2.1)), (hw0_6, .inl (G.2.1, 30, .inl x4.2.1.2.2.2.2.1)), (hw0_7, .inl (G.2.1, 64, .inl x4.2.1.2.2.2.2.2.1)), (hw1_0, .inr (0, [.ref hw1_1, .int w1.2])), (hw1_1, .inl (G.2.1, n1, .inl w1.1))] H := hP
      have hD : va_D A [(hw0_0, .inr (1, [.ref hw0_1, .int x4.2.2.1, .int x4.2.2.2.1, .int x8])), (hw0_1, .inr (2, [.ref hw0_2, .ref hw0_3, .ref hw0_4, .ref hw0_5, .ref hw0_6, .ref hw0_7, .int x4.2.1.2.2.2.2.2.2.1, .int x4.2.1.2.2.2.2.2.2.2.1, .int x4.2.1.2.2.2.2.2.2.2.2.1, .int x4.2.1.2.2.2.2.2.2.2.2.2.1, .int x4.2.1.2.2.2.2.2.2.2.2.2.2])), (hw0_2, .inl (G.2.1, 30, .inl x4.2.1.1)), (hw0_3, .inl (G.2.1, 30, .inl x4.2.1.2.1)), (hw0_4, .inl (G.2.1, 30, .inl x4.2.1.2.2.1)), (hw0_5, .inl (G.2.1, 30, .inl x4.2.1.2.2.2.1)), (hw0_6, .inl (G.2.1, 30, .inl x4.2.1.2.2.2.2.1)), (hw0_7, .inl (G.2.1, 64, .inl x4.2.1.2.2.2.2.2.1)), (hw1_0, .inr (0, [.ref hw1_1, .int w1.2])), (hw1_1, .inl (G.2.1, n1, .inl w1.1))] := hD
      exact hJ82 (x4.2.1, x4.2.2.1, x4.2.2.2.1, x8) x4.1 x3.1 s0 v2 hf H locs hP hD hS ls (lv_sub hl [0, 1, 2, 3, 4, 5] rfl)
  have hJ17 : ∀ (w0 : TDecoder) (s0 : Int32), f_X1_readCommand_J17 n1 w1  w0 s0 = some r → ∀ (H : Heap) (locs : List Loc), va_P G.1 vwCl [(hw0_0, .inr (1, [.ref hw0_1, .int w0.2.1, .int w0.2.2.1, .int w0.2.2.2])), (hw0_1, .inr (2, [.ref hw0_2, .ref hw0_3, .ref hw0_4, .ref hw0_5, .ref hw0_6, .ref hw0_7, .int w0.1.2.2.2.2.2.2.1, .int w0.1.2.2.2.2.2.2.2.1, .int w0.1.2.2.2.2.2.2.2.2.1, .int w0.1.2.2.2.2.2.2.2.2.2.1, .int w0.1.2.2.2.2.2.2.2.2.2.2])), (hw0_2, .inl (G.2.1, 30, .inl w0.1.1)), (hw0_3, .inl (G.2.1, 30, .inl w0.1.2.1)), (hw0_4, .inl (G.2.1, 30, .inl w0.1.2.2.1)), (hw0_5, .inl (G.2.1, 30, .inl w0.1.2.2.2.1)), (hw0_6, .inl (G.2.1, 30, .inl w0.1.2.2.2.2.1)), (hw0_7, .inl (G.2.1, 64, .inl w0.1.2.2.2.2.2.1)), (hw1_0, .inr (0, [.ref hw1_1, .int w1.2])), (hw1_1, .inl (G.2.1, n1, .inl w1.1))] H → va_D A [(hw0_0, .inr (1, [.ref hw0_1, .int w0.2.1, .int w0.2.2.1, .int w0.2.2.2])), (hw0_1, .inr (2, [.ref hw0_2, .ref hw0_3, .ref hw0_4, .ref hw0_5, .ref hw0_6, .ref hw0_7, .int w0.1.2.2.2.2.2.2.1, .int w0.1.2.2.2.2.2.2.2.1, .int w0.1.2.2.2.2.2.2.2.2.1, .int w0.1.2.2.2.2.2.2.2.2.2.1, .int w0.1.2.2.2.2.2.2.2.2.2.2])), (hw0_2, .inl (G.2.1, 30, .inl w0.1.1)), (hw0_3, .inl (G.2.1, 30, .inl w0.1.2.1)), (hw0_4, .inl (G.2.1, 30, .inl w0.1.2.2.1)), (hw0_5, .inl (G.2.1, 30, .inl w0.1.2.2.2.1)), (hw0_6, .inl (G.2.1, 30, .inl w0.1.2.2.2.2.1)), (hw0_7, .inl (G.2.1, 64, .inl w0.1.2.2.2.2.2.1)), (hw1_0, .inr (0, [.ref hw1_1, .int w1.2])), (hw1_1, .inl (G.2.1, n1, .inl w1.1))] → va_S A s.heap H locs → ∀ (ls : Array Slot), lv_has ls 7 [(0, .ref hw0_0), (1, .ref hw1_0)] → W p l e (rm_X1_readCommand) s m args below meth c H locs 0 0 Q (F0 m 17 ls [.int s0, .ref hw1_0, .ref hw0_0]) := by
    intro w0 s0 hf H locs hP hD hS ls hl
    unfold f_X1_readCommand_J17 at hf
    refine lv_iconst (pc := 17) (v := (2 : Int32)) hx hb dX1_readCommand_17 (by decide) ?_
    obtain ⟨x2, hcx2, hf⟩ := bn_some hf
    refine g_callV (pc := 18) (ws' := [(hw0_0, .inr (1, [.ref hw0_1, .int x2.2.2.1, .int x2.2.2.2.1, .int x2.2.2.2.2])), (hw0_1, .inr (2, [.ref hw0_2, .ref hw0_3, .ref hw0_4, .ref hw0_5, .ref hw0_6, .ref hw0_7, .int x2.2.1.2.2.2.2.2.2.1, .int x2.2.1.2.2.2.2.2.2.2.1, .int x2.2.1.2.2.2.2.2.2.2.2.1, .int x2.2.1.2.2.2.2.2.2.2.2.2.1, .int x2.2.1.2.2.2.2.2.2.2.2.2.2])), (hw0_2, .inl (G.2.1, 30, .inl x2.2.1.1)), (hw0_3, .inl (G.2.1, 30, .inl x2.2.1.2.1)), (hw0_4, .inl (G.2.1, 30, .inl x2.2.1.2.2.1)), (hw0_5, .inl (G.2.1, 30, .inl x2.2.1.2.2.2.1)), (hw0_6, .inl (G.2.1, 30, .inl x2.2.1.2.2.2.2.1)), (hw0_7, .inl (G.2.1, 64, .inl x2.2.1.2.2.2.2.2.1)), (hw1_0, .inr (0, [.ref hw1_1, .int w1.2])), (hw1_1, .inl (G.2.1, n1, .inl w1.1))]) (rest := []) hx hb hml hown hts hK (c_X1_next l G hw0_0 hw0_1 hw0_2 hw0_3 hw0_4 hw0_5 hw0_6 hw0_7 hw1_0 hw1_1 w0 n1 w1 s0 (2 : Int32) hcx2) wd_419 wd_9 wd_416 wd_418 ws_2 hd_X1_next ⟨rfl, rfl, Nat.le_of_ble_eq_true rfl, Nat.le_of_ble_eq_true rfl⟩ hP hD hS hA [0, 1, 2, 3, 4, 5, 6, 7, 8, 9] rfl rfl rfl rfl 1 0 rfl rfl rfl rfl hl.1 rfl (Nat.le_of_ble_eq_true rfl) dX1_readCommand_18 ⟨Nat.zero_le _, Nat.zero_le _⟩ (fun H locs hP hD hS => ?_)
    refine lv_istore_n (pc := 21) (lv' := [(2, .int x2.1), (0, .ref hw0_0), (1, .ref hw1_0)]) hx hb dX1_readCommand_21 rfl hl (by decide) rfl (fun ls hl => ?_)
    refine lv_iload_n (pc := 22) hx hb dX1_readCommand_22 rfl (lv_at hl 0 rfl) ?_
    refine lv_iconst (pc := 23) (v := (1 : Int32)) hx hb dX1_readCommand_23 (by decide) ?_
    refine lv_icmp_ne (pc := 24) (tgt := 38) hx hb dX1_readCommand_24 (by decide) (fun hc => ?_) (fun hc => ?_)
    · have hf := br_n hc hf
      refine lv_iconst (pc := 38) (v := (-1 : Int32)) hx hb dX1_readCommand_38 (by decide) ?_
      exact hJ39 x2.2 x2.1 (-1 : Int32) hf H locs hP hD hS ls (lv_sub hl [0, 1, 2] rfl)
    · have hf := br_y hc hf
      refine lv_aload_n (pc := 27) hx hb dX1_readCommand_27 rfl (lv_at hl 1 rfl) ?_
      refine lv_aload_n (pc := 28) hx hb dX1_readCommand_28 rfl (lv_at hl 2 rfl) ?_
      refine lv_iconst (pc := 29) (v := (0 : Int32)) hx hb dX1_readCommand_29 (by decide) ?_
      refine lv_bipush (pc := 30) (v := (64 : Int32)) hx hb dX1_readCommand_30 (by decide) ?_
      obtain ⟨x9, hcx9, hf⟩ := bn_some hf
      refine g_callV (pc := 32) (ws' := [(hw0_0, .inr (1, [.ref hw0_1, .int x9.2.2.1, .int x9.2.2.2.1, .int x9.2.2.2.2])), (hw0_1, .inr (2, [.ref hw0_2, .ref hw0_3, .ref hw0_4, .ref hw0_5, .ref hw0_6, .ref hw0_7, .int x9.2.1.2.2.2.2.2.2.1, .int x9.2.1.2.2.2.2.2.2.2.1, .int x9.2.1.2.2.2.2.2.2.2.2.1, .int x9.2.1.2.2.2.2.2.2.2.2.2.1, .int x9.2.1.2.2.2.2.2.2.2.2.2.2])), (hw0_2, .inl (G.2.1, 30, .inl x9.2.1.1)), (hw0_3, .inl (G.2.1, 30, .inl x9.2.1.2.1)), (hw0_4, .inl (G.2.1, 30, .inl x9.2.1.2.2.1)), (hw0_5, .inl (G.2.1, 30, .inl x9.2.1.2.2.2.1)), (hw0_6, .inl (G.2.1, 30, .inl x9.2.1.2.2.2.2.1)), (hw0_7, .inl (G.2.1, 64, .inl x9.2.1.2.2.2.2.2.1)), (hw1_0, .inr (0, [.ref hw1_1, .int w1.2])), (hw1_1, .inl (G.2.1, n1, .inl w1.1))]) (rest := []) hx hb hml hown hts hK (c_X1_next l G hw0_0 hw0_1 hw0_2 hw0_3 hw0_4 hw0_5 hw0_6 hw0_7 hw1_0 hw1_1 x2.2 n1 w1 (0 : Int32) (64 : Int32) hcx9) wd_419 wd_9 wd_416 wd_418 ws_2 hd_X1_next ⟨rfl, rfl, Nat.le_of_ble_eq_true rfl, Nat.le_of_ble_eq_true rfl⟩ hP hD hS hA [0, 1, 2, 3, 4, 5, 6, 7, 8, 9] rfl rfl rfl rfl 1 0 rfl rfl rfl rfl hl.1 rfl (Nat.le_of_ble_eq_true rfl) dX1_readCommand_32 ⟨Nat.zero_le _, Nat.zero_le _⟩ (fun H locs hP hD hS => ?_)
      refine lv_goto (pc := 35) (tgt := 39) hx hb dX1_readCommand_35 (by decide) ?_
      exact hJ39 x9.2 x2.1 x9.1 hf H locs hP hD hS ls (lv_sub hl [0, 1, 2] rfl)
  refine lv_aload_n (pc := 0) hx hb dX1_readCommand_0 rfl (lv_at hl 0 rfl) ?_
  refine lv_aload_n (pc := 1) hx hb dX1_readCommand_1 rfl (lv_at hl 1 rfl) ?_
  refine lv_aload_n (pc := 2) hx hb dX1_readCommand_2 rfl (lv_at hl 0 rfl) ?_
  refine va_get (pc := 3) (D := G.1) (ci := 1) (v := .ref hw0_1) (C := RX1) (T := TX1) (N := 4) hx hb hts inX1 hown hK.1 hP 0 rfl rfl 0 (by decide) (hts _ wd_218) (fun _ h9 => h9) rfl dX1_readCommand_3 ?_
  obtain ⟨x1, hcx1, hf⟩ := bn_some hf
  refine g_callV0 (pc := 6) (rest := [.ref hw1_0, .ref hw0_0]) hx hb hml hown hts hK (c_X2_mayCopy l G hw0_1 hw0_2 hw0_3 hw0_4 hw0_5 hw0_6 hw0_7 w0.1 hcx1) wd_294 wd_5 wd_427 wd_292 wd_293 hd_X2_mayCopy ⟨rfl, rfl, Nat.le_of_ble_eq_true rfl, Nat.le_of_ble_eq_true rfl⟩ hP hD hS hA [1, 2, 3, 4, 5, 6, 7] rfl rfl 2 1 rfl rfl rfl rfl hl.1 rfl (Nat.le_of_ble_eq_true rfl) dX1_readCommand_6 ⟨Nat.zero_le _, Nat.zero_le _⟩ (fun H locs hP hS => ?_)
  refine lv_if_eq (pc := 9) (tgt := 16) hx hb dX1_readCommand_9 (by decide) (fun hc => ?_) (fun hc => ?_)
  · have hf := br_y hc hf
    refine lv_iconst (pc := 16) (v := (2 : Int32)) hx hb dX1_readCommand_16 (by decide) ?_
    exact hJ17 w0 (2 : Int32) hf H locs hP hD hS ls (lv_sub hl [0, 1] rfl)
  · have hf := br_n hc hf
    refine lv_iconst (pc := 12) (v := (1 : Int32)) hx hb dX1_readCommand_12 (by decide) ?_
    refine lv_goto (pc := 13) (tgt := 17) hx hb dX1_readCommand_13 (by decide) ?_
    exact hJ17 w0 (1 : Int32) hf H locs hP hD hS ls (lv_sub hl [0, 1] rfl)
theorem hd_X1_read : yX1_read.cls ≠ "java/lang/invoke/MethodHandle" ∧ yX1_read.cls ≠ "java/lang/invoke/VarHandle" ∧ (parseMethodDescriptor yX1_read.desc).map (fun d => d.parameters.length) = some 1 := by decide +kernel
abbrev rm_X1_read : Room := { frames := 6, cells := 0, slots := 0, locals := 136 }
noncomputable def f_X1_read_J91 (n1 : Nat) (w1 : TBytes)  (w0 : TDecoder) : Option (Int32 × TDecoder) :=
  nm (w0.2.2.1 - w0.2.2.1 / (251 : Int32) * (251 : Int32)) (fun x6 => (f_X1_next w0 n1 w1 x6 x6).bind (fun x7 => br (x7.2.2.2.2 = (-1 : Int32)) ((f_X0_has n1 w1 x7.2.2.1).bind (fun x8 => br (x8 = 0) (some (x7.2.2.2.2, x7.2)) (some (x7.2.2.1, (x7.2.1, x7.2.2.1, x7.2.2.2.1, x7.2.2.1))))) (some (x7.2.2.2.2, x7.2))))
noncomputable def f_X1_read_L65 (n1 : Nat) (w1 : TBytes)  : Nat → TDecoder → Int32 → Int32 → Option (Int32 × TDecoder)
  | 0, _, _, _ => none
  | k65 + 1, w0, v5, v4 =>
    br (v4 ≤ v5) (f_X1_read_J91 n1 w1 w0) (br (w0.2.2.2 = (-1 : Int32)) ((f_X1_readCommand w0 n1 w1).bind (fun x9 => f_X1_read_L65 n1 w1  k65 x9 (v5 + (1 : Int32)) v4)) (f_X1_read_J91 n1 w1 w0))
noncomputable def f_X1_read (w0 : TDecoder) (n1 : Nat) (w1 : TBytes) : Option (Int32 × TDecoder) :=
  (f_X1_next (w0.1, (0 : Int32), (0 : Int32), (-1 : Int32)) n1 w1 (73 : Int32) (73 : Int32)).bind (fun x1 => (f_X1_next x1.2 n1 w1 (0 : Int32) (64 : Int32)).bind (fun x2 => (f_X1_next x2.2 n1 w1 (0 : Int32) (64 : Int32)).bind (fun x3 => (f_X1_next x3.2 n1 w1 (0 : Int32) (30 : Int32)).bind (fun x4 => (f_X2_reset x4.2.1 x2.1 x3.1).bind (fun x5 => f_X1_read_L65 n1 w1 FUEL (x5, x4.2.2.1, x4.2.2.2.1, x4.2.2.2.2) (0 : Int32) x4.1)))))
set_option maxHeartbeats 4000000 in
set_option maxRecDepth 100000 in
theorem c_X1_read (l : Launch) (G : GT) (hw0_0 hw0_1 hw0_2 hw0_3 hw0_4 hw0_5 hw0_6 hw0_7 : Nat) (hw1_0 hw1_1 : Nat) (w0 : TDecoder) (n1 : Nat) (w1 : TBytes) {r : Int32 × TDecoder} (hf : f_X1_read w0 n1 w1 = some r) : Ct l yX1_read (Cond.code yX1_read cX1_read 6 (some .int) :: lw_g) rm_X1_read G [.ref hw0_0, .ref hw1_0] [(hw0_0, .inr (1, [.ref hw0_1, .int w0.2.1, .int w0.2.2.1, .int w0.2.2.2])), (hw0_1, .inr (2, [.ref hw0_2, .ref hw0_3, .ref hw0_4, .ref hw0_5, .ref hw0_6, .ref hw0_7, .int w0.1.2.2.2.2.2.2.1, .int w0.1.2.2.2.2.2.2.2.1, .int w0.1.2.2.2.2.2.2.2.2.1, .int w0.1.2.2.2.2.2.2.2.2.2.1, .int w0.1.2.2.2.2.2.2.2.2.2.2])), (hw0_2, .inl (G.2.1, 30, .inl w0.1.1)), (hw0_3, .inl (G.2.1, 30, .inl w0.1.2.1)), (hw0_4, .inl (G.2.1, 30, .inl w0.1.2.2.1)), (hw0_5, .inl (G.2.1, 30, .inl w0.1.2.2.2.1)), (hw0_6, .inl (G.2.1, 30, .inl w0.1.2.2.2.2.1)), (hw0_7, .inl (G.2.1, 64, .inl w0.1.2.2.2.2.2.1)), (hw1_0, .inr (0, [.ref hw1_1, .int w1.2])), (hw1_1, .inl (G.2.1, n1, .inl w1.1))] (some (.int r.1)) [(hw0_0, .inr (1, [.ref hw0_1, .int r.2.2.1, .int r.2.2.2.1, .int r.2.2.2.2])), (hw0_1, .inr (2, [.ref hw0_2, .ref hw0_3, .ref hw0_4, .ref hw0_5, .ref hw0_6, .ref hw0_7, .int r.2.1.2.2.2.2.2.2.1, .int r.2.1.2.2.2.2.2.2.2.1, .int r.2.1.2.2.2.2.2.2.2.2.1, .int r.2.1.2.2.2.2.2.2.2.2.2.1, .int r.2.1.2.2.2.2.2.2.2.2.2.2])), (hw0_2, .inl (G.2.1, 30, .inl r.2.1.1)), (hw0_3, .inl (G.2.1, 30, .inl r.2.1.2.1)), (hw0_4, .inl (G.2.1, 30, .inl r.2.1.2.2.1)), (hw0_5, .inl (G.2.1, 30, .inl r.2.1.2.2.2.1)), (hw0_6, .inl (G.2.1, 30, .inl r.2.1.2.2.2.2.1)), (hw0_7, .inl (G.2.1, 64, .inl r.2.1.2.2.2.2.2.1)), (hw1_0, .inr (0, [.ref hw1_1, .int w1.2])), (hw1_1, .inl (G.2.1, n1, .inl w1.1))] := by
  refine Ct.ofW (cc := cX1_read) (maxL := 6) (ret := (some .int)) (own := RX1) (by decide) rfl rfl (Nat.le_of_ble_eq_true rfl) ?_
  intro p e s m args below meth c A hx hb hr hml hts hown hlocks hK hP hD hA hS ls hl
  have hl : lv_has ls 6 [(0, .ref hw0_0), (1, .ref hw1_0)] := hl
  generalize hQ : gMQ below G _ _ A args s = Q
  generalize hH : s.heap = H at hP ⊢
  have hS : va_S A s.heap H [] := by rw [← hH]; exact hS
  generalize ([] : List Loc) = locs at hS ⊢
  unfold f_X1_read at hf
  have hJ91 : ∀ (w0 : TDecoder), f_X1_read_J91 n1 w1  w0 = some r → ∀ (H : Heap) (locs : List Loc), va_P G.1 vwCl [(hw0_0, .inr (1, [.ref hw0_1, .int w0.2.1, .int w0.2.2.1, .int w0.2.2.2])), (hw0_1, .inr (2, [.ref hw0_2, .ref hw0_3, .ref hw0_4, .ref hw0_5, .ref hw0_6, .ref hw0_7, .int w0.1.2.2.2.2.2.2.1, .int w0.1.2.2.2.2.2.2.2.1, .int w0.1.2.2.2.2.2.2.2.2.1, .int w0.1.2.2.2.2.2.2.2.2.2.1, .int w0.1.2.2.2.2.2.2.2.2.2.2])), (hw0_2, .inl (G.2.1, 30, .inl w0.1.1)), (hw0_3, .inl (G.2.1, 30, .inl w0.1.2.1)), (hw0_4, .inl (G.2.1, 30, .inl w0.1.2.2.1)), (hw0_5, .inl (G.2.1, 30, .inl w0.1.2.2.2.1)), (hw0_6, .inl (G.2.1, 30, .inl w0.1.2.2.2.2.1)), (hw0_7, .inl (G.2.1, 64, .inl w0.1.2.2.2.2.2.1)), (hw1_0, .inr (0, [.ref hw1_1, .int w1.2])), (hw1_1, .inl (G.2.1, n1, .inl w1.1))] H → va_D A [(hw0_0, .inr (1, [.ref hw0_1, .int w0.2.1, .int w0.2.2.1, .int w0.2.2.2])), (hw0_1, .inr (2, [.ref hw0_2, .ref hw0_3, .ref hw0_4, .ref hw0_5, .ref hw0_6, .ref hw0_7, .int w0.1.2.2.2.2.2.2.1, .int w0.1.2.2.2.2.2.2.2.1, .int w0.1.2.2.2.2.2.2.2.2.1, .int w0.1.2.2.2.2.2.2.2.2.2.1, .int w0.1.2.2.2.2.2.2.2.2.2.2])), (hw0_2, .inl (G.2.1, 30, .inl w0.1.1)), (hw0_3, .inl (G.2.1, 30, .inl w0.1.2.1)), (hw0_4, .inl (G.2.1, 30, .inl w0.1.2.2.1)), (hw0_5, .inl (G.2.1, 30, .inl w0.1.2.2.2.1)), (hw0_6, .inl (G.2.1, 30, .inl w0.1.2.2.2.2.1)), (hw0_7, .inl (G.2.1, 64, .inl w0.1.2.2.2.2.2.1)), (hw1_0, .inr (0, [.ref hw1_1, .int w1.2])), (hw1_1, .inl (G.2.1, n1, .inl w1.1))] → va_S A s.heap H locs → ∀ (ls : Array Slot), lv_has ls 6 [(0, .ref hw0_0), (1, .ref hw1_0)] → W p l e (rm_X1_read) s m args below meth c H locs 0 0 Q (F0 m 91 ls []) := by
    intro w0 hf H locs hP hD hS ls hl
    unfold f_X1_read_J91 at hf
    refine lv_aload_n (pc := 91) hx hb dX1_read_91 rfl (lv_at hl 0 rfl) ?_
    refine va_get (pc := 92) (D := G.1) (ci := 1) (v := .int w0.2.2.1) (C := RX1) (T := TX1) (N := 4) hx hb hts inX1 hown hK.1 hP 0 rfl rfl 2 (by decide) (hts _ wd_221) (fun _ h9 => h9) rfl dX1_read_92 ?_
    refine lv_sipush (pc := 95) (v := (251 : Int32)) hx hb dX1_read_95 (by decide) ?_
    refine lv_irem (pc := 98) hx hb dX1_read_98 (by decide) ?_
    refine lv_topi (fun x6 ex6 => ?_)
    have hf := nm_some hf ex6
    refine lv_istore (pc := 99) (lv' := [(5, .int x6), (0, .ref hw0_0), (1, .ref hw1_0)]) hx hb dX1_read_99 hl (by decide) rfl (fun ls hl => ?_)
    refine lv_aload_n (pc := 101) hx hb dX1_read_101 rfl (lv_at hl 1 rfl) ?_
    refine lv_aload_n (pc := 102) hx hb dX1_read_102 rfl (lv_at hl 2 rfl) ?_
    refine lv_iload (pc := 103) hx hb dX1_read_103 (lv_at hl 0 rfl) ?_
    refine lv_iload (pc := 105) hx hb dX1_read_105 (lv_at hl 0 rfl) ?_
    obtain ⟨x7, hcx7, hf⟩ := bn_some hf
    refine g_callV (pc := 107) (ws' := [(hw0_0, .inr (1, [.ref hw0_1, .int x7.2.2.1, .int x7.2.2.2.1, .int x7.2.2.2.2])), (hw0_1, .inr (2, [.ref hw0_2, .ref hw0_3, .ref hw0_4, .ref hw0_5, .ref hw0_6, .ref hw0_7, .int x7.2.1.2.2.2.2.2.2.1, .int x7.2.1.2.2.2.2.2.2.2.1, .int x7.2.1.2.2.2.2.2.2.2.2.1, .int x7.2.1.2.2.2.2.2.2.2.2.2.1, .int x7.2.1.2.2.2.2.2.2.2.2.2.2])), (hw0_2, .inl (G.2.1, 30, .inl x7.2.1.1)), (hw0_3, .inl (G.2.1, 30, .inl x7.2.1.2.1)), (hw0_4, .inl (G.2.1, 30, .inl x7.2.1.2.2.1)), (hw0_5, .inl (G.2.1, 30, .inl x7.2.1.2.2.2.1)), (hw0_6, .inl (G.2.1, 30, .inl x7.2.1.2.2.2.2.1)), (hw0_7, .inl (G.2.1, 64, .inl x7.2.1.2.2.2.2.2.1)), (hw1_0, .inr (0, [.ref hw1_1, .int w1.2])), (hw1_1, .inl (G.2.1, n1, .inl w1.1))]) (rest := []) hx hb hml hown hts hK (c_X1_next l G hw0_0 hw0_1 hw0_2 hw0_3 hw0_4 hw0_5 hw0_6 hw0_7 hw1_0 hw1_1 w0 n1 w1 x6 x6 hcx7) wd_419 wd_9 wd_416 wd_418 ws_2 hd_X1_next ⟨rfl, rfl, Nat.le_of_ble_eq_true rfl, Nat.le_of_ble_eq_true rfl⟩ hP hD hS hA [0, 1, 2, 3, 4, 5, 6, 7, 8, 9] rfl rfl rfl rfl 1 0 rfl rfl rfl rfl hl.1 rfl (Nat.le_of_ble_eq_true rfl) dX1_read_107 ⟨Nat.zero_le _, Nat.zero_le _⟩ (fun H locs hP hD hS => ?_)
    refine lv_pop (pc := 110) hx hb dX1_read_110 rfl ?_
    refine lv_aload_n (pc := 111) hx hb dX1_read_111 rfl (lv_at hl 1 rfl) ?_
    refine va_get (pc := 112) (D := G.1) (ci := 1) (v := .int x7.2.2.2.2) (C := RX1) (T := TX1) (N := 4) hx hb hts inX1 hown hK.1 hP 0 rfl rfl 3 (by decide) (hts _ wd_222) (fun _ h9 => h9) rfl dX1_read_112 ?_
    refine lv_iconst (pc := 115) (v := (-1 : Int32)) hx hb dX1_read_115 (by decide) ?_
    refine lv_icmp_ne (pc := 116) (tgt := 138) hx hb dX1_read_116 (by decide) (fun hc => ?_) (fun hc => ?_)
    · have hf := br_n hc hf
      refine lv_aload_n (pc := 138) hx hb dX1_read_138 rfl (lv_at hl 1 rfl) ?_
      refine va_get (pc := 139) (D := G.1) (ci := 1) (v := .int x7.2.2.2.2) (C := RX1) (T := TX1) (N := 4) hx hb hts inX1 hown hK.1 hP 0 rfl rfl 3 (by decide) (hts _ wd_222) (fun _ h9 => h9) rfl dX1_read_139 ?_
      have hf := Option.some.inj hf; subst hf
      rw [← hQ]
      exact g_iret hx hb hr hlocks hP hS dX1_read_142
    · have hf := br_y hc hf
      refine lv_aload_n (pc := 119) hx hb dX1_read_119 rfl (lv_at hl 2 rfl) ?_
      refine lv_aload_n (pc := 120) hx hb dX1_read_120 rfl (lv_at hl 1 rfl) ?_
      refine va_get (pc := 121) (D := G.1) (ci := 1) (v := .int x7.2.2.1) (C := RX1) (T := TX1) (N := 4) hx hb hts inX1 hown hK.1 hP 0 rfl rfl 1 (by decide) (hts _ wd_220) (fun _ h9 => h9) rfl dX1_read_121 ?_
      obtain ⟨x8, hcx8, hf⟩ := bn_some hf
      refine g_callV0 (pc := 124) (rest := []) hx hb hml hown hts hK (c_X0_has l G hw1_0 hw1_1 n1 w1 x7.2.2.1 hcx8) wd_315 wd_3 wd_420 wd_313 wd_314 hd_X0_has ⟨rfl, rfl, Nat.le_of_ble_eq_true rfl, Nat.le_of_ble_eq_true rfl⟩ hP hD hS hA [8, 9] rfl rfl 0 8 rfl rfl rfl rfl hl.1 rfl (Nat.le_of_ble_eq_true rfl) dX1_read_124 ⟨Nat.zero_le _, Nat.zero_le _⟩ (fun H locs hP hS => ?_)
      refine lv_if_eq (pc := 127) (tgt := 138) hx hb dX1_read_127 (by decide) (fun hc => ?_) (fun hc => ?_)
      · have hf := br_y hc hf
        refine lv_aload_n (pc := 138) hx hb dX1_read_138 rfl (lv_at hl 1 rfl) ?_
        refine va_get (pc := 139) (D := G.1) (ci := 1) (v := .int x7.2.2.2.2) (C := RX1) (T := TX1) (N := 4) hx hb hts inX1 hown hK.1 hP 0 rfl rfl 3 (by decide) (hts _ wd_222) (fun _ h9 => h9) rfl dX1_read_139 ?_
        have hf := Option.some.inj hf; subst hf
        rw [← hQ]
        exact g_iret hx hb hr hlocks hP hS dX1_read_142
      · have hf := br_n hc hf
        refine lv_aload_n (pc := 130) hx hb dX1_read_130 rfl (lv_at hl 1 rfl) ?_
        refine lv_aload_n (pc := 131) hx hb dX1_read_131 rfl (lv_at hl 1 rfl) ?_
        refine va_get (pc := 132) (D := G.1) (ci := 1) (v := .int x7.2.2.1) (C := RX1) (T := TX1) (N := 4) hx hb hts inX1 hown hK.1 hP 0 rfl rfl 1 (by decide) (hts _ wd_220) (fun _ h9 => h9) rfl dX1_read_132 ?_
        refine va_put (pc := 135) (D := G.1) (ci := 1) (v := .int x7.2.2.1) (ty := .int) (C := RX1) (T := TX1) (N := 4) hx hb hts inX1 tyX1 tyX1_ok nmX1 hown hK.1 hP hD hS 0 rfl rfl 3 (by decide) (hts _ wd_222) (fun _ h9 => h9) rfl (by decide +kernel) rfl rfl (Nat.le_of_ble_eq_true rfl) dX1_read_135 (fun H locs hP hD hS => ?_)
        have hP : va_P G.1 vwCl [(hw0_0, .inr (1, [.ref hw0_1, .int x7.2.2.1, .int x7.2.2.2.1, .int x7.2.2.1])), (hw0_1, .inr (2, [.ref hw0_2, .ref hw0_3, .ref hw0_4, .ref hw0_5, .ref hw0_6, .ref hw0_7, .int x7.2.1.2.2.2.2.2.2.1, .int x7.2.1.2.2.2.2.2.2.2.1, .int x7.2.1.2.2.2.2.2.2.2.2.1, .int x7.2.1.2.2.2.2.2.2.2.2.2.1, .int x7.2.1.2.2.2.2.2.2.2.2.2.2])), (hw0_2, .inl (G.2.1, 30, .inl x7.2.1.1)), (hw0_3, .inl (G.2.1, 30, .inl x7.2.1.2.1)), (hw0_4, .inl (G.2.1, 30, .inl x7.2.1.2.2.1)), (hw0_5, .inl (G.2.1, 30, .inl x7.2.1.2.2.2.1)), (hw0_6, .inl (G.2.1, 30, .inl x7.2.1.2.2.2.2.1)), (hw0_7, .inl (G.2.1, 64, .inl x7.2.1.2.2.2.2.2.1)), (hw1_0, .inr (0, [.ref hw1_1, .int w1.2])), (hw1_1, .inl (G.2.1, n1, .inl w1.1))] H := hP
        have hD : va_D A [(hw0_0, .inr (1, [.ref hw0_1, .int x7.2.2.1, .int x7.2.2.2.1, .int x7.2.2.1])), (hw0_1, .inr (2, [.ref hw0_2, .ref hw0_3, .ref hw0_4, .ref hw0_5, .ref hw0_6, .ref hw0_7, .int x7.2.1.2.2.2.2.2.2.1, .int x7.2.1.2.2.2.2.2.2.2.1, .int x7.2.1.2.2.2.2.2.2.2.2.1, .int x7.2.1.2.2.2.2.2.2.2.2.2.1, .int x7.2.1.2.2.2.2.2.2.2.2.2.2])), (hw0_2, .inl (G.2.1, 30, .inl x7.2.1.1)), (hw0_3, .inl (G.2.1, 30, .inl x7.2.1.2.1)), (hw0_4, .inl (G.2.1, 30, .inl x7.2.1.2.2.1)), (hw0_5, .inl (G.2.1, 30, .inl x7.2.1.2.2.2.1)), (hw0_6, .inl (G.2.1, 30, .inl x7.2.1.2.2.2.2.1)), (hw0_7, .inl (G.2.1, 64, .inl x7.2.1.2.2.2.2.2.1)), (hw1_0, .inr (0, [.ref hw1_1, .int w1.2])), (hw1_1, .inl (G.2.1, n1, .inl w1.1))] := hD
        refine lv_aload_n (pc := 138) hx hb dX1_read_138 rfl (lv_at hl 1 rfl) ?_
        refine va_get (pc := 139) (D := G.1) (ci := 1) (v := .int x7.2.2.1) (C := RX1) (T := TX1) (N := 4) hx hb hts inX1 hown hK.1 hP 0 rfl rfl 3 (by decide) (hts _ wd_222) (fun _ h9 => h9) rfl dX1_read_139 ?_
        have hf := Option.some.inj hf; subst hf
        rw [← hQ]
        exact g_iret hx hb hr hlocks hP hS dX1_read_142
  have hL65 : ∀ (k65 : Nat) (w0 : TDecoder) (v5 : Int32) (v4 : Int32), f_X1_read_L65 n1 w1  k65 w0 v5 v4 = some r → ∀ (H : Heap) (locs : List Loc), va_P G.1 vwCl [(hw0_0, .inr (1, [.ref hw0_1, .int w0.2.1, .int w0.2.2.1, .int w0.2.2.2])), (hw0_1, .inr (2, [.ref hw0_2, .ref hw0_3, .ref hw0_4, .ref hw0_5, .ref hw0_6, .ref hw0_7, .int w0.1.2.2.2.2.2.2.1, .int w0.1.2.2.2.2.2.2.2.1, .int w0.1.2.2.2.2.2.2.2.2.1, .int w0.1.2.2.2.2.2.2.2.2.2.1, .int w0.1.2.2.2.2.2.2.2.2.2.2])), (hw0_2, .inl (G.2.1, 30, .inl w0.1.1)), (hw0_3, .inl (G.2.1, 30, .inl w0.1.2.1)), (hw0_4, .inl (G.2.1, 30, .inl w0.1.2.2.1)), (hw0_5, .inl (G.2.1, 30, .inl w0.1.2.2.2.1)), (hw0_6, .inl (G.2.1, 30, .inl w0.1.2.2.2.2.1)), (hw0_7, .inl (G.2.1, 64, .inl w0.1.2.2.2.2.2.1)), (hw1_0, .inr (0, [.ref hw1_1, .int w1.2])), (hw1_1, .inl (G.2.1, n1, .inl w1.1))] H → va_D A [(hw0_0, .inr (1, [.ref hw0_1, .int w0.2.1, .int w0.2.2.1, .int w0.2.2.2])), (hw0_1, .inr (2, [.ref hw0_2, .ref hw0_3, .ref hw0_4, .ref hw0_5, .ref hw0_6, .ref hw0_7, .int w0.1.2.2.2.2.2.2.1, .int w0.1.2.2.2.2.2.2.2.1, .int w0.1.2.2.2.2.2.2.2.2.1, .int w0.1.2.2.2.2.2.2.2.2.2.1, .int w0.1.2.2.2.2.2.2.2.2.2.2])), (hw0_2, .inl (G.2.1, 30, .inl w0.1.1)), (hw0_3, .inl (G.2.1, 30, .inl w0.1.2.1)), (hw0_4, .inl (G.2.1, 30, .inl w0.1.2.2.1)), (hw0_5, .inl (G.2.1, 30, .inl w0.1.2.2.2.1)), (hw0_6, .inl (G.2.1, 30, .inl w0.1.2.2.2.2.1)), (hw0_7, .inl (G.2.1, 64, .inl w0.1.2.2.2.2.2.1)), (hw1_0, .inr (0, [.ref hw1_1, .int w1.2])), (hw1_1, .inl (G.2.1, n1, .inl w1.1))] → va_S A s.heap H locs → ∀ (ls : Array Slot), lv_has ls 6 [(5, .int v5), (4, .int v4), (0, .ref hw0_0), (1, .ref hw1_0)] → W p l e (rm_X1_read) s m args below meth c H locs 0 0 Q (F0 m 65 ls []) := by
    intro k65
    induction k65 with
    | zero =>
      intro w0 v5 v4 hf
      rw [f_X1_read_L65.eq_1] at hf; cases hf
    | succ k65 ih65 =>
      intro w0 v5 v4 hf H locs hP hD hS ls hl
      rw [f_X1_read_L65.eq_2] at hf
      refine lv_iload (pc := 65) hx hb dX1_read_65 (lv_at hl 0 rfl) ?_
      refine lv_iload (pc := 67) hx hb dX1_read_67 (lv_at hl 1 rfl) ?_
      refine lv_icmp_ge (pc := 69) (tgt := 91) hx hb dX1_read_69 (by decide) (fun hc => ?_) (fun hc => ?_)
      · have hf := br_y hc hf
        exact hJ91 w0 hf H locs hP hD hS ls (lv_sub hl [2, 3] rfl)
      · have hf := br_n hc hf
        refine lv_aload_n (pc := 72) hx hb dX1_read_72 rfl (lv_at hl 2 rfl) ?_
        refine va_get (pc := 73) (D := G.1) (ci := 1) (v := .int w0.2.2.2) (C := RX1) (T := TX1) (N := 4) hx hb hts inX1 hown hK.1 hP 0 rfl rfl 3 (by decide) (hts _ wd_222) (fun _ h9 => h9) rfl dX1_read_73 ?_
        refine lv_iconst (pc := 76) (v := (-1 : Int32)) hx hb dX1_read_76 (by decide) ?_
        refine lv_icmp_ne (pc := 77) (tgt := 91) hx hb dX1_read_77 (by decide) (fun hc => ?_) (fun hc => ?_)
        · have hf := br_n hc hf
          exact hJ91 w0 hf H locs hP hD hS ls (lv_sub hl [2, 3] rfl)
        · have hf := br_y hc hf
          refine lv_aload_n (pc := 80) hx hb dX1_read_80 rfl (lv_at hl 2 rfl) ?_
          refine lv_aload_n (pc := 81) hx hb dX1_read_81 rfl (lv_at hl 3 rfl) ?_
          obtain ⟨x9, hcx9, hf⟩ := bn_some hf
          refine g_callV (pc := 82) (ws' := [(hw0_0, .inr (1, [.ref hw0_1, .int x9.2.1, .int x9.2.2.1, .int x9.2.2.2])), (hw0_1, .inr (2, [.ref hw0_2, .ref hw0_3, .ref hw0_4, .ref hw0_5, .ref hw0_6, .ref hw0_7, .int x9.1.2.2.2.2.2.2.1, .int x9.1.2.2.2.2.2.2.2.1, .int x9.1.2.2.2.2.2.2.2.2.1, .int x9.1.2.2.2.2.2.2.2.2.2.1, .int x9.1.2.2.2.2.2.2.2.2.2.2])), (hw0_2, .inl (G.2.1, 30, .inl x9.1.1)), (hw0_3, .inl (G.2.1, 30, .inl x9.1.2.1)), (hw0_4, .inl (G.2.1, 30, .inl x9.1.2.2.1)), (hw0_5, .inl (G.2.1, 30, .inl x9.1.2.2.2.1)), (hw0_6, .inl (G.2.1, 30, .inl x9.1.2.2.2.2.1)), (hw0_7, .inl (G.2.1, 64, .inl x9.1.2.2.2.2.2.1)), (hw1_0, .inr (0, [.ref hw1_1, .int w1.2])), (hw1_1, .inl (G.2.1, n1, .inl w1.1))]) (rest := []) hx hb hml hown hts hK (c_X1_readCommand l G hw0_0 hw0_1 hw0_2 hw0_3 hw0_4 hw0_5 hw0_6 hw0_7 hw1_0 hw1_1 w0 n1 w1 hcx9) wd_426 wd_9 wd_423 wd_425 ws_3 hd_X1_readCommand ⟨rfl, rfl, Nat.le_of_ble_eq_true rfl, Nat.le_of_ble_eq_true rfl⟩ hP hD hS hA [0, 1, 2, 3, 4, 5, 6, 7, 8, 9] rfl rfl rfl rfl 1 0 rfl rfl rfl rfl hl.1 rfl (Nat.le_of_ble_eq_true rfl) dX1_read_82 ⟨Nat.zero_le _, Nat.zero_le _⟩ (fun H locs hP hD hS => ?_)
          refine lv_iinc (pc := 85) (v := (v5 + (1 : Int32))) (lv' := [(5, .int (v5 + (1 : Int32))), (4, .int v4), (0, .ref hw0_0), (1, .ref hw1_0)]) hx hb dX1_read_85 hl (k := 0) rfl rfl (by decide) rfl (fun ls hl => ?_)
          refine lv_goto (pc := 88) (tgt := 65) hx hb dX1_read_88 (by decide) ?_
          exact ih65 x9 (v5 + (1 : Int32)) v4 hf H locs hP hD hS ls (lv_sub hl [0, 1, 2, 3] rfl)
  refine lv_aload_n (pc := 0) hx hb dX1_read_0 rfl (lv_at hl 0 rfl) ?_
  refine lv_iconst (pc := 1) (v := (0 : Int32)) hx hb dX1_read_1 (by decide) ?_
  refine va_put (pc := 2) (D := G.1) (ci := 1) (v := .int (0 : Int32)) (ty := .int) (C := RX1) (T := TX1) (N := 4) hx hb hts inX1 tyX1 tyX1_ok nmX1 hown hK.1 hP hD hS 0 rfl rfl 1 (by decide) (hts _ wd_220) (fun _ h9 => h9) rfl (by decide +kernel) rfl rfl (Nat.le_of_ble_eq_true rfl) dX1_read_2 (fun H locs hP hD hS => ?_)
  have hP : va_P G.1 vwCl [(hw0_0, .inr (1, [.ref hw0_1, .int (0 : Int32), .int w0.2.2.1, .int w0.2.2.2])), (hw0_1, .inr (2, [.ref hw0_2, .ref hw0_3, .ref hw0_4, .ref hw0_5, .ref hw0_6, .ref hw0_7, .int w0.1.2.2.2.2.2.2.1, .int w0.1.2.2.2.2.2.2.2.1, .int w0.1.2.2.2.2.2.2.2.2.1, .int w0.1.2.2.2.2.2.2.2.2.2.1, .int w0.1.2.2.2.2.2.2.2.2.2.2])), (hw0_2, .inl (G.2.1, 30, .inl w0.1.1)), (hw0_3, .inl (G.2.1, 30, .inl w0.1.2.1)), (hw0_4, .inl (G.2.1, 30, .inl w0.1.2.2.1)), (hw0_5, .inl (G.2.1, 30, .inl w0.1.2.2.2.1)), (hw0_6, .inl (G.2.1, 30, .inl w0.1.2.2.2.2.1)), (hw0_7, .inl (G.2.1, 64, .inl w0.1.2.2.2.2.2.1)), (hw1_0, .inr (0, [.ref hw1_1, .int w1.2])), (hw1_1, .inl (G.2.1, n1, .inl w1.1))] H := hP
  have hD : va_D A [(hw0_0, .inr (1, [.ref hw0_1, .int (0 : Int32), .int w0.2.2.1, .int w0.2.2.2])), (hw0_1, .inr (2, [.ref hw0_2, .ref hw0_3, .ref hw0_4, .ref hw0_5, .ref hw0_6, .ref hw0_7, .int w0.1.2.2.2.2.2.2.1, .int w0.1.2.2.2.2.2.2.2.1, .int w0.1.2.2.2.2.2.2.2.2.1, .int w0.1.2.2.2.2.2.2.2.2.2.1, .int w0.1.2.2.2.2.2.2.2.2.2.2])), (hw0_2, .inl (G.2.1, 30, .inl w0.1.1)), (hw0_3, .inl (G.2.1, 30, .inl w0.1.2.1)), (hw0_4, .inl (G.2.1, 30, .inl w0.1.2.2.1)), (hw0_5, .inl (G.2.1, 30, .inl w0.1.2.2.2.1)), (hw0_6, .inl (G.2.1, 30, .inl w0.1.2.2.2.2.1)), (hw0_7, .inl (G.2.1, 64, .inl w0.1.2.2.2.2.2.1)), (hw1_0, .inr (0, [.ref hw1_1, .int w1.2])), (hw1_1, .inl (G.2.1, n1, .inl w1.1))] := hD
  refine lv_aload_n (pc := 5) hx hb dX1_read_5 rfl (lv_at hl 0 rfl) ?_
  refine lv_iconst (pc := 6) (v := (0 : Int32)) hx hb dX1_read_6 (by decide) ?_
  refine va_put (pc := 7) (D := G.1) (ci := 1) (v := .int (0 : Int32)) (ty := .int) (C := RX1) (T := TX1) (N := 4) hx hb hts inX1 tyX1 tyX1_ok nmX1 hown hK.1 hP hD hS 0 rfl rfl 2 (by decide) (hts _ wd_221) (fun _ h9 => h9) rfl (by decide +kernel) rfl rfl (Nat.le_of_ble_eq_true rfl) dX1_read_7 (fun H locs hP hD hS => ?_)
  have hP : va_P G.1 vwCl [(hw0_0, .inr (1, [.ref hw0_1, .int (0 : Int32), .int (0 : Int32), .int w0.2.2.2])), (hw0_1, .inr (2, [.ref hw0_2, .ref hw0_3, .ref hw0_4, .ref hw0_5, .ref hw0_6, .ref hw0_7, .int w0.1.2.2.2.2.2.2.1, .int w0.1.2.2.2.2.2.2.2.1, .int w0.1.2.2.2.2.2.2.2.2.1, .int w0.1.2.2.2.2.2.2.2.2.2.1, .int w0.1.2.2.2.2.2.2.2.2.2.2])), (hw0_2, .inl (G.2.1, 30, .inl w0.1.1)), (hw0_3, .inl (G.2.1, 30, .inl w0.1.2.1)), (hw0_4, .inl (G.2.1, 30, .inl w0.1.2.2.1)), (hw0_5, .inl (G.2.1, 30, .inl w0.1.2.2.2.1)), (hw0_6, .inl (G.2.1, 30, .inl w0.1.2.2.2.2.1)), (hw0_7, .inl (G.2.1, 64, .inl w0.1.2.2.2.2.2.1)), (hw1_0, .inr (0, [.ref hw1_1, .int w1.2])), (hw1_1, .inl (G.2.1, n1, .inl w1.1))] H := hP
  have hD : va_D A [(hw0_0, .inr (1, [.ref hw0_1, .int (0 : Int32), .int (0 : Int32), .int w0.2.2.2])), (hw0_1, .inr (2, [.ref hw0_2, .ref hw0_3, .ref hw0_4, .ref hw0_5, .ref hw0_6, .ref hw0_7, .int w0.1.2.2.2.2.2.2.1, .int w0.1.2.2.2.2.2.2.2.1, .int w0.1.2.2.2.2.2.2.2.2.1, .int w0.1.2.2.2.2.2.2.2.2.2.1, .int w0.1.2.2.2.2.2.2.2.2.2.2])), (hw0_2, .inl (G.2.1, 30, .inl w0.1.1)), (hw0_3, .inl (G.2.1, 30, .inl w0.1.2.1)), (hw0_4, .inl (G.2.1, 30, .inl w0.1.2.2.1)), (hw0_5, .inl (G.2.1, 30, .inl w0.1.2.2.2.1)), (hw0_6, .inl (G.2.1, 30, .inl w0.1.2.2.2.2.1)), (hw0_7, .inl (G.2.1, 64, .inl w0.1.2.2.2.2.2.1)), (hw1_0, .inr (0, [.ref hw1_1, .int w1.2])), (hw1_1, .inl (G.2.1, n1, .inl w1.1))] := hD
  refine lv_aload_n (pc := 10) hx hb dX1_read_10 rfl (lv_at hl 0 rfl) ?_
  refine lv_iconst (pc := 11) (v := (-1 : Int32)) hx hb dX1_read_11 (by decide) ?_
  refine va_put (pc := 12) (D := G.1) (ci := 1) (v := .int (-1 : Int32)) (ty := .int) (C := RX1) (T := TX1) (N := 4) hx hb hts inX1 tyX1 tyX1_ok nmX1 hown hK.1 hP hD hS 0 rfl rfl 3 (by decide) (hts _ wd_222) (fun _ h9 => h9) rfl (by decide +kernel) rfl rfl (Nat.le_of_ble_eq_true rfl) dX1_read_12 (fun H locs hP hD hS => ?_)
  have hP : va_P G.1 vwCl [(hw0_0, .inr (1, [.ref hw0_1, .int (0 : Int32), .int (0 : Int32), .int (-1 : Int32)])), (hw0_1, .inr (2, [.ref hw0_2, .ref hw0_3, .ref hw0_4, .ref hw0_5, .ref hw0_6, .ref hw0_7, .int w0.1.2.2.2.2.2.2.1, .int w0.1.2.2.2.2.2.2.2.1, .int w0.1.2.2.2.2.2.2.2.2.1, .int w0.1.2.2.2.2.2.2.2.2.2.1, .int w0.1.2.2.2.2.2.2.2.2.2.2])), (hw0_2, .inl (G.2.1, 30, .inl w0.1.1)), (hw0_3, .inl (G.2.1, 30, .inl w0.1.2.1)), (hw0_4, .inl (G.2.1, 30, .inl w0.1.2.2.1)), (hw0_5, .inl (G.2.1, 30, .inl w0.1.2.2.2.1)), (hw0_6, .inl (G.2.1, 30, .inl w0.1.2.2.2.2.1)), (hw0_7, .inl (G.2.1, 64, .inl w0.1.2.2.2.2.2.1)), (hw1_0, .inr (0, [.ref hw1_1, .int w1.2])), (hw1_1, .inl (G.2.1, n1, .inl w1.1))] H := hP
  have hD : va_D A [(hw0_0, .inr (1, [.ref hw0_1, .int (0 : Int32), .int (0 : Int32), .int (-1 : Int32)])), (hw0_1, .inr (2, [.ref hw0_2, .ref hw0_3, .ref hw0_4, .ref hw0_5, .ref hw0_6, .ref hw0_7, .int w0.1.2.2.2.2.2.2.1, .int w0.1.2.2.2.2.2.2.2.1, .int w0.1.2.2.2.2.2.2.2.2.1, .int w0.1.2.2.2.2.2.2.2.2.2.1, .int w0.1.2.2.2.2.2.2.2.2.2.2])), (hw0_2, .inl (G.2.1, 30, .inl w0.1.1)), (hw0_3, .inl (G.2.1, 30, .inl w0.1.2.1)), (hw0_4, .inl (G.2.1, 30, .inl w0.1.2.2.1)), (hw0_5, .inl (G.2.1, 30, .inl w0.1.2.2.2.1)), (hw0_6, .inl (G.2.1, 30, .inl w0.1.2.2.2.2.1)), (hw0_7, .inl (G.2.1, 64, .inl w0.1.2.2.2.2.2.1)), (hw1_0, .inr (0, [.ref hw1_1, .int w1.2])), (hw1_1, .inl (G.2.1, n1, .inl w1.1))] := hD
  refine lv_aload_n (pc := 15) hx hb dX1_read_15 rfl (lv_at hl 0 rfl) ?_
  refine lv_aload_n (pc := 16) hx hb dX1_read_16 rfl (lv_at hl 1 rfl) ?_
  refine lv_bipush (pc := 17) (v := (73 : Int32)) hx hb dX1_read_17 (by decide) ?_
  refine lv_bipush (pc := 19) (v := (73 : Int32)) hx hb dX1_read_19 (by decide) ?_
  obtain ⟨x1, hcx1, hf⟩ := bn_some hf
  refine g_callV (pc := 21) (ws' := [(hw0_0, .inr (1, [.ref hw0_1, .int x1.2.2.1, .int x1.2.2.2.1, .int x1.2.2.2.2])), (hw0_1, .inr (2, [.ref hw0_2, .ref hw0_3, .ref hw0_4, .ref hw0_5, .ref hw0_6, .ref hw0_7, .int x1.2.1.2.2.2.2.2.2.1, .int x1.2.1.2.2.2.2.2.2.2.1, .int x1.2.1.2.2.2.2.2.2.2.2.1, .int x1.2.1.2.2.2.2.2.2.2.2.2.1, .int x1.2.1.2.2.2.2.2.2.2.2.2.2])), (hw0_2, .inl (G.2.1, 30, .inl x1.2.1.1)), (hw0_3, .inl (G.2.1, 30, .inl x1.2.1.2.1)), (hw0_4, .inl (G.2.1, 30, .inl x1.2.1.2.2.1)), (hw0_5, .inl (G.2.1, 30, .inl x1.2.1.2.2.2.1)), (hw0_6, .inl (G.2.1, 30, .inl x1.2.1.2.2.2.2.1)), (hw0_7, .inl (G.2.1, 64, .inl x1.2.1.2.2.2.2.2.1)), (hw1_0, .inr (0, [.ref hw1_1, .int w1.2])), (hw1_1, .inl (G.2.1, n1, .inl w1.1))]) (rest := []) hx hb hml hown hts hK (c_X1_next l G hw0_0 hw0_1 hw0_2 hw0_3 hw0_4 hw0_5 hw0_6 hw0_7 hw1_0 hw1_1 (w0.1, (0 : Int32), (0 : Int32), (-1 : Int32)) n1 w1 (73 : Int32) (73 : Int32) hcx1) wd_419 wd_9 wd_416 wd_418 ws_2 hd_X1_next ⟨rfl, rfl, Nat.le_of_ble_eq_true rfl, Nat.le_of_ble_eq_true rfl⟩ hP hD hS hA [0, 1, 2, 3, 4, 5, 6, 7, 8, 9] rfl rfl rfl rfl 1 0 rfl rfl rfl rfl hl.1 rfl (Nat.le_of_ble_eq_true rfl) dX1_read_21 ⟨Nat.zero_le _, Nat.zero_le _⟩ (fun H locs hP hD hS => ?_)
  refine lv_pop (pc := 24) hx hb dX1_read_24 rfl ?_
  refine lv_aload_n (pc := 25) hx hb dX1_read_25 rfl (lv_at hl 0 rfl) ?_
  refine lv_aload_n (pc := 26) hx hb dX1_read_26 rfl (lv_at hl 1 rfl) ?_
  refine lv_iconst (pc := 27) (v := (0 : Int32)) hx hb dX1_read_27 (by decide) ?_
  refine lv_bipush (pc := 28) (v := (64 : Int32)) hx hb dX1_read_28 (by decide) ?_
  obtain ⟨x2, hcx2, hf⟩ := bn_some hf
  refine g_callV (pc := 30) (ws' := [(hw0_0, .inr (1, [.ref hw0_1, .int x2.2.2.1, .int x2.2.2.2.1, .int x2.2.2.2.2])), (hw0_1, .inr (2, [.ref hw0_2, .ref hw0_3, .ref hw0_4, .ref hw0_5, .ref hw0_6, .ref hw0_7, .int x2.2.1.2.2.2.2.2.2.1, .int x2.2.1.2.2.2.2.2.2.2.1, .int x2.2.1.2.2.2.2.2.2.2.2.1, .int x2.2.1.2.2.2.2.2.2.2.2.2.1, .int x2.2.1.2.2.2.2.2.2.2.2.2.2])), (hw0_2, .inl (G.2.1, 30, .inl x2.2.1.1)), (hw0_3, .inl (G.2.1, 30, .inl x2.2.1.2.1)), (hw0_4, .inl (G.2.1, 30, .inl x2.2.1.2.2.1)), (hw0_5, .inl (G.2.1, 30, .inl x2.2.1.2.2.2.1)), (hw0_6, .inl (G.2.1, 30, .inl x2.2.1.2.2.2.2.1)), (hw0_7, .inl (G.2.1, 64, .inl x2.2.1.2.2.2.2.2.1)), (hw1_0, .inr (0, [.ref hw1_1, .int w1.2])), (hw1_1, .inl (G.2.1, n1, .inl w1.1))]) (rest := []) hx hb hml hown hts hK (c_X1_next l G hw0_0 hw0_1 hw0_2 hw0_3 hw0_4 hw0_5 hw0_6 hw0_7 hw1_0 hw1_1 x1.2 n1 w1 (0 : Int32) (64 : Int32) hcx2) wd_419 wd_9 wd_416 wd_418 ws_2 hd_X1_next ⟨rfl, rfl, Nat.le_of_ble_eq_true rfl, Nat.le_of_ble_eq_true rfl⟩ hP hD hS hA [0, 1, 2, 3, 4, 5, 6, 7, 8, 9] rfl rfl rfl rfl 1 0 rfl rfl rfl rfl hl.1 rfl (Nat.le_of_ble_eq_true rfl) dX1_read_30 ⟨Nat.zero_le _, Nat.zero_le _⟩ (fun H locs hP hD hS => ?_)
  refine lv_istore_n (pc := 33) (lv' := [(2, .int x2.1), (0, .ref hw0_0), (1, .ref hw1_0)]) hx hb dX1_read_33 rfl hl (by decide) rfl (fun ls hl => ?_)
  refine lv_aload_n (pc := 34) hx hb dX1_read_34 rfl (lv_at hl 1 rfl) ?_
  refine lv_aload_n (pc := 35) hx hb dX1_read_35 rfl (lv_at hl 2 rfl) ?_
  refine lv_iconst (pc := 36) (v := (0 : Int32)) hx hb dX1_read_36 (by decide) ?_
  refine lv_bipush (pc := 37) (v := (64 : Int32)) hx hb dX1_read_37 (by decide) ?_
  obtain ⟨x3, hcx3, hf⟩ := bn_some hf
  refine g_callV (pc := 39) (ws' := [(hw0_0, .inr (1, [.ref hw0_1, .int x3.2.2.1, .int x3.2.2.2.1, .int x3.2.2.2.2])), (hw0_1, .inr (2, [.ref hw0_2, .ref hw0_3, .ref hw0_4, .ref hw0_5, .ref hw0_6, .ref hw0_7, .int x3.2.1.2.2.2.2.2.2.1, .int x3.2.1.2.2.2.2.2.2.2.1, .int x3.2.1.2.2.2.2.2.2.2.2.1, .int x3.2.1.2.2.2.2.2.2.2.2.2.1, .int x3.2.1.2.2.2.2.2.2.2.2.2.2])), (hw0_2, .inl (G.2.1, 30, .inl x3.2.1.1)), (hw0_3, .inl (G.2.1, 30, .inl x3.2.1.2.1)), (hw0_4, .inl (G.2.1, 30, .inl x3.2.1.2.2.1)), (hw0_5, .inl (G.2.1, 30, .inl x3.2.1.2.2.2.1)), (hw0_6, .inl (G.2.1, 30, .inl x3.2.1.2.2.2.2.1)), (hw0_7, .inl (G.2.1, 64, .inl x3.2.1.2.2.2.2.2.1)), (hw1_0, .inr (0, [.ref hw1_1, .int w1.2])), (hw1_1, .inl (G.2.1, n1, .inl w1.1))]) (rest := []) hx hb hml hown hts hK (c_X1_next l G hw0_0 hw0_1 hw0_2 hw0_3 hw0_4 hw0_5 hw0_6 hw0_7 hw1_0 hw1_1 x2.2 n1 w1 (0 : Int32) (64 : Int32) hcx3) wd_419 wd_9 wd_416 wd_418 ws_2 hd_X1_next ⟨rfl, rfl, Nat.le_of_ble_eq_true rfl, Nat.le_of_ble_eq_true rfl⟩ hP hD hS hA [0, 1, 2, 3, 4, 5, 6, 7, 8, 9] rfl rfl rfl rfl 1 0 rfl rfl rfl rfl hl.1 rfl (Nat.le_of_ble_eq_true rfl) dX1_read_39 ⟨Nat.zero_le _, Nat.zero_le _⟩ (fun H locs hP hD hS => ?_)
  refine lv_istore_n (pc := 42) (lv' := [(3, .int x3.1), (2, .int x2.1), (0, .ref hw0_0), (1, .ref hw1_0)]) hx hb dX1_read_42 rfl hl (by decide) rfl (fun ls hl => ?_)
  refine lv_aload_n (pc := 43) hx hb dX1_read_43 rfl (lv_at hl 2 rfl) ?_
  refine lv_aload_n (pc := 44) hx hb dX1_read_44 rfl (lv_at hl 3 rfl) ?_
  refine lv_iconst (pc := 45) (v := (0 : Int32)) hx hb dX1_read_45 (by decide) ?_
  refine lv_bipush (pc := 46) (v := (30 : Int32)) hx hb dX1_read_46 (by decide) ?_
  obtain ⟨x4, hcx4, hf⟩ := bn_some hf
  refine g_callV (pc := 48) (ws' := [(hw0_0, .inr (1, [.ref hw0_1, .int x4.2.2.1, .int x4.2.2.2.1, .int x4.2.2.2.2])), (hw0_1, .inr (2, [.ref hw0_2, .ref hw0_3, .ref hw0_4, .ref hw0_5, .ref hw0_6, .ref hw0_7, .int x4.2.1.2.2.2.2.2.2.1, .int x4.2.1.2.2.2.2.2.2.2.1, .int x4.2.1.2.2.2.2.2.2.2.2.1, .int x4.2.1.2.2.2.2.2.2.2.2.2.1, .int x4.2.1.2.2.2.2.2.2.2.2.2.2])), (hw0_2, .inl (G.2.1, 30, .inl x4.2.1.1)), (hw0_3, .inl (G.2.1, 30, .inl x4.2.1.2.1)), (hw0_4, .inl (G.2.1, 30, .inl x4.2.1.2.2.1)), (hw0_5, .inl (G.2.1, 30, .inl x4.2.1.2.2.2.1)), (hw0_6, .inl (G.2.1, 30, .inl x4.2.1.2.2.2.2.1)), (hw0_7, .inl (G.2.1, 64, .inl x4.2.1.2.2.2.2.2.1)), (hw1_0, .inr (0, [.ref hw1_1, .int w1.2])), (hw1_1, .inl (G.2.1, n1, .inl w1.1))]) (rest := []) hx hb hml hown hts hK (c_X1_next l G hw0_0 hw0_1 hw0_2 hw0_3 hw0_4 hw0_5 hw0_6 hw0_7 hw1_0 hw1_1 x3.2 n1 w1 (0 : Int32) (30 : Int32) hcx4) wd_419 wd_9 wd_416 wd_418 ws_2 hd_X1_next ⟨rfl, rfl, Nat.le_of_ble_eq_true rfl, Nat.le_of_ble_eq_true rfl⟩ hP hD hS hA [0, 1, 2, 3, 4, 5, 6, 7, 8, 9] rfl rfl rfl rfl 1 0 rfl rfl rfl rfl hl.1 rfl (Nat.le_of_ble_eq_true rfl) dX1_read_48 ⟨Nat.zero_le _, Nat.zero_le _⟩ (fun H locs hP hD hS => ?_)
  refine lv_istore (pc := 51) (lv' := [(4, .int x4.1), (3, .int x3.1), (2, .int x2.1), (0, .ref hw0_0), (1, .ref hw1_0)]) hx hb dX1_read_51 hl (by decide) rfl (fun ls hl => ?_)
  refine lv_aload_n (pc := 53) hx hb dX1_read_53 rfl (lv_at hl 3 rfl) ?_
  refine va_get (pc := 54) (D := G.1) (ci := 1) (v := .ref hw0_1) (C := RX1) (T := TX1) (N := 4) hx hb hts inX1 hown hK.1 hP 0 rfl rfl 0 (by decide) (hts _ wd_218) (fun _ h9 => h9) rfl dX1_read_54 ?_
  refine lv_iload_n (pc := 57) hx hb dX1_read_57 rfl (lv_at hl 2 rfl) ?_
  refine lv_iload_n (pc := 58) hx hb dX1_read_58 rfl (lv_at hl 1 rfl) ?_
  obtain ⟨x5, hcx5, hf⟩ := bn_some hf
  refine g_callV (pc := 59) (ws' := [(hw0_0, .inr (1, [.ref hw0_1, .int x4.2.2.1, .int x4.2.2.2.1, .int x4.2.2.2.2])), (hw0_1, .inr (2, [.ref hw0_2, .ref hw0_3, .ref hw0_4, .ref hw0_5, .ref hw0_6, .ref hw0_7, .int x5.2.2.2.2.2.2.1, .int x5.2.2.2.2.2.2.2.1, .int x5.2.2.2.2.2.2.2.2.1, .int x5.2.2.2.2.2.2.2.2.2.1, .int x5.2.2.2.2.2.2.2.2.2.2])), (hw0_2, .inl (G.2.1, 30, .inl x5.1)), (hw0_3, .inl (G.2.1, 30, .inl x5.2.1)), (hw0_4, .inl (G.2.1, 30, .inl x5.2.2.1)), (hw0_5, .inl (G.2.1, 30, .inl x5.2.2.2.1)), (hw0_6, .inl (G.2.1, 30, .inl x5.2.2.2.2.1)), (hw0_7, .inl (G.2.1, 64, .inl x5.2.2.2.2.2.1)), (hw1_0, .inr (0, [.ref hw1_1, .int w1.2])), (hw1_1, .inl (G.2.1, n1, .inl w1.1))]) (rest := []) hx hb hml hown hts hK (c_X2_reset l G hw0_1 hw0_2 hw0_3 hw0_4 hw0_5 hw0_6 hw0_7 x4.2.1 x2.1 x3.1 hcx5) wd_290 wd_5 wd_422 wd_288 wd_289 hd_X2_reset ⟨rfl, rfl, Nat.le_of_ble_eq_true rfl, Nat.le_of_ble_eq_true rfl⟩ hP hD hS hA [1, 2, 3, 4, 5, 6, 7] rfl rfl rfl rfl 2 1 rfl rfl rfl rfl hl.1 rfl (Nat.le_of_ble_eq_true rfl) dX1_read_59 ⟨Nat.zero_le _, Nat.zero_le _⟩ (fun H locs hP hD hS => ?_)
  refine lv_iconst (pc := 62) (v := (0 : Int32)) hx hb dX1_read_62 (by decide) ?_
  refine lv_istore (pc := 63) (lv' := [(5, .int (0 : Int32)), (4, .int x4.1), (3, .int x3.1), (2, .int x2.1), (0, .ref hw0_0), (1, .ref hw1_0)]) hx hb dX1_read_63 hl (by decide) rfl (fun ls hl => ?_)
  exact hL65 FUEL (x5, x4.2.2.1, x4.2.2.2.1, x4.2.2.2.2) (0 : Int32) x4.1 hf H locs hP hD hS ls (lv_sub hl [0, 1, 4, 5] rfl)
