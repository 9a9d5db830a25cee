theorem hd_X6_longestMatch : yX6_longestMatch.cls ≠ "java/lang/invoke/MethodHandle" ∧ yX6_longestMatch.cls ≠ "java/lang/invoke/VarHandle" ∧ (parseMethodDescriptor yX6_longestMatch.desc).map (fun d => d.parameters.length) = some 3 := by decide +kernel
abbrev rm_X6_longestMatch : Room := { frames := 3, cells := 0, slots := 0, locals := 67 }
noncomputable def f_X6_longestMatch_J41 (n0 : Nat) (n1 : Nat) (w0 : TBytes) (w1 : TBytes) (p2 : Int32) (rec8 : Int32 → Int32 → Int32 → Option Int32) (v5 : Int32) (v4 : Int32) (v3 : Int32) : Option Int32 :=
  rec8 (v5 + (1 : Int32)) v4 v3
noncomputable def f_X6_longestMatch_L8 (n0 : Nat) (n1 : Nat) (w0 : TBytes) (w1 : TBytes) (p2 : Int32)  : Nat → Int32 → Int32 → Int32 → Option Int32
  | 0, _, _, _ => none
  | k8 + 1, v5, v4, v3 =>
    br (w0.2 ≤ v5) (some v3) ((f_X0_common n0 w0 n1 w1 v5 p2).bind (fun x1 => br (x1 ≤ v4) (f_X6_longestMatch_J41 n0 n1 w0 w1 p2 (f_X6_longestMatch_L8 n0 n1 w0 w1 p2  k8) v5 v4 v3) (f_X6_longestMatch_J41 n0 n1 w0 w1 p2 (f_X6_longestMatch_L8 n0 n1 w0 w1 p2  k8) v5 x1 v5)))
noncomputable def f_X6_longestMatch (n0 : Nat) (w0 : TBytes) (n1 : Nat) (w1 : TBytes) (p2 : Int32) : Option Int32 :=
  f_X6_longestMatch_L8 n0 n1 w0 w1 p2 FUEL (0 : Int32) (3 : Int32) (-1 : Int32)
set_option maxHeartbeats 4000000 in
set_option maxRecDepth 100000 in
theorem c_X6_longestMatch (l : Launch) (G : GT) (hw0_0 hw0_1 : Nat) (hw1_0 hw1_1 : Nat) (n0 : Nat) (w0 : TBytes) (n1 : Nat) (w1 : TBytes) (p2 : Int32) {r : Int32} (hf : f_X6_longestMatch n0 w0 n1 w1 p2 = some r) : Ct l yX6_longestMatch (Cond.code yX6_longestMatch cX6_longestMatch 7 (some .int) :: lw_g) rm_X6_longestMatch G [.ref hw0_0, .ref hw1_0, .int p2] [(hw0_0, .inr (0, [.ref hw0_1, .int w0.2])), (hw0_1, .inl (G.2.1, n0, .inl w0.1)), (hw1_0, .inr (0, [.ref hw1_1, .int w1.2])), (hw1_1, .inl (G.2.1, n1, .inl w1.1))] (some (.int r)) [(hw0_0, .inr (0, [.ref hw0_1, .int w0.2])), (hw0_1, .inl (G.2.1, n0, .inl w0.1)), (hw1_0, .inr (0, [.ref hw1_1, .int w1.2])), (hw1_1, .inl (G.2.1, n1, .inl w1.1))] := by
  refine Ct.ofW (cc := cX6_longestMatch) (maxL := 7) (ret := (some .int)) (own := RX6) (by decide) rfl rfl (Nat.le_of_ble_eq_true rfl) ?_
  intro p e s m args below meth c A hx hb hr hml hts hown hlocks hK hP hD hA hS ls hl
  have hl : lv_has ls 7 [(0, .ref hw0_0), (1, .ref hw1_0), (2, .int p2)] := hl
  generalize hQ : gMQ below G _ _ A args s = Q
  generalize hH : s.heap = H at hP ⊢
  have hS : va_S A s.heap H [] := by rw [← hH]; exact hS
  generalize ([] : List Loc) = locs at hS ⊢
  unfold f_X6_longestMatch at hf
  have hL8 : ∀ (k8 : Nat) (v5 : Int32) (v4 : Int32) (v3 : Int32), f_X6_longestMatch_L8 n0 n1 w0 w1 p2  k8 v5 v4 v3 = some r → ∀ (H : Heap) (locs : List Loc), va_P G.1 vwCl [(hw0_0, .inr (0, [.ref hw0_1, .int w0.2])), (hw0_1, .inl (G.2.1, n0, .inl w0.1)), (hw1_0, .inr (0, [.ref hw1_1, .int w1.2])), (hw1_1, .inl (G.2.1, n1, .inl w1.1))] H → va_D A [(hw0_0, .inr (0, [.ref hw0_1, .int w0.2])), (hw0_1, .inl (G.2.1, n0, .inl w0.1)), (hw1_0, .inr (0, [.ref hw1_1, .int w1.2])), (hw1_1, .inl (G.2.1, n1, .inl w1.1))] → va_S A s.heap H locs → ∀ (ls : Array Slot), lv_has ls 7 [(5, .int v5), (4, .int v4), (3, .int v3), (0, .ref hw0_0), (1, .ref hw1_0), (2, .int p2)] → W p l e (rm_X6_longestMatch) s m args below meth c H locs 0 0 Q (F0 m 8 ls []) := by
    intro k8
    induction k8 with
    | zero =>
      intro v5 v4 v3 hf
      rw [f_X6_longestMatch_L8.eq_1] at hf; cases hf
    | succ k8 ih8 =>
      have hJ41 : ∀ (v5 : Int32) (v4 : Int32) (v3 : Int32), f_X6_longestMatch_J41 n0 n1 w0 w1 p2 (f_X6_longestMatch_L8 n0 n1 w0 w1 p2 k8) v5 v4 v3 = some r → ∀ (H : Heap) (locs : List Loc), va_P G.1 vwCl [(hw0_0, .inr (0, [.ref hw0_1, .int w0.2])), (hw0_1, .inl (G.2.1, n0, .inl w0.1)), (hw1_0, .inr (0, [.ref hw1_1, .int w1.2])), (hw1_1, .inl (G.2.1, n1, .inl w1.1))] H → va_D A [(hw0_0, .inr (0, [.ref hw0_1, .int w0.2])), (hw0_1, .inl (G.2.1, n0, .inl w0.1)), (hw1_0, .inr (0, [.ref hw1_1, .int w1.2])), (hw1_1, .inl (G.2.1, n1, .inl w1.1))] → va_S A s.heap H locs → ∀ (ls : Array Slot), lv_has ls 7 [(5, .int v5), (4, .int v4), (3, .int v3), (0, .ref hw0_0), (1, .ref hw1_0), (2, .int p2)] → W p l e (rm_X6_longestMatch) s m args below meth c H locs 0 0 Q (F0 m 41 ls []) := by
        intro v5 v4 v3 hf H locs hP hD hS ls hl
        unfold f_X6_longestMatch_J41 at hf
        refine lv_iinc (pc := 41) (v := (v5 + (1 : Int32))) (lv' := [(5, .int (v5 + (1 : Int32))), (4, .int v4), (3, .int v3), (0, .ref hw0_0), (1, .ref hw1_0), (2, .int p2)]) hx hb dX6_longestMatch_41 hl (k := 0) rfl rfl (by decide) rfl (fun ls hl => ?_)
        refine lv_goto (pc := 44) (tgt := 8) hx hb dX6_longestMatch_44 (by decide) ?_
        exact ih8 (v5 + (1 : Int32)) v4 v3 hf H locs hP hD hS ls (lv_sub hl [0, 1, 2, 3, 4, 5] rfl)
      intro v5 v4 v3 hf H locs hP hD hS ls hl
      rw [f_X6_longestMatch_L8.eq_2] at hf
      refine lv_iload (pc := 8) hx hb dX6_longestMatch_8 (lv_at hl 0 rfl) ?_
      refine lv_aload_n (pc := 10) hx hb dX6_longestMatch_10 rfl (lv_at hl 3 rfl) ?_
      refine va_getN (pc := 11) (D := G.1) (ci := 0) (v := .int w0.2) (C := RX0) (T := TX0) (N := 2) hx hb hts inX0 hown hK.1 hP 0 rfl rfl 1 (by decide) (nfw_47 hK) (fun _ h9 => h9) rfl dX6_longestMatch_11 ?_
      refine lv_icmp_ge (pc := 14) (tgt := 47) hx hb dX6_longestMatch_14 (by decide) (fun hc => ?_) (fun hc => ?_)
      · have hf := br_y hc hf
        refine lv_iload_n (pc := 47) hx hb dX6_longestMatch_47 rfl (lv_at hl 2 rfl) ?_
        have hf := Option.some.inj hf; subst hf
        rw [← hQ]
        exact g_iret hx hb hr hlocks hP hS dX6_longestMatch_48
      · have hf := br_n hc hf
        refine lv_aload_n (pc := 17) hx hb dX6_longestMatch_17 rfl (lv_at hl 3 rfl) ?_
        refine lv_iload (pc := 18) hx hb dX6_longestMatch_18 (lv_at hl 0 rfl) ?_
        refine lv_aload_n (pc := 20) hx hb dX6_longestMatch_20 rfl (lv_at hl 4 rfl) ?_
        refine lv_iload_n (pc := 21) hx hb dX6_longestMatch_21 rfl (lv_at hl 5 rfl) ?_
        obtain ⟨x1, hcx1, hf⟩ := bn_some hf
        refine g_callV0 (pc := 22) (rest := []) hx hb hml hown hts hK (c_X0_common l G hw0_0 hw0_1 hw1_0 hw1_1 n0 w0 n1 w1 v5 p2 hcx1) wd_307 wd_3 wd_304 wd_305 wd_306 hd_X0_common ⟨rfl, rfl, Nat.le_of_ble_eq_true rfl, Nat.le_of_ble_eq_true rfl⟩ hP hD hS hA [0, 1, 2, 3] rfl rfl 0 0 rfl rfl rfl rfl hl.1 rfl (Nat.le_of_ble_eq_true rfl) dX6_longestMatch_22 ⟨Nat.zero_le _, Nat.zero_le _⟩ (fun H locs hP hS => ?_)
        refine lv_istore (pc := 25) (lv' := [(6, .int x1), (5, .int v5), (4, .int v4), (3, .int v3), (0, .ref hw0_0), (1, .ref hw1_0), (2, .int p2)]) hx hb dX6_longestMatch_25 hl (by decide) rfl (fun ls hl => ?_)
        refine lv_iload (pc := 27) hx hb dX6_longestMatch_27 (lv_at hl 0 rfl) ?_
        refine lv_iload (pc := 29) hx hb dX6_longestMatch_29 (lv_at hl 2 rfl) ?_
        refine lv_icmp_le (pc := 31) (tgt := 41) hx hb dX6_longestMatch_31 (by decide) (fun hc => ?_) (fun hc => ?_)
        · have hf := br_y hc hf
          exact hJ41 v5 v4 v3 hf H locs hP hD hS ls (lv_sub hl [1, 2, 3, 4, 5, 6] rfl)
        · have hf := br_n hc hf
          refine lv_iload (pc := 34) hx hb dX6_longestMatch_34 (lv_at hl 0 rfl) ?_
          refine lv_istore (pc := 36) (lv' := [(4, .int x1), (6, .int x1), (5, .int v5), (3, .int v3), (0, .ref hw0_0), (1, .ref hw1_0), (2, .int p2)]) hx hb dX6_longestMatch_36 hl (by decide) rfl (fun ls hl => ?_)
          refine lv_iload (pc := 38) hx hb dX6_longestMatch_38 (lv_at hl 2 rfl) ?_
          refine lv_istore_n (pc := 40) (lv' := [(3, .int v5), (4, .int x1), (6, .int x1), (5, .int v5), (0, .ref hw0_0), (1, .ref hw1_0), (2, .int p2)]) hx hb dX6_longestMatch_40 rfl hl (by decide) rfl (fun ls hl => ?_)
          exact hJ41 v5 x1 v5 hf H locs hP hD hS ls (lv_sub hl [3, 1, 0, 4, 5, 6] rfl)
  refine lv_iconst (pc := 0) (v := (-1 : Int32)) hx hb dX6_longestMatch_0 (by decide) ?_
  refine lv_istore_n (pc := 1) (lv' := [(3, .int (-1 : Int32)), (0, .ref hw0_0), (1, .ref hw1_0), (2, .int p2)]) hx hb dX6_longestMatch_1 rfl hl (by decide) rfl (fun ls hl => ?_)
  refine lv_iconst (pc := 2) (v := (3 : Int32)) hx hb dX6_longestMatch_2 (by decide) ?_
  refine lv_istore (pc := 3) (lv' := [(4, .int (3 : Int32)), (3, .int (-1 : Int32)), (0, .ref hw0_0), (1, .ref hw1_0), (2, .int p2)]) hx hb dX6_longestMatch_3 hl (by decide) rfl (fun ls hl => ?_)
  refine lv_iconst (pc := 5) (v := (0 : Int32)) hx hb dX6_longestMatch_5 (by decide) ?_
  refine lv_istore (pc := 6) (lv' := [(5, .int (0 : Int32)), (4, .int (3 : Int32)), (3, .int (-1 : Int32)), (0, .ref hw0_0), (1, .ref hw1_0), (2, .int p2)]) hx hb dX6_longestMatch_6 hl (by decide) rfl (fun ls hl => ?_)
  exact hL8 FUEL (0 : Int32) (3 : Int32) (-1 : Int32) hf H locs hP hD hS ls (lv_sub hl [0, 1, 2, 3, 4, 5] rfl)
theorem hd_X6_pushPending : yX6_pushPending.cls ≠ "java/lang/invoke/MethodHandle" ∧ yX6_pushPending.cls ≠ "java/lang/invoke/VarHandle" ∧ (parseMethodDescriptor yX6_pushPending.desc).map (fun d => d.parameters.length) = some 4 := by decide +kernel
abbrev rm_X6_pushPending : Room := { frames := 5, cells := 0, slots := 0, locals := 110 }
noncomputable def f_X6_pushPending_L18 (n1 : Nat) (w1 : TBytes) (p2 : Int32) (p3 : Int32)  : Nat → TDelta → Int32 → Option TDelta
  | 0, _, _ => none
  | k18 + 1, w0, v4 =>
    br (p3 ≤ v4) (some w0) ((f_X0_at n1 w1 v4).bind (fun x2 => (f_X2_putAdded w0 v4 x2).bind (fun x3 => f_X6_pushPending_L18 n1 w1 p2 p3  k18 x3 (v4 + (1 : Int32)))))
noncomputable def f_X6_pushPending (w0 : TDelta) (n1 : Nat) (w1 : TBytes) (p2 : Int32) (p3 : Int32) : Option TDelta :=
  br (p3 ≤ p2) (some w0) ((f_X2_push w0 (2 : Int32) (-1 : Int32) p2 (p3 - p2)).bind (fun x1 => f_X6_pushPending_L18 n1 w1 p2 p3 FUEL x1 p2))
set_option maxHeartbeats 4000000 in
set_option maxRecDepth 100000 in
theorem c_X6_pushPending (l : Launch) (G : GT) (hw0_0 hw0_1 hw0_2 hw0_3 hw0_4 hw0_5 hw0_6 : Nat) (hw1_0 hw1_1 : Nat) (w0 : TDelta) (n1 : Nat) (w1 : TBytes) (p2 : Int32) (p3 : Int32) {r : TDelta} (hf : f_X6_pushPending w0 n1 w1 p2 p3 = some r) : Ct l yX6_pushPending (Cond.code yX6_pushPending cX6_pushPending 5 none :: lw_g) rm_X6_pushPending G [.ref hw0_0, .ref hw1_0, .int p2, .int p3] [(hw0_0, .inr (2, [.ref hw0_1, .ref hw0_2, .ref hw0_3, .ref hw0_4, .ref hw0_5, .ref hw0_6, .int w0.2.2.2.2.2.2.1, .int w0.2.2.2.2.2.2.2.1, .int w0.2.2.2.2.2.2.2.2.1, .int w0.2.2.2.2.2.2.2.2.2.1, .int w0.2.2.2.2.2.2.2.2.2.2])), (hw0_1, .inl (G.2.1, 30, .inl w0.1)), (hw0_2, .inl (G.2.1, 30, .inl w0.2.1)), (hw0_3, .inl (G.2.1, 30, .inl w0.2.2.1)), (hw0_4, .inl (G.2.1, 30, .inl w0.2.2.2.1)), (hw0_5, .inl (G.2.1, 30, .inl w0.2.2.2.2.1)), (hw0_6, .inl (G.2.1, 64, .inl w0.2.2.2.2.2.1)), (hw1_0, .inr (0, [.ref hw1_1, .int w1.2])), (hw1_1, .inl (G.2.1, n1, .inl w1.1))] none [(hw0_0, .inr (2, [.ref hw0_1, .ref hw0_2, .ref hw0_3, .ref hw0_4, .ref hw0_5, .ref hw0_6, .int r.2.2.2.2.2.2.1, .int r.2.2.2.2.2.2.2.1, .int r.2.2.2.2.2.2.2.2.1, .int r.2.2.2.2.2.2.2.2.2.1, .int r.2.2.2.2.2.2.2.2.2.2])), (hw0_1, .inl (G.2.1, 30, .inl r.1)), (hw0_2, .inl (G.2.1, 30, .inl r.2.1)), (hw0_3, .inl (G.2.1, 30, .inl r.2.2.1)), (hw0_4, .inl (G.2.1, 30, .inl r.2.2.2.1)), (hw0_5, .inl (G.2.1, 30, .inl r.2.2.2.2.1)), (hw0_6, .inl (G.2.1, 64, .inl r.2.2.2.2.2.1)), (hw1_0, .inr (0, [.ref hw1_1, .int w1.2])), (hw1_1, .inl (G.2.1, n1, .inl w1.1))] := by
  refine Ct.ofW (cc := cX6_pushPending) (maxL := 5) (ret := none) (own := RX6) (by decide) rfl rfl (Nat.le_of_ble_eq_true rfl) ?_
  intro p e s m args below meth c A hx hb hr hml hts hown hlocks hK hP hD hA hS ls hl
  have hl : lv_has ls 5 [(0, .ref hw0_0), (1, .ref hw1_0), (2, .int p2), (3, .int p3)] := hl
  generalize hQ : gMQ below G _ _ A args s = Q
  generalize hH : s.heap = H at hP ⊢
  have hS : va_S A s.heap H [] := by rw [← hH]; exact hS
  generalize ([] : List Loc) = locs at hS ⊢
  unfold f_X6_pushPending at hf
  have hL18 : ∀ (k18 : Nat) (w0 : TDelta) (v4 : Int32), f_X6_pushPending_L18 n1 w1 p2 p3  k18 w0 v4 = some r → ∀ (H : Heap) (locs : List Loc), va_P G.1 vwCl [(hw0_0, .inr (2, [.ref hw0_1, .ref hw0_2, .ref hw0_3, .ref hw0_4, .ref hw0_5, .ref hw0_6, .int w0.2.2.2.2.2.2.1, .int w0.2.2.2.2.2.2.2.1, .int w0.2.2.2.2.2.2.2.2.1, .int w0.2.2.2.2.2.2.2.2.2.1, .int w0.2.2.2.2.2.2.2.2.2.2])), (hw0_1, .inl (G.2.1, 30, .inl w0.1)), (hw0_2, .inl (G.2.1, 30, .inl w0.2.1)), (hw0_3, .inl (G.2.1, 30, .inl w0.2.2.1)), (hw0_4, .inl (G.2.1, 30, .inl w0.2.2.2.1)), (hw0_5, .inl (G.2.1, 30, .inl w0.2.2.2.2.1)), (hw0_6, .inl (G.2.1, 64, .inl w0.2.2.2.2.2.1)), (hw1_0, .inr (0, [.ref hw1_1, .int w1.2])), (hw1_1, .inl (G.2.1, n1, .inl w1.1))] H → va_D A [(hw0_0, .inr (2, [.ref hw0_1, .ref hw0_2, .ref hw0_3, .ref hw0_4, .ref hw0_5, .ref hw0_6, .int w0.2.2.2.2.2.2.1, .int w0.2.2.2.2.2.2.2.1, .int w0.2.2.2.2.2.2.2.2.1, .int w0.2.2.2.2.2.2.2.2.2.1, .int w0.2.2.2.2.2.2.2.2.2.2])), (hw0_1, .inl (G.2.1, 30, .inl w0.1)), (hw0_2, .inl (G.2.1, 30, .inl w0.2.1)), (hw0_3, .inl (G.2.1, 30, .inl w0.2.2.1)), (hw0_4, .inl (G.2.1, 30, .inl w0.2.2.2.1)), (hw0_5, .inl (G.2.1, 30, .inl w0.2.2.2.2.1)), (hw0_6, .inl (G.2.1, 64, .inl w0.2.2.2.2.2.1)), (hw1_0, .inr (0, [.ref hw1_1, .int w1.2])), (hw1_1, .inl (G.2.1, n1, .inl w1.1))] → va_S A s.heap H locs → ∀ (ls : Array Slot), lv_has ls 5 [(4, .int v4), (0, .ref hw0_0), (1, .ref hw1_0), (3, .int p3)] → W p l e (rm_X6_pushPending) s m args below meth c H locs 0 0 Q (F0 m 18 ls []) := by
    intro k18
    induction k18 with
    | zero =>
      intro w0 v4 hf
      rw [f_X6_pushPending_L18.eq_1] at hf; cases hf
    | succ k18 ih18 =>
      intro w0 v4 hf H locs hP hD hS ls hl
      rw [f_X6_pushPending_L18.eq_2] at hf
      refine lv_iload (pc := 18) hx hb dX6_pushPending_18 (lv_at hl 0 rfl) ?_
      refine lv_iload_n (pc := 20) hx hb dX6_pushPending_20 rfl (lv_at hl 3 rfl) ?_
      refine lv_icmp_ge (pc := 21) (tgt := 42) hx hb dX6_pushPending_21 (by decide) (fun hc => ?_) (fun hc => ?_)
      · have hf := br_y hc hf
        have hf := Option.some.inj hf; subst hf
        rw [← hQ]
        exact g_vret hx hb hr hlocks hP hS dX6_pushPending_42
      · have hf := br_n hc hf
        refine lv_aload_n (pc := 24) hx hb dX6_pushPending_24 rfl (lv_at hl 1 rfl) ?_
        refine lv_iload (pc := 25) hx hb dX6_pushPending_25 (lv_at hl 0 rfl) ?_
        refine lv_aload_n (pc := 27) hx hb dX6_pushPending_27 rfl (lv_at hl 2 rfl) ?_
        refine lv_iload (pc := 28) hx hb dX6_pushPending_28 (lv_at hl 0 rfl) ?_
        obtain ⟨x2, hcx2, hf⟩ := bn_some hf
        refine g_callV0 (pc := 30) (rest := [.int v4, .ref hw0_0]) hx hb hml hown hts hK (c_X0_at l G hw1_0 hw1_1 n1 w1 v4 hcx2) wd_311 wd_3 wd_357 wd_309 wd_310 hd_X0_at ⟨rfl, rfl, Nat.le_of_ble_eq_true rfl, Nat.le_of_ble_eq_true rfl⟩ hP hD hS hA [7, 8] rfl rfl 0 7 rfl rfl rfl rfl hl.1 rfl (Nat.le_of_ble_eq_true rfl) dX6_pushPending_30 ⟨Nat.zero_le _, Nat.zero_le _⟩ (fun H locs hP hS => ?_)
        obtain ⟨x3, hcx3, hf⟩ := bn_some hf
        refine g_callV (pc := 33) (ws' := [(hw0_0, .inr (2, [.ref hw0_1, .ref hw0_2, .ref hw0_3, .ref hw0_4, .ref hw0_5, .ref hw0_6, .int x3.2.2.2.2.2.2.1, .int x3.2.2.2.2.2.2.2.1, .int x3.2.2.2.2.2.2.2.2.1, .int x3.2.2.2.2.2.2.2.2.2.1, .int x3.2.2.2.2.2.2.2.2.2.2])), (hw0_1, .inl (G.2.1, 30, .inl x3.1)), (hw0_2, .inl (G.2.1, 30, .inl x3.2.1)), (hw0_3, .inl (G.2.1, 30, .inl x3.2.2.1)), (hw0_4, .inl (G.2.1, 30, .inl x3.2.2.2.1)), (hw0_5, .inl (G.2.1, 30, .inl x3.2.2.2.2.1)), (hw0_6, .inl (G.2.1, 64, .inl x3.2.2.2.2.2.1)), (hw1_0, .inr (0, [.ref hw1_1, .int w1.2])), (hw1_1, .inl (G.2.1, n1, .inl w1.1))]) (rest := []) hx hb hml hown hts hK (c_X2_putAdded l G hw0_0 hw0_1 hw0_2 hw0_3 hw0_4 hw0_5 hw0_6 w0 v4 x2 hcx3) wd_361 wd_5 wd_358 wd_359 wd_360 hd_X2_putAdded ⟨rfl, rfl, Nat.le_of_ble_eq_true rfl, Nat.le_of_ble_eq_true rfl⟩ hP hD hS hA [0, 1, 2, 3, 4, 5, 6] rfl rfl rfl rfl 2 0 rfl rfl rfl rfl hl.1 rfl (Nat.le_of_ble_eq_true rfl) dX6_pushPending_33 ⟨Nat.zero_le _, Nat.zero_le _⟩ (fun H locs hP hD hS => ?_)
        refine lv_iinc (pc := 36) (v := (v4 + (1 : Int32))) (lv' := [(4, .int (v4 + (1 : Int32))), (0, .ref hw0_0), (1, .ref hw1_0), (3, .int p3)]) hx hb dX6_pushPending_36 hl (k := 0) rfl rfl (by decide) rfl (fun ls hl => ?_)
        refine lv_goto (pc := 39) (tgt := 18) hx hb dX6_pushPending_39 (by decide) ?_
        exact ih18 x3 (v4 + (1 : Int32)) hf H locs hP hD hS ls (lv_sub hl [0, 1, 2, 3] rfl)
  refine lv_iload_n (pc := 0) hx hb dX6_pushPending_0 rfl (lv_at hl 2 rfl) ?_
  refine lv_iload_n (pc := 1) hx hb dX6_pushPending_1 rfl (lv_at hl 3 rfl) ?_
  refine lv_icmp_ge (pc := 2) (tgt := 42) hx hb dX6_pushPending_2 (by decide) (fun hc => ?_) (fun hc => ?_)
  · have hf := br_y hc hf
    have hf := Option.some.inj hf; subst hf
    rw [← hQ]
    exact g_vret hx hb hr hlocks hP hS dX6_pushPending_42
  · have hf := br_n hc hf
    refine lv_aload_n (pc := 5) hx hb dX6_pushPending_5 rfl (lv_at hl 0 rfl) ?_
    refine lv_iconst (pc := 6) (v := (2 : Int32)) hx hb dX6_pushPending_6 (by decide) ?_
    refine lv_iconst (pc := 7) (v := (-1 : Int32)) hx hb dX6_pushPending_7 (by decide) ?_
    refine lv_iload_n (pc := 8) hx hb dX6_pushPending_8 rfl (lv_at hl 2 rfl) ?_
    refine lv_iload_n (pc := 9) hx hb dX6_pushPending_9 rfl (lv_at hl 3 rfl) ?_
    refine lv_iload_n (pc := 10) hx hb dX6_pushPending_10 rfl (lv_at hl 2 rfl) ?_
    refine lv_isub (pc := 11) hx hb dX6_pushPending_11 ?_
    obtain ⟨x1, hcx1, hf⟩ := bn_some hf
    refine g_callV (pc := 12) (ws' := [(hw0_0, .inr (2, [.ref hw0_1, .ref hw0_2, .ref hw0_3, .ref hw0_4, .ref hw0_5, .ref hw0_6, .int x1.2.2.2.2.2.2.1, .int x1.2.2.2.2.2.2.2.1, .int x1.2.2.2.2.2.2.2.2.1, .int x1.2.2.2.2.2.2.2.2.2.1, .int x1.2.2.2.2.2.2.2.2.2.2])), (hw0_1, .inl (G.2.1, 30, .inl x1.1)), (hw0_2, .inl (G.2.1, 30, .inl x1.2.1)), (hw0_3, .inl (G.2.1, 30, .inl x1.2.2.1)), (hw0_4, .inl (G.2.1, 30, .inl x1.2.2.2.1)), (hw0_5, .inl (G.2.1, 30, .inl x1.2.2.2.2.1)), (hw0_6, .inl (G.2.1, 64, .inl x1.2.2.2.2.2.1)), (hw1_0, .inr (0, [.ref hw1_1, .int w1.2])), (hw1_1, .inl (G.2.1, n1, .inl w1.1))]) (rest := []) hx hb hml hown hts hK (c_X2_push l G hw0_0 hw0_1 hw0_2 hw0_3 hw0_4 hw0_5 hw0_6 w0 (2 : Int32) (-1 : Int32) p2 (p3 - p2) hcx1) wd_322 wd_5 wd_319 wd_320 wd_321 hd_X2_push ⟨rfl, rfl, Nat.le_of_ble_eq_true rfl, Nat.le_of_ble_eq_true rfl⟩ hP hD hS hA [0, 1, 2, 3, 4, 5, 6] rfl rfl rfl rfl 2 0 rfl rfl rfl rfl hl.1 rfl (Nat.le_of_ble_eq_true rfl) dX6_pushPending_12 ⟨Nat.zero_le _, Nat.zero_le _⟩ (fun H locs hP hD hS => ?_)
    refine lv_iload_n (pc := 15) hx hb dX6_pushPending_15 rfl (lv_at hl 2 rfl) ?_
    refine lv_istore (pc := 16) (lv' := [(4, .int p2), (0, .ref hw0_0), (1, .ref hw1_0), (2, .int p2), (3, .int p3)]) hx hb dX6_pushPending_16 hl (by decide) rfl (fun ls hl => ?_)
    exact hL18 FUEL x1 p2 hf H locs hP hD hS ls (lv_sub hl [0, 1, 2, 4] rfl)
theorem hd_X6_fill : yX6_fill.cls ≠ "java/lang/invoke/MethodHandle" ∧ yX6_fill.cls ≠ "java/lang/invoke/VarHandle" ∧ (parseMethodDescriptor yX6_fill.desc).map (fun d => d.parameters.length) = some 3 := by decide +kernel
abbrev rm_X6_fill : Room := { frames := 6, cells := 0, slots := 0, locals := 134 }
noncomputable def f_X6_fill_J102 (n1 : Nat) (n2 : Nat) (w1 : TBytes) (w2 : TBytes) (rec17 : TDelta → Int32 → Int32 → Option TDelta) (w0 : TDelta) (v3 : Int32) (v4 : Int32) : Option TDelta :=
  rec17 w0 v4 v3
noncomputable def f_X6_fill_J44 (n1 : Nat) (n2 : Nat) (w1 : TBytes) (w2 : TBytes) (rec17 : TDelta → Int32 → Int32 → Option TDelta) (w0 : TDelta) (v4 : Int32) (v3 : Int32) (s0 : Int32) : Option TDelta :=
  br (s0 = (-1 : Int32)) (f_X6_fill_J102 n1 n2 w1 w2 rec17 w0 v3 (v4 + (1 : Int32))) ((f_X0_common n1 w1 n2 w2 s0 v4).bind (fun x4 => (f_X6_pushPending w0 n2 w2 v3 v4).bind (fun x5 => (f_X2_push x5 (1 : Int32) s0 v4 x4).bind (fun x6 => nm (v4 + (if (1 : Int32) < x4 then x4 else (1 : Int32))) (fun x7 => f_X6_fill_J102 n1 n2 w1 w2 rec17 x6 x7 x7)))))
noncomputable def f_X6_fill_L17 (n1 : Nat) (n2 : Nat) (w1 : TBytes) (w2 : TBytes)  : Nat → TDelta → Int32 → Int32 → Option TDelta
  | 0, _, _, _ => none
  | k17 + 1, w0, v4, v3 =>
    br (w2.2 ≤ v4) ((f_X6_pushPending w0 n2 w2 v3 w2.2).bind (fun x2 => some x2)) ((f_X2_mayCopy w0).bind (fun x3 => br (x3 = 0) (f_X6_fill_J44 n1 n2 w1 w2 (f_X6_fill_L17 n1 n2 w1 w2  k17) w0 v4 v3 (-1 : Int32)) ((f_X6_longestMatch n1 w1 n2 w2 v4).bind (fun x8 => f_X6_fill_J44 n1 n2 w1 w2 (f_X6_fill_L17 n1 n2 w1 w2  k17) w0 v4 v3 x8))))
noncomputable def f_X6_fill (w0 : TDelta) (n1 : Nat) (w1 : TBytes) (n2 : Nat) (w2 : TBytes) : Option TDelta :=
  (f_X2_reset w0 w1.2 w2.2).bind (fun x1 => f_X6_fill_L17 n1 n2 w1 w2 FUEL x1 (0 : Int32) (0 : Int32))
set_option maxHeartbeats 4000000 in
set_option maxRecDepth 100000 in
theorem c_X6_fill (l : Launch) (G : GT) (hw0_0 hw0_1 hw0_2 hw0_3 hw0_4 hw0_5 hw0_6 : Nat) (hw1_0 hw1_1 : Nat) (hw2_0 hw2_1 : Nat) (w0 : TDelta) (n1 : Nat) (w1 : TBytes) (n2 : Nat) (w2 : TBytes) {r : TDelta} (hf : f_X6_fill w0 n1 w1 n2 w2 = some r) : Ct l yX6_fill (Cond.code yX6_fill cX6_fill 7 none :: lw_g) rm_X6_fill G [.ref hw0_0, .ref hw1_0, .ref hw2_0] [(hw0_0, .inr (2, [.ref hw0_1, .ref hw0_2, .ref hw0_3, .ref hw0_4, .ref hw0_5, .ref hw0_6, .int w0.2.2.2.2.2.2.1, .int w0.2.2.2.2.2.2.2.1, .int w0.2.2.2.2.2.2.2.2.1, .int w0.2.2.2.2.2.2.2.2.2.1, .int w0.2.2.2.2.2.2.2.2.2.2])), (hw0_1, .inl (G.2.1, 30, .inl w0.1)), (hw0_2, .inl (G.2.1, 30, .inl w0.2.1)), (hw0_3, .inl (G.2.1, 30, .inl w0.2.2.1)), (hw0_4, .inl (G.2.1, 30, .inl w0.2.2.2.1)), (hw0_5, .inl (G.2.1, 30, .inl w0.2.2.2.2.1)), (hw0_6, .inl (G.2.1, 64, .inl w0.2.2.2.2.2.1)), (hw1_0, .inr (0, [.ref hw1_1, .int w1.2])), (hw1_1, .inl (G.2.1, n1, .inl w1.1)), (hw2_0, .inr (0, [.ref hw2_1, .int w2.2])), (hw2_1, .inl (G.2.1, n2, .inl w2.1))] none [(hw0_0, .inr (2, [.ref hw0_1, .ref hw0_2, .ref hw0_3, .ref hw0_4, .ref hw0_5, .ref hw0_6, .int r.2.2.2.2.2.2.1, .int r.2.2.2.2.2.2.2.1, .int r.2.2.2.2.2.2.2.2.1, .int r.2.2.2.2.2.2.2.2.2.1, .int r.2.2.2.2.2.2.2.2.2.2])), (hw0_1, .inl (G.2.1, 30, .inl r.1)), (hw0_2, .inl (G.2.1, 30, .inl r.2.1)), (hw0_3, .inl (G.2.1, 30, .inl r.2.2.1)), (hw0_4, .inl (G.2.1, 30, .inl r.2.2.2.1)), (hw0_5, .inl (G.2.1, 30, .inl r.2.2.2.2.1)), (hw0_6, .inl (G.2.1, 64, .inl r.2.2.2.2.2.1)), (hw1_0, .inr (0, [.ref hw1_1, .int w1.2])), (hw1_1, .inl (G.2.1, n1, .inl w1.1)), (hw2_0, .inr (0, [.ref hw2_1, .int w2.2])), (hw2_1, .inl (G.2.1, n2, .inl w2.1))] := by
  refine Ct.ofW (cc := cX6_fill) (maxL := 7) (ret := none) (own := RX6) (by decide) rfl rfl (Nat.le_of_ble_eq_true rfl) ?_
  intro p e s m args below meth c A hx hb hr hml hts hown hlocks hK hP hD hA hS ls hl
  have hl : lv_has ls 7 [(0, .ref hw0_0), (1, .ref hw1_0), (2, .ref hw2_0)] := hl
  generalize hQ : gMQ below G _ _ A args s = Q
  generalize hH : s.heap = H at hP ⊢
  have hS : va_S A s.heap H [] := by rw [← hH]; exact hS
  generalize ([] : List Loc) = locs at hS ⊢
  unfold f_X6_fill at hf
  have hL17 : ∀ (k17 : Nat) (w0 : TDelta) (v4 : Int32) (v3 : Int32), f_X6_fill_L17 n1 n2 w1 w2  k17 w0 v4 v3 = some r → ∀ (H : Heap) (locs : List Loc), va_P G.1 vwCl [(hw0_0, .inr (2, [.ref hw0_1, .ref hw0_2, .ref hw0_3, .ref hw0_4, .ref hw0_5, .ref hw0_6, .int w0.2.2.2.2.2.2.1, .int w0.2.2.2.2.2.2.2.1, .int w0.2.2.2.2.2.2.2.2.1, .int w0.2.2.2.2.2.2.2.2.2.1, .int w0.2.2.2.2.2.2.2.2.2.2])), (hw0_1, .inl (G.2.1, 30, .inl w0.1)), (hw0_2, .inl (G.2.1, 30, .inl w0.2.1)), (hw0_3, .inl (G.2.1, 30, .inl w0.2.2.1)), (hw0_4, .inl (G.2.1, 30, .inl w0.2.2.2.1)), (hw0_5, .inl (G.2.1, 30, .inl w0.2.2.2.2.1)), (hw0_6, .inl (G.2.1, 64, .inl w0.2.2.2.2.2.1)), (hw1_0, .inr (0, [.ref hw1_1, .int w1.2])), (hw1_1, .inl (G.2.1, n1, .inl w1.1)), (hw2_0, .inr (0, [.ref hw2_1, .int w2.2])), (hw2_1, .inl (G.2.1, n2, .inl w2.1))] H → va_D A [(hw0_0, .inr (2, [.ref hw0_1, .ref hw0_2, .ref hw0_3, .ref hw0_4, .ref hw0_5, .ref hw0_6, .int w0.2.2.2.2.2.2.1, .int w0.2.2.2.2.2.2.2.1, .int w0.2.2.2.2.2.2.2.2.1, .int w0.2.2.2.2.2.2.2.2.2.1, .int w0.2.2.2.2.2.2.2.2.2.2])), (hw0_1, .inl (G.2.1, 30, .inl w0.1)), (hw0_2, .inl (G.2.1, 30, .inl w0.2.1)), (hw0_3, .inl (G.2.1, 30, .inl w0.2.2.1)), (hw0_4, .inl (G.2.1, 30, .inl w0.2.2.2.1)), (hw0_5, .inl (G.2.1, 30, .inl w0.2.2.2.2.1)), (hw0_6, .inl (G.2.1, 64, .inl w0.2.2.2.2.2.1)), (hw1_0, .inr (0, [.ref hw1_1, .int w1.2])), (hw1_1, .inl (G.2.1, n1, .inl w1.1)), (hw2_0, .inr (0, [.ref hw2_1, .int w2.2])), (hw2_1, .inl (G.2.1, n2, .inl w2.1))] → va_S A s.heap H locs → ∀ (ls : Array Slot), lv_has ls 7 [(4, .int v4), (3, .int v3), (0, .ref hw0_0), (1, .ref hw1_0), (2, .ref hw2_0)] → W p l e (rm_X6_fill) s m args below meth c H locs 0 0 Q (F0 m 17 ls []) := by
    intro k17
    induction k17 with
    | zero =>
      intro w0 v4 v3 hf
      rw [f_X6_fill_L17.eq_1] at hf; cases hf
    | succ k17 ih17 =>
      have hJ102 : ∀ (w0 : TDelta) (v3 : Int32) (v4 : Int32), f_X6_fill_J102 n1 n2 w1 w2 (f_X6_fill_L17 n1 n2 w1 w2 k17) w0 v3 v4 = some r → ∀ (H : Heap) (locs : List Loc), va_P G.1 vwCl [(hw0_0, .inr (2, [.ref hw0_1, .ref hw0_2, .ref hw0_3, .ref hw0_4, .ref hw0_5, .ref hw0_6, .int w0.2.2.2.2.2.2.1, .int w0.2.2.2.2.2.2.2.1, .int w0.2.2.2.2.2.2.2.2.1, .int w0.2.2.2.2.2.2.2.2.2.1, .int w0.2.2.2.2.2.2.2.2.2.2])), (hw0_1, .inl (G.2.1, 30, .inl w0.1)), (hw0_2, .inl (G.2.1, 30, .inl w0.2.1)), (hw0_3, .inl (G.2.1, 30, .inl w0.2.2.1)), (hw0_4, .inl (G.2.1, 30, .inl w0.2.2.2.1)), (hw0_5, .inl (G.2.1, 30, .inl w0.2.2.2.2.1)), (hw0_6, .inl (G.2.1, 64, .inl w0.2.2.2.2.2.1)), (hw1_0, .inr (0, [.ref hw1_1, .int w1.2])), (hw1_1, .inl (G.2.1, n1, .inl w1.1)), (hw2_0, .inr (0, [.ref hw2_1, .int w2.2])), (hw2_1, .inl (G.2.1, n2, .inl w2.1))] H → va_D A [(hw0_0, .inr (2, [.ref hw0_1, .ref hw0_2, .ref hw0_3, .ref hw0_4, .ref hw0_5, .ref hw0_6, .int w0.2.2.2.2.2.2.1, .int w0.2.2.2.2.2.2.2.1, .int w0.2.2.2.2.2.2.2.2.1, .int w0.2.2.2.2.2.2.2.2.2.1, .int w0.2.2.2.2.2.2.2.2.2.2])), (hw0_1, .inl (G.2.1, 30, .inl w0.1)), (hw0_2, .inl (G.2.1, 30, .inl w0.2.1)), (hw0_3, .inl (G.2.1, 30, .inl w0.2.2.1)), (hw0_4, .inl (G.2.1, 30, .inl w0.2.2.2.1)), (hw0_5, .inl (G.2.1, 30, .inl w0.2.2.2.2.1)), (hw0_6, .inl (G.2.1, 64, .inl w0.2.2.2.2.2.1)), (hw1_0, .inr (0, [.ref hw1_1, .int w1.2])), (hw1_1, .inl (G.2.1, n1, .inl w1.1)), (hw2_0, .inr (0, [.ref hw2_1, .int w2.2])), (hw2_1, .inl (G.2.1, n2, .inl w2.1))] → va_S A s.heap H locs → ∀ (ls : Array Slot), lv_has ls 7 [(3, .int v3), (4, .int v4), (0, .ref hw0_0), (1, .ref hw1_0), (2, .ref hw2_0)] → W p l e (rm_X6_fill) s m args below meth c H locs 0 0 Q (F0 m 102 ls []) := by
        intro w0 v3 v4 hf H locs hP hD hS ls hl
        unfold f_X6_fill_J102 at hf
        refine lv_goto (pc := 102) (tgt := 17) hx hb dX6_fill_102 (by decide) ?_
        exact ih17 w0 v4 v3 hf H locs hP hD hS ls (lv_sub hl [1, 0, 2, 3, 4] rfl)
      have hJ44 : ∀ (w0 : TDelta) (v4 : Int32) (v3 : Int32) (s0 : Int32), f_X6_fill_J44 n1 n2 w1 w2 (f_X6_fill_L17 n1 n2 w1 w2 k17) w0 v4 v3 s0 = some r → ∀ (H : Heap) (locs : List Loc), va_P G.1 vwCl [(hw0_0, .inr (2, [.ref hw0_1, .ref hw0_2, .ref hw0_3, .ref hw0_4, .ref hw0_5, .ref hw0_6, .int w0.2.2.2.2.2.2.1, .int w0.2.2.2.2.2.2.2.1, .int w0.2.2.2.2.2.2.2.2.1, .int w0.2.2.2.2.2.2.2.2.2.1, .int w0.2.2.2.2.2.2.2.2.2.2])), (hw0_1, .inl (G.2.1, 30, .inl w0.1)), (hw0_2, .inl (G.2.1, 30, .inl w0.2.1)), (hw0_3, .inl (G.2.1, 30, .inl w0.2.2.1)), (hw0_4, .inl (G.2.1, 30, .inl w0.2.2.2.1)), (hw0_5, .inl (G.2.1, 30, .inl w0.2.2.2.2.1)), (hw0_6, .inl (G.2.1, 64, .inl w0.2.2.2.2.2.1)), (hw1_0, .inr (0, [.ref hw1_1, .int w1.2])), (hw1_1, .inl (G.2.1, n1, .inl w1.1)), (hw2_0, .inr (0, [.ref hw2_1, .int w2.2])), (hw2_1, .inl (G.2.1, n2, .inl w2.1))] H → va_D A [(hw0_0, .inr (2, [.ref hw0_1, .ref hw0_2, .ref hw0_3, .ref hw0_4, .ref hw0_5, .ref hw0_6, .int w0.2.2.2.2.2.2.1, .int w0.2.2.2.2.2.2.2.1, .int w0.2.2.2.2.2.2.2.2.1, .int w0.2.2.2.2.2.2.2.2.2.1, .int w0.2.2.2.2.2.2.2.2.2.2])), (hw0_1, .inl (G.2.1, 30, .inl w0.1)), (hw0_2, .inl (G.2.1, 30, .inl w0.2.1)), (hw0_3, .inl (G.2.1, 30, .inl w0.2.2.1)), (hw0_4, .inl (G.2.1, 30, .inl w0.2.2.2.1)), (hw0_5, .inl (G.2.1, 30, .inl w0.2.2.2.2.1)), (hw0_6, .inl (G.2.1, 64, .inl w0.2.2.2.2.2.1)), (hw1_0, .inr (0, [.ref hw1_1, .int w1.2])), (hw1_1, .inl (G.2.1, n1, .inl w1.1)), (hw2_0, .inr (0, [.ref hw2_1, .int w2.2])), (hw2_1, .inl (G.2.1, n2, .inl w2.1))] → va_S A s.heap H locs → ∀ (ls : Array Slot), lv_has ls 7 [(4, .int v4), (3, .int v3), (0, .ref hw0_0), (1, .ref hw1_0), (2, .ref hw2_0)] → W p l e (rm_X6_fill) s m args below meth c H locs 0 0 Q (F0 m 44 ls [.int s0]) := by
        intro w0 v4 v3 s0 hf H locs hP hD hS ls hl
        unfold f_X6_fill_J44 at hf
        refine lv_istore (pc := 44) (lv' := [(5, .int s0), (4, .int v4), (3, .int v3), (0, .ref hw0_0), (1, .ref hw1_0), (2, .ref hw2_0)]) hx hb dX6_fill_44 hl (by decide) rfl (fun ls hl => ?_)
        refine lv_iload (pc := 46) hx hb dX6_fill_46 (lv_at hl 0 rfl) ?_
        refine lv_iconst (pc := 48) (v := (-1 : Int32)) hx hb dX6_fill_48 (by decide) ?_
        refine lv_icmp_ne (pc := 49) (tgt := 58) hx hb dX6_fill_49 (by decide) (fun hc => ?_) (fun hc => ?_)
        · have hf := br_n hc hf
          refine lv_aload_n (pc := 58) hx hb dX6_fill_58 rfl (lv_at hl 4 rfl) ?_
          refine lv_iload (pc := 59) hx hb dX6_fill_59 (lv_at hl 0 rfl) ?_
          refine lv_aload_n (pc := 61) hx hb dX6_fill_61 rfl (lv_at hl 5 rfl) ?_
          refine lv_iload (pc := 62) hx hb dX6_fill_62 (lv_at hl 1 rfl) ?_
          obtain ⟨x4, hcx4, hf⟩ := bn_some hf
          refine g_callV0 (pc := 64) (rest := []) hx hb hml hown hts hK (c_X0_common l G hw1_0 hw1_1 hw2_0 hw2_1 n1 w1 n2 w2 s0 v4 hcx4) wd_307 wd_3 wd_304 wd_305 wd_306 hd_X0_common ⟨rfl, rfl, Nat.le_of_ble_eq_true rfl, Nat.le_of_ble_eq_true rfl⟩ hP hD hS hA [7, 8, 9, 10] rfl rfl 0 7 rfl rfl rfl rfl hl.1 rfl (Nat.le_of_ble_eq_true rfl) dX6_fill_64 ⟨Nat.zero_le _, Nat.zero_le _⟩ (fun H locs hP hS => ?_)
          refine lv_istore (pc := 67) (lv' := [(6, .int x4), (5, .int s0), (4, .int v4), (3, .int v3), (0, .ref hw0_0), (1, .ref hw1_0), (2, .ref hw2_0)]) hx hb dX6_fill_67 hl (by decide) rfl (fun ls hl => ?_)
          refine lv_aload_n (pc := 69) hx hb dX6_fill_69 rfl (lv_at hl 4 rfl) ?_
          refine lv_aload_n (pc := 70) hx hb dX6_fill_70 rfl (lv_at hl 6 rfl) ?_
          refine lv_iload_n (pc := 71) hx hb dX6_fill_71 rfl (lv_at hl 3 rfl) ?_
          refine lv_iload (pc := 72) hx hb dX6_fill_72 (lv_at hl 2 rfl) ?_
          obtain ⟨x5, hcx5, hf⟩ := bn_some hf
          refine g_callS (pc := 74) (ws' := [(hw0_0, .inr (2, [.ref hw0_1, .ref hw0_2, .ref hw0_3, .ref hw0_4, .ref hw0_5, .ref hw0_6, .int x5.2.2.2.2.2.2.1, .int x5.2.2.2.2.2.2.2.1, .int x5.2.2.2.2.2.2.2.2.1, .int x5.2.2.2.2.2.2.2.2.2.1, .int x5.2.2.2.2.2.2.2.2.2.2])), (hw0_1, .inl (G.2.1, 30, .inl x5.1)), (hw0_2, .inl (G.2.1, 30, .inl x5.2.1)), (hw0_3, .inl (G.2.1, 30, .inl x5.2.2.1)), (hw0_4, .inl (G.2.1, 30, .inl x5.2.2.2.1)), (hw0_5, .inl (G.2.1, 30, .inl x5.2.2.2.2.1)), (hw0_6, .inl (G.2.1, 64, .inl x5.2.2.2.2.2.1)), (hw1_0, .inr (0, [.ref hw1_1, .int w1.2])), (hw1_1, .inl (G.2.1, n1, .inl w1.1)), (hw2_0, .inr (0, [.ref hw2_1, .int w2.2])), (hw2_1, .inl (G.2.1, n2, .inl w2.1))]) (rest := []) hx hb hml hown hts hK (c_X6_pushPending l G hw0_0 hw0_1 hw0_2 hw0_3 hw0_4 hw0_5 hw0_6 hw2_0 hw2_1 w0 n2 w2 v3 v4 hcx5) wd_318 wd_18 wd_316 wd_317 hd_X6_pushPending ⟨rfl, rfl, Nat.le_of_ble_eq_true rfl, Nat.le_of_ble_eq_true rfl⟩ hP hD hS hA [0, 1, 2, 3, 4, 5, 6, 9, 10] rfl rfl rfl rfl rfl hl.1 rfl (Nat.le_of_ble_eq_true rfl) dX6_fill_74 ⟨Nat.zero_le _, Nat.zero_le _⟩ (fun H locs hP hD hS => ?_)
          refine lv_aload_n (pc := 77) hx hb dX6_fill_77 rfl (lv_at hl 4 rfl) ?_
          refine lv_iconst (pc := 78) (v := (1 : Int32)) hx hb dX6_fill_78 (by decide) ?_
          refine lv_iload (pc := 79) hx hb dX6_fill_79 (lv_at hl 1 rfl) ?_
          refine lv_iload (pc := 81) hx hb dX6_fill_81 (lv_at hl 2 rfl) ?_
          refine lv_iload (pc := 83) hx hb dX6_fill_83 (lv_at hl 0 rfl) ?_
          obtain ⟨x6, hcx6, hf⟩ := bn_some hf
          refine g_callV (pc := 85) (ws' := [(hw0_0, .inr (2, [.ref hw0_1, .ref hw0_2, .ref hw0_3, .ref hw0_4, .ref hw0_5, .ref hw0_6, .int x6.2.2.2.2.2.2.1, .int x6.2.2.2.2.2.2.2.1, .int x6.2.2.2.2.2.2.2.2.1, .int x6.2.2.2.2.2.2.2.2.2.1, .int x6.2.2.2.2.2.2.2.2.2.2])), (hw0_1, .inl (G.2.1, 30, .inl x6.1)), (hw0_2, .inl (G.2.1, 30, .inl x6.2.1)), (hw0_3, .inl (G.2.1, 30, .inl x6.2.2.1)), (hw0_4, .inl (G.2.1, 30, .inl x6.2.2.2.1)), (hw0_5, .inl (G.2.1, 30, .inl x6.2.2.2.2.1)), (hw0_6, .inl (G.2.1, 64, .inl x6.2.2.2.2.2.1)), (hw1_0, .inr (0, [.ref hw1_1, .int w1.2])), (hw1_1, .inl (G.2.1, n1, .inl w1.1)), (hw2_0, .inr (0, [.ref hw2_1, .int w2.2])), (hw2_1, .inl (G.2.1, n2, .inl w2.1))]) (rest := []) hx hb hml hown hts hK (c_X2_push l G hw0_0 hw0_1 hw0_2 hw0_3 hw0_4 hw0_5 hw0_6 x5 (1 : Int32) s0 v4 x4 hcx6) wd_322 wd_5 wd_319 wd_320 wd_321 hd_X2_push ⟨rfl, rfl, Nat.le_of_ble_eq_true rfl, Nat.le_of_ble_eq_true rfl⟩ hP hD hS hA [0, 1, 2, 3, 4, 5, 6] rfl rfl rfl rfl 2 0 rfl rfl rfl rfl hl.1 rfl (Nat.le_of_ble_eq_true rfl) dX6_fill_85 ⟨Nat.zero_le _, Nat.zero_le _⟩ (fun H locs hP hD hS => ?_)
          refine lv_iload (pc := 88) hx hb dX6_fill_88 (lv_at hl 2 rfl) ?_
          refine lv_iconst (pc := 90) (v := (1 : Int32)) hx hb dX6_fill_90 (by decide) ?_
          refine lv_iload (pc := 91) hx hb dX6_fill_91 (lv_at hl 0 rfl) ?_
          refine va_mmax (pc := 93) hx hb (hml.trans hl.1.symm) hown (hts _ wd_362) (hts _ wd_43) (hts _ wd_4) (hts _ wd_44) (Nat.le_of_ble_eq_true rfl) (Nat.le_of_ble_eq_true rfl) (Nat.le_of_ble_eq_true rfl) (Nat.le_of_ble_eq_true rfl) dX6_fill_93 ?_
          refine lv_iadd (pc := 96) hx hb dX6_fill_96 ?_
          refine lv_topi (fun x7 ex7 => ?_)
          have hf := nm_some hf ex7
          refine lv_istore (pc := 97) (lv' := [(4, .int x7), (6, .int x4), (5, .int s0), (3, .int v3), (0, .ref hw0_0), (1, .ref hw1_0), (2, .ref hw2_0)]) hx hb dX6_fill_97 hl (by decide) rfl (fun ls hl => ?_)
          refine lv_iload (pc := 99) hx hb dX6_fill_99 (lv_at hl 0 rfl) ?_
          refine lv_istore_n (pc := 101) (lv' := [(3, .int x7), (4, .int x7), (6, .int x4), (5, .int s0), (0, .ref hw0_0), (1, .ref hw1_0), (2, .ref hw2_0)]) hx hb dX6_fill_101 rfl hl (by decide) rfl (fun ls hl => ?_)
          exact hJ102 x6 x7 x7 hf H locs hP hD hS ls (lv_sub hl [0, 1, 4, 5, 6] rfl)
        · have hf := br_y hc hf
          refine lv_iinc (pc := 52) (v := (v4 + (1 : Int32))) (lv' := [(4, .int (v4 + (1 : Int32))), (5, .int s0), (3, .int v3), (0, .ref hw0_0), (1, .ref hw1_0), (2, .ref hw2_0)]) hx hb dX6_fill_52 hl (k := 1) rfl rfl (by decide) rfl (fun ls hl => ?_)
          refine lv_goto (pc := 55) (tgt := 102) hx hb dX6_fill_55 (by decide) ?_
          exact hJ102 w0 v3 (v4 + (1 : Int32)) hf H locs hP hD hS ls (lv_sub hl [2, 0, 3, 4, 5] rfl)
      intro w0 v4 v3 hf H locs hP hD hS ls hl
      rw [f_X6_fill_L17.eq_2] at hf
      refine lv_iload (pc := 17) hx hb dX6_fill_17 (lv_at hl 0 rfl) ?_
      refine lv_aload_n (pc := 19) hx hb dX6_fill_19 rfl (lv_at hl 4 rfl) ?_
      refine va_getN (pc := 20) (D := G.1) (ci := 0) (v := .int w2.2) (C := RX0) (T := TX0) (N := 2) hx hb hts inX0 hown hK.1 hP 9 rfl rfl 1 (by decide) (nfw_47 hK) (fun _ h9 => h9) rfl dX6_fill_20 ?_
      refine lv_icmp_ge (pc := 23) (tgt := 105) hx hb dX6_fill_23 (by decide) (fun hc => ?_) (fun hc => ?_)
      · have hf := br_y hc hf
        refine lv_aload_n (pc := 105) hx hb dX6_fill_105 rfl (lv_at hl 2 rfl) ?_
        refine lv_aload_n (pc := 106) hx hb dX6_fill_106 rfl (lv_at hl 4 rfl) ?_
        refine lv_iload_n (pc := 107) hx hb dX6_fill_107 rfl (lv_at hl 1 rfl) ?_
        refine lv_aload_n (pc := 108) hx hb dX6_fill_108 rfl (lv_at hl 4 rfl) ?_
        refine va_getN (pc := 109) (D := G.1) (ci := 0) (v := .int w2.2) (C := RX0) (T := TX0) (N := 2) hx hb hts inX0 hown hK.1 hP 9 rfl rfl 1 (by decide) (nfw_47 hK) (fun _ h9 => h9) rfl dX6_fill_109 ?_
        obtain ⟨x2, hcx2, hf⟩ := bn_some hf
        refine g_callS (pc := 112) (ws' := [(hw0_0, .inr (2, [.ref hw0_1, .ref hw0_2, .ref hw0_3, .ref hw0_4, .ref hw0_5, .ref hw0_6, .int x2.2.2.2.2.2.2.1, .int x2.2.2.2.2.2.2.2.1, .int x2.2.2.2.2.2.2.2.2.1, .int x2.2.2.2.2.2.2.2.2.2.1, .int x2.2.2.2.2.2.2.2.2.2.2])), (hw0_1, .inl (G.2.1, 30, .inl x2.1)), (hw0_2, .inl (G.2.1, 30, .inl x2.2.1)), (hw0_3, .inl (G.2.1, 30, .inl x2.2.2.1)), (hw0_4, .inl (G.2.1, 30, .inl x2.2.2.2.1)), (hw0_5, .inl (G.2.1, 30, .inl x2.2.2.2.2.1)), (hw0_6, .inl (G.2.1, 64, .inl x2.2.2.2.2.2.1)), (hw1_0, .inr (0, [.ref hw1_1, .int w1.2])), (hw1_1, .inl (G.2.1, n1, .inl w1.1)), (hw2_0, .inr (0, [.ref hw2_1, .int w2.2])), (hw2_1, .inl (G.2.1, n2, .inl w2.1))]) (rest := []) hx hb hml hown hts hK (c_X6_pushPending l G hw0_0 hw0_1 hw0_2 hw0_3 hw0_4 hw0_5 hw0_6 hw2_0 hw2_1 w0 n2 w2 v3 w2.2 hcx2) wd_318 wd_18 wd_316 wd_317 hd_X6_pushPending ⟨rfl, rfl, Nat.le_of_ble_eq_true rfl, Nat.le_of_ble_eq_true rfl⟩ hP hD hS hA [0, 1, 2, 3, 4, 5, 6, 9, 10] rfl rfl rfl rfl rfl hl.1 rfl (Nat.le_of_ble_eq_true rfl) dX6_fill_112 ⟨Nat.zero_le _, Nat.zero_le _⟩ (fun H locs hP hD hS => ?_)
        have hf := Option.some.inj hf; subst hf
        rw [← hQ]
        exact g_vret hx hb hr hlocks hP hS dX6_fill_115
      · have hf := br_n hc hf
        refine lv_aload_n (pc := 26) hx hb dX6_fill_26 rfl (lv_at hl 2 rfl) ?_
        obtain ⟨x3, hcx3, hf⟩ := bn_some hf
        refine g_callV0 (pc := 27) (rest := []) hx hb hml hown hts hK (c_X2_mayCopy l G hw0_0 hw0_1 hw0_2 hw0_3 hw0_4 hw0_5 hw0_6 w0 hcx3) wd_294 wd_5 wd_291 wd_292 wd_293 hd_X2_mayCopy ⟨rfl, rfl, Nat.le_of_ble_eq_true rfl, Nat.le_of_ble_eq_true rfl⟩ hP hD hS hA [0, 1, 2, 3, 4, 5, 6] rfl rfl 2 0 rfl rfl rfl rfl hl.1 rfl (Nat.le_of_ble_eq_true rfl) dX6_fill_27 ⟨Nat.zero_le _, Nat.zero_le _⟩ (fun H locs hP hS => ?_)
        refine lv_if_eq (pc := 30) (tgt := 43) hx hb dX6_fill_30 (by decide) (fun hc => ?_) (fun hc => ?_)
        · have hf := br_y hc hf
          refine lv_iconst (pc := 43) (v := (-1 : Int32)) hx hb dX6_fill_43 (by decide) ?_
          exact hJ44 w0 v4 v3 (-1 : Int32) hf H locs hP hD hS ls (lv_sub hl [0, 1, 2, 3, 4] rfl)
        · have hf := br_n hc hf
          refine lv_aload_n (pc := 33) hx hb dX6_fill_33 rfl (lv_at hl 3 rfl) ?_
          refine lv_aload_n (pc := 34) hx hb dX6_fill_34 rfl (lv_at hl 4 rfl) ?_
          refine lv_iload (pc := 35) hx hb dX6_fill_35 (lv_at hl 0 rfl) ?_
          obtain ⟨x8, hcx8, hf⟩ := bn_some hf
          refine g_callS0 (pc := 37) (rest := []) hx hb hml hown hts hK (c_X6_longestMatch l G hw1_0 hw1_1 hw2_0 hw2_1 n1 w1 n2 w2 v4 hcx8) wd_303 wd_18 wd_301 wd_302 hd_X6_longestMatch ⟨rfl, rfl, Nat.le_of_ble_eq_true rfl, Nat.le_of_ble_eq_true rfl⟩ hP hD hS hA [7, 8, 9, 10] rfl rfl rfl hl.1 rfl (Nat.le_of_ble_eq_true rfl) dX6_fill_37 ⟨Nat.zero_le _, Nat.zero_le _⟩ (fun H locs hP hS => ?_)
          refine lv_goto (pc := 40) (tgt := 44) hx hb dX6_fill_40 (by decide) ?_
          exact hJ44 w0 v4 v3 x8 hf H locs hP hD hS ls (lv_sub hl [0, 1, 2, 3, 4] rfl)
  refine lv_aload_n (pc := 0) hx hb dX6_fill_0 rfl (lv_at hl 0 rfl) ?_
  refine lv_aload_n (pc := 1) hx hb dX6_fill_1 rfl (lv_at hl 1 rfl) ?_
  refine va_getN (pc := 2) (D := G.1) (ci := 0) (v := .int w1.2) (C := RX0) (T := TX0) (N := 2) hx hb hts inX0 hown hK.1 hP 7 rfl rfl 1 (by decide) (nfw_47 hK) (fun _ h9 => h9) rfl dX6_fill_2 ?_
  refine lv_aload_n (pc := 5) hx hb dX6_fill_5 rfl (lv_at hl 2 rfl) ?_
  refine va_getN (pc := 6) (D := G.1) (ci := 0) (v := .int w2.2) (C := RX0) (T := TX0) (N := 2) hx hb hts inX0 hown hK.1 hP 9 rfl rfl 1 (by decide) (nfw_47 hK) (fun _ h9 => h9) rfl dX6_fill_6 ?_
  obtain ⟨x1, hcx1, hf⟩ := bn_some hf
  refine g_callV (pc := 9) (ws' := [(hw0_0, .inr (2, [.ref hw0_1, .ref hw0_2, .ref hw0_3, .ref hw0_4, .ref hw0_5, .ref hw0_6, .int x1.2.2.2.2.2.2.1, .int x1.2.2.2.2.2.2.2.1, .int x1.2.2.2.2.2.2.2.2.1, .int x1.2.2.2.2.2.2.2.2.2.1, .int x1.2.2.2.2.2.2.2.2.2.2])), (hw0_1, .inl (G.2.1, 30, .inl x1.1)), (hw0_2, .inl (G.2.1, 30, .inl x1.2.1)), (hw0_3, .inl (G.2.1, 30, .inl x1.2.2.1)), (hw0_4, .inl (G.2.1, 30, .inl x1.2.2.2.1)), (hw0_5, .inl (G.2.1, 30, .inl x1.2.2.2.2.1)), (hw0_6, .inl (G.2.1, 64, .inl x1.2.2.2.2.2.1)), (hw1_0, .inr (0, [.ref hw1_1, .int w1.2])), (hw1_1, .inl (G.2.1, n1, .inl w1.1)), (hw2_0, .inr (0, [.ref hw2_1, .int w2.2])), (hw2_1, .inl (G.2.1, n2, .inl w2.1))]) (rest := []) hx hb hml hown hts hK (c_X2_reset l G hw0_0 hw0_1 hw0_2 hw0_3 hw0_4 hw0_5 hw0_6 w0 w1.2 w2.2 hcx1) wd_290 wd_5 wd_287 wd_288 wd_289 hd_X2_reset ⟨rfl, rfl, Nat.le_of_ble_eq_true rfl, Nat.le_of_ble_eq_true rfl⟩ hP hD hS hA [0, 1, 2, 3, 4, 5, 6] rfl rfl rfl rfl 2 0 rfl rfl rfl rfl hl.1 rfl (Nat.le_of_ble_eq_true rfl) dX6_fill_9 ⟨Nat.zero_le _, Nat.zero_le _⟩ (fun H locs hP hD hS => ?_)
  refine lv_iconst (pc := 12) (v := (0 : Int32)) hx hb dX6_fill_12 (by decide) ?_
  refine lv_istore_n (pc := 13) (lv' := [(3, .int (0 : Int32)), (0, .ref hw0_0), (1, .ref hw1_0), (2, .ref hw2_0)]) hx hb dX6_fill_13 rfl hl (by decide) rfl (fun ls hl => ?_)
  refine lv_iconst (pc := 14) (v := (0 : Int32)) hx hb dX6_fill_14 (by decide) ?_
  refine lv_istore (pc := 15) (lv' := [(4, .int (0 : Int32)), (3, .int (0 : Int32)), (0, .ref hw0_0), (1, .ref hw1_0), (2, .ref hw2_0)]) hx hb dX6_fill_15 hl (by decide) rfl (fun ls hl => ?_)
  exact hL17 FUEL x1 (0 : Int32) (0 : Int32) hf H locs hP hD hS ls (lv_sub hl [0, 1, 2, 3, 4] rfl)
