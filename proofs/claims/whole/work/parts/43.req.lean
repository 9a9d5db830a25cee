theorem hd_X10_requireVersion : yX10_requireVersion.cls ≠ "java/lang/invoke/MethodHandle" ∧ yX10_requireVersion.cls ≠ "java/lang/invoke/VarHandle" ∧ (parseMethodDescriptor yX10_requireVersion.desc).map (fun d => d.parameters.length) = some 1 := by decide +kernel
abbrev rm_X10_requireVersion : Room := { frames := 6, cells := 1, slots := 6, locals := 92 }
noncomputable def f_X10_requireVersion (p0 : Int32) : Option (Option String) :=
  br (p0 = 0) (some none) (br (p0 = (1 : Int32)) (some none) (some (some "java/lang/IllegalArgumentException")))
set_option maxHeartbeats 4000000 in
set_option maxRecDepth 100000 in
theorem c_X10_requireVersion (l : Launch) (hl0 : l.stackTraces = false) (G : GT)  (p0 : Int32) {r : Option String} (hf : f_X10_requireVersion p0 = some r) : CtP l yX10_requireVersion (Cond.code yX10_requireVersion cX10_requireVersion 1 none :: lw_g) rm_X10_requireVersion G [.int p0] [] (rR [] r) := by
  refine CtP.ofW (cc := cX10_requireVersion) (maxL := 1) (ret := none) (own := RX10) (by decide) rfl rfl (Nat.le_of_ble_eq_true rfl) ?_
  intro p e s m args below meth c A hx hb hr hml hts hown hlocks hK hP hD hA hS hno hZ ls hl
  have hl : lv_has ls 1 [(0, .int p0)] := hl
  generalize hX : rR _ r = X
  generalize hQ : xMQ below G _ A X args s _ _ = Q
  generalize hH : s.heap = H at hP ⊢
  have hS : va_S A s.heap H [] := by rw [← hH]; exact hS
  generalize ([] : List Loc) = locs at hS ⊢
  unfold f_X10_requireVersion at hf
  refine lv_iload_n (pc := 0) hx hb dX10_requireVersion_0 rfl (lv_at hl 0 rfl) ?_
  refine lv_if_eq (pc := 1) (tgt := 19) hx hb dX10_requireVersion_1 (by decide) (fun hc => ?_) (fun hc => ?_)
  · have hf := br_y hc hf
    have hf := Option.some.inj hf; subst hf
    rw [← hQ]
    exact x_vret hx hb hr hlocks hX.symm (Nat.le_of_ble_eq_true rfl) (Nat.le_of_ble_eq_true rfl) hP hS dX10_requireVersion_19
  · have hf := br_n hc hf
    refine lv_iload_n (pc := 4) hx hb dX10_requireVersion_4 rfl (lv_at hl 0 rfl) ?_
    refine lv_iconst (pc := 5) (v := (1 : Int32)) hx hb dX10_requireVersion_5 (by decide) ?_
    refine lv_icmp_eq (pc := 6) (tgt := 19) hx hb dX10_requireVersion_6 (by decide) (fun hc => ?_) (fun hc => ?_)
    · have hf := br_y hc hf
      have hf := Option.some.inj hf; subst hf
      rw [← hQ]
      exact x_vret hx hb hr hlocks hX.symm (Nat.le_of_ble_eq_true rfl) (Nat.le_of_ble_eq_true rfl) hP hS dX10_requireVersion_19
    · have hf := br_n hc hf
      have hf := Option.some.inj hf; subst hf
      rw [← hQ]
      exact x_throw (pc := 9) (names := xRE) (cls := xIAE) hl0 hx hb hown hts hK (by decide +kernel) nX wd_505 wd_14 rfl sr_237 at1_IAE at2_IAE at3_IAE hno hZ hP hS (hl.1.trans hml.symm) dX10_requireVersion_9 dX10_requireVersion_12 dX10_requireVersion_13 dX10_requireVersion_15 dX10_requireVersion_18 (Nat.le_of_ble_eq_true rfl) (Nat.le_of_ble_eq_true rfl) (Nat.le_of_ble_eq_true rfl) (Nat.le_of_ble_eq_true rfl) hlocks hX.symm (Nat.le_of_ble_eq_true rfl) (Nat.le_of_ble_eq_true rfl)
theorem hd_X10_requireByte : yX10_requireByte.cls ≠ "java/lang/invoke/MethodHandle" ∧ yX10_requireByte.cls ≠ "java/lang/invoke/VarHandle" ∧ (parseMethodDescriptor yX10_requireByte.desc).map (fun d => d.parameters.length) = some 1 := by decide +kernel
abbrev rm_X10_requireByte : Room := { frames := 6, cells := 1, slots := 6, locals := 92 }
noncomputable def f_X10_requireByte (p0 : Int32) : Option (Option String) :=
  br (p0 < 0) (some (some "java/lang/IllegalArgumentException")) (br (p0 ≤ (255 : Int32)) (some none) (some (some "java/lang/IllegalArgumentException")))
set_option maxHeartbeats 4000000 in
set_option maxRecDepth 100000 in
theorem c_X10_requireByte (l : Launch) (hl0 : l.stackTraces = false) (G : GT)  (p0 : Int32) {r : Option String} (hf : f_X10_requireByte p0 = some r) : CtP l yX10_requireByte (Cond.code yX10_requireByte cX10_requireByte 1 none :: lw_g) rm_X10_requireByte G [.int p0] [] (rR [] r) := by
  refine CtP.ofW (cc := cX10_requireByte) (maxL := 1) (ret := none) (own := RX10) (by decide) rfl rfl (Nat.le_of_ble_eq_true rfl) ?_
  intro p e s m args below meth c A hx hb hr hml hts hown hlocks hK hP hD hA hS hno hZ ls hl
  have hl : lv_has ls 1 [(0, .int p0)] := hl
  generalize hX : rR _ r = X
  generalize hQ : xMQ below G _ A X args s _ _ = Q
  generalize hH : s.heap = H at hP ⊢
  have hS : va_S A s.heap H [] := by rw [← hH]; exact hS
  generalize ([] : List Loc) = locs at hS ⊢
  unfold f_X10_requireByte at hf
  refine lv_iload_n (pc := 0) hx hb dX10_requireByte_0 rfl (lv_at hl 0 rfl) ?_
  refine lv_if_lt (pc := 1) (tgt := 11) hx hb dX10_requireByte_1 (by decide) (fun hc => ?_) (fun hc => ?_)
  · have hf := br_y hc hf
    have hf := Option.some.inj hf; subst hf
    rw [← hQ]
    exact x_throw (pc := 11) (names := xRE) (cls := xIAE) hl0 hx hb hown hts hK (by decide +kernel) nX wd_505 wd_14 rfl sr_239 at1_IAE at2_IAE at3_IAE hno hZ hP hS (hl.1.trans hml.symm) dX10_requireByte_11 dX10_requireByte_14 dX10_requireByte_15 dX10_requireByte_17 dX10_requireByte_20 (Nat.le_of_ble_eq_true rfl) (Nat.le_of_ble_eq_true rfl) (Nat.le_of_ble_eq_true rfl) (Nat.le_of_ble_eq_true rfl) hlocks hX.symm (Nat.le_of_ble_eq_true rfl) (Nat.le_of_ble_eq_true rfl)
  · have hf := br_n hc hf
    refine lv_iload_n (pc := 4) hx hb dX10_requireByte_4 rfl (lv_at hl 0 rfl) ?_
    refine lv_sipush (pc := 5) (v := (255 : Int32)) hx hb dX10_requireByte_5 (by decide) ?_
    refine lv_icmp_le (pc := 8) (tgt := 21) hx hb dX10_requireByte_8 (by decide) (fun hc => ?_) (fun hc => ?_)
    · have hf := br_y hc hf
      have hf := Option.some.inj hf; subst hf
      rw [← hQ]
      exact x_vret hx hb hr hlocks hX.symm (Nat.le_of_ble_eq_true rfl) (Nat.le_of_ble_eq_true rfl) hP hS dX10_requireByte_21
    · have hf := br_n hc hf
      have hf := Option.some.inj hf; subst hf
      rw [← hQ]
      exact x_throw (pc := 11) (names := xRE) (cls := xIAE) hl0 hx hb hown hts hK (by decide +kernel) nX wd_505 wd_14 rfl sr_239 at1_IAE at2_IAE at3_IAE hno hZ hP hS (hl.1.trans hml.symm) dX10_requireByte_11 dX10_requireByte_14 dX10_requireByte_15 dX10_requireByte_17 dX10_requireByte_20 (Nat.le_of_ble_eq_true rfl) (Nat.le_of_ble_eq_true rfl) (Nat.le_of_ble_eq_true rfl) (Nat.le_of_ble_eq_true rfl) hlocks hX.symm (Nat.le_of_ble_eq_true rfl) (Nat.le_of_ble_eq_true rfl)
theorem hd_X10_requireIndex : yX10_requireIndex.cls ≠ "java/lang/invoke/MethodHandle" ∧ yX10_requireIndex.cls ≠ "java/lang/invoke/VarHandle" ∧ (parseMethodDescriptor yX10_requireIndex.desc).map (fun d => d.parameters.length) = some 1 := by decide +kernel
abbrev rm_X10_requireIndex : Room := { frames := 6, cells := 1, slots := 6, locals := 92 }
noncomputable def f_X10_requireIndex (p0 : Int32) : Option (Option String) :=
  br (p0 = 0) (some (some "java/lang/IndexOutOfBoundsException")) (some none)
set_option maxHeartbeats 4000000 in
set_option maxRecDepth 100000 in
theorem c_X10_requireIndex (l : Launch) (hl0 : l.stackTraces = false) (G : GT)  (p0 : Int32) {r : Option String} (hf : f_X10_requireIndex p0 = some r) : CtP l yX10_requireIndex (Cond.code yX10_requireIndex cX10_requireIndex 1 none :: lw_g) rm_X10_requireIndex G [.int p0] [] (rR [] r) := by
  refine CtP.ofW (cc := cX10_requireIndex) (maxL := 1) (ret := none) (own := RX10) (by decide) rfl rfl (Nat.le_of_ble_eq_true rfl) ?_
  intro p e s m args below meth c A hx hb hr hml hts hown hlocks hK hP hD hA hS hno hZ ls hl
  have hl : lv_has ls 1 [(0, .int p0)] := hl
  generalize hX : rR _ r = X
  generalize hQ : xMQ below G _ A X args s _ _ = Q
  generalize hH : s.heap = H at hP ⊢
  have hS : va_S A s.heap H [] := by rw [← hH]; exact hS
  generalize ([] : List Loc) = locs at hS ⊢
  unfold f_X10_requireIndex at hf
  refine lv_iload_n (pc := 0) hx hb dX10_requireIndex_0 rfl (lv_at hl 0 rfl) ?_
  refine lv_if_ne (pc := 1) (tgt := 14) hx hb dX10_requireIndex_1 (by decide) (fun hc => ?_) (fun hc => ?_)
  · have hf := br_n hc hf
    have hf := Option.some.inj hf; subst hf
    rw [← hQ]
    exact x_vret hx hb hr hlocks hX.symm (Nat.le_of_ble_eq_true rfl) (Nat.le_of_ble_eq_true rfl) hP hS dX10_requireIndex_14
  · have hf := br_y hc hf
    have hf := Option.some.inj hf; subst hf
    rw [← hQ]
    exact x_throw (pc := 4) (names := xRE) (cls := xIOB) hl0 hx hb hown hts hK (by decide +kernel) nX wd_618 wd_17 rfl sr_243 at1_IOB at2_IOB at3_IOB hno hZ hP hS (hl.1.trans hml.symm) dX10_requireIndex_4 dX10_requireIndex_7 dX10_requireIndex_8 dX10_requireIndex_10 dX10_requireIndex_13 (Nat.le_of_ble_eq_true rfl) (Nat.le_of_ble_eq_true rfl) (Nat.le_of_ble_eq_true rfl) (Nat.le_of_ble_eq_true rfl) hlocks hX.symm (Nat.le_of_ble_eq_true rfl) (Nat.le_of_ble_eq_true rfl)
theorem hd_X10_requireIndexOrLength : yX10_requireIndexOrLength.cls ≠ "java/lang/invoke/MethodHandle" ∧ yX10_requireIndexOrLength.cls ≠ "java/lang/invoke/VarHandle" ∧ (parseMethodDescriptor yX10_requireIndexOrLength.desc).map (fun d => d.parameters.length) = some 1 := by decide +kernel
abbrev rm_X10_requireIndexOrLength : Room := { frames := 6, cells := 1, slots := 6, locals := 92 }
noncomputable def f_X10_requireIndexOrLength (p0 : Int32) : Option (Option String) :=
  br ((-1 : Int32) ≤ p0) (some none) (some (some "java/lang/IllegalArgumentException"))
set_option maxHeartbeats 4000000 in
set_option maxRecDepth 100000 in
theorem c_X10_requireIndexOrLength (l : Launch) (hl0 : l.stackTraces = false) (G : GT)  (p0 : Int32) {r : Option String} (hf : f_X10_requireIndexOrLength p0 = some r) : CtP l yX10_requireIndexOrLength (Cond.code yX10_requireIndexOrLength cX10_requireIndexOrLength 1 none :: lw_g) rm_X10_requireIndexOrLength G [.int p0] [] (rR [] r) := by
  refine CtP.ofW (cc := cX10_requireIndexOrLength) (maxL := 1) (ret := none) (own := RX10) (by decide) rfl rfl (Nat.le_of_ble_eq_true rfl) ?_
  intro p e s m args below meth c A hx hb hr hml hts hown hlocks hK hP hD hA hS hno hZ ls hl
  have hl : lv_has ls 1 [(0, .int p0)] := hl
  generalize hX : rR _ r = X
  generalize hQ : xMQ below G _ A X args s _ _ = Q
  generalize hH : s.heap = H at hP ⊢
  have hS : va_S A s.heap H [] := by rw [← hH]; exact hS
  generalize ([] : List Loc) = locs at hS ⊢
  unfold f_X10_requireIndexOrLength at hf
  refine lv_iload_n (pc := 0) hx hb dX10_requireIndexOrLength_0 rfl (lv_at hl 0 rfl) ?_
  refine lv_iconst (pc := 1) (v := (-1 : Int32)) hx hb dX10_requireIndexOrLength_1 (by decide) ?_
  refine lv_icmp_ge (pc := 2) (tgt := 15) hx hb dX10_requireIndexOrLength_2 (by decide) (fun hc => ?_) (fun hc => ?_)
  · have hf := br_y hc hf
    have hf := Option.some.inj hf; subst hf
    rw [← hQ]
    exact x_vret hx hb hr hlocks hX.symm (Nat.le_of_ble_eq_true rfl) (Nat.le_of_ble_eq_true rfl) hP hS dX10_requireIndexOrLength_15
  · have hf := br_n hc hf
    have hf := Option.some.inj hf; subst hf
    rw [← hQ]
    exact x_throw (pc := 5) (names := xRE) (cls := xIAE) hl0 hx hb hown hts hK (by decide +kernel) nX wd_505 wd_14 rfl sr_246 at1_IAE at2_IAE at3_IAE hno hZ hP hS (hl.1.trans hml.symm) dX10_requireIndexOrLength_5 dX10_requireIndexOrLength_8 dX10_requireIndexOrLength_9 dX10_requireIndexOrLength_11 dX10_requireIndexOrLength_14 (Nat.le_of_ble_eq_true rfl) (Nat.le_of_ble_eq_true rfl) (Nat.le_of_ble_eq_true rfl) (Nat.le_of_ble_eq_true rfl) hlocks hX.symm (Nat.le_of_ble_eq_true rfl) (Nat.le_of_ble_eq_true rfl)
theorem hd_X10_requirePlan : yX10_requirePlan.cls ≠ "java/lang/invoke/MethodHandle" ∧ yX10_requirePlan.cls ≠ "java/lang/invoke/VarHandle" ∧ (parseMethodDescriptor yX10_requirePlan.desc).map (fun d => d.parameters.length) = some 0 := by decide +kernel
abbrev rm_X10_requirePlan : Room := { frames := 6, cells := 1, slots := 6, locals := 92 }
noncomputable def f_X10_requirePlan (now : TState) : Option (Option String) :=
  br (now.2.2.2.1.2.1 = 0) (some (some "java/lang/IllegalStateException")) (some none)
set_option maxHeartbeats 4000000 in
set_option maxRecDepth 100000 in
theorem c_X10_requirePlan (l : Launch) (hl0 : l.stackTraces = false) (G : GT) (hx_0 hhist_0 hdec_0 : Nat) (anow : Nat → Nat) (now : TState) {r : Option String} (hf : f_X10_requirePlan now = some r) : CtP l yX10_requirePlan (Cond.code yX10_requirePlan cX10_requirePlan 1 none :: lw_g) rm_X10_requirePlan G [.ref hx_0] (List.flatten [[(hx_0, .inr (7, [.ref (anow 0), .ref hhist_0, .ref hdec_0]))], [((anow 0), .inr (5, [.ref (anow 1), .ref (anow 3), .ref (anow 5), .ref (anow 12), .ref (anow 14), .ref (anow 16)]))], cBy G (anow 1) (anow 2) 64 now.1, cBy G (anow 3) (anow 4) 64 now.2.1, cDe G (anow 5) (anow 6) (anow 7) (anow 8) (anow 9) (anow 10) (anow 11) now.2.2.1, cPl G (anow 12) (anow 13) now.2.2.2.1, cBy G (anow 14) (anow 15) 200 now.2.2.2.2.1, [((anow 16), .inr (6, [.ref (anow 17), .int now.2.2.2.2.2.2.1, .int now.2.2.2.2.2.2.2]))], cBy G (anow 17) (anow 18) 64 now.2.2.2.2.2.1]) (rR (List.flatten [[(hx_0, .inr (7, [.ref (anow 0), .ref hhist_0, .ref hdec_0]))], [((anow 0), .inr (5, [.ref (anow 1), .ref (anow 3), .ref (anow 5), .ref (anow 12), .ref (anow 14), .ref (anow 16)]))], cBy G (anow 1) (anow 2) 64 now.1, cBy G (anow 3) (anow 4) 64 now.2.1, cDe G (anow 5) (anow 6) (anow 7) (anow 8) (anow 9) (anow 10) (anow 11) now.2.2.1, cPl G (anow 12) (anow 13) now.2.2.2.1, cBy G (anow 14) (anow 15) 200 now.2.2.2.2.1, [((anow 16), .inr (6, [.ref (anow 17), .int now.2.2.2.2.2.2.1, .int now.2.2.2.2.2.2.2]))], cBy G (anow 17) (anow 18) 64 now.2.2.2.2.2.1]) r) := by
  refine CtP.ofW (cc := cX10_requirePlan) (maxL := 1) (ret := none) (own := RX10) (by decide) rfl rfl (Nat.le_of_ble_eq_true rfl) ?_
  intro p e s m args below meth c A hx hb hr hml hts hown hlocks hK hP hD hA hS hno hZ ls hl
  have hl : lv_has ls 1 [(0, .ref hx_0)] := hl
  generalize hX : rR _ r = X
  generalize hQ : xMQ below G _ A X args s _ _ = Q
  generalize hH : s.heap = H at hP ⊢
  have hS : va_S A s.heap H [] := by rw [← hH]; exact hS
  generalize ([] : List Loc) = locs at hS ⊢
  unfold f_X10_requirePlan at hf
  refine lv_aload_n (pc := 0) hx hb dX10_requirePlan_0 rfl (lv_at hl 0 rfl) ?_
  refine va_get (pc := 1) (D := G.1) (ci := 7) (v := .ref (anow 0)) (C := RX10) (T := TX10) (N := 3) hx hb hts inX10 hown hK.1 hP 0 rfl rfl 0 (by decide) (hts _ wd_232) (fun _ h9 => h9) rfl dX10_requirePlan_1 ?_
  refine va_getN (pc := 4) (D := G.1) (ci := 5) (v := .ref (anow 12)) (C := RX8) (T := TX8) (N := 6) hx hb hts inX8 hown hK.1 hP 1 rfl rfl 3 (by decide) (nfw_171 hK) (fun _ h9 => h9) rfl dX10_requirePlan_4 ?_
  refine va_getN (pc := 7) (D := G.1) (ci := 4) (v := .int now.2.2.2.1.2.1) (C := RX7) (T := TX7) (N := 5) hx hb hts inX7 hown hK.1 hP 13 rfl rfl 1 (by decide) (nfw_118 hK) (fun _ h9 => h9) rfl dX10_requirePlan_7 ?_
  refine lv_if_ne (pc := 10) (tgt := 23) hx hb dX10_requirePlan_10 (by decide) (fun hc => ?_) (fun hc => ?_)
  · have hf := br_n hc hf
    have hf := Option.some.inj hf; subst hf
    rw [← hQ]
    exact x_vret hx hb hr hlocks hX.symm (Nat.le_of_ble_eq_true rfl) (Nat.le_of_ble_eq_true rfl) hP hS dX10_requirePlan_23
  · have hf := br_y hc hf
    have hf := Option.some.inj hf; subst hf
    rw [← hQ]
    exact x_throw (pc := 13) (names := xRE) (cls := xISE) hl0 hx hb hown hts hK (by decide +kernel) nX wd_585 wd_15 rfl sr_252 at1_ISE at2_ISE at3_ISE hno hZ hP hS (hl.1.trans hml.symm) dX10_requirePlan_13 dX10_requirePlan_16 dX10_requirePlan_17 dX10_requirePlan_19 dX10_requirePlan_22 (Nat.le_of_ble_eq_true rfl) (Nat.le_of_ble_eq_true rfl) (Nat.le_of_ble_eq_true rfl) (Nat.le_of_ble_eq_true rfl) hlocks hX.symm (Nat.le_of_ble_eq_true rfl) (Nat.le_of_ble_eq_true rfl)
theorem hd_X10_requireWork : yX10_requireWork.cls ≠ "java/lang/invoke/MethodHandle" ∧ yX10_requireWork.cls ≠ "java/lang/invoke/VarHandle" ∧ (parseMethodDescriptor yX10_requireWork.desc).map (fun d => d.parameters.length) = some 0 := by decide +kernel
abbrev rm_X10_requireWork : Room := { frames := 6, cells := 1, slots := 6, locals := 92 }
noncomputable def f_X10_requireWork (now : TState) : Option (Option String) :=
  br (now.2.2.2.2.2.2.1 = 0) (some (some "java/lang/IllegalStateException")) (some none)
set_option maxHeartbeats 4000000 in
set_option maxRecDepth 100000 in
theorem c_X10_requireWork (l : Launch) (hl0 : l.stackTraces = false) (G : GT) (hx_0 hhist_0 hdec_0 : Nat) (anow : Nat → Nat) (now : TState) {r : Option String} (hf : f_X10_requireWork now = some r) : CtP l yX10_requireWork (Cond.code yX10_requireWork cX10_requireWork 1 none :: lw_g) rm_X10_requireWork G [.ref hx_0] (List.flatten [[(hx_0, .inr (7, [.ref (anow 0), .ref hhist_0, .ref hdec_0]))], [((anow 0), .inr (5, [.ref (anow 1), .ref (anow 3), .ref (anow 5), .ref (anow 12), .ref (anow 14), .ref (anow 16)]))], cBy G (anow 1) (anow 2) 64 now.1, cBy G (anow 3) (anow 4) 64 now.2.1, cDe G (anow 5) (anow 6) (anow 7) (anow 8) (anow 9) (anow 10) (anow 11) now.2.2.1, cPl G (anow 12) (anow 13) now.2.2.2.1, cBy G (anow 14) (anow 15) 200 now.2.2.2.2.1, [((anow 16), .inr (6, [.ref (anow 17), .int now.2.2.2.2.2.2.1, .int now.2.2.2.2.2.2.2]))], cBy G (anow 17) (anow 18) 64 now.2.2.2.2.2.1]) (rR (List.flatten [[(hx_0, .inr (7, [.ref (anow 0), .ref hhist_0, .ref hdec_0]))], [((anow 0), .inr (5, [.ref (anow 1), .ref (anow 3), .ref (anow 5), .ref (anow 12), .ref (anow 14), .ref (anow 16)]))], cBy G (anow 1) (anow 2) 64 now.1, cBy G (anow 3) (anow 4) 64 now.2.1, cDe G (anow 5) (anow 6) (anow 7) (anow 8) (anow 9) (anow 10) (anow 11) now.2.2.1, cPl G (anow 12) (anow 13) now.2.2.2.1, cBy G (anow 14) (anow 15) 200 now.2.2.2.2.1, [((anow 16), .inr (6, [.ref (anow 17), .int now.2.2.2.2.2.2.1, .int now.2.2.2.2.2.2.2]))], cBy G (anow 17) (anow 18) 64 now.2.2.2.2.2.1]) r) := by
  refine CtP.ofW (cc := cX10_requireWork) (maxL := 1) (ret := none) (own := RX10) (by decide) rfl rfl (Nat.le_of_ble_eq_true rfl) ?_
  intro p e s m args below meth c A hx hb hr hml hts hown hlocks hK hP hD hA hS hno hZ ls hl
  have hl : lv_has ls 1 [(0, .ref hx_0)] := hl
  generalize hX : rR _ r = X
  generalize hQ : xMQ below G _ A X args s _ _ = Q
  generalize hH : s.heap = H at hP ⊢
  have hS : va_S A s.heap H [] := by rw [← hH]; exact hS
  generalize ([] : List Loc) = locs at hS ⊢
  unfold f_X10_requireWork at hf
  refine lv_aload_n (pc := 0) hx hb dX10_requireWork_0 rfl (lv_at hl 0 rfl) ?_
  refine va_get (pc := 1) (D := G.1) (ci := 7) (v := .ref (anow 0)) (C := RX10) (T := TX10) (N := 3) hx hb hts inX10 hown hK.1 hP 0 rfl rfl 0 (by decide) (hts _ wd_232) (fun _ h9 => h9) rfl dX10_requireWork_1 ?_
  refine va_getN (pc := 4) (D := G.1) (ci := 5) (v := .ref (anow 16)) (C := RX8) (T := TX8) (N := 6) hx hb hts inX8 hown hK.1 hP 1 rfl rfl 5 (by decide) (nfw_176 hK) (fun _ h9 => h9) rfl dX10_requireWork_4 ?_
  refine va_getN (pc := 7) (D := G.1) (ci := 6) (v := .int now.2.2.2.2.2.2.1) (C := RX9) (T := TX9) (N := 3) hx hb hts inX9 hown hK.1 hP 17 rfl rfl 1 (by decide) (nfw_149 hK) (fun _ h9 => h9) rfl dX10_requireWork_7 ?_
  refine lv_if_ne (pc := 10) (tgt := 23) hx hb dX10_requireWork_10 (by decide) (fun hc => ?_) (fun hc => ?_)
  · have hf := br_n hc hf
    have hf := Option.some.inj hf; subst hf
    rw [← hQ]
    exact x_vret hx hb hr hlocks hX.symm (Nat.le_of_ble_eq_true rfl) (Nat.le_of_ble_eq_true rfl) hP hS dX10_requireWork_23
  · have hf := br_y hc hf
    have hf := Option.some.inj hf; subst hf
    rw [← hQ]
    exact x_throw (pc := 13) (names := xRE) (cls := xISE) hl0 hx hb hown hts hK (by decide +kernel) nX wd_585 wd_15 rfl sr_255 at1_ISE at2_ISE at3_ISE hno hZ hP hS (hl.1.trans hml.symm) dX10_requireWork_13 dX10_requireWork_16 dX10_requireWork_17 dX10_requireWork_19 dX10_requireWork_22 (Nat.le_of_ble_eq_true rfl) (Nat.le_of_ble_eq_true rfl) (Nat.le_of_ble_eq_true rfl) (Nat.le_of_ble_eq_true rfl) hlocks hX.symm (Nat.le_of_ble_eq_true rfl) (Nat.le_of_ble_eq_true rfl)
