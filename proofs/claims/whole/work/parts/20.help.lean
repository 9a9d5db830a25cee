/-! pure states: what the cells of each kind hold -/
abbrev TBytes : Type := (Nat → Int32) × Int32
abbrev TDelta : Type := (Nat → Int32) × (Nat → Int32) × (Nat → Int32) × (Nat → Int32) × (Nat → Int32) × (Nat → Int32) × Int32 × Int32 × Int32 × Int32 × Int32
abbrev TPlan : Type := (Nat → Int32) × Int32 × Int32 × Int32 × Int32
abbrev TWork : Type := TBytes × Int32 × Int32
abbrev TState : Type := TBytes × TBytes × TDelta × TPlan × TBytes × TWork
abbrev TDecoder : Type := TDelta × Int32 × Int32 × Int32
abbrev TModel : Type := (Nat → Int32) × (Nat → Int32) × Int32 × Int32 × (Nat → Int32) × (Nat → Int32) × Int32 × Int32 × Int32 × (Nat → Int32) × (Nat → Int32) × (Nat → Int32) × Int32 × (Nat → Int32)
def FUEL : Nat := 10000
def iushr (x y : Int32) : Int32 := (x.toUInt32 >>> (y.toUInt32 &&& Int32.toUInt32 31)).toInt32
theorem z01 {x : Int32} (h : x = 0 ∨ x = 1) : narrow .boolean (.int x) = .int x := by rcases h with h | h <;> (rw [h]; rfl)

theorem hd_X10_mix : yX10_mix.cls ≠ "java/lang/invoke/MethodHandle" ∧ yX10_mix.cls ≠ "java/lang/invoke/VarHandle" ∧ (parseMethodDescriptor yX10_mix.desc).map (fun d => d.parameters.length) = some 2 := by decide +kernel
abbrev rm_X10_mix : Room := { frames := 0, cells := 0, slots := 0, locals := 0 }
noncomputable def f_X10_mix (p0 : Int64) (p1 : Int64) : Option Int64 :=
  some (((31 : Int64) * p0) + p1)
set_option maxHeartbeats 4000000 in
set_option maxRecDepth 100000 in
theorem c_X10_mix (l : Launch) (G : GT)  (p0 : Int64) (p1 : Int64) {r : Int64} (hf : f_X10_mix p0 p1 = some r) : Ct l yX10_mix (Cond.code yX10_mix cX10_mix 4 (some .long) :: lw_g) rm_X10_mix G [.long p0, .long p1] [] (some (.long r)) [] := by
  refine Ct.ofW (cc := cX10_mix) (maxL := 4) (ret := (some .long)) (own := RX10) (by decide) rfl rfl (Nat.le_of_ble_eq_true rfl) ?_
  intro p e s m args below meth c A hx hb hr hml hts hown hlocks hK hP hD hA hS ls hl
  have hl : lv_has ls 4 [(0, .long p0), (2, .long p1)] := hl
  generalize hQ : gMQ below G _ _ A args s = Q
  generalize hH : s.heap = H at hP ⊢
  have hS : va_S A s.heap H [] := by rw [← hH]; exact hS
  generalize ([] : List Loc) = locs at hS ⊢
  unfold f_X10_mix at hf
  refine lv_ldc2 (pc := 0) (v := (31 : Int64)) hx hb hown (hts _ wd_455) dX10_mix_0 ?_
  refine lv_lload_n (pc := 3) hx hb dX10_mix_3 rfl (lv_at hl 0 rfl) ?_
  refine lv_lmul (pc := 4) hx hb dX10_mix_4 ?_
  refine lv_lload_n (pc := 5) hx hb dX10_mix_5 rfl (lv_at hl 1 rfl) ?_
  refine lv_ladd (pc := 6) hx hb dX10_mix_6 ?_
  have hf := Option.some.inj hf; subst hf
  rw [← hQ]
  exact g_lret hx hb hr hlocks hP hS dX10_mix_7
theorem hd_X10_overlap : yX10_overlap.cls ≠ "java/lang/invoke/MethodHandle" ∧ yX10_overlap.cls ≠ "java/lang/invoke/VarHandle" ∧ (parseMethodDescriptor yX10_overlap.desc).map (fun d => d.parameters.length) = some 4 := by decide +kernel
abbrev rm_X10_overlap : Room := { frames := 0, cells := 0, slots := 0, locals := 0 }
noncomputable def f_X10_overlap (p0 : Int32) (p1 : Int32) (p2 : Int32) (p3 : Int32) : Option Int32 :=
  br ((p2 + p3) ≤ p0) (some (0 : Int32)) (br ((p0 + p1) ≤ p2) (some (0 : Int32)) (some (1 : Int32)))
set_option maxHeartbeats 4000000 in
set_option maxRecDepth 100000 in
theorem c_X10_overlap (l : Launch) (G : GT)  (p0 : Int32) (p1 : Int32) (p2 : Int32) (p3 : Int32) {r : Int32} (hf : f_X10_overlap p0 p1 p2 p3 = some r) : Ct l yX10_overlap (Cond.code yX10_overlap cX10_overlap 4 (some .boolean) :: lw_g) rm_X10_overlap G [.int p0, .int p1, .int p2, .int p3] [] (some (.int r)) [] := by
  refine Ct.ofW (cc := cX10_overlap) (maxL := 4) (ret := (some .boolean)) (own := RX10) (by decide) rfl rfl (Nat.le_of_ble_eq_true rfl) ?_
  intro p e s m args below meth c A hx hb hr hml hts hown hlocks hK hP hD hA hS ls hl
  have hl : lv_has ls 4 [(0, .int p0), (1, .int p1), (2, .int p2), (3, .int p3)] := hl
  generalize hQ : gMQ below G _ _ A args s = Q
  generalize hH : s.heap = H at hP ⊢
  have hS : va_S A s.heap H [] := by rw [← hH]; exact hS
  generalize ([] : List Loc) = locs at hS ⊢
  unfold f_X10_overlap at hf
  refine lv_iload_n (pc := 0) hx hb dX10_overlap_0 rfl (lv_at hl 0 rfl) ?_
  refine lv_iload_n (pc := 1) hx hb dX10_overlap_1 rfl (lv_at hl 2 rfl) ?_
  refine lv_iload_n (pc := 2) hx hb dX10_overlap_2 rfl (lv_at hl 3 rfl) ?_
  refine lv_iadd (pc := 3) hx hb dX10_overlap_3 ?_
  refine lv_icmp_ge (pc := 4) (tgt := 18) hx hb dX10_overlap_4 (by decide) (fun hc => ?_) (fun hc => ?_)
  · have hf := br_y hc hf
    refine lv_iconst (pc := 18) (v := (0 : Int32)) hx hb dX10_overlap_18 (by decide) ?_
    have hf := Option.some.inj hf; subst hf
    rw [← hQ]
    exact g_zret (v := (0 : Int32)) hx hb hr hlocks rfl hP hS dX10_overlap_19
  · have hf := br_n hc hf
    refine lv_iload_n (pc := 7) hx hb dX10_overlap_7 rfl (lv_at hl 2 rfl) ?_
    refine lv_iload_n (pc := 8) hx hb dX10_overlap_8 rfl (lv_at hl 0 rfl) ?_
    refine lv_iload_n (pc := 9) hx hb dX10_overlap_9 rfl (lv_at hl 1 rfl) ?_
    refine lv_iadd (pc := 10) hx hb dX10_overlap_10 ?_
    refine lv_icmp_ge (pc := 11) (tgt := 18) hx hb dX10_overlap_11 (by decide) (fun hc => ?_) (fun hc => ?_)
    · have hf := br_y hc hf
      refine lv_iconst (pc := 18) (v := (0 : Int32)) hx hb dX10_overlap_18 (by decide) ?_
      have hf := Option.some.inj hf; subst hf
      rw [← hQ]
      exact g_zret (v := (0 : Int32)) hx hb hr hlocks rfl hP hS dX10_overlap_19
    · have hf := br_n hc hf
      refine lv_iconst (pc := 14) (v := (1 : Int32)) hx hb dX10_overlap_14 (by decide) ?_
      refine lv_goto (pc := 15) (tgt := 19) hx hb dX10_overlap_15 (by decide) ?_
      have hf := Option.some.inj hf; subst hf
      rw [← hQ]
      exact g_zret (v := (1 : Int32)) hx hb hr hlocks rfl hP hS dX10_overlap_19
theorem hd_X10_isIn : yX10_isIn.cls ≠ "java/lang/invoke/MethodHandle" ∧ yX10_isIn.cls ≠ "java/lang/invoke/VarHandle" ∧ (parseMethodDescriptor yX10_isIn.desc).map (fun d => d.parameters.length) = some 2 := by decide +kernel
abbrev rm_X10_isIn : Room := { frames := 0, cells := 0, slots := 0, locals := 0 }
noncomputable def f_X10_isIn (p0 : Int32) (p1 : Int32) : Option Int32 :=
  br (((p0 >>> (p1 &&& 31)) &&& (1 : Int32)) = 0) (some (0 : Int32)) (some (1 : Int32))
set_option maxHeartbeats 4000000 in
set_option maxRecDepth 100000 in
theorem c_X10_isIn (l : Launch) (G : GT)  (p0 : Int32) (p1 : Int32) {r : Int32} (hf : f_X10_isIn p0 p1 = some r) : Ct l yX10_isIn (Cond.code yX10_isIn cX10_isIn 2 (some .boolean) :: lw_g) rm_X10_isIn G [.int p0, .int p1] [] (some (.int r)) [] := by
  refine Ct.ofW (cc := cX10_isIn) (maxL := 2) (ret := (some .boolean)) (own := RX10) (by decide) rfl rfl (Nat.le_of_ble_eq_true rfl) ?_
  intro p e s m args below meth c A hx hb hr hml hts hown hlocks hK hP hD hA hS ls hl
  have hl : lv_has ls 2 [(0, .int p0), (1, .int p1)] := hl
  generalize hQ : gMQ below G _ _ A args s = Q
  generalize hH : s.heap = H at hP ⊢
  have hS : va_S A s.heap H [] := by rw [← hH]; exact hS
  generalize ([] : List Loc) = locs at hS ⊢
  unfold f_X10_isIn at hf
  refine lv_iload_n (pc := 0) hx hb dX10_isIn_0 rfl (lv_at hl 0 rfl) ?_
  refine lv_iload_n (pc := 1) hx hb dX10_isIn_1 rfl (lv_at hl 1 rfl) ?_
  refine lv_ishr (pc := 2) hx hb dX10_isIn_2 ?_
  refine lv_iconst (pc := 3) (v := (1 : Int32)) hx hb dX10_isIn_3 (by decide) ?_
  refine lv_iand (pc := 4) hx hb dX10_isIn_4 ?_
  refine lv_if_eq (pc := 5) (tgt := 12) hx hb dX10_isIn_5 (by decide) (fun hc => ?_) (fun hc => ?_)
  · have hf := br_y hc hf
    refine lv_iconst (pc := 12) (v := (0 : Int32)) hx hb dX10_isIn_12 (by decide) ?_
    have hf := Option.some.inj hf; subst hf
    rw [← hQ]
    exact g_zret (v := (0 : Int32)) hx hb hr hlocks rfl hP hS dX10_isIn_13
  · have hf := br_n hc hf
    refine lv_iconst (pc := 8) (v := (1 : Int32)) hx hb dX10_isIn_8 (by decide) ?_
    refine lv_goto (pc := 9) (tgt := 13) hx hb dX10_isIn_9 (by decide) ?_
    have hf := Option.some.inj hf; subst hf
    rw [← hQ]
    exact g_zret (v := (1 : Int32)) hx hb hr hlocks rfl hP hS dX10_isIn_13
theorem hd_X10_without : yX10_without.cls ≠ "java/lang/invoke/MethodHandle" ∧ yX10_without.cls ≠ "java/lang/invoke/VarHandle" ∧ (parseMethodDescriptor yX10_without.desc).map (fun d => d.parameters.length) = some 2 := by decide +kernel
abbrev rm_X10_without : Room := { frames := 0, cells := 0, slots := 0, locals := 0 }
noncomputable def f_X10_without (p0 : Int32) (p1 : Int32) : Option Int32 :=
  some (p0 &&& (((1 : Int32) <<< (p1 &&& 31)) ^^^ (-1 : Int32)))
set_option maxHeartbeats 4000000 in
set_option maxRecDepth 100000 in
theorem c_X10_without (l : Launch) (G : GT)  (p0 : Int32) (p1 : Int32) {r : Int32} (hf : f_X10_without p0 p1 = some r) : Ct l yX10_without (Cond.code yX10_without cX10_without 2 (some .int) :: lw_g) rm_X10_without G [.int p0, .int p1] [] (some (.int r)) [] := by
  refine Ct.ofW (cc := cX10_without) (maxL := 2) (ret := (some .int)) (own := RX10) (by decide) rfl rfl (Nat.le_of_ble_eq_true rfl) ?_
  intro p e s m args below meth c A hx hb hr hml hts hown hlocks hK hP hD hA hS ls hl
  have hl : lv_has ls 2 [(0, .int p0), (1, .int p1)] := hl
  generalize hQ : gMQ below G _ _ A args s = Q
  generalize hH : s.heap = H at hP ⊢
  have hS : va_S A s.heap H [] := by rw [← hH]; exact hS
  generalize ([] : List Loc) = locs at hS ⊢
  unfold f_X10_without at hf
  refine lv_iload_n (pc := 0) hx hb dX10_without_0 rfl (lv_at hl 0 rfl) ?_
  refine lv_iconst (pc := 1) (v := (1 : Int32)) hx hb dX10_without_1 (by decide) ?_
  refine lv_iload_n (pc := 2) hx hb dX10_without_2 rfl (lv_at hl 1 rfl) ?_
  refine lv_ishl (pc := 3) hx hb dX10_without_3 ?_
  refine lv_iconst (pc := 4) (v := (-1 : Int32)) hx hb dX10_without_4 (by decide) ?_
  refine lv_ixor (pc := 5) hx hb dX10_without_5 ?_
  refine lv_iand (pc := 6) hx hb dX10_without_6 ?_
  have hf := Option.some.inj hf; subst hf
  rw [← hQ]
  exact g_iret hx hb hr hlocks hP hS dX10_without_7
theorem hd_J6_bitCount_0f7a4 : yJ6_bitCount_0f7a4.cls ≠ "java/lang/invoke/MethodHandle" ∧ yJ6_bitCount_0f7a4.cls ≠ "java/lang/invoke/VarHandle" ∧ (parseMethodDescriptor yJ6_bitCount_0f7a4.desc).map (fun d => d.parameters.length) = some 1 := by decide +kernel
abbrev rm_J6_bitCount_0f7a4 : Room := { frames := 0, cells := 0, slots := 0, locals := 0 }
noncomputable def f_J6_bitCount_0f7a4 (p0 : Int32) : Option Int32 :=
  nm (p0 - ((iushr p0 (1 : Int32)) &&& (1431655765 : Int32))) (fun x1 => nm ((x1 &&& (858993459 : Int32)) + ((iushr x1 (2 : Int32)) &&& (858993459 : Int32))) (fun x2 => nm ((x2 + (iushr x2 (4 : Int32))) &&& (252645135 : Int32)) (fun x3 => nm ((x3 + (iushr x3 (8 : Int32))) + (iushr (x3 + (iushr x3 (8 : Int32))) (16 : Int32))) (fun x4 => some (x4 &&& (63 : Int32))))))
set_option maxHeartbeats 4000000 in
set_option maxRecDepth 100000 in
theorem c_J6_bitCount_0f7a4 (l : Launch) (G : GT)  (p0 : Int32) {r : Int32} (hf : f_J6_bitCount_0f7a4 p0 = some r) : Ct l yJ6_bitCount_0f7a4 (Cond.code yJ6_bitCount_0f7a4 cJ6_bitCount_0f7a4 1 (some .int) :: lw_g) rm_J6_bitCount_0f7a4 G [.int p0] [] (some (.int r)) [] := by
  refine Ct.ofW (cc := cJ6_bitCount_0f7a4) (maxL := 1) (ret := (some .int)) (own := RJ6) (by decide) rfl rfl (Nat.le_of_ble_eq_true rfl) ?_
  intro p e s m args below meth c A hx hb hr hml hts hown hlocks hK hP hD hA hS ls hl
  have hl : lv_has ls 1 [(0, .int p0)] := hl
  generalize hQ : gMQ below G _ _ A args s = Q
  generalize hH : s.heap = H at hP ⊢
  have hS : va_S A s.heap H [] := by rw [← hH]; exact hS
  generalize ([] : List Loc) = locs at hS ⊢
  unfold f_J6_bitCount_0f7a4 at hf
  refine lv_iload_n (pc := 0) hx hb dJ6_bitCount_0f7a4_0 rfl (lv_at hl 0 rfl) ?_
  refine lv_iload_n (pc := 1) hx hb dJ6_bitCount_0f7a4_1 rfl (lv_at hl 0 rfl) ?_
  refine lv_iconst (pc := 2) (v := (1 : Int32)) hx hb dJ6_bitCount_0f7a4_2 (by decide) ?_
  refine lv_iushr (pc := 3) (v := (iushr p0 (1 : Int32))) hx hb dJ6_bitCount_0f7a4_3 rfl ?_
  refine lv_ldcw (pc := 4) (v := (1431655765 : Int32)) hx hb hown (hts _ wd_298) dJ6_bitCount_0f7a4_4 ?_
  refine lv_iand (pc := 7) hx hb dJ6_bitCount_0f7a4_7 ?_
  refine lv_isub (pc := 8) hx hb dJ6_bitCount_0f7a4_8 ?_
  refine lv_topi (fun x1 ex1 => ?_)
  have hf := nm_some hf ex1
  refine lv_istore_n (pc := 9) (lv' := [(0, .int x1)]) hx hb dJ6_bitCount_0f7a4_9 rfl hl (by decide) rfl (fun ls hl => ?_)
  refine lv_iload_n (pc := 10) hx hb dJ6_bitCount_0f7a4_10 rfl (lv_at hl 0 rfl) ?_
  refine lv_ldcw (pc := 11) (v := (858993459 : Int32)) hx hb hown (hts _ wd_299) dJ6_bitCount_0f7a4_11 ?_
  refine lv_iand (pc := 14) hx hb dJ6_bitCount_0f7a4_14 ?_
  refine lv_iload_n (pc := 15) hx hb dJ6_bitCount_0f7a4_15 rfl (lv_at hl 0 rfl) ?_
  refine lv_iconst (pc := 16) (v := (2 : Int32)) hx hb dJ6_bitCount_0f7a4_16 (by decide) ?_
  refine lv_iushr (pc := 17) (v := (iushr x1 (2 : Int32))) hx hb dJ6_bitCount_0f7a4_17 rfl ?_
  refine lv_ldcw (pc := 18) (v := (858993459 : Int32)) hx hb hown (hts _ wd_299) dJ6_bitCount_0f7a4_18 ?_
  refine lv_iand (pc := 21) hx hb dJ6_bitCount_0f7a4_21 ?_
  refine lv_iadd (pc := 22) hx hb dJ6_bitCount_0f7a4_22 ?_
  refine lv_topi (fun x2 ex2 => ?_)
  have hf := nm_some hf ex2
  refine lv_istore_n (pc := 23) (lv' := [(0, .int x2)]) hx hb dJ6_bitCount_0f7a4_23 rfl hl (by decide) rfl (fun ls hl => ?_)
  refine lv_iload_n (pc := 24) hx hb dJ6_bitCount_0f7a4_24 rfl (lv_at hl 0 rfl) ?_
  refine lv_iload_n (pc := 25) hx hb dJ6_bitCount_0f7a4_25 rfl (lv_at hl 0 rfl) ?_
  refine lv_iconst (pc := 26) (v := (4 : Int32)) hx hb dJ6_bitCount_0f7a4_26 (by decide) ?_
  refine lv_iushr (pc := 27) (v := (iushr x2 (4 : Int32))) hx hb dJ6_bitCount_0f7a4_27 rfl ?_
  refine lv_iadd (pc := 28) hx hb dJ6_bitCount_0f7a4_28 ?_
  refine lv_ldcw (pc := 29) (v := (252645135 : Int32)) hx hb hown (hts _ wd_300) dJ6_bitCount_0f7a4_29 ?_
  refine lv_iand (pc := 32) hx hb dJ6_bitCount_0f7a4_32 ?_
  refine lv_topi (fun x3 ex3 => ?_)
  have hf := nm_some hf ex3
  refine lv_istore_n (pc := 33) (lv' := [(0, .int x3)]) hx hb dJ6_bitCount_0f7a4_33 rfl hl (by decide) rfl (fun ls hl => ?_)
  refine lv_iload_n (pc := 34) hx hb dJ6_bitCount_0f7a4_34 rfl (lv_at hl 0 rfl) ?_
  refine lv_iload_n (pc := 35) hx hb dJ6_bitCount_0f7a4_35 rfl (lv_at hl 0 rfl) ?_
  refine lv_bipush (pc := 36) (v := (8 : Int32)) hx hb dJ6_bitCount_0f7a4_36 (by decide) ?_
  refine lv_iushr (pc := 38) (v := (iushr x3 (8 : Int32))) hx hb dJ6_bitCount_0f7a4_38 rfl ?_
  refine lv_iadd (pc := 39) hx hb dJ6_bitCount_0f7a4_39 ?_
  refine lv_istore_n (pc := 40) (lv' := [(0, .int (x3 + (iushr x3 (8 : Int32))))]) hx hb dJ6_bitCount_0f7a4_40 rfl hl (by decide) rfl (fun ls hl => ?_)
  refine lv_iload_n (pc := 41) hx hb dJ6_bitCount_0f7a4_41 rfl (lv_at hl 0 rfl) ?_
  refine lv_iload_n (pc := 42) hx hb dJ6_bitCount_0f7a4_42 rfl (lv_at hl 0 rfl) ?_
  refine lv_bipush (pc := 43) (v := (16 : Int32)) hx hb dJ6_bitCount_0f7a4_43 (by decide) ?_
  refine lv_iushr (pc := 45) (v := (iushr (x3 + (iushr x3 (8 : Int32))) (16 : Int32))) hx hb dJ6_bitCount_0f7a4_45 rfl ?_
  refine lv_iadd (pc := 46) hx hb dJ6_bitCount_0f7a4_46 ?_
  refine lv_topi (fun x4 ex4 => ?_)
  have hf := nm_some hf ex4
  refine lv_istore_n (pc := 47) (lv' := [(0, .int x4)]) hx hb dJ6_bitCount_0f7a4_47 rfl hl (by decide) rfl (fun ls hl => ?_)
  refine lv_iload_n (pc := 48) hx hb dJ6_bitCount_0f7a4_48 rfl (lv_at hl 0 rfl) ?_
  refine lv_bipush (pc := 49) (v := (63 : Int32)) hx hb dJ6_bitCount_0f7a4_49 (by decide) ?_
  refine lv_iand (pc := 51) hx hb dJ6_bitCount_0f7a4_51 ?_
  have hf := Option.some.inj hf; subst hf
  rw [← hQ]
  exact g_iret hx hb hr hlocks hP hS dJ6_bitCount_0f7a4_52
