theorem hd_X11_freeOf : yX11_freeOf.cls ≠ "java/lang/invoke/MethodHandle" ∧ yX11_freeOf.cls ≠ "java/lang/invoke/VarHandle" ∧ (parseMethodDescriptor yX11_freeOf.desc).map (fun d => d.parameters.length) = some 1 := by decide +kernel
abbrev rm_X11_freeOf : Room := { frames := 3, cells := 0, slots := 0, locals := 65 }
noncomputable def f_X11_freeOf_J80 (w0 : TModel) (p1 : Int32) (rec2 : Int32 → Option Int32) (v3 : Int32) (v2 : Int32) : Option Int32 :=
  br (v3 = 0) (rec2 (v2 + (1 : Int32))) (some v2)
noncomputable def f_X11_freeOf_J73 (w0 : TModel) (p1 : Int32) (rec2 : Int32 → Option Int32) (rec32 : Int32 → Int32 → Int32 → Option Int32) (v4 : Int32) (v2 : Int32) (s0 : Int32) : Option Int32 :=
  rec32 (v4 + (1 : Int32)) s0 v2
noncomputable def f_X11_freeOf_J68 (w0 : TModel) (p1 : Int32) (rec2 : Int32 → Option Int32) (rec32 : Int32 → Int32 → Int32 → Option Int32) (v4 : Int32) (v2 : Int32) : Option Int32 :=
  f_X11_freeOf_J73 w0 p1 rec2 rec32 v4 v2 (1 : Int32)
noncomputable def f_X11_freeOf_L32 (w0 : TModel) (p1 : Int32) (rec2 : Int32 → Option Int32) : Nat → Int32 → Int32 → Int32 → Option Int32
  | 0, _, _, _ => none
  | k32 + 1, v4, v3, v2 =>
    gd (vp_in (132 : Int32) 617) (br ((w0.1 (132 : Int32).toNatClampNeg) ≤ v4) (f_X11_freeOf_J80 w0 p1 rec2 v3 v2) (br (v3 = 0) (f_X11_freeOf_J80 w0 p1 rec2 v3 v2) (br (((p1 >>> (v4 &&& 31)) &&& (1 : Int32)) = 0) (f_X11_freeOf_J68 w0 p1 rec2 (f_X11_freeOf_L32 w0 p1 rec2 k32) v4 v2) ((f_X11_precedes w0 v4 v2).bind (fun x1 => br (x1 = 0) (f_X11_freeOf_J68 w0 p1 rec2 (f_X11_freeOf_L32 w0 p1 rec2 k32) v4 v2) (f_X11_freeOf_J73 w0 p1 rec2 (f_X11_freeOf_L32 w0 p1 rec2 k32) v4 v2 (0 : Int32)))))))
noncomputable def f_X11_freeOf_J28 (w0 : TModel) (p1 : Int32) (rec2 : Int32 → Option Int32) (v2 : Int32) (s0 : Int32) : Option Int32 :=
  f_X11_freeOf_L32 w0 p1 rec2 FUEL (0 : Int32) s0 v2
noncomputable def f_X11_freeOf_L2 (w0 : TModel) (p1 : Int32)  : Nat → Int32 → Option Int32
  | 0, _ => none
  | k2 + 1, v2 =>
    gd (vp_in (132 : Int32) 617) (br ((w0.1 (132 : Int32).toNatClampNeg) ≤ v2) (some (-1 : Int32)) (br (((p1 >>> (v2 &&& 31)) &&& (1 : Int32)) = (1 : Int32)) (f_X11_freeOf_J28 w0 p1 (f_X11_freeOf_L2 w0 p1  k2) v2 (1 : Int32)) (f_X11_freeOf_J28 w0 p1 (f_X11_freeOf_L2 w0 p1  k2) v2 (0 : Int32))))
noncomputable def f_X11_freeOf (w0 : TModel) (p1 : Int32) : Option Int32 :=
  f_X11_freeOf_L2 w0 p1 FUEL (0 : Int32)
set_option maxHeartbeats 4000000 in
set_option maxRecDepth 100000 in
theorem c_X11_freeOf (l : Launch) (G : GT) (hw0_0 hw0_1 hw0_2 hw0_3 hw0_4 hw0_5 hw0_6 hw0_7 hw0_8 : Nat) (w0 : TModel) (p1 : Int32) {r : Int32} (hf : f_X11_freeOf w0 p1 = some r) : Ct l yX11_freeOf (Cond.code yX11_freeOf cX11_freeOf 5 (some .int) :: lw_g) rm_X11_freeOf G [.ref hw0_0, .int p1] [(hw0_0, .inr (8, [.ref hw0_1, .ref hw0_2, .int w0.2.2.1, .int w0.2.2.2.1, .ref hw0_3, .ref hw0_4, .int w0.2.2.2.2.2.2.1, .int w0.2.2.2.2.2.2.2.1, .int w0.2.2.2.2.2.2.2.2.1, .ref hw0_5, .ref hw0_6, .ref hw0_7, .int w0.2.2.2.2.2.2.2.2.2.2.2.2.1, .ref hw0_8])), (hw0_1, .inl (G.2.1, 617, .inl w0.1)), (hw0_2, .inl (G.2.1, 2468, .inl w0.2.1)), (hw0_3, .inl (G.2.1, 30, .inl w0.2.2.2.2.1)), (hw0_4, .inl (G.2.1, 4000, .inl w0.2.2.2.2.2.1)), (hw0_5, .inl (G.2.1, 120, .inl w0.2.2.2.2.2.2.2.2.2.1)), (hw0_6, .inl (G.2.1, 64, .inl w0.2.2.2.2.2.2.2.2.2.2.1)), (hw0_7, .inl (G.2.2.1, 64, .inl w0.2.2.2.2.2.2.2.2.2.2.2.1)), (hw0_8, .inl (G.2.1, 64, .inl w0.2.2.2.2.2.2.2.2.2.2.2.2.2))] (some (.int r)) [(hw0_0, .inr (8, [.ref hw0_1, .ref hw0_2, .int w0.2.2.1, .int w0.2.2.2.1, .ref hw0_3, .ref hw0_4, .int w0.2.2.2.2.2.2.1, .int w0.2.2.2.2.2.2.2.1, .int w0.2.2.2.2.2.2.2.2.1, .ref hw0_5, .ref hw0_6, .ref hw0_7, .int w0.2.2.2.2.2.2.2.2.2.2.2.2.1, .ref hw0_8])), (hw0_1, .inl (G.2.1, 617, .inl w0.1)), (hw0_2, .inl (G.2.1, 2468, .inl w0.2.1)), (hw0_3, .inl (G.2.1, 30, .inl w0.2.2.2.2.1)), (hw0_4, .inl (G.2.1, 4000, .inl w0.2.2.2.2.2.1)), (hw0_5, .inl (G.2.1, 120, .inl w0.2.2.2.2.2.2.2.2.2.1)), (hw0_6, .inl (G.2.1, 64, .inl w0.2.2.2.2.2.2.2.2.2.2.1)), (hw0_7, .inl (G.2.2.1, 64, .inl w0.2.2.2.2.2.2.2.2.2.2.2.1)), (hw0_8, .inl (G.2.1, 64, .inl w0.2.2.2.2.2.2.2.2.2.2.2.2.2))] := by
  refine Ct.ofW (cc := cX11_freeOf) (maxL := 5) (ret := (some .int)) (own := RX11) (by decide) rfl rfl (Nat.le_of_ble_eq_true rfl) ?_
  intro p e s m args below meth c A hx hb hr hml hts hown hlocks hK hP hD hA hS ls hl
  have hl : lv_has ls 5 [(0, .ref hw0_0), (1, .int p1)] := hl
  generalize hQ : gMQ below G _ _ A args s = Q
  generalize hH : s.heap = H at hP ⊢
  have hS : va_S A s.heap H [] := by rw [← hH]; exact hS
  generalize ([] : List Loc) = locs at hS ⊢
  unfold f_X11_freeOf at hf
  have hL2 : ∀ (k2 : Nat) (v2 : Int32), f_X11_freeOf_L2 w0 p1  k2 v2 = some r → ∀ (H : Heap) (locs : List Loc), va_P G.1 vwCl [(hw0_0, .inr (8, [.ref hw0_1, .ref hw0_2, .int w0.2.2.1, .int w0.2.2.2.1, .ref hw0_3, .ref hw0_4, .int w0.2.2.2.2.2.2.1, .int w0.2.2.2.2.2.2.2.1, .int w0.2.2.2.2.2.2.2.2.1, .ref hw0_5, .ref hw0_6, .ref hw0_7, .int w0.2.2.2.2.2.2.2.2.2.2.2.2.1, .ref hw0_8])), (hw0_1, .inl (G.2.1, 617, .inl w0.1)), (hw0_2, .inl (G.2.1, 2468, .inl w0.2.1)), (hw0_3, .inl (G.2.1, 30, .inl w0.2.2.2.2.1)), (hw0_4, .inl (G.2.1, 4000, .inl w0.2.2.2.2.2.1)), (hw0_5, .inl (G.2.1, 120, .inl w0.2.2.2.2.2.2.2.2.2.1)), (hw0_6, .inl (G.2.1, 64, .inl w0.2.2.2.2.2.2.2.2.2.2.1)), (hw0_7, .inl (G.2.2.1, 64, .inl w0.2.2.2.2.2.2.2.2.2.2.2.1)), (hw0_8, .inl (G.2.1, 64, .inl w0.2.2.2.2.2.2.2.2.2.2.2.2.2))] H → va_D A [(hw0_0, .inr (8, [.ref hw0_1, .ref hw0_2, .int w0.2.2.1, .int w0.2.2.2.1, .ref hw0_3, .ref hw0_4, .int w0.2.2.2.2.2.2.1, .int w0.2.2.2.2.2.2.2.1, .int w0.2.2.2.2.2.2.2.2.1, .ref hw0_5, .ref hw0_6, .ref hw0_7, .int w0.2.2.2.2.2.2.2.2.2.2.2.2.1, .ref hw0_8])), (hw0_1, .inl (G.2.1, 617, .inl w0.1)), (hw0_2, .inl (G.2.1, 2468, .inl w0.2.1)), (hw0_3, .inl (G.2.1, 30, .inl w0.2.2.2.2.1)), (hw0_4, .inl (G.2.1, 4000, .inl w0.2.2.2.2.2.1)), (hw0_5, .inl (G.2.1, 120, .inl w0.2.2.2.2.2.2.2.2.2.1)), (hw0_6, .inl (G.2.1, 64, .inl w0.2.2.2.2.2.2.2.2.2.2.1)), (hw0_7, .inl (G.2.2.1, 64, .inl w0.2.2.2.2.2.2.2.2.2.2.2.1)), (hw0_8, .inl (G.2.1, 64, .inl w0.2.2.2.2.2.2.2.2.2.2.2.2.2))] → va_S A s.heap H locs → ∀ (ls : Array Slot), lv_has ls 5 [(2, .int v2), (0, .ref hw0_0), (1, .int p1)] → W p l e (rm_X11_freeOf) s m args below meth c H locs 0 0 Q (F0 m 2 ls []) := by
    intro k2
    induction k2 with
    | zero =>
      intro v2 hf
      rw [f_X11_freeOf_L2.eq_1] at hf; cases hf
    | succ k2 ih2 =>
      have hJ80 : ∀ (v3 : Int32) (v2 : Int32), f_X11_freeOf_J80 w0 p1 (f_X11_freeOf_L2 w0 p1 k2) v3 v2 = some r → ∀ (H : Heap) (locs : List Loc), va_P G.1 vwCl [(hw0_0, .inr (8, [.ref hw0_1, .ref hw0_2, .int w0.2.2.1, .int w0.2.2.2.1, .ref hw0_3, .ref hw0_4, .int w0.2.2.2.2.2.2.1, .int w0.2.2.2.2.2.2.2.1, .int w0.2.2.2.2.2.2.2.2.1, .ref hw0_5, .ref hw0_6, .ref hw0_7, .int w0.2.2.2.2.2.2.2.2.2.2.2.2.1, .ref hw0_8])), (hw0_1, .inl (G.2.1, 617, .inl w0.1)), (hw0_2, .inl (G.2.1, 2468, .inl w0.2.1)), (hw0_3, .inl (G.2.1, 30, .inl w0.2.2.2.2.1)), (hw0_4, .inl (G.2.1, 4000, .inl w0.2.2.2.2.2.1)), (hw0_5, .inl (G.2.1, 120, .inl w0.2.2.2.2.2.2.2.2.2.1)), (hw0_6, .inl (G.2.1, 64, .inl w0.2.2.2.2.2.2.2.2.2.2.1)), (hw0_7, .inl (G.2.2.1, 64, .inl w0.2.2.2.2.2.2.2.2.2.2.2.1)), (hw0_8, .inl (G.2.1, 64, .inl w0.2.2.2.2.2.2.2.2.2.2.2.2.2))] H → va_D A [(hw0_0, .inr (8, [.ref hw0_1, .ref hw0_2, .int w0.2.2.1, .int w0.2.2.2.1, .ref hw0_3, .ref hw0_4, .int w0.2.2.2.2.2.2.1, .int w0.2.2.2.2.2.2.2.1, .int w0.2.2.2.2.2.2.2.2.1, .ref hw0_5, .ref hw0_6, .ref hw0_7, .int w0.2.2.2.2.2.2.2.2.2.2.2.2.1, .ref hw0_8])), (hw0_1, .inl (G.2.1, 617, .inl w0.1)), (hw0_2, .inl (G.2.1, 2468, .inl w0.2.1)), (hw0_3, .inl (G.2.1, 30, .inl w0.2.2.2.2.1)), (hw0_4, .inl (G.2.1, 4000, .inl w0.2.2.2.2.2.1)), (hw0_5, .inl (G.2.1, 120, .inl w0.2.2.2.2.2.2.2.2.2.1)), (hw0_6, .inl (G.2.1, 64, .inl w0.2.2.2.2.2.2.2.2.2.2.1)), (hw0_7, .inl (G.2.2.1, 64, .inl w0.2.2.2.2.2.2.2.2.2.2.2.1)), (hw0_8, .inl (G.2.1, 64, .inl w0.2.2.2.2.2.2.2.2.2.2.2.2.2))] → va_S A s.heap H locs → ∀ (ls : Array Slot), lv_has ls 5 [(3, .int v3), (2, .int v2), (0, .ref hw0_0), (1, .int p1)] → W p l e (rm_X11_freeOf) s m args below meth c H locs 0 0 Q (F0 m 80 ls []) := by
        intro v3 v2 hf H locs hP hD hS ls hl
        unfold f_X11_freeOf_J80 at hf
        refine lv_iload_n (pc := 80) hx hb dX11_freeOf_80 rfl (lv_at hl 0 rfl) ?_
        refine lv_if_eq (pc := 81) (tgt := 86) hx hb dX11_freeOf_81 (by decide) (fun hc => ?_) (fun hc => ?_)
        · have hf := br_y hc hf
          refine lv_iinc (pc := 86) (v := (v2 + (1 : Int32))) (lv' := [(2, .int (v2 + (1 : Int32))), (3, .int v3), (0, .ref hw0_0), (1, .int p1)]) hx hb dX11_freeOf_86 hl (k := 1) rfl rfl (by decide) rfl (fun ls hl => ?_)
          refine lv_goto (pc := 89) (tgt := 2) hx hb dX11_freeOf_89 (by decide) ?_
          exact ih2 (v2 + (1 : Int32)) hf H locs hP hD hS ls (lv_sub hl [0, 2, 3] rfl)
        · have hf := br_n hc hf
          refine lv_iload_n (pc := 84) hx hb dX11_freeOf_84 rfl (lv_at hl 1 rfl) ?_
          have hf := Option.some.inj hf; subst hf
          rw [← hQ]
          exact g_iret hx hb hr hlocks hP hS dX11_freeOf_85
      have hL32 : ∀ (k32 : Nat) (v4 : Int32) (v3 : Int32) (v2 : Int32), f_X11_freeOf_L32 w0 p1 (f_X11_freeOf_L2 w0 p1 k2) k32 v4 v3 v2 = some r → ∀ (H : Heap) (locs : List Loc), va_P G.1 vwCl [(hw0_0, .inr (8, [.ref hw0_1, .ref hw0_2, .int w0.2.2.1, .int w0.2.2.2.1, .ref hw0_3, .ref hw0_4, .int w0.2.2.2.2.2.2.1, .int w0.2.2.2.2.2.2.2.1, .int w0.2.2.2.2.2.2.2.2.1, .ref hw0_5, .ref hw0_6, .ref hw0_7, .int w0.2.2.2.2.2.2.2.2.2.2.2.2.1, .ref hw0_8])), (hw0_1, .inl (G.2.1, 617, .inl w0.1)), (hw0_2, .inl (G.2.1, 2468, .inl w0.2.1)), (hw0_3, .inl (G.2.1, 30, .inl w0.2.2.2.2.1)), (hw0_4, .inl (G.2.1, 4000, .inl w0.2.2.2.2.2.1)), (hw0_5, .inl (G.2.1, 120, .inl w0.2.2.2.2.2.2.2.2.2.1)), (hw0_6, .inl (G.2.1, 64, .inl w0.2.2.2.2.2.2.2.2.2.2.1)), (hw0_7, .inl (G.2.2.1, 64, .inl w0.2.2.2.2.2.2.2.2.2.2.2.1)), (hw0_8, .inl (G.2.1, 64, .inl w0.2.2.2.2.2.2.2.2.2.2.2.2.2))] H → va_D A [(hw0_0, .inr (8, [.ref hw0_1, .ref hw0_2, .int w0.2.2.1, .int w0.2.2.2.1, .ref hw0_3, .ref hw0_4, .int w0.2.2.2.2.2.2.1, .int w0.2.2.2.2.2.2.2.1, .int w0.2.2.2.2.2.2.2.2.1, .ref hw0_5, .ref hw0_6, .ref hw0_7, .int w0.2.2.2.2.2.2.2.2.2.2.2.2.1, .ref hw0_8])), (hw0_1, .inl (G.2.1, 617, .inl w0.1)), (hw0_2, .inl (G.2.1, 2468, .inl w0.2.1)), (hw0_3, .inl (G.2.1, 30, .inl w0.2.2.2.2.1)), (hw0_4, .inl (G.2.1, 4000, .inl w0.2.2.2.2.2.1)), (hw0_5, .inl (G.2.1, 120, .inl w0.2.2.2.2.2.2.2.2.2.1)), (hw0_6, .inl (G.2.1, 64, .inl w0.2.2.2.2.2.2.2.2.2.2.1)), (hw0_7, .inl (G.2.2.1, 64, .inl w0.2.2.2.2.2.2.2.2.2.2.2.1)), (hw0_8, .inl (G.2.1, 64, .inl w0.2.2.2.2.2.2.2.2.2.2.2.2.2))] → va_S A s.heap H locs → ∀ (ls : Array Slot), lv_has ls 5 [(4, .int v4), (3, .int v3), (2, .int v2), (0, .ref hw0_0), (1, .int p1)] → W p l e (rm_X11_freeOf) s m args below meth c H locs 0 0 Q (F0 m 32 ls []) := by
        intro k32
        induction k32 with
        | zero =>
          intro v4 v3 v2 hf
          rw [f_X11_freeOf_L32.eq_1] at hf; cases hf
        | succ k32 ih32 =>
          have hJ73 : ∀ (v4 : Int32) (v2 : Int32) (s0 : Int32), f_X11_freeOf_J73 w0 p1 (f_X11_freeOf_L2 w0 p1 k2) (f_X11_freeOf_L32 w0 p1 (f_X11_freeOf_L2 w0 p1 k2) k32) v4 v2 s0 = some r → ∀ (H : Heap) (locs : List Loc), va_P G.1 vwCl [(hw0_0, .inr (8, [.ref hw0_1, .ref hw0_2, .int w0.2.2.1, .int w0.2.2.2.1, .ref hw0_3, .ref hw0_4, .int w0.2.2.2.2.2.2.1, .int w0.2.2.2.2.2.2.2.1, .int w0.2.2.2.2.2.2.2.2.1, .ref hw0_5, .ref hw0_6, .ref hw0_7, .int w0.2.2.2.2.2.2.2.2.2.2.2.2.1, .ref hw0_8])), (hw0_1, .inl (G.2.1, 617, .inl w0.1)), (hw0_2, .inl (G.2.1, 2468, .inl w0.2.1)), (hw0_3, .inl (G.2.1, 30, .inl w0.2.2.2.2.1)), (hw0_4, .inl (G.2.1, 4000, .inl w0.2.2.2.2.2.1)), (hw0_5, .inl (G.2.1, 120, .inl w0.2.2.2.2.2.2.2.2.2.1)), (hw0_6, .inl (G.2.1, 64, .inl w0.2.2.2.2.2.2.2.2.2.2.1)), (hw0_7, .inl (G.2.2.1, 64, .inl w0.2.2.2.2.2.2.2.2.2.2.2.1)), (hw0_8, .inl (G.2.1, 64, .inl w0.2.2.2.2.2.2.2.2.2.2.2.2.2))] H → va_D A [(hw0_0, .inr (8, [.ref hw0_1, .ref hw0_2, .int w0.2.2.1, .int w0.2.2.2.1, .ref hw0_3, .ref hw0_4, .int w0.2.2.2.2.2.2.1, .int w0.2.2.2.2.2.2.2.1, .int w0.2.2.2.2.2.2.2.2.1, .ref hw0_5, .ref hw0_6, .ref hw0_7, .int w0.2.2.2.2.2.2.2.2.2.2.2.2.1, .ref hw0_8])), (hw0_1, .inl (G.2.1, 617, .inl w0.1)), (hw0_2, .inl (G.2.1, 2468, .inl w0.2.1)), (hw0_3, .inl (G.2.1, 30, .inl w0.2.2.2.2.1)), (hw0_4, .inl (G.2.1, 4000, .inl w0.2.2.2.2.2.1)), (hw0_5, .inl (G.2.1, 120, .inl w0.2.2.2.2.2.2.2.2.2.1)), (hw0_6, .inl (G.2.1, 64, .inl w0.2.2.2.2.2.2.2.2.2.2.1)), (hw0_7, .inl (G.2.2.1, 64, .inl w0.2.2.2.2.2.2.2.2.2.2.2.1)), (hw0_8, .inl (G.2.1, 64, .inl w0.2.2.2.2.2.2.2.2.2.2.2.2.2))] → va_S A s.heap H locs → ∀ (ls : Array Slot), lv_has ls 5 [(4, .int v4), (2, .int v2), (0, .ref hw0_0), (1, .int p1)] → W p l e (rm_X11_freeOf) s m args below meth c H locs 0 0 Q (F0 m 73 ls [.int s0]) := by
            intro v4 v2 s0 hf H locs hP hD hS ls hl
            unfold f_X11_freeOf_J73 at hf
            refine lv_istore_n (pc := 73) (lv' := [(3, .int s0), (4, .int v4), (2, .int v2), (0, .ref hw0_0), (1, .int p1)]) hx hb dX11_freeOf_73 rfl hl (by decide) rfl (fun ls hl => ?_)
            refine lv_iinc (pc := 74) (v := (v4 + (1 : Int32))) (lv' := [(4, .int (v4 + (1 : Int32))), (3, .int s0), (2, .int v2), (0, .ref hw0_0), (1, .int p1)]) hx hb dX11_freeOf_74 hl (k := 1) rfl rfl (by decide) rfl (fun ls hl => ?_)
            refine lv_goto (pc := 77) (tgt := 32) hx hb dX11_freeOf_77 (by decide) ?_
            exact ih32 (v4 + (1 : Int32)) s0 v2 hf H locs hP hD hS ls (lv_sub hl [0, 1, 2, 3, 4] rfl)
          have hJ68 : ∀ (v4 : Int32) (v2 : Int32), f_X11_freeOf_J68 w0 p1 (f_X11_freeOf_L2 w0 p1 k2) (f_X11_freeOf_L32 w0 p1 (f_X11_freeOf_L2 w0 p1 k2) k32) v4 v2 = some r → ∀ (H : Heap) (locs : List Loc), va_P G.1 vwCl [(hw0_0, .inr (8, [.ref hw0_1, .ref hw0_2, .int w0.2.2.1, .int w0.2.2.2.1, .ref hw0_3, .ref hw0_4, .int w0.2.2.2.2.2.2.1, .int w0.2.2.2.2.2.2.2.1, .int w0.2.2.2.2.2.2.2.2.1, .ref hw0_5, .ref hw0_6, .ref hw0_7, .int w0.2.2.2.2.2.2.2.2.2.2.2.2.1, .ref hw0_8])), (hw0_1, .inl (G.2.1, 617, .inl w0.1)), (hw0_2, .inl (G.2.1, 2468, .inl w0.2.1)), (hw0_3, .inl (G.2.1, 30, .inl w0.2.2.2.2.1)), (hw0_4, .inl (G.2.1, 4000, .inl w0.2.2.2.2.2.1)), (hw0_5, .inl (G.2.1, 120, .inl w0.2.2.2.2.2.2.2.2.2.1)), (hw0_6, .inl (G.2.1, 64, .inl w0.2.2.2.2.2.2.2.2.2.2.1)), (hw0_7, .inl (G.2.2.1, 64, .inl w0.2.2.2.2.2.2.2.2.2.2.2.1)), (hw0_8, .inl (G.2.1, 64, .inl w0.2.2.2.2.2.2.2.2.2.2.2.2.2))] H → va_D A [(hw0_0, .inr (8, [.ref hw0_1, .ref hw0_2, .int w0.2.2.1, .int w0.2.2.2.1, .ref hw0_3, .ref hw0_4, .int w0.2.2.2.2.2.2.1, .int w0.2.2.2.2.2.2.2.1, .int w0.2.2.2.2.2.2.2.2.1, .ref hw0_5, .ref hw0_6, .ref hw0_7, .int w0.2.2.2.2.2.2.2.2.2.2.2.2.1, .ref hw0_8])), (hw0_1, .inl (G.2.1, 617, .inl w0.1)), (hw0_2, .inl (G.2.1, 2468, .inl w0.2.1)), (hw0_3, .inl (G.2.1, 30, .inl w0.2.2.2.2.1)), (hw0_4, .inl (G.2.1, 4000, .inl w0.2.2.2.2.2.1)), (hw0_5, .inl (G.2.1, 120, .inl w0.2.2.2.2.2.2.2.2.2.1)), (hw0_6, .inl (G.2.1, 64, .inl w0.2.2.2.2.2.2.2.2.2.2.1)), (hw0_7, .inl (G.2.2.1, 64, .inl w0.2.2.2.2.2.2.2.2.2.2.2.1)), (hw0_8, .inl (G.2.1, 64, .inl w0.2.2.2.2.2.2.2.2.2.2.2.2.2))] → va_S A s.heap H locs → ∀ (ls : Array Slot), lv_has ls 5 [(4, .int v4), (2, .int v2), (0, .ref hw0_0), (1, .int p1)] → W p l e (rm_X11_freeOf) s m args below meth c H locs 0 0 Q (F0 m 68 ls []) := by
            intro v4 v2 hf H locs hP hD hS ls hl
            unfold f_X11_freeOf_J68 at hf
            refine lv_iconst (pc := 68) (v := (1 : Int32)) hx hb dX11_freeOf_68 (by decide) ?_
            refine lv_goto (pc := 69) (tgt := 73) hx hb dX11_freeOf_69 (by decide) ?_
            exact hJ73 v4 v2 (1 : Int32) hf H locs hP hD hS ls (lv_sub hl [0, 1, 2, 3] rfl)
          intro v4 v3 v2 hf H locs hP hD hS ls hl
          rw [f_X11_freeOf_L32.eq_2] at hf
          refine lv_iload (pc := 32) hx hb dX11_freeOf_32 (lv_at hl 0 rfl) ?_
          refine lv_aload_n (pc := 34) hx hb dX11_freeOf_34 rfl (lv_at hl 3 rfl) ?_
          refine va_get (pc := 35) (D := G.1) (ci := 8) (v := .ref hw0_1) (C := RX11) (T := TX11) (N := 14) hx hb hts inX11 hown hK.1 hP 0 rfl rfl 0 (by decide) (hts _ wd_880) (fun _ h9 => h9) rfl dX11_freeOf_35 ?_
          refine lv_sipush (pc := 38) (v := (132 : Int32)) hx hb dX11_freeOf_38 (by decide) ?_
          obtain ⟨hg, hf⟩ := gd_some hf
          refine va_iald (pc := 41) hx hb hK.1 hP 1 0 rfl rfl hg dX11_freeOf_41 ?_
          refine lv_icmp_ge (pc := 42) (tgt := 80) hx hb dX11_freeOf_42 (by decide) (fun hc => ?_) (fun hc => ?_)
          · have hf := br_y hc hf
            exact hJ80 v3 v2 hf H locs hP hD hS ls (lv_sub hl [1, 2, 3, 4] rfl)
          · have hf := br_n hc hf
            refine lv_iload_n (pc := 45) hx hb dX11_freeOf_45 rfl (lv_at hl 1 rfl) ?_
            refine lv_if_eq (pc := 46) (tgt := 80) hx hb dX11_freeOf_46 (by decide) (fun hc => ?_) (fun hc => ?_)
            · have hf := br_y hc hf
              exact hJ80 v3 v2 hf H locs hP hD hS ls (lv_sub hl [1, 2, 3, 4] rfl)
            · have hf := br_n hc hf
              refine lv_iload_n (pc := 49) hx hb dX11_freeOf_49 rfl (lv_at hl 4 rfl) ?_
              refine lv_iload (pc := 50) hx hb dX11_freeOf_50 (lv_at hl 0 rfl) ?_
              refine lv_ishr (pc := 52) hx hb dX11_freeOf_52 ?_
              refine lv_iconst (pc := 53) (v := (1 : Int32)) hx hb dX11_freeOf_53 (by decide) ?_
              refine lv_iand (pc := 54) hx hb dX11_freeOf_54 ?_
              refine lv_if_eq (pc := 55) (tgt := 68) hx hb dX11_freeOf_55 (by decide) (fun hc => ?_) (fun hc => ?_)
              · have hf := br_y hc hf
                exact hJ68 v4 v2 hf H locs hP hD hS ls (lv_sub hl [0, 2, 3, 4] rfl)
              · have hf := br_n hc hf
                refine lv_aload_n (pc := 58) hx hb dX11_freeOf_58 rfl (lv_at hl 3 rfl) ?_
                refine lv_iload (pc := 59) hx hb dX11_freeOf_59 (lv_at hl 0 rfl) ?_
                refine lv_iload_n (pc := 61) hx hb dX11_freeOf_61 rfl (lv_at hl 2 rfl) ?_
                obtain ⟨x1, hcx1, hf⟩ := bn_some hf
                refine g_callV0 (pc := 62) (rest := []) hx hb hml hown hts hK (c_X11_precedes l G hw0_0 hw0_1 hw0_2 hw0_3 hw0_4 hw0_5 hw0_6 hw0_7 hw0_8 w0 v4 v2 hcx1) wd_1018 wd_10 wd_1015 wd_1017 ws_23 hd_X11_precedes ⟨rfl, rfl, Nat.le_of_ble_eq_true rfl, Nat.le_of_ble_eq_true rfl⟩ hP hD hS hA [0, 1, 2, 3, 4, 5, 6, 7, 8] rfl rfl 8 0 rfl rfl rfl rfl hl.1 rfl (Nat.le_of_ble_eq_true rfl) dX11_freeOf_62 ⟨Nat.zero_le _, Nat.zero_le _⟩ (fun H locs hP hS => ?_)
                refine lv_if_ne (pc := 65) (tgt := 72) hx hb dX11_freeOf_65 (by decide) (fun hc => ?_) (fun hc => ?_)
                · have hf := br_n hc hf
                  refine lv_iconst (pc := 72) (v := (0 : Int32)) hx hb dX11_freeOf_72 (by decide) ?_
                  exact hJ73 v4 v2 (0 : Int32) hf H locs hP hD hS ls (lv_sub hl [0, 2, 3, 4] rfl)
                · have hf := br_y hc hf
                  exact hJ68 v4 v2 hf H locs hP hD hS ls (lv_sub hl [0, 2, 3, 4] rfl)
      have hJ28 : ∀ (v2 : Int32) (s0 : Int32), f_X11_freeOf_J28 w0 p1 (f_X11_freeOf_L2 w0 p1 k2) v2 s0 = some r → ∀ (H : Heap) (locs : List Loc), va_P G.1 vwCl [(hw0_0, .inr (8, [.ref hw0_1, .ref hw0_2, .int w0.2.2.1, .int w0.2.2.2.1, .ref hw0_3, .ref hw0_4, .int w0.2.2.2.2.2.2.1, .int w0.2.2.2.2.2.2.2.1, .int w0.2.2.2.2.2.2.2.2.1, .ref hw0_5, .ref hw0_6, .ref hw0_7, .int w0.2.2.2.2.2.2.2.2.2.2.2.2.1, .ref hw0_8])), (hw0_1, .inl (G.2.1, 617, .inl w0.1)), (hw0_2, .inl (G.2.1, 2468, .inl w0.2.1)), (hw0_3, .inl (G.2.1, 30, .inl w0.2.2.2.2.1)), (hw0_4, .inl (G.2.1, 4000, .inl w0.2.2.2.2.2.1)), (hw0_5, .inl (G.2.1, 120, .inl w0.2.2.2.2.2.2.2.2.2.1)), (hw0_6, .inl (G.2.1, 64, .inl w0.2.2.2.2.2.2.2.2.2.2.1)), (hw0_7, .inl (G.2.2.1, 64, .inl w0.2.2.2.2.2.2.2.2.2.2.2.1)), (hw0_8, .inl (G.2.1, 64, .inl w0.2.2.2.2.2.2.2.2.2.2.2.2.2))] H → va_D A [(hw0_0, .inr (8, [.ref hw0_1, .ref hw0_2, .int w0.2.2.1, .int w0.2.2.2.1, .ref hw0_3, .ref hw0_4, .int w0.2.2.2.2.2.2.1, .int w0.2.2.2.2.2.2.2.1, .int w0.2.2.2.2.2.2.2.2.1, .ref hw0_5, .ref hw0_6, .ref hw0_7, .int w0.2.2.2.2.2.2.2.2.2.2.2.2.1, .ref hw0_8])), (hw0_1, .inl (G.2.1, 617, .inl w0.1)), (hw0_2, .inl (G.2.1, 2468, .inl w0.2.1)), (hw0_3, .inl (G.2.1, 30, .inl w0.2.2.2.2.1)), (hw0_4, .inl (G.2.1, 4000, .inl w0.2.2.2.2.2.1)), (hw0_5, .inl (G.2.1, 120, .inl w0.2.2.2.2.2.2.2.2.2.1)), (hw0_6, .inl (G.2.1, 64, .inl w0.2.2.2.2.2.2.2.2.2.2.1)), (hw0_7, .inl (G.2.2.1, 64, .inl w0.2.2.2.2.2.2.2.2.2.2.2.1)), (hw0_8, .inl (G.2.1, 64, .inl w0.2.2.2.2.2.2.2.2.2.2.2.2.2))] → va_S A s.heap H locs → ∀ (ls : Array Slot), lv_has ls 5 [(2, .int v2), (0, .ref hw0_0), (1, .int p1)] → W p l e (rm_X11_freeOf) s m args below meth c H locs 0 0 Q (F0 m 28 ls [.int s0]) := by
        intro v2 s0 hf H locs hP hD hS ls hl
        unfold f_X11_freeOf_J28 at hf
        refine lv_istore_n (pc := 28) (lv' := [(3, .int s0), (2, .int v2), (0, .ref hw0_0), (1, .int p1)]) hx hb dX11_freeOf_28 rfl hl (by decide) rfl (fun ls hl => ?_)
        refine lv_iconst (pc := 29) (v := (0 : Int32)) hx hb dX11_freeOf_29 (by decide) ?_
        refine lv_istore (pc := 30) (lv' := [(4, .int (0 : Int32)), (3, .int s0), (2, .int v2), (0, .ref hw0_0), (1, .int p1)]) hx hb dX11_freeOf_30 hl (by decide) rfl (fun ls hl => ?_)
        exact hL32 FUEL (0 : Int32) s0 v2 hf H locs hP hD hS ls (lv_sub hl [0, 1, 2, 3, 4] rfl)
      intro v2 hf H locs hP hD hS ls hl
      rw [f_X11_freeOf_L2.eq_2] at hf
      refine lv_iload_n (pc := 2) hx hb dX11_freeOf_2 rfl (lv_at hl 0 rfl) ?_
      refine lv_aload_n (pc := 3) hx hb dX11_freeOf_3 rfl (lv_at hl 1 rfl) ?_
      refine va_get (pc := 4) (D := G.1) (ci := 8) (v := .ref hw0_1) (C := RX11) (T := TX11) (N := 14) hx hb hts inX11 hown hK.1 hP 0 rfl rfl 0 (by decide) (hts _ wd_880) (fun _ h9 => h9) rfl dX11_freeOf_4 ?_
      refine lv_sipush (pc := 7) (v := (132 : Int32)) hx hb dX11_freeOf_7 (by decide) ?_
      obtain ⟨hg, hf⟩ := gd_some hf
      refine va_iald (pc := 10) hx hb hK.1 hP 1 0 rfl rfl hg dX11_freeOf_10 ?_
      refine lv_icmp_ge (pc := 11) (tgt := 92) hx hb dX11_freeOf_11 (by decide) (fun hc => ?_) (fun hc => ?_)
      · have hf := br_y hc hf
        refine lv_iconst (pc := 92) (v := (-1 : Int32)) hx hb dX11_freeOf_92 (by decide) ?_
        have hf := Option.some.inj hf; subst hf
        rw [← hQ]
        exact g_iret hx hb hr hlocks hP hS dX11_freeOf_93
      · have hf := br_n hc hf
        refine lv_iload_n (pc := 14) hx hb dX11_freeOf_14 rfl (lv_at hl 2 rfl) ?_
        refine lv_iload_n (pc := 15) hx hb dX11_freeOf_15 rfl (lv_at hl 0 rfl) ?_
        refine lv_ishr (pc := 16) hx hb dX11_freeOf_16 ?_
        refine lv_iconst (pc := 17) (v := (1 : Int32)) hx hb dX11_freeOf_17 (by decide) ?_
        refine lv_iand (pc := 18) hx hb dX11_freeOf_18 ?_
        refine lv_iconst (pc := 19) (v := (1 : Int32)) hx hb dX11_freeOf_19 (by decide) ?_
        refine lv_icmp_ne (pc := 20) (tgt := 27) hx hb dX11_freeOf_20 (by decide) (fun hc => ?_) (fun hc => ?_)
        · have hf := br_n hc hf
          refine lv_iconst (pc := 27) (v := (0 : Int32)) hx hb dX11_freeOf_27 (by decide) ?_
          exact hJ28 v2 (0 : Int32) hf H locs hP hD hS ls (lv_sub hl [0, 1, 2] rfl)
        · have hf := br_y hc hf
          refine lv_iconst (pc := 23) (v := (1 : Int32)) hx hb dX11_freeOf_23 (by decide) ?_
          refine lv_goto (pc := 24) (tgt := 28) hx hb dX11_freeOf_24 (by decide) ?_
          exact hJ28 v2 (1 : Int32) hf H locs hP hD hS ls (lv_sub hl [0, 1, 2] rfl)
  refine lv_iconst (pc := 0) (v := (0 : Int32)) hx hb dX11_freeOf_0 (by decide) ?_
  refine lv_istore_n (pc := 1) (lv' := [(2, .int (0 : Int32)), (0, .ref hw0_0), (1, .int p1)]) hx hb dX11_freeOf_1 rfl hl (by decide) rfl (fun ls hl => ?_)
  exact hL2 FUEL (0 : Int32) hf H locs hP hD hS ls (lv_sub hl [0, 1, 2] rfl)
theorem hd_X11_copies : yX11_copies.cls ≠ "java/lang/invoke/MethodHandle" ∧ yX11_copies.cls ≠ "java/lang/invoke/VarHandle" ∧ (parseMethodDescriptor yX11_copies.desc).map (fun d => d.parameters.length) = some 0 := by decide +kernel
abbrev rm_X11_copies : Room := { frames := 2, cells := 0, slots := 0, locals := 43 }
noncomputable def f_X11_copies_J32 (w0 : TModel) (rec4 : Int32 → Int32 → Option Int32) (v2 : Int32) (s0 : Int32) (s1 : Int32) : Option Int32 :=
  rec4 (v2 + (1 : Int32)) (s1 ||| s0)
noncomputable def f_X11_copies_L4 (w0 : TModel)  : Nat → Int32 → Int32 → Option Int32
  | 0, _, _ => none
  | k4 + 1, v2, v1 =>
    gd (vp_in (132 : Int32) 617) (br ((w0.1 (132 : Int32).toNatClampNeg) ≤ v2) (some v1) ((f_X11_isCopy w0 v2).bind (fun x1 => br (x1 = 0) (f_X11_copies_J32 w0 (f_X11_copies_L4 w0  k4) v2 (0 : Int32) v1) (f_X11_copies_J32 w0 (f_X11_copies_L4 w0  k4) v2 ((1 : Int32) <<< (v2 &&& 31)) v1))))
noncomputable def f_X11_copies (w0 : TModel) : Option Int32 :=
  f_X11_copies_L4 w0 FUEL (0 : Int32) (0 : Int32)
set_option maxHeartbeats 4000000 in
set_option maxRecDepth 100000 in
theorem c_X11_copies (l : Launch) (G : GT) (hw0_0 hw0_1 hw0_2 hw0_3 hw0_4 hw0_5 hw0_6 hw0_7 hw0_8 : Nat) (w0 : TModel) {r : Int32} (hf : f_X11_copies w0 = some r) : Ct l yX11_copies (Cond.code yX11_copies cX11_copies 3 (some .int) :: lw_g) rm_X11_copies G [.ref hw0_0] [(hw0_0, .inr (8, [.ref hw0_1, .ref hw0_2, .int w0.2.2.1, .int w0.2.2.2.1, .ref hw0_3, .ref hw0_4, .int w0.2.2.2.2.2.2.1, .int w0.2.2.2.2.2.2.2.1, .int w0.2.2.2.2.2.2.2.2.1, .ref hw0_5, .ref hw0_6, .ref hw0_7, .int w0.2.2.2.2.2.2.2.2.2.2.2.2.1, .ref hw0_8])), (hw0_1, .inl (G.2.1, 617, .inl w0.1)), (hw0_2, .inl (G.2.1, 2468, .inl w0.2.1)), (hw0_3, .inl (G.2.1, 30, .inl w0.2.2.2.2.1)), (hw0_4, .inl (G.2.1, 4000, .inl w0.2.2.2.2.2.1)), (hw0_5, .inl (G.2.1, 120, .inl w0.2.2.2.2.2.2.2.2.2.1)), (hw0_6, .inl (G.2.1, 64, .inl w0.2.2.2.2.2.2.2.2.2.2.1)), (hw0_7, .inl (G.2.2.1, 64, .inl w0.2.2.2.2.2.2.2.2.2.2.2.1)), (hw0_8, .inl (G.2.1, 64, .inl w0.2.2.2.2.2.2.2.2.2.2.2.2.2))] (some (.int r)) [(hw0_0, .inr (8, [.ref hw0_1, .ref hw0_2, .int w0.2.2.1, .int w0.2.2.2.1, .ref hw0_3, .ref hw0_4, .int w0.2.2.2.2.2.2.1, .int w0.2.2.2.2.2.2.2.1, .int w0.2.2.2.2.2.2.2.2.1, .ref hw0_5, .ref hw0_6, .ref hw0_7, .int w0.2.2.2.2.2.2.2.2.2.2.2.2.1, .ref hw0_8])), (hw0_1, .inl (G.2.1, 617, .inl w0.1)), (hw0_2, .inl (G.2.1, 2468, .inl w0.2.1)), (hw0_3, .inl (G.2.1, 30, .inl w0.2.2.2.2.1)), (hw0_4, .inl (G.2.1, 4000, .inl w0.2.2.2.2.2.1)), (hw0_5, .inl (G.2.1, 120, .inl w0.2.2.2.2.2.2.2.2.2.1)), (hw0_6, .inl (G.2.1, 64, .inl w0.2.2.2.2.2.2.2.2.2.2.1)), (hw0_7, .inl (G.2.2.1, 64, .inl w0.2.2.2.2.2.2.2.2.2.2.2.1)), (hw0_8, .inl (G.2.1, 64, .inl w0.2.2.2.2.2.2.2.2.2.2.2.2.2))] := by
  refine Ct.ofW (cc := cX11_copies) (maxL := 3) (ret := (some .int)) (own := RX11) (by decide) rfl rfl (Nat.le_of_ble_eq_true rfl) ?_
  intro p e s m args below meth c A hx hb hr hml hts hown hlocks hK hP hD hA hS ls hl
  have hl : lv_has ls 3 [(0, .ref hw0_0)] := hl
  generalize hQ : gMQ below G _ _ A args s = Q
  generalize hH : s.heap = H at hP ⊢
  have hS : va_S A s.heap H [] := by rw [← hH]; exact hS
  generalize ([] : List Loc) = locs at hS ⊢
  unfold f_X11_copies at hf
  have hL4 : ∀ (k4 : Nat) (v2 : Int32) (v1 : Int32), f_X11_copies_L4 w0  k4 v2 v1 = some r → ∀ (H : Heap) (locs : List Loc), va_P G.1 vwCl [(hw0_0, .inr (8, [.ref hw0_1, .ref hw0_2, .int w0.2.2.1, .int w0.2.2.2.1, .ref hw0_3, .ref hw0_4, .int w0.2.2.2.2.2.2.1, .int w0.2.2.2.2.2.2.2.1, .int w0.2.2.2.2.2.2.2.2.1, .ref hw0_5, .ref hw0_6, .ref hw0_7, .int w0.2.2.2.2.2.2.2.2.2.2.2.2.1, .ref hw0_8])), (hw0_1, .inl (G.2.1, 617, .inl w0.1)), (hw0_2, .inl (G.2.1, 2468, .inl w0.2.1)), (hw0_3, .inl (G.2.1, 30, .inl w0.2.2.2.2.1)), (hw0_4, .inl (G.2.1, 4000, .inl w0.2.2.2.2.2.1)), (hw0_5, .inl (G.2.1, 120, .inl w0.2.2.2.2.2.2.2.2.2.1)), (hw0_6, .inl (G.2.1, 64, .inl w0.2.2.2.2.2.2.2.2.2.2.1)), (hw0_7, .inl (G.2.2.1, 64, .inl w0.2.2.2.2.2.2.2.2.2.2.2.1)), (hw0_8, .inl (G.2.1, 64, .inl w0.2.2.2.2.2.2.2.2.2.2.2.2.2))] H → va_D A [(hw0_0, .inr (8, [.ref hw0_1, .ref hw0_2, .int w0.2.2.1, .int w0.2.2.2.1, .ref hw0_3, .ref hw0_4, .int w0.2.2.2.2.2.2.1, .int w0.2.2.2.2.2.2.2.1, .int w0.2.2.2.2.2.2.2.2.1, .ref hw0_5, .ref hw0_6, .ref hw0_7, .int w0.2.2.2.2.2.2.2.2.2.2.2.2.1, .ref hw0_8])), (hw0_1, .inl (G.2.1, 617, .inl w0.1)), (hw0_2, .inl (G.2.1, 2468, .inl w0.2.1)), (hw0_3, .inl (G.2.1, 30, .inl w0.2.2.2.2.1)), (hw0_4, .inl (G.2.1, 4000, .inl w0.2.2.2.2.2.1)), (hw0_5, .inl (G.2.1, 120, .inl w0.2.2.2.2.2.2.2.2.2.1)), (hw0_6, .inl (G.2.1, 64, .inl w0.2.2.2.2.2.2.2.2.2.2.1)), (hw0_7, .inl (G.2.2.1, 64, .inl w0.2.2.2.2.2.2.2.2.2.2.2.1)), (hw0_8, .inl (G.2.1, 64, .inl w0.2.2.2.2.2.2.2.2.2.2.2.2.2))] → va_S A s.heap H locs → ∀ (ls : Array Slot), lv_has ls 3 [(2, .int v2), (1, .int v1), (0, .ref hw0_0)] → W p l e (rm_X11_copies) s m args below meth c H locs 0 0 Q (F0 m 4 ls []) := by
    intro k4
    induction k4 with
    | zero =>
      intro v2 v1 hf
      rw [f_X11_copies_L4.eq_1] at hf; cases hf
    | succ k4 ih4 =>
      have hJ32 : ∀ (v2 : Int32) (s0 : Int32) (s1 : Int32), f_X11_copies_J32 w0 (f_X11_copies_L4 w0 k4) v2 s0 s1 = some r → ∀ (H : Heap) (locs : List Loc), va_P G.1 vwCl [(hw0_0, .inr (8, [.ref hw0_1, .ref hw0_2, .int w0.2.2.1, .int w0.2.2.2.1, .ref hw0_3, .ref hw0_4, .int w0.2.2.2.2.2.2.1, .int w0.2.2.2.2.2.2.2.1, .int w0.2.2.2.2.2.2.2.2.1, .ref hw0_5, .ref hw0_6, .ref hw0_7, .int w0.2.2.2.2.2.2.2.2.2.2.2.2.1, .ref hw0_8])), (hw0_1, .inl (G.2.1, 617, .inl w0.1)), (hw0_2, .inl (G.2.1, 2468, .inl w0.2.1)), (hw0_3, .inl (G.2.1, 30, .inl w0.2.2.2.2.1)), (hw0_4, .inl (G.2.1, 4000, .inl w0.2.2.2.2.2.1)), (hw0_5, .inl (G.2.1, 120, .inl w0.2.2.2.2.2.2.2.2.2.1)), (hw0_6, .inl (G.2.1, 64, .inl w0.2.2.2.2.2.2.2.2.2.2.1)), (hw0_7, .inl (G.2.2.1, 64, .inl w0.2.2.2.2.2.2.2.2.2.2.2.1)), (hw0_8, .inl (G.2.1, 64, .inl w0.2.2.2.2.2.2.2.2.2.2.2.2.2))] H → va_D A [(hw0_0, .inr (8, [.ref hw0_1, .ref hw0_2, .int w0.2.2.1, .int w0.2.2.2.1, .ref hw0_3, .ref hw0_4, .int w0.2.2.2.2.2.2.1, .int w0.2.2.2.2.2.2.2.1, .int w0.2.2.2.2.2.2.2.2.1, .ref hw0_5, .ref hw0_6, .ref hw0_7, .int w0.2.2.2.2.2.2.2.2.2.2.2.2.1, .ref hw0_8])), (hw0_1, .inl (G.2.1, 617, .inl w0.1)), (hw0_2, .inl (G.2.1, 2468, .inl w0.2.1)), (hw0_3, .inl (G.2.1, 30, .inl w0.2.2.2.2.1)), (hw0_4, .inl (G.2.1, 4000, .inl w0.2.2.2.2.2.1)), (hw0_5, .inl (G.2.1, 120, .inl w0.2.2.2.2.2.2.2.2.2.1)), (hw0_6, .inl (G.2.1, 64, .inl w0.2.2.2.2.2.2.2.2.2.2.1)), (hw0_7, .inl (G.2.2.1, 64, .inl w0.2.2.2.2.2.2.2.2.2.2.2.1)), (hw0_8, .inl (G.2.1, 64, .inl w0.2.2.2.2.2.2.2.2.2.2.2.2.2))] → va_S A s.heap H locs → ∀ (ls : Array Slot), lv_has ls 3 [(2, .int v2), (0, .ref hw0_0)] → W p l e (rm_X11_copies) s m args below meth c H locs 0 0 Q (F0 m 32 ls [.int s0, .int s1]) := by
        intro v2 s0 s1 hf H locs hP hD hS ls hl
        unfold f_X11_copies_J32 at hf
        refine lv_ior (pc := 32) hx hb dX11_copies_32 ?_
        refine lv_istore_n (pc := 33) (lv' := [(1, .int (s1 ||| s0)), (2, .int v2), (0, .ref hw0_0)]) hx hb dX11_copies_33 rfl hl (by decide) rfl (fun ls hl => ?_)
        refine lv_iinc (pc := 34) (v := (v2 + (1 : Int32))) (lv' := [(2, .int (v2 + (1 : Int32))), (1, .int (s1 ||| s0)), (0, .ref hw0_0)]) hx hb dX11_copies_34 hl (k := 1) rfl rfl (by decide) rfl (fun ls hl => ?_)
        refine lv_goto (pc := 37) (tgt := 4) hx hb dX11_copies_37 (by decide) ?_
        exact ih4 (v2 + (1 : Int32)) (s1 ||| s0) hf H locs hP hD hS ls (lv_sub hl [0, 1, 2] rfl)
      intro v2 v1 hf H locs hP hD hS ls hl
      rw [f_X11_copies_L4.eq_2] at hf
      refine lv_iload_n (pc := 4) hx hb dX11_copies_4 rfl (lv_at hl 0 rfl) ?_
      refine lv_aload_n (pc := 5) hx hb dX11_copies_5 rfl (lv_at hl 2 rfl) ?_
      refine va_get (pc := 6) (D := G.1) (ci := 8) (v := .ref hw0_1) (C := RX11) (T := TX11) (N := 14) hx hb hts inX11 hown hK.1 hP 0 rfl rfl 0 (by decide) (hts _ wd_880) (fun _ h9 => h9) rfl dX11_copies_6 ?_
      refine lv_sipush (pc := 9) (v := (132 : Int32)) hx hb dX11_copies_9 (by decide) ?_
      obtain ⟨hg, hf⟩ := gd_some hf
      refine va_iald (pc := 12) hx hb hK.1 hP 1 0 rfl rfl hg dX11_copies_12 ?_
      refine lv_icmp_ge (pc := 13) (tgt := 40) hx hb dX11_copies_13 (by decide) (fun hc => ?_) (fun hc => ?_)
      · have hf := br_y hc hf
        refine lv_iload_n (pc := 40) hx hb dX11_copies_40 rfl (lv_at hl 1 rfl) ?_
        have hf := Option.some.inj hf; subst hf
        rw [← hQ]
        exact g_iret hx hb hr hlocks hP hS dX11_copies_41
      · have hf := br_n hc hf
        refine lv_iload_n (pc := 16) hx hb dX11_copies_16 rfl (lv_at hl 1 rfl) ?_
        refine lv_aload_n (pc := 17) hx hb dX11_copies_17 rfl (lv_at hl 2 rfl) ?_
        refine lv_iload_n (pc := 18) hx hb dX11_copies_18 rfl (lv_at hl 0 rfl) ?_
        obtain ⟨x1, hcx1, hf⟩ := bn_some hf
        refine g_callV0 (pc := 19) (rest := [.int v1]) hx hb hml hown hts hK (c_X11_isCopy l G hw0_0 hw0_1 hw0_2 hw0_3 hw0_4 hw0_5 hw0_6 hw0_7 hw0_8 w0 v2 hcx1) wd_1022 wd_10 wd_1019 wd_1021 ws_24 hd_X11_isCopy ⟨rfl, rfl, Nat.le_of_ble_eq_true rfl, Nat.le_of_ble_eq_true rfl⟩ hP hD hS hA [0, 1, 2, 3, 4, 5, 6, 7, 8] rfl rfl 8 0 rfl rfl rfl rfl hl.1 rfl (Nat.le_of_ble_eq_true rfl) dX11_copies_19 ⟨Nat.zero_le _, Nat.zero_le _⟩ (fun H locs hP hS => ?_)
        refine lv_if_eq (pc := 22) (tgt := 31) hx hb dX11_copies_22 (by decide) (fun hc => ?_) (fun hc => ?_)
        · have hf := br_y hc hf
          refine lv_iconst (pc := 31) (v := (0 : Int32)) hx hb dX11_copies_31 (by decide) ?_
          exact hJ32 v2 (0 : Int32) v1 hf H locs hP hD hS ls (lv_sub hl [0, 2] rfl)
        · have hf := br_n hc hf
          refine lv_iconst (pc := 25) (v := (1 : Int32)) hx hb dX11_copies_25 (by decide) ?_
          refine lv_iload_n (pc := 26) hx hb dX11_copies_26 rfl (lv_at hl 0 rfl) ?_
          refine lv_ishl (pc := 27) hx hb dX11_copies_27 ?_
          refine lv_goto (pc := 28) (tgt := 32) hx hb dX11_copies_28 (by decide) ?_
          exact hJ32 v2 ((1 : Int32) <<< (v2 &&& 31)) v1 hf H locs hP hD hS ls (lv_sub hl [0, 2] rfl)
  refine lv_iconst (pc := 0) (v := (0 : Int32)) hx hb dX11_copies_0 (by decide) ?_
  refine lv_istore_n (pc := 1) (lv' := [(1, .int (0 : Int32)), (0, .ref hw0_0)]) hx hb dX11_copies_1 rfl hl (by decide) rfl (fun ls hl => ?_)
  refine lv_iconst (pc := 2) (v := (0 : Int32)) hx hb dX11_copies_2 (by decide) ?_
  refine lv_istore_n (pc := 3) (lv' := [(2, .int (0 : Int32)), (1, .int (0 : Int32)), (0, .ref hw0_0)]) hx hb dX11_copies_3 rfl hl (by decide) rfl (fun ls hl => ?_)
  exact hL4 FUEL (0 : Int32) (0 : Int32) hf H locs hP hD hS ls (lv_sub hl [0, 1, 2] rfl)
theorem hd_X11_others : yX11_others.cls ≠ "java/lang/invoke/MethodHandle" ∧ yX11_others.cls ≠ "java/lang/invoke/VarHandle" ∧ (parseMethodDescriptor yX11_others.desc).map (fun d => d.parameters.length) = some 2 := by decide +kernel
abbrev rm_X11_others : Room := { frames := 3, cells := 0, slots := 0, locals := 65 }
noncomputable def f_X11_others_J54 (w0 : TModel) (p1 : Int32) (p2 : Int32) (rec5 : Int32 → Int32 → Option Int32) (v4 : Int32) (s0 : Int32) (s1 : Int32) : Option Int32 :=
  rec5 (v4 + (1 : Int32)) (s1 + s0)
noncomputable def f_X11_others_J53 (w0 : TModel) (p1 : Int32) (p2 : Int32) (rec5 : Int32 → Int32 → Option Int32) (v4 : Int32) (s0 : Int32) : Option Int32 :=
  f_X11_others_J54 w0 p1 p2 rec5 v4 (0 : Int32) s0
noncomputable def f_X11_others_J49 (w0 : TModel) (p1 : Int32) (p2 : Int32) (rec5 : Int32 → Int32 → Option Int32) (v4 : Int32) (s0 : Int32) : Option Int32 :=
  f_X11_others_J54 w0 p1 p2 rec5 v4 (1 : Int32) s0
noncomputable def f_X11_others_L5 (w0 : TModel) (p1 : Int32) (p2 : Int32)  : Nat → Int32 → Int32 → Option Int32
  | 0, _, _ => none
  | k5 + 1, v4, v3 =>
    gd (vp_in (132 : Int32) 617) (br ((w0.1 (132 : Int32).toNatClampNeg) ≤ v4) (some v3) (br (((p2 >>> (v4 &&& 31)) &&& (1 : Int32)) = (1 : Int32)) ((f_X11_precedes w0 v4 p1).bind (fun x1 => br (x1 = 0) ((f_X11_precedes w0 p1 v4).bind (fun x2 => br (x2 = 0) (f_X11_others_J53 w0 p1 p2 (f_X11_others_L5 w0 p1 p2  k5) v4 v3) (f_X11_others_J49 w0 p1 p2 (f_X11_others_L5 w0 p1 p2  k5) v4 v3))) (f_X11_others_J49 w0 p1 p2 (f_X11_others_L5 w0 p1 p2  k5) v4 v3))) (f_X11_others_J53 w0 p1 p2 (f_X11_others_L5 w0 p1 p2  k5) v4 v3)))
noncomputable def f_X11_others (w0 : TModel) (p1 : Int32) (p2 : Int32) : Option Int32 :=
  f_X11_others_L5 w0 p1 p2 FUEL (0 : Int32) (0 : Int32)
set_option maxHeartbeats 4000000 in
set_option maxRecDepth 100000 in
theorem c_X11_others (l : Launch) (G : GT) (hw0_0 hw0_1 hw0_2 hw0_3 hw0_4 hw0_5 hw0_6 hw0_7 hw0_8 : Nat) (w0 : TModel) (p1 : Int32) (p2 : Int32) {r : Int32} (hf : f_X11_others w0 p1 p2 = some r) : Ct l yX11_others (Cond.code yX11_others cX11_others 5 (some .int) :: lw_g) rm_X11_others G [.ref hw0_0, .int p1, .int p2] [(hw0_0, .inr (8, [.ref hw0_1, .ref hw0_2, .int w0.2.2.1, .int w0.2.2.2.1, .ref hw0_3, .ref hw0_4, .int w0.2.2.2.2.2.2.1, .int w0.2.2.2.2.2.2.2.1, .int w0.2.2.2.2.2.2.2.2.1, .ref hw0_5, .ref hw0_6, .ref hw0_7, .int w0.2.2.2.2.2.2.2.2.2.2.2.2.1, .ref hw0_8])), (hw0_1, .inl (G.2.1, 617, .inl w0.1)), (hw0_2, .inl (G.2.1, 2468, .inl w0.2.1)), (hw0_3, .inl (G.2.1, 30, .inl w0.2.2.2.2.1)), (hw0_4, .inl (G.2.1, 4000, .inl w0.2.2.2.2.2.1)), (hw0_5, .inl (G.2.1, 120, .inl w0.2.2.2.2.2.2.2.2.2.1)), (hw0_6, .inl (G.2.1, 64, .inl w0.2.2.2.2.2.2.2.2.2.2.1)), (hw0_7, .inl (G.2.2.1, 64, .inl w0.2.2.2.2.2.2.2.2.2.2.2.1)), (hw0_8, .inl (G.2.1, 64, .inl w0.2.2.2.2.2.2.2.2.2.2.2.2.2))] (some (.int r)) [(hw0_0, .inr (8, [.ref hw0_1, .ref hw0_2, .int w0.2.2.1, .int w0.2.2.2.1, .ref hw0_3, .ref hw0_4, .int w0.2.2.2.2.2.2.1, .int w0.2.2.2.2.2.2.2.1, .int w0.2.2.2.2.2.2.2.2.1, .ref hw0_5, .ref hw0_6, .ref hw0_7, .int w0.2.2.2.2.2.2.2.2.2.2.2.2.1, .ref hw0_8])), (hw0_1, .inl (G.2.1, 617, .inl w0.1)), (hw0_2, .inl (G.2.1, 2468, .inl w0.2.1)), (hw0_3, .inl (G.2.1, 30, .inl w0.2.2.2.2.1)), (hw0_4, .inl (G.2.1, 4000, .inl w0.2.2.2.2.2.1)), (hw0_5, .inl (G.2.1, 120, .inl w0.2.2.2.2.2.2.2.2.2.1)), (hw0_6, .inl (G.2.1, 64, .inl w0.2.2.2.2.2.2.2.2.2.2.1)), (hw0_7, .inl (G.2.2.1, 64, .inl w0.2.2.2.2.2.2.2.2.2.2.2.1)), (hw0_8, .inl (G.2.1, 64, .inl w0.2.2.2.2.2.2.2.2.2.2.2.2.2))] := by
  refine Ct.ofW (cc := cX11_others) (maxL := 5) (ret := (some .int)) (own := RX11) (by decide) rfl rfl (Nat.le_of_ble_eq_true rfl) ?_
  intro p e s m args below meth c A hx hb hr hml hts hown hlocks hK hP hD hA hS ls hl
  have hl : lv_has ls 5 [(0, .ref hw0_0), (1, .int p1), (2, .int p2)] := hl
  generalize hQ : gMQ below G _ _ A args s = Q
  generalize hH : s.heap = H at hP ⊢
  have hS : va_S A s.heap H [] := by rw [← hH]; exact hS
  generalize ([] : List Loc) = locs at hS ⊢
  unfold f_X11_others at hf
  have hL5 : ∀ (k5 : Nat) (v4 : Int32) (v3 : Int32), f_X11_others_L5 w0 p1 p2  k5 v4 v3 = some r → ∀ (H : Heap) (locs : List Loc), va_P G.1 vwCl [(hw0_0, .inr (8, [.ref hw0_1, .ref hw0_2, .int w0.2.2.1, .int w0.2.2.2.1, .ref hw0_3, .ref hw0_4, .int w0.2.2.2.2.2.2.1, .int w0.2.2.2.2.2.2.2.1, .int w0.2.2.2.2.2.2.2.2.1, .ref hw0_5, .ref hw0_6, .ref hw0_7, .int w0.2.2.2.2.2.2.2.2.2.2.2.2.1, .ref hw0_8])), (hw0_1, .inl (G.2.1, 617, .inl w0.1)), (hw0_2, .inl (G.2.1, 2468, .inl w0.2.1)), (hw0_3, .inl (G.2.1, 30, .inl w0.2.2.2.2.1)), (hw0_4, .inl (G.2.1, 4000, .inl w0.2.2.2.2.2.1)), (hw0_5, .inl (G.2.1, 120, .inl w0.2.2.2.2.2.2.2.2.2.1)), (hw0_6, .inl (G.2.1, 64, .inl w0.2.2.2.2.2.2.2.2.2.2.1)), (hw0_7, .inl (G.2.2.1, 64, .inl w0.2.2.2.2.2.2.2.2.2.2.2.1)), (hw0_8, .inl (G.2.1, 64, .inl w0.2.2.2.2.2.2.2.2.2.2.2.2.2))] H → va_D A [(hw0_0, .inr (8, [.ref hw0_1, .ref hw0_2, .int w0.2.2.1, .int w0.2.2.2.1, .ref hw0_3, .ref hw0_4, .int w0.2.2.2.2.2.2.1, .int w0.2.2.2.2.2.2.2.1, .int w0.2.2.2.2.2.2.2.2.1, .ref hw0_5, .ref hw0_6, .ref hw0_7, .int w0.2.2.2.2.2.2.2.2.2.2.2.2.1, .ref hw0_8])), (hw0_1, .inl (G.2.1, 617, .inl w0.1)), (hw0_2, .inl (G.2.1, 2468, .inl w0.2.1)), (hw0_3, .inl (G.2.1, 30, .inl w0.2.2.2.2.1)), (hw0_4, .inl (G.2.1, 4000, .inl w0.2.2.2.2.2.1)), (hw0_5, .inl (G.2.1, 120, .inl w0.2.2.2.2.2.2.2.2.2.1)), (hw0_6, .inl (G.2.1, 64, .inl w0.2.2.2.2.2.2.2.2.2.2.1)), (hw0_7, .inl (G.2.2.1, 64, .inl w0.2.2.2.2.2.2.2.2.2.2.2.1)), (hw0_8, .inl (G.2.1, 64, .inl w0.2.2.2.2.2.2.2.2.2.2.2.2.2))] → va_S A s.heap H locs → ∀ (ls : Array Slot), lv_has ls 5 [(4, .int v4), (3, .int v3), (0, .ref hw0_0), (1, .int p1), (2, .int p2)] → W p l e (rm_X11_others) s m args below meth c H locs 0 0 Q (F0 m 5 ls []) := by
    intro k5
    induction k5 with
    | zero =>
      intro v4 v3 hf
      rw [f_X11_others_L5.eq_1] at hf; cases hf
    | succ k5 ih5 =>
      have hJ54 : ∀ (v4 : Int32) (s0 : Int32) (s1 : Int32), f_X11_others_J54 w0 p1 p2 (f_X11_others_L5 w0 p1 p2 k5) v4 s0 s1 = some r → ∀ (H : Heap) (locs : List Loc), va_P G.1 vwCl [(hw0_0, .inr (8, [.ref hw0_1, .ref hw0_2, .int w0.2.2.1, .int w0.2.2.2.1, .ref hw0_3, .ref hw0_4, .int w0.2.2.2.2.2.2.1, .int w0.2.2.2.2.2.2.2.1, .int w0.2.2.2.2.2.2.2.2.1, .ref hw0_5, .ref hw0_6, .ref hw0_7, .int w0.2.2.2.2.2.2.2.2.2.2.2.2.1, .ref hw0_8])), (hw0_1, .inl (G.2.1, 617, .inl w0.1)), (hw0_2, .inl (G.2.1, 2468, .inl w0.2.1)), (hw0_3, .inl (G.2.1, 30, .inl w0.2.2.2.2.1)), (hw0_4, .inl (G.2.1, 4000, .inl w0.2.2.2.2.2.1)), (hw0_5, .inl (G.2.1, 120, .inl w0.2.2.2.2.2.2.2.2.2.1)), (hw0_6, .inl (G.2.1, 64, .inl w0.2.2.2.2.2.2.2.2.2.2.1)), (hw0_7, .inl (G.2.2.1, 64, .inl w0.2.2.2.2.2.2.2.2.2.2.2.1)), (hw0_8, .inl (G.2.1, 64, .inl w0.2.2.2.2.2.2.2.2.2.2.2.2.2))] H → va_D A [(hw0_0, .inr (8, [.ref hw0_1, .ref hw0_2, .int w0.2.2.1, .int w0.2.2.2.1, .ref hw0_3, .ref hw0_4, .int w0.2.2.2.2.2.2.1, .int w0.2.2.2.2.2.2.2.1, .int w0.2.2.2.2.2.2.2.2.1, .ref hw0_5, .ref hw0_6, .ref hw0_7, .int w0.2.2.2.2.2.2.2.2.2.2.2.2.1, .ref hw0_8])), (hw0_1, .inl (G.2.1, 617, .inl w0.1)), (hw0_2, .inl (G.2.1, 2468, .inl w0.2.1)), (hw0_3, .inl (G.2.1, 30, .inl w0.2.2.2.2.1)), (hw0_4, .inl (G.2.1, 4000, .inl w0.2.2.2.2.2.1)), (hw0_5, .inl (G.2.1, 120, .inl w0.2.2.2.2.2.2.2.2.2.1)), (hw0_6, .inl (G.2.1, 64, .inl w0.2.2.2.2.2.2.2.2.2.2.1)), (hw0_7, .inl (G.2.2.1, 64, .inl w0.2.2.2.2.2.2.2.2.2.2.2.1)), (hw0_8, .inl (G.2.1, 64, .inl w0.2.2.2.2.2.2.2.2.2.2.2.2.2))] → va_S A s.heap H locs → ∀ (ls : Array Slot), lv_has ls 5 [(4, .int v4), (0, .ref hw0_0), (1, .int p1), (2, .int p2)] → W p l e (rm_X11_others) s m args below meth c H locs 0 0 Q (F0 m 54 ls [.int s0, .int s1]) := by
        intro v4 s0 s1 hf H locs hP hD hS ls hl
        unfold f_X11_others_J54 at hf
        refine lv_iadd (pc := 54) hx hb dX11_others_54 ?_
        refine lv_istore_n (pc := 55) (lv' := [(3, .int (s1 + s0)), (4, .int v4), (0, .ref hw0_0), (1, .int p1), (2, .int p2)]) hx hb dX11_others_55 rfl hl (by decide) rfl (fun ls hl => ?_)
        refine lv_iinc (pc := 56) (v := (v4 + (1 : Int32))) (lv' := [(4, .int (v4 + (1 : Int32))), (3, .int (s1 + s0)), (0, .ref hw0_0), (1, .int p1), (2, .int p2)]) hx hb dX11_others_56 hl (k := 1) rfl rfl (by decide) rfl (fun ls hl => ?_)
        refine lv_goto (pc := 59) (tgt := 5) hx hb dX11_others_59 (by decide) ?_
        exact ih5 (v4 + (1 : Int32)) (s1 + s0) hf H locs hP hD hS ls (lv_sub hl [0, 1, 2, 3, 4] rfl)
      have hJ53 : ∀ (v4 : Int32) (s0 : Int32), f_X11_others_J53 w0 p1 p2 (f_X11_others_L5 w0 p1 p2 k5) v4 s0 = some r → ∀ (H : Heap) (locs : List Loc), va_P G.1 vwCl [(hw0_0, .inr (8, [.ref hw0_1, .ref hw0_2, .int w0.2.2.1, .int w0.2.2.2.1, .ref hw0_3, .ref hw0_4, .int w0.2.2.2.2.2.2.1, .int w0.2.2.2.2.2.2.2.1, .int w0.2.2.2.2.2.2.2.2.1, .ref hw0_5, .ref hw0_6, .ref hw0_7, .int w0.2.2.2.2.2.2.2.2.2.2.2.2.1, .ref hw0_8])), (hw0_1, .inl (G.2.1, 617, .inl w0.1)), (hw0_2, .inl (G.2.1, 2468, .inl w0.2.1)), (hw0_3, .inl (G.2.1, 30, .inl w0.2.2.2.2.1)), (hw0_4, .inl (G.2.1, 4000, .inl w0.2.2.2.2.2.1)), (hw0_5, .inl (G.2.1, 120, .inl w0.2.2.2.2.2.2.2.2.2.1)), (hw0_6, .inl (G.2.1, 64, .inl w0.2.2.2.2.2.2.2.2.2.2.1)), (hw0_7, .inl (G.2.2.1, 64, .inl w0.2.2.2.2.2.2.2.2.2.2.2.1)), (hw0_8, .inl (G.2.1, 64, .inl w0.2.2.2.2.2.2.2.2.2.2.2.2.2))] H → va_D A [(hw0_0, .inr (8, [.ref hw0_1, .ref hw0_2, .int w0.2.2.1, .int w0.2.2.2.1, .ref hw0_3, .ref hw0_4, .int w0.2.2.2.2.2.2.1, .int w0.2.2.2.2.2.2.2.1, .int w0.2.2.2.2.2.2.2.2.1, .ref hw0_5, .ref hw0_6, .ref hw0_7, .int w0.2.2.2.2.2.2.2.2.2.2.2.2.1, .ref hw0_8])), (hw0_1, .inl (G.2.1, 617, .inl w0.1)), (hw0_2, .inl (G.2.1, 2468, .inl w0.2.1)), (hw0_3, .inl (G.2.1, 30, .inl w0.2.2.2.2.1)), (hw0_4, .inl (G.2.1, 4000, .inl w0.2.2.2.2.2.1)), (hw0_5, .inl (G.2.1, 120, .inl w0.2.2.2.2.2.2.2.2.2.1)), (hw0_6, .inl (G.2.1, 64, .inl w0.2.2.2.2.2.2.2.2.2.2.1)), (hw0_7, .inl (G.2.2.1, 64, .inl w0.2.2.2.2.2.2.2.2.2.2.2.1)), (hw0_8, .inl (G.2.1, 64, .inl w0.2.2.2.2.2.2.2.2.2.2.2.2.2))] → va_S A s.heap H locs → ∀ (ls : Array Slot), lv_has ls 5 [(4, .int v4), (0, .ref hw0_0), (1, .int p1), (2, .int p2)] → W p l e (rm_X11_others) s m args below meth c H locs 0 0 Q (F0 m 53 ls [.int s0]) := by
        intro v4 s0 hf H locs hP hD hS ls hl
        unfold f_X11_others_J53 at hf
        refine lv_iconst (pc := 53) (v := (0 : Int32)) hx hb dX11_others_53 (by decide) ?_
        exact hJ54 v4 (0 : Int32) s0 hf H locs hP hD hS ls (lv_sub hl [0, 1, 2, 3] rfl)
      have hJ49 : ∀ (v4 : Int32) (s0 : Int32), f_X11_others_J49 w0 p1 p2 (f_X11_others_L5 w0 p1 p2 k5) v4 s0 = some r → ∀ (H : Heap) (locs : List Loc), va_P G.1 vwCl [(hw0_0, .inr (8, [.ref hw0_1, .ref hw0_2, .int w0.2.2.1, .int w0.2.2.2.1, .ref hw0_3, .ref hw0_4, .int w0.2.2.2.2.2.2.1, .int w0.2.2.2.2.2.2.2.1, .int w0.2.2.2.2.2.2.2.2.1, .ref hw0_5, .ref hw0_6, .ref hw0_7, .int w0.2.2.2.2.2.2.2.2.2.2.2.2.1, .ref hw0_8])), (hw0_1, .inl (G.2.1, 617, .inl w0.1)), (hw0_2, .inl (G.2.1, 2468, .inl w0.2.1)), (hw0_3, .inl (G.2.1, 30, .inl w0.2.2.2.2.1)), (hw0_4, .inl (G.2.1, 4000, .inl w0.2.2.2.2.2.1)), (hw0_5, .inl (G.2.1, 120, .inl w0.2.2.2.2.2.2.2.2.2.1)), (hw0_6, .inl (G.2.1, 64, .inl w0.2.2.2.2.2.2.2.2.2.2.1)), (hw0_7, .inl (G.2.2.1, 64, .inl w0.2.2.2.2.2.2.2.2.2.2.2.1)), (hw0_8, .inl (G.2.1, 64, .inl w0.2.2.2.2.2.2.2.2.2.2.2.2.2))] H → va_D A [(hw0_0, .inr (8, [.ref hw0_1, .ref hw0_2, .int w0.2.2.1, .int w0.2.2.2.1, .ref hw0_3, .ref hw0_4, .int w0.2.2.2.2.2.2.1, .int w0.2.2.2.2.2.2.2.1, .int w0.2.2.2.2.2.2.2.2.1, .ref hw0_5, .ref hw0_6, .ref hw0_7, .int w0.2.2.2.2.2.2.2.2.2.2.2.2.1, .ref hw0_8])), (hw0_1, .inl (G.2.1, 617, .inl w0.1)), (hw0_2, .inl (G.2.1, 2468, .inl w0.2.1)), (hw0_3, .inl (G.2.1, 30, .inl w0.2.2.2.2.1)), (hw0_4, .inl (G.2.1, 4000, .inl w0.2.2.2.2.2.1)), (hw0_5, .inl (G.2.1, 120, .inl w0.2.2.2.2.2.2.2.2.2.1)), (hw0_6, .inl (G.2.1, 64, .inl w0.2.2.2.2.2.2.2.2.2.2.1)), (hw0_7, .inl (G.2.2.1, 64, .inl w0.2.2.2.2.2.2.2.2.2.2.2.1)), (hw0_8, .inl (G.2.1, 64, .inl w0.2.2.2.2.2.2.2.2.2.2.2.2.2))] → va_S A s.heap H locs → ∀ (ls : Array Slot), lv_has ls 5 [(4, .int v4), (0, .ref hw0_0), (1, .int p1), (2, .int p2)] → W p l e (rm_X11_others) s m args below meth c H locs 0 0 Q (F0 m 49 ls [.int s0]) := by
        intro v4 s0 hf H locs hP hD hS ls hl
        unfold f_X11_others_J49 at hf
        refine lv_iconst (pc := 49) (v := (1 : Int32)) hx hb dX11_others_49 (by decide) ?_
        refine lv_goto (pc := 50) (tgt := 54) hx hb dX11_others_50 (by decide) ?_
        exact hJ54 v4 (1 : Int32) s0 hf H locs hP hD hS ls (lv_sub hl [0, 1, 2, 3] rfl)
      intro v4 v3 hf H locs hP hD hS ls hl
      rw [f_X11_others_L5.eq_2] at hf
      refine lv_iload (pc := 5) hx hb dX11_others_5 (lv_at hl 0 rfl) ?_
      refine lv_aload_n (pc := 7) hx hb dX11_others_7 rfl (lv_at hl 2 rfl) ?_
      refine va_get (pc := 8) (D := G.1) (ci := 8) (v := .ref hw0_1) (C := RX11) (T := TX11) (N := 14) hx hb hts inX11 hown hK.1 hP 0 rfl rfl 0 (by decide) (hts _ wd_880) (fun _ h9 => h9) rfl dX11_others_8 ?_
      refine lv_sipush (pc := 11) (v := (132 : Int32)) hx hb dX11_others_11 (by decide) ?_
      obtain ⟨hg, hf⟩ := gd_some hf
      refine va_iald (pc := 14) hx hb hK.1 hP 1 0 rfl rfl hg dX11_others_14 ?_
      refine lv_icmp_ge (pc := 15) (tgt := 62) hx hb dX11_others_15 (by decide) (fun hc => ?_) (fun hc => ?_)
      · have hf := br_y hc hf
        refine lv_iload_n (pc := 62) hx hb dX11_others_62 rfl (lv_at hl 1 rfl) ?_
        have hf := Option.some.inj hf; subst hf
        rw [← hQ]
        exact g_iret hx hb hr hlocks hP hS dX11_others_63
      · have hf := br_n hc hf
        refine lv_iload_n (pc := 18) hx hb dX11_others_18 rfl (lv_at hl 1 rfl) ?_
        refine lv_iload_n (pc := 19) hx hb dX11_others_19 rfl (lv_at hl 4 rfl) ?_
        refine lv_iload (pc := 20) hx hb dX11_others_20 (lv_at hl 0 rfl) ?_
        refine lv_ishr (pc := 22) hx hb dX11_others_22 ?_
        refine lv_iconst (pc := 23) (v := (1 : Int32)) hx hb dX11_others_23 (by decide) ?_
        refine lv_iand (pc := 24) hx hb dX11_others_24 ?_
        refine lv_iconst (pc := 25) (v := (1 : Int32)) hx hb dX11_others_25 (by decide) ?_
        refine lv_icmp_ne (pc := 26) (tgt := 53) hx hb dX11_others_26 (by decide) (fun hc => ?_) (fun hc => ?_)
        · have hf := br_n hc hf
          exact hJ53 v4 v3 hf H locs hP hD hS ls (lv_sub hl [0, 2, 3, 4] rfl)
        · have hf := br_y hc hf
          refine lv_aload_n (pc := 29) hx hb dX11_others_29 rfl (lv_at hl 2 rfl) ?_
          refine lv_iload (pc := 30) hx hb dX11_others_30 (lv_at hl 0 rfl) ?_
          refine lv_iload_n (pc := 32) hx hb dX11_others_32 rfl (lv_at hl 3 rfl) ?_
          obtain ⟨x1, hcx1, hf⟩ := bn_some hf
          refine g_callV0 (pc := 33) (rest := [.int v3]) hx hb hml hown hts hK (c_X11_precedes l G hw0_0 hw0_1 hw0_2 hw0_3 hw0_4 hw0_5 hw0_6 hw0_7 hw0_8 w0 v4 p1 hcx1) wd_1018 wd_10 wd_1015 wd_1017 ws_23 hd_X11_precedes ⟨rfl, rfl, Nat.le_of_ble_eq_true rfl, Nat.le_of_ble_eq_true rfl⟩ hP hD hS hA [0, 1, 2, 3, 4, 5, 6, 7, 8] rfl rfl 8 0 rfl rfl rfl rfl hl.1 rfl (Nat.le_of_ble_eq_true rfl) dX11_others_33 ⟨Nat.zero_le _, Nat.zero_le _⟩ (fun H locs hP hS => ?_)
          refine lv_if_ne (pc := 36) (tgt := 49) hx hb dX11_others_36 (by decide) (fun hc => ?_) (fun hc => ?_)
          · have hf := br_n hc hf
            exact hJ49 v4 v3 hf H locs hP hD hS ls (lv_sub hl [0, 2, 3, 4] rfl)
          · have hf := br_y hc hf
            refine lv_aload_n (pc := 39) hx hb dX11_others_39 rfl (lv_at hl 2 rfl) ?_
            refine lv_iload_n (pc := 40) hx hb dX11_others_40 rfl (lv_at hl 3 rfl) ?_
            refine lv_iload (pc := 41) hx hb dX11_others_41 (lv_at hl 0 rfl) ?_
            obtain ⟨x2, hcx2, hf⟩ := bn_some hf
            refine g_callV0 (pc := 43) (rest := [.int v3]) hx hb hml hown hts hK (c_X11_precedes l G hw0_0 hw0_1 hw0_2 hw0_3 hw0_4 hw0_5 hw0_6 hw0_7 hw0_8 w0 p1 v4 hcx2) wd_1018 wd_10 wd_1015 wd_1017 ws_23 hd_X11_precedes ⟨rfl, rfl, Nat.le_of_ble_eq_true rfl, Nat.le_of_ble_eq_true rfl⟩ hP hD hS hA [0, 1, 2, 3, 4, 5, 6, 7, 8] rfl rfl 8 0 rfl rfl rfl rfl hl.1 rfl (Nat.le_of_ble_eq_true rfl) dX11_others_43 ⟨Nat.zero_le _, Nat.zero_le _⟩ (fun H locs hP hS => ?_)
            refine lv_if_eq (pc := 46) (tgt := 53) hx hb dX11_others_46 (by decide) (fun hc => ?_) (fun hc => ?_)
            · have hf := br_y hc hf
              exact hJ53 v4 v3 hf H locs hP hD hS ls (lv_sub hl [0, 2, 3, 4] rfl)
            · have hf := br_n hc hf
              exact hJ49 v4 v3 hf H locs hP hD hS ls (lv_sub hl [0, 2, 3, 4] rfl)
  refine lv_iconst (pc := 0) (v := (0 : Int32)) hx hb dX11_others_0 (by decide) ?_
  refine lv_istore_n (pc := 1) (lv' := [(3, .int (0 : Int32)), (0, .ref hw0_0), (1, .int p1), (2, .int p2)]) hx hb dX11_others_1 rfl hl (by decide) rfl (fun ls hl => ?_)
  refine lv_iconst (pc := 2) (v := (0 : Int32)) hx hb dX11_others_2 (by decide) ?_
  refine lv_istore (pc := 3) (lv' := [(4, .int (0 : Int32)), (3, .int (0 : Int32)), (0, .ref hw0_0), (1, .int p1), (2, .int p2)]) hx hb dX11_others_3 hl (by decide) rfl (fun ls hl => ?_)
  exact hL5 FUEL (0 : Int32) (0 : Int32) hf H locs hP hD hS ls (lv_sub hl [0, 1, 2, 3, 4] rfl)
theorem hd_X11_victim : yX11_victim.cls ≠ "java/lang/invoke/MethodHandle" ∧ yX11_victim.cls ≠ "java/lang/invoke/VarHandle" ∧ (parseMethodDescriptor yX11_victim.desc).map (fun d => d.parameters.length) = some 2 := by decide +kernel
abbrev rm_X11_victim : Room := { frames := 4, cells := 0, slots := 0, locals := 89 }
noncomputable def f_X11_victim_J83 (w0 : TModel) (p1 : Int32) (p2 : Int32) (rec8 : Int32 → Int32 → Int32 → Option Int32) (v5 : Int32) (v4 : Int32) (v3 : Int32) : Option Int32 :=
  rec8 (v5 + (1 : Int32)) v4 v3
noncomputable def f_X11_victim_J76 (w0 : TModel) (p1 : Int32) (p2 : Int32) (rec8 : Int32 → Int32 → Int32 → Option Int32) (v6 : Int32) (v5 : Int32) : Option Int32 :=
  f_X11_victim_J83 w0 p1 p2 rec8 v5 v6 v5
noncomputable def f_X11_victim_J62 (w0 : TModel) (p1 : Int32) (p2 : Int32) (rec8 : Int32 → Int32 → Int32 → Option Int32) (v5 : Int32) (v4 : Int32) (v3 : Int32) (s0 : Int32) : Option Int32 :=
  br (v3 = (-1 : Int32)) (f_X11_victim_J76 w0 p1 p2 rec8 s0 v5) (br (v4 ≤ s0) (f_X11_victim_J83 w0 p1 p2 rec8 v5 v4 v3) (f_X11_victim_J76 w0 p1 p2 rec8 s0 v5))
noncomputable def f_X11_victim_L8 (w0 : TModel) (p1 : Int32) (p2 : Int32)  : Nat → Int32 → Int32 → Int32 → Option Int32
  | 0, _, _, _ => none
  | k8 + 1, v5, v4, v3 =>
    gd (vp_in (132 : Int32) 617) (br ((w0.1 (132 : Int32).toNatClampNeg) ≤ v5) (some v3) (br (((p1 >>> (v5 &&& 31)) &&& (1 : Int32)) = (1 : Int32)) (br (p2 = 0) (f_X11_victim_J62 w0 p1 p2 (f_X11_victim_L8 w0 p1 p2  k8) v5 v4 v3 (0 : Int32)) (br (p2 = (1 : Int32)) ((f_X11_of w0 v5 (3 : Int32)).bind (fun x2 => f_X11_victim_J62 w0 p1 p2 (f_X11_victim_L8 w0 p1 p2  k8) v5 v4 v3 x2)) ((f_X11_others w0 v5 p1).bind (fun x1 => f_X11_victim_J62 w0 p1 p2 (f_X11_victim_L8 w0 p1 p2  k8) v5 v4 v3 (-x1))))) (f_X11_victim_J83 w0 p1 p2 (f_X11_victim_L8 w0 p1 p2  k8) v5 v4 v3)))
noncomputable def f_X11_victim (w0 : TModel) (p1 : Int32) (p2 : Int32) : Option Int32 :=
  f_X11_victim_L8 w0 p1 p2 FUEL (0 : Int32) (0 : Int32) (-1 : Int32)
set_option maxHeartbeats 4000000 in
set_option maxRecDepth 100000 in
theorem c_X11_victim (l : Launch) (G : GT) (hw0_0 hw0_1 hw0_2 hw0_3 hw0_4 hw0_5 hw0_6 hw0_7 hw0_8 : Nat) (w0 : TModel) (p1 : Int32) (p2 : Int32) {r : Int32} (hf : f_X11_victim w0 p1 p2 = some r) : Ct l yX11_victim (Cond.code yX11_victim cX11_victim 7 (some .int) :: lw_g) rm_X11_victim G [.ref hw0_0, .int p1, .int p2] [(hw0_0, .inr (8, [.ref hw0_1, .ref hw0_2, .int w0.2.2.1, .int w0.2.2.2.1, .ref hw0_3, .ref hw0_4, .int w0.2.2.2.2.2.2.1, .int w0.2.2.2.2.2.2.2.1, .int w0.2.2.2.2.2.2.2.2.1, .ref hw0_5, .ref hw0_6, .ref hw0_7, .int w0.2.2.2.2.2.2.2.2.2.2.2.2.1, .ref hw0_8])), (hw0_1, .inl (G.2.1, 617, .inl w0.1)), (hw0_2, .inl (G.2.1, 2468, .inl w0.2.1)), (hw0_3, .inl (G.2.1, 30, .inl w0.2.2.2.2.1)), (hw0_4, .inl (G.2.1, 4000, .inl w0.2.2.2.2.2.1)), (hw0_5, .inl (G.2.1, 120, .inl w0.2.2.2.2.2.2.2.2.2.1)), (hw0_6, .inl (G.2.1, 64, .inl w0.2.2.2.2.2.2.2.2.2.2.1)), (hw0_7, .inl (G.2.2.1, 64, .inl w0.2.2.2.2.2.2.2.2.2.2.2.1)), (hw0_8, .inl (G.2.1, 64, .inl w0.2.2.2.2.2.2.2.2.2.2.2.2.2))] (some (.int r)) [(hw0_0, .inr (8, [.ref hw0_1, .ref hw0_2, .int w0.2.2.1, .int w0.2.2.2.1, .ref hw0_3, .ref hw0_4, .int w0.2.2.2.2.2.2.1, .int w0.2.2.2.2.2.2.2.1, .int w0.2.2.2.2.2.2.2.2.1, .ref hw0_5, .ref hw0_6, .ref hw0_7, .int w0.2.2.2.2.2.2.2.2.2.2.2.2.1, .ref hw0_8])), (hw0_1, .inl (G.2.1, 617, .inl w0.1)), (hw0_2, .inl (G.2.1, 2468, .inl w0.2.1)), (hw0_3, .inl (G.2.1, 30, .inl w0.2.2.2.2.1)), (hw0_4, .inl (G.2.1, 4000, .inl w0.2.2.2.2.2.1)), (hw0_5, .inl (G.2.1, 120, .inl w0.2.2.2.2.2.2.2.2.2.1)), (hw0_6, .inl (G.2.1, 64, .inl w0.2.2.2.2.2.2.2.2.2.2.1)), (hw0_7, .inl (G.2.2.1, 64, .inl w0.2.2.2.2.2.2.2.2.2.2.2.1)), (hw0_8, .inl (G.2.1, 64, .inl w0.2.2.2.2.2.2.2.2.2.2.2.2.2))] := by
  refine Ct.ofW (cc := cX11_victim) (maxL := 7) (ret := (some .int)) (own := RX11) (by decide) rfl rfl (Nat.le_of_ble_eq_true rfl) ?_
  intro p e s m args below meth c A hx hb hr hml hts hown hlocks hK hP hD hA hS ls hl
  have hl : lv_has ls 7 [(0, .ref hw0_0), (1, .int p1), (2, .int p2)] := hl
  generalize hQ : gMQ below G _ _ A args s = Q
  generalize hH : s.heap = H at hP ⊢
  have hS : va_S A s.heap H [] := by rw [← hH]; exact hS
  generalize ([] : List Loc) = locs at hS ⊢
  unfold f_X11_victim at hf
  have hL8 : ∀ (k8 : Nat) (v5 : Int32) (v4 : Int32) (v3 : Int32), f_X11_victim_L8 w0 p1 p2  k8 v5 v4 v3 = some r → ∀ (H : Heap) (locs : List Loc), va_P G.1 vwCl [(hw0_0, .inr (8, [.ref hw0_1, .ref hw0_2, .int w0.2.2.1, .int w0.2.2.2.1, .ref hw0_3, .ref hw0_4, .int w0.2.2.2.2.2.2.1, .int w0.2.2.2.2.2.2.2.1, .int w0.2.2.2.2.2.2.2.2.1, .ref hw0_5, .ref hw0_6, .ref hw0_7, .int w0.2.2.2.2.2.2.2.2.2.2.2.2.1, .ref hw0_8])), (hw0_1, .inl (G.2.1, 617, .inl w0.1)), (hw0_2, .inl (G.2.1, 2468, .inl w0.2.1)), (hw0_3, .inl (G.2.1, 30, .inl w0.2.2.2.2.1)), (hw0_4, .inl (G.2.1, 4000, .inl w0.2.2.2.2.2.1)), (hw0_5, .inl (G.2.1, 120, .inl w0.2.2.2.2.2.2.2.2.2.1)), (hw0_6, .inl (G.2.1, 64, .inl w0.2.2.2.2.2.2.2.2.2.2.1)), (hw0_7, .inl (G.2.2.1, 64, .inl w0.2.2.2.2.2.2.2.2.2.2.2.1)), (hw0_8, .inl (G.2.1, 64, .inl w0.2.2.2.2.2.2.2.2.2.2.2.2.2))] H → va_D A [(hw0_0, .inr (8, [.ref hw0_1, .ref hw0_2, .int w0.2.2.1, .int w0.2.2.2.1, .ref hw0_3, .ref hw0_4, .int w0.2.2.2.2.2.2.1, .int w0.2.2.2.2.2.2.2.1, .int w0.2.2.2.2.2.2.2.2.1, .ref hw0_5, .ref hw0_6, .ref hw0_7, .int w0.2.2.2.2.2.2.2.2.2.2.2.2.1, .ref hw0_8])), (hw0_1, .inl (G.2.1, 617, .inl w0.1)), (hw0_2, .inl (G.2.1, 2468, .inl w0.2.1)), (hw0_3, .inl (G.2.1, 30, .inl w0.2.2.2.2.1)), (hw0_4, .inl (G.2.1, 4000, .inl w0.2.2.2.2.2.1)), (hw0_5, .inl (G.2.1, 120, .inl w0.2.2.2.2.2.2.2.2.2.1)), (hw0_6, .inl (G.2.1, 64, .inl w0.2.2.2.2.2.2.2.2.2.2.1)), (hw0_7, .inl (G.2.2.1, 64, .inl w0.2.2.2.2.2.2.2.2.2.2.2.1)), (hw0_8, .inl (G.2.1, 64, .inl w0.2.2.2.2.2.2.2.2.2.2.2.2.2))] → va_S A s.heap H locs → ∀ (ls : Array Slot), lv_has ls 7 [(5, .int v5), (4, .int v4), (3, .int v3), (0, .ref hw0_0), (1, .int p1), (2, .int p2)] → W p l e (rm_X11_victim) s m args below meth c H locs 0 0 Q (F0 m 8 ls []) := by
    intro k8
    induction k8 with
    | zero =>
      intro v5 v4 v3 hf
      rw [f_X11_victim_L8.eq_1] at hf; cases hf
    | succ k8 ih8 =>
      have hJ83 : ∀ (v5 : Int32) (v4 : Int32) (v3 : Int32), f_X11_victim_J83 w0 p1 p2 (f_X11_victim_L8 w0 p1 p2 k8) v5 v4 v3 = some r → ∀ (H : Heap) (locs : List Loc), va_P G.1 vwCl [(hw0_0, .inr (8, [.ref hw0_1, .ref hw0_2, .int w0.2.2.1, .int w0.2.2.2.1, .ref hw0_3, .ref hw0_4, .int w0.2.2.2.2.2.2.1, .int w0.2.2.2.2.2.2.2.1, .int w0.2.2.2.2.2.2.2.2.1, .ref hw0_5, .ref hw0_6, .ref hw0_7, .int w0.2.2.2.2.2.2.2.2.2.2.2.2.1, .ref hw0_8])), (hw0_1, .inl (G.2.1, 617, .inl w0.1)), (hw0_2, .inl (G.2.1, 2468, .inl w0.2.1)), (hw0_3, .inl (G.2.1, 30, .inl w0.2.2.2.2.1)), (hw0_4, .inl (G.2.1, 4000, .inl w0.2.2.2.2.2.1)), (hw0_5, .inl (G.2.1, 120, .inl w0.2.2.2.2.2.2.2.2.2.1)), (hw0_6, .inl (G.2.1, 64, .inl w0.2.2.2.2.2.2.2.2.2.2.1)), (hw0_7, .inl (G.2.2.1, 64, .inl w0.2.2.2.2.2.2.2.2.2.2.2.1)), (hw0_8, .inl (G.2.1, 64, .inl w0.2.2.2.2.2.2.2.2.2.2.2.2.2))] H → va_D A [(hw0_0, .inr (8, [.ref hw0_1, .ref hw0_2, .int w0.2.2.1, .int w0.2.2.2.1, .ref hw0_3, .ref hw0_4, .int w0.2.2.2.2.2.2.1, .int w0.2.2.2.2.2.2.2.1, .int w0.2.2.2.2.2.2.2.2.1, .ref hw0_5, .ref hw0_6, .ref hw0_7, .int w0.2.2.2.2.2.2.2.2.2.2.2.2.1, .ref hw0_8])), (hw0_1, .inl (G.2.1, 617, .inl w0.1)), (hw0_2, .inl (G.2.1, 2468, .inl w0.2.1)), (hw0_3, .inl (G.2.1, 30, .inl w0.2.2.2.2.1)), (hw0_4, .inl (G.2.1, 4000, .inl w0.2.2.2.2.2.1)), (hw0_5, .inl (G.2.1, 120, .inl w0.2.2.2.2.2.2.2.2.2.1)), (hw0_6, .inl (G.2.1, 64, .inl w0.2.2.2.2.2.2.2.2.2.2.1)), (hw0_7, .inl (G.2.2.1, 64, .inl w0.2.2.2.2.2.2.2.2.2.2.2.1)), (hw0_8, .inl (G.2.1, 64, .inl w0.2.2.2.2.2.2.2.2.2.2.2.2.2))] → va_S A s.heap H locs → ∀ (ls : Array Slot), lv_has ls 7 [(5, .int v5), (4, .int v4), (3, .int v3), (0, .ref hw0_0), (1, .int p1), (2, .int p2)] → W p l e (rm_X11_victim) s m args below meth c H locs 0 0 Q (F0 m 83 ls []) := by
        intro v5 v4 v3 hf H locs hP hD hS ls hl
        unfold f_X11_victim_J83 at hf
        refine lv_iinc (pc := 83) (v := (v5 + (1 : Int32))) (lv' := [(5, .int (v5 + (1 : Int32))), (4, .int v4), (3, .int v3), (0, .ref hw0_0), (1, .int p1), (2, .int p2)]) hx hb dX11_victim_83 hl (k := 0) rfl rfl (by decide) rfl (fun ls hl => ?_)
        refine lv_goto (pc := 86) (tgt := 8) hx hb dX11_victim_86 (by decide) ?_
        exact ih8 (v5 + (1 : Int32)) v4 v3 hf H locs hP hD hS ls (lv_sub hl [0, 1, 2, 3, 4, 5] rfl)
      have hJ76 : ∀ (v6 : Int32) (v5 : Int32), f_X11_victim_J76 w0 p1 p2 (f_X11_victim_L8 w0 p1 p2 k8) v6 v5 = some r → ∀ (H : Heap) (locs : List Loc), va_P G.1 vwCl [(hw0_0, .inr (8, [.ref hw0_1, .ref hw0_2, .int w0.2.2.1, .int w0.2.2.2.1, .ref hw0_3, .ref hw0_4, .int w0.2.2.2.2.2.2.1, .int w0.2.2.2.2.2.2.2.1, .int w0.2.2.2.2.2.2.2.2.1, .ref hw0_5, .ref hw0_6, .ref hw0_7, .int w0.2.2.2.2.2.2.2.2.2.2.2.2.1, .ref hw0_8])), (hw0_1, .inl (G.2.1, 617, .inl w0.1)), (hw0_2, .inl (G.2.1, 2468, .inl w0.2.1)), (hw0_3, .inl (G.2.1, 30, .inl w0.2.2.2.2.1)), (hw0_4, .inl (G.2.1, 4000, .inl w0.2.2.2.2.2.1)), (hw0_5, .inl (G.2.1, 120, .inl w0.2.2.2.2.2.2.2.2.2.1)), (hw0_6, .inl (G.2.1, 64, .inl w0.2.2.2.2.2.2.2.2.2.2.1)), (hw0_7, .inl (G.2.2.1, 64, .inl w0.2.2.2.2.2.2.2.2.2.2.2.1)), (hw0_8, .inl (G.2.1, 64, .inl w0.2.2.2.2.2.2.2.2.2.2.2.2.2))] H → va_D A [(hw0_0, .inr (8, [.ref hw0_1, .ref hw0_2, .int w0.2.2.1, .int w0.2.2.2.1, .ref hw0_3, .ref hw0_4, .int w0.2.2.2.2.2.2.1, .int w0.2.2.2.2.2.2.2.1, .int w0.2.2.2.2.2.2.2.2.1, .ref hw0_5, .ref hw0_6, .ref hw0_7, .int w0.2.2.2.2.2.2.2.2.2.2.2.2.1, .ref hw0_8])), (hw0_1, .inl (G.2.1, 617, .inl w0.1)), (hw0_2, .inl (G.2.1, 2468, .inl w0.2.1)), (hw0_3, .inl (G.2.1, 30, .inl w0.2.2.2.2.1)), (hw0_4, .inl (G.2.1, 4000, .inl w0.2.2.2.2.2.1)), (hw0_5, .inl (G.2.1, 120, .inl w0.2.2.2.2.2.2.2.2.2.1)), (hw0_6, .inl (G.2.1, 64, .inl w0.2.2.2.2.2.2.2.2.2.2.1)), (hw0_7, .inl (G.2.2.1, 64, .inl w0.2.2.2.2.2.2.2.2.2.2.2.1)), (hw0_8, .inl (G.2.1, 64, .inl w0.2.2.2.2.2.2.2.2.2.2.2.2.2))] → va_S A s.heap H locs → ∀ (ls : Array Slot), lv_has ls 7 [(6, .int v6), (5, .int v5), (0, .ref hw0_0), (1, .int p1), (2, .int p2)] → W p l e (rm_X11_victim) s m args below meth c H locs 0 0 Q (F0 m 76 ls []) := by
        intro v6 v5 hf H locs hP hD hS ls hl
        unfold f_X11_victim_J76 at hf
        refine lv_iload (pc := 76) hx hb dX11_victim_76 (lv_at hl 1 rfl) ?_
        refine lv_istore_n (pc := 78) (lv' := [(3, .int v5), (6, .int v6), (5, .int v5), (0, .ref hw0_0), (1, .int p1), (2, .int p2)]) hx hb dX11_victim_78 rfl hl (by decide) rfl (fun ls hl => ?_)
        refine lv_iload (pc := 79) hx hb dX11_victim_79 (lv_at hl 1 rfl) ?_
        refine lv_istore (pc := 81) (lv' := [(4, .int v6), (3, .int v5), (6, .int v6), (5, .int v5), (0, .ref hw0_0), (1, .int p1), (2, .int p2)]) hx hb dX11_victim_81 hl (by decide) rfl (fun ls hl => ?_)
        exact hJ83 v5 v6 v5 hf H locs hP hD hS ls (lv_sub hl [3, 0, 1, 4, 5, 6] rfl)
      have hJ62 : ∀ (v5 : Int32) (v4 : Int32) (v3 : Int32) (s0 : Int32), f_X11_victim_J62 w0 p1 p2 (f_X11_victim_L8 w0 p1 p2 k8) v5 v4 v3 s0 = some r → ∀ (H : Heap) (locs : List Loc), va_P G.1 vwCl [(hw0_0, .inr (8, [.ref hw0_1, .ref hw0_2, .int w0.2.2.1, .int w0.2.2.2.1, .ref hw0_3, .ref hw0_4, .int w0.2.2.2.2.2.2.1, .int w0.2.2.2.2.2.2.2.1, .int w0.2.2.2.2.2.2.2.2.1, .ref hw0_5, .ref hw0_6, .ref hw0_7, .int w0.2.2.2.2.2.2.2.2.2.2.2.2.1, .ref hw0_8])), (hw0_1, .inl (G.2.1, 617, .inl w0.1)), (hw0_2, .inl (G.2.1, 2468, .inl w0.2.1)), (hw0_3, .inl (G.2.1, 30, .inl w0.2.2.2.2.1)), (hw0_4, .inl (G.2.1, 4000, .inl w0.2.2.2.2.2.1)), (hw0_5, .inl (G.2.1, 120, .inl w0.2.2.2.2.2.2.2.2.2.1)), (hw0_6, .inl (G.2.1, 64, .inl w0.2.2.2.2.2.2.2.2.2.2.1)), (hw0_7, .inl (G.2.2.1, 64, .inl w0.2.2.2.2.2.2.2.2.2.2.2.1)), (hw0_8, .inl (G.2.1, 64, .inl w0.2.2.2.2.2.2.2.2.2.2.2.2.2))] H → va_D A [(hw0_0, .inr (8, [.ref hw0_1, .ref hw0_2, .int w0.2.2.1, .int w0.2.2.2.1, .ref hw0_3, .ref hw0_4, .int w0.2.2.2.2.2.2.1, .int w0.2.2.2.2.2.2.2.1, .int w0.2.2.2.2.2.2.2.2.1, .ref hw0_5, .ref hw0_6, .ref hw0_7, .int w0.2.2.2.2.2.2.2.2.2.2.2.2.1, .ref hw0_8])), (hw0_1, .inl (G.2.1, 617, .inl w0.1)), (hw0_2, .inl (G.2.1, 2468, .inl w0.2.1)), (hw0_3, .inl (G.2.1, 30, .inl w0.2.2.2.2.1)), (hw0_4, .inl (G.2.1, 4000, .inl w0.2.2.2.2.2.1)), (hw0_5, .inl (G.2.1, 120, .inl w0.2.2.2.2.2.2.2.2.2.1)), (hw0_6, .inl (G.2.1, 64, .inl w0.2.2.2.2.2.2.2.2.2.2.1)), (hw0_7, .inl (G.2.2.1, 64, .inl w0.2.2.2.2.2.2.2.2.2.2.2.1)), (hw0_8, .inl (G.2.1, 64, .inl w0.2.2.2.2.2.2.2.2.2.2.2.2.2))] → va_S A s.heap H locs → ∀ (ls : Array Slot), lv_has ls 7 [(5, .int v5), (4, .int v4), (3, .int v3), (0, .ref hw0_0), (1, .int p1), (2, .int p2)] → W p l e (rm_X11_victim) s m args below meth c H locs 0 0 Q (F0 m 62 ls [.int s0]) := by
        intro v5 v4 v3 s0 hf H locs hP hD hS ls hl
        unfold f_X11_victim_J62 at hf
        refine lv_istore (pc := 62) (lv' := [(6, .int s0), (5, .int v5), (4, .int v4), (3, .int v3), (0, .ref hw0_0), (1, .int p1), (2, .int p2)]) hx hb dX11_victim_62 hl (by decide) rfl (fun ls hl => ?_)
        refine lv_iload_n (pc := 64) hx hb dX11_victim_64 rfl (lv_at hl 3 rfl) ?_
        refine lv_iconst (pc := 65) (v := (-1 : Int32)) hx hb dX11_victim_65 (by decide) ?_
        refine lv_icmp_eq (pc := 66) (tgt := 76) hx hb dX11_victim_66 (by decide) (fun hc => ?_) (fun hc => ?_)
        · have hf := br_y hc hf
          exact hJ76 s0 v5 hf H locs hP hD hS ls (lv_sub hl [0, 1, 4, 5, 6] rfl)
        · have hf := br_n hc hf
          refine lv_iload (pc := 69) hx hb dX11_victim_69 (lv_at hl 0 rfl) ?_
          refine lv_iload (pc := 71) hx hb dX11_victim_71 (lv_at hl 2 rfl) ?_
          refine lv_icmp_ge (pc := 73) (tgt := 83) hx hb dX11_victim_73 (by decide) (fun hc => ?_) (fun hc => ?_)
          · have hf := br_y hc hf
            exact hJ83 v5 v4 v3 hf H locs hP hD hS ls (lv_sub hl [1, 2, 3, 4, 5, 6] rfl)
          · have hf := br_n hc hf
            exact hJ76 s0 v5 hf H locs hP hD hS ls (lv_sub hl [0, 1, 4, 5, 6] rfl)
      intro v5 v4 v3 hf H locs hP hD hS ls hl
      rw [f_X11_victim_L8.eq_2] at hf
      refine lv_iload (pc := 8) hx hb dX11_victim_8 (lv_at hl 0 rfl) ?_
      refine lv_aload_n (pc := 10) hx hb dX11_victim_10 rfl (lv_at hl 3 rfl) ?_
      refine va_get (pc := 11) (D := G.1) (ci := 8) (v := .ref hw0_1) (C := RX11) (T := TX11) (N := 14) hx hb hts inX11 hown hK.1 hP 0 rfl rfl 0 (by decide) (hts _ wd_880) (fun _ h9 => h9) rfl dX11_victim_11 ?_
      refine lv_sipush (pc := 14) (v := (132 : Int32)) hx hb dX11_victim_14 (by decide) ?_
      obtain ⟨hg, hf⟩ := gd_some hf
      refine va_iald (pc := 17) hx hb hK.1 hP 1 0 rfl rfl hg dX11_victim_17 ?_
      refine lv_icmp_ge (pc := 18) (tgt := 89) hx hb dX11_victim_18 (by decide) (fun hc => ?_) (fun hc => ?_)
      · have hf := br_y hc hf
        refine lv_iload_n (pc := 89) hx hb dX11_victim_89 rfl (lv_at hl 2 rfl) ?_
        have hf := Option.some.inj hf; subst hf
        rw [← hQ]
        exact g_iret hx hb hr hlocks hP hS dX11_victim_90
      · have hf := br_n hc hf
        refine lv_iload_n (pc := 21) hx hb dX11_victim_21 rfl (lv_at hl 4 rfl) ?_
        refine lv_iload (pc := 22) hx hb dX11_victim_22 (lv_at hl 0 rfl) ?_
        refine lv_ishr (pc := 24) hx hb dX11_victim_24 ?_
        refine lv_iconst (pc := 25) (v := (1 : Int32)) hx hb dX11_victim_25 (by decide) ?_
        refine lv_iand (pc := 26) hx hb dX11_victim_26 ?_
        refine lv_iconst (pc := 27) (v := (1 : Int32)) hx hb dX11_victim_27 (by decide) ?_
        refine lv_icmp_ne (pc := 28) (tgt := 83) hx hb dX11_victim_28 (by decide) (fun hc => ?_) (fun hc => ?_)
        · have hf := br_n hc hf
          exact hJ83 v5 v4 v3 hf H locs hP hD hS ls (lv_sub hl [0, 1, 2, 3, 4, 5] rfl)
        · have hf := br_y hc hf
          refine lv_iload_n (pc := 31) hx hb dX11_victim_31 rfl (lv_at hl 5 rfl) ?_
          refine lv_if_ne (pc := 32) (tgt := 39) hx hb dX11_victim_32 (by decide) (fun hc => ?_) (fun hc => ?_)
          · have hf := br_n hc hf
            refine lv_iload_n (pc := 39) hx hb dX11_victim_39 rfl (lv_at hl 5 rfl) ?_
            refine lv_iconst (pc := 40) (v := (1 : Int32)) hx hb dX11_victim_40 (by decide) ?_
            refine lv_icmp_ne (pc := 41) (tgt := 54) hx hb dX11_victim_41 (by decide) (fun hc => ?_) (fun hc => ?_)
            · have hf := br_n hc hf
              refine lv_aload_n (pc := 54) hx hb dX11_victim_54 rfl (lv_at hl 3 rfl) ?_
              refine lv_iload (pc := 55) hx hb dX11_victim_55 (lv_at hl 0 rfl) ?_
              refine lv_iload_n (pc := 57) hx hb dX11_victim_57 rfl (lv_at hl 4 rfl) ?_
              obtain ⟨x1, hcx1, hf⟩ := bn_some hf
              refine g_callV0 (pc := 58) (rest := []) hx hb hml hown hts hK (c_X11_others l G hw0_0 hw0_1 hw0_2 hw0_3 hw0_4 hw0_5 hw0_6 hw0_7 hw0_8 w0 v5 p1 hcx1) wd_1043 wd_10 wd_1040 wd_1042 ws_28 hd_X11_others ⟨rfl, rfl, Nat.le_of_ble_eq_true rfl, Nat.le_of_ble_eq_true rfl⟩ hP hD hS hA [0, 1, 2, 3, 4, 5, 6, 7, 8] rfl rfl 8 0 rfl rfl rfl rfl hl.1 rfl (Nat.le_of_ble_eq_true rfl) dX11_victim_58 ⟨Nat.zero_le _, Nat.zero_le _⟩ (fun H locs hP hS => ?_)
              refine lv_ineg (pc := 61) hx hb dX11_victim_61 ?_
              exact hJ62 v5 v4 v3 (-x1) hf H locs hP hD hS ls (lv_sub hl [0, 1, 2, 3, 4, 5] rfl)
            · have hf := br_y hc hf
              refine lv_aload_n (pc := 44) hx hb dX11_victim_44 rfl (lv_at hl 3 rfl) ?_
              refine lv_iload (pc := 45) hx hb dX11_victim_45 (lv_at hl 0 rfl) ?_
              refine lv_iconst (pc := 47) (v := (3 : Int32)) hx hb dX11_victim_47 (by decide) ?_
              obtain ⟨x2, hcx2, hf⟩ := bn_some hf
              refine g_callV0 (pc := 48) (rest := []) hx hb hml hown hts hK (c_X11_of l G hw0_0 hw0_1 hw0_2 hw0_3 hw0_4 hw0_5 hw0_6 hw0_7 hw0_8 w0 v5 (3 : Int32) hcx2) wd_1010 wd_10 wd_1007 wd_1009 ws_22 hd_X11_of ⟨rfl, rfl, Nat.le_of_ble_eq_true rfl, Nat.le_of_ble_eq_true rfl⟩ hP hD hS hA [0, 1, 2, 3, 4, 5, 6, 7, 8] rfl rfl 8 0 rfl rfl rfl rfl hl.1 rfl (Nat.le_of_ble_eq_true rfl) dX11_victim_48 ⟨Nat.zero_le _, Nat.zero_le _⟩ (fun H locs hP hS => ?_)
              refine lv_goto (pc := 51) (tgt := 62) hx hb dX11_victim_51 (by decide) ?_
              exact hJ62 v5 v4 v3 x2 hf H locs hP hD hS ls (lv_sub hl [0, 1, 2, 3, 4, 5] rfl)
          · have hf := br_y hc hf
            refine lv_iconst (pc := 35) (v := (0 : Int32)) hx hb dX11_victim_35 (by decide) ?_
            refine lv_goto (pc := 36) (tgt := 62) hx hb dX11_victim_36 (by decide) ?_
            exact hJ62 v5 v4 v3 (0 : Int32) hf H locs hP hD hS ls (lv_sub hl [0, 1, 2, 3, 4, 5] rfl)
  refine lv_iconst (pc := 0) (v := (-1 : Int32)) hx hb dX11_victim_0 (by decide) ?_
  refine lv_istore_n (pc := 1) (lv' := [(3, .int (-1 : Int32)), (0, .ref hw0_0), (1, .int p1), (2, .int p2)]) hx hb dX11_victim_1 rfl hl (by decide) rfl (fun ls hl => ?_)
  refine lv_iconst (pc := 2) (v := (0 : Int32)) hx hb dX11_victim_2 (by decide) ?_
  refine lv_istore (pc := 3) (lv' := [(4, .int (0 : Int32)), (3, .int (-1 : Int32)), (0, .ref hw0_0), (1, .int p1), (2, .int p2)]) hx hb dX11_victim_3 hl (by decide) rfl (fun ls hl => ?_)
  refine lv_iconst (pc := 5) (v := (0 : Int32)) hx hb dX11_victim_5 (by decide) ?_
  refine lv_istore (pc := 6) (lv' := [(5, .int (0 : Int32)), (4, .int (0 : Int32)), (3, .int (-1 : Int32)), (0, .ref hw0_0), (1, .int p1), (2, .int p2)]) hx hb dX11_victim_6 hl (by decide) rfl (fun ls hl => ?_)
  exact hL8 FUEL (0 : Int32) (0 : Int32) (-1 : Int32) hf H locs hP hD hS ls (lv_sub hl [0, 1, 2, 3, 4, 5] rfl)
theorem hd_X11_plan : yX11_plan.cls ≠ "java/lang/invoke/MethodHandle" ∧ yX11_plan.cls ≠ "java/lang/invoke/VarHandle" ∧ (parseMethodDescriptor yX11_plan.desc).map (fun d => d.parameters.length) = some 1 := by decide +kernel
abbrev rm_X11_plan : Room := { frames := 5, cells := 0, slots := 0, locals := 115 }
noncomputable def f_X11_plan_J178 (p1 : Int32) (rec130 : TModel → Int32 → Int32 → Int32 → Int32 → Option (Int32 × TModel)) (w0 : TModel) (v3 : Int32) (v6 : Int32) (v5 : Int32) (v4 : Int32) : Option (Int32 × TModel) :=
  rec130 w0 (v6 + (1 : Int32)) v5 v4 v3
noncomputable def f_X11_plan_J163 (p1 : Int32) (rec130 : TModel → Int32 → Int32 → Int32 → Int32 → Option (Int32 × TModel)) (w0 : TModel) (v6 : Int32) (v5 : Int32) (v4 : Int32) (v3 : Int32) : Option (Int32 × TModel) :=
  gd (vp_in ((318 : Int32) + v3) 617) (f_X11_plan_J178 p1 rec130 ((upd w0.1 ((318 : Int32) + v3).toNatClampNeg v6), w0.2.1, w0.2.2.1, w0.2.2.2.1, w0.2.2.2.2.1, w0.2.2.2.2.2.1, w0.2.2.2.2.2.2.1, w0.2.2.2.2.2.2.2.1, w0.2.2.2.2.2.2.2.2.1, w0.2.2.2.2.2.2.2.2.2.1, w0.2.2.2.2.2.2.2.2.2.2.1, w0.2.2.2.2.2.2.2.2.2.2.2.1, w0.2.2.2.2.2.2.2.2.2.2.2.2.1, w0.2.2.2.2.2.2.2.2.2.2.2.2.2) (v3 + (1 : Int32)) v6 v5 v4)
noncomputable def f_X11_plan_L130 (p1 : Int32)  : Nat → TModel → Int32 → Int32 → Int32 → Int32 → Option (Int32 × TModel)
  | 0, _, _, _, _, _ => none
  | k130 + 1, w0, v6, v5, v4, v3 =>
    gd (vp_in (132 : Int32) 617) (br ((w0.1 (132 : Int32).toNatClampNeg) ≤ v6) (gd (vp_in (348 : Int32) 617) (gd (vp_in (317 : Int32) 617) (some (v5, ((upd (upd w0.1 (348 : Int32).toNatClampNeg v4) (317 : Int32).toNatClampNeg (1 : Int32)), w0.2.1, w0.2.2.1, w0.2.2.2.1, w0.2.2.2.2.1, w0.2.2.2.2.2.1, w0.2.2.2.2.2.2.1, w0.2.2.2.2.2.2.2.1, w0.2.2.2.2.2.2.2.2.1, w0.2.2.2.2.2.2.2.2.2.1, w0.2.2.2.2.2.2.2.2.2.2.1, w0.2.2.2.2.2.2.2.2.2.2.2.1, w0.2.2.2.2.2.2.2.2.2.2.2.2.1, w0.2.2.2.2.2.2.2.2.2.2.2.2.2))))) ((f_X11_isCopy w0 v6).bind (fun x7 => br (x7 = 0) (f_X11_plan_J163 p1 (f_X11_plan_L130 p1  k130) w0 v6 v5 v4 v3) (br (((v4 >>> (v6 &&& 31)) &&& (1 : Int32)) = (1 : Int32)) (f_X11_plan_J163 p1 (f_X11_plan_L130 p1  k130) w0 v6 v5 v4 v3) (f_X11_plan_J178 p1 (f_X11_plan_L130 p1  k130) w0 v3 v6 v5 v4)))))
noncomputable def f_X11_plan_J115 (p1 : Int32) (rec60 : TModel → Int32 → Int32 → Int32 → Int32 → Option (Int32 × TModel)) (w0 : TModel) (v3 : Int32) (v6 : Int32) (v5 : Int32) (v4 : Int32) (v2 : Int32) : Option (Int32 × TModel) :=
  nm (v2 &&& (((1 : Int32) <<< (v6 &&& 31)) ^^^ (-1 : Int32))) (fun x9 => rec60 w0 v5 v4 v3 x9)
noncomputable def f_X11_plan_L60 (p1 : Int32)  : Nat → TModel → Int32 → Int32 → Int32 → Int32 → Option (Int32 × TModel)
  | 0, _, _, _, _, _ => none
  | k60 + 1, w0, v5, v4, v3, v2 =>
    br (v2 = 0) (f_X11_plan_L130 p1 FUEL w0 (0 : Int32) v5 v4 v3) ((f_X11_freeOf w0 v2).bind (fun x8 => br (x8 = (-1 : Int32)) ((f_X11_victim w0 v2 p1).bind (fun x10 => f_X11_plan_J115 p1 (f_X11_plan_L60 p1  k60) w0 v3 x10 (v5 + (1 : Int32)) (v4 ||| ((1 : Int32) <<< (x10 &&& 31))) v2)) (gd (vp_in ((318 : Int32) + v3) 617) (f_X11_plan_J115 p1 (f_X11_plan_L60 p1  k60) ((upd w0.1 ((318 : Int32) + v3).toNatClampNeg x8), w0.2.1, w0.2.2.1, w0.2.2.2.1, w0.2.2.2.2.1, w0.2.2.2.2.2.1, w0.2.2.2.2.2.2.1, w0.2.2.2.2.2.2.2.1, w0.2.2.2.2.2.2.2.2.1, w0.2.2.2.2.2.2.2.2.2.1, w0.2.2.2.2.2.2.2.2.2.2.1, w0.2.2.2.2.2.2.2.2.2.2.2.1, w0.2.2.2.2.2.2.2.2.2.2.2.2.1, w0.2.2.2.2.2.2.2.2.2.2.2.2.2) (v3 + (1 : Int32)) x8 v5 v4 v2))))
noncomputable def f_X11_plan_J31 (p1 : Int32)  (w0 : TModel) (s0 : Int32) (s1 : Int32) : Option (Int32 × TModel) :=
  (f_X11_goes w0 s1 s0).bind (fun x3 => br (x3.1 = 0) (some ((0 : Int32), x3.2)) ((f_X11_save x3.2).bind (fun x4 => (f_X11_dropsPlan x4).bind (fun x5 => (f_X11_copies x5).bind (fun x6 => f_X11_plan_L60 p1 FUEL x5 (0 : Int32) (0 : Int32) (0 : Int32) x6)))))
noncomputable def f_X11_plan (w0 : TModel) (p1 : Int32) : Option (Int32 × TModel) :=
  (f_X11_in p1.toInt64 (0 : Int64) (2 : Int64)).bind (fun x1 => (f_X11_longOf w0 (0 : Int32)).bind (fun x2 => gd (vp_in (130 : Int32) 617) (br (x2 = (w0.1 (130 : Int32).toNatClampNeg)) (f_X11_plan_J31 p1 w0 (1 : Int32) x1) (f_X11_plan_J31 p1 w0 (0 : Int32) x1))))
set_option maxHeartbeats 4000000 in
set_option maxRecDepth 100000 in
theorem c_X11_plan (l : Launch) (G : GT) (hw0_0 hw0_1 hw0_2 hw0_3 hw0_4 hw0_5 hw0_6 hw0_7 hw0_8 : Nat) (w0 : TModel) (p1 : Int32) {r : Int32 × TModel} (hf : f_X11_plan w0 p1 = some r) : Ct l yX11_plan (Cond.code yX11_plan cX11_plan 7 (some .int) :: lw_g) rm_X11_plan G [.ref hw0_0, .int p1] [(hw0_0, .inr (8, [.ref hw0_1, .ref hw0_2, .int w0.2.2.1, .int w0.2.2.2.1, .ref hw0_3, .ref hw0_4, .int w0.2.2.2.2.2.2.1, .int w0.2.2.2.2.2.2.2.1, .int w0.2.2.2.2.2.2.2.2.1, .ref hw0_5, .ref hw0_6, .ref hw0_7, .int w0.2.2.2.2.2.2.2.2.2.2.2.2.1, .ref hw0_8])), (hw0_1, .inl (G.2.1, 617, .inl w0.1)), (hw0_2, .inl (G.2.1, 2468, .inl w0.2.1)), (hw0_3, .inl (G.2.1, 30, .inl w0.2.2.2.2.1)), (hw0_4, .inl (G.2.1, 4000, .inl w0.2.2.2.2.2.1)), (hw0_5, .inl (G.2.1, 120, .inl w0.2.2.2.2.2.2.2.2.2.1)), (hw0_6, .inl (G.2.1, 64, .inl w0.2.2.2.2.2.2.2.2.2.2.1)), (hw0_7, .inl (G.2.2.1, 64, .inl w0.2.2.2.2.2.2.2.2.2.2.2.1)), (hw0_8, .inl (G.2.1, 64, .inl w0.2.2.2.2.2.2.2.2.2.2.2.2.2))] (some (.int r.1)) [(hw0_0, .inr (8, [.ref hw0_1, .ref hw0_2, .int r.2.2.2.1, .int r.2.2.2.2.1, .ref hw0_3, .ref hw0_4, .int r.2.2.2.2.2.2.2.1, .int r.2.2.2.2.2.2.2.2.1, .int r.2.2.2.2.2.2.2.2.2.1, .ref hw0_5, .ref hw0_6, .ref hw0_7, .int r.2.2.2.2.2.2.2.2.2.2.2.2.2.1, .ref hw0_8])), (hw0_1, .inl (G.2.1, 617, .inl r.2.1)), (hw0_2, .inl (G.2.1, 2468, .inl r.2.2.1)), (hw0_3, .inl (G.2.1, 30, .inl r.2.2.2.2.2.1)), (hw0_4, .inl (G.2.1, 4000, .inl r.2.2.2.2.2.2.1)), (hw0_5, .inl (G.2.1, 120, .inl r.2.2.2.2.2.2.2.2.2.2.1)), (hw0_6, .inl (G.2.1, 64, .inl r.2.2.2.2.2.2.2.2.2.2.2.1)), (hw0_7, .inl (G.2.2.1, 64, .inl r.2.2.2.2.2.2.2.2.2.2.2.2.1)), (hw0_8, .inl (G.2.1, 64, .inl r.2.2.2.2.2.2.2.2.2.2.2.2.2.2))] := by
  refine Ct.ofW (cc := cX11_plan) (maxL := 7) (ret := (some .int)) (own := RX11) (by decide) rfl rfl (Nat.le_of_ble_eq_true rfl) ?_
  intro p e s m args below meth c A hx hb hr hml hts hown hlocks hK hP hD hA hS ls hl
  have hl : lv_has ls 7 [(0, .ref hw0_0), (1, .int p1)] := hl
  generalize hQ : gMQ below G _ _ A args s = Q
  generalize hH : s.heap = H at hP ⊢
  have hS : va_S A s.heap H [] := by rw [← hH]; exact hS
  generalize ([] : List Loc) = locs at hS ⊢
  unfold f_X11_plan at hf
  have hL130 : ∀ (k130 : Nat) (w0 : TModel) (v6 : Int32) (v5 : Int32) (v4 : Int32) (v3 : Int32), f_X11_plan_L130 p1  k130 w0 v6 v5 v4 v3 = some r → ∀ (H : Heap) (locs : List Loc), va_P G.1 vwCl [(hw0_0, .inr (8, [.ref hw0_1, .ref hw0_2, .int w0.2.2.1, .int w0.2.2.2.1, .ref hw0_3, .ref hw0_4, .int w0.2.2.2.2.2.2.1, .int w0.2.2.2.2.2.2.2.1, .int w0.2.2.2.2.2.2.2.2.1, .ref hw0_5, .ref hw0_6, .ref hw0_7, .int w0.2.2.2.2.2.2.2.2.2.2.2.2.1, .ref hw0_8])), (hw0_1, .inl (G.2.1, 617, .inl w0.1)), (hw0_2, .inl (G.2.1, 2468, .inl w0.2.1)), (hw0_3, .inl (G.2.1, 30, .inl w0.2.2.2.2.1)), (hw0_4, .inl (G.2.1, 4000, .inl w0.2.2.2.2.2.1)), (hw0_5, .inl (G.2.1, 120, .inl w0.2.2.2.2.2.2.2.2.2.1)), (hw0_6, .inl (G.2.1, 64, .inl w0.2.2.2.2.2.2.2.2.2.2.1)), (hw0_7, .inl (G.2.2.1, 64, .inl w0.2.2.2.2.2.2.2.2.2.2.2.1)), (hw0_8, .inl (G.2.1, 64, .inl w0.2.2.2.2.2.2.2.2.2.2.2.2.2))] H → va_D A [(hw0_0, .inr (8, [.ref hw0_1, .ref hw0_2, .int w0.2.2.1, .int w0.2.2.2.1, .ref hw0_3, .ref hw0_4, .int w0.2.2.2.2.2.2.1, .int w0.2.2.2.2.2.2.2.1, .int w0.2.2.2.2.2.2.2.2.1, .ref hw0_5, .ref hw0_6, .ref hw0_7, .int w0.2.2.2.2.2.2.2.2.2.2.2.2.1, .ref hw0_8])), (hw0_1, .inl (G.2.1, 617, .inl w0.1)), (hw0_2, .inl (G.2.1, 2468, .inl w0.2.1)), (hw0_3, .inl (G.2.1, 30, .inl w0.2.2.2.2.1)), (hw0_4, .inl (G.2.1, 4000, .inl w0.2.2.2.2.2.1)), (hw0_5, .inl (G.2.1, 120, .inl w0.2.2.2.2.2.2.2.2.2.1)), (hw0_6, .inl (G.2.1, 64, .inl w0.2.2.2.2.2.2.2.2.2.2.1)), (hw0_7, .inl (G.2.2.1, 64, .inl w0.2.2.2.2.2.2.2.2.2.2.2.1)), (hw0_8, .inl (G.2.1, 64, .inl w0.2.2.2.2.2.2.2.2.2.2.2.2.2))] → va_S A s.heap H locs → ∀ (ls : Array Slot), lv_has ls 7 [(6, .int v6), (5, .int v5), (4, .int v4), (3, .int v3), (0, .ref hw0_0)] → W p l e (rm_X11_plan) s m args below meth c H locs 0 0 Q (F0 m 130 ls []) := by
    intro k130
    induction k130 with
    | zero =>
      intro w0 v6 v5 v4 v3 hf
      rw [f_X11_plan_L130.eq_1] at hf; cases hf
    | succ k130 ih130 =>
      have hJ178 : ∀ (w0 : TModel) (v3 : Int32) (v6 : Int32) (v5 : Int32) (v4 : Int32), f_X11_plan_J178 p1 (f_X11_plan_L130 p1 k130) w0 v3 v6 v5 v4 = some r → ∀ (H : Heap) (locs : List Loc), va_P G.1 vwCl [(hw0_0, .inr (8, [.ref hw0_1, .ref hw0_2, .int w0.2.2.1, .int w0.2.2.2.1, .ref hw0_3, .ref hw0_4, .int w0.2.2.2.2.2.2.1, .int w0.2.2.2.2.2.2.2.1, .int w0.2.2.2.2.2.2.2.2.1, .ref hw0_5, .ref hw0_6, .ref hw0_7, .int w0.2.2.2.2.2.2.2.2.2.2.2.2.1, .ref hw0_8])), (hw0_1, .inl (G.2.1, 617, .inl w0.1)), (hw0_2, .inl (G.2.1, 2468, .inl w0.2.1)), (hw0_3, .inl (G.2.1, 30, .inl w0.2.2.2.2.1)), (hw0_4, .inl (G.2.1, 4000, .inl w0.2.2.2.2.2.1)), (hw0_5, .inl (G.2.1, 120, .inl w0.2.2.2.2.2.2.2.2.2.1)), (hw0_6, .inl (G.2.1, 64, .inl w0.2.2.2.2.2.2.2.2.2.2.1)), (hw0_7, .inl (G.2.2.1, 64, .inl w0.2.2.2.2.2.2.2.2.2.2.2.1)), (hw0_8, .inl (G.2.1, 64, .inl w0.2.2.2.2.2.2.2.2.2.2.2.2.2))] H → va_D A [(hw0_0, .inr (8, [.ref hw0_1, .ref hw0_2, .int w0.2.2.1, .int w0.2.2.2.1, .ref hw0_3, .ref hw0_4, .int w0.2.2.2.2.2.2.1, .int w0.2.2.2.2.2.2.2.1, .int w0.2.2.2.2.2.2.2.2.1, .ref hw0_5, .ref hw0_6, .ref hw0_7, .int w0.2.2.2.2.2.2.2.2.2.2.2.2.1, .ref hw0_8])), (hw0_1, .inl (G.2.1, 617, .inl w0.1)), (hw0_2, .inl (G.2.1, 2468, .inl w0.2.1)), (hw0_3, .inl (G.2.1, 30, .inl w0.2.2.2.2.1)), (hw0_4, .inl (G.2.1, 4000, .inl w0.2.2.2.2.2.1)), (hw0_5, .inl (G.2.1, 120, .inl w0.2.2.2.2.2.2.2.2.2.1)), (hw0_6, .inl (G.2.1, 64, .inl w0.2.2.2.2.2.2.2.2.2.2.1)), (hw0_7, .inl (G.2.2.1, 64, .inl w0.2.2.2.2.2.2.2.2.2.2.2.1)), (hw0_8, .inl (G.2.1, 64, .inl w0.2.2.2.2.2.2.2.2.2.2.2.2.2))] → va_S A s.heap H locs → ∀ (ls : Array Slot), lv_has ls 7 [(3, .int v3), (6, .int v6), (5, .int v5), (4, .int v4), (0, .ref hw0_0)] → W p l e (rm_X11_plan) s m args below meth c H locs 0 0 Q (F0 m 178 ls []) := by
        intro w0 v3 v6 v5 v4 hf H locs hP hD hS ls hl
        unfold f_X11_plan_J178 at hf
        refine lv_iinc (pc := 178) (v := (v6 + (1 : Int32))) (lv' := [(6, .int (v6 + (1 : Int32))), (3, .int v3), (5, .int v5), (4, .int v4), (0, .ref hw0_0)]) hx hb dX11_plan_178 hl (k := 1) rfl rfl (by decide) rfl (fun ls hl => ?_)
        refine lv_goto (pc := 181) (tgt := 130) hx hb dX11_plan_181 (by decide) ?_
        exact ih130 w0 (v6 + (1 : Int32)) v5 v4 v3 hf H locs hP hD hS ls (lv_sub hl [0, 2, 3, 1, 4] rfl)
      have hJ163 : ∀ (w0 : TModel) (v6 : Int32) (v5 : Int32) (v4 : Int32) (v3 : Int32), f_X11_plan_J163 p1 (f_X11_plan_L130 p1 k130) w0 v6 v5 v4 v3 = some r → ∀ (H : Heap) (locs : List Loc), va_P G.1 vwCl [(hw0_0, .inr (8, [.ref hw0_1, .ref hw0_2, .int w0.2.2.1, .int w0.2.2.2.1, .ref hw0_3, .ref hw0_4, .int w0.2.2.2.2.2.2.1, .int w0.2.2.2.2.2.2.2.1, .int w0.2.2.2.2.2.2.2.2.1, .ref hw0_5, .ref hw0_6, .ref hw0_7, .int w0.2.2.2.2.2.2.2.2.2.2.2.2.1, .ref hw0_8])), (hw0_1, .inl (G.2.1, 617, .inl w0.1)), (hw0_2, .inl (G.2.1, 2468, .inl w0.2.1)), (hw0_3, .inl (G.2.1, 30, .inl w0.2.2.2.2.1)), (hw0_4, .inl (G.2.1, 4000, .inl w0.2.2.2.2.2.1)), (hw0_5, .inl (G.2.1, 120, .inl w0.2.2.2.2.2.2.2.2.2.1)), (hw0_6, .inl (G.2.1, 64, .inl w0.2.2.2.2.2.2.2.2.2.2.1)), (hw0_7, .inl (G.2.2.1, 64, .inl w0.2.2.2.2.2.2.2.2.2.2.2.1)), (hw0_8, .inl (G.2.1, 64, .inl w0.2.2.2.2.2.2.2.2.2.2.2.2.2))] H → va_D A [(hw0_0, .inr (8, [.ref hw0_1, .ref hw0_2, .int w0.2.2.1, .int w0.2.2.2.1, .ref hw0_3, .ref hw0_4, .int w0.2.2.2.2.2.2.1, .int w0.2.2.2.2.2.2.2.1, .int w0.2.2.2.2.2.2.2.2.1, .ref hw0_5, .ref hw0_6, .ref hw0_7, .int w0.2.2.2.2.2.2.2.2.2.2.2.2.1, .ref hw0_8])), (hw0_1, .inl (G.2.1, 617, .inl w0.1)), (hw0_2, .inl (G.2.1, 2468, .inl w0.2.1)), (hw0_3, .inl (G.2.1, 30, .inl w0.2.2.2.2.1)), (hw0_4, .inl (G.2.1, 4000, .inl w0.2.2.2.2.2.1)), (hw0_5, .inl (G.2.1, 120, .inl w0.2.2.2.2.2.2.2.2.2.1)), (hw0_6, .inl (G.2.1, 64, .inl w0.2.2.2.2.2.2.2.2.2.2.1)), (hw0_7, .inl (G.2.2.1, 64, .inl w0.2.2.2.2.2.2.2.2.2.2.2.1)), (hw0_8, .inl (G.2.1, 64, .inl w0.2.2.2.2.2.2.2.2.2.2.2.2.2))] → va_S A s.heap H locs → ∀ (ls : Array Slot), lv_has ls 7 [(6, .int v6), (5, .int v5), (4, .int v4), (3, .int v3), (0, .ref hw0_0)] → W p l e (rm_X11_plan) s m args below meth c H locs 0 0 Q (F0 m 163 ls []) := by
        intro w0 v6 v5 v4 v3 hf H locs hP hD hS ls hl
        unfold f_X11_plan_J163 at hf
        refine lv_aload_n (pc := 163) hx hb dX11_plan_163 rfl (lv_at hl 4 rfl) ?_
        refine va_get (pc := 164) (D := G.1) (ci := 8) (v := .ref hw0_1) (C := RX11) (T := TX11) (N := 14) hx hb hts inX11 hown hK.1 hP 0 rfl rfl 0 (by decide) (hts _ wd_880) (fun _ h9 => h9) rfl dX11_plan_164 ?_
        refine lv_sipush (pc := 167) (v := (318 : Int32)) hx hb dX11_plan_167 (by decide) ?_
        refine lv_iload_n (pc := 170) hx hb dX11_plan_170 rfl (lv_at hl 3 rfl) ?_
        refine lv_iadd (pc := 171) hx hb dX11_plan_171 ?_
        refine lv_iload (pc := 172) hx hb dX11_plan_172 (lv_at hl 0 rfl) ?_
        obtain ⟨hg, hf⟩ := gd_some hf
        refine va_iast (pc := 174) hx hb hK.1 hP hD hS 1 0 rfl rfl hg dX11_plan_174 (fun H locs hP hD hS => ?_)
        have hP : va_P G.1 vwCl [(hw0_0, .inr (8, [.ref hw0_1, .ref hw0_2, .int w0.2.2.1, .int w0.2.2.2.1, .ref hw0_3, .ref hw0_4, .int w0.2.2.2.2.2.2.1, .int w0.2.2.2.2.2.2.2.1, .int w0.2.2.2.2.2.2.2.2.1, .ref hw0_5, .ref hw0_6, .ref hw0_7, .int w0.2.2.2.2.2.2.2.2.2.2.2.2.1, .ref hw0_8])), (hw0_1, .inl (G.2.1, 617, .inl (upd w0.1 ((318 : Int32) + v3).toNatClampNeg v6))), (hw0_2, .inl (G.2.1, 2468, .inl w0.2.1)), (hw0_3, .inl (G.2.1, 30, .inl w0.2.2.2.2.1)), (hw0_4, .inl (G.2.1, 4000, .inl w0.2.2.2.2.2.1)), (hw0_5, .inl (G.2.1, 120, .inl w0.2.2.2.2.2.2.2.2.2.1)), (hw0_6, .inl (G.2.1, 64, .inl w0.2.2.2.2.2.2.2.2.2.2.1)), (hw0_7, .inl (G.2.2.1, 64, .inl w0.2.2.2.2.2.2.2.2.2.2.2.1)), (hw0_8, .inl (G.2.1, 64, .inl w0.2.2.2.2.2.2.2.2.2.2.2.2.2))] H := hP
        have hD : va_D A [(hw0_0, .inr (8, [.ref hw0_1, .ref hw0_2, .int w0.2.2.1, .int w0.2.2.2.1, .ref hw0_3, .ref hw0_4, .int w0.2.2.2.2.2.2.1, .int w0.2.2.2.2.2.2.2.1, .int w0.2.2.2.2.2.2.2.2.1, .ref hw0_5, .ref hw0_6, .ref hw0_7, .int w0.2.2.2.2.2.2.2.2.2.2.2.2.1, .ref hw0_8])), (hw0_1, .inl (G.2.1, 617, .inl (upd w0.1 ((318 : Int32) + v3).toNatClampNeg v6))), (hw0_2, .inl (G.2.1, 2468, .inl w0.2.1)), (hw0_3, .inl (G.2.1, 30, .inl w0.2.2.2.2.1)), (hw0_4, .inl (G.2.1, 4000, .inl w0.2.2.2.2.2.1)), (hw0_5, .inl (G.2.1, 120, .inl w0.2.2.2.2.2.2.2.2.2.1)), (hw0_6, .inl (G.2.1, 64, .inl w0.2.2.2.2.2.2.2.2.2.2.1)), (hw0_7, .inl (G.2.2.1, 64, .inl w0.2.2.2.2.2.2.2.2.2.2.2.1)), (hw0_8, .inl (G.2.1, 64, .inl w0.2.2.2.2.2.2.2.2.2.2.2.2.2))] := hD
        refine lv_iinc (pc := 175) (v := (v3 + (1 : Int32))) (lv' := [(3, .int (v3 + (1 : Int32))), (6, .int v6), (5, .int v5), (4, .int v4), (0, .ref hw0_0)]) hx hb dX11_plan_175 hl (k := 3) rfl rfl (by decide) rfl (fun ls hl => ?_)
        exact hJ178 ((upd w0.1 ((318 : Int32) + v3).toNatClampNeg v6), w0.2.1, w0.2.2.1, w0.2.2.2.1, w0.2.2.2.2.1, w0.2.2.2.2.2.1, w0.2.2.2.2.2.2.1, w0.2.2.2.2.2.2.2.1, w0.2.2.2.2.2.2.2.2.1, w0.2.2.2.2.2.2.2.2.2.1, w0.2.2.2.2.2.2.2.2.2.2.1, w0.2.2.2.2.2.2.2.2.2.2.2.1, w0.2.2.2.2.2.2.2.2.2.2.2.2.1, w0.2.2.2.2.2.2.2.2.2.2.2.2.2) (v3 + (1 : Int32)) v6 v5 v4 hf H locs hP hD hS ls (lv_sub hl [0, 1, 2, 3, 4] rfl)
      intro w0 v6 v5 v4 v3 hf H locs hP hD hS ls hl
      rw [f_X11_plan_L130.eq_2] at hf
      refine lv_iload (pc := 130) hx hb dX11_plan_130 (lv_at hl 0 rfl) ?_
      refine lv_aload_n (pc := 132) hx hb dX11_plan_132 rfl (lv_at hl 4 rfl) ?_
      refine va_get (pc := 133) (D := G.1) (ci := 8) (v := .ref hw0_1) (C := RX11) (T := TX11) (N := 14) hx hb hts inX11 hown hK.1 hP 0 rfl rfl 0 (by decide) (hts _ wd_880) (fun _ h9 => h9) rfl dX11_plan_133 ?_
      refine lv_sipush (pc := 136) (v := (132 : Int32)) hx hb dX11_plan_136 (by decide) ?_
      obtain ⟨hg, hf⟩ := gd_some hf
      refine va_iald (pc := 139) hx hb hK.1 hP 1 0 rfl rfl hg dX11_plan_139 ?_
      refine lv_icmp_ge (pc := 140) (tgt := 184) hx hb dX11_plan_140 (by decide) (fun hc => ?_) (fun hc => ?_)
      · have hf := br_y hc hf
        refine lv_aload_n (pc := 184) hx hb dX11_plan_184 rfl (lv_at hl 4 rfl) ?_
        refine va_get (pc := 185) (D := G.1) (ci := 8) (v := .ref hw0_1) (C := RX11) (T := TX11) (N := 14) hx hb hts inX11 hown hK.1 hP 0 rfl rfl 0 (by decide) (hts _ wd_880) (fun _ h9 => h9) rfl dX11_plan_185 ?_
        refine lv_sipush (pc := 188) (v := (348 : Int32)) hx hb dX11_plan_188 (by decide) ?_
        refine lv_iload (pc := 191) hx hb dX11_plan_191 (lv_at hl 2 rfl) ?_
        obtain ⟨hg, hf⟩ := gd_some hf
        refine va_iast (pc := 193) hx hb hK.1 hP hD hS 1 0 rfl rfl hg dX11_plan_193 (fun H locs hP hD hS => ?_)
        have hP : va_P G.1 vwCl [(hw0_0, .inr (8, [.ref hw0_1, .ref hw0_2, .int w0.2.2.1, .int w0.2.2.2.1, .ref hw0_3, .ref hw0_4, .int w0.2.2.2.2.2.2.1, .int w0.2.2.2.2.2.2.2.1, .int w0.2.2.2.2.2.2.2.2.1, .ref hw0_5, .ref hw0_6, .ref hw0_7, .int w0.2.2.2.2.2.2.2.2.2.2.2.2.1, .ref hw0_8])), (hw0_1, .inl (G.2.1, 617, .inl (upd w0.1 (348 : Int32).toNatClampNeg v4))), (hw0_2, .inl (G.2.1, 2468, .inl w0.2.1)), (hw0_3, .inl (G.2.1, 30, .inl w0.2.2.2.2.1)), (hw0_4, .inl (G.2.1, 4000, .inl w0.2.2.2.2.2.1)), (hw0_5, .inl (G.2.1, 120, .inl w0.2.2.2.2.2.2.2.2.2.1)), (hw0_6, .inl (G.2.1, 64, .inl w0.2.2.2.2.2.2.2.2.2.2.1)), (hw0_7, .inl (G.2.2.1, 64, .inl w0.2.2.2.2.2.2.2.2.2.2.2.1)), (hw0_8, .inl (G.2.1, 64, .inl w0.2.2.2.2.2.2.2.2.2.2.2.2.2))] H := hP
        have hD : va_D A [(hw0_0, .inr (8, [.ref hw0_1, .ref hw0_2, .int w0.2.2.1, .int w0.2.2.2.1, .ref hw0_3, .ref hw0_4, .int w0.2.2.2.2.2.2.1, .int w0.2.2.2.2.2.2.2.1, .int w0.2.2.2.2.2.2.2.2.1, .ref hw0_5, .ref hw0_6, .ref hw0_7, .int w0.2.2.2.2.2.2.2.2.2.2.2.2.1, .ref hw0_8])), (hw0_1, .inl (G.2.1, 617, .inl (upd w0.1 (348 : Int32).toNatClampNeg v4))), (hw0_2, .inl (G.2.1, 2468, .inl w0.2.1)), (hw0_3, .inl (G.2.1, 30, .inl w0.2.2.2.2.1)), (hw0_4, .inl (G.2.1, 4000, .inl w0.2.2.2.2.2.1)), (hw0_5, .inl (G.2.1, 120, .inl w0.2.2.2.2.2.2.2.2.2.1)), (hw0_6, .inl (G.2.1, 64, .inl w0.2.2.2.2.2.2.2.2.2.2.1)), (hw0_7, .inl (G.2.2.1, 64, .inl w0.2.2.2.2.2.2.2.2.2.2.2.1)), (hw0_8, .inl (G.2.1, 64, .inl w0.2.2.2.2.2.2.2.2.2.2.2.2.2))] := hD
        refine lv_aload_n (pc := 194) hx hb dX11_plan_194 rfl (lv_at hl 4 rfl) ?_
        refine va_get (pc := 195) (D := G.1) (ci := 8) (v := .ref hw0_1) (C := RX11) (T := TX11) (N := 14) hx hb hts inX11 hown hK.1 hP 0 rfl rfl 0 (by decide) (hts _ wd_880) (fun _ h9 => h9) rfl dX11_plan_195 ?_
        refine lv_sipush (pc := 198) (v := (317 : Int32)) hx hb dX11_plan_198 (by decide) ?_
        refine lv_iconst (pc := 201) (v := (1 : Int32)) hx hb dX11_plan_201 (by decide) ?_
        obtain ⟨hg, hf⟩ := gd_some hf
        refine va_iast (pc := 202) hx hb hK.1 hP hD hS 1 0 rfl rfl hg dX11_plan_202 (fun H locs hP hD hS => ?_)
        have hP : va_P G.1 vwCl [(hw0_0, .inr (8, [.ref hw0_1, .ref hw0_2, .int w0.2.2.1, .int w0.2.2.2.1, .ref hw0_3, .ref hw0_4, .int w0.2.2.2.2.2.2.1, .int w0.2.2.2.2.2.2.2.1, .int w0.2.2.2.2.2.2.2.2.1, .ref hw0_5, .ref hw0_6, .ref hw0_7, .int w0.2.2.2.2.2.2.2.2.2.2.2.2.1, .ref hw0_8])), (hw0_1, .inl (G.2.1, 617, .inl (upd (upd w0.1 (348 : Int32).toNatClampNeg v4) (317 : Int32).toNatClampNeg (1 : Int32)))), (hw0_2, .inl (G.2.1, 2468, .inl w0.2.1)), (hw0_3, .inl (G.2.1, 30, .inl w0.2.2.2.2.1)), (hw0_4, .inl (G.2.1, 4000, .inl w0.2.2.2.2.2.1)), (hw0_5, .inl (G.2.1, 120, .inl w0.2.2.2.2.2.2.2.2.2.1)), (hw0_6, .inl (G.2.1, 64, .inl w0.2.2.2.2.2.2.2.2.2.2.1)), (hw0_7, .inl (G.2.2.1, 64, .inl w0.2.2.2.2.2.2.2.2.2.2.2.1)), (hw0_8, .inl (G.2.1, 64, .inl w0.2.2.2.2.2.2.2.2.2.2.2.2.2))] H := hP
        have hD : va_D A [(hw0_0, .inr (8, [.ref hw0_1, .ref hw0_2, .int w0.2.2.1, .int w0.2.2.2.1, .ref hw0_3, .ref hw0_4, .int w0.2.2.2.2.2.2.1, .int w0.2.2.2.2.2.2.2.1, .int w0.2.2.2.2.2.2.2.2.1, .ref hw0_5, .ref hw0_6, .ref hw0_7, .int w0.2.2.2.2.2.2.2.2.2.2.2.2.1, .ref hw0_8])), (hw0_1, .inl (G.2.1, 617, .inl (upd (upd w0.1 (348 : Int32).toNatClampNeg v4) (317 : Int32).toNatClampNeg (1 : Int32)))), (hw0_2, .inl (G.2.1, 2468, .inl w0.2.1)), (hw0_3, .inl (G.2.1, 30, .inl w0.2.2.2.2.1)), (hw0_4, .inl (G.2.1, 4000, .inl w0.2.2.2.2.2.1)), (hw0_5, .inl (G.2.1, 120, .inl w0.2.2.2.2.2.2.2.2.2.1)), (hw0_6, .inl (G.2.1, 64, .inl w0.2.2.2.2.2.2.2.2.2.2.1)), (hw0_7, .inl (G.2.2.1, 64, .inl w0.2.2.2.2.2.2.2.2.2.2.2.1)), (hw0_8, .inl (G.2.1, 64, .inl w0.2.2.2.2.2.2.2.2.2.2.2.2.2))] := hD
        refine lv_iload (pc := 203) hx hb dX11_plan_203 (lv_at hl 1 rfl) ?_
        have hf := Option.some.inj hf; subst hf
        rw [← hQ]
        exact g_iret hx hb hr hlocks hP hS dX11_plan_205
      · have hf := br_n hc hf
        refine lv_aload_n (pc := 143) hx hb dX11_plan_143 rfl (lv_at hl 4 rfl) ?_
        refine lv_iload (pc := 144) hx hb dX11_plan_144 (lv_at hl 0 rfl) ?_
        obtain ⟨x7, hcx7, hf⟩ := bn_some hf
        refine g_callV0 (pc := 146) (rest := []) hx hb hml hown hts hK (c_X11_isCopy l G hw0_0 hw0_1 hw0_2 hw0_3 hw0_4 hw0_5 hw0_6 hw0_7 hw0_8 w0 v6 hcx7) wd_1022 wd_10 wd_1019 wd_1021 ws_24 hd_X11_isCopy ⟨rfl, rfl, Nat.le_of_ble_eq_true rfl, Nat.le_of_ble_eq_true rfl⟩ hP hD hS hA [0, 1, 2, 3, 4, 5, 6, 7, 8] rfl rfl 8 0 rfl rfl rfl rfl hl.1 rfl (Nat.le_of_ble_eq_true rfl) dX11_plan_146 ⟨Nat.zero_le _, Nat.zero_le _⟩ (fun H locs hP hS => ?_)
        refine lv_if_eq (pc := 149) (tgt := 163) hx hb dX11_plan_149 (by decide) (fun hc => ?_) (fun hc => ?_)
        · have hf := br_y hc hf
          exact hJ163 w0 v6 v5 v4 v3 hf H locs hP hD hS ls (lv_sub hl [0, 1, 2, 3, 4] rfl)
        · have hf := br_n hc hf
          refine lv_iload (pc := 152) hx hb dX11_plan_152 (lv_at hl 2 rfl) ?_
          refine lv_iload (pc := 154) hx hb dX11_plan_154 (lv_at hl 0 rfl) ?_
          refine lv_ishr (pc := 156) hx hb dX11_plan_156 ?_
          refine lv_iconst (pc := 157) (v := (1 : Int32)) hx hb dX11_plan_157 (by decide) ?_
          refine lv_iand (pc := 158) hx hb dX11_plan_158 ?_
          refine lv_iconst (pc := 159) (v := (1 : Int32)) hx hb dX11_plan_159 (by decide) ?_
          refine lv_icmp_ne (pc := 160) (tgt := 178) hx hb dX11_plan_160 (by decide) (fun hc => ?_) (fun hc => ?_)
          · have hf := br_n hc hf
            exact hJ178 w0 v3 v6 v5 v4 hf H locs hP hD hS ls (lv_sub hl [3, 0, 1, 2, 4] rfl)
          · have hf := br_y hc hf
            exact hJ163 w0 v6 v5 v4 v3 hf H locs hP hD hS ls (lv_sub hl [0, 1, 2, 3, 4] rfl)
  have hL60 : ∀ (k60 : Nat) (w0 : TModel) (v5 : Int32) (v4 : Int32) (v3 : Int32) (v2 : Int32), f_X11_plan_L60 p1  k60 w0 v5 v4 v3 v2 = some r → ∀ (H : Heap) (locs : List Loc), va_P G.1 vwCl [(hw0_0, .inr (8, [.ref hw0_1, .ref hw0_2, .int w0.2.2.1, .int w0.2.2.2.1, .ref hw0_3, .ref hw0_4, .int w0.2.2.2.2.2.2.1, .int w0.2.2.2.2.2.2.2.1, .int w0.2.2.2.2.2.2.2.2.1, .ref hw0_5, .ref hw0_6, .ref hw0_7, .int w0.2.2.2.2.2.2.2.2.2.2.2.2.1, .ref hw0_8])), (hw0_1, .inl (G.2.1, 617, .inl w0.1)), (hw0_2, .inl (G.2.1, 2468, .inl w0.2.1)), (hw0_3, .inl (G.2.1, 30, .inl w0.2.2.2.2.1)), (hw0_4, .inl (G.2.1, 4000, .inl w0.2.2.2.2.2.1)), (hw0_5, .inl (G.2.1, 120, .inl w0.2.2.2.2.2.2.2.2.2.1)), (hw0_6, .inl (G.2.1, 64, .inl w0.2.2.2.2.2.2.2.2.2.2.1)), (hw0_7, .inl (G.2.2.1, 64, .inl w0.2.2.2.2.2.2.2.2.2.2.2.1)), (hw0_8, .inl (G.2.1, 64, .inl w0.2.2.2.2.2.2.2.2.2.2.2.2.2))] H → va_D A [(hw0_0, .inr (8, [.ref hw0_1, .ref hw0_2, .int w0.2.2.1, .int w0.2.2.2.1, .ref hw0_3, .ref hw0_4, .int w0.2.2.2.2.2.2.1, .int w0.2.2.2.2.2.2.2.1, .int w0.2.2.2.2.2.2.2.2.1, .ref hw0_5, .ref hw0_6, .ref hw0_7, .int w0.2.2.2.2.2.2.2.2.2.2.2.2.1, .ref hw0_8])), (hw0_1, .inl (G.2.1, 617, .inl w0.1)), (hw0_2, .inl (G.2.1, 2468, .inl w0.2.1)), (hw0_3, .inl (G.2.1, 30, .inl w0.2.2.2.2.1)), (hw0_4, .inl (G.2.1, 4000, .inl w0.2.2.2.2.2.1)), (hw0_5, .inl (G.2.1, 120, .inl w0.2.2.2.2.2.2.2.2.2.1)), (hw0_6, .inl (G.2.1, 64, .inl w0.2.2.2.2.2.2.2.2.2.2.1)), (hw0_7, .inl (G.2.2.1, 64, .inl w0.2.2.2.2.2.2.2.2.2.2.2.1)), (hw0_8, .inl (G.2.1, 64, .inl w0.2.2.2.2.2.2.2.2.2.2.2.2.2))] → va_S A s.heap H locs → ∀ (ls : Array Slot), lv_has ls 7 [(5, .int v5), (4, .int v4), (3, .int v3), (2, .int v2), (0, .ref hw0_0), (1, .int p1)] → W p l e (rm_X11_plan) s m args below meth c H locs 0 0 Q (F0 m 60 ls []) := by
    intro k60
    induction k60 with
    | zero =>
      intro w0 v5 v4 v3 v2 hf
      rw [f_X11_plan_L60.eq_1] at hf; cases hf
    | succ k60 ih60 =>
      have hJ115 : ∀ (w0 : TModel) (v3 : Int32) (v6 : Int32) (v5 : Int32) (v4 : Int32) (v2 : Int32), f_X11_plan_J115 p1 (f_X11_plan_L60 p1 k60) w0 v3 v6 v5 v4 v2 = some r → ∀ (H : Heap) (locs : List Loc), va_P G.1 vwCl [(hw0_0, .inr (8, [.ref hw0_1, .ref hw0_2, .int w0.2.2.1, .int w0.2.2.2.1, .ref hw0_3, .ref hw0_4, .int w0.2.2.2.2.2.2.1, .int w0.2.2.2.2.2.2.2.1, .int w0.2.2.2.2.2.2.2.2.1, .ref hw0_5, .ref hw0_6, .ref hw0_7, .int w0.2.2.2.2.2.2.2.2.2.2.2.2.1, .ref hw0_8])), (hw0_1, .inl (G.2.1, 617, .inl w0.1)), (hw0_2, .inl (G.2.1, 2468, .inl w0.2.1)), (hw0_3, .inl (G.2.1, 30, .inl w0.2.2.2.2.1)), (hw0_4, .inl (G.2.1, 4000, .inl w0.2.2.2.2.2.1)), (hw0_5, .inl (G.2.1, 120, .inl w0.2.2.2.2.2.2.2.2.2.1)), (hw0_6, .inl (G.2.1, 64, .inl w0.2.2.2.2.2.2.2.2.2.2.1)), (hw0_7, .inl (G.2.2.1, 64, .inl w0.2.2.2.2.2.2.2.2.2.2.2.1)), (hw0_8, .inl (G.2.1, 64, .inl w0.2.2.2.2.2.2.2.2.2.2.2.2.2))] H → va_D A [(hw0_0, .inr (8, [.ref hw0_1, .ref hw0_2, .int w0.2.2.1, .int w0.2.2.2.1, .ref hw0_3, .ref hw0_4, .int w0.2.2.2.2.2.2.1, .int w0.2.2.2.2.2.2.2.1, .int w0.2.2.2.2.2.2.2.2.1, .ref hw0_5, .ref hw0_6, .ref hw0_7, .int w0.2.2.2.2.2.2.2.2.2.2.2.2.1, .ref hw0_8])), (hw0_1, .inl (G.2.1, 617, .inl w0.1)), (hw0_2, .inl (G.2.1, 2468, .inl w0.2.1)), (hw0_3, .inl (G.2.1, 30, .inl w0.2.2.2.2.1)), (hw0_4, .inl (G.2.1, 4000, .inl w0.2.2.2.2.2.1)), (hw0_5, .inl (G.2.1, 120, .inl w0.2.2.2.2.2.2.2.2.2.1)), (hw0_6, .inl (G.2.1, 64, .inl w0.2.2.2.2.2.2.2.2.2.2.1)), (hw0_7, .inl (G.2.2.1, 64, .inl w0.2.2.2.2.2.2.2.2.2.2.2.1)), (hw0_8, .inl (G.2.1, 64, .inl w0.2.2.2.2.2.2.2.2.2.2.2.2.2))] → va_S A s.heap H locs → ∀ (ls : Array Slot), lv_has ls 7 [(3, .int v3), (6, .int v6), (5, .int v5), (4, .int v4), (2, .int v2), (0, .ref hw0_0), (1, .int p1)] → W p l e (rm_X11_plan) s m args below meth c H locs 0 0 Q (F0 m 115 ls []) := by
        intro w0 v3 v6 v5 v4 v2 hf H locs hP hD hS ls hl
        unfold f_X11_plan_J115 at hf
        refine lv_iload_n (pc := 115) hx hb dX11_plan_115 rfl (lv_at hl 4 rfl) ?_
        refine lv_iconst (pc := 116) (v := (1 : Int32)) hx hb dX11_plan_116 (by decide) ?_
        refine lv_iload (pc := 117) hx hb dX11_plan_117 (lv_at hl 1 rfl) ?_
        refine lv_ishl (pc := 119) hx hb dX11_plan_119 ?_
        refine lv_iconst (pc := 120) (v := (-1 : Int32)) hx hb dX11_plan_120 (by decide) ?_
        refine lv_ixor (pc := 121) hx hb dX11_plan_121 ?_
        refine lv_iand (pc := 122) hx hb dX11_plan_122 ?_
        refine lv_topi (fun x9 ex9 => ?_)
        have hf := nm_some hf ex9
        refine lv_istore_n (pc := 123) (lv' := [(2, .int x9), (3, .int v3), (6, .int v6), (5, .int v5), (4, .int v4), (0, .ref hw0_0), (1, .int p1)]) hx hb dX11_plan_123 rfl hl (by decide) rfl (fun ls hl => ?_)
        refine lv_goto (pc := 124) (tgt := 60) hx hb dX11_plan_124 (by decide) ?_
        exact ih60 w0 v5 v4 v3 x9 hf H locs hP hD hS ls (lv_sub hl [3, 4, 1, 0, 5, 6] rfl)
      intro w0 v5 v4 v3 v2 hf H locs hP hD hS ls hl
      rw [f_X11_plan_L60.eq_2] at hf
      refine lv_iload_n (pc := 60) hx hb dX11_plan_60 rfl (lv_at hl 3 rfl) ?_
      refine lv_if_eq (pc := 61) (tgt := 127) hx hb dX11_plan_61 (by decide) (fun hc => ?_) (fun hc => ?_)
      · have hf := br_y hc hf
        refine lv_iconst (pc := 127) (v := (0 : Int32)) hx hb dX11_plan_127 (by decide) ?_
        refine lv_istore (pc := 128) (lv' := [(6, .int (0 : Int32)), (5, .int v5), (4, .int v4), (3, .int v3), (2, .int v2), (0, .ref hw0_0), (1, .int p1)]) hx hb dX11_plan_128 hl (by decide) rfl (fun ls hl => ?_)
        exact hL130 FUEL w0 (0 : Int32) v5 v4 v3 hf H locs hP hD hS ls (lv_sub hl [0, 1, 2, 3, 5] rfl)
      · have hf := br_n hc hf
        refine lv_aload_n (pc := 64) hx hb dX11_plan_64 rfl (lv_at hl 4 rfl) ?_
        refine lv_iload_n (pc := 65) hx hb dX11_plan_65 rfl (lv_at hl 3 rfl) ?_
        obtain ⟨x8, hcx8, hf⟩ := bn_some hf
        refine g_callV0 (pc := 66) (rest := []) hx hb hml hown hts hK (c_X11_freeOf l G hw0_0 hw0_1 hw0_2 hw0_3 hw0_4 hw0_5 hw0_6 hw0_7 hw0_8 w0 v2 hcx8) wd_1035 wd_10 wd_1032 wd_1034 ws_26 hd_X11_freeOf ⟨rfl, rfl, Nat.le_of_ble_eq_true rfl, Nat.le_of_ble_eq_true rfl⟩ hP hD hS hA [0, 1, 2, 3, 4, 5, 6, 7, 8] rfl rfl 8 0 rfl rfl rfl rfl hl.1 rfl (Nat.le_of_ble_eq_true rfl) dX11_plan_66 ⟨Nat.zero_le _, Nat.zero_le _⟩ (fun H locs hP hS => ?_)
        refine lv_istore (pc := 69) (lv' := [(6, .int x8), (5, .int v5), (4, .int v4), (3, .int v3), (2, .int v2), (0, .ref hw0_0), (1, .int p1)]) hx hb dX11_plan_69 hl (by decide) rfl (fun ls hl => ?_)
        refine lv_iload (pc := 71) hx hb dX11_plan_71 (lv_at hl 0 rfl) ?_
        refine lv_iconst (pc := 73) (v := (-1 : Int32)) hx hb dX11_plan_73 (by decide) ?_
        refine lv_icmp_ne (pc := 74) (tgt := 100) hx hb dX11_plan_74 (by decide) (fun hc => ?_) (fun hc => ?_)
        · have hf := br_n hc hf
          refine lv_aload_n (pc := 100) hx hb dX11_plan_100 rfl (lv_at hl 5 rfl) ?_
          refine va_get (pc := 101) (D := G.1) (ci := 8) (v := .ref hw0_1) (C := RX11) (T := TX11) (N := 14) hx hb hts inX11 hown hK.1 hP 0 rfl rfl 0 (by decide) (hts _ wd_880) (fun _ h9 => h9) rfl dX11_plan_101 ?_
          refine lv_sipush (pc := 104) (v := (318 : Int32)) hx hb dX11_plan_104 (by decide) ?_
          refine lv_iload_n (pc := 107) hx hb dX11_plan_107 rfl (lv_at hl 3 rfl) ?_
          refine lv_iadd (pc := 108) hx hb dX11_plan_108 ?_
          refine lv_iload (pc := 109) hx hb dX11_plan_109 (lv_at hl 0 rfl) ?_
          obtain ⟨hg, hf⟩ := gd_some hf
          refine va_iast (pc := 111) hx hb hK.1 hP hD hS 1 0 rfl rfl hg dX11_plan_111 (fun H locs hP hD hS => ?_)
          have hP : va_P G.1 vwCl [(hw0_0, .inr (8, [.ref hw0_1, .ref hw0_2, .int w0.2.2.1, .int w0.2.2.2.1, .ref hw0_3, .ref hw0_4, .int w0.2.2.2.2.2.2.1, .int w0.2.2.2.2.2.2.2.1, .int w0.2.2.2.2.2.2.2.2.1, .ref hw0_5, .ref hw0_6, .ref hw0_7, .int w0.2.2.2.2.2.2.2.2.2.2.2.2.1, .ref hw0_8])), (hw0_1, .inl (G.2.1, 617, .inl (upd w0.1 ((318 : Int32) + v3).toNatClampNeg x8))), (hw0_2, .inl (G.2.1, 2468, .inl w0.2.1)), (hw0_3, .inl (G.2.1, 30, .inl w0.2.2.2.2.1)), (hw0_4, .inl (G.2.1, 4000, .inl w0.2.2.2.2.2.1)), (hw0_5, .inl (G.2.1, 120, .inl w0.2.2.2.2.2.2.2.2.2.1)), (hw0_6, .inl (G.2.1, 64, .inl w0.2.2.2.2.2.2.2.2.2.2.1)), (hw0_7, .inl (G.2.2.1, 64, .inl w0.2.2.2.2.2.2.2.2.2.2.2.1)), (hw0_8, .inl (G.2.1, 64, .inl w0.2.2.2.2.2.2.2.2.2.2.2.2.2))] H := hP
          have hD : va_D A [(hw0_0, .inr (8, [.ref hw0_1, .ref hw0_2, .int w0.2.2.1, .int w0.2.2.2.1, .ref hw0_3, .ref hw0_4, .int w0.2.2.2.2.2.2.1, .int w0.2.2.2.2.2.2.2.1, .int w0.2.2.2.2.2.2.2.2.1, .ref hw0_5, .ref hw0_6, .ref hw0_7, .int w0.2.2.2.2.2.2.2.2.2.2.2.2.1, .ref hw0_8])), (hw0_1, .inl (G.2.1, 617, .inl (upd w0.1 ((318 : Int32) + v3).toNatClampNeg x8))), (hw0_2, .inl (G.2.1, 2468, .inl w0.2.1)), (hw0_3, .inl (G.2.1, 30, .inl w0.2.2.2.2.1)), (hw0_4, .inl (G.2.1, 4000, .inl w0.2.2.2.2.2.1)), (hw0_5, .inl (G.2.1, 120, .inl w0.2.2.2.2.2.2.2.2.2.1)), (hw0_6, .inl (G.2.1, 64, .inl w0.2.2.2.2.2.2.2.2.2.2.1)), (hw0_7, .inl (G.2.2.1, 64, .inl w0.2.2.2.2.2.2.2.2.2.2.2.1)), (hw0_8, .inl (G.2.1, 64, .inl w0.2.2.2.2.2.2.2.2.2.2.2.2.2))] := hD
          refine lv_iinc (pc := 112) (v := (v3 + (1 : Int32))) (lv' := [(3, .int (v3 + (1 : Int32))), (6, .int x8), (5, .int v5), (4, .int v4), (2, .int v2), (0, .ref hw0_0), (1, .int p1)]) hx hb dX11_plan_112 hl (k := 3) rfl rfl (by decide) rfl (fun ls hl => ?_)
          exact hJ115 ((upd w0.1 ((318 : Int32) + v3).toNatClampNeg x8), w0.2.1, w0.2.2.1, w0.2.2.2.1, w0.2.2.2.2.1, w0.2.2.2.2.2.1, w0.2.2.2.2.2.2.1, w0.2.2.2.2.2.2.2.1, w0.2.2.2.2.2.2.2.2.1, w0.2.2.2.2.2.2.2.2.2.1, w0.2.2.2.2.2.2.2.2.2.2.1, w0.2.2.2.2.2.2.2.2.2.2.2.1, w0.2.2.2.2.2.2.2.2.2.2.2.2.1, w0.2.2.2.2.2.2.2.2.2.2.2.2.2) (v3 + (1 : Int32)) x8 v5 v4 v2 hf H locs hP hD hS ls (lv_sub hl [0, 1, 2, 3, 4, 5, 6] rfl)
        · have hf := br_y hc hf
          refine lv_aload_n (pc := 77) hx hb dX11_plan_77 rfl (lv_at hl 5 rfl) ?_
          refine lv_iload_n (pc := 78) hx hb dX11_plan_78 rfl (lv_at hl 4 rfl) ?_
          refine lv_iload_n (pc := 79) hx hb dX11_plan_79 rfl (lv_at hl 6 rfl) ?_
          obtain ⟨x10, hcx10, hf⟩ := bn_some hf
          refine g_callV0 (pc := 80) (rest := []) hx hb hml hown hts hK (c_X11_victim l G hw0_0 hw0_1 hw0_2 hw0_3 hw0_4 hw0_5 hw0_6 hw0_7 hw0_8 w0 v2 p1 hcx10) wd_1039 wd_10 wd_1036 wd_1038 ws_27 hd_X11_victim ⟨rfl, rfl, Nat.le_of_ble_eq_true rfl, Nat.le_of_ble_eq_true rfl⟩ hP hD hS hA [0, 1, 2, 3, 4, 5, 6, 7, 8] rfl rfl 8 0 rfl rfl rfl rfl hl.1 rfl (Nat.le_of_ble_eq_true rfl) dX11_plan_80 ⟨Nat.zero_le _, Nat.zero_le _⟩ (fun H locs hP hS => ?_)
          refine lv_istore (pc := 83) (lv' := [(6, .int x10), (5, .int v5), (4, .int v4), (3, .int v3), (2, .int v2), (0, .ref hw0_0), (1, .int p1)]) hx hb dX11_plan_83 hl (by decide) rfl (fun ls hl => ?_)
          refine lv_iload (pc := 85) hx hb dX11_plan_85 (lv_at hl 2 rfl) ?_
          refine lv_iconst (pc := 87) (v := (1 : Int32)) hx hb dX11_plan_87 (by decide) ?_
          refine lv_iload (pc := 88) hx hb dX11_plan_88 (lv_at hl 0 rfl) ?_
          refine lv_ishl (pc := 90) hx hb dX11_plan_90 ?_
          refine lv_ior (pc := 91) hx hb dX11_plan_91 ?_
          refine lv_istore (pc := 92) (lv' := [(4, .int (v4 ||| ((1 : Int32) <<< (x10 &&& 31)))), (6, .int x10), (5, .int v5), (3, .int v3), (2, .int v2), (0, .ref hw0_0), (1, .int p1)]) hx hb dX11_plan_92 hl (by decide) rfl (fun ls hl => ?_)
          refine lv_iinc (pc := 94) (v := (v5 + (1 : Int32))) (lv' := [(5, .int (v5 + (1 : Int32))), (4, .int (v4 ||| ((1 : Int32) <<< (x10 &&& 31)))), (6, .int x10), (3, .int v3), (2, .int v2), (0, .ref hw0_0), (1, .int p1)]) hx hb dX11_plan_94 hl (k := 2) rfl rfl (by decide) rfl (fun ls hl => ?_)
          refine lv_goto (pc := 97) (tgt := 115) hx hb dX11_plan_97 (by decide) ?_
          exact hJ115 w0 v3 x10 (v5 + (1 : Int32)) (v4 ||| ((1 : Int32) <<< (x10 &&& 31))) v2 hf H locs hP hD hS ls (lv_sub hl [3, 2, 0, 1, 4, 5, 6] rfl)
  have hJ31 : ∀ (w0 : TModel) (s0 : Int32) (s1 : Int32), f_X11_plan_J31 p1  w0 s0 s1 = some r → ∀ (H : Heap) (locs : List Loc), va_P G.1 vwCl [(hw0_0, .inr (8, [.ref hw0_1, .ref hw0_2, .int w0.2.2.1, .int w0.2.2.2.1, .ref hw0_3, .ref hw0_4, .int w0.2.2.2.2.2.2.1, .int w0.2.2.2.2.2.2.2.1, .int w0.2.2.2.2.2.2.2.2.1, .ref hw0_5, .ref hw0_6, .ref hw0_7, .int w0.2.2.2.2.2.2.2.2.2.2.2.2.1, .ref hw0_8])), (hw0_1, .inl (G.2.1, 617, .inl w0.1)), (hw0_2, .inl (G.2.1, 2468, .inl w0.2.1)), (hw0_3, .inl (G.2.1, 30, .inl w0.2.2.2.2.1)), (hw0_4, .inl (G.2.1, 4000, .inl w0.2.2.2.2.2.1)), (hw0_5, .inl (G.2.1, 120, .inl w0.2.2.2.2.2.2.2.2.2.1)), (hw0_6, .inl (G.2.1, 64, .inl w0.2.2.2.2.2.2.2.2.2.2.1)), (hw0_7, .inl (G.2.2.1, 64, .inl w0.2.2.2.2.2.2.2.2.2.2.2.1)), (hw0_8, .inl (G.2.1, 64, .inl w0.2.2.2.2.2.2.2.2.2.2.2.2.2))] H → va_D A [(hw0_0, .inr (8, [.ref hw0_1, .ref hw0_2, .int w0.2.2.1, .int w0.2.2.2.1, .ref hw0_3, .ref hw0_4, .int w0.2.2.2.2.2.2.1, .int w0.2.2.2.2.2.2.2.1, .int w0.2.2.2.2.2.2.2.2.1, .ref hw0_5, .ref hw0_6, .ref hw0_7, .int w0.2.2.2.2.2.2.2.2.2.2.2.2.1, .ref hw0_8])), (hw0_1, .inl (G.2.1, 617, .inl w0.1)), (hw0_2, .inl (G.2.1, 2468, .inl w0.2.1)), (hw0_3, .inl (G.2.1, 30, .inl w0.2.2.2.2.1)), (hw0_4, .inl (G.2.1, 4000, .inl w0.2.2.2.2.2.1)), (hw0_5, .inl (G.2.1, 120, .inl w0.2.2.2.2.2.2.2.2.2.1)), (hw0_6, .inl (G.2.1, 64, .inl w0.2.2.2.2.2.2.2.2.2.2.1)), (hw0_7, .inl (G.2.2.1, 64, .inl w0.2.2.2.2.2.2.2.2.2.2.2.1)), (hw0_8, .inl (G.2.1, 64, .inl w0.2.2.2.2.2.2.2.2.2.2.2.2.2))] → va_S A s.heap H locs → ∀ (ls : Array Slot), lv_has ls 7 [(0, .ref hw0_0), (1, .int p1)] → W p l e (rm_X11_plan) s m args below meth c H locs 0 0 Q (F0 m 31 ls [.int s0, .int s1, .ref hw0_0]) := by
    intro w0 s0 s1 hf H locs hP hD hS ls hl
    unfold f_X11_plan_J31 at hf
    obtain ⟨x3, hcx3, hf⟩ := bn_some hf
    refine g_callV (pc := 31) (ws' := [(hw0_0, .inr (8, [.ref hw0_1, .ref hw0_2, .int x3.2.2.2.1, .int x3.2.2.2.2.1, .ref hw0_3, .ref hw0_4, .int x3.2.2.2.2.2.2.2.1, .int x3.2.2.2.2.2.2.2.2.1, .int x3.2.2.2.2.2.2.2.2.2.1, .ref hw0_5, .ref hw0_6, .ref hw0_7, .int x3.2.2.2.2.2.2.2.2.2.2.2.2.2.1, .ref hw0_8])), (hw0_1, .inl (G.2.1, 617, .inl x3.2.1)), (hw0_2, .inl (G.2.1, 2468, .inl x3.2.2.1)), (hw0_3, .inl (G.2.1, 30, .inl x3.2.2.2.2.2.1)), (hw0_4, .inl (G.2.1, 4000, .inl x3.2.2.2.2.2.2.1)), (hw0_5, .inl (G.2.1, 120, .inl x3.2.2.2.2.2.2.2.2.2.2.1)), (hw0_6, .inl (G.2.1, 64, .inl x3.2.2.2.2.2.2.2.2.2.2.2.1)), (hw0_7, .inl (G.2.2.1, 64, .inl x3.2.2.2.2.2.2.2.2.2.2.2.2.1)), (hw0_8, .inl (G.2.1, 64, .inl x3.2.2.2.2.2.2.2.2.2.2.2.2.2.2))]) (rest := []) hx hb hml hown hts hK (c_X11_goes l G hw0_0 hw0_1 hw0_2 hw0_3 hw0_4 hw0_5 hw0_6 hw0_7 hw0_8 w0 s1 s0 hcx3) wd_949 wd_10 wd_946 wd_948 ws_13 hd_X11_goes ⟨rfl, rfl, Nat.le_of_ble_eq_true rfl, Nat.le_of_ble_eq_true rfl⟩ hP hD hS hA [0, 1, 2, 3, 4, 5, 6, 7, 8] rfl rfl rfl rfl 8 0 rfl rfl rfl rfl hl.1 rfl (Nat.le_of_ble_eq_true rfl) dX11_plan_31 ⟨Nat.zero_le _, Nat.zero_le _⟩ (fun H locs hP hD hS => ?_)
    refine lv_if_ne (pc := 34) (tgt := 39) hx hb dX11_plan_34 (by decide) (fun hc => ?_) (fun hc => ?_)
    · have hf := br_n hc hf
      refine lv_aload_n (pc := 39) hx hb dX11_plan_39 rfl (lv_at hl 0 rfl) ?_
      obtain ⟨x4, hcx4, hf⟩ := bn_some hf
      refine g_callV (pc := 40) (ws' := [(hw0_0, .inr (8, [.ref hw0_1, .ref hw0_2, .int x4.2.2.1, .int x4.2.2.2.1, .ref hw0_3, .ref hw0_4, .int x4.2.2.2.2.2.2.1, .int x4.2.2.2.2.2.2.2.1, .int x4.2.2.2.2.2.2.2.2.1, .ref hw0_5, .ref hw0_6, .ref hw0_7, .int x4.2.2.2.2.2.2.2.2.2.2.2.2.1, .ref hw0_8])), (hw0_1, .inl (G.2.1, 617, .inl x4.1)), (hw0_2, .inl (G.2.1, 2468, .inl x4.2.1)), (hw0_3, .inl (G.2.1, 30, .inl x4.2.2.2.2.1)), (hw0_4, .inl (G.2.1, 4000, .inl x4.2.2.2.2.2.1)), (hw0_5, .inl (G.2.1, 120, .inl x4.2.2.2.2.2.2.2.2.2.1)), (hw0_6, .inl (G.2.1, 64, .inl x4.2.2.2.2.2.2.2.2.2.2.1)), (hw0_7, .inl (G.2.2.1, 64, .inl x4.2.2.2.2.2.2.2.2.2.2.2.1)), (hw0_8, .inl (G.2.1, 64, .inl x4.2.2.2.2.2.2.2.2.2.2.2.2.2))]) (rest := []) hx hb hml hown hts hK (c_X11_save l G hw0_0 hw0_1 hw0_2 hw0_3 hw0_4 hw0_5 hw0_6 hw0_7 hw0_8 x3.2 hcx4) wd_953 wd_10 wd_950 wd_952 ws_14 hd_X11_save ⟨rfl, rfl, Nat.le_of_ble_eq_true rfl, Nat.le_of_ble_eq_true rfl⟩ hP hD hS hA [0, 1, 2, 3, 4, 5, 6, 7, 8] rfl rfl rfl rfl 8 0 rfl rfl rfl rfl hl.1 rfl (Nat.le_of_ble_eq_true rfl) dX11_plan_40 ⟨Nat.zero_le _, Nat.zero_le _⟩ (fun H locs hP hD hS => ?_)
      refine lv_aload_n (pc := 43) hx hb dX11_plan_43 rfl (lv_at hl 0 rfl) ?_
      obtain ⟨x5, hcx5, hf⟩ := bn_some hf
      refine g_callV (pc := 44) (ws' := [(hw0_0, .inr (8, [.ref hw0_1, .ref hw0_2, .int x5.2.2.1, .int x5.2.2.2.1, .ref hw0_3, .ref hw0_4, .int x5.2.2.2.2.2.2.1, .int x5.2.2.2.2.2.2.2.1, .int x5.2.2.2.2.2.2.2.2.1, .ref hw0_5, .ref hw0_6, .ref hw0_7, .int x5.2.2.2.2.2.2.2.2.2.2.2.2.1, .ref hw0_8])), (hw0_1, .inl (G.2.1, 617, .inl x5.1)), (hw0_2, .inl (G.2.1, 2468, .inl x5.2.1)), (hw0_3, .inl (G.2.1, 30, .inl x5.2.2.2.2.1)), (hw0_4, .inl (G.2.1, 4000, .inl x5.2.2.2.2.2.1)), (hw0_5, .inl (G.2.1, 120, .inl x5.2.2.2.2.2.2.2.2.2.1)), (hw0_6, .inl (G.2.1, 64, .inl x5.2.2.2.2.2.2.2.2.2.2.1)), (hw0_7, .inl (G.2.2.1, 64, .inl x5.2.2.2.2.2.2.2.2.2.2.2.1)), (hw0_8, .inl (G.2.1, 64, .inl x5.2.2.2.2.2.2.2.2.2.2.2.2.2))]) (rest := []) hx hb hml hown hts hK (c_X11_dropsPlan l G hw0_0 hw0_1 hw0_2 hw0_3 hw0_4 hw0_5 hw0_6 hw0_7 hw0_8 x4 hcx5) wd_957 wd_10 wd_954 wd_956 ws_15 hd_X11_dropsPlan ⟨rfl, rfl, Nat.le_of_ble_eq_true rfl, Nat.le_of_ble_eq_true rfl⟩ hP hD hS hA [0, 1, 2, 3, 4, 5, 6, 7, 8] rfl rfl rfl rfl 8 0 rfl rfl rfl rfl hl.1 rfl (Nat.le_of_ble_eq_true rfl) dX11_plan_44 ⟨Nat.zero_le _, Nat.zero_le _⟩ (fun H locs hP hD hS => ?_)
      refine lv_aload_n (pc := 47) hx hb dX11_plan_47 rfl (lv_at hl 0 rfl) ?_
      obtain ⟨x6, hcx6, hf⟩ := bn_some hf
      refine g_callV0 (pc := 48) (rest := []) hx hb hml hown hts hK (c_X11_copies l G hw0_0 hw0_1 hw0_2 hw0_3 hw0_4 hw0_5 hw0_6 hw0_7 hw0_8 x5 hcx6) wd_1031 wd_10 wd_1028 wd_1030 ws_25 hd_X11_copies ⟨rfl, rfl, Nat.le_of_ble_eq_true rfl, Nat.le_of_ble_eq_true rfl⟩ hP hD hS hA [0, 1, 2, 3, 4, 5, 6, 7, 8] rfl rfl 8 0 rfl rfl rfl rfl hl.1 rfl (Nat.le_of_ble_eq_true rfl) dX11_plan_48 ⟨Nat.zero_le _, Nat.zero_le _⟩ (fun H locs hP hS => ?_)
      refine lv_istore_n (pc := 51) (lv' := [(2, .int x6), (0, .ref hw0_0), (1, .int p1)]) hx hb dX11_plan_51 rfl hl (by decide) rfl (fun ls hl => ?_)
      refine lv_iconst (pc := 52) (v := (0 : Int32)) hx hb dX11_plan_52 (by decide) ?_
      refine lv_istore_n (pc := 53) (lv' := [(3, .int (0 : Int32)), (2, .int x6), (0, .ref hw0_0), (1, .int p1)]) hx hb dX11_plan_53 rfl hl (by decide) rfl (fun ls hl => ?_)
      refine lv_iconst (pc := 54) (v := (0 : Int32)) hx hb dX11_plan_54 (by decide) ?_
      refine lv_istore (pc := 55) (lv' := [(4, .int (0 : Int32)), (3, .int (0 : Int32)), (2, .int x6), (0, .ref hw0_0), (1, .int p1)]) hx hb dX11_plan_55 hl (by decide) rfl (fun ls hl => ?_)
      refine lv_iconst (pc := 57) (v := (0 : Int32)) hx hb dX11_plan_57 (by decide) ?_
      refine lv_istore (pc := 58) (lv' := [(5, .int (0 : Int32)), (4, .int (0 : Int32)), (3, .int (0 : Int32)), (2, .int x6), (0, .ref hw0_0), (1, .int p1)]) hx hb dX11_plan_58 hl (by decide) rfl (fun ls hl => ?_)
      exact hL60 FUEL x5 (0 : Int32) (0 : Int32) (0 : Int32) x6 hf H locs hP hD hS ls (lv_sub hl [0, 1, 2, 3, 4, 5] rfl)
    · have hf := br_y hc hf
      refine lv_iconst (pc := 37) (v := (0 : Int32)) hx hb dX11_plan_37 (by decide) ?_
      have hf := Option.some.inj hf; subst hf
      rw [← hQ]
      exact g_iret hx hb hr hlocks hP hS dX11_plan_38
  refine lv_aload_n (pc := 0) hx hb dX11_plan_0 rfl (lv_at hl 0 rfl) ?_
  refine lv_iload_n (pc := 1) hx hb dX11_plan_1 rfl (lv_at hl 1 rfl) ?_
  refine lv_i2l (pc := 2) (v := p1.toInt64) hx hb dX11_plan_2 rfl ?_
  refine lv_lconst (pc := 3) (v := (0 : Int64)) hx hb dX11_plan_3 (by decide) ?_
  refine lv_ldc2 (pc := 4) (v := (2 : Int64)) hx hb hown (hts _ wd_1027) dX11_plan_4 ?_
  obtain ⟨x1, hcx1, hf⟩ := bn_some hf
  refine g_callS0 (pc := 7) (rest := [.ref hw0_0]) hx hb hml hown hts hK (c_X11_in l G  p1.toInt64 (0 : Int64) (2 : Int64) hcx1) wd_937 wd_10 wd_935 wd_936 hd_X11_in ⟨rfl, rfl, Nat.le_of_ble_eq_true rfl, Nat.le_of_ble_eq_true rfl⟩ hP hD hS hA [] rfl rfl rfl hl.1 rfl (Nat.le_of_ble_eq_true rfl) dX11_plan_7 ⟨Nat.zero_le _, Nat.zero_le _⟩ (fun H locs hP hS => ?_)
  refine lv_aload_n (pc := 10) hx hb dX11_plan_10 rfl (lv_at hl 0 rfl) ?_
  refine lv_iconst (pc := 11) (v := (0 : Int32)) hx hb dX11_plan_11 (by decide) ?_
  obtain ⟨x2, hcx2, hf⟩ := bn_some hf
  refine g_callV0 (pc := 12) (rest := [.int x1, .ref hw0_0]) hx hb hml hown hts hK (c_X11_longOf l G hw0_0 hw0_1 hw0_2 hw0_3 hw0_4 hw0_5 hw0_6 hw0_7 hw0_8 w0 (0 : Int32) hcx2) wd_945 wd_10 wd_942 wd_944 ws_12 hd_X11_longOf ⟨rfl, rfl, Nat.le_of_ble_eq_true rfl, Nat.le_of_ble_eq_true rfl⟩ hP hD hS hA [0, 1, 2, 3, 4, 5, 6, 7, 8] rfl rfl 8 0 rfl rfl rfl rfl hl.1 rfl (Nat.le_of_ble_eq_true rfl) dX11_plan_12 ⟨Nat.zero_le _, Nat.zero_le _⟩ (fun H locs hP hS => ?_)
  refine lv_aload_n (pc := 15) hx hb dX11_plan_15 rfl (lv_at hl 0 rfl) ?_
  refine va_get (pc := 16) (D := G.1) (ci := 8) (v := .ref hw0_1) (C := RX11) (T := TX11) (N := 14) hx hb hts inX11 hown hK.1 hP 0 rfl rfl 0 (by decide) (hts _ wd_880) (fun _ h9 => h9) rfl dX11_plan_16 ?_
  refine lv_sipush (pc := 19) (v := (130 : Int32)) hx hb dX11_plan_19 (by decide) ?_
  obtain ⟨hg, hf⟩ := gd_some hf
  refine va_iald (pc := 22) hx hb hK.1 hP 1 0 rfl rfl hg dX11_plan_22 ?_
  refine lv_icmp_ne (pc := 23) (tgt := 30) hx hb dX11_plan_23 (by decide) (fun hc => ?_) (fun hc => ?_)
  · have hf := br_n hc hf
    refine lv_iconst (pc := 30) (v := (0 : Int32)) hx hb dX11_plan_30 (by decide) ?_
    exact hJ31 w0 (0 : Int32) x1 hf H locs hP hD hS ls (lv_sub hl [0, 1] rfl)
  · have hf := br_y hc hf
    refine lv_iconst (pc := 26) (v := (1 : Int32)) hx hb dX11_plan_26 (by decide) ?_
    refine lv_goto (pc := 27) (tgt := 31) hx hb dX11_plan_27 (by decide) ?_
    exact hJ31 w0 (1 : Int32) x1 hf H locs hP hD hS ls (lv_sub hl [0, 1] rfl)
theorem hd_X11_isPlanned : yX11_isPlanned.cls ≠ "java/lang/invoke/MethodHandle" ∧ yX11_isPlanned.cls ≠ "java/lang/invoke/VarHandle" ∧ (parseMethodDescriptor yX11_isPlanned.desc).map (fun d => d.parameters.length) = some 0 := by decide +kernel
abbrev rm_X11_isPlanned : Room := { frames := 0, cells := 0, slots := 0, locals := 0 }
noncomputable def f_X11_isPlanned (w0 : TModel) : Option Int32 :=
  gd (vp_in (317 : Int32) 617) (br ((w0.1 (317 : Int32).toNatClampNeg) = (1 : Int32)) (some (1 : Int32)) (some (0 : Int32)))
set_option maxHeartbeats 4000000 in
set_option maxRecDepth 100000 in
theorem c_X11_isPlanned (l : Launch) (G : GT) (hw0_0 hw0_1 hw0_2 hw0_3 hw0_4 hw0_5 hw0_6 hw0_7 hw0_8 : Nat) (w0 : TModel) {r : Int32} (hf : f_X11_isPlanned w0 = some r) : Ct l yX11_isPlanned (Cond.code yX11_isPlanned cX11_isPlanned 1 (some .boolean) :: lw_g) rm_X11_isPlanned G [.ref hw0_0] [(hw0_0, .inr (8, [.ref hw0_1, .ref hw0_2, .int w0.2.2.1, .int w0.2.2.2.1, .ref hw0_3, .ref hw0_4, .int w0.2.2.2.2.2.2.1, .int w0.2.2.2.2.2.2.2.1, .int w0.2.2.2.2.2.2.2.2.1, .ref hw0_5, .ref hw0_6, .ref hw0_7, .int w0.2.2.2.2.2.2.2.2.2.2.2.2.1, .ref hw0_8])), (hw0_1, .inl (G.2.1, 617, .inl w0.1)), (hw0_2, .inl (G.2.1, 2468, .inl w0.2.1)), (hw0_3, .inl (G.2.1, 30, .inl w0.2.2.2.2.1)), (hw0_4, .inl (G.2.1, 4000, .inl w0.2.2.2.2.2.1)), (hw0_5, .inl (G.2.1, 120, .inl w0.2.2.2.2.2.2.2.2.2.1)), (hw0_6, .inl (G.2.1, 64, .inl w0.2.2.2.2.2.2.2.2.2.2.1)), (hw0_7, .inl (G.2.2.1, 64, .inl w0.2.2.2.2.2.2.2.2.2.2.2.1)), (hw0_8, .inl (G.2.1, 64, .inl w0.2.2.2.2.2.2.2.2.2.2.2.2.2))] (some (.int r)) [(hw0_0, .inr (8, [.ref hw0_1, .ref hw0_2, .int w0.2.2.1, .int w0.2.2.2.1, .ref hw0_3, .ref hw0_4, .int w0.2.2.2.2.2.2.1, .int w0.2.2.2.2.2.2.2.1, .int w0.2.2.2.2.2.2.2.2.1, .ref hw0_5, .ref hw0_6, .ref hw0_7, .int w0.2.2.2.2.2.2.2.2.2.2.2.2.1, .ref hw0_8])), (hw0_1, .inl (G.2.1, 617, .inl w0.1)), (hw0_2, .inl (G.2.1, 2468, .inl w0.2.1)), (hw0_3, .inl (G.2.1, 30, .inl w0.2.2.2.2.1)), (hw0_4, .inl (G.2.1, 4000, .inl w0.2.2.2.2.2.1)), (hw0_5, .inl (G.2.1, 120, .inl w0.2.2.2.2.2.2.2.2.2.1)), (hw0_6, .inl (G.2.1, 64, .inl w0.2.2.2.2.2.2.2.2.2.2.1)), (hw0_7, .inl (G.2.2.1, 64, .inl w0.2.2.2.2.2.2.2.2.2.2.2.1)), (hw0_8, .inl (G.2.1, 64, .inl w0.2.2.2.2.2.2.2.2.2.2.2.2.2))] := by
  refine Ct.ofW (cc := cX11_isPlanned) (maxL := 1) (ret := (some .boolean)) (own := RX11) (by decide) rfl rfl (Nat.le_of_ble_eq_true rfl) ?_
  intro p e s m args below meth c A hx hb hr hml hts hown hlocks hK hP hD hA hS ls hl
  have hl : lv_has ls 1 [(0, .ref hw0_0)] := hl
  generalize hQ : gMQ below G _ _ A args s = Q
  generalize hH : s.heap = H at hP ⊢
  have hS : va_S A s.heap H [] := by rw [← hH]; exact hS
  generalize ([] : List Loc) = locs at hS ⊢
  unfold f_X11_isPlanned at hf
  refine lv_aload_n (pc := 0) hx hb dX11_isPlanned_0 rfl (lv_at hl 0 rfl) ?_
  refine va_get (pc := 1) (D := G.1) (ci := 8) (v := .ref hw0_1) (C := RX11) (T := TX11) (N := 14) hx hb hts inX11 hown hK.1 hP 0 rfl rfl 0 (by decide) (hts _ wd_880) (fun _ h9 => h9) rfl dX11_isPlanned_1 ?_
  refine lv_sipush (pc := 4) (v := (317 : Int32)) hx hb dX11_isPlanned_4 (by decide) ?_
  obtain ⟨hg, hf⟩ := gd_some hf
  refine va_iald (pc := 7) hx hb hK.1 hP 1 0 rfl rfl hg dX11_isPlanned_7 ?_
  refine lv_iconst (pc := 8) (v := (1 : Int32)) hx hb dX11_isPlanned_8 (by decide) ?_
  refine lv_icmp_ne (pc := 9) (tgt := 16) hx hb dX11_isPlanned_9 (by decide) (fun hc => ?_) (fun hc => ?_)
  · have hf := br_n hc hf
    refine lv_iconst (pc := 16) (v := (0 : Int32)) hx hb dX11_isPlanned_16 (by decide) ?_
    have hf := Option.some.inj hf; subst hf
    rw [← hQ]
    exact g_zret (v := (0 : Int32)) hx hb hr hlocks rfl hP hS dX11_isPlanned_17
  · have hf := br_y hc hf
    refine lv_iconst (pc := 12) (v := (1 : Int32)) hx hb dX11_isPlanned_12 (by decide) ?_
    refine lv_goto (pc := 13) (tgt := 17) hx hb dX11_isPlanned_13 (by decide) ?_
    have hf := Option.some.inj hf; subst hf
    rw [← hQ]
    exact g_zret (v := (1 : Int32)) hx hb hr hlocks rfl hP hS dX11_isPlanned_17
theorem hd_X11_planned : yX11_planned.cls ≠ "java/lang/invoke/MethodHandle" ∧ yX11_planned.cls ≠ "java/lang/invoke/VarHandle" ∧ (parseMethodDescriptor yX11_planned.desc).map (fun d => d.parameters.length) = some 1 := by decide +kernel
abbrev rm_X11_planned : Room := { frames := 1, cells := 0, slots := 0, locals := 25 }
noncomputable def f_X11_planned (w0 : TModel) (p1 : Int32) : Option (Int32 × TModel) :=
  (f_X11_isPlanned w0).bind (fun x1 => gd (vp_in (132 : Int32) 617) ((f_X11_in p1.toInt64 (0 : Int64) (((w0.1 (132 : Int32).toNatClampNeg) - (1 : Int32)).toInt64)).bind (fun x2 => (f_X11_goes w0 x1 x2).bind (fun x3 => br (x3.1 = 0) (some ((0 : Int32), x3.2)) (gd (vp_in ((318 : Int32) + p1) 617) (some ((x3.2.1 ((318 : Int32) + p1).toNatClampNeg), x3.2)))))))
set_option maxHeartbeats 4000000 in
set_option maxRecDepth 100000 in
theorem c_X11_planned (l : Launch) (G : GT) (hw0_0 hw0_1 hw0_2 hw0_3 hw0_4 hw0_5 hw0_6 hw0_7 hw0_8 : Nat) (w0 : TModel) (p1 : Int32) {r : Int32 × TModel} (hf : f_X11_planned w0 p1 = some r) : Ct l yX11_planned (Cond.code yX11_planned cX11_planned 2 (some .int) :: lw_g) rm_X11_planned G [.ref hw0_0, .int p1] [(hw0_0, .inr (8, [.ref hw0_1, .ref hw0_2, .int w0.2.2.1, .int w0.2.2.2.1, .ref hw0_3, .ref hw0_4, .int w0.2.2.2.2.2.2.1, .int w0.2.2.2.2.2.2.2.1, .int w0.2.2.2.2.2.2.2.2.1, .ref hw0_5, .ref hw0_6, .ref hw0_7, .int w0.2.2.2.2.2.2.2.2.2.2.2.2.1, .ref hw0_8])), (hw0_1, .inl (G.2.1, 617, .inl w0.1)), (hw0_2, .inl (G.2.1, 2468, .inl w0.2.1)), (hw0_3, .inl (G.2.1, 30, .inl w0.2.2.2.2.1)), (hw0_4, .inl (G.2.1, 4000, .inl w0.2.2.2.2.2.1)), (hw0_5, .inl (G.2.1, 120, .inl w0.2.2.2.2.2.2.2.2.2.1)), (hw0_6, .inl (G.2.1, 64, .inl w0.2.2.2.2.2.2.2.2.2.2.1)), (hw0_7, .inl (G.2.2.1, 64, .inl w0.2.2.2.2.2.2.2.2.2.2.2.1)), (hw0_8, .inl (G.2.1, 64, .inl w0.2.2.2.2.2.2.2.2.2.2.2.2.2))] (some (.int r.1)) [(hw0_0, .inr (8, [.ref hw0_1, .ref hw0_2, .int r.2.2.2.1, .int r.2.2.2.2.1, .ref hw0_3, .ref hw0_4, .int r.2.2.2.2.2.2.2.1, .int r.2.2.2.2.2.2.2.2.1, .int r.2.2.2.2.2.2.2.2.2.1, .ref hw0_5, .ref hw0_6, .ref hw0_7, .int r.2.2.2.2.2.2.2.2.2.2.2.2.2.1, .ref hw0_8])), (hw0_1, .inl (G.2.1, 617, .inl r.2.1)), (hw0_2, .inl (G.2.1, 2468, .inl r.2.2.1)), (hw0_3, .inl (G.2.1, 30, .inl r.2.2.2.2.2.1)), (hw0_4, .inl (G.2.1, 4000, .inl r.2.2.2.2.2.2.1)), (hw0_5, .inl (G.2.1, 120, .inl r.2.2.2.2.2.2.2.2.2.2.1)), (hw0_6, .inl (G.2.1, 64, .inl r.2.2.2.2.2.2.2.2.2.2.2.1)), (hw0_7, .inl (G.2.2.1, 64, .inl r.2.2.2.2.2.2.2.2.2.2.2.2.1)), (hw0_8, .inl (G.2.1, 64, .inl r.2.2.2.2.2.2.2.2.2.2.2.2.2.2))] := by
  refine Ct.ofW (cc := cX11_planned) (maxL := 2) (ret := (some .int)) (own := RX11) (by decide) rfl rfl (Nat.le_of_ble_eq_true rfl) ?_
  intro p e s m args below meth c A hx hb hr hml hts hown hlocks hK hP hD hA hS ls hl
  have hl : lv_has ls 2 [(0, .ref hw0_0), (1, .int p1)] := hl
  generalize hQ : gMQ below G _ _ A args s = Q
  generalize hH : s.heap = H at hP ⊢
  have hS : va_S A s.heap H [] := by rw [← hH]; exact hS
  generalize ([] : List Loc) = locs at hS ⊢
  unfold f_X11_planned at hf
  refine lv_aload_n (pc := 0) hx hb dX11_planned_0 rfl (lv_at hl 0 rfl) ?_
  refine lv_aload_n (pc := 1) hx hb dX11_planned_1 rfl (lv_at hl 0 rfl) ?_
  obtain ⟨x1, hcx1, hf⟩ := bn_some hf
  refine g_callV0 (pc := 2) (rest := [.ref hw0_0]) hx hb hml hown hts hK (c_X11_isPlanned l G hw0_0 hw0_1 hw0_2 hw0_3 hw0_4 hw0_5 hw0_6 hw0_7 hw0_8 w0 hcx1) wd_1051 wd_10 wd_1048 wd_1050 ws_29 hd_X11_isPlanned ⟨rfl, rfl, Nat.le_of_ble_eq_true rfl, Nat.le_of_ble_eq_true rfl⟩ hP hD hS hA [0, 1, 2, 3, 4, 5, 6, 7, 8] rfl rfl 8 0 rfl rfl rfl rfl hl.1 rfl (Nat.le_of_ble_eq_true rfl) dX11_planned_2 ⟨Nat.zero_le _, Nat.zero_le _⟩ (fun H locs hP hS => ?_)
  refine lv_iload_n (pc := 5) hx hb dX11_planned_5 rfl (lv_at hl 1 rfl) ?_
  refine lv_i2l (pc := 6) (v := p1.toInt64) hx hb dX11_planned_6 rfl ?_
  refine lv_lconst (pc := 7) (v := (0 : Int64)) hx hb dX11_planned_7 (by decide) ?_
  refine lv_aload_n (pc := 8) hx hb dX11_planned_8 rfl (lv_at hl 0 rfl) ?_
  refine va_get (pc := 9) (D := G.1) (ci := 8) (v := .ref hw0_1) (C := RX11) (T := TX11) (N := 14) hx hb hts inX11 hown hK.1 hP 0 rfl rfl 0 (by decide) (hts _ wd_880) (fun _ h9 => h9) rfl dX11_planned_9 ?_
  refine lv_sipush (pc := 12) (v := (132 : Int32)) hx hb dX11_planned_12 (by decide) ?_
  obtain ⟨hg, hf⟩ := gd_some hf
  refine va_iald (pc := 15) hx hb hK.1 hP 1 0 rfl rfl hg dX11_planned_15 ?_
  refine lv_iconst (pc := 16) (v := (1 : Int32)) hx hb dX11_planned_16 (by decide) ?_
  refine lv_isub (pc := 17) hx hb dX11_planned_17 ?_
  refine lv_i2l (pc := 18) (v := ((w0.1 (132 : Int32).toNatClampNeg) - (1 : Int32)).toInt64) hx hb dX11_planned_18 rfl ?_
  obtain ⟨x2, hcx2, hf⟩ := bn_some hf
  refine g_callS0 (pc := 19) (rest := [.int x1, .ref hw0_0]) hx hb hml hown hts hK (c_X11_in l G  p1.toInt64 (0 : Int64) (((w0.1 (132 : Int32).toNatClampNeg) - (1 : Int32)).toInt64) hcx2) wd_937 wd_10 wd_935 wd_936 hd_X11_in ⟨rfl, rfl, Nat.le_of_ble_eq_true rfl, Nat.le_of_ble_eq_true rfl⟩ hP hD hS hA [] rfl rfl rfl hl.1 rfl (Nat.le_of_ble_eq_true rfl) dX11_planned_19 ⟨Nat.zero_le _, Nat.zero_le _⟩ (fun H locs hP hS => ?_)
  obtain ⟨x3, hcx3, hf⟩ := bn_some hf
  refine g_callV (pc := 22) (ws' := [(hw0_0, .inr (8, [.ref hw0_1, .ref hw0_2, .int x3.2.2.2.1, .int x3.2.2.2.2.1, .ref hw0_3, .ref hw0_4, .int x3.2.2.2.2.2.2.2.1, .int x3.2.2.2.2.2.2.2.2.1, .int x3.2.2.2.2.2.2.2.2.2.1, .ref hw0_5, .ref hw0_6, .ref hw0_7, .int x3.2.2.2.2.2.2.2.2.2.2.2.2.2.1, .ref hw0_8])), (hw0_1, .inl (G.2.1, 617, .inl x3.2.1)), (hw0_2, .inl (G.2.1, 2468, .inl x3.2.2.1)), (hw0_3, .inl (G.2.1, 30, .inl x3.2.2.2.2.2.1)), (hw0_4, .inl (G.2.1, 4000, .inl x3.2.2.2.2.2.2.1)), (hw0_5, .inl (G.2.1, 120, .inl x3.2.2.2.2.2.2.2.2.2.2.1)), (hw0_6, .inl (G.2.1, 64, .inl x3.2.2.2.2.2.2.2.2.2.2.2.1)), (hw0_7, .inl (G.2.2.1, 64, .inl x3.2.2.2.2.2.2.2.2.2.2.2.2.1)), (hw0_8, .inl (G.2.1, 64, .inl x3.2.2.2.2.2.2.2.2.2.2.2.2.2.2))]) (rest := []) hx hb hml hown hts hK (c_X11_goes l G hw0_0 hw0_1 hw0_2 hw0_3 hw0_4 hw0_5 hw0_6 hw0_7 hw0_8 w0 x1 x2 hcx3) wd_949 wd_10 wd_946 wd_948 ws_13 hd_X11_goes ⟨rfl, rfl, Nat.le_of_ble_eq_true rfl, Nat.le_of_ble_eq_true rfl⟩ hP hD hS hA [0, 1, 2, 3, 4, 5, 6, 7, 8] rfl rfl rfl rfl 8 0 rfl rfl rfl rfl hl.1 rfl (Nat.le_of_ble_eq_true rfl) dX11_planned_22 ⟨Nat.zero_le _, Nat.zero_le _⟩ (fun H locs hP hD hS => ?_)
  refine lv_if_eq (pc := 25) (tgt := 41) hx hb dX11_planned_25 (by decide) (fun hc => ?_) (fun hc => ?_)
  · have hf := br_y hc hf
    refine lv_iconst (pc := 41) (v := (0 : Int32)) hx hb dX11_planned_41 (by decide) ?_
    have hf := Option.some.inj hf; subst hf
    rw [← hQ]
    exact g_iret hx hb hr hlocks hP hS dX11_planned_42
  · have hf := br_n hc hf
    refine lv_aload_n (pc := 28) hx hb dX11_planned_28 rfl (lv_at hl 0 rfl) ?_
    refine va_get (pc := 29) (D := G.1) (ci := 8) (v := .ref hw0_1) (C := RX11) (T := TX11) (N := 14) hx hb hts inX11 hown hK.1 hP 0 rfl rfl 0 (by decide) (hts _ wd_880) (fun _ h9 => h9) rfl dX11_planned_29 ?_
    refine lv_sipush (pc := 32) (v := (318 : Int32)) hx hb dX11_planned_32 (by decide) ?_
    refine lv_iload_n (pc := 35) hx hb dX11_planned_35 rfl (lv_at hl 1 rfl) ?_
    refine lv_iadd (pc := 36) hx hb dX11_planned_36 ?_
    obtain ⟨hg, hf⟩ := gd_some hf
    refine va_iald (pc := 37) hx hb hK.1 hP 1 0 rfl rfl hg dX11_planned_37 ?_
    refine lv_goto (pc := 38) (tgt := 42) hx hb dX11_planned_38 (by decide) ?_
    have hf := Option.some.inj hf; subst hf
    rw [← hQ]
    exact g_iret hx hb hr hlocks hP hS dX11_planned_42
theorem hd_X11_converted : yX11_converted.cls ≠ "java/lang/invoke/MethodHandle" ∧ yX11_converted.cls ≠ "java/lang/invoke/VarHandle" ∧ (parseMethodDescriptor yX11_converted.desc).map (fun d => d.parameters.length) = some 0 := by decide +kernel
abbrev rm_X11_converted : Room := { frames := 1, cells := 0, slots := 0, locals := 22 }
noncomputable def f_X11_converted (w0 : TModel) : Option (Int32 × TModel) :=
  (f_X11_isPlanned w0).bind (fun x1 => (f_X11_goes w0 x1 (1 : Int32)).bind (fun x2 => br (x2.1 = 0) (some ((0 : Int32), x2.2)) (gd (vp_in (348 : Int32) 617) (some ((x2.2.1 (348 : Int32).toNatClampNeg), x2.2)))))
set_option maxHeartbeats 4000000 in
set_option maxRecDepth 100000 in
theorem c_X11_converted (l : Launch) (G : GT) (hw0_0 hw0_1 hw0_2 hw0_3 hw0_4 hw0_5 hw0_6 hw0_7 hw0_8 : Nat) (w0 : TModel) {r : Int32 × TModel} (hf : f_X11_converted w0 = some r) : Ct l yX11_converted (Cond.code yX11_converted cX11_converted 1 (some .int) :: lw_g) rm_X11_converted G [.ref hw0_0] [(hw0_0, .inr (8, [.ref hw0_1, .ref hw0_2, .int w0.2.2.1, .int w0.2.2.2.1, .ref hw0_3, .ref hw0_4, .int w0.2.2.2.2.2.2.1, .int w0.2.2.2.2.2.2.2.1, .int w0.2.2.2.2.2.2.2.2.1, .ref hw0_5, .ref hw0_6, .ref hw0_7, .int w0.2.2.2.2.2.2.2.2.2.2.2.2.1, .ref hw0_8])), (hw0_1, .inl (G.2.1, 617, .inl w0.1)), (hw0_2, .inl (G.2.1, 2468, .inl w0.2.1)), (hw0_3, .inl (G.2.1, 30, .inl w0.2.2.2.2.1)), (hw0_4, .inl (G.2.1, 4000, .inl w0.2.2.2.2.2.1)), (hw0_5, .inl (G.2.1, 120, .inl w0.2.2.2.2.2.2.2.2.2.1)), (hw0_6, .inl (G.2.1, 64, .inl w0.2.2.2.2.2.2.2.2.2.2.1)), (hw0_7, .inl (G.2.2.1, 64, .inl w0.2.2.2.2.2.2.2.2.2.2.2.1)), (hw0_8, .inl (G.2.1, 64, .inl w0.2.2.2.2.2.2.2.2.2.2.2.2.2))] (some (.int r.1)) [(hw0_0, .inr (8, [.ref hw0_1, .ref hw0_2, .int r.2.2.2.1, .int r.2.2.2.2.1, .ref hw0_3, .ref hw0_4, .int r.2.2.2.2.2.2.2.1, .int r.2.2.2.2.2.2.2.2.1, .int r.2.2.2.2.2.2.2.2.2.1, .ref hw0_5, .ref hw0_6, .ref hw0_7, .int r.2.2.2.2.2.2.2.2.2.2.2.2.2.1, .ref hw0_8])), (hw0_1, .inl (G.2.1, 617, .inl r.2.1)), (hw0_2, .inl (G.2.1, 2468, .inl r.2.2.1)), (hw0_3, .inl (G.2.1, 30, .inl r.2.2.2.2.2.1)), (hw0_4, .inl (G.2.1, 4000, .inl r.2.2.2.2.2.2.1)), (hw0_5, .inl (G.2.1, 120, .inl r.2.2.2.2.2.2.2.2.2.2.1)), (hw0_6, .inl (G.2.1, 64, .inl r.2.2.2.2.2.2.2.2.2.2.2.1)), (hw0_7, .inl (G.2.2.1, 64, .inl r.2.2.2.2.2.2.2.2.2.2.2.2.1)), (hw0_8, .inl (G.2.1, 64, .inl r.2.2.2.2.2.2.2.2.2.2.2.2.2.2))] := by
  refine Ct.ofW (cc := cX11_converted) (maxL := 1) (ret := (some .int)) (own := RX11) (by decide) rfl rfl (Nat.le_of_ble_eq_true rfl) ?_
  intro p e s m args below meth c A hx hb hr hml hts hown hlocks hK hP hD hA hS ls hl
  have hl : lv_has ls 1 [(0, .ref hw0_0)] := hl
  generalize hQ : gMQ below G _ _ A args s = Q
  generalize hH : s.heap = H at hP ⊢
  have hS : va_S A s.heap H [] := by rw [← hH]; exact hS
  generalize ([] : List Loc) = locs at hS ⊢
  unfold f_X11_converted at hf
  refine lv_aload_n (pc := 0) hx hb dX11_converted_0 rfl (lv_at hl 0 rfl) ?_
  refine lv_aload_n (pc := 1) hx hb dX11_converted_1 rfl (lv_at hl 0 rfl) ?_
  obtain ⟨x1, hcx1, hf⟩ := bn_some hf
  refine g_callV0 (pc := 2) (rest := [.ref hw0_0]) hx hb hml hown hts hK (c_X11_isPlanned l G hw0_0 hw0_1 hw0_2 hw0_3 hw0_4 hw0_5 hw0_6 hw0_7 hw0_8 w0 hcx1) wd_1051 wd_10 wd_1048 wd_1050 ws_29 hd_X11_isPlanned ⟨rfl, rfl, Nat.le_of_ble_eq_true rfl, Nat.le_of_ble_eq_true rfl⟩ hP hD hS hA [0, 1, 2, 3, 4, 5, 6, 7, 8] rfl rfl 8 0 rfl rfl rfl rfl hl.1 rfl (Nat.le_of_ble_eq_true rfl) dX11_converted_2 ⟨Nat.zero_le _, Nat.zero_le _⟩ (fun H locs hP hS => ?_)
  refine lv_iconst (pc := 5) (v := (1 : Int32)) hx hb dX11_converted_5 (by decide) ?_
  obtain ⟨x2, hcx2, hf⟩ := bn_some hf
  refine g_callV (pc := 6) (ws' := [(hw0_0, .inr (8, [.ref hw0_1, .ref hw0_2, .int x2.2.2.2.1, .int x2.2.2.2.2.1, .ref hw0_3, .ref hw0_4, .int x2.2.2.2.2.2.2.2.1, .int x2.2.2.2.2.2.2.2.2.1, .int x2.2.2.2.2.2.2.2.2.2.1, .ref hw0_5, .ref hw0_6, .ref hw0_7, .int x2.2.2.2.2.2.2.2.2.2.2.2.2.2.1, .ref hw0_8])), (hw0_1, .inl (G.2.1, 617, .inl x2.2.1)), (hw0_2, .inl (G.2.1, 2468, .inl x2.2.2.1)), (hw0_3, .inl (G.2.1, 30, .inl x2.2.2.2.2.2.1)), (hw0_4, .inl (G.2.1, 4000, .inl x2.2.2.2.2.2.2.1)), (hw0_5, .inl (G.2.1, 120, .inl x2.2.2.2.2.2.2.2.2.2.2.1)), (hw0_6, .inl (G.2.1, 64, .inl x2.2.2.2.2.2.2.2.2.2.2.2.1)), (hw0_7, .inl (G.2.2.1, 64, .inl x2.2.2.2.2.2.2.2.2.2.2.2.2.1)), (hw0_8, .inl (G.2.1, 64, .inl x2.2.2.2.2.2.2.2.2.2.2.2.2.2.2))]) (rest := []) hx hb hml hown hts hK (c_X11_goes l G hw0_0 hw0_1 hw0_2 hw0_3 hw0_4 hw0_5 hw0_6 hw0_7 hw0_8 w0 x1 (1 : Int32) hcx2) wd_949 wd_10 wd_946 wd_948 ws_13 hd_X11_goes ⟨rfl, rfl, Nat.le_of_ble_eq_true rfl, Nat.le_of_ble_eq_true rfl⟩ hP hD hS hA [0, 1, 2, 3, 4, 5, 6, 7, 8] rfl rfl rfl rfl 8 0 rfl rfl rfl rfl hl.1 rfl (Nat.le_of_ble_eq_true rfl) dX11_converted_6 ⟨Nat.zero_le _, Nat.zero_le _⟩ (fun H locs hP hD hS => ?_)
  refine lv_if_eq (pc := 9) (tgt := 23) hx hb dX11_converted_9 (by decide) (fun hc => ?_) (fun hc => ?_)
  · have hf := br_y hc hf
    refine lv_iconst (pc := 23) (v := (0 : Int32)) hx hb dX11_converted_23 (by decide) ?_
    have hf := Option.some.inj hf; subst hf
    rw [← hQ]
    exact g_iret hx hb hr hlocks hP hS dX11_converted_24
  · have hf := br_n hc hf
    refine lv_aload_n (pc := 12) hx hb dX11_converted_12 rfl (lv_at hl 0 rfl) ?_
    refine va_get (pc := 13) (D := G.1) (ci := 8) (v := .ref hw0_1) (C := RX11) (T := TX11) (N := 14) hx hb hts inX11 hown hK.1 hP 0 rfl rfl 0 (by decide) (hts _ wd_880) (fun _ h9 => h9) rfl dX11_converted_13 ?_
    refine lv_sipush (pc := 16) (v := (348 : Int32)) hx hb dX11_converted_16 (by decide) ?_
    obtain ⟨hg, hf⟩ := gd_some hf
    refine va_iald (pc := 19) hx hb hK.1 hP 1 0 rfl rfl hg dX11_converted_19 ?_
    refine lv_goto (pc := 20) (tgt := 24) hx hb dX11_converted_20 (by decide) ?_
    have hf := Option.some.inj hf; subst hf
    rw [← hQ]
    exact g_iret hx hb hr hlocks hP hS dX11_converted_24
theorem hd_X11_lossOf : yX11_lossOf.cls ≠ "java/lang/invoke/MethodHandle" ∧ yX11_lossOf.cls ≠ "java/lang/invoke/VarHandle" ∧ (parseMethodDescriptor yX11_lossOf.desc).map (fun d => d.parameters.length) = some 1 := by decide +kernel
abbrev rm_X11_lossOf : Room := { frames := 1, cells := 0, slots := 0, locals := 22 }
noncomputable def f_X11_lossOf_J36 (w0 : TModel) (p1 : Int32) (rec4 : Int32 → Int32 → Option Int32) (v3 : Int32) (s0 : Int32) (s1 : Int32) : Option Int32 :=
  rec4 (v3 + (1 : Int32)) (s1 + s0)
noncomputable def f_X11_lossOf_L4 (w0 : TModel) (p1 : Int32)  : Nat → Int32 → Int32 → Option Int32
  | 0, _, _ => none
  | k4 + 1, v3, v2 =>
    gd (vp_in (132 : Int32) 617) (br ((w0.1 (132 : Int32).toNatClampNeg) ≤ v3) (some v2) (br (((p1 >>> (v3 &&& 31)) &&& (1 : Int32)) = (1 : Int32)) ((f_X11_of w0 v3 (3 : Int32)).bind (fun x1 => f_X11_lossOf_J36 w0 p1 (f_X11_lossOf_L4 w0 p1  k4) v3 x1 v2)) (f_X11_lossOf_J36 w0 p1 (f_X11_lossOf_L4 w0 p1  k4) v3 (0 : Int32) v2)))
noncomputable def f_X11_lossOf (w0 : TModel) (p1 : Int32) : Option Int32 :=
  f_X11_lossOf_L4 w0 p1 FUEL (0 : Int32) (0 : Int32)
set_option maxHeartbeats 4000000 in
set_option maxRecDepth 100000 in
theorem c_X11_lossOf (l : Launch) (G : GT) (hw0_0 hw0_1 hw0_2 hw0_3 hw0_4 hw0_5 hw0_6 hw0_7 hw0_8 : Nat) (w0 : TModel) (p1 : Int32) {r : Int32} (hf : f_X11_lossOf w0 p1 = some r) : Ct l yX11_lossOf (Cond.code yX11_lossOf cX11_lossOf 4 (some .int) :: lw_g) rm_X11_lossOf G [.ref hw0_0, .int p1] [(hw0_0, .inr (8, [.ref hw0_1, .ref hw0_2, .int w0.2.2.1, .int w0.2.2.2.1, .ref hw0_3, .ref hw0_4, .int w0.2.2.2.2.2.2.1, .int w0.2.2.2.2.2.2.2.1, .int w0.2.2.2.2.2.2.2.2.1, .ref hw0_5, .ref hw0_6, .ref hw0_7, .int w0.2.2.2.2.2.2.2.2.2.2.2.2.1, .ref hw0_8])), (hw0_1, .inl (G.2.1, 617, .inl w0.1)), (hw0_2, .inl (G.2.1, 2468, .inl w0.2.1)), (hw0_3, .inl (G.2.1, 30, .inl w0.2.2.2.2.1)), (hw0_4, .inl (G.2.1, 4000, .inl w0.2.2.2.2.2.1)), (hw0_5, .inl (G.2.1, 120, .inl w0.2.2.2.2.2.2.2.2.2.1)), (hw0_6, .inl (G.2.1, 64, .inl w0.2.2.2.2.2.2.2.2.2.2.1)), (hw0_7, .inl (G.2.2.1, 64, .inl w0.2.2.2.2.2.2.2.2.2.2.2.1)), (hw0_8, .inl (G.2.1, 64, .inl w0.2.2.2.2.2.2.2.2.2.2.2.2.2))] (some (.int r)) [(hw0_0, .inr (8, [.ref hw0_1, .ref hw0_2, .int w0.2.2.1, .int w0.2.2.2.1, .ref hw0_3, .ref hw0_4, .int w0.2.2.2.2.2.2.1, .int w0.2.2.2.2.2.2.2.1, .int w0.2.2.2.2.2.2.2.2.1, .ref hw0_5, .ref hw0_6, .ref hw0_7, .int w0.2.2.2.2.2.2.2.2.2.2.2.2.1, .ref hw0_8])), (hw0_1, .inl (G.2.1, 617, .inl w0.1)), (hw0_2, .inl (G.2.1, 2468, .inl w0.2.1)), (hw0_3, .inl (G.2.1, 30, .inl w0.2.2.2.2.1)), (hw0_4, .inl (G.2.1, 4000, .inl w0.2.2.2.2.2.1)), (hw0_5, .inl (G.2.1, 120, .inl w0.2.2.2.2.2.2.2.2.2.1)), (hw0_6, .inl (G.2.1, 64, .inl w0.2.2.2.2.2.2.2.2.2.2.1)), (hw0_7, .inl (G.2.2.1, 64, .inl w0.2.2.2.2.2.2.2.2.2.2.2.1)), (hw0_8, .inl (G.2.1, 64, .inl w0.2.2.2.2.2.2.2.2.2.2.2.2.2))] := by
  refine Ct.ofW (cc := cX11_lossOf) (maxL := 4) (ret := (some .int)) (own := RX11) (by decide) rfl rfl (Nat.le_of_ble_eq_true rfl) ?_
  intro p e s m args below meth c A hx hb hr hml hts hown hlocks hK hP hD hA hS ls hl
  have hl : lv_has ls 4 [(0, .ref hw0_0), (1, .int p1)] := hl
  generalize hQ : gMQ below G _ _ A args s = Q
  generalize hH : s.heap = H at hP ⊢
  have hS : va_S A s.heap H [] := by rw [← hH]; exact hS
  generalize ([] : List Loc) = locs at hS ⊢
  unfold f_X11_lossOf at hf
  have hL4 : ∀ (k4 : Nat) (v3 : Int32) (v2 : Int32), f_X11_lossOf_L4 w0 p1  k4 v3 v2 = some r → ∀ (H : Heap) (locs : List Loc), va_P G.1 vwCl [(hw0_0, .inr (8, [.ref hw0_1, .ref hw0_2, .int w0.2.2.1, .int w0.2.2.2.1, .ref hw0_3, .ref hw0_4, .int w0.2.2.2.2.2.2.1, .int w0.2.2.2.2.2.2.2.1, .int w0.2.2.2.2.2.2.2.2.1, .ref hw0_5, .ref hw0_6, .ref hw0_7, .int w0.2.2.2.2.2.2.2.2.2.2.2.2.1, .ref hw0_8])), (hw0_1, .inl (G.2.1, 617, .inl w0.1)), (hw0_2, .inl (G.2.1, 2468, .inl w0.2.1)), (hw0_3, .inl (G.2.1, 30, .inl w0.2.2.2.2.1)), (hw0_4, .inl (G.2.1, 4000, .inl w0.2.2.2.2.2.1)), (hw0_5, .inl (G.2.1, 120, .inl w0.2.2.2.2.2.2.2.2.2.1)), (hw0_6, .inl (G.2.1, 64, .inl w0.2.2.2.2.2.2.2.2.2.2.1)), (hw0_7, .inl (G.2.2.1, 64, .inl w0.2.2.2.2.2.2.2.2.2.2.2.1)), (hw0_8, .inl (G.2.1, 64, .inl w0.2.2.2.2.2.2.2.2.2.2.2.2.2))] H → va_D A [(hw0_0, .inr (8, [.ref hw0_1, .ref hw0_2, .int w0.2.2.1, .int w0.2.2.2.1, .ref hw0_3, .ref hw0_4, .int w0.2.2.2.2.2.2.1, .int w0.2.2.2.2.2.2.2.1, .int w0.2.2.2.2.2.2.2.2.1, .ref hw0_5, .ref hw0_6, .ref hw0_7, .int w0.2.2.2.2.2.2.2.2.2.2.2.2.1, .ref hw0_8])), (hw0_1, .inl (G.2.1, 617, .inl w0.1)), (hw0_2, .inl (G.2.1, 2468, .inl w0.2.1)), (hw0_3, .inl (G.2.1, 30, .inl w0.2.2.2.2.1)), (hw0_4, .inl (G.2.1, 4000, .inl w0.2.2.2.2.2.1)), (hw0_5, .inl (G.2.1, 120, .inl w0.2.2.2.2.2.2.2.2.2.1)), (hw0_6, .inl (G.2.1, 64, .inl w0.2.2.2.2.2.2.2.2.2.2.1)), (hw0_7, .inl (G.2.2.1, 64, .inl w0.2.2.2.2.2.2.2.2.2.2.2.1)), (hw0_8, .inl (G.2.1, 64, .inl w0.2.2.2.2.2.2.2.2.2.2.2.2.2))] → va_S A s.heap H locs → ∀ (ls : Array Slot), lv_has ls 4 [(3, .int v3), (2, .int v2), (0, .ref hw0_0), (1, .int p1)] → W p l e (rm_X11_lossOf) s m args below meth c H locs 0 0 Q (F0 m 4 ls []) := by
    intro k4
    induction k4 with
    | zero =>
      intro v3 v2 hf
      rw [f_X11_lossOf_L4.eq_1] at hf; cases hf
    | succ k4 ih4 =>
      have hJ36 : ∀ (v3 : Int32) (s0 : Int32) (s1 : Int32), f_X11_lossOf_J36 w0 p1 (f_X11_lossOf_L4 w0 p1 k4) v3 s0 s1 = some r → ∀ (H : Heap) (locs : List Loc), va_P G.1 vwCl [(hw0_0, .inr (8, [.ref hw0_1, .ref hw0_2, .int w0.2.2.1, .int w0.2.2.2.1, .ref hw0_3, .ref hw0_4, .int w0.2.2.2.2.2.2.1, .int w0.2.2.2.2.2.2.2.1, .int w0.2.2.2.2.2.2.2.2.1, .ref hw0_5, .ref hw0_6, .ref hw0_7, .int w0.2.2.2.2.2.2.2.2.2.2.2.2.1, .ref hw0_8])), (hw0_1, .inl (G.2.1, 617, .inl w0.1)), (hw0_2, .inl (G.2.1, 2468, .inl w0.2.1)), (hw0_3, .inl (G.2.1, 30, .inl w0.2.2.2.2.1)), (hw0_4, .inl (G.2.1, 4000, .inl w0.2.2.2.2.2.1)), (hw0_5, .inl (G.2.1, 120, .inl w0.2.2.2.2.2.2.2.2.2.1)), (hw0_6, .inl (G.2.1, 64, .inl w0.2.2.2.2.2.2.2.2.2.2.1)), (hw0_7, .inl (G.2.2.1, 64, .inl w0.2.2.2.2.2.2.2.2.2.2.2.1)), (hw0_8, .inl (G.2.1, 64, .inl w0.2.2.2.2.2.2.2.2.2.2.2.2.2))] H → va_D A [(hw0_0, .inr (8, [.ref hw0_1, .ref hw0_2, .int w0.2.2.1, .int w0.2.2.2.1, .ref hw0_3, .ref hw0_4, .int w0.2.2.2.2.2.2.1, .int w0.2.2.2.2.2.2.2.1, .int w0.2.2.2.2.2.2.2.2.1, .ref hw0_5, .ref hw0_6, .ref hw0_7, .int w0.2.2.2.2.2.2.2.2.2.2.2.2.1, .ref hw0_8])), (hw0_1, .inl (G.2.1, 617, .inl w0.1)), (hw0_2, .inl (G.2.1, 2468, .inl w0.2.1)), (hw0_3, .inl (G.2.1, 30, .inl w0.2.2.2.2.1)), (hw0_4, .inl (G.2.1, 4000, .inl w0.2.2.2.2.2.1)), (hw0_5, .inl (G.2.1, 120, .inl w0.2.2.2.2.2.2.2.2.2.1)), (hw0_6, .inl (G.2.1, 64, .inl w0.2.2.2.2.2.2.2.2.2.2.1)), (hw0_7, .inl (G.2.2.1, 64, .inl w0.2.2.2.2.2.2.2.2.2.2.2.1)), (hw0_8, .inl (G.2.1, 64, .inl w0.2.2.2.2.2.2.2.2.2.2.2.2.2))] → va_S A s.heap H locs → ∀ (ls : Array Slot), lv_has ls 4 [(3, .int v3), (0, .ref hw0_0), (1, .int p1)] → W p l e (rm_X11_lossOf) s m args below meth c H locs 0 0 Q (F0 m 36 ls [.int s0, .int s1]) := by
        intro v3 s0 s1 hf H locs hP hD hS ls hl
        unfold f_X11_lossOf_J36 at hf
        refine lv_iadd (pc := 36) hx hb dX11_lossOf_36 ?_
        refine lv_istore_n (pc := 37) (lv' := [(2, .int (s1 + s0)), (3, .int v3), (0, .ref hw0_0), (1, .int p1)]) hx hb dX11_lossOf_37 rfl hl (by decide) rfl (fun ls hl => ?_)
        refine lv_iinc (pc := 38) (v := (v3 + (1 : Int32))) (lv' := [(3, .int (v3 + (1 : Int32))), (2, .int (s1 + s0)), (0, .ref hw0_0), (1, .int p1)]) hx hb dX11_lossOf_38 hl (k := 1) rfl rfl (by decide) rfl (fun ls hl => ?_)
        refine lv_goto (pc := 41) (tgt := 4) hx hb dX11_lossOf_41 (by decide) ?_
        exact ih4 (v3 + (1 : Int32)) (s1 + s0) hf H locs hP hD hS ls (lv_sub hl [0, 1, 2, 3] rfl)
      intro v3 v2 hf H locs hP hD hS ls hl
      rw [f_X11_lossOf_L4.eq_2] at hf
      refine lv_iload_n (pc := 4) hx hb dX11_lossOf_4 rfl (lv_at hl 0 rfl) ?_
      refine lv_aload_n (pc := 5) hx hb dX11_lossOf_5 rfl (lv_at hl 2 rfl) ?_
      refine va_get (pc := 6) (D := G.1) (ci := 8) (v := .ref hw0_1) (C := RX11) (T := TX11) (N := 14) hx hb hts inX11 hown hK.1 hP 0 rfl rfl 0 (by decide) (hts _ wd_880) (fun _ h9 => h9) rfl dX11_lossOf_6 ?_
      refine lv_sipush (pc := 9) (v := (132 : Int32)) hx hb dX11_lossOf_9 (by decide) ?_
      obtain ⟨hg, hf⟩ := gd_some hf
      refine va_iald (pc := 12) hx hb hK.1 hP 1 0 rfl rfl hg dX11_lossOf_12 ?_
      refine lv_icmp_ge (pc := 13) (tgt := 44) hx hb dX11_lossOf_13 (by decide) (fun hc => ?_) (fun hc => ?_)
      · have hf := br_y hc hf
        refine lv_iload_n (pc := 44) hx hb dX11_lossOf_44 rfl (lv_at hl 1 rfl) ?_
        have hf := Option.some.inj hf; subst hf
        rw [← hQ]
        exact g_iret hx hb hr hlocks hP hS dX11_lossOf_45
      · have hf := br_n hc hf
        refine lv_iload_n (pc := 16) hx hb dX11_lossOf_16 rfl (lv_at hl 1 rfl) ?_
        refine lv_iload_n (pc := 17) hx hb dX11_lossOf_17 rfl (lv_at hl 3 rfl) ?_
        refine lv_iload_n (pc := 18) hx hb dX11_lossOf_18 rfl (lv_at hl 0 rfl) ?_
        refine lv_ishr (pc := 19) hx hb dX11_lossOf_19 ?_
        refine lv_iconst (pc := 20) (v := (1 : Int32)) hx hb dX11_lossOf_20 (by decide) ?_
        refine lv_iand (pc := 21) hx hb dX11_lossOf_21 ?_
        refine lv_iconst (pc := 22) (v := (1 : Int32)) hx hb dX11_lossOf_22 (by decide) ?_
        refine lv_icmp_ne (pc := 23) (tgt := 35) hx hb dX11_lossOf_23 (by decide) (fun hc => ?_) (fun hc => ?_)
        · have hf := br_n hc hf
          refine lv_iconst (pc := 35) (v := (0 : Int32)) hx hb dX11_lossOf_35 (by decide) ?_
          exact hJ36 v3 (0 : Int32) v2 hf H locs hP hD hS ls (lv_sub hl [0, 2, 3] rfl)
        · have hf := br_y hc hf
          refine lv_aload_n (pc := 26) hx hb dX11_lossOf_26 rfl (lv_at hl 2 rfl) ?_
          refine lv_iload_n (pc := 27) hx hb dX11_lossOf_27 rfl (lv_at hl 0 rfl) ?_
          refine lv_iconst (pc := 28) (v := (3 : Int32)) hx hb dX11_lossOf_28 (by decide) ?_
          obtain ⟨x1, hcx1, hf⟩ := bn_some hf
          refine g_callV0 (pc := 29) (rest := [.int v2]) hx hb hml hown hts hK (c_X11_of l G hw0_0 hw0_1 hw0_2 hw0_3 hw0_4 hw0_5 hw0_6 hw0_7 hw0_8 w0 v3 (3 : Int32) hcx1) wd_1010 wd_10 wd_1007 wd_1009 ws_22 hd_X11_of ⟨rfl, rfl, Nat.le_of_ble_eq_true rfl, Nat.le_of_ble_eq_true rfl⟩ hP hD hS hA [0, 1, 2, 3, 4, 5, 6, 7, 8] rfl rfl 8 0 rfl rfl rfl rfl hl.1 rfl (Nat.le_of_ble_eq_true rfl) dX11_lossOf_29 ⟨Nat.zero_le _, Nat.zero_le _⟩ (fun H locs hP hS => ?_)
          refine lv_goto (pc := 32) (tgt := 36) hx hb dX11_lossOf_32 (by decide) ?_
          exact hJ36 v3 x1 v2 hf H locs hP hD hS ls (lv_sub hl [0, 2, 3] rfl)
  refine lv_iconst (pc := 0) (v := (0 : Int32)) hx hb dX11_lossOf_0 (by decide) ?_
  refine lv_istore_n (pc := 1) (lv' := [(2, .int (0 : Int32)), (0, .ref hw0_0), (1, .int p1)]) hx hb dX11_lossOf_1 rfl hl (by decide) rfl (fun ls hl => ?_)
  refine lv_iconst (pc := 2) (v := (0 : Int32)) hx hb dX11_lossOf_2 (by decide) ?_
  refine lv_istore_n (pc := 3) (lv' := [(3, .int (0 : Int32)), (2, .int (0 : Int32)), (0, .ref hw0_0), (1, .int p1)]) hx hb dX11_lossOf_3 rfl hl (by decide) rfl (fun ls hl => ?_)
  exact hL4 FUEL (0 : Int32) (0 : Int32) hf H locs hP hD hS ls (lv_sub hl [0, 1, 2, 3] rfl)
theorem hd_X11_loss : yX11_loss.cls ≠ "java/lang/invoke/MethodHandle" ∧ yX11_loss.cls ≠ "java/lang/invoke/VarHandle" ∧ (parseMethodDescriptor yX11_loss.desc).map (fun d => d.parameters.length) = some 0 := by decide +kernel
abbrev rm_X11_loss : Room := { frames := 2, cells := 0, slots := 0, locals := 45 }
noncomputable def f_X11_loss (w0 : TModel) : Option (Int32 × TModel) :=
  (f_X11_isPlanned w0).bind (fun x1 => (f_X11_goes w0 x1 (1 : Int32)).bind (fun x2 => br (x2.1 = 0) (some ((0 : Int32), x2.2)) (gd (vp_in (348 : Int32) 617) ((f_X11_lossOf x2.2 (x2.2.1 (348 : Int32).toNatClampNeg)).bind (fun x3 => some (x3, x2.2))))))
set_option maxHeartbeats 4000000 in
set_option maxRecDepth 100000 in
theorem c_X11_loss (l : Launch) (G : GT) (hw0_0 hw0_1 hw0_2 hw0_3 hw0_4 hw0_5 hw0_6 hw0_7 hw0_8 : Nat) (w0 : TModel) {r : Int32 × TModel} (hf : f_X11_loss w0 = some r) : Ct l yX11_loss (Cond.code yX11_loss cX11_loss 1 (some .int) :: lw_g) rm_X11_loss G [.ref hw0_0] [(hw0_0, .inr (8, [.ref hw0_1, .ref hw0_2, .int w0.2.2.1, .int w0.2.2.2.1, .ref hw0_3, .ref hw0_4, .int w0.2.2.2.2.2.2.1, .int w0.2.2.2.2.2.2.2.1, .int w0.2.2.2.2.2.2.2.2.1, .ref hw0_5, .ref hw0_6, .ref hw0_7, .int w0.2.2.2.2.2.2.2.2.2.2.2.2.1, .ref hw0_8])), (hw0_1, .inl (G.2.1, 617, .inl w0.1)), (hw0_2, .inl (G.2.1, 2468, .inl w0.2.1)), (hw0_3, .inl (G.2.1, 30, .inl w0.2.2.2.2.1)), (hw0_4, .inl (G.2.1, 4000, .inl w0.2.2.2.2.2.1)), (hw0_5, .inl (G.2.1, 120, .inl w0.2.2.2.2.2.2.2.2.2.1)), (hw0_6, .inl (G.2.1, 64, .inl w0.2.2.2.2.2.2.2.2.2.2.1)), (hw0_7, .inl (G.2.2.1, 64, .inl w0.2.2.2.2.2.2.2.2.2.2.2.1)), (hw0_8, .inl (G.2.1, 64, .inl w0.2.2.2.2.2.2.2.2.2.2.2.2.2))] (some (.int r.1)) [(hw0_0, .inr (8, [.ref hw0_1, .ref hw0_2, .int r.2.2.2.1, .int r.2.2.2.2.1, .ref hw0_3, .ref hw0_4, .int r.2.2.2.2.2.2.2.1, .int r.2.2.2.2.2.2.2.2.1, .int r.2.2.2.2.2.2.2.2.2.1, .ref hw0_5, .ref hw0_6, .ref hw0_7, .int r.2.2.2.2.2.2.2.2.2.2.2.2.2.1, .ref hw0_8])), (hw0_1, .inl (G.2.1, 617, .inl r.2.1)), (hw0_2, .inl (G.2.1, 2468, .inl r.2.2.1)), (hw0_3, .inl (G.2.1, 30, .inl r.2.2.2.2.2.1)), (hw0_4, .inl (G.2.1, 4000, .inl r.2.2.2.2.2.2.1)), (hw0_5, .inl (G.2.1, 120, .inl r.2.2.2.2.2.2.2.2.2.2.1)), (hw0_6, .inl (G.2.1, 64, .inl r.2.2.2.2.2.2.2.2.2.2.2.1)), (hw0_7, .inl (G.2.2.1, 64, .inl r.2.2.2.2.2.2.2.2.2.2.2.2.1)), (hw0_8, .inl (G.2.1, 64, .inl r.2.2.2.2.2.2.2.2.2.2.2.2.2.2))] := by
  refine Ct.ofW (cc := cX11_loss) (maxL := 1) (ret := (some .int)) (own := RX11) (by decide) rfl rfl (Nat.le_of_ble_eq_true rfl) ?_
  intro p e s m args below meth c A hx hb hr hml hts hown hlocks hK hP hD hA hS ls hl
  have hl : lv_has ls 1 [(0, .ref hw0_0)] := hl
  generalize hQ : gMQ below G _ _ A args s = Q
  generalize hH : s.heap = H at hP ⊢
  have hS : va_S A s.heap H [] := by rw [← hH]; exact hS
  generalize ([] : List Loc) = locs at hS ⊢
  unfold f_X11_loss at hf
  refine lv_aload_n (pc := 0) hx hb dX11_loss_0 rfl (lv_at hl 0 rfl) ?_
  refine lv_aload_n (pc := 1) hx hb dX11_loss_1 rfl (lv_at hl 0 rfl) ?_
  obtain ⟨x1, hcx1, hf⟩ := bn_some hf
  refine g_callV0 (pc := 2) (rest := [.ref hw0_0]) hx hb hml hown hts hK (c_X11_isPlanned l G hw0_0 hw0_1 hw0_2 hw0_3 hw0_4 hw0_5 hw0_6 hw0_7 hw0_8 w0 hcx1) wd_1051 wd_10 wd_1048 wd_1050 ws_29 hd_X11_isPlanned ⟨rfl, rfl, Nat.le_of_ble_eq_true rfl, Nat.le_of_ble_eq_true rfl⟩ hP hD hS hA [0, 1, 2, 3, 4, 5, 6, 7, 8] rfl rfl 8 0 rfl rfl rfl rfl hl.1 rfl (Nat.le_of_ble_eq_true rfl) dX11_loss_2 ⟨Nat.zero_le _, Nat.zero_le _⟩ (fun H locs hP hS => ?_)
  refine lv_iconst (pc := 5) (v := (1 : Int32)) hx hb dX11_loss_5 (by decide) ?_
  obtain ⟨x2, hcx2, hf⟩ := bn_some hf
  refine g_callV (pc := 6) (ws' := [(hw0_0, .inr (8, [.ref hw0_1, .ref hw0_2, .int x2.2.2.2.1, .int x2.2.2.2.2.1, .ref hw0_3, .ref hw0_4, .int x2.2.2.2.2.2.2.2.1, .int x2.2.2.2.2.2.2.2.2.1, .int x2.2.2.2.2.2.2.2.2.2.1, .ref hw0_5, .ref hw0_6, .ref hw0_7, .int x2.2.2.2.2.2.2.2.2.2.2.2.2.2.1, .ref hw0_8])), (hw0_1, .inl (G.2.1, 617, .inl x2.2.1)), (hw0_2, .inl (G.2.1, 2468, .inl x2.2.2.1)), (hw0_3, .inl (G.2.1, 30, .inl x2.2.2.2.2.2.1)), (hw0_4, .inl (G.2.1, 4000, .inl x2.2.2.2.2.2.2.1)), (hw0_5, .inl (G.2.1, 120, .inl x2.2.2.2.2.2.2.2.2.2.2.1)), (hw0_6, .inl (G.2.1, 64, .inl x2.2.2.2.2.2.2.2.2.2.2.2.1)), (hw0_7, .inl (G.2.2.1, 64, .inl x2.2.2.2.2.2.2.2.2.2.2.2.2.1)), (hw0_8, .inl (G.2.1, 64, .inl x2.2.2.2.2.2.2.2.2.2.2.2.2.2.2))]) (rest := []) hx hb hml hown hts hK (c_X11_goes l G hw0_0 hw0_1 hw0_2 hw0_3 hw0_4 hw0_5 hw0_6 hw0_7 hw0_8 w0 x1 (1 : Int32) hcx2) wd_949 wd_10 wd_946 wd_948 ws_13 hd_X11_goes ⟨rfl, rfl, Nat.le_of_ble_eq_true rfl, Nat.le_of_ble_eq_true rfl⟩ hP hD hS hA [0, 1, 2, 3, 4, 5, 6, 7, 8] rfl rfl rfl rfl 8 0 rfl rfl rfl rfl hl.1 rfl (Nat.le_of_ble_eq_true rfl) dX11_loss_6 ⟨Nat.zero_le _, Nat.zero_le _⟩ (fun H locs hP hD hS => ?_)
  refine lv_if_eq (pc := 9) (tgt := 27) hx hb dX11_loss_9 (by decide) (fun hc => ?_) (fun hc => ?_)
  · have hf := br_y hc hf
    refine lv_iconst (pc := 27) (v := (0 : Int32)) hx hb dX11_loss_27 (by decide) ?_
    have hf := Option.some.inj hf; subst hf
    rw [← hQ]
    exact g_iret hx hb hr hlocks hP hS dX11_loss_28
  · have hf := br_n hc hf
    refine lv_aload_n (pc := 12) hx hb dX11_loss_12 rfl (lv_at hl 0 rfl) ?_
    refine lv_aload_n (pc := 13) hx hb dX11_loss_13 rfl (lv_at hl 0 rfl) ?_
    refine va_get (pc := 14) (D := G.1) (ci := 8) (v := .ref hw0_1) (C := RX11) (T := TX11) (N := 14) hx hb hts inX11 hown hK.1 hP 0 rfl rfl 0 (by decide) (hts _ wd_880) (fun _ h9 => h9) rfl dX11_loss_14 ?_
    refine lv_sipush (pc := 17) (v := (348 : Int32)) hx hb dX11_loss_17 (by decide) ?_
    obtain ⟨hg, hf⟩ := gd_some hf
    refine va_iald (pc := 20) hx hb hK.1 hP 1 0 rfl rfl hg dX11_loss_20 ?_
    obtain ⟨x3, hcx3, hf⟩ := bn_some hf
    refine g_callV0 (pc := 21) (rest := []) hx hb hml hown hts hK (c_X11_lossOf l G hw0_0 hw0_1 hw0_2 hw0_3 hw0_4 hw0_5 hw0_6 hw0_7 hw0_8 x2.2 (x2.2.1 (348 : Int32).toNatClampNeg) hcx3) wd_1063 wd_10 wd_1060 wd_1062 ws_30 hd_X11_lossOf ⟨rfl, rfl, Nat.le_of_ble_eq_true rfl, Nat.le_of_ble_eq_true rfl⟩ hP hD hS hA [0, 1, 2, 3, 4, 5, 6, 7, 8] rfl rfl 8 0 rfl rfl rfl rfl hl.1 rfl (Nat.le_of_ble_eq_true rfl) dX11_loss_21 ⟨Nat.zero_le _, Nat.zero_le _⟩ (fun H locs hP hS => ?_)
    refine lv_goto (pc := 24) (tgt := 28) hx hb dX11_loss_24 (by decide) ?_
    have hf := Option.some.inj hf; subst hf
    rw [← hQ]
    exact g_iret hx hb hr hlocks hP hS dX11_loss_28
theorem hd_X11_isOrderly : yX11_isOrderly.cls ≠ "java/lang/invoke/MethodHandle" ∧ yX11_isOrderly.cls ≠ "java/lang/invoke/VarHandle" ∧ (parseMethodDescriptor yX11_isOrderly.desc).map (fun d => d.parameters.length) = some 1 := by decide +kernel
abbrev rm_X11_isOrderly : Room := { frames := 0, cells := 0, slots := 0, locals := 0 }
noncomputable def f_X11_isOrderly_J50 (w0 : TModel) (p1 : Int32) (rec4 : Int32 → Int32 → Option Int32) (rec14 : Int32 → Int32 → Int32 → Option Int32) (v4 : Int32) (v3 : Int32) (s0 : Int32) (s1 : Int32) : Option Int32 :=
  rec14 (v4 + (1 : Int32)) v3 (s1 &&& s0)
noncomputable def f_X11_isOrderly_L14 (w0 : TModel) (p1 : Int32) (rec4 : Int32 → Int32 → Option Int32) : Nat → Int32 → Int32 → Int32 → Option Int32
  | 0, _, _, _ => none
  | k14 + 1, v4, v3, v2 =>
    gd (vp_in (132 : Int32) 617) (br ((w0.1 (132 : Int32).toNatClampNeg) ≤ v4) (rec4 v3 v2) (gd (vp_in v4 30) (br (((w0.2.2.2.2.1 v4.toNatClampNeg) &&& v2) = 0) (f_X11_isOrderly_J50 w0 p1 rec4 (f_X11_isOrderly_L14 w0 p1 rec4 k14) v4 v3 (((1 : Int32) <<< (v4 &&& 31)) ^^^ (-1 : Int32)) v2) (f_X11_isOrderly_J50 w0 p1 rec4 (f_X11_isOrderly_L14 w0 p1 rec4 k14) v4 v3 (-1 : Int32) v2))))
noncomputable def f_X11_isOrderly_L4 (w0 : TModel) (p1 : Int32)  : Nat → Int32 → Int32 → Option Int32
  | 0, _, _ => none
  | k4 + 1, v3, v2 =>
    br (v2 = v3) (br (v2 = 0) (some (1 : Int32)) (some (0 : Int32))) (f_X11_isOrderly_L14 w0 p1 (f_X11_isOrderly_L4 w0 p1  k4) FUEL (0 : Int32) v2 v2)
noncomputable def f_X11_isOrderly (w0 : TModel) (p1 : Int32) : Option Int32 :=
  f_X11_isOrderly_L4 w0 p1 FUEL (0 : Int32) p1
set_option maxHeartbeats 4000000 in
set_option maxRecDepth 100000 in
theorem c_X11_isOrderly (l : Launch) (G : GT) (hw0_0 hw0_1 hw0_2 hw0_3 hw0_4 hw0_5 hw0_6 hw0_7 hw0_8 : Nat) (w0 : TModel) (p1 : Int32) {r : Int32} (hf : f_X11_isOrderly w0 p1 = some r) : Ct l yX11_isOrderly (Cond.code yX11_isOrderly cX11_isOrderly 5 (some .boolean) :: lw_g) rm_X11_isOrderly G [.ref hw0_0, .int p1] [(hw0_0, .inr (8, [.ref hw0_1, .ref hw0_2, .int w0.2.2.1, .int w0.2.2.2.1, .ref hw0_3, .ref hw0_4, .int w0.2.2.2.2.2.2.1, .int w0.2.2.2.2.2.2.2.1, .int w0.2.2.2.2.2.2.2.2.1, .ref hw0_5, .ref hw0_6, .ref hw0_7, .int w0.2.2.2.2.2.2.2.2.2.2.2.2.1, .ref hw0_8])), (hw0_1, .inl (G.2.1, 617, .inl w0.1)), (hw0_2, .inl (G.2.1, 2468, .inl w0.2.1)), (hw0_3, .inl (G.2.1, 30, .inl w0.2.2.2.2.1)), (hw0_4, .inl (G.2.1, 4000, .inl w0.2.2.2.2.2.1)), (hw0_5, .inl (G.2.1, 120, .inl w0.2.2.2.2.2.2.2.2.2.1)), (hw0_6, .inl (G.2.1, 64, .inl w0.2.2.2.2.2.2.2.2.2.2.1)), (hw0_7, .inl (G.2.2.1, 64, .inl w0.2.2.2.2.2.2.2.2.2.2.2.1)), (hw0_8, .inl (G.2.1, 64, .inl w0.2.2.2.2.2.2.2.2.2.2.2.2.2))] (some (.int r)) [(hw0_0, .inr (8, [.ref hw0_1, .ref hw0_2, .int w0.2.2.1, .int w0.2.2.2.1, .ref hw0_3, .ref hw0_4, .int w0.2.2.2.2.2.2.1, .int w0.2.2.2.2.2.2.2.1, .int w0.2.2.2.2.2.2.2.2.1, .ref hw0_5, .ref hw0_6, .ref hw0_7, .int w0.2.2.2.2.2.2.2.2.2.2.2.2.1, .ref hw0_8])), (hw0_1, .inl (G.2.1, 617, .inl w0.1)), (hw0_2, .inl (G.2.1, 2468, .inl w0.2.1)), (hw0_3, .inl (G.2.1, 30, .inl w0.2.2.2.2.1)), (hw0_4, .inl (G.2.1, 4000, .inl w0.2.2.2.2.2.1)), (hw0_5, .inl (G.2.1, 120, .inl w0.2.2.2.2.2.2.2.2.2.1)), (hw0_6, .inl (G.2.1, 64, .inl w0.2.2.2.2.2.2.2.2.2.2.1)), (hw0_7, .inl (G.2.2.1, 64, .inl w0.2.2.2.2.2.2.2.2.2.2.2.1)), (hw0_8, .inl (G.2.1, 64, .inl w0.2.2.2.2.2.2.2.2.2.2.2.2.2))] := by
  refine Ct.ofW (cc := cX11_isOrderly) (maxL := 5) (ret := (some .boolean)) (own := RX11) (by decide) rfl rfl (Nat.le_of_ble_eq_true rfl) ?_
  intro p e s m args below meth c A hx hb hr hml hts hown hlocks hK hP hD hA hS ls hl
  have hl : lv_has ls 5 [(0, .ref hw0_0), (1, .int p1)] := hl
  generalize hQ : gMQ below G _ _ A args s = Q
  generalize hH : s.heap = H at hP ⊢
  have hS : va_S A s.heap H [] := by rw [← hH]; exact hS
  generalize ([] : List Loc) = locs at hS ⊢
  unfold f_X11_isOrderly at hf
  have hL4 : ∀ (k4 : Nat) (v3 : Int32) (v2 : Int32), f_X11_isOrderly_L4 w0 p1  k4 v3 v2 = some r → ∀ (H : Heap) (locs : List Loc), va_P G.1 vwCl [(hw0_0, .inr (8, [.ref hw0_1, .ref hw0_2, .int w0.2.2.1, .int w0.2.2.2.1, .ref hw0_3, .ref hw0_4, .int w0.2.2.2.2.2.2.1, .int w0.2.2.2.2.2.2.2.1, .int w0.2.2.2.2.2.2.2.2.1, .ref hw0_5, .ref hw0_6, .ref hw0_7, .int w0.2.2.2.2.2.2.2.2.2.2.2.2.1, .ref hw0_8])), (hw0_1, .inl (G.2.1, 617, .inl w0.1)), (hw0_2, .inl (G.2.1, 2468, .inl w0.2.1)), (hw0_3, .inl (G.2.1, 30, .inl w0.2.2.2.2.1)), (hw0_4, .inl (G.2.1, 4000, .inl w0.2.2.2.2.2.1)), (hw0_5, .inl (G.2.1, 120, .inl w0.2.2.2.2.2.2.2.2.2.1)), (hw0_6, .inl (G.2.1, 64, .inl w0.2.2.2.2.2.2.2.2.2.2.1)), (hw0_7, .inl (G.2.2.1, 64, .inl w0.2.2.2.2.2.2.2.2.2.2.2.1)), (hw0_8, .inl (G.2.1, 64, .inl w0.2.2.2.2.2.2.2.2.2.2.2.2.2))] H → va_D A [(hw0_0, .inr (8, [.ref hw0_1, .ref hw0_2, .int w0.2.2.1, .int w0.2.2.2.1, .ref hw0_3, .ref hw0_4, .int w0.2.2.2.2.2.2.1, .int w0.2.2.2.2.2.2.2.1, .int w0.2.2.2.2.2.2.2.2.1, .ref hw0_5, .ref hw0_6, .ref hw0_7, .int w0.2.2.2.2.2.2.2.2.2.2.2.2.1, .ref hw0_8])), (hw0_1, .inl (G.2.1, 617, .inl w0.1)), (hw0_2, .inl (G.2.1, 2468, .inl w0.2.1)), (hw0_3, .inl (G.2.1, 30, .inl w0.2.2.2.2.1)), (hw0_4, .inl (G.2.1, 4000, .inl w0.2.2.2.2.2.1)), (hw0_5, .inl (G.2.1, 120, .inl w0.2.2.2.2.2.2.2.2.2.1)), (hw0_6, .inl (G.2.1, 64, .inl w0.2.2.2.2.2.2.2.2.2.2.1)), (hw0_7, .inl (G.2.2.1, 64, .inl w0.2.2.2.2.2.2.2.2.2.2.2.1)), (hw0_8, .inl (G.2.1, 64, .inl w0.2.2.2.2.2.2.2.2.2.2.2.2.2))] → va_S A s.heap H locs → ∀ (ls : Array Slot), lv_has ls 5 [(3, .int v3), (2, .int v2), (0, .ref hw0_0)] → W p l e (rm_X11_isOrderly) s m args below meth c H locs 0 0 Q (F0 m 4 ls []) := by
    intro k4
    induction k4 with
    | zero =>
      intro v3 v2 hf
      rw [f_X11_isOrderly_L4.eq_1] at hf; cases hf
    | succ k4 ih4 =>
      have hL14 : ∀ (k14 : Nat) (v4 : Int32) (v3 : Int32) (v2 : Int32), f_X11_isOrderly_L14 w0 p1 (f_X11_isOrderly_L4 w0 p1 k4) k14 v4 v3 v2 = some r → ∀ (H : Heap) (locs : List Loc), va_P G.1 vwCl [(hw0_0, .inr (8, [.ref hw0_1, .ref hw0_2, .int w0.2.2.1, .int w0.2.2.2.1, .ref hw0_3, .ref hw0_4, .int w0.2.2.2.2.2.2.1, .int w0.2.2.2.2.2.2.2.1, .int w0.2.2.2.2.2.2.2.2.1, .ref hw0_5, .ref hw0_6, .ref hw0_7, .int w0.2.2.2.2.2.2.2.2.2.2.2.2.1, .ref hw0_8])), (hw0_1, .inl (G.2.1, 617, .inl w0.1)), (hw0_2, .inl (G.2.1, 2468, .inl w0.2.1)), (hw0_3, .inl (G.2.1, 30, .inl w0.2.2.2.2.1)), (hw0_4, .inl (G.2.1, 4000, .inl w0.2.2.2.2.2.1)), (hw0_5, .inl (G.2.1, 120, .inl w0.2.2.2.2.2.2.2.2.2.1)), (hw0_6, .inl (G.2.1, 64, .inl w0.2.2.2.2.2.2.2.2.2.2.1)), (hw0_7, .inl (G.2.2.1, 64, .inl w0.2.2.2.2.2.2.2.2.2.2.2.1)), (hw0_8, .inl (G.2.1, 64, .inl w0.2.2.2.2.2.2.2.2.2.2.2.2.2))] H → va_D A [(hw0_0, .inr (8, [.ref hw0_1, .ref hw0_2, .int w0.2.2.1, .int w0.2.2.2.1, .ref hw0_3, .ref hw0_4, .int w0.2.2.2.2.2.2.1, .int w0.2.2.2.2.2.2.2.1, .int w0.2.2.2.2.2.2.2.2.1, .ref hw0_5, .ref hw0_6, .ref hw0_7, .int w0.2.2.2.2.2.2.2.2.2.2.2.2.1, .ref hw0_8])), (hw0_1, .inl (G.2.1, 617, .inl w0.1)), (hw0_2, .inl (G.2.1, 2468, .inl w0.2.1)), (hw0_3, .inl (G.2.1, 30, .inl w0.2.2.2.2.1)), (hw0_4, .inl (G.2.1, 4000, .inl w0.2.2.2.2.2.1)), (hw0_5, .inl (G.2.1, 120, .inl w0.2.2.2.2.2.2.2.2.2.1)), (hw0_6, .inl (G.2.1, 64, .inl w0.2.2.2.2.2.2.2.2.2.2.1)), (hw0_7, .inl (G.2.2.1, 64, .inl w0.2.2.2.2.2.2.2.2.2.2.2.1)), (hw0_8, .inl (G.2.1, 64, .inl w0.2.2.2.2.2.2.2.2.2.2.2.2.2))] → va_S A s.heap H locs → ∀ (ls : Array Slot), lv_has ls 5 [(4, .int v4), (3, .int v3), (2, .int v2), (0, .ref hw0_0)] → W p l e (rm_X11_isOrderly) s m args below meth c H locs 0 0 Q (F0 m 14 ls []) := by
        intro k14
        induction k14 with
        | zero =>
          intro v4 v3 v2 hf
          rw [f_X11_isOrderly_L14.eq_1] at hf; cases hf
        | succ k14 ih14 =>
          have hJ50 : ∀ (v4 : Int32) (v3 : Int32) (s0 : Int32) (s1 : Int32), f_X11_isOrderly_J50 w0 p1 (f_X11_isOrderly_L4 w0 p1 k4) (f_X11_isOrderly_L14 w0 p1 (f_X11_isOrderly_L4 w0 p1 k4) k14) v4 v3 s0 s1 = some r → ∀ (H : Heap) (locs : List Loc), va_P G.1 vwCl [(hw0_0, .inr (8, [.ref hw0_1, .ref hw0_2, .int w0.2.2.1, .int w0.2.2.2.1, .ref hw0_3, .ref hw0_4, .int w0.2.2.2.2.2.2.1, .int w0.2.2.2.2.2.2.2.1, .int w0.2.2.2.2.2.2.2.2.1, .ref hw0_5, .ref hw0_6, .ref hw0_7, .int w0.2.2.2.2.2.2.2.2.2.2.2.2.1, .ref hw0_8])), (hw0_1, .inl (G.2.1, 617, .inl w0.1)), (hw0_2, .inl (G.2.1, 2468, .inl w0.2.1)), (hw0_3, .inl (G.2.1, 30, .inl w0.2.2.2.2.1)), (hw0_4, .inl (G.2.1, 4000, .inl w0.2.2.2.2.2.1)), (hw0_5, .inl (G.2.1, 120, .inl w0.2.2.2.2.2.2.2.2.2.1)), (hw0_6, .inl (G.2.1, 64, .inl w0.2.2.2.2.2.2.2.2.2.2.1)), (hw0_7, .inl (G.2.2.1, 64, .inl w0.2.2.2.2.2.2.2.2.2.2.2.1)), (hw0_8, .inl (G.2.1, 64, .inl w0.2.2.2.2.2.2.2.2.2.2.2.2.2))] H → va_D A [(hw0_0, .inr (8, [.ref hw0_1, .ref hw0_2, .int w0.2.2.1, .int w0.2.2.2.1, .ref hw0_3, .ref hw0_4, .int w0.2.2.2.2.2.2.1, .int w0.2.2.2.2.2.2.2.1, .int w0.2.2.2.2.2.2.2.2.1, .ref hw0_5, .ref hw0_6, .ref hw0_7, .int w0.2.2.2.2.2.2.2.2.2.2.2.2.1, .ref hw0_8])), (hw0_1, .inl (G.2.1, 617, .inl w0.1)), (hw0_2, .inl (G.2.1, 2468, .inl w0.2.1)), (hw0_3, .inl (G.2.1, 30, .inl w0.2.2.2.2.1)), (hw0_4, .inl (G.2.1, 4000, .inl w0.2.2.2.2.2.1)), (hw0_5, .inl (G.2.1, 120, .inl w0.2.2.2.2.2.2.2.2.2.1)), (hw0_6, .inl (G.2.1, 64, .inl w0.2.2.2.2.2.2.2.2.2.2.1)), (hw0_7, .inl (G.2.2.1, 64, .inl w0.2.2.2.2.2.2.2.2.2.2.2.1)), (hw0_8, .inl (G.2.1, 64, .inl w0.2.2.2.2.2.2.2.2.2.2.2.2.2))] → va_S A s.heap H locs → ∀ (ls : Array Slot), lv_has ls 5 [(4, .int v4), (3, .int v3), (0, .ref hw0_0)] → W p l e (rm_X11_isOrderly) s m args below meth c H locs 0 0 Q (F0 m 50 ls [.int s0, .int s1]) := by
            intro v4 v3 s0 s1 hf H locs hP hD hS ls hl
            unfold f_X11_isOrderly_J50 at hf
            refine lv_iand (pc := 50) hx hb dX11_isOrderly_50 ?_
            refine lv_istore_n (pc := 51) (lv' := [(2, .int (s1 &&& s0)), (4, .int v4), (3, .int v3), (0, .ref hw0_0)]) hx hb dX11_isOrderly_51 rfl hl (by decide) rfl (fun ls hl => ?_)
            refine lv_iinc (pc := 52) (v := (v4 + (1 : Int32))) (lv' := [(4, .int (v4 + (1 : Int32))), (2, .int (s1 &&& s0)), (3, .int v3), (0, .ref hw0_0)]) hx hb dX11_isOrderly_52 hl (k := 1) rfl rfl (by decide) rfl (fun ls hl => ?_)
            refine lv_goto (pc := 55) (tgt := 14) hx hb dX11_isOrderly_55 (by decide) ?_
            exact ih14 (v4 + (1 : Int32)) v3 (s1 &&& s0) hf H locs hP hD hS ls (lv_sub hl [0, 2, 1, 3] rfl)
          intro v4 v3 v2 hf H locs hP hD hS ls hl
          rw [f_X11_isOrderly_L14.eq_2] at hf
          refine lv_iload (pc := 14) hx hb dX11_isOrderly_14 (lv_at hl 0 rfl) ?_
          refine lv_aload_n (pc := 16) hx hb dX11_isOrderly_16 rfl (lv_at hl 3 rfl) ?_
          refine va_get (pc := 17) (D := G.1) (ci := 8) (v := .ref hw0_1) (C := RX11) (T := TX11) (N := 14) hx hb hts inX11 hown hK.1 hP 0 rfl rfl 0 (by decide) (hts _ wd_880) (fun _ h9 => h9) rfl dX11_isOrderly_17 ?_
          refine lv_sipush (pc := 20) (v := (132 : Int32)) hx hb dX11_isOrderly_20 (by decide) ?_
          obtain ⟨hg, hf⟩ := gd_some hf
          refine va_iald (pc := 23) hx hb hK.1 hP 1 0 rfl rfl hg dX11_isOrderly_23 ?_
          refine lv_icmp_ge (pc := 24) (tgt := 58) hx hb dX11_isOrderly_24 (by decide) (fun hc => ?_) (fun hc => ?_)
          · have hf := br_y hc hf
            refine lv_goto (pc := 58) (tgt := 4) hx hb dX11_isOrderly_58 (by decide) ?_
            exact ih4 v3 v2 hf H locs hP hD hS ls (lv_sub hl [1, 2, 3] rfl)
          · have hf := br_n hc hf
            refine lv_iload_n (pc := 27) hx hb dX11_isOrderly_27 rfl (lv_at hl 2 rfl) ?_
            refine lv_aload_n (pc := 28) hx hb dX11_isOrderly_28 rfl (lv_at hl 3 rfl) ?_
            refine va_get (pc := 29) (D := G.1) (ci := 8) (v := .ref hw0_3) (C := RX11) (T := TX11) (N := 14) hx hb hts inX11 hown hK.1 hP 0 rfl rfl 4 (by decide) (hts _ wd_884) (fun _ h9 => h9) rfl dX11_isOrderly_29 ?_
            refine lv_iload (pc := 32) hx hb dX11_isOrderly_32 (lv_at hl 0 rfl) ?_
            obtain ⟨hg, hf⟩ := gd_some hf
            refine va_iald (pc := 34) hx hb hK.1 hP 3 0 rfl rfl hg dX11_isOrderly_34 ?_
            refine lv_iload_n (pc := 35) hx hb dX11_isOrderly_35 rfl (lv_at hl 2 rfl) ?_
            refine lv_iand (pc := 36) hx hb dX11_isOrderly_36 ?_
            refine lv_if_ne (pc := 37) (tgt := 49) hx hb dX11_isOrderly_37 (by decide) (fun hc => ?_) (fun hc => ?_)
            · have hf := br_n hc hf
              refine lv_iconst (pc := 49) (v := (-1 : Int32)) hx hb dX11_isOrderly_49 (by decide) ?_
              exact hJ50 v4 v3 (-1 : Int32) v2 hf H locs hP hD hS ls (lv_sub hl [0, 1, 3] rfl)
            · have hf := br_y hc hf
              refine lv_iconst (pc := 40) (v := (1 : Int32)) hx hb dX11_isOrderly_40 (by decide) ?_
              refine lv_iload (pc := 41) hx hb dX11_isOrderly_41 (lv_at hl 0 rfl) ?_
              refine lv_ishl (pc := 43) hx hb dX11_isOrderly_43 ?_
              refine lv_iconst (pc := 44) (v := (-1 : Int32)) hx hb dX11_isOrderly_44 (by decide) ?_
              refine lv_ixor (pc := 45) hx hb dX11_isOrderly_45 ?_
              refine lv_goto (pc := 46) (tgt := 50) hx hb dX11_isOrderly_46 (by decide) ?_
              exact hJ50 v4 v3 (((1 : Int32) <<< (v4 &&& 31)) ^^^ (-1 : Int32)) v2 hf H locs hP hD hS ls (lv_sub hl [0, 1, 3] rfl)
      intro v3 v2 hf H locs hP hD hS ls hl
      rw [f_X11_isOrderly_L4.eq_2] at hf
      refine lv_iload_n (pc := 4) hx hb dX11_isOrderly_4 rfl (lv_at hl 1 rfl) ?_
      refine lv_iload_n (pc := 5) hx hb dX11_isOrderly_5 rfl (lv_at hl 0 rfl) ?_
      refine lv_icmp_eq (pc := 6) (tgt := 61) hx hb dX11_isOrderly_6 (by decide) (fun hc => ?_) (fun hc => ?_)
      · have hf := br_y hc hf
        refine lv_iload_n (pc := 61) hx hb dX11_isOrderly_61 rfl (lv_at hl 1 rfl) ?_
        refine lv_if_ne (pc := 62) (tgt := 69) hx hb dX11_isOrderly_62 (by decide) (fun hc => ?_) (fun hc => ?_)
        · have hf := br_n hc hf
          refine lv_iconst (pc := 69) (v := (0 : Int32)) hx hb dX11_isOrderly_69 (by decide) ?_
          have hf := Option.some.inj hf; subst hf
          rw [← hQ]
          exact g_zret (v := (0 : Int32)) hx hb hr hlocks rfl hP hS dX11_isOrderly_70
        · have hf := br_y hc hf
          refine lv_iconst (pc := 65) (v := (1 : Int32)) hx hb dX11_isOrderly_65 (by decide) ?_
          refine lv_goto (pc := 66) (tgt := 70) hx hb dX11_isOrderly_66 (by decide) ?_
          have hf := Option.some.inj hf; subst hf
          rw [← hQ]
          exact g_zret (v := (1 : Int32)) hx hb hr hlocks rfl hP hS dX11_isOrderly_70
      · have hf := br_n hc hf
        refine lv_iload_n (pc := 9) hx hb dX11_isOrderly_9 rfl (lv_at hl 1 rfl) ?_
        refine lv_istore_n (pc := 10) (lv' := [(3, .int v2), (2, .int v2), (0, .ref hw0_0)]) hx hb dX11_isOrderly_10 rfl hl (by decide) rfl (fun ls hl => ?_)
        refine lv_iconst (pc := 11) (v := (0 : Int32)) hx hb dX11_isOrderly_11 (by decide) ?_
        refine lv_istore (pc := 12) (lv' := [(4, .int (0 : Int32)), (3, .int v2), (2, .int v2), (0, .ref hw0_0)]) hx hb dX11_isOrderly_12 hl (by decide) rfl (fun ls hl => ?_)
        exact hL14 FUEL (0 : Int32) v2 v2 hf H locs hP hD hS ls (lv_sub hl [0, 1, 2, 3] rfl)
  refine lv_iload_n (pc := 0) hx hb dX11_isOrderly_0 rfl (lv_at hl 1 rfl) ?_
  refine lv_istore_n (pc := 1) (lv' := [(2, .int p1), (0, .ref hw0_0), (1, .int p1)]) hx hb dX11_isOrderly_1 rfl hl (by decide) rfl (fun ls hl => ?_)
  refine lv_iconst (pc := 2) (v := (0 : Int32)) hx hb dX11_isOrderly_2 (by decide) ?_
  refine lv_istore_n (pc := 3) (lv' := [(3, .int (0 : Int32)), (2, .int p1), (0, .ref hw0_0), (1, .int p1)]) hx hb dX11_isOrderly_3 rfl hl (by decide) rfl (fun ls hl => ?_)
  exact hL4 FUEL (0 : Int32) p1 hf H locs hP hD hS ls (lv_sub hl [0, 1, 2] rfl)
theorem hd_X11_leastLossOf : yX11_leastLossOf.cls ≠ "java/lang/invoke/MethodHandle" ∧ yX11_leastLossOf.cls ≠ "java/lang/invoke/VarHandle" ∧ (parseMethodDescriptor yX11_leastLossOf.desc).map (fun d => d.parameters.length) = some 0 := by decide +kernel
abbrev rm_X11_leastLossOf : Room := { frames := 3, cells := 0, slots := 0, locals := 65 }
noncomputable def f_X11_leastLossOf_J125  (rec85 : TModel → Int32 → Int32 → Int32 → Option (Int32 × TModel)) (w0 : TModel) (v3 : Int32) (v1 : Int32) (s0 : Int32) : Option (Int32 × TModel) :=
  rec85 w0 v3 s0 v1
noncomputable def f_X11_leastLossOf_J124  (rec85 : TModel → Int32 → Int32 → Int32 → Option (Int32 × TModel)) (w0 : TModel) (v3 : Int32) (v2 : Int32) (v1 : Int32) : Option (Int32 × TModel) :=
  f_X11_leastLossOf_J125  rec85 w0 v3 v1 v2
noncomputable def f_X11_leastLossOf_L85   : Nat → TModel → Int32 → Int32 → Int32 → Option (Int32 × TModel)
  | 0, _, _, _, _ => none
  | k85 + 1, w0, v3, v2, v1 =>
    br (v3 = 0) (some (v2, w0)) ((f_X11_lossOf w0 ((v3 - (1 : Int32)) &&& v1)).bind (fun x3 => br (v2 ≤ x3) (f_X11_leastLossOf_J124  (f_X11_leastLossOf_L85   k85) w0 ((v3 - (1 : Int32)) &&& v1) v2 v1) ((f_X11_isOrderly w0 (v1 &&& (((v3 - (1 : Int32)) &&& v1) ^^^ (-1 : Int32)))).bind (fun x4 => br (x4 = 0) (f_X11_leastLossOf_J124  (f_X11_leastLossOf_L85   k85) w0 ((v3 - (1 : Int32)) &&& v1) v2 v1) ((f_X11_lossOf w0 ((v3 - (1 : Int32)) &&& v1)).bind (fun x5 => f_X11_leastLossOf_J125  (f_X11_leastLossOf_L85   k85) w0 ((v3 - (1 : Int32)) &&& v1) v1 x5))))))
noncomputable def f_X11_leastLossOf_J58  (rec2 : TModel → Int32 → Option (Int32 × TModel)) (rec23 : TModel → Int32 → Int32 → Option (Int32 × TModel)) (w0 : TModel) (v2 : Int32) (v1 : Int32) (s0 : Int32) (s1 : Int32) (s2 : Int32) : Option (Int32 × TModel) :=
  gd (vp_in s2 30) (rec23 (w0.1, w0.2.1, w0.2.2.1, w0.2.2.2.1, (upd w0.2.2.2.2.1 s2.toNatClampNeg (s1 ||| s0)), w0.2.2.2.2.2.1, w0.2.2.2.2.2.2.1, w0.2.2.2.2.2.2.2.1, w0.2.2.2.2.2.2.2.2.1, w0.2.2.2.2.2.2.2.2.2.1, w0.2.2.2.2.2.2.2.2.2.2.1, w0.2.2.2.2.2.2.2.2.2.2.2.1, w0.2.2.2.2.2.2.2.2.2.2.2.2.1, w0.2.2.2.2.2.2.2.2.2.2.2.2.2) (v2 + (1 : Int32)) v1)
noncomputable def f_X11_leastLossOf_L23  (rec2 : TModel → Int32 → Option (Int32 × TModel)) : Nat → TModel → Int32 → Int32 → Option (Int32 × TModel)
  | 0, _, _, _ => none
  | k23 + 1, w0, v2, v1 =>
    gd (vp_in (132 : Int32) 617) (br ((w0.1 (132 : Int32).toNatClampNeg) ≤ v2) (rec2 w0 (v1 + (1 : Int32))) (gd (vp_in v1 30) ((f_X11_precedes w0 v2 v1).bind (fun x6 => br (x6 = 0) (f_X11_leastLossOf_J58  rec2 (f_X11_leastLossOf_L23  rec2 k23) w0 v2 v1 (0 : Int32) (w0.2.2.2.2.1 v1.toNatClampNeg) v1) (f_X11_leastLossOf_J58  rec2 (f_X11_leastLossOf_L23  rec2 k23) w0 v2 v1 ((1 : Int32) <<< (v2 &&& 31)) (w0.2.2.2.2.1 v1.toNatClampNeg) v1)))))
noncomputable def f_X11_leastLossOf_L2   : Nat → TModel → Int32 → Option (Int32 × TModel)
  | 0, _, _ => none
  | k2 + 1, w0, v1 =>
    gd (vp_in (132 : Int32) 617) (br ((w0.1 (132 : Int32).toNatClampNeg) ≤ v1) ((f_X11_copies w0).bind (fun x1 => (f_X11_lossOf w0 x1).bind (fun x2 => f_X11_leastLossOf_L85  FUEL w0 x1 x2 x1))) (gd (vp_in v1 30) (f_X11_leastLossOf_L23  (f_X11_leastLossOf_L2   k2) FUEL (w0.1, w0.2.1, w0.2.2.1, w0.2.2.2.1, (upd w0.2.2.2.2.1 v1.toNatClampNeg (0 : Int32)), w0.2.2.2.2.2.1, w0.2.2.2.2.2.2.1, w0.2.2.2.2.2.2.2.1, w0.2.2.2.2.2.2.2.2.1, w0.2.2.2.2.2.2.2.2.2.1, w0.2.2.2.2.2.2.2.2.2.2.1, w0.2.2.2.2.2.2.2.2.2.2.2.1, w0.2.2.2.2.2.2.2.2.2.2.2.2.1, w0.2.2.2.2.2.2.2.2.2.2.2.2.2) (0 : Int32) v1)))
noncomputable def f_X11_leastLossOf (w0 : TModel) : Option (Int32 × TModel) :=
  f_X11_leastLossOf_L2  FUEL w0 (0 : Int32)
set_option maxHeartbeats 4000000 in
set_option maxRecDepth 100000 in
theorem c_X11_leastLossOf (l : Launch) (G : GT) (hw0_0 hw0_1 hw0_2 hw0_3 hw0_4 hw0_5 hw0_6 hw0_7 hw0_8 : Nat) (w0 : TModel) {r : Int32 × TModel} (hf : f_X11_leastLossOf w0 = some r) : Ct l yX11_leastLossOf (Cond.code yX11_leastLossOf cX11_leastLossOf 4 (some .int) :: lw_g) rm_X11_leastLossOf G [.ref hw0_0] [(hw0_0, .inr (8, [.ref hw0_1, .ref hw0_2, .int w0.2.2.1, .int w0.2.2.2.1, .ref hw0_3, .ref hw0_4, .int w0.2.2.2.2.2.2.1, .int w0.2.2.2.2.2.2.2.1, .int w0.2.2.2.2.2.2.2.2.1, .ref hw0_5, .ref hw0_6, .ref hw0_7, .int w0.2.2.2.2.2.2.2.2.2.2.2.2.1, .ref hw0_8])), (hw0_1, .inl (G.2.1, 617, .inl w0.1)), (hw0_2, .inl (G.2.1, 2468, .inl w0.2.1)), (hw0_3, .inl (G.2.1, 30, .inl w0.2.2.2.2.1)), (hw0_4, .inl (G.2.1, 4000, .inl w0.2.2.2.2.2.1)), (hw0_5, .inl (G.2.1, 120, .inl w0.2.2.2.2.2.2.2.2.2.1)), (hw0_6, .inl (G.2.1, 64, .inl w0.2.2.2.2.2.2.2.2.2.2.1)), (hw0_7, .inl (G.2.2.1, 64, .inl w0.2.2.2.2.2.2.2.2.2.2.2.1)), (hw0_8, .inl (G.2.1, 64, .inl w0.2.2.2.2.2.2.2.2.2.2.2.2.2))] (some (.int r.1)) [(hw0_0, .inr (8, [.ref hw0_1, .ref hw0_2, .int r.2.2.2.1, .int r.2.2.2.2.1, .ref hw0_3, .ref hw0_4, .int r.2.2.2.2.2.2.2.1, .int r.2.2.2.2.2.2.2.2.1, .int r.2.2.2.2.2.2.2.2.2.1, .ref hw0_5, .ref hw0_6, .ref hw0_7, .int r.2.2.2.2.2.2.2.2.2.2.2.2.2.1, .ref hw0_8])), (hw0_1, .inl (G.2.1, 617, .inl r.2.1)), (hw0_2, .inl (G.2.1, 2468, .inl r.2.2.1)), (hw0_3, .inl (G.2.1, 30, .inl r.2.2.2.2.2.1)), (hw0_4, .inl (G.2.1, 4000, .inl r.2.2.2.2.2.2.1)), (hw0_5, .inl (G.2.1, 120, .inl r.2.2.2.2.2.2.2.2.2.2.1)), (hw0_6, .inl (G.2.1, 64, .inl r.2.2.2.2.2.2.2.2.2.2.2.1)), (hw0_7, .inl (G.2.2.1, 64, .inl r.2.2.2.2.2.2.2.2.2.2.2.2.1)), (hw0_8, .inl (G.2.1, 64, .inl r.2.2.2.2.2.2.2.2.2.2.2.2.2.2))] := by
  refine Ct.ofW (cc := cX11_leastLossOf) (maxL := 4) (ret := (some .int)) (own := RX11) (by decide) rfl rfl (Nat.le_of_ble_eq_true rfl) ?_
  intro p e s m args below meth c A hx hb hr hml hts hown hlocks hK hP hD hA hS ls hl
  have hl : lv_has ls 4 [(0, .ref hw0_0)] := hl
  generalize hQ : gMQ below G _ _ A args s = Q
  generalize hH : s.heap = H at hP ⊢
  have hS : va_S A s.heap H [] := by rw [← hH]; exact hS
  generalize ([] : List Loc) = locs at hS ⊢
  unfold f_X11_leastLossOf at hf
  have hL85 : ∀ (k85 : Nat) (w0 : TModel) (v3 : Int32) (v2 : Int32) (v1 : Int32), f_X11_leastLossOf_L85   k85 w0 v3 v2 v1 = some r → ∀ (H : Heap) (locs : List Loc), va_P G.1 vwCl [(hw0_0, .inr (8, [.ref hw0_1, .ref hw0_2, .int w0.2.2.1, .int w0.2.2.2.1, .ref hw0_3, .ref hw0_4, .int w0.2.2.2.2.2.2.1, .int w0.2.2.2.2.2.2.2.1, .int w0.2.2.2.2.2.2.2.2.1, .ref hw0_5, .ref hw0_6, .ref hw0_7, .int w0.2.2.2.2.2.2.2.2.2.2.2.2.1, .ref hw0_8])), (hw0_1, .inl (G.2.1, 617, .inl w0.1)), (hw0_2, .inl (G.2.1, 2468, .inl w0.2.1)), (hw0_3, .inl (G.2.1, 30, .inl w0.2.2.2.2.1)), (hw0_4, .inl (G.2.1, 4000, .inl w0.2.2.2.2.2.1)), (hw0_5, .inl (G.2.1, 120, .inl w0.2.2.2.2.2.2.2.2.2.1)), (hw0_6, .inl (G.2.1, 64, .inl w0.2.2.2.2.2.2.2.2.2.2.1)), (hw0_7, .inl (G.2.2.1, 64, .inl w0.2.2.2.2.2.2.2.2.2.2.2.1)), (hw0_8, .inl (G.2.1, 64, .inl w0.2.2.2.2.2.2.2.2.2.2.2.2.2))] H → va_D A [(hw0_0, .inr (8, [.ref hw0_1, .ref hw0_2, .int w0.2.2.1, .int w0.2.2.2.1, .ref hw0_3, .ref hw0_4, .int w0.2.2.2.2.2.2.1, .int w0.2.2.2.2.2.2.2.1, .int w0.2.2.2.2.2.2.2.2.1, .ref hw0_5, .ref hw0_6, .ref hw0_7, .int w0.2.2.2.2.2.2.2.2.2.2.2.2.1, .ref hw0_8])), (hw0_1, .inl (G.2.1, 617, .inl w0.1)), (hw0_2, .inl (G.2.1, 2468, .inl w0.2.1)), (hw0_3, .inl (G.2.1, 30, .inl w0.2.2.2.2.1)), (hw0_4, .inl (G.2.1, 4000, .inl w0.2.2.2.2.2.1)), (hw0_5, .inl (G.2.1, 120, .inl w0.2.2.2.2.2.2.2.2.2.1)), (hw0_6, .inl (G.2.1, 64, .inl w0.2.2.2.2.2.2.2.2.2.2.1)), (hw0_7, .inl (G.2.2.1, 64, .inl w0.2.2.2.2.2.2.2.2.2.2.2.1)), (hw0_8, .inl (G.2.1, 64, .inl w0.2.2.2.2.2.2.2.2.2.2.2.2.2))] → va_S A s.heap H locs → ∀ (ls : Array Slot), lv_has ls 4 [(3, .int v3), (2, .int v2), (1, .int v1), (0, .ref hw0_0)] → W p l e (rm_X11_leastLossOf) s m args below meth c H locs 0 0 Q (F0 m 85 ls []) := by
    intro k85
    induction k85 with
    | zero =>
      intro w0 v3 v2 v1 hf
      rw [f_X11_leastLossOf_L85.eq_1] at hf; cases hf
    | succ k85 ih85 =>
      have hJ125 : ∀ (w0 : TModel) (v3 : Int32) (v1 : Int32) (s0 : Int32), f_X11_leastLossOf_J125  (f_X11_leastLossOf_L85 k85) w0 v3 v1 s0 = some r → ∀ (H : Heap) (locs : List Loc), va_P G.1 vwCl [(hw0_0, .inr (8, [.ref hw0_1, .ref hw0_2, .int w0.2.2.1, .int w0.2.2.2.1, .ref hw0_3, .ref hw0_4, .int w0.2.2.2.2.2.2.1, .int w0.2.2.2.2.2.2.2.1, .int w0.2.2.2.2.2.2.2.2.1, .ref hw0_5, .ref hw0_6, .ref hw0_7, .int w0.2.2.2.2.2.2.2.2.2.2.2.2.1, .ref hw0_8])), (hw0_1, .inl (G.2.1, 617, .inl w0.1)), (hw0_2, .inl (G.2.1, 2468, .inl w0.2.1)), (hw0_3, .inl (G.2.1, 30, .inl w0.2.2.2.2.1)), (hw0_4, .inl (G.2.1, 4000, .inl w0.2.2.2.2.2.1)), (hw0_5, .inl (G.2.1, 120, .inl w0.2.2.2.2.2.2.2.2.2.1)), (hw0_6, .inl (G.2.1, 64, .inl w0.2.2.2.2.2.2.2.2.2.2.1)), (hw0_7, .inl (G.2.2.1, 64, .inl w0.2.2.2.2.2.2.2.2.2.2.2.1)), (hw0_8, .inl (G.2.1, 64, .inl w0.2.2.2.2.2.2.2.2.2.2.2.2.2))] H → va_D A [(hw0_0, .inr (8, [.ref hw0_1, .ref hw0_2, .int w0.2.2.1, .int w0.2.2.2.1, .ref hw0_3, .ref hw0_4, .int w0.2.2.2.2.2.2.1, .int w0.2.2.2.2.2.2.2.1, .int w0.2.2.2.2.2.2.2.2.1, .ref hw0_5, .ref hw0_6, .ref hw0_7, .int w0.2.2.2.2.2.2.2.2.2.2.2.2.1, .ref hw0_8])), (hw0_1, .inl (G.2.1, 617, .inl w0.1)), (hw0_2, .inl (G.2.1, 2468, .inl w0.2.1)), (hw0_3, .inl (G.2.1, 30, .inl w0.2.2.2.2.1)), (hw0_4, .inl (G.2.1, 4000, .inl w0.2.2.2.2.2.1)), (hw0_5, .inl (G.2.1, 120, .inl w0.2.2.2.2.2.2.2.2.2.1)), (hw0_6, .inl (G.2.1, 64, .inl w0.2.2.2.2.2.2.2.2.2.2.1)), (hw0_7, .inl (G.2.2.1, 64, .inl w0.2.2.2.2.2.2.2.2.2.2.2.1)), (hw0_8, .inl (G.2.1, 64, .inl w0.2.2.2.2.2.2.2.2.2.2.2.2.2))] → va_S A s.heap H locs → ∀ (ls : Array Slot), lv_has ls 4 [(3, .int v3), (1, .int v1), (0, .ref hw0_0)] → W p l e (rm_X11_leastLossOf) s m args below meth c H locs 0 0 Q (F0 m 125 ls [.int s0]) := by
        intro w0 v3 v1 s0 hf H locs hP hD hS ls hl
        unfold f_X11_leastLossOf_J125 at hf
        refine lv_istore_n (pc := 125) (lv' := [(2, .int s0), (3, .int v3), (1, .int v1), (0, .ref hw0_0)]) hx hb dX11_leastLossOf_125 rfl hl (by decide) rfl (fun ls hl => ?_)
        refine lv_goto (pc := 126) (tgt := 85) hx hb dX11_leastLossOf_126 (by decide) ?_
        exact ih85 w0 v3 s0 v1 hf H locs hP hD hS ls (lv_sub hl [1, 0, 2, 3] rfl)
      have hJ124 : ∀ (w0 : TModel) (v3 : Int32) (v2 : Int32) (v1 : Int32), f_X11_leastLossOf_J124  (f_X11_leastLossOf_L85 k85) w0 v3 v2 v1 = some r → ∀ (H : Heap) (locs : List Loc), va_P G.1 vwCl [(hw0_0, .inr (8, [.ref hw0_1, .ref hw0_2, .int w0.2.2.1, .int w0.2.2.2.1, .ref hw0_3, .ref hw0_4, .int w0.2.2.2.2.2.2.1, .int w0.2.2.2.2.2.2.2.1, .int w0.2.2.2.2.2.2.2.2.1, .ref hw0_5, .ref hw0_6, .ref hw0_7, .int w0.2.2.2.2.2.2.2.2.2.2.2.2.1, .ref hw0_8])), (hw0_1, .inl (G.2.1, 617, .inl w0.1)), (hw0_2, .inl (G.2.1, 2468, .inl w0.2.1)), (hw0_3, .inl (G.2.1, 30, .inl w0.2.2.2.2.1)), (hw0_4, .inl (G.2.1, 4000, .inl w0.2.2.2.2.2.1)), (hw0_5, .inl (G.2.1, 120, .inl w0.2.2.2.2.2.2.2.2.2.1)), (hw0_6, .inl (G.2.1, 64, .inl w0.2.2.2.2.2.2.2.2.2.2.1)), (hw0_7, .inl (G.2.2.1, 64, .inl w0.2.2.2.2.2.2.2.2.2.2.2.1)), (hw0_8, .inl (G.2.1, 64, .inl w0.2.2.2.2.2.2.2.2.2.2.2.2.2))] H → va_D A [(hw0_0, .inr (8, [.ref hw0_1, .ref hw0_2, .int w0.2.2.1, .int w0.2.2.2.1, .ref hw0_3, .ref hw0_4, .int w0.2.2.2.2.2.2.1, .int w0.2.2.2.2.2.2.2.1, .int w0.2.2.2.2.2.2.2.2.1, .ref hw0_5, .ref hw0_6, .ref hw0_7, .int w0.2.2.2.2.2.2.2.2.2.2.2.2.1, .ref hw0_8])), (hw0_1, .inl (G.2.1, 617, .inl w0.1)), (hw0_2, .inl (G.2.1, 2468, .inl w0.2.1)), (hw0_3, .inl (G.2.1, 30, .inl w0.2.2.2.2.1)), (hw0_4, .inl (G.2.1, 4000, .inl w0.2.2.2.2.2.1)), (hw0_5, .inl (G.2.1, 120, .inl w0.2.2.2.2.2.2.2.2.2.1)), (hw0_6, .inl (G.2.1, 64, .inl w0.2.2.2.2.2.2.2.2.2.2.1)), (hw0_7, .inl (G.2.2.1, 64, .inl w0.2.2.2.2.2.2.2.2.2.2.2.1)), (hw0_8, .inl (G.2.1, 64, .inl w0.2.2.2.2.2.2.2.2.2.2.2.2.2))] → va_S A s.heap H locs → ∀ (ls : Array Slot), lv_has ls 4 [(3, .int v3), (2, .int v2), (1, .int v1), (0, .ref hw0_0)] → W p l e (rm_X11_leastLossOf) s m args below meth c H locs 0 0 Q (F0 m 124 ls []) := by
        intro w0 v3 v2 v1 hf H locs hP hD hS ls hl
        unfold f_X11_leastLossOf_J124 at hf
        refine lv_iload_n (pc := 124) hx hb dX11_leastLossOf_124 rfl (lv_at hl 1 rfl) ?_
        exact hJ125 w0 v3 v1 v2 hf H locs hP hD hS ls (lv_sub hl [0, 2, 3] rfl)
      intro w0 v3 v2 v1 hf H locs hP hD hS ls hl
      rw [f_X11_leastLossOf_L85.eq_2] at hf
      refine lv_iload_n (pc := 85) hx hb dX11_leastLossOf_85 rfl (lv_at hl 0 rfl) ?_
      refine lv_if_eq (pc := 86) (tgt := 129) hx hb dX11_leastLossOf_86 (by decide) (fun hc => ?_) (fun hc => ?_)
      · have hf := br_y hc hf
        refine lv_iload_n (pc := 129) hx hb dX11_leastLossOf_129 rfl (lv_at hl 1 rfl) ?_
        have hf := Option.some.inj hf; subst hf
        rw [← hQ]
        exact g_iret hx hb hr hlocks hP hS dX11_leastLossOf_130
      · have hf := br_n hc hf
        refine lv_iload_n (pc := 89) hx hb dX11_leastLossOf_89 rfl (lv_at hl 0 rfl) ?_
        refine lv_iconst (pc := 90) (v := (1 : Int32)) hx hb dX11_leastLossOf_90 (by decide) ?_
        refine lv_isub (pc := 91) hx hb dX11_leastLossOf_91 ?_
        refine lv_iload_n (pc := 92) hx hb dX11_leastLossOf_92 rfl (lv_at hl 2 rfl) ?_
        refine lv_iand (pc := 93) hx hb dX11_leastLossOf_93 ?_
        refine lv_istore_n (pc := 94) (lv' := [(3, .int ((v3 - (1 : Int32)) &&& v1)), (2, .int v2), (1, .int v1), (0, .ref hw0_0)]) hx hb dX11_leastLossOf_94 rfl hl (by decide) rfl (fun ls hl => ?_)
        refine lv_aload_n (pc := 95) hx hb dX11_leastLossOf_95 rfl (lv_at hl 3 rfl) ?_
        refine lv_iload_n (pc := 96) hx hb dX11_leastLossOf_96 rfl (lv_at hl 0 rfl) ?_
        obtain ⟨x3, hcx3, hf⟩ := bn_some hf
        refine g_callV0 (pc := 97) (rest := []) hx hb hml hown hts hK (c_X11_lossOf l G hw0_0 hw0_1 hw0_2 hw0_3 hw0_4 hw0_5 hw0_6 hw0_7 hw0_8 w0 ((v3 - (1 : Int32)) &&& v1) hcx3) wd_1063 wd_10 wd_1060 wd_1062 ws_30 hd_X11_lossOf ⟨rfl, rfl, Nat.le_of_ble_eq_true rfl, Nat.le_of_ble_eq_true rfl⟩ hP hD hS hA [0, 1, 2, 3, 4, 5, 6, 7, 8] rfl rfl 8 0 rfl rfl rfl rfl hl.1 rfl (Nat.le_of_ble_eq_true rfl) dX11_leastLossOf_97 ⟨Nat.zero_le _, Nat.zero_le _⟩ (fun H locs hP hS => ?_)
        refine lv_iload_n (pc := 100) hx hb dX11_leastLossOf_100 rfl (lv_at hl 1 rfl) ?_
        refine lv_icmp_ge (pc := 101) (tgt := 124) hx hb dX11_leastLossOf_101 (by decide) (fun hc => ?_) (fun hc => ?_)
        · have hf := br_y hc hf
          exact hJ124 w0 ((v3 - (1 : Int32)) &&& v1) v2 v1 hf H locs hP hD hS ls (lv_sub hl [0, 1, 2, 3] rfl)
        · have hf := br_n hc hf
          refine lv_aload_n (pc := 104) hx hb dX11_leastLossOf_104 rfl (lv_at hl 3 rfl) ?_
          refine lv_iload_n (pc := 105) hx hb dX11_leastLossOf_105 rfl (lv_at hl 2 rfl) ?_
          refine lv_iload_n (pc := 106) hx hb dX11_leastLossOf_106 rfl (lv_at hl 0 rfl) ?_
          refine lv_iconst (pc := 107) (v := (-1 : Int32)) hx hb dX11_leastLossOf_107 (by decide) ?_
          refine lv_ixor (pc := 108) hx hb dX11_leastLossOf_108 ?_
          refine lv_iand (pc := 109) hx hb dX11_leastLossOf_109 ?_
          obtain ⟨x4, hcx4, hf⟩ := bn_some hf
          refine g_callV0 (pc := 110) (rest := []) hx hb hml hown hts hK (c_X11_isOrderly l G hw0_0 hw0_1 hw0_2 hw0_3 hw0_4 hw0_5 hw0_6 hw0_7 hw0_8 w0 (v1 &&& (((v3 - (1 : Int32)) &&& v1) ^^^ (-1 : Int32))) hcx4) wd_1075 wd_10 wd_1072 wd_1074 ws_32 hd_X11_isOrderly ⟨rfl, rfl, Nat.le_of_ble_eq_true rfl, Nat.le_of_ble_eq_true rfl⟩ hP hD hS hA [0, 1, 2, 3, 4, 5, 6, 7, 8] rfl rfl 8 0 rfl rfl rfl rfl hl.1 rfl (Nat.le_of_ble_eq_true rfl) dX11_leastLossOf_110 ⟨Nat.zero_le _, Nat.zero_le _⟩ (fun H locs hP hS => ?_)
          refine lv_if_eq (pc := 113) (tgt := 124) hx hb dX11_leastLossOf_113 (by decide) (fun hc => ?_) (fun hc => ?_)
          · have hf := br_y hc hf
            exact hJ124 w0 ((v3 - (1 : Int32)) &&& v1) v2 v1 hf H locs hP hD hS ls (lv_sub hl [0, 1, 2, 3] rfl)
          · have hf := br_n hc hf
            refine lv_aload_n (pc := 116) hx hb dX11_leastLossOf_116 rfl (lv_at hl 3 rfl) ?_
            refine lv_iload_n (pc := 117) hx hb dX11_leastLossOf_117 rfl (lv_at hl 0 rfl) ?_
            obtain ⟨x5, hcx5, hf⟩ := bn_some hf
            refine g_callV0 (pc := 118) (rest := []) hx hb hml hown hts hK (c_X11_lossOf l G hw0_0 hw0_1 hw0_2 hw0_3 hw0_4 hw0_5 hw0_6 hw0_7 hw0_8 w0 ((v3 - (1 : Int32)) &&& v1) hcx5) wd_1063 wd_10 wd_1060 wd_1062 ws_30 hd_X11_lossOf ⟨rfl, rfl, Nat.le_of_ble_eq_true rfl, Nat.le_of_ble_eq_true rfl⟩ hP hD hS hA [0, 1, 2, 3, 4, 5, 6, 7, 8] rfl rfl 8 0 rfl rfl rfl rfl hl.1 rfl (Nat.le_of_ble_eq_true rfl) dX11_leastLossOf_118 ⟨Nat.zero_le _, Nat.zero_le _⟩ (fun H locs hP hS => ?_)
            refine lv_goto (pc := 121) (tgt := 125) hx hb dX11_leastLossOf_121 (by decide) ?_
            exact hJ125 w0 ((v3 - (1 : Int32)) &&& v1) v1 x5 hf H locs hP hD hS ls (lv_sub hl [0, 2, 3] rfl)
  have hL2 : ∀ (k2 : Nat) (w0 : TModel) (v1 : Int32), f_X11_leastLossOf_L2   k2 w0 v1 = some r → ∀ (H : Heap) (locs : List Loc), va_P G.1 vwCl [(hw0_0, .inr (8, [.ref hw0_1, .ref hw0_2, .int w0.2.2.1, .int w0.2.2.2.1, .ref hw0_3, .ref hw0_4, .int w0.2.2.2.2.2.2.1, .int w0.2.2.2.2.2.2.2.1, .int w0.2.2.2.2.2.2.2.2.1, .ref hw0_5, .ref hw0_6, .ref hw0_7, .int w0.2.2.2.2.2.2.2.2.2.2.2.2.1, .ref hw0_8])), (hw0_1, .inl (G.2.1, 617, .inl w0.1)), (hw0_2, .inl (G.2.1, 2468, .inl w0.2.1)), (hw0_3, .inl (G.2.1, 30, .inl w0.2.2.2.2.1)), (hw0_4, .inl (G.2.1, 4000, .inl w0.2.2.2.2.2.1)), (hw0_5, .inl (G.2.1, 120, .inl w0.2.2.2.2.2.2.2.2.2.1)), (hw0_6, .inl (G.2.1, 64, .inl w0.2.2.2.2.2.2.2.2.2.2.1)), (hw0_7, .inl (G.2.2.1, 64, .inl w0.2.2.2.2.2.2.2.2.2.2.2.1)), (hw0_8, .inl (G.2.1, 64, .inl w0.2.2.2.2.2.2.2.2.2.2.2.2.2))] H → va_D A [(hw0_0, .inr (8, [.ref hw0_1, .ref hw0_2, .int w0.2.2.1, .int w0.2.2.2.1, .ref hw0_3, .ref hw0_4, .int w0.2.2.2.2.2.2.1, .int w0.2.2.2.2.2.2.2.1, .int w0.2.2.2.2.2.2.2.2.1, .ref hw0_5, .ref hw0_6, .ref hw0_7, .int w0.2.2.2.2.2.2.2.2.2.2.2.2.1, .ref hw0_8])), (hw0_1, .inl (G.2.1, 617, .inl w0.1)), (hw0_2, .inl (G.2.1, 2468, .inl w0.2.1)), (hw0_3, .inl (G.2.1, 30, .inl w0.2.2.2.2.1)), (hw0_4, .inl (G.2.1, 4000, .inl w0.2.2.2.2.2.1)), (hw0_5, .inl (G.2.1, 120, .inl w0.2.2.2.2.2.2.2.2.2.1)), (hw0_6, .inl (G.2.1, 64, .inl w0.2.2.2.2.2.2.2.2.2.2.1)), (hw0_7, .inl (G.2.2.1, 64, .inl w0.2.2.2.2.2.2.2.2.2.2.2.1)), (hw0_8, .inl (G.2.1, 64, .inl w0.2.2.2.2.2.2.2.2.2.2.2.2.2))] → va_S A s.heap H locs → ∀ (ls : Array Slot), lv_has ls 4 [(1, .int v1), (0, .ref hw0_0)] → W p l e (rm_X11_leastLossOf) s m args below meth c H locs 0 0 Q (F0 m 2 ls []) := by
    intro k2
    induction k2 with
    | zero =>
      intro w0 v1 hf
      rw [f_X11_leastLossOf_L2.eq_1] at hf; cases hf
    | succ k2 ih2 =>
      have hL23 : ∀ (k23 : Nat) (w0 : TModel) (v2 : Int32) (v1 : Int32), f_X11_leastLossOf_L23  (f_X11_leastLossOf_L2 k2) k23 w0 v2 v1 = some r → ∀ (H : Heap) (locs : List Loc), va_P G.1 vwCl [(hw0_0, .inr (8, [.ref hw0_1, .ref hw0_2, .int w0.2.2.1, .int w0.2.2.2.1, .ref hw0_3, .ref hw0_4, .int w0.2.2.2.2.2.2.1, .int w0.2.2.2.2.2.2.2.1, .int w0.2.2.2.2.2.2.2.2.1, .ref hw0_5, .ref hw0_6, .ref hw0_7, .int w0.2.2.2.2.2.2.2.2.2.2.2.2.1, .ref hw0_8])), (hw0_1, .inl (G.2.1, 617, .inl w0.1)), (hw0_2, .inl (G.2.1, 2468, .inl w0.2.1)), (hw0_3, .inl (G.2.1, 30, .inl w0.2.2.2.2.1)), (hw0_4, .inl (G.2.1, 4000, .inl w0.2.2.2.2.2.1)), (hw0_5, .inl (G.2.1, 120, .inl w0.2.2.2.2.2.2.2.2.2.1)), (hw0_6, .inl (G.2.1, 64, .inl w0.2.2.2.2.2.2.2.2.2.2.1)), (hw0_7, .inl (G.2.2.1, 64, .inl w0.2.2.2.2.2.2.2.2.2.2.2.1)), (hw0_8, .inl (G.2.1, 64, .inl w0.2.2.2.2.2.2.2.2.2.2.2.2.2))] H → va_D A [(hw0_0, .inr (8, [.ref hw0_1, .ref hw0_2, .int w0.2.2.1, .int w0.2.2.2.1, .ref hw0_3, .ref hw0_4, .int w0.2.2.2.2.2.2.1, .int w0.2.2.2.2.2.2.2.1, .int w0.2.2.2.2.2.2.2.2.1, .ref hw0_5, .ref hw0_6, .ref hw0_7, .int w0.2.2.2.2.2.2.2.2.2.2.2.2.1, .ref hw0_8])), (hw0_1, .inl (G.2.1, 617, .inl w0.1)), (hw0_2, .inl (G.2.1, 2468, .inl w0.2.1)), (hw0_3, .inl (G.2.1, 30, .inl w0.2.2.2.2.1)), (hw0_4, .inl (G.2.1, 4000, .inl w0.2.2.2.2.2.1)), (hw0_5, .inl (G.2.1, 120, .inl w0.2.2.2.2.2.2.2.2.2.1)), (hw0_6, .inl (G.2.1, 64, .inl w0.2.2.2.2.2.2.2.2.2.2.1)), (hw0_7, .inl (G.2.2.1, 64, .inl w0.2.2.2.2.2.2.2.2.2.2.2.1)), (hw0_8, .inl (G.2.1, 64, .inl w0.2.2.2.2.2.2.2.2.2.2.2.2.2))] → va_S A s.heap H locs → ∀ (ls : Array Slot), lv_has ls 4 [(2, .int v2), (1, .int v1), (0, .ref hw0_0)] → W p l e (rm_X11_leastLossOf) s m args below meth c H locs 0 0 Q (F0 m 23 ls []) := by
        intro k23
        induction k23 with
        | zero =>
          intro w0 v2 v1 hf
          rw [f_X11_leastLossOf_L23.eq_1] at hf; cases hf
        | succ k23 ih23 =>
          have hJ58 : ∀ (w0 : TModel) (v2 : Int32) (v1 : Int32) (s0 : Int32) (s1 : Int32) (s2 : Int32), f_X11_leastLossOf_J58  (f_X11_leastLossOf_L2 k2) (f_X11_leastLossOf_L23 (f_X11_leastLossOf_L2 k2) k23) w0 v2 v1 s0 s1 s2 = some r → ∀ (H : Heap) (locs : List Loc), va_P G.1 vwCl [(hw0_0, .inr (8, [.ref hw0_1, .ref hw0_2, .int w0.2.2.1, .int w0.2.2.2.1, .ref hw0_3, .ref hw0_4, .int w0.2.2.2.2.2.2.1, .int w0.2.2.2.2.2.2.2.1, .int w0.2.2.2.2.2.2.2.2.1, .ref hw0_5, .ref hw0_6, .ref hw0_7, .int w0.2.2.2.2.2.2.2.2.2.2.2.2.1, .ref hw0_8])), (hw0_1, .inl (G.2.1, 617, .inl w0.1)), (hw0_2, .inl (G.2.1, 2468, .inl w0.2.1)), (hw0_3, .inl (G.2.1, 30, .inl w0.2.2.2.2.1)), (hw0_4, .inl (G.2.1, 4000, .inl w0.2.2.2.2.2.1)), (hw0_5, .inl (G.2.1, 120, .inl w0.2.2.2.2.2.2.2.2.2.1)), (hw0_6, .inl (G.2.1, 64, .inl w0.2.2.2.2.2.2.2.2.2.2.1)), (hw0_7, .inl (G.2.2.1, 64, .inl w0.2.2.2.2.2.2.2.2.2.2.2.1)), (hw0_8, .inl (G.2.1, 64, .inl w0.2.2.2.2.2.2.2.2.2.2.2.2.2))] H → va_D A [(hw0_0, .inr (8, [.ref hw0_1, .ref hw0_2, .int w0.2.2.1, .int w0.2.2.2.1, .ref hw0_3, .ref hw0_4, .int w0.2.2.2.2.2.2.1, .int w0.2.2.2.2.2.2.2.1, .int w0.2.2.2.2.2.2.2.2.1, .ref hw0_5, .ref hw0_6, .ref hw0_7, .int w0.2.2.2.2.2.2.2.2.2.2.2.2.1, .ref hw0_8])), (hw0_1, .inl (G.2.1, 617, .inl w0.1)), (hw0_2, .inl (G.2.1, 2468, .inl w0.2.1)), (hw0_3, .inl (G.2.1, 30, .inl w0.2.2.2.2.1)), (hw0_4, .inl (G.2.1, 4000, .inl w0.2.2.2.2.2.1)), (hw0_5, .inl (G.2.1, 120, .inl w0.2.2.2.2.2.2.2.2.2.1)), (hw0_6, .inl (G.2.1, 64, .inl w0.2.2.2.2.2.2.2.2.2.2.1)), (hw0_7, .inl (G.2.2.1, 64, .inl w0.2.2.2.2.2.2.2.2.2.2.2.1)), (hw0_8, .inl (G.2.1, 64, .inl w0.2.2.2.2.2.2.2.2.2.2.2.2.2))] → va_S A s.heap H locs → ∀ (ls : Array Slot), lv_has ls 4 [(2, .int v2), (1, .int v1), (0, .ref hw0_0)] → W p l e (rm_X11_leastLossOf) s m args below meth c H locs 0 0 Q (F0 m 58 ls [.int s0, .int s1, .int s2, .ref hw0_3]) := by
            intro w0 v2 v1 s0 s1 s2 hf H locs hP hD hS ls hl
            unfold f_X11_leastLossOf_J58 at hf
            refine lv_ior (pc := 58) hx hb dX11_leastLossOf_58 ?_
            obtain ⟨hg, hf⟩ := gd_some hf
            refine va_iast (pc := 59) hx hb hK.1 hP hD hS 3 0 rfl rfl hg dX11_leastLossOf_59 (fun H locs hP hD hS => ?_)
            have hP : va_P G.1 vwCl [(hw0_0, .inr (8, [.ref hw0_1, .ref hw0_2, .int w0.2.2.1, .int w0.2.2.2.1, .ref hw0_3, .ref hw0_4, .int w0.2.2.2.2.2.2.1, .int w0.2.2.2.2.2.2.2.1, .int w0.2.2.2.2.2.2.2.2.1, .ref hw0_5, .ref hw0_6, .ref hw0_7, .int w0.2.2.2.2.2.2.2.2.2.2.2.2.1, .ref hw0_8])), (hw0_1, .inl (G.2.1, 617, .inl w0.1)), (hw0_2, .inl (G.2.1, 2468, .inl w0.2.1)), (hw0_3, .inl (G.2.1, 30, .inl (upd w0.2.2.2.2.1 s2.toNatClampNeg (s1 ||| s0)))), (hw0_4, .inl (G.2.1, 4000, .inl w0.2.2.2.2.2.1)), (hw0_5, .inl (G.2.1, 120, .inl w0.2.2.2.2.2.2.2.2.2.1)), (hw0_6, .inl (G.2.1, 64, .inl w0.2.2.2.2.2.2.2.2.2.2.1)), (hw0_7, .inl (G.2.2.1, 64, .inl w0.2.2.2.2.2.2.2.2.2.2.2.1)), (hw0_8, .inl (G.2.1, 64, .inl w0.2.2.2.2.2.2.2.2.2.2.2.2.2))] H := hP
            have hD : va_D A [(hw0_0, .inr (8, [.ref hw0_1, .ref hw0_2, .int w0.2.2.1, .int w0.2.2.2.1, .ref hw0_3, .ref hw0_4, .int w0.2.2.2.2.2.2.1, .int w0.2.2.2.2.2.2.2.1, .int w0.2.2.2.2.2.2.2.2.1, .ref hw0_5, .ref hw0_6, .ref hw0_7, .int w0.2.2.2.2.2.2.2.2.2.2.2.2.1, .ref hw0_8])), (hw0_1, .inl (G.2.1, 617, .inl w0.1)), (hw0_2, .inl (G.2.1, 2468, .inl w0.2.1)), (hw0_3, .inl (G.2.1, 30, .inl (upd w0.2.2.2.2.1 s2.toNatClampNeg (s1 ||| s0)))), (hw0_4, .inl (G.2.1, 4000, .inl w0.2.2.2.2.2.1)), (hw0_5, .inl (G.2.1, 120, .inl w0.2.2.2.2.2.2.2.2.2.1)), (hw0_6, .inl (G.2.1, 64, .inl w0.2.2.2.2.2.2.2.2.2.2.1)), (hw0_7, .inl (G.2.2.1, 64, .inl w0.2.2.2.2.2.2.2.2.2.2.2.1)), (hw0_8, .inl (G.2.1, 64, .inl w0.2.2.2.2.2.2.2.2.2.2.2.2.2))] := hD
            refine lv_iinc (pc := 60) (v := (v2 + (1 : Int32))) (lv' := [(2, .int (v2 + (1 : Int32))), (1, .int v1), (0, .ref hw0_0)]) hx hb dX11_leastLossOf_60 hl (k := 0) rfl rfl (by decide) rfl (fun ls hl => ?_)
            refine lv_goto (pc := 63) (tgt := 23) hx hb dX11_leastLossOf_63 (by decide) ?_
            exact ih23 (w0.1, w0.2.1, w0.2.2.1, w0.2.2.2.1, (upd w0.2.2.2.2.1 s2.toNatClampNeg (s1 ||| s0)), w0.2.2.2.2.2.1, w0.2.2.2.2.2.2.1, w0.2.2.2.2.2.2.2.1, w0.2.2.2.2.2.2.2.2.1, w0.2.2.2.2.2.2.2.2.2.1, w0.2.2.2.2.2.2.2.2.2.2.1, w0.2.2.2.2.2.2.2.2.2.2.2.1, w0.2.2.2.2.2.2.2.2.2.2.2.2.1, w0.2.2.2.2.2.2.2.2.2.2.2.2.2) (v2 + (1 : Int32)) v1 hf H locs hP hD hS ls (lv_sub hl [0, 1, 2] rfl)
          intro w0 v2 v1 hf H locs hP hD hS ls hl
          rw [f_X11_leastLossOf_L23.eq_2] at hf
          refine lv_iload_n (pc := 23) hx hb dX11_leastLossOf_23 rfl (lv_at hl 0 rfl) ?_
          refine lv_aload_n (pc := 24) hx hb dX11_leastLossOf_24 rfl (lv_at hl 2 rfl) ?_
          refine va_get (pc := 25) (D := G.1) (ci := 8) (v := .ref hw0_1) (C := RX11) (T := TX11) (N := 14) hx hb hts inX11 hown hK.1 hP 0 rfl rfl 0 (by decide) (hts _ wd_880) (fun _ h9 => h9) rfl dX11_leastLossOf_25 ?_
          refine lv_sipush (pc := 28) (v := (132 : Int32)) hx hb dX11_leastLossOf_28 (by decide) ?_
          obtain ⟨hg, hf⟩ := gd_some hf
          refine va_iald (pc := 31) hx hb hK.1 hP 1 0 rfl rfl hg dX11_leastLossOf_31 ?_
          refine lv_icmp_ge (pc := 32) (tgt := 66) hx hb dX11_leastLossOf_32 (by decide) (fun hc => ?_) (fun hc => ?_)
          · have hf := br_y hc hf
            refine lv_iinc (pc := 66) (v := (v1 + (1 : Int32))) (lv' := [(1, .int (v1 + (1 : Int32))), (2, .int v2), (0, .ref hw0_0)]) hx hb dX11_leastLossOf_66 hl (k := 1) rfl rfl (by decide) rfl (fun ls hl => ?_)
            refine lv_goto (pc := 69) (tgt := 2) hx hb dX11_leastLossOf_69 (by decide) ?_
            exact ih2 w0 (v1 + (1 : Int32)) hf H locs hP hD hS ls (lv_sub hl [0, 2] rfl)
          · have hf := br_n hc hf
            refine lv_aload_n (pc := 35) hx hb dX11_leastLossOf_35 rfl (lv_at hl 2 rfl) ?_
            refine va_get (pc := 36) (D := G.1) (ci := 8) (v := .ref hw0_3) (C := RX11) (T := TX11) (N := 14) hx hb hts inX11 hown hK.1 hP 0 rfl rfl 4 (by decide) (hts _ wd_884) (fun _ h9 => h9) rfl dX11_leastLossOf_36 ?_
            refine lv_iload_n (pc := 39) hx hb dX11_leastLossOf_39 rfl (lv_at hl 1 rfl) ?_
            refine lv_dup2_11 (pc := 40) hx hb dX11_leastLossOf_40 rfl rfl ?_
            obtain ⟨hg, hf⟩ := gd_some hf
            refine va_iald (pc := 41) hx hb hK.1 hP 3 0 rfl rfl hg dX11_leastLossOf_41 ?_
            refine lv_aload_n (pc := 42) hx hb dX11_leastLossOf_42 rfl (lv_at hl 2 rfl) ?_
            refine lv_iload_n (pc := 43) hx hb dX11_leastLossOf_43 rfl (lv_at hl 0 rfl) ?_
            refine lv_iload_n (pc := 44) hx hb dX11_leastLossOf_44 rfl (lv_at hl 1 rfl) ?_
            obtain ⟨x6, hcx6, hf⟩ := bn_some hf
            refine g_callV0 (pc := 45) (rest := [.int (w0.2.2.2.2.1 v1.toNatClampNeg), .int v1, .ref hw0_3]) hx hb hml hown hts hK (c_X11_precedes l G hw0_0 hw0_1 hw0_2 hw0_3 hw0_4 hw0_5 hw0_6 hw0_7 hw0_8 w0 v2 v1 hcx6) wd_1018 wd_10 wd_1015 wd_1017 ws_23 hd_X11_precedes ⟨rfl, rfl, Nat.le_of_ble_eq_true rfl, Nat.le_of_ble_eq_true rfl⟩ hP hD hS hA [0, 1, 2, 3, 4, 5, 6, 7, 8] rfl rfl 8 0 rfl rfl rfl rfl hl.1 rfl (Nat.le_of_ble_eq_true rfl) dX11_leastLossOf_45 ⟨Nat.zero_le _, Nat.zero_le _⟩ (fun H locs hP hS => ?_)
            refine lv_if_eq (pc := 48) (tgt := 57) hx hb dX11_leastLossOf_48 (by decide) (fun hc => ?_) (fun hc => ?_)
            · have hf := br_y hc hf
              refine lv_iconst (pc := 57) (v := (0 : Int32)) hx hb dX11_leastLossOf_57 (by decide) ?_
              exact hJ58 w0 v2 v1 (0 : Int32) (w0.2.2.2.2.1 v1.toNatClampNeg) v1 hf H locs hP hD hS ls (lv_sub hl [0, 1, 2] rfl)
            · have hf := br_n hc hf
              refine lv_iconst (pc := 51) (v := (1 : Int32)) hx hb dX11_leastLossOf_51 (by decide) ?_
              refine lv_iload_n (pc := 52) hx hb dX11_leastLossOf_52 rfl (lv_at hl 0 rfl) ?_
              refine lv_ishl (pc := 53) hx hb dX11_leastLossOf_53 ?_
              refine lv_goto (pc := 54) (tgt := 58) hx hb dX11_leastLossOf_54 (by decide) ?_
              exact hJ58 w0 v2 v1 ((1 : Int32) <<< (v2 &&& 31)) (w0.2.2.2.2.1 v1.toNatClampNeg) v1 hf H locs hP hD hS ls (lv_sub hl [0, 1, 2] rfl)
      intro w0 v1 hf H locs hP hD hS ls hl
      rw [f_X11_leastLossOf_L2.eq_2] at hf
      refine lv_iload_n (pc := 2) hx hb dX11_leastLossOf_2 rfl (lv_at hl 0 rfl) ?_
      refine lv_aload_n (pc := 3) hx hb dX11_leastLossOf_3 rfl (lv_at hl 1 rfl) ?_
      refine va_get (pc := 4) (D := G.1) (ci := 8) (v := .ref hw0_1) (C := RX11) (T := TX11) (N := 14) hx hb hts inX11 hown hK.1 hP 0 rfl rfl 0 (by decide) (hts _ wd_880) (fun _ h9 => h9) rfl dX11_leastLossOf_4 ?_
      refine lv_sipush (pc := 7) (v := (132 : Int32)) hx hb dX11_leastLossOf_7 (by decide) ?_
      obtain ⟨hg, hf⟩ := gd_some hf
      refine va_iald (pc := 10) hx hb hK.1 hP 1 0 rfl rfl hg dX11_leastLossOf_10 ?_
      refine lv_icmp_ge (pc := 11) (tgt := 72) hx hb dX11_leastLossOf_11 (by decide) (fun hc => ?_) (fun hc => ?_)
      · have hf := br_y hc hf
        refine lv_aload_n (pc := 72) hx hb dX11_leastLossOf_72 rfl (lv_at hl 1 rfl) ?_
        obtain ⟨x1, hcx1, hf⟩ := bn_some hf
        refine g_callV0 (pc := 73) (rest := []) hx hb hml hown hts hK (c_X11_copies l G hw0_0 hw0_1 hw0_2 hw0_3 hw0_4 hw0_5 hw0_6 hw0_7 hw0_8 w0 hcx1) wd_1031 wd_10 wd_1028 wd_1030 ws_25 hd_X11_copies ⟨rfl, rfl, Nat.le_of_ble_eq_true rfl, Nat.le_of_ble_eq_true rfl⟩ hP hD hS hA [0, 1, 2, 3, 4, 5, 6, 7, 8] rfl rfl 8 0 rfl rfl rfl rfl hl.1 rfl (Nat.le_of_ble_eq_true rfl) dX11_leastLossOf_73 ⟨Nat.zero_le _, Nat.zero_le _⟩ (fun H locs hP hS => ?_)
        refine lv_istore_n (pc := 76) (lv' := [(1, .int x1), (0, .ref hw0_0)]) hx hb dX11_leastLossOf_76 rfl hl (by decide) rfl (fun ls hl => ?_)
        refine lv_aload_n (pc := 77) hx hb dX11_leastLossOf_77 rfl (lv_at hl 1 rfl) ?_
        refine lv_iload_n (pc := 78) hx hb dX11_leastLossOf_78 rfl (lv_at hl 0 rfl) ?_
        obtain ⟨x2, hcx2, hf⟩ := bn_some hf
        refine g_callV0 (pc := 79) (rest := []) hx hb hml hown hts hK (c_X11_lossOf l G hw0_0 hw0_1 hw0_2 hw0_3 hw0_4 hw0_5 hw0_6 hw0_7 hw0_8 w0 x1 hcx2) wd_1063 wd_10 wd_1060 wd_1062 ws_30 hd_X11_lossOf ⟨rfl, rfl, Nat.le_of_ble_eq_true rfl, Nat.le_of_ble_eq_true rfl⟩ hP hD hS hA [0, 1, 2, 3, 4, 5, 6, 7, 8] rfl rfl 8 0 rfl rfl rfl rfl hl.1 rfl (Nat.le_of_ble_eq_true rfl) dX11_leastLossOf_79 ⟨Nat.zero_le _, Nat.zero_le _⟩ (fun H locs hP hS => ?_)
        refine lv_istore_n (pc := 82) (lv' := [(2, .int x2), (1, .int x1), (0, .ref hw0_0)]) hx hb dX11_leastLossOf_82 rfl hl (by decide) rfl (fun ls hl => ?_)
        refine lv_iload_n (pc := 83) hx hb dX11_leastLossOf_83 rfl (lv_at hl 1 rfl) ?_
        refine lv_istore_n (pc := 84) (lv' := [(3, .int x1), (2, .int x2), (1, .int x1), (0, .ref hw0_0)]) hx hb dX11_leastLossOf_84 rfl hl (by decide) rfl (fun ls hl => ?_)
        exact hL85 FUEL w0 x1 x2 x1 hf H locs hP hD hS ls (lv_sub hl [0, 1, 2, 3] rfl)
      · have hf := br_n hc hf
        refine lv_aload_n (pc := 14) hx hb dX11_leastLossOf_14 rfl (lv_at hl 1 rfl) ?_
        refine va_get (pc := 15) (D := G.1) (ci := 8) (v := .ref hw0_3) (C := RX11) (T := TX11) (N := 14) hx hb hts inX11 hown hK.1 hP 0 rfl rfl 4 (by decide) (hts _ wd_884) (fun _ h9 => h9) rfl dX11_leastLossOf_15 ?_
        refine lv_iload_n (pc := 18) hx hb dX11_leastLossOf_18 rfl (lv_at hl 0 rfl) ?_
        refine lv_iconst (pc := 19) (v := (0 : Int32)) hx hb dX11_leastLossOf_19 (by decide) ?_
        obtain ⟨hg, hf⟩ := gd_some hf
        refine va_iast (pc := 20) hx hb hK.1 hP hD hS 3 0 rfl rfl hg dX11_leastLossOf_20 (fun H locs hP hD hS => ?_)
        have hP : va_P G.1 vwCl [(hw0_0, .inr (8, [.ref hw0_1, .ref hw0_2, .int w0.2.2.1, .int w0.2.2.2.1, .ref hw0_3, .ref hw0_4, .int w0.2.2.2.2.2.2.1, .int w0.2.2.2.2.2.2.2.1, .int w0.2.2.2.2.2.2.2.2.1, .ref hw0_5, .ref hw0_6, .ref hw0_7, .int w0.2.2.2.2.2.2.2.2.2.2.2.2.1, .ref hw0_8])), (hw0_1, .inl (G.2.1, 617, .inl w0.1)), (hw0_2, .inl (G.2.1, 2468, .inl w0.2.1)), (hw0_3, .inl (G.2.1, 30, .inl (upd w0.2.2.2.2.1 v1.toNatClampNeg (0 : Int32)))), (hw0_4, .inl (G.2.1, 4000, .inl w0.2.2.2.2.2.1)), (hw0_5, .inl (G.2.1, 120, .inl w0.2.2.2.2.2.2.2.2.2.1)), (hw0_6, .inl (G.2.1, 64, .inl w0.2.2.2.2.2.2.2.2.2.2.1)), (hw0_7, .inl (G.2.2.1, 64, .inl w0.2.2.2.2.2.2.2.2.2.2.2.1)), (hw0_8, .inl (G.2.1, 64, .inl w0.2.2.2.2.2.2.2.2.2.2.2.2.2))] H := hP
        have hD : va_D A [(hw0_0, .inr (8, [.ref hw0_1, .ref hw0_2, .int w0.2.2.1, .int w0.2.2.2.1, .ref hw0_3, .ref hw0_4, .int w0.2.2.2.2.2.2.1, .int w0.2.2.2.2.2.2.2.1, .int w0.2.2.2.2.2.2.2.2.1, .ref hw0_5, .ref hw0_6, .ref hw0_7, .int w0.2.2.2.2.2.2.2.2.2.2.2.2.1, .ref hw0_8])), (hw0_1, .inl (G.2.1, 617, .inl w0.1)), (hw0_2, .inl (G.2.1, 2468, .inl w0.2.1)), (hw0_3, .inl (G.2.1, 30, .inl (upd w0.2.2.2.2.1 v1.toNatClampNeg (0 : Int32)))), (hw0_4, .inl (G.2.1, 4000, .inl w0.2.2.2.2.2.1)), (hw0_5, .inl (G.2.1, 120, .inl w0.2.2.2.2.2.2.2.2.2.1)), (hw0_6, .inl (G.2.1, 64, .inl w0.2.2.2.2.2.2.2.2.2.2.1)), (hw0_7, .inl (G.2.2.1, 64, .inl w0.2.2.2.2.2.2.2.2.2.2.2.1)), (hw0_8, .inl (G.2.1, 64, .inl w0.2.2.2.2.2.2.2.2.2.2.2.2.2))] := hD
        refine lv_iconst (pc := 21) (v := (0 : Int32)) hx hb dX11_leastLossOf_21 (by decide) ?_
        refine lv_istore_n (pc := 22) (lv' := [(2, .int (0 : Int32)), (1, .int v1), (0, .ref hw0_0)]) hx hb dX11_leastLossOf_22 rfl hl (by decide) rfl (fun ls hl => ?_)
        exact hL23 FUEL (w0.1, w0.2.1, w0.2.2.1, w0.2.2.2.1, (upd w0.2.2.2.2.1 v1.toNatClampNeg (0 : Int32)), w0.2.2.2.2.2.1, w0.2.2.2.2.2.2.1, w0.2.2.2.2.2.2.2.1, w0.2.2.2.2.2.2.2.2.1, w0.2.2.2.2.2.2.2.2.2.1, w0.2.2.2.2.2.2.2.2.2.2.1, w0.2.2.2.2.2.2.2.2.2.2.2.1, w0.2.2.2.2.2.2.2.2.2.2.2.2.1, w0.2.2.2.2.2.2.2.2.2.2.2.2.2) (0 : Int32) v1 hf H locs hP hD hS ls (lv_sub hl [0, 1, 2] rfl)
  refine lv_iconst (pc := 0) (v := (0 : Int32)) hx hb dX11_leastLossOf_0 (by decide) ?_
  refine lv_istore_n (pc := 1) (lv' := [(1, .int (0 : Int32)), (0, .ref hw0_0)]) hx hb dX11_leastLossOf_1 rfl hl (by decide) rfl (fun ls hl => ?_)
  exact hL2 FUEL w0 (0 : Int32) hf H locs hP hD hS ls (lv_sub hl [0, 1] rfl)
theorem hd_X11_leastLoss : yX11_leastLoss.cls ≠ "java/lang/invoke/MethodHandle" ∧ yX11_leastLoss.cls ≠ "java/lang/invoke/VarHandle" ∧ (parseMethodDescriptor yX11_leastLoss.desc).map (fun d => d.parameters.length) = some 0 := by decide +kernel
abbrev rm_X11_leastLoss : Room := { frames := 4, cells := 0, slots := 0, locals := 88 }
noncomputable def f_X11_leastLoss (w0 : TModel) : Option (Int32 × TModel) :=
  (f_X11_leastLossOf (w0.1, w0.2.1, w0.2.2.1, (0 : Int32), w0.2.2.2.2.1, w0.2.2.2.2.2.1, w0.2.2.2.2.2.2.1, w0.2.2.2.2.2.2.2.1, w0.2.2.2.2.2.2.2.2.1, w0.2.2.2.2.2.2.2.2.2.1, w0.2.2.2.2.2.2.2.2.2.2.1, w0.2.2.2.2.2.2.2.2.2.2.2.1, w0.2.2.2.2.2.2.2.2.2.2.2.2.1, w0.2.2.2.2.2.2.2.2.2.2.2.2.2)).bind (fun x1 => some (x1.1, x1.2))
set_option maxHeartbeats 4000000 in
set_option maxRecDepth 100000 in
theorem c_X11_leastLoss (l : Launch) (G : GT) (hw0_0 hw0_1 hw0_2 hw0_3 hw0_4 hw0_5 hw0_6 hw0_7 hw0_8 : Nat) (w0 : TModel) {r : Int32 × TModel} (hf : f_X11_leastLoss w0 = some r) : Ct l yX11_leastLoss (Cond.code yX11_leastLoss cX11_leastLoss 1 (some .int) :: lw_g) rm_X11_leastLoss G [.ref hw0_0] [(hw0_0, .inr (8, [.ref hw0_1, .ref hw0_2, .int w0.2.2.1, .int w0.2.2.2.1, .ref hw0_3, .ref hw0_4, .int w0.2.2.2.2.2.2.1, .int w0.2.2.2.2.2.2.2.1, .int w0.2.2.2.2.2.2.2.2.1, .ref hw0_5, .ref hw0_6, .ref hw0_7, .int w0.2.2.2.2.2.2.2.2.2.2.2.2.1, .ref hw0_8])), (hw0_1, .inl (G.2.1, 617, .inl w0.1)), (hw0_2, .inl (G.2.1, 2468, .inl w0.2.1)), (hw0_3, .inl (G.2.1, 30, .inl w0.2.2.2.2.1)), (hw0_4, .inl (G.2.1, 4000, .inl w0.2.2.2.2.2.1)), (hw0_5, .inl (G.2.1, 120, .inl w0.2.2.2.2.2.2.2.2.2.1)), (hw0_6, .inl (G.2.1, 64, .inl w0.2.2.2.2.2.2.2.2.2.2.1)), (hw0_7, .inl (G.2.2.1, 64, .inl w0.2.2.2.2.2.2.2.2.2.2.2.1)), (hw0_8, .inl (G.2.1, 64, .inl w0.2.2.2.2.2.2.2.2.2.2.2.2.2))] (some (.int r.1)) [(hw0_0, .inr (8, [.ref hw0_1, .ref hw0_2, .int r.2.2.2.1, .int r.2.2.2.2.1, .ref hw0_3, .ref hw0_4, .int r.2.2.2.2.2.2.2.1, .int r.2.2.2.2.2.2.2.2.1, .int r.2.2.2.2.2.2.2.2.2.1, .ref hw0_5, .ref hw0_6, .ref hw0_7, .int r.2.2.2.2.2.2.2.2.2.2.2.2.2.1, .ref hw0_8])), (hw0_1, .inl (G.2.1, 617, .inl r.2.1)), (hw0_2, .inl (G.2.1, 2468, .inl r.2.2.1)), (hw0_3, .inl (G.2.1, 30, .inl r.2.2.2.2.2.1)), (hw0_4, .inl (G.2.1, 4000, .inl r.2.2.2.2.2.2.1)), (hw0_5, .inl (G.2.1, 120, .inl r.2.2.2.2.2.2.2.2.2.2.1)), (hw0_6, .inl (G.2.1, 64, .inl r.2.2.2.2.2.2.2.2.2.2.2.1)), (hw0_7, .inl (G.2.2.1, 64, .inl r.2.2.2.2.2.2.2.2.2.2.2.2.1)), (hw0_8, .inl (G.2.1, 64, .inl r.2.2.2.2.2.2.2.2.2.2.2.2.2.2))] := by
  refine Ct.ofW (cc := cX11_leastLoss) (maxL := 1) (ret := (some .int)) (own := RX11) (by decide) rfl rfl (Nat.le_of_ble_eq_true rfl) ?_
  intro p e s m args below meth c A hx hb hr hml hts hown hlocks hK hP hD hA hS ls hl
  have hl : lv_has ls 1 [(0, .ref hw0_0)] := hl
  generalize hQ : gMQ below G _ _ A args s = Q
  generalize hH : s.heap = H at hP ⊢
  have hS : va_S A s.heap H [] := by rw [← hH]; exact hS
  generalize ([] : List Loc) = locs at hS ⊢
  unfold f_X11_leastLoss at hf
  refine lv_aload_n (pc := 0) hx hb dX11_leastLoss_0 rfl (lv_at hl 0 rfl) ?_
  refine lv_iconst (pc := 1) (v := (0 : Int32)) hx hb dX11_leastLoss_1 (by decide) ?_
  refine va_put (pc := 2) (D := G.1) (ci := 8) (v := .int (0 : Int32)) (ty := .int) (C := RX11) (T := TX11) (N := 14) hx hb hts inX11 tyX11 tyX11_ok nmX11 hown hK.1 hP hD hS 0 rfl rfl 3 (by decide) (hts _ wd_883) (fun _ h9 => h9) rfl (by decide +kernel) rfl rfl (Nat.le_of_ble_eq_true rfl) dX11_leastLoss_2 (fun H locs hP hD hS => ?_)
  have hP : va_P G.1 vwCl [(hw0_0, .inr (8, [.ref hw0_1, .ref hw0_2, .int w0.2.2.1, .int (0 : Int32), .ref hw0_3, .ref hw0_4, .int w0.2.2.2.2.2.2.1, .int w0.2.2.2.2.2.2.2.1, .int w0.2.2.2.2.2.2.2.2.1, .ref hw0_5, .ref hw0_6, .ref hw0_7, .int w0.2.2.2.2.2.2.2.2.2.2.2.2.1, .ref hw0_8])), (hw0_1, .inl (G.2.1, 617, .inl w0.1)), (hw0_2, .inl (G.2.1, 2468, .inl w0.2.1)), (hw0_3, .inl (G.2.1, 30, .inl w0.2.2.2.2.1)), (hw0_4, .inl (G.2.1, 4000, .inl w0.2.2.2.2.2.1)), (hw0_5, .inl (G.2.1, 120, .inl w0.2.2.2.2.2.2.2.2.2.1)), (hw0_6, .inl (G.2.1, 64, .inl w0.2.2.2.2.2.2.2.2.2.2.1)), (hw0_7, .inl (G.2.2.1, 64, .inl w0.2.2.2.2.2.2.2.2.2.2.2.1)), (hw0_8, .inl (G.2.1, 64, .inl w0.2.2.2.2.2.2.2.2.2.2.2.2.2))] H := hP
  have hD : va_D A [(hw0_0, .inr (8, [.ref hw0_1, .ref hw0_2, .int w0.2.2.1, .int (0 : Int32), .ref hw0_3, .ref hw0_4, .int w0.2.2.2.2.2.2.1, .int w0.2.2.2.2.2.2.2.1, .int w0.2.2.2.2.2.2.2.2.1, .ref hw0_5, .ref hw0_6, .ref hw0_7, .int w0.2.2.2.2.2.2.2.2.2.2.2.2.1, .ref hw0_8])), (hw0_1, .inl (G.2.1, 617, .inl w0.1)), (hw0_2, .inl (G.2.1, 2468, .inl w0.2.1)), (hw0_3, .inl (G.2.1, 30, .inl w0.2.2.2.2.1)), (hw0_4, .inl (G.2.1, 4000, .inl w0.2.2.2.2.2.1)), (hw0_5, .inl (G.2.1, 120, .inl w0.2.2.2.2.2.2.2.2.2.1)), (hw0_6, .inl (G.2.1, 64, .inl w0.2.2.2.2.2.2.2.2.2.2.1)), (hw0_7, .inl (G.2.2.1, 64, .inl w0.2.2.2.2.2.2.2.2.2.2.2.1)), (hw0_8, .inl (G.2.1, 64, .inl w0.2.2.2.2.2.2.2.2.2.2.2.2.2))] := hD
  refine lv_aload_n (pc := 5) hx hb dX11_leastLoss_5 rfl (lv_at hl 0 rfl) ?_
  obtain ⟨x1, hcx1, hf⟩ := bn_some hf
  refine g_callV (pc := 6) (ws' := [(hw0_0, .inr (8, [.ref hw0_1, .ref hw0_2, .int x1.2.2.2.1, .int x1.2.2.2.2.1, .ref hw0_3, .ref hw0_4, .int x1.2.2.2.2.2.2.2.1, .int x1.2.2.2.2.2.2.2.2.1, .int x1.2.2.2.2.2.2.2.2.2.1, .ref hw0_5, .ref hw0_6, .ref hw0_7, .int x1.2.2.2.2.2.2.2.2.2.2.2.2.2.1, .ref hw0_8])), (hw0_1, .inl (G.2.1, 617, .inl x1.2.1)), (hw0_2, .inl (G.2.1, 2468, .inl x1.2.2.1)), (hw0_3, .inl (G.2.1, 30, .inl x1.2.2.2.2.2.1)), (hw0_4, .inl (G.2.1, 4000, .inl x1.2.2.2.2.2.2.1)), (hw0_5, .inl (G.2.1, 120, .inl x1.2.2.2.2.2.2.2.2.2.2.1)), (hw0_6, .inl (G.2.1, 64, .inl x1.2.2.2.2.2.2.2.2.2.2.2.1)), (hw0_7, .inl (G.2.2.1, 64, .inl x1.2.2.2.2.2.2.2.2.2.2.2.2.1)), (hw0_8, .inl (G.2.1, 64, .inl x1.2.2.2.2.2.2.2.2.2.2.2.2.2.2))]) (rest := []) hx hb hml hown hts hK (c_X11_leastLossOf l G hw0_0 hw0_1 hw0_2 hw0_3 hw0_4 hw0_5 hw0_6 hw0_7 hw0_8 (w0.1, w0.2.1, w0.2.2.1, (0 : Int32), w0.2.2.2.2.1, w0.2.2.2.2.2.1, w0.2.2.2.2.2.2.1, w0.2.2.2.2.2.2.2.1, w0.2.2.2.2.2.2.2.2.1, w0.2.2.2.2.2.2.2.2.2.1, w0.2.2.2.2.2.2.2.2.2.2.1, w0.2.2.2.2.2.2.2.2.2.2.2.1, w0.2.2.2.2.2.2.2.2.2.2.2.2.1, w0.2.2.2.2.2.2.2.2.2.2.2.2.2) hcx1) wd_1071 wd_10 wd_1068 wd_1070 ws_31 hd_X11_leastLossOf ⟨rfl, rfl, Nat.le_of_ble_eq_true rfl, Nat.le_of_ble_eq_true rfl⟩ hP hD hS hA [0, 1, 2, 3, 4, 5, 6, 7, 8] rfl rfl rfl rfl 8 0 rfl rfl rfl rfl hl.1 rfl (Nat.le_of_ble_eq_true rfl) dX11_leastLoss_6 ⟨Nat.zero_le _, Nat.zero_le _⟩ (fun H locs hP hD hS => ?_)
  have hf := Option.some.inj hf; subst hf
  rw [← hQ]
  exact g_iret hx hb hr hlocks hP hS dX11_leastLoss_9
theorem hd_X11_writes : yX11_writes.cls ≠ "java/lang/invoke/MethodHandle" ∧ yX11_writes.cls ≠ "java/lang/invoke/VarHandle" ∧ (parseMethodDescriptor yX11_writes.desc).map (fun d => d.parameters.length) = some 1 := by decide +kernel
abbrev rm_X11_writes : Room := { frames := 0, cells := 0, slots := 0, locals := 0 }
noncomputable def f_X11_writes (w0 : TModel) (p1 : Int32) : Option TModel :=
  gd (vp_in w0.2.2.2.2.2.2.1 4000) (some (w0.1, w0.2.1, w0.2.2.1, w0.2.2.2.1, w0.2.2.2.2.1, (upd w0.2.2.2.2.2.1 w0.2.2.2.2.2.2.1.toNatClampNeg p1), (w0.2.2.2.2.2.2.1 + (1 : Int32)), w0.2.2.2.2.2.2.2.1, w0.2.2.2.2.2.2.2.2.1, w0.2.2.2.2.2.2.2.2.2.1, w0.2.2.2.2.2.2.2.2.2.2.1, w0.2.2.2.2.2.2.2.2.2.2.2.1, w0.2.2.2.2.2.2.2.2.2.2.2.2.1, w0.2.2.2.2.2.2.2.2.2.2.2.2.2))
set_option maxHeartbeats 4000000 in
set_option maxRecDepth 100000 in
theorem c_X11_writes (l : Launch) (G : GT) (hw0_0 hw0_1 hw0_2 hw0_3 hw0_4 hw0_5 hw0_6 hw0_7 hw0_8 : Nat) (w0 : TModel) (p1 : Int32) {r : TModel} (hf : f_X11_writes w0 p1 = some r) : Ct l yX11_writes (Cond.code yX11_writes cX11_writes 2 none :: lw_g) rm_X11_writes G [.ref hw0_0, .int p1] [(hw0_0, .inr (8, [.ref hw0_1, .ref hw0_2, .int w0.2.2.1, .int w0.2.2.2.1, .ref hw0_3, .ref hw0_4, .int w0.2.2.2.2.2.2.1, .int w0.2.2.2.2.2.2.2.1, .int w0.2.2.2.2.2.2.2.2.1, .ref hw0_5, .ref hw0_6, .ref hw0_7, .int w0.2.2.2.2.2.2.2.2.2.2.2.2.1, .ref hw0_8])), (hw0_1, .inl (G.2.1, 617, .inl w0.1)), (hw0_2, .inl (G.2.1, 2468, .inl w0.2.1)), (hw0_3, .inl (G.2.1, 30, .inl w0.2.2.2.2.1)), (hw0_4, .inl (G.2.1, 4000, .inl w0.2.2.2.2.2.1)), (hw0_5, .inl (G.2.1, 120, .inl w0.2.2.2.2.2.2.2.2.2.1)), (hw0_6, .inl (G.2.1, 64, .inl w0.2.2.2.2.2.2.2.2.2.2.1)), (hw0_7, .inl (G.2.2.1, 64, .inl w0.2.2.2.2.2.2.2.2.2.2.2.1)), (hw0_8, .inl (G.2.1, 64, .inl w0.2.2.2.2.2.2.2.2.2.2.2.2.2))] none [(hw0_0, .inr (8, [.ref hw0_1, .ref hw0_2, .int r.2.2.1, .int r.2.2.2.1, .ref hw0_3, .ref hw0_4, .int r.2.2.2.2.2.2.1, .int r.2.2.2.2.2.2.2.1, .int r.2.2.2.2.2.2.2.2.1, .ref hw0_5, .ref hw0_6, .ref hw0_7, .int r.2.2.2.2.2.2.2.2.2.2.2.2.1, .ref hw0_8])), (hw0_1, .inl (G.2.1, 617, .inl r.1)), (hw0_2, .inl (G.2.1, 2468, .inl r.2.1)), (hw0_3, .inl (G.2.1, 30, .inl r.2.2.2.2.1)), (hw0_4, .inl (G.2.1, 4000, .inl r.2.2.2.2.2.1)), (hw0_5, .inl (G.2.1, 120, .inl r.2.2.2.2.2.2.2.2.2.1)), (hw0_6, .inl (G.2.1, 64, .inl r.2.2.2.2.2.2.2.2.2.2.1)), (hw0_7, .inl (G.2.2.1, 64, .inl r.2.2.2.2.2.2.2.2.2.2.2.1)), (hw0_8, .inl (G.2.1, 64, .inl r.2.2.2.2.2.2.2.2.2.2.2.2.2))] := by
  refine Ct.ofW (cc := cX11_writes) (maxL := 2) (ret := none) (own := RX11) (by decide) rfl rfl (Nat.le_of_ble_eq_true rfl) ?_
  intro p e s m args below meth c A hx hb hr hml hts hown hlocks hK hP hD hA hS ls hl
  have hl : lv_has ls 2 [(0, .ref hw0_0), (1, .int p1)] := hl
  generalize hQ : gMQ below G _ _ A args s = Q
  generalize hH : s.heap = H at hP ⊢
  have hS : va_S A s.heap H [] := by rw [← hH]; exact hS
  generalize ([] : List Loc) = locs at hS ⊢
  unfold f_X11_writes at hf
  refine lv_aload_n (pc := 0) hx hb dX11_writes_0 rfl (lv_at hl 0 rfl) ?_
  refine va_get (pc := 1) (D := G.1) (ci := 8) (v := .ref hw0_4) (C := RX11) (T := TX11) (N := 14) hx hb hts inX11 hown hK.1 hP 0 rfl rfl 5 (by decide) (hts _ wd_885) (fun _ h9 => h9) rfl dX11_writes_1 ?_
  refine lv_aload_n (pc := 4) hx hb dX11_writes_4 rfl (lv_at hl 0 rfl) ?_
  refine va_get (pc := 5) (D := G.1) (ci := 8) (v := .int w0.2.2.2.2.2.2.1) (C := RX11) (T := TX11) (N := 14) hx hb hts inX11 hown hK.1 hP 0 rfl rfl 6 (by decide) (hts _ wd_886) (fun _ h9 => h9) rfl dX11_writes_5 ?_
  refine lv_iload_n (pc := 8) hx hb dX11_writes_8 rfl (lv_at hl 1 rfl) ?_
  obtain ⟨hg, hf⟩ := gd_some hf
  refine va_iast (pc := 9) hx hb hK.1 hP hD hS 4 0 rfl rfl hg dX11_writes_9 (fun H locs hP hD hS => ?_)
  have hP : va_P G.1 vwCl [(hw0_0, .inr (8, [.ref hw0_1, .ref hw0_2, .int w0.2.2.1, .int w0.2.2.2.1, .ref hw0_3, .ref hw0_4, .int w0.2.2.2.2.2.2.1, .int w0.2.2.2.2.2.2.2.1, .int w0.2.2.2.2.2.2.2.2.1, .ref hw0_5, .ref hw0_6, .ref hw0_7, .int w0.2.2.2.2.2.2.2.2.2.2.2.2.1, .ref hw0_8])), (hw0_1, .inl (G.2.1, 617, .inl w0.1)), (hw0_2, .inl (G.2.1, 2468, .inl w0.2.1)), (hw0_3, .inl (G.2.1, 30, .inl w0.2.2.2.2.1)), (hw0_4, .inl (G.2.1, 4000, .inl (upd w0.2.2.2.2.2.1 w0.2.2.2.2.2.2.1.toNatClampNeg p1))), (hw0_5, .inl (G.2.1, 120, .inl w0.2.2.2.2.2.2.2.2.2.1)), (hw0_6, .inl (G.2.1, 64, .inl w0.2.2.2.2.2.2.2.2.2.2.1)), (hw0_7, .inl (G.2.2.1, 64, .inl w0.2.2.2.2.2.2.2.2.2.2.2.1)), (hw0_8, .inl (G.2.1, 64, .inl w0.2.2.2.2.2.2.2.2.2.2.2.2.2))] H := hP
  have hD : va_D A [(hw0_0, .inr (8, [.ref hw0_1, .ref hw0_2, .int w0.2.2.1, .int w0.2.2.2.1, .ref hw0_3, .ref hw0_4, .int w0.2.2.2.2.2.2.1, .int w0.2.2.2.2.2.2.2.1, .int w0.2.2.2.2.2.2.2.2.1, .ref hw0_5, .ref hw0_6, .ref hw0_7, .int w0.2.2.2.2.2.2.2.2.2.2.2.2.1, .ref hw0_8])), (hw0_1, .inl (G.2.1, 617, .inl w0.1)), (hw0_2, .inl (G.2.1, 2468, .inl w0.2.1)), (hw0_3, .inl (G.2.1, 30, .inl w0.2.2.2.2.1)), (hw0_4, .inl (G.2.1, 4000, .inl (upd w0.2.2.2.2.2.1 w0.2.2.2.2.2.2.1.toNatClampNeg p1))), (hw0_5, .inl (G.2.1, 120, .inl w0.2.2.2.2.2.2.2.2.2.1)), (hw0_6, .inl (G.2.1, 64, .inl w0.2.2.2.2.2.2.2.2.2.2.1)), (hw0_7, .inl (G.2.2.1, 64, .inl w0.2.2.2.2.2.2.2.2.2.2.2.1)), (hw0_8, .inl (G.2.1, 64, .inl w0.2.2.2.2.2.2.2.2.2.2.2.2.2))] := hD
  refine lv_aload_n (pc := 10) hx hb dX11_writes_10 rfl (lv_at hl 0 rfl) ?_
  refine lv_dup (pc := 11) hx hb dX11_writes_11 rfl ?_
  refine va_get (pc := 12) (D := G.1) (ci := 8) (v := .int w0.2.2.2.2.2.2.1) (C := RX11) (T := TX11) (N := 14) hx hb hts inX11 hown hK.1 hP 0 rfl rfl 6 (by decide) (hts _ wd_886) (fun _ h9 => h9) rfl dX11_writes_12 ?_
  refine lv_iconst (pc := 15) (v := (1 : Int32)) hx hb dX11_writes_15 (by decide) ?_
  refine lv_iadd (pc := 16) hx hb dX11_writes_16 ?_
  refine va_put (pc := 17) (D := G.1) (ci := 8) (v := .int (w0.2.2.2.2.2.2.1 + (1 : Int32))) (ty := .int) (C := RX11) (T := TX11) (N := 14) hx hb hts inX11 tyX11 tyX11_ok nmX11 hown hK.1 hP hD hS 0 rfl rfl 6 (by decide) (hts _ wd_886) (fun _ h9 => h9) rfl (by decide +kernel) rfl rfl (Nat.le_of_ble_eq_true rfl) dX11_writes_17 (fun H locs hP hD hS => ?_)
  have hP : va_P G.1 vwCl [(hw0_0, .inr (8, [.ref hw0_1, .ref hw0_2, .int w0.2.2.1, .int w0.2.2.2.1, .ref hw0_3, .ref hw0_4, .int (w0.2.2.2.2.2.2.1 + (1 : Int32)), .int w0.2.2.2.2.2.2.2.1, .int w0.2.2.2.2.2.2.2.2.1, .ref hw0_5, .ref hw0_6, .ref hw0_7, .int w0.2.2.2.2.2.2.2.2.2.2.2.2.1, .ref hw0_8])), (hw0_1, .inl (G.2.1, 617, .inl w0.1)), (hw0_2, .inl (G.2.1, 2468, .inl w0.2.1)), (hw0_3, .inl (G.2.1, 30, .inl w0.2.2.2.2.1)), (hw0_4, .inl (G.2.1, 4000, .inl (upd w0.2.2.2.2.2.1 w0.2.2.2.2.2.2.1.toNatClampNeg p1))), (hw0_5, .inl (G.2.1, 120, .inl w0.2.2.2.2.2.2.2.2.2.1)), (hw0_6, .inl (G.2.1, 64, .inl w0.2.2.2.2.2.2.2.2.2.2.1)), (hw0_7, .inl (G.2.2.1, 64, .inl w0.2.2.2.2.2.2.2.2.2.2.2.1)), (hw0_8, .inl (G.2.1, 64, .inl w0.2.2.2.2.2.2.2.2.2.2.2.2.2))] H := hP
  have hD : va_D A [(hw0_0, .inr (8, [.ref hw0_1, .ref hw0_2, .int w0.2.2.1, .int w0.2.2.2.1, .ref hw0_3, .ref hw0_4, .int (w0.2.2.2.2.2.2.1 + (1 : Int32)), .int w0.2.2.2.2.2.2.2.1, .int w0.2.2.2.2.2.2.2.2.1, .ref hw0_5, .ref hw0_6, .ref hw0_7, .int w0.2.2.2.2.2.2.2.2.2.2.2.2.1, .ref hw0_8])), (hw0_1, .inl (G.2.1, 617, .inl w0.1)), (hw0_2, .inl (G.2.1, 2468, .inl w0.2.1)), (hw0_3, .inl (G.2.1, 30, .inl w0.2.2.2.2.1)), (hw0_4, .inl (G.2.1, 4000, .inl (upd w0.2.2.2.2.2.1 w0.2.2.2.2.2.2.1.toNatClampNeg p1))), (hw0_5, .inl (G.2.1, 120, .inl w0.2.2.2.2.2.2.2.2.2.1)), (hw0_6, .inl (G.2.1, 64, .inl w0.2.2.2.2.2.2.2.2.2.2.1)), (hw0_7, .inl (G.2.2.1, 64, .inl w0.2.2.2.2.2.2.2.2.2.2.2.1)), (hw0_8, .inl (G.2.1, 64, .inl w0.2.2.2.2.2.2.2.2.2.2.2.2.2))] := hD
  have hf := Option.some.inj hf; subst hf
  rw [← hQ]
  exact g_vret hx hb hr hlocks hP hS dX11_writes_20
theorem hd_X11_byteFor : yX11_byteFor.cls ≠ "java/lang/invoke/MethodHandle" ∧ yX11_byteFor.cls ≠ "java/lang/invoke/VarHandle" ∧ (parseMethodDescriptor yX11_byteFor.desc).map (fun d => d.parameters.length) = some 2 := by decide +kernel
abbrev rm_X11_byteFor : Room := { frames := 2, cells := 0, slots := 0, locals := 43 }
noncomputable def f_X11_byteFor (w0 : TModel) (p1 : Int32) (p2 : Int32) : Option Int32 :=
  (f_X11_isCopy w0 p1).bind (fun x1 => br (x1 = 0) ((f_X11_of w0 p1 (2 : Int32)).bind (fun x2 => gd (vp_in (((253 : Int32) + x2) + p2) 617) (some (w0.1 (((253 : Int32) + x2) + p2).toNatClampNeg)))) ((f_X11_of w0 p1 (1 : Int32)).bind (fun x3 => (f_X11_byteAt w0 (0 : Int32) (x3 + p2)).bind (fun x4 => some x4))))
set_option maxHeartbeats 4000000 in
set_option maxRecDepth 100000 in
theorem c_X11_byteFor (l : Launch) (G : GT) (hw0_0 hw0_1 hw0_2 hw0_3 hw0_4 hw0_5 hw0_6 hw0_7 hw0_8 : Nat) (w0 : TModel) (p1 : Int32) (p2 : Int32) {r : Int32} (hf : f_X11_byteFor w0 p1 p2 = some r) : Ct l yX11_byteFor (Cond.code yX11_byteFor cX11_byteFor 3 (some .int) :: lw_g) rm_X11_byteFor G [.ref hw0_0, .int p1, .int p2] [(hw0_0, .inr (8, [.ref hw0_1, .ref hw0_2, .int w0.2.2.1, .int w0.2.2.2.1, .ref hw0_3, .ref hw0_4, .int w0.2.2.2.2.2.2.1, .int w0.2.2.2.2.2.2.2.1, .int w0.2.2.2.2.2.2.2.2.1, .ref hw0_5, .ref hw0_6, .ref hw0_7, .int w0.2.2.2.2.2.2.2.2.2.2.2.2.1, .ref hw0_8])), (hw0_1, .inl (G.2.1, 617, .inl w0.1)), (hw0_2, .inl (G.2.1, 2468, .inl w0.2.1)), (hw0_3, .inl (G.2.1, 30, .inl w0.2.2.2.2.1)), (hw0_4, .inl (G.2.1, 4000, .inl w0.2.2.2.2.2.1)), (hw0_5, .inl (G.2.1, 120, .inl w0.2.2.2.2.2.2.2.2.2.1)), (hw0_6, .inl (G.2.1, 64, .inl w0.2.2.2.2.2.2.2.2.2.2.1)), (hw0_7, .inl (G.2.2.1, 64, .inl w0.2.2.2.2.2.2.2.2.2.2.2.1)), (hw0_8, .inl (G.2.1, 64, .inl w0.2.2.2.2.2.2.2.2.2.2.2.2.2))] (some (.int r)) [(hw0_0, .inr (8, [.ref hw0_1, .ref hw0_2, .int w0.2.2.1, .int w0.2.2.2.1, .ref hw0_3, .ref hw0_4, .int w0.2.2.2.2.2.2.1, .int w0.2.2.2.2.2.2.2.1, .int w0.2.2.2.2.2.2.2.2.1, .ref hw0_5, .ref hw0_6, .ref hw0_7, .int w0.2.2.2.2.2.2.2.2.2.2.2.2.1, .ref hw0_8])), (hw0_1, .inl (G.2.1, 617, .inl w0.1)), (hw0_2, .inl (G.2.1, 2468, .inl w0.2.1)), (hw0_3, .inl (G.2.1, 30, .inl w0.2.2.2.2.1)), (hw0_4, .inl (G.2.1, 4000, .inl w0.2.2.2.2.2.1)), (hw0_5, .inl (G.2.1, 120, .inl w0.2.2.2.2.2.2.2.2.2.1)), (hw0_6, .inl (G.2.1, 64, .inl w0.2.2.2.2.2.2.2.2.2.2.1)), (hw0_7, .inl (G.2.2.1, 64, .inl w0.2.2.2.2.2.2.2.2.2.2.2.1)), (hw0_8, .inl (G.2.1, 64, .inl w0.2.2.2.2.2.2.2.2.2.2.2.2.2))] := by
  refine Ct.ofW (cc := cX11_byteFor) (maxL := 3) (ret := (some .int)) (own := RX11) (by decide) rfl rfl (Nat.le_of_ble_eq_true rfl) ?_
  intro p e s m args below meth c A hx hb hr hml hts hown hlocks hK hP hD hA hS ls hl
  have hl : lv_has ls 3 [(0, .ref hw0_0), (1, .int p1), (2, .int p2)] := hl
  generalize hQ : gMQ below G _ _ A args s = Q
  generalize hH : s.heap = H at hP ⊢
  have hS : va_S A s.heap H [] := by rw [← hH]; exact hS
  generalize ([] : List Loc) = locs at hS ⊢
  unfold f_X11_byteFor at hf
  refine lv_aload_n (pc := 0) hx hb dX11_byteFor_0 rfl (lv_at hl 0 rfl) ?_
  refine lv_iload_n (pc := 1) hx hb dX11_byteFor_1 rfl (lv_at hl 1 rfl) ?_
  obtain ⟨x1, hcx1, hf⟩ := bn_some hf
  refine g_callV0 (pc := 2) (rest := []) hx hb hml hown hts hK (c_X11_isCopy l G hw0_0 hw0_1 hw0_2 hw0_3 hw0_4 hw0_5 hw0_6 hw0_7 hw0_8 w0 p1 hcx1) wd_1022 wd_10 wd_1019 wd_1021 ws_24 hd_X11_isCopy ⟨rfl, rfl, Nat.le_of_ble_eq_true rfl, Nat.le_of_ble_eq_true rfl⟩ hP hD hS hA [0, 1, 2, 3, 4, 5, 6, 7, 8] rfl rfl 8 0 rfl rfl rfl rfl hl.1 rfl (Nat.le_of_ble_eq_true rfl) dX11_byteFor_2 ⟨Nat.zero_le _, Nat.zero_le _⟩ (fun H locs hP hS => ?_)
  refine lv_if_eq (pc := 5) (tgt := 24) hx hb dX11_byteFor_5 (by decide) (fun hc => ?_) (fun hc => ?_)
  · have hf := br_y hc hf
    refine lv_aload_n (pc := 24) hx hb dX11_byteFor_24 rfl (lv_at hl 0 rfl) ?_
    refine va_get (pc := 25) (D := G.1) (ci := 8) (v := .ref hw0_1) (C := RX11) (T := TX11) (N := 14) hx hb hts inX11 hown hK.1 hP 0 rfl rfl 0 (by decide) (hts _ wd_880) (fun _ h9 => h9) rfl dX11_byteFor_25 ?_
    refine lv_sipush (pc := 28) (v := (253 : Int32)) hx hb dX11_byteFor_28 (by decide) ?_
    refine lv_aload_n (pc := 31) hx hb dX11_byteFor_31 rfl (lv_at hl 0 rfl) ?_
    refine lv_iload_n (pc := 32) hx hb dX11_byteFor_32 rfl (lv_at hl 1 rfl) ?_
    refine lv_iconst (pc := 33) (v := (2 : Int32)) hx hb dX11_byteFor_33 (by decide) ?_
    obtain ⟨x2, hcx2, hf⟩ := bn_some hf
    refine g_callV0 (pc := 34) (rest := [.int (253 : Int32), .ref hw0_1]) hx hb hml hown hts hK (c_X11_of l G hw0_0 hw0_1 hw0_2 hw0_3 hw0_4 hw0_5 hw0_6 hw0_7 hw0_8 w0 p1 (2 : Int32) hcx2) wd_1010 wd_10 wd_1007 wd_1009 ws_22 hd_X11_of ⟨rfl, rfl, Nat.le_of_ble_eq_true rfl, Nat.le_of_ble_eq_true rfl⟩ hP hD hS hA [0, 1, 2, 3, 4, 5, 6, 7, 8] rfl rfl 8 0 rfl rfl rfl rfl hl.1 rfl (Nat.le_of_ble_eq_true rfl) dX11_byteFor_34 ⟨Nat.zero_le _, Nat.zero_le _⟩ (fun H locs hP hS => ?_)
    refine lv_iadd (pc := 37) hx hb dX11_byteFor_37 ?_
    refine lv_iload_n (pc := 38) hx hb dX11_byteFor_38 rfl (lv_at hl 2 rfl) ?_
    refine lv_iadd (pc := 39) hx hb dX11_byteFor_39 ?_
    obtain ⟨hg, hf⟩ := gd_some hf
    refine va_iald (pc := 40) hx hb hK.1 hP 1 0 rfl rfl hg dX11_byteFor_40 ?_
    have hf := Option.some.inj hf; subst hf
    rw [← hQ]
    exact g_iret hx hb hr hlocks hP hS dX11_byteFor_41
  · have hf := br_n hc hf
    refine lv_aload_n (pc := 8) hx hb dX11_byteFor_8 rfl (lv_at hl 0 rfl) ?_
    refine lv_iconst (pc := 9) (v := (0 : Int32)) hx hb dX11_byteFor_9 (by decide) ?_
    refine lv_aload_n (pc := 10) hx hb dX11_byteFor_10 rfl (lv_at hl 0 rfl) ?_
    refine lv_iload_n (pc := 11) hx hb dX11_byteFor_11 rfl (lv_at hl 1 rfl) ?_
    refine lv_iconst (pc := 12) (v := (1 : Int32)) hx hb dX11_byteFor_12 (by decide) ?_
    obtain ⟨x3, hcx3, hf⟩ := bn_some hf
    refine g_callV0 (pc := 13) (rest := [.int (0 : Int32), .ref hw0_0]) hx hb hml hown hts hK (c_X11_of l G hw0_0 hw0_1 hw0_2 hw0_3 hw0_4 hw0_5 hw0_6 hw0_7 hw0_8 w0 p1 (1 : Int32) hcx3) wd_1010 wd_10 wd_1007 wd_1009 ws_22 hd_X11_of ⟨rfl, rfl, Nat.le_of_ble_eq_true rfl, Nat.le_of_ble_eq_true rfl⟩ hP hD hS hA [0, 1, 2, 3, 4, 5, 6, 7, 8] rfl rfl 8 0 rfl rfl rfl rfl hl.1 rfl (Nat.le_of_ble_eq_true rfl) dX11_byteFor_13 ⟨Nat.zero_le _, Nat.zero_le _⟩ (fun H locs hP hS => ?_)
    refine lv_iload_n (pc := 16) hx hb dX11_byteFor_16 rfl (lv_at hl 2 rfl) ?_
    refine lv_iadd (pc := 17) hx hb dX11_byteFor_17 ?_
    obtain ⟨x4, hcx4, hf⟩ := bn_some hf
    refine g_callV0 (pc := 18) (rest := []) hx hb hml hown hts hK (c_X11_byteAt l G hw0_0 hw0_1 hw0_2 hw0_3 hw0_4 hw0_5 hw0_6 hw0_7 hw0_8 w0 (0 : Int32) (x3 + p2) hcx4) wd_969 wd_10 wd_966 wd_968 ws_17 hd_X11_byteAt ⟨rfl, rfl, Nat.le_of_ble_eq_true rfl, Nat.le_of_ble_eq_true rfl⟩ hP hD hS hA [0, 1, 2, 3, 4, 5, 6, 7, 8] rfl rfl 8 0 rfl rfl rfl rfl hl.1 rfl (Nat.le_of_ble_eq_true rfl) dX11_byteFor_18 ⟨Nat.zero_le _, Nat.zero_le _⟩ (fun H locs hP hS => ?_)
    refine lv_goto (pc := 21) (tgt := 41) hx hb dX11_byteFor_21 (by decide) ?_
    have hf := Option.some.inj hf; subst hf
    rw [← hQ]
    exact g_iret hx hb hr hlocks hP hS dX11_byteFor_41
theorem hd_X11_encodes : yX11_encodes.cls ≠ "java/lang/invoke/MethodHandle" ∧ yX11_encodes.cls ≠ "java/lang/invoke/VarHandle" ∧ (parseMethodDescriptor yX11_encodes.desc).map (fun d => d.parameters.length) = some 0 := by decide +kernel
abbrev rm_X11_encodes : Room := { frames := 3, cells := 0, slots := 0, locals := 65 }
noncomputable def f_X11_encodes_L193   : Nat → TModel → Int32 → Int32 → Option TModel
  | 0, _, _, _ => none
  | k193 + 1, w0, v2, v1 =>
    br (w0.2.2.2.2.2.2.1 ≤ v2) ((f_X11_writes w0 (v1 - v1 / (251 : Int32) * (251 : Int32))).bind (fun x5 => some x5)) (gd (vp_in v2 4000) (f_X11_encodes_L193   k193 w0 (v2 + (1 : Int32)) (v1 + (w0.2.2.2.2.2.1 v2.toNatClampNeg))))
noncomputable def f_X11_encodes_J183  (rec49 : TModel → Int32 → Option TModel) (w0 : TModel) (v1 : Int32) : Option TModel :=
  rec49 w0 (v1 + (1 : Int32))
noncomputable def f_X11_encodes_L151  (rec49 : TModel → Int32 → Option TModel) : Nat → TModel → Int32 → Int32 → Int32 → Int32 → Option TModel
  | 0, _, _, _, _, _ => none
  | k151 + 1, w0, v4, v3, v2, v1 =>
    (f_X11_of w0 v2 (3 : Int32)).bind (fun x13 => br (x13 ≤ v4) (f_X11_encodes_J183  rec49 w0 v1) (br (v3 = 0) ((f_X11_byteFor w0 v2 v4).bind (fun x14 => (f_X11_writes w0 x14).bind (fun x15 => f_X11_encodes_L151  rec49 k151 x15 (v4 + (1 : Int32)) v3 v2 v1))) (f_X11_encodes_J183  rec49 w0 v1)))
noncomputable def f_X11_encodes_J128  (rec49 : TModel → Int32 → Option TModel) (w0 : TModel) (v3 : Int32) (v2 : Int32) (v1 : Int32) : Option TModel :=
  (f_X11_of w0 v2 (2 : Int32)).bind (fun x9 => (f_X11_writes w0 x9).bind (fun x10 => (f_X11_of x10 v2 (3 : Int32)).bind (fun x11 => (f_X11_writes x10 x11).bind (fun x12 => f_X11_encodes_L151  rec49 FUEL x12 (0 : Int32) v3 v2 v1))))
noncomputable def f_X11_encodes_J111  (rec49 : TModel → Int32 → Option TModel) (w0 : TModel) (v3 : Int32) (v2 : Int32) (v1 : Int32) (s0 : Int32) : Option TModel :=
  (f_X11_writes w0 s0).bind (fun x8 => br (v3 = 0) (f_X11_encodes_J128  rec49 x8 v3 v2 v1) ((f_X11_of x8 v2 (1 : Int32)).bind (fun x16 => (f_X11_writes x8 x16).bind (fun x17 => f_X11_encodes_J128  rec49 x17 v3 v2 v1))))
noncomputable def f_X11_encodes_J100  (rec49 : TModel → Int32 → Option TModel) (w0 : TModel) (v2 : Int32) (v1 : Int32) (s0 : Int32) : Option TModel :=
  br (s0 = 0) (f_X11_encodes_J111  rec49 w0 s0 v2 v1 (2 : Int32)) (f_X11_encodes_J111  rec49 w0 s0 v2 v1 (1 : Int32))
noncomputable def f_X11_encodes_J99  (rec49 : TModel → Int32 → Option TModel) (w0 : TModel) (v2 : Int32) (v1 : Int32) : Option TModel :=
  f_X11_encodes_J100  rec49 w0 v2 v1 (0 : Int32)
noncomputable def f_X11_encodes_L49   : Nat → TModel → Int32 → Option TModel
  | 0, _, _ => none
  | k49 + 1, w0, v1 =>
    gd (vp_in (132 : Int32) 617) (br ((w0.1 (132 : Int32).toNatClampNeg) ≤ v1) (f_X11_encodes_L193  FUEL w0 (0 : Int32) (0 : Int32)) (gd (vp_in ((318 : Int32) + v1) 617) (nm (w0.1 ((318 : Int32) + v1).toNatClampNeg) (fun x6 => (f_X11_isCopy w0 x6).bind (fun x7 => br (x7 = 0) (f_X11_encodes_J99  (f_X11_encodes_L49   k49) w0 x6 v1) (gd (vp_in (348 : Int32) 617) (br ((((w0.1 (348 : Int32).toNatClampNeg) >>> (x6 &&& 31)) &&& (1 : Int32)) = 0) (f_X11_encodes_J100  (f_X11_encodes_L49   k49) w0 x6 v1 (1 : Int32)) (f_X11_encodes_J99  (f_X11_encodes_L49   k49) w0 x6 v1))))))))
noncomputable def f_X11_encodes (w0 : TModel) : Option TModel :=
  (f_X11_writes (w0.1, w0.2.1, w0.2.2.1, w0.2.2.2.1, w0.2.2.2.2.1, w0.2.2.2.2.2.1, (0 : Int32), w0.2.2.2.2.2.2.2.1, w0.2.2.2.2.2.2.2.2.1, w0.2.2.2.2.2.2.2.2.2.1, w0.2.2.2.2.2.2.2.2.2.2.1, w0.2.2.2.2.2.2.2.2.2.2.2.1, w0.2.2.2.2.2.2.2.2.2.2.2.2.1, w0.2.2.2.2.2.2.2.2.2.2.2.2.2) (73 : Int32)).bind (fun x1 => gd (vp_in (130 : Int32) 617) ((f_X11_writes x1 (x1.1 (130 : Int32).toNatClampNeg)).bind (fun x2 => gd (vp_in (131 : Int32) 617) ((f_X11_writes x2 (x2.1 (131 : Int32).toNatClampNeg)).bind (fun x3 => gd (vp_in (132 : Int32) 617) ((f_X11_writes x3 (x3.1 (132 : Int32).toNatClampNeg)).bind (fun x4 => f_X11_encodes_L49  FUEL x4 (0 : Int32))))))))
set_option maxHeartbeats 4000000 in
set_option maxRecDepth 100000 in
theorem c_X11_encodes (l : Launch) (G : GT) (hw0_0 hw0_1 hw0_2 hw0_3 hw0_4 hw0_5 hw0_6 hw0_7 hw0_8 : Nat) (w0 : TModel) {r : TModel} (hf : f_X11_encodes w0 = some r) : Ct l yX11_encodes (Cond.code yX11_encodes cX11_encodes 5 none :: lw_g) rm_X11_encodes G [.ref hw0_0] [(hw0_0, .inr (8, [.ref hw0_1, .ref hw0_2, .int w0.2.2.1, .int w0.2.2.2.1, .ref hw0_3, .ref hw0_4, .int w0.2.2.2.2.2.2.1, .int w0.2.2.2.2.2.2.2.1, .int w0.2.2.2.2.2.2.2.2.1, .ref hw0_5, .ref hw0_6, .ref hw0_7, .int w0.2.2.2.2.2.2.2.2.2.2.2.2.1, .ref hw0_8])), (hw0_1, .inl (G.2.1, 617, .inl w0.1)), (hw0_2, .inl (G.2.1, 2468, .inl w0.2.1)), (hw0_3, .inl (G.2.1, 30, .inl w0.2.2.2.2.1)), (hw0_4, .inl (G.2.1, 4000, .inl w0.2.2.2.2.2.1)), (hw0_5, .inl (G.2.1, 120, .inl w0.2.2.2.2.2.2.2.2.2.1)), (hw0_6, .inl (G.2.1, 64, .inl w0.2.2.2.2.2.2.2.2.2.2.1)), (hw0_7, .inl (G.2.2.1, 64, .inl w0.2.2.2.2.2.2.2.2.2.2.2.1)), (hw0_8, .inl (G.2.1, 64, .inl w0.2.2.2.2.2.2.2.2.2.2.2.2.2))] none [(hw0_0, .inr (8, [.ref hw0_1, .ref hw0_2, .int r.2.2.1, .int r.2.2.2.1, .ref hw0_3, .ref hw0_4, .int r.2.2.2.2.2.2.1, .int r.2.2.2.2.2.2.2.1, .int r.2.2.2.2.2.2.2.2.1, .ref hw0_5, .ref hw0_6, .ref hw0_7, .int r.2.2.2.2.2.2.2.2.2.2.2.2.1, .ref hw0_8])), (hw0_1, .inl (G.2.1, 617, .inl r.1)), (hw0_2, .inl (G.2.1, 2468, .inl r.2.1)), (hw0_3, .inl (G.2.1, 30, .inl r.2.2.2.2.1)), (hw0_4, .inl (G.2.1, 4000, .inl r.2.2.2.2.2.1)), (hw0_5, .inl (G.2.1, 120, .inl r.2.2.2.2.2.2.2.2.2.1)), (hw0_6, .inl (G.2.1, 64, .inl r.2.2.2.2.2.2.2.2.2.2.1)), (hw0_7, .inl (G.2.2.1, 64, .inl r.2.2.2.2.2.2.2.2.2.2.2.1)), (hw0_8, .inl (G.2.1, 64, .inl r.2.2.2.2.2.2.2.2.2.2.2.2.2))] := by
  refine Ct.ofW (cc := cX11_encodes) (maxL := 5) (ret := none) (own := RX11) (by decide) rfl rfl (Nat.le_of_ble_eq_true rfl) ?_
  intro p e s m args below meth c A hx hb hr hml hts hown hlocks hK hP hD hA hS ls hl
  have hl : lv_has ls 5 [(0, .ref hw0_0)] := hl
  generalize hQ : gMQ below G _ _ A args s = Q
  generalize hH : s.heap = H at hP ⊢
  have hS : va_S A s.heap H [] := by rw [← hH]; exact hS
  generalize ([] : List Loc) = locs at hS ⊢
  unfold f_X11_encodes at hf
  have hL193 : ∀ (k193 : Nat) (w0 : TModel) (v2 : Int32) (v1 : Int32), f_X11_encodes_L193   k193 w0 v2 v1 = some r → ∀ (H : Heap) (locs : List Loc), va_P G.1 vwCl [(hw0_0, .inr (8, [.ref hw0_1, .ref hw0_2, .int w0.2.2.1, .int w0.2.2.2.1, .ref hw0_3, .ref hw0_4, .int w0.2.2.2.2.2.2.1, .int w0.2.2.2.2.2.2.2.1, .int w0.2.2.2.2.2.2.2.2.1, .ref hw0_5, .ref hw0_6, .ref hw0_7, .int w0.2.2.2.2.2.2.2.2.2.2.2.2.1, .ref hw0_8])), (hw0_1, .inl (G.2.1, 617, .inl w0.1)), (hw0_2, .inl (G.2.1, 2468, .inl w0.2.1)), (hw0_3, .inl (G.2.1, 30, .inl w0.2.2.2.2.1)), (hw0_4, .inl (G.2.1, 4000, .inl w0.2.2.2.2.2.1)), (hw0_5, .inl (G.2.1, 120, .inl w0.2.2.2.2.2.2.2.2.2.1)), (hw0_6, .inl (G.2.1, 64, .inl w0.2.2.2.2.2.2.2.2.2.2.1)), (hw0_7, .inl (G.2.2.1, 64, .inl w0.2.2.2.2.2.2.2.2.2.2.2.1)), (hw0_8, .inl (G.2.1, 64, .inl w0.2.2.2.2.2.2.2.2.2.2.2.2.2))] H → va_D A [(hw0_0, .inr (8, [.ref hw0_1, .ref hw0_2, .int w0.2.2.1, .int w0.2.2.2.1, .ref hw0_3, .ref hw0_4, .int w0.2.2.2.2.2.2.1, .int w0.2.2.2.2.2.2.2.1, .int w0.2.2.2.2.2.2.2.2.1, .ref hw0_5, .ref hw0_6, .ref hw0_7, .int w0.2.2.2.2.2.2.2.2.2.2.2.2.1, .ref hw0_8])), (hw0_1, .inl (G.2.1, 617, .inl w0.1)), (hw0_2, .inl (G.2.1, 2468, .inl w0.2.1)), (hw0_3, .inl (G.2.1, 30, .inl w0.2.2.2.2.1)), (hw0_4, .inl (G.2.1, 4000, .inl w0.2.2.2.2.2.1)), (hw0_5, .inl (G.2.1, 120, .inl w0.2.2.2.2.2.2.2.2.2.1)), (hw0_6, .inl (G.2.1, 64, .inl w0.2.2.2.2.2.2.2.2.2.2.1)), (hw0_7, .inl (G.2.2.1, 64, .inl w0.2.2.2.2.2.2.2.2.2.2.2.1)), (hw0_8, .inl (G.2.1, 64, .inl w0.2.2.2.2.2.2.2.2.2.2.2.2.2))] → va_S A s.heap H locs → ∀ (ls : Array Slot), lv_has ls 5 [(2, .int v2), (1, .int v1), (0, .ref hw0_0)] → W p l e (rm_X11_encodes) s m args below meth c H locs 0 0 Q (F0 m 193 ls []) := by
    intro k193
    induction k193 with
    | zero =>
      intro w0 v2 v1 hf
      rw [f_X11_encodes_L193.eq_1] at hf; cases hf
    | succ k193 ih193 =>
      intro w0 v2 v1 hf H locs hP hD hS ls hl
      rw [f_X11_encodes_L193.eq_2] at hf
      refine lv_iload_n (pc := 193) hx hb dX11_encodes_193 rfl (lv_at hl 0 rfl) ?_
      refine lv_aload_n (pc := 194) hx hb dX11_encodes_194 rfl (lv_at hl 2 rfl) ?_
      refine va_get (pc := 195) (D := G.1) (ci := 8) (v := .int w0.2.2.2.2.2.2.1) (C := RX11) (T := TX11) (N := 14) hx hb hts inX11 hown hK.1 hP 0 rfl rfl 6 (by decide) (hts _ wd_886) (fun _ h9 => h9) rfl dX11_encodes_195 ?_
      refine lv_icmp_ge (pc := 198) (tgt := 216) hx hb dX11_encodes_198 (by decide) (fun hc => ?_) (fun hc => ?_)
      · have hf := br_y hc hf
        refine lv_aload_n (pc := 216) hx hb dX11_encodes_216 rfl (lv_at hl 2 rfl) ?_
        refine lv_iload_n (pc := 217) hx hb dX11_encodes_217 rfl (lv_at hl 1 rfl) ?_
        refine lv_sipush (pc := 218) (v := (251 : Int32)) hx hb dX11_encodes_218 (by decide) ?_
        refine lv_irem (pc := 221) hx hb dX11_encodes_221 (by decide) ?_
        obtain ⟨x5, hcx5, hf⟩ := bn_some hf
        refine g_callV (pc := 222) (ws' := [(hw0_0, .inr (8, [.ref hw0_1, .ref hw0_2, .int x5.2.2.1, .int x5.2.2.2.1, .ref hw0_3, .ref hw0_4, .int x5.2.2.2.2.2.2.1, .int x5.2.2.2.2.2.2.2.1, .int x5.2.2.2.2.2.2.2.2.1, .ref hw0_5, .ref hw0_6, .ref hw0_7, .int x5.2.2.2.2.2.2.2.2.2.2.2.2.1, .ref hw0_8])), (hw0_1, .inl (G.2.1, 617, .inl x5.1)), (hw0_2, .inl (G.2.1, 2468, .inl x5.2.1)), (hw0_3, .inl (G.2.1, 30, .inl x5.2.2.2.2.1)), (hw0_4, .inl (G.2.1, 4000, .inl x5.2.2.2.2.2.1)), (hw0_5, .inl (G.2.1, 120, .inl x5.2.2.2.2.2.2.2.2.2.1)), (hw0_6, .inl (G.2.1, 64, .inl x5.2.2.2.2.2.2.2.2.2.2.1)), (hw0_7, .inl (G.2.2.1, 64, .inl x5.2.2.2.2.2.2.2.2.2.2.2.1)), (hw0_8, .inl (G.2.1, 64, .inl x5.2.2.2.2.2.2.2.2.2.2.2.2.2))]) (rest := []) hx hb hml hown hts hK (c_X11_writes l G hw0_0 hw0_1 hw0_2 hw0_3 hw0_4 hw0_5 hw0_6 hw0_7 hw0_8 w0 (v1 - v1 / (251 : Int32) * (251 : Int32)) hcx5) wd_1087 wd_10 wd_1084 wd_1086 ws_34 hd_X11_writes ⟨rfl, rfl, Nat.le_of_ble_eq_true rfl, Nat.le_of_ble_eq_true rfl⟩ hP hD hS hA [0, 1, 2, 3, 4, 5, 6, 7, 8] rfl rfl rfl rfl 8 0 rfl rfl rfl rfl hl.1 rfl (Nat.le_of_ble_eq_true rfl) dX11_encodes_222 ⟨Nat.zero_le _, Nat.zero_le _⟩ (fun H locs hP hD hS => ?_)
        have hf := Option.some.inj hf; subst hf
        rw [← hQ]
        exact g_vret hx hb hr hlocks hP hS dX11_encodes_225
      · have hf := br_n hc hf
        refine lv_iload_n (pc := 201) hx hb dX11_encodes_201 rfl (lv_at hl 1 rfl) ?_
        refine lv_aload_n (pc := 202) hx hb dX11_encodes_202 rfl (lv_at hl 2 rfl) ?_
        refine va_get (pc := 203) (D := G.1) (ci := 8) (v := .ref hw0_4) (C := RX11) (T := TX11) (N := 14) hx hb hts inX11 hown hK.1 hP 0 rfl rfl 5 (by decide) (hts _ wd_885) (fun _ h9 => h9) rfl dX11_encodes_203 ?_
        refine lv_iload_n (pc := 206) hx hb dX11_encodes_206 rfl (lv_at hl 0 rfl) ?_
        obtain ⟨hg, hf⟩ := gd_some hf
        refine va_iald (pc := 207) hx hb hK.1 hP 4 0 rfl rfl hg dX11_encodes_207 ?_
        refine lv_iadd (pc := 208) hx hb dX11_encodes_208 ?_
        refine lv_istore_n (pc := 209) (lv' := [(1, .int (v1 + (w0.2.2.2.2.2.1 v2.toNatClampNeg))), (2, .int v2), (0, .ref hw0_0)]) hx hb dX11_encodes_209 rfl hl (by decide) rfl (fun ls hl => ?_)
        refine lv_iinc (pc := 210) (v := (v2 + (1 : Int32))) (lv' := [(2, .int (v2 + (1 : Int32))), (1, .int (v1 + (w0.2.2.2.2.2.1 v2.toNatClampNeg))), (0, .ref hw0_0)]) hx hb dX11_encodes_210 hl (k := 1) rfl rfl (by decide) rfl (fun ls hl => ?_)
        refine lv_goto (pc := 213) (tgt := 193) hx hb dX11_encodes_213 (by decide) ?_
        exact ih193 w0 (v2 + (1 : Int32)) (v1 + (w0.2.2.2.2.2.1 v2.toNatClampNeg)) hf H locs hP hD hS ls (lv_sub hl [0, 1, 2] rfl)
  have hL49 : ∀ (k49 : Nat) (w0 : TModel) (v1 : Int32), f_X11_encodes_L49   k49 w0 v1 = some r → ∀ (H : Heap) (locs : List Loc), va_P G.1 vwCl [(hw0_0, .inr (8, [.ref hw0_1, .ref hw0_2, .int w0.2.2.1, .int w0.2.2.2.1, .ref hw0_3, .ref hw0_4, .int w0.2.2.2.2.2.2.1, .int w0.2.2.2.2.2.2.2.1, .int w0.2.2.2.2.2.2.2.2.1, .ref hw0_5, .ref hw0_6, .ref hw0_7, .int w0.2.2.2.2.2.2.2.2.2.2.2.2.1, .ref hw0_8])), (hw0_1, .inl (G.2.1, 617, .inl w0.1)), (hw0_2, .inl (G.2.1, 2468, .inl w0.2.1)), (hw0_3, .inl (G.2.1, 30, .inl w0.2.2.2.2.1)), (hw0_4, .inl (G.2.1, 4000, .inl w0.2.2.2.2.2.1)), (hw0_5, .inl (G.2.1, 120, .inl w0.2.2.2.2.2.2.2.2.2.1)), (hw0_6, .inl (G.2.1, 64, .inl w0.2.2.2.2.2.2.2.2.2.2.1)), (hw0_7, .inl (G.2.2.1, 64, .inl w0.2.2.2.2.2.2.2.2.2.2.2.1)), (hw0_8, .inl (G.2.1, 64, .inl w0.2.2.2.2.2.2.2.2.2.2.2.2.2))] H → va_D A [(hw0_0, .inr (8, [.ref hw0_1, .ref hw0_2, .int w0.2.2.1, .int w0.2.2.2.1, .ref hw0_3, .ref hw0_4, .int w0.2.2.2.2.2.2.1, .int w0.2.2.2.2.2.2.2.1, .int w0.2.2.2.2.2.2.2.2.1, .ref hw0_5, .ref hw0_6, .ref hw0_7, .int w0.2.2.2.2.2.2.2.2.2.2.2.2.1, .ref hw0_8])), (hw0_1, .inl (G.2.1, 617, .inl w0.1)), (hw0_2, .inl (G.2.1, 2468, .inl w0.2.1)), (hw0_3, .inl (G.2.1, 30, .inl w0.2.2.2.2.1)), (hw0_4, .inl (G.2.1, 4000, .inl w0.2.2.2.2.2.1)), (hw0_5, .inl (G.2.1, 120, .inl w0.2.2.2.2.2.2.2.2.2.1)), (hw0_6, .inl (G.2.1, 64, .inl w0.2.2.2.2.2.2.2.2.2.2.1)), (hw0_7, .inl (G.2.2.1, 64, .inl w0.2.2.2.2.2.2.2.2.2.2.2.1)), (hw0_8, .inl (G.2.1, 64, .inl w0.2.2.2.2.2.2.2.2.2.2.2.2.2))] → va_S A s.heap H locs → ∀ (ls : Array Slot), lv_has ls 5 [(1, .int v1), (0, .ref hw0_0)] → W p l e (rm_X11_encodes) s m args below meth c H locs 0 0 Q (F0 m 49 ls []) := by
    intro k49
    induction k49 with
    | zero =>
      intro w0 v1 hf
      rw [f_X11_encodes_L49.eq_1] at hf; cases hf
    | succ k49 ih49 =>
      have hJ183 : ∀ (w0 : TModel) (v1 : Int32), f_X11_encodes_J183  (f_X11_encodes_L49 k49) w0 v1 = some r → ∀ (H : Heap) (locs : List Loc), va_P G.1 vwCl [(hw0_0, .inr (8, [.ref hw0_1, .ref hw0_2, .int w0.2.2.1, .int w0.2.2.2.1, .ref hw0_3, .ref hw0_4, .int w0.2.2.2.2.2.2.1, .int w0.2.2.2.2.2.2.2.1, .int w0.2.2.2.2.2.2.2.2.1, .ref hw0_5, .ref hw0_6, .ref hw0_7, .int w0.2.2.2.2.2.2.2.2.2.2.2.2.1, .ref hw0_8])), (hw0_1, .inl (G.2.1, 617, .inl w0.1)), (hw0_2, .inl (G.2.1, 2468, .inl w0.2.1)), (hw0_3, .inl (G.2.1, 30, .inl w0.2.2.2.2.1)), (hw0_4, .inl (G.2.1, 4000, .inl w0.2.2.2.2.2.1)), (hw0_5, .inl (G.2.1, 120, .inl w0.2.2.2.2.2.2.2.2.2.1)), (hw0_6, .inl (G.2.1, 64, .inl w0.2.2.2.2.2.2.2.2.2.2.1)), (hw0_7, .inl (G.2.2.1, 64, .inl w0.2.2.2.2.2.2.2.2.2.2.2.1)), (hw0_8, .inl (G.2.1, 64, .inl w0.2.2.2.2.2.2.2.2.2.2.2.2.2))] H → va_D A [(hw0_0, .inr (8, [.ref hw0_1, .ref hw0_2, .int w0.2.2.1, .int w0.2.2.2.1, .ref hw0_3, .ref hw0_4, .int w0.2.2.2.2.2.2.1, .int w0.2.2.2.2.2.2.2.1, .int w0.2.2.2.2.2.2.2.2.1, .ref hw0_5, .ref hw0_6, .ref hw0_7, .int w0.2.2.2.2.2.2.2.2.2.2.2.2.1, .ref hw0_8])), (hw0_1, .inl (G.2.1, 617, .inl w0.1)), (hw0_2, .inl (G.2.1, 2468, .inl w0.2.1)), (hw0_3, .inl (G.2.1, 30, .inl w0.2.2.2.2.1)), (hw0_4, .inl (G.2.1, 4000, .inl w0.2.2.2.2.2.1)), (hw0_5, .inl (G.2.1, 120, .inl w0.2.2.2.2.2.2.2.2.2.1)), (hw0_6, .inl (G.2.1, 64, .inl w0.2.2.2.2.2.2.2.2.2.2.1)), (hw0_7, .inl (G.2.2.1, 64, .inl w0.2.2.2.2.2.2.2.2.2.2.2.1)), (hw0_8, .inl (G.2.1, 64, .inl w0.2.2.2.2.2.2.2.2.2.2.2.2.2))] → va_S A s.heap H locs → ∀ (ls : Array Slot), lv_has ls 5 [(1, .int v1), (0, .ref hw0_0)] → W p l e (rm_X11_encodes) s m args below meth c H locs 0 0 Q (F0 m 183 ls []) := by
        intro w0 v1 hf H locs hP hD hS ls hl
        unfold f_X11_encodes_J183 at hf
        refine lv_iinc (pc := 183) (v := (v1 + (1 : Int32))) (lv' := [(1, .int (v1 + (1 : Int32))), (0, .ref hw0_0)]) hx hb dX11_encodes_183 hl (k := 0) rfl rfl (by decide) rfl (fun ls hl => ?_)
        refine lv_goto (pc := 186) (tgt := 49) hx hb dX11_encodes_186 (by decide) ?_
        exact ih49 w0 (v1 + (1 : Int32)) hf H locs hP hD hS ls (lv_sub hl [0, 1] rfl)
      have hL151 : ∀ (k151 : Nat) (w0 : TModel) (v4 : Int32) (v3 : Int32) (v2 : Int32) (v1 : Int32), f_X11_encodes_L151  (f_X11_encodes_L49 k49) k151 w0 v4 v3 v2 v1 = some r → ∀ (H : Heap) (locs : List Loc), va_P G.1 vwCl [(hw0_0, .inr (8, [.ref hw0_1, .ref hw0_2, .int w0.2.2.1, .int w0.2.2.2.1, .ref hw0_3, .ref hw0_4, .int w0.2.2.2.2.2.2.1, .int w0.2.2.2.2.2.2.2.1, .int w0.2.2.2.2.2.2.2.2.1, .ref hw0_5, .ref hw0_6, .ref hw0_7, .int w0.2.2.2.2.2.2.2.2.2.2.2.2.1, .ref hw0_8])), (hw0_1, .inl (G.2.1, 617, .inl w0.1)), (hw0_2, .inl (G.2.1, 2468, .inl w0.2.1)), (hw0_3, .inl (G.2.1, 30, .inl w0.2.2.2.2.1)), (hw0_4, .inl (G.2.1, 4000, .inl w0.2.2.2.2.2.1)), (hw0_5, .inl (G.2.1, 120, .inl w0.2.2.2.2.2.2.2.2.2.1)), (hw0_6, .inl (G.2.1, 64, .inl w0.2.2.2.2.2.2.2.2.2.2.1)), (hw0_7, .inl (G.2.2.1, 64, .inl w0.2.2.2.2.2.2.2.2.2.2.2.1)), (hw0_8, .inl (G.2.1, 64, .inl w0.2.2.2.2.2.2.2.2.2.2.2.2.2))] H → va_D A [(hw0_0, .inr (8, [.ref hw0_1, .ref hw0_2, .int w0.2.2.1, .int w0.2.2.2.1, .ref hw0_3, .ref hw0_4, .int w0.2.2.2.2.2.2.1, .int w0.2.2.2.2.2.2.2.1, .int w0.2.2.2.2.2.2.2.2.1, .ref hw0_5, .ref hw0_6, .ref hw0_7, .int w0.2.2.2.2.2.2.2.2.2.2.2.2.1, .ref hw0_8])), (hw0_1, .inl (G.2.1, 617, .inl w0.1)), (hw0_2, .inl (G.2.1, 2468, .inl w0.2.1)), (hw0_3, .inl (G.2.1, 30, .inl w0.2.2.2.2.1)), (hw0_4, .inl (G.2.1, 4000, .inl w0.2.2.2.2.2.1)), (hw0_5, .inl (G.2.1, 120, .inl w0.2.2.2.2.2.2.2.2.2.1)), (hw0_6, .inl (G.2.1, 64, .inl w0.2.2.2.2.2.2.2.2.2.2.1)), (hw0_7, .inl (G.2.2.1, 64, .inl w0.2.2.2.2.2.2.2.2.2.2.2.1)), (hw0_8, .inl (G.2.1, 64, .inl w0.2.2.2.2.2.2.2.2.2.2.2.2.2))] → va_S A s.heap H locs → ∀ (ls : Array Slot), lv_has ls 5 [(4, .int v4), (3, .int v3), (2, .int v2), (1, .int v1), (0, .ref hw0_0)] → W p l e (rm_X11_encodes) s m args below meth c H locs 0 0 Q (F0 m 151 ls []) := by
        intro k151
        induction k151 with
        | zero =>
          intro w0 v4 v3 v2 v1 hf
          rw [f_X11_encodes_L151.eq_1] at hf; cases hf
        | succ k151 ih151 =>
          intro w0 v4 v3 v2 v1 hf H locs hP hD hS ls hl
          rw [f_X11_encodes_L151.eq_2] at hf
          refine lv_iload (pc := 151) hx hb dX11_encodes_151 (lv_at hl 0 rfl) ?_
          refine lv_aload_n (pc := 153) hx hb dX11_encodes_153 rfl (lv_at hl 4 rfl) ?_
          refine lv_iload_n (pc := 154) hx hb dX11_encodes_154 rfl (lv_at hl 2 rfl) ?_
          refine lv_iconst (pc := 155) (v := (3 : Int32)) hx hb dX11_encodes_155 (by decide) ?_
          obtain ⟨x13, hcx13, hf⟩ := bn_some hf
          refine g_callV0 (pc := 156) (rest := [.int v4]) hx hb hml hown hts hK (c_X11_of l G hw0_0 hw0_1 hw0_2 hw0_3 hw0_4 hw0_5 hw0_6 hw0_7 hw0_8 w0 v2 (3 : Int32) hcx13) wd_1010 wd_10 wd_1007 wd_1009 ws_22 hd_X11_of ⟨rfl, rfl, Nat.le_of_ble_eq_true rfl, Nat.le_of_ble_eq_true rfl⟩ hP hD hS hA [0, 1, 2, 3, 4, 5, 6, 7, 8] rfl rfl 8 0 rfl rfl rfl rfl hl.1 rfl (Nat.le_of_ble_eq_true rfl) dX11_encodes_156 ⟨Nat.zero_le _, Nat.zero_le _⟩ (fun H locs hP hS => ?_)
          refine lv_icmp_ge (pc := 159) (tgt := 183) hx hb dX11_encodes_159 (by decide) (fun hc => ?_) (fun hc => ?_)
          · have hf := br_y hc hf
            exact hJ183 w0 v1 hf H locs hP hD hS ls (lv_sub hl [3, 4] rfl)
          · have hf := br_n hc hf
            refine lv_iload_n (pc := 162) hx hb dX11_encodes_162 rfl (lv_at hl 1 rfl) ?_
            refine lv_if_ne (pc := 163) (tgt := 183) hx hb dX11_encodes_163 (by decide) (fun hc => ?_) (fun hc => ?_)
            · have hf := br_n hc hf
              exact hJ183 w0 v1 hf H locs hP hD hS ls (lv_sub hl [3, 4] rfl)
            · have hf := br_y hc hf
              refine lv_aload_n (pc := 166) hx hb dX11_encodes_166 rfl (lv_at hl 4 rfl) ?_
              refine lv_aload_n (pc := 167) hx hb dX11_encodes_167 rfl (lv_at hl 4 rfl) ?_
              refine lv_iload_n (pc := 168) hx hb dX11_encodes_168 rfl (lv_at hl 2 rfl) ?_
              refine lv_iload (pc := 169) hx hb dX11_encodes_169 (lv_at hl 0 rfl) ?_
              obtain ⟨x14, hcx14, hf⟩ := bn_some hf
              refine g_callV0 (pc := 171) (rest := [.ref hw0_0]) hx hb hml hown hts hK (c_X11_byteFor l G hw0_0 hw0_1 hw0_2 hw0_3 hw0_4 hw0_5 hw0_6 hw0_7 hw0_8 w0 v2 v4 hcx14) wd_1091 wd_10 wd_1088 wd_1090 ws_35 hd_X11_byteFor ⟨rfl, rfl, Nat.le_of_ble_eq_true rfl, Nat.le_of_ble_eq_true rfl⟩ hP hD hS hA [0, 1, 2, 3, 4, 5, 6, 7, 8] rfl rfl 8 0 rfl rfl rfl rfl hl.1 rfl (Nat.le_of_ble_eq_true rfl) dX11_encodes_171 ⟨Nat.zero_le _, Nat.zero_le _⟩ (fun H locs hP hS => ?_)
              obtain ⟨x15, hcx15, hf⟩ := bn_some hf
              refine g_callV (pc := 174) (ws' := [(hw0_0, .inr (8, [.ref hw0_1, .ref hw0_2, .int x15.2.2.1, .int x15.2.2.2.1, .ref hw0_3, .ref hw0_4, .int x15.2.2.2.2.2.2.1, .int x15.2.2.2.2.2.2.2.1, .int x15.2.2.2.2.2.2.2.2.1, .ref hw0_5, .ref hw0_6, .ref hw0_7, .int x15.2.2.2.2.2.2.2.2.2.2.2.2.1, .ref hw0_8])), (hw0_1, .inl (G.2.1, 617, .inl x15.1)), (hw0_2, .inl (G.2.1, 2468, .inl x15.2.1)), (hw0_3, .inl (G.2.1, 30, .inl x15.2.2.2.2.1)), (hw0_4, .inl (G.2.1, 4000, .inl x15.2.2.2.2.2.1)), (hw0_5, .inl (G.2.1, 120, .inl x15.2.2.2.2.2.2.2.2.2.1)), (hw0_6, .inl (G.2.1, 64, .inl x15.2.2.2.2.2.2.2.2.2.2.1)), (hw0_7, .inl (G.2.2.1, 64, .inl x15.2.2.2.2.2.2.2.2.2.2.2.1)), (hw0_8, .inl (G.2.1, 64, .inl x15.2.2.2.2.2.2.2.2.2.2.2.2.2))]) (rest := []) hx hb hml hown hts hK (c_X11_writes l G hw0_0 hw0_1 hw0_2 hw0_3 hw0_4 hw0_5 hw0_6 hw0_7 hw0_8 w0 x14 hcx15) wd_1087 wd_10 wd_1084 wd_1086 ws_34 hd_X11_writes ⟨rfl, rfl, Nat.le_of_ble_eq_true rfl, Nat.le_of_ble_eq_true rfl⟩ hP hD hS hA [0, 1, 2, 3, 4, 5, 6, 7, 8] rfl rfl rfl rfl 8 0 rfl rfl rfl rfl hl.1 rfl (Nat.le_of_ble_eq_true rfl) dX11_encodes_174 ⟨Nat.zero_le _, Nat.zero_le _⟩ (fun H locs hP hD hS => ?_)
              refine lv_iinc (pc := 177) (v := (v4 + (1 : Int32))) (lv' := [(4, .int (v4 + (1 : Int32))), (3, .int v3), (2, .int v2), (1, .int v1), (0, .ref hw0_0)]) hx hb dX11_encodes_177 hl (k := 0) rfl rfl (by decide) rfl (fun ls hl => ?_)
              refine lv_goto (pc := 180) (tgt := 151) hx hb dX11_encodes_180 (by decide) ?_
              exact ih151 x15 (v4 + (1 : Int32)) v3 v2 v1 hf H locs hP hD hS ls (lv_sub hl [0, 1, 2, 3, 4] rfl)
      have hJ128 : ∀ (w0 : TModel) (v3 : Int32) (v2 : Int32) (v1 : Int32), f_X11_encodes_J128  (f_X11_encodes_L49 k49) w0 v3 v2 v1 = some r → ∀ (H : Heap) (locs : List Loc), va_P G.1 vwCl [(hw0_0, .inr (8, [.ref hw0_1, .ref hw0_2, .int w0.2.2.1, .int w0.2.2.2.1, .ref hw0_3, .ref hw0_4, .int w0.2.2.2.2.2.2.1, .int w0.2.2.2.2.2.2.2.1, .int w0.2.2.2.2.2.2.2.2.1, .ref hw0_5, .ref hw0_6, .ref hw0_7, .int w0.2.2.2.2.2.2.2.2.2.2.2.2.1, .ref hw0_8])), (hw0_1, .inl (G.2.1, 617, .inl w0.1)), (hw0_2, .inl (G.2.1, 2468, .inl w0.2.1)), (hw0_3, .inl (G.2.1, 30, .inl w0.2.2.2.2.1)), (hw0_4, .inl (G.2.1, 4000, .inl w0.2.2.2.2.2.1)), (hw0_5, .inl (G.2.1, 120, .inl w0.2.2.2.2.2.2.2.2.2.1)), (hw0_6, .inl (G.2.1, 64, .inl w0.2.2.2.2.2.2.2.2.2.2.1)), (hw0_7, .inl (G.2.2.1, 64, .inl w0.2.2.2.2.2.2.2.2.2.2.2.1)), (hw0_8, .inl (G.2.1, 64, .inl w0.2.2.2.2.2.2.2.2.2.2.2.2.2))] H → va_D A [(hw0_0, .inr (8, [.ref hw0_1, .ref hw0_2, .int w0.2.2.1, .int w0.2.2.2.1, .ref hw0_3, .ref hw0_4, .int w0.2.2.2.2.2.2.1, .int w0.2.2.2.2.2.2.2.1, .int w0.2.2.2.2.2.2.2.2.1, .ref hw0_5, .ref hw0_6, .ref hw0_7, .int w0.2.2.2.2.2.2.2.2.2.2.2.2.1, .ref hw0_8])), (hw0_1, .inl (G.2.1, 617, .inl w0.1)), (hw0_2, .inl (G.2.1, 2468, .inl w0.2.1)), (hw0_3, .inl (G.2.1, 30, .inl w0.2.2.2.2.1)), (hw0_4, .inl (G.2.1, 4000, .inl w0.2.2.2.2.2.1)), (hw0_5, .inl (G.2.1, 120, .inl w0.2.2.2.2.2.2.2.2.2.1)), (hw0_6, .inl (G.2.1, 64, .inl w0.2.2.2.2.2.2.2.2.2.2.1)), (hw0_7, .inl (G.2.2.1, 64, .inl w0.2.2.2.2.2.2.2.2.2.2.2.1)), (hw0_8, .inl (G.2.1, 64, .inl w0.2.2.2.2.2.2.2.2.2.2.2.2.2))] → va_S A s.heap H locs → ∀ (ls : Array Slot), lv_has ls 5 [(3, .int v3), (2, .int v2), (1, .int v1), (0, .ref hw0_0)] → W p l e (rm_X11_encodes) s m args below meth c H locs 0 0 Q (F0 m 128 ls []) := by
        intro w0 v3 v2 v1 hf H locs hP hD hS ls hl
        unfold f_X11_encodes_J128 at hf
        refine lv_aload_n (pc := 128) hx hb dX11_encodes_128 rfl (lv_at hl 3 rfl) ?_
        refine lv_aload_n (pc := 129) hx hb dX11_encodes_129 rfl (lv_at hl 3 rfl) ?_
        refine lv_iload_n (pc := 130) hx hb dX11_encodes_130 rfl (lv_at hl 1 rfl) ?_
        refine lv_iconst (pc := 131) (v := (2 : Int32)) hx hb dX11_encodes_131 (by decide) ?_
        obtain ⟨x9, hcx9, hf⟩ := bn_some hf
        refine g_callV0 (pc := 132) (rest := [.ref hw0_0]) hx hb hml hown hts hK (c_X11_of l G hw0_0 hw0_1 hw0_2 hw0_3 hw0_4 hw0_5 hw0_6 hw0_7 hw0_8 w0 v2 (2 : Int32) hcx9) wd_1010 wd_10 wd_1007 wd_1009 ws_22 hd_X11_of ⟨rfl, rfl, Nat.le_of_ble_eq_true rfl, Nat.le_of_ble_eq_true rfl⟩ hP hD hS hA [0, 1, 2, 3, 4, 5, 6, 7, 8] rfl rfl 8 0 rfl rfl rfl rfl hl.1 rfl (Nat.le_of_ble_eq_true rfl) dX11_encodes_132 ⟨Nat.zero_le _, Nat.zero_le _⟩ (fun H locs hP hS => ?_)
        obtain ⟨x10, hcx10, hf⟩ := bn_some hf
        refine g_callV (pc := 135) (ws' := [(hw0_0, .inr (8, [.ref hw0_1, .ref hw0_2, .int x10.2.2.1, .int x10.2.2.2.1, .ref hw0_3, .ref hw0_4, .int x10.2.2.2.2.2.2.1, .int x10.2.2.2.2.2.2.2.1, .int x10.2.2.2.2.2.2.2.2.1, .ref hw0_5, .ref hw0_6, .ref hw0_7, .int x10.2.2.2.2.2.2.2.2.2.2.2.2.1, .ref hw0_8])), (hw0_1, .inl (G.2.1, 617, .inl x10.1)), (hw0_2, .inl (G.2.1, 2468, .inl x10.2.1)), (hw0_3, .inl (G.2.1, 30, .inl x10.2.2.2.2.1)), (hw0_4, .inl (G.2.1, 4000, .inl x10.2.2.2.2.2.1)), (hw0_5, .inl (G.2.1, 120, .inl x10.2.2.2.2.2.2.2.2.2.1)), (hw0_6, .inl (G.2.1, 64, .inl x10.2.2.2.2.2.2.2.2.2.2.1)), (hw0_7, .inl (G.2.2.1, 64, .inl x10.2.2.2.2.2.2.2.2.2.2.2.1)), (hw0_8, .inl (G.2.1, 64, .inl x10.2.2.2.2.2.2.2.2.2.2.2.2.2))]) (rest := []) hx hb hml hown hts hK (c_X11_writes l G hw0_0 hw0_1 hw0_2 hw0_3 hw0_4 hw0_5 hw0_6 hw0_7 hw0_8 w0 x9 hcx10) wd_1087 wd_10 wd_1084 wd_1086 ws_34 hd_X11_writes ⟨rfl, rfl, Nat.le_of_ble_eq_true rfl, Nat.le_of_ble_eq_true rfl⟩ hP hD hS hA [0, 1, 2, 3, 4, 5, 6, 7, 8] rfl rfl rfl rfl 8 0 rfl rfl rfl rfl hl.1 rfl (Nat.le_of_ble_eq_true rfl) dX11_encodes_135 ⟨Nat.zero_le _, Nat.zero_le _⟩ (fun H locs hP hD hS => ?_)
        refine lv_aload_n (pc := 138) hx hb dX11_encodes_138 rfl (lv_at hl 3 rfl) ?_
        refine lv_aload_n (pc := 139) hx hb dX11_encodes_139 rfl (lv_at hl 3 rfl) ?_
        refine lv_iload_n (pc := 140) hx hb dX11_encodes_140 rfl (lv_at hl 1 rfl) ?_
        refine lv_iconst (pc := 141) (v := (3 : Int32)) hx hb dX11_encodes_141 (by decide) ?_
        obtain ⟨x11, hcx11, hf⟩ := bn_some hf
        refine g_callV0 (pc := 142) (rest := [.ref hw0_0]) hx hb hml hown hts hK (c_X11_of l G hw0_0 hw0_1 hw0_2 hw0_3 hw0_4 hw0_5 hw0_6 hw0_7 hw0_8 x10 v2 (3 : Int32) hcx11) wd_1010 wd_10 wd_1007 wd_1009 ws_22 hd_X11_of ⟨rfl, rfl, Nat.le_of_ble_eq_true rfl, Nat.le_of_ble_eq_true rfl⟩ hP hD hS hA [0, 1, 2, 3, 4, 5, 6, 7, 8] rfl rfl 8 0 rfl rfl rfl rfl hl.1 rfl (Nat.le_of_ble_eq_true rfl) dX11_encodes_142 ⟨Nat.zero_le _, Nat.zero_le _⟩ (fun H locs hP hS => ?_)
        obtain ⟨x12, hcx12, hf⟩ := bn_some hf
        refine g_callV (pc := 145) (ws' := [(hw0_0, .inr (8, [.ref hw0_1, .ref hw0_2, .int x12.2.2.1, .int x12.2.2.2.1, .ref hw0_3, .ref hw0_4, .int x12.2.2.2.2.2.2.1, .int x12.2.2.2.2.2.2.2.1, .int x12.2.2.2.2.2.2.2.2.1, .ref hw0_5, .ref hw0_6, .ref hw0_7, .int x12.2.2.2.2.2.2.2.2.2.2.2.2.1, .ref hw0_8])), (hw0_1, .inl (G.2.1, 617, .inl x12.1)), (hw0_2, .inl (G.2.1, 2468, .inl x12.2.1)), (hw0_3, .inl (G.2.1, 30, .inl x12.2.2.2.2.1)), (hw0_4, .inl (G.2.1, 4000, .inl x12.2.2.2.2.2.1)), (hw0_5, .inl (G.2.1, 120, .inl x12.2.2.2.2.2.2.2.2.2.1)), (hw0_6, .inl (G.2.1, 64, .inl x12.2.2.2.2.2.2.2.2.2.2.1)), (hw0_7, .inl (G.2.2.1, 64, .inl x12.2.2.2.2.2.2.2.2.2.2.2.1)), (hw0_8, .inl (G.2.1, 64, .inl x12.2.2.2.2.2.2.2.2.2.2.2.2.2))]) (rest := []) hx hb hml hown hts hK (c_X11_writes l G hw0_0 hw0_1 hw0_2 hw0_3 hw0_4 hw0_5 hw0_6 hw0_7 hw0_8 x10 x11 hcx12) wd_1087 wd_10 wd_1084 wd_1086 ws_34 hd_X11_writes ⟨rfl, rfl, Nat.le_of_ble_eq_true rfl, Nat.le_of_ble_eq_true rfl⟩ hP hD hS hA [0, 1, 2, 3, 4, 5, 6, 7, 8] rfl rfl rfl rfl 8 0 rfl rfl rfl rfl hl.1 rfl (Nat.le_of_ble_eq_true rfl) dX11_encodes_145 ⟨Nat.zero_le _, Nat.zero_le _⟩ (fun H locs hP hD hS => ?_)
        refine lv_iconst (pc := 148) (v := (0 : Int32)) hx hb dX11_encodes_148 (by decide) ?_
        refine lv_istore (pc := 149) (lv' := [(4, .int (0 : Int32)), (3, .int v3), (2, .int v2), (1, .int v1), (0, .ref hw0_0)]) hx hb dX11_encodes_149 hl (by decide) rfl (fun ls hl => ?_)
        exact hL151 FUEL x12 (0 : Int32) v3 v2 v1 hf H locs hP hD hS ls (lv_sub hl [0, 1, 2, 3, 4] rfl)
      have hJ111 : ∀ (w0 : TModel) (v3 : Int32) (v2 : Int32) (v1 : Int32) (s0 : Int32), f_X11_encodes_J111  (f_X11_encodes_L49 k49) w0 v3 v2 v1 s0 = some r → ∀ (H : Heap) (locs : List Loc), va_P G.1 vwCl [(hw0_0, .inr (8, [.ref hw0_1, .ref hw0_2, .int w0.2.2.1, .int w0.2.2.2.1, .ref hw0_3, .ref hw0_4, .int w0.2.2.2.2.2.2.1, .int w0.2.2.2.2.2.2.2.1, .int w0.2.2.2.2.2.2.2.2.1, .ref hw0_5, .ref hw0_6, .ref hw0_7, .int w0.2.2.2.2.2.2.2.2.2.2.2.2.1, .ref hw0_8])), (hw0_1, .inl (G.2.1, 617, .inl w0.1)), (hw0_2, .inl (G.2.1, 2468, .inl w0.2.1)), (hw0_3, .inl (G.2.1, 30, .inl w0.2.2.2.2.1)), (hw0_4, .inl (G.2.1, 4000, .inl w0.2.2.2.2.2.1)), (hw0_5, .inl (G.2.1, 120, .inl w0.2.2.2.2.2.2.2.2.2.1)), (hw0_6, .inl (G.2.1, 64, .inl w0.2.2.2.2.2.2.2.2.2.2.1)), (hw0_7, .inl (G.2.2.1, 64, .inl w0.2.2.2.2.2.2.2.2.2.2.2.1)), (hw0_8, .inl (G.2.1, 64, .inl w0.2.2.2.2.2.2.2.2.2.2.2.2.2))] H → va_D A [(hw0_0, .inr (8, [.ref hw0_1, .ref hw0_2, .int w0.2.2.1, .int w0.2.2.2.1, .ref hw0_3, .ref hw0_4, .int w0.2.2.2.2.2.2.1, .int w0.2.2.2.2.2.2.2.1, .int w0.2.2.2.2.2.2.2.2.1, .ref hw0_5, .ref hw0_6, .ref hw0_7, .int w0.2.2.2.2.2.2.2.2.2.2.2.2.1, .ref hw0_8])), (hw0_1, .inl (G.2.1, 617, .inl w0.1)), (hw0_2, .inl (G.2.1, 2468, .inl w0.2.1)), (hw0_3, .inl (G.2.1, 30, .inl w0.2.2.2.2.1)), (hw0_4, .inl (G.2.1, 4000, .inl w0.2.2.2.2.2.1)), (hw0_5, .inl (G.2.1, 120, .inl w0.2.2.2.2.2.2.2.2.2.1)), (hw0_6, .inl (G.2.1, 64, .inl w0.2.2.2.2.2.2.2.2.2.2.1)), (hw0_7, .inl (G.2.2.1, 64, .inl w0.2.2.2.2.2.2.2.2.2.2.2.1)), (hw0_8, .inl (G.2.1, 64, .inl w0.2.2.2.2.2.2.2.2.2.2.2.2.2))] → va_S A s.heap H locs → ∀ (ls : Array Slot), lv_has ls 5 [(3, .int v3), (2, .int v2), (1, .int v1), (0, .ref hw0_0)] → W p l e (rm_X11_encodes) s m args below meth c H locs 0 0 Q (F0 m 111 ls [.int s0, .ref hw0_0]) := by
        intro w0 v3 v2 v1 s0 hf H locs hP hD hS ls hl
        unfold f_X11_encodes_J111 at hf
        obtain ⟨x8, hcx8, hf⟩ := bn_some hf
        refine g_callV (pc := 111) (ws' := [(hw0_0, .inr (8, [.ref hw0_1, .ref hw0_2, .int x8.2.2.1, .int x8.2.2.2.1, .ref hw0_3, .ref hw0_4, .int x8.2.2.2.2.2.2.1, .int x8.2.2.2.2.2.2.2.1, .int x8.2.2.2.2.2.2.2.2.1, .ref hw0_5, .ref hw0_6, .ref hw0_7, .int x8.2.2.2.2.2.2.2.2.2.2.2.2.1, .ref hw0_8])), (hw0_1, .inl (G.2.1, 617, .inl x8.1)), (hw0_2, .inl (G.2.1, 2468, .inl x8.2.1)), (hw0_3, .inl (G.2.1, 30, .inl x8.2.2.2.2.1)), (hw0_4, .inl (G.2.1, 4000, .inl x8.2.2.2.2.2.1)), (hw0_5, .inl (G.2.1, 120, .inl x8.2.2.2.2.2.2.2.2.2.1)), (hw0_6, .inl (G.2.1, 64, .inl x8.2.2.2.2.2.2.2.2.2.2.1)), (hw0_7, .inl (G.2.2.1, 64, .inl x8.2.2.2.2.2.2.2.2.2.2.2.1)), (hw0_8, .inl (G.2.1, 64, .inl x8.2.2.2.2.2.2.2.2.2.2.2.2.2))]) (rest := []) hx hb hml hown hts hK (c_X11_writes l G hw0_0 hw0_1 hw0_2 hw0_3 hw0_4 hw0_5 hw0_6 hw0_7 hw0_8 w0 s0 hcx8) wd_1087 wd_10 wd_1084 wd_1086 ws_34 hd_X11_writes ⟨rfl, rfl, Nat.le_of_ble_eq_true rfl, Nat.le_of_ble_eq_true rfl⟩ hP hD hS hA [0, 1, 2, 3, 4, 5, 6, 7, 8] rfl rfl rfl rfl 8 0 rfl rfl rfl rfl hl.1 rfl (Nat.le_of_ble_eq_true rfl) dX11_encodes_111 ⟨Nat.zero_le _, Nat.zero_le _⟩ (fun H locs hP hD hS => ?_)
        refine lv_iload_n (pc := 114) hx hb dX11_encodes_114 rfl (lv_at hl 0 rfl) ?_
        refine lv_if_eq (pc := 115) (tgt := 128) hx hb dX11_encodes_115 (by decide) (fun hc => ?_) (fun hc => ?_)
        · have hf := br_y hc hf
          exact hJ128 x8 v3 v2 v1 hf H locs hP hD hS ls (lv_sub hl [0, 1, 2, 3] rfl)
        · have hf := br_n hc hf
          refine lv_aload_n (pc := 118) hx hb dX11_encodes_118 rfl (lv_at hl 3 rfl) ?_
          refine lv_aload_n (pc := 119) hx hb dX11_encodes_119 rfl (lv_at hl 3 rfl) ?_
          refine lv_iload_n (pc := 120) hx hb dX11_encodes_120 rfl (lv_at hl 1 rfl) ?_
          refine lv_iconst (pc := 121) (v := (1 : Int32)) hx hb dX11_encodes_121 (by decide) ?_
          obtain ⟨x16, hcx16, hf⟩ := bn_some hf
          refine g_callV0 (pc := 122) (rest := [.ref hw0_0]) hx hb hml hown hts hK (c_X11_of l G hw0_0 hw0_1 hw0_2 hw0_3 hw0_4 hw0_5 hw0_6 hw0_7 hw0_8 x8 v2 (1 : Int32) hcx16) wd_1010 wd_10 wd_1007 wd_1009 ws_22 hd_X11_of ⟨rfl, rfl, Nat.le_of_ble_eq_true rfl, Nat.le_of_ble_eq_true rfl⟩ hP hD hS hA [0, 1, 2, 3, 4, 5, 6, 7, 8] rfl rfl 8 0 rfl rfl rfl rfl hl.1 rfl (Nat.le_of_ble_eq_true rfl) dX11_encodes_122 ⟨Nat.zero_le _, Nat.zero_le _⟩ (fun H locs hP hS => ?_)
          obtain ⟨x17, hcx17, hf⟩ := bn_some hf
          refine g_callV (pc := 125) (ws' := [(hw0_0, .inr (8, [.ref hw0_1, .ref hw0_2, .int x17.2.2.1, .int x17.2.2.2.1, .ref hw0_3, .ref hw0_4, .int x17.2.2.2.2.2.2.1, .int x17.2.2.2.2.2.2.2.1, .int x17.2.2.2.2.2.2.2.2.1, .ref hw0_5, .ref hw0_6, .ref hw0_7, .int x17.2.2.2.2.2.2.2.2.2.2.2.2.1, .ref hw0_8])), (hw0_1, .inl (G.2.1, 617, .inl x17.1)), (hw0_2, .inl (G.2.1, 2468, .inl x17.2.1)), (hw0_3, .inl (G.2.1, 30, .inl x17.2.2.2.2.1)), (hw0_4, .inl (G.2.1, 4000, .inl x17.2.2.2.2.2.1)), (hw0_5, .inl (G.2.1, 120, .inl x17.2.2.2.2.2.2.2.2.2.1)), (hw0_6, .inl (G.2.1, 64, .inl x17.2.2.2.2.2.2.2.2.2.2.1)), (hw0_7, .inl (G.2.2.1, 64, .inl x17.2.2.2.2.2.2.2.2.2.2.2.1)), (hw0_8, .inl (G.2.1, 64, .inl x17.2.2.2.2.2.2.2.2.2.2.2.2.2))]) (rest := []) hx hb hml hown hts hK (c_X11_writes l G hw0_0 hw0_1 hw0_2 hw0_3 hw0_4 hw0_5 hw0_6 hw0_7 hw0_8 x8 x16 hcx17) wd_1087 wd_10 wd_1084 wd_1086 ws_34 hd_X11_writes ⟨rfl, rfl, Nat.le_of_ble_eq_true rfl, Nat.le_of_ble_eq_true rfl⟩ hP hD hS hA [0, 1, 2, 3, 4, 5, 6, 7, 8] rfl rfl rfl rfl 8 0 rfl rfl rfl rfl hl.1 rfl (Nat.le_of_ble_eq_true rfl) dX11_encodes_125 ⟨Nat.zero_le _, Nat.zero_le _⟩ (fun H locs hP hD hS => ?_)
          exact hJ128 x17 v3 v2 v1 hf H locs hP hD hS ls (lv_sub hl [0, 1, 2, 3] rfl)
      have hJ100 : ∀ (w0 : TModel) (v2 : Int32) (v1 : Int32) (s0 : Int32), f_X11_encodes_J100  (f_X11_encodes_L49 k49) w0 v2 v1 s0 = some r → ∀ (H : Heap) (locs : List Loc), va_P G.1 vwCl [(hw0_0, .inr (8, [.ref hw0_1, .ref hw0_2, .int w0.2.2.1, .int w0.2.2.2.1, .ref hw0_3, .ref hw0_4, .int w0.2.2.2.2.2.2.1, .int w0.2.2.2.2.2.2.2.1, .int w0.2.2.2.2.2.2.2.2.1, .ref hw0_5, .ref hw0_6, .ref hw0_7, .int w0.2.2.2.2.2.2.2.2.2.2.2.2.1, .ref hw0_8])), (hw0_1, .inl (G.2.1, 617, .inl w0.1)), (hw0_2, .inl (G.2.1, 2468, .inl w0.2.1)), (hw0_3, .inl (G.2.1, 30, .inl w0.2.2.2.2.1)), (hw0_4, .inl (G.2.1, 4000, .inl w0.2.2.2.2.2.1)), (hw0_5, .inl (G.2.1, 120, .inl w0.2.2.2.2.2.2.2.2.2.1)), (hw0_6, .inl (G.2.1, 64, .inl w0.2.2.2.2.2.2.2.2.2.2.1)), (hw0_7, .inl (G.2.2.1, 64, .inl w0.2.2.2.2.2.2.2.2.2.2.2.1)), (hw0_8, .inl (G.2.1, 64, .inl w0.2.2.2.2.2.2.2.2.2.2.2.2.2))] H → va_D A [(hw0_0, .inr (8, [.ref hw0_1, .ref hw0_2, .int w0.2.2.1, .int w0.2.2.2.1, .ref hw0_3, .ref hw0_4, .int w0.2.2.2.2.2.2.1, .int w0.2.2.2.2.2.2.2.1, .int w0.2.2.2.2.2.2.2.2.1, .ref hw0_5, .ref hw0_6, .ref hw0_7, .int w0.2.2.2.2.2.2.2.2.2.2.2.2.1, .ref hw0_8])), (hw0_1, .inl (G.2.1, 617, .inl w0.1)), (hw0_2, .inl (G.2.1, 2468, .inl w0.2.1)), (hw0_3, .inl (G.2.1, 30, .inl w0.2.2.2.2.1)), (hw0_4, .inl (G.2.1, 4000, .inl w0.2.2.2.2.2.1)), (hw0_5, .inl (G.2.1, 120, .inl w0.2.2.2.2.2.2.2.2.2.1)), (hw0_6, .inl (G.2.1, 64, .inl w0.2.2.2.2.2.2.2.2.2.2.1)), (hw0_7, .inl (G.2.2.1, 64, .inl w0.2.2.2.2.2.2.2.2.2.2.2.1)), (hw0_8, .inl (G.2.1, 64, .inl w0.2.2.2.2.2.2.2.2.2.2.2.2.2))] → va_S A s.heap H locs → ∀ (ls : Array Slot), lv_has ls 5 [(2, .int v2), (1, .int v1), (0, .ref hw0_0)] → W p l e (rm_X11_encodes) s m args below meth c H locs 0 0 Q (F0 m 100 ls [.int s0]) := by
        intro w0 v2 v1 s0 hf H locs hP hD hS ls hl
        unfold f_X11_encodes_J100 at hf
        refine lv_istore_n (pc := 100) (lv' := [(3, .int s0), (2, .int v2), (1, .int v1), (0, .ref hw0_0)]) hx hb dX11_encodes_100 rfl hl (by decide) rfl (fun ls hl => ?_)
        refine lv_aload_n (pc := 101) hx hb dX11_encodes_101 rfl (lv_at hl 3 rfl) ?_
        refine lv_iload_n (pc := 102) hx hb dX11_encodes_102 rfl (lv_at hl 0 rfl) ?_
        refine lv_if_eq (pc := 103) (tgt := 110) hx hb dX11_encodes_103 (by decide) (fun hc => ?_) (fun hc => ?_)
        · have hf := br_y hc hf
          refine lv_iconst (pc := 110) (v := (2 : Int32)) hx hb dX11_encodes_110 (by decide) ?_
          exact hJ111 w0 s0 v2 v1 (2 : Int32) hf H locs hP hD hS ls (lv_sub hl [0, 1, 2, 3] rfl)
        · have hf := br_n hc hf
          refine lv_iconst (pc := 106) (v := (1 : Int32)) hx hb dX11_encodes_106 (by decide) ?_
          refine lv_goto (pc := 107) (tgt := 111) hx hb dX11_encodes_107 (by decide) ?_
          exact hJ111 w0 s0 v2 v1 (1 : Int32) hf H locs hP hD hS ls (lv_sub hl [0, 1, 2, 3] rfl)
      have hJ99 : ∀ (w0 : TModel) (v2 : Int32) (v1 : Int32), f_X11_encodes_J99  (f_X11_encodes_L49 k49) w0 v2 v1 = some r → ∀ (H : Heap) (locs : List Loc), va_P G.1 vwCl [(hw0_0, .inr (8, [.ref hw0_1, .ref hw0_2, .int w0.2.2.1, .int w0.2.2.2.1, .ref hw0_3, .ref hw0_4, .int w0.2.2.2.2.2.2.1, .int w0.2.2.2.2.2.2.2.1, .int w0.2.2.2.2.2.2.2.2.1, .ref hw0_5, .ref hw0_6, .ref hw0_7, .int w0.2.2.2.2.2.2.2.2.2.2.2.2.1, .ref hw0_8])), (hw0_1, .inl (G.2.1, 617, .inl w0.1)), (hw0_2, .inl (G.2.1, 2468, .inl w0.2.1)), (hw0_3, .inl (G.2.1, 30, .inl w0.2.2.2.2.1)), (hw0_4, .inl (G.2.1, 4000, .inl w0.2.2.2.2.2.1)), (hw0_5, .inl (G.2.1, 120, .inl w0.2.2.2.2.2.2.2.2.2.1)), (hw0_6, .inl (G.2.1, 64, .inl w0.2.2.2.2.2.2.2.2.2.2.1)), (hw0_7, .inl (G.2.2.1, 64, .inl w0.2.2.2.2.2.2.2.2.2.2.2.1)), (hw0_8, .inl (G.2.1, 64, .inl w0.2.2.2.2.2.2.2.2.2.2.2.2.2))] H → va_D A [(hw0_0, .inr (8, [.ref hw0_1, .ref hw0_2, .int w0.2.2.1, .int w0.2.2.2.1, .ref hw0_3, .ref hw0_4, .int w0.2.2.2.2.2.2.1, .int w0.2.2.2.2.2.2.2.1, .int w0.2.2.2.2.2.2.2.2.1, .ref hw0_5, .ref hw0_6, .ref hw0_7, .int w0.2.2.2.2.2.2.2.2.2.2.2.2.1, .ref hw0_8])), (hw0_1, .inl (G.2.1, 617, .inl w0.1)), (hw0_2, .inl (G.2.1, 2468, .inl w0.2.1)), (hw0_3, .inl (G.2.1, 30, .inl w0.2.2.2.2.1)), (hw0_4, .inl (G.2.1, 4000, .inl w0.2.2.2.2.2.1)), (hw0_5, .inl (G.2.1, 120, .inl w0.2.2.2.2.2.2.2.2.2.1)), (hw0_6, .inl (G.2.1, 64, .inl w0.2.2.2.2.2.2.2.2.2.2.1)), (hw0_7, .inl (G.2.2.1, 64, .inl w0.2.2.2.2.2.2.2.2.2.2.2.1)), (hw0_8, .inl (G.2.1, 64, .inl w0.2.2.2.2.2.2.2.2.2.2.2.2.2))] → va_S A s.heap H locs → ∀ (ls : Array Slot), lv_has ls 5 [(2, .int v2), (1, .int v1), (0, .ref hw0_0)] → W p l e (rm_X11_encodes) s m args below meth c H locs 0 0 Q (F0 m 99 ls []) := by
        intro w0 v2 v1 hf H locs hP hD hS ls hl
        unfold f_X11_encodes_J99 at hf
        refine lv_iconst (pc := 99) (v := (0 : Int32)) hx hb dX11_encodes_99 (by decide) ?_
        exact hJ100 w0 v2 v1 (0 : Int32) hf H locs hP hD hS ls (lv_sub hl [0, 1, 2] rfl)
      intro w0 v1 hf H locs hP hD hS ls hl
      rw [f_X11_encodes_L49.eq_2] at hf
      refine lv_iload_n (pc := 49) hx hb dX11_encodes_49 rfl (lv_at hl 0 rfl) ?_
      refine lv_aload_n (pc := 50) hx hb dX11_encodes_50 rfl (lv_at hl 1 rfl) ?_
      refine va_get (pc := 51) (D := G.1) (ci := 8) (v := .ref hw0_1) (C := RX11) (T := TX11) (N := 14) hx hb hts inX11 hown hK.1 hP 0 rfl rfl 0 (by decide) (hts _ wd_880) (fun _ h9 => h9) rfl dX11_encodes_51 ?_
      refine lv_sipush (pc := 54) (v := (132 : Int32)) hx hb dX11_encodes_54 (by decide) ?_
      obtain ⟨hg, hf⟩ := gd_some hf
      refine va_iald (pc := 57) hx hb hK.1 hP 1 0 rfl rfl hg dX11_encodes_57 ?_
      refine lv_icmp_ge (pc := 58) (tgt := 189) hx hb dX11_encodes_58 (by decide) (fun hc => ?_) (fun hc => ?_)
      · have hf := br_y hc hf
        refine lv_iconst (pc := 189) (v := (0 : Int32)) hx hb dX11_encodes_189 (by decide) ?_
        refine lv_istore_n (pc := 190) (lv' := [(1, .int (0 : Int32)), (0, .ref hw0_0)]) hx hb dX11_encodes_190 rfl hl (by decide) rfl (fun ls hl => ?_)
        refine lv_iconst (pc := 191) (v := (0 : Int32)) hx hb dX11_encodes_191 (by decide) ?_
        refine lv_istore_n (pc := 192) (lv' := [(2, .int (0 : Int32)), (1, .int (0 : Int32)), (0, .ref hw0_0)]) hx hb dX11_encodes_192 rfl hl (by decide) rfl (fun ls hl => ?_)
        exact hL193 FUEL w0 (0 : Int32) (0 : Int32) hf H locs hP hD hS ls (lv_sub hl [0, 1, 2] rfl)
      · have hf := br_n hc hf
        refine lv_aload_n (pc := 61) hx hb dX11_encodes_61 rfl (lv_at hl 1 rfl) ?_
        refine va_get (pc := 62) (D := G.1) (ci := 8) (v := .ref hw0_1) (C := RX11) (T := TX11) (N := 14) hx hb hts inX11 hown hK.1 hP 0 rfl rfl 0 (by decide) (hts _ wd_880) (fun _ h9 => h9) rfl dX11_encodes_62 ?_
        refine lv_sipush (pc := 65) (v := (318 : Int32)) hx hb dX11_encodes_65 (by decide) ?_
        refine lv_iload_n (pc := 68) hx hb dX11_encodes_68 rfl (lv_at hl 0 rfl) ?_
        refine lv_iadd (pc := 69) hx hb dX11_encodes_69 ?_
        obtain ⟨hg, hf⟩ := gd_some hf
        refine va_iald (pc := 70) hx hb hK.1 hP 1 0 rfl rfl hg dX11_encodes_70 ?_
        refine lv_topi (fun x6 ex6 => ?_)
        have hf := nm_some hf ex6
        refine lv_istore_n (pc := 71) (lv' := [(2, .int x6), (1, .int v1), (0, .ref hw0_0)]) hx hb dX11_encodes_71 rfl hl (by decide) rfl (fun ls hl => ?_)
        refine lv_aload_n (pc := 72) hx hb dX11_encodes_72 rfl (lv_at hl 2 rfl) ?_
        refine lv_iload_n (pc := 73) hx hb dX11_encodes_73 rfl (lv_at hl 0 rfl) ?_
        obtain ⟨x7, hcx7, hf⟩ := bn_some hf
        refine g_callV0 (pc := 74) (rest := []) hx hb hml hown hts hK (c_X11_isCopy l G hw0_0 hw0_1 hw0_2 hw0_3 hw0_4 hw0_5 hw0_6 hw0_7 hw0_8 w0 x6 hcx7) wd_1022 wd_10 wd_1019 wd_1021 ws_24 hd_X11_isCopy ⟨rfl, rfl, Nat.le_of_ble_eq_true rfl, Nat.le_of_ble_eq_true rfl⟩ hP hD hS hA [0, 1, 2, 3, 4, 5, 6, 7, 8] rfl rfl 8 0 rfl rfl rfl rfl hl.1 rfl (Nat.le_of_ble_eq_true rfl) dX11_encodes_74 ⟨Nat.zero_le _, Nat.zero_le _⟩ (fun H locs hP hS => ?_)
        refine lv_if_eq (pc := 77) (tgt := 99) hx hb dX11_encodes_77 (by decide) (fun hc => ?_) (fun hc => ?_)
        · have hf := br_y hc hf
          exact hJ99 w0 x6 v1 hf H locs hP hD hS ls (lv_sub hl [0, 1, 2] rfl)
        · have hf := br_n hc hf
          refine lv_aload_n (pc := 80) hx hb dX11_encodes_80 rfl (lv_at hl 2 rfl) ?_
          refine va_get (pc := 81) (D := G.1) (ci := 8) (v := .ref hw0_1) (C := RX11) (T := TX11) (N := 14) hx hb hts inX11 hown hK.1 hP 0 rfl rfl 0 (by decide) (hts _ wd_880) (fun _ h9 => h9) rfl dX11_encodes_81 ?_
          refine lv_sipush (pc := 84) (v := (348 : Int32)) hx hb dX11_encodes_84 (by decide) ?_
          obtain ⟨hg, hf⟩ := gd_some hf
          refine va_iald (pc := 87) hx hb hK.1 hP 1 0 rfl rfl hg dX11_encodes_87 ?_
          refine lv_iload_n (pc := 88) hx hb dX11_encodes_88 rfl (lv_at hl 0 rfl) ?_
          refine lv_ishr (pc := 89) hx hb dX11_encodes_89 ?_
          refine lv_iconst (pc := 90) (v := (1 : Int32)) hx hb dX11_encodes_90 (by decide) ?_
          refine lv_iand (pc := 91) hx hb dX11_encodes_91 ?_
          refine lv_if_ne (pc := 92) (tgt := 99) hx hb dX11_encodes_92 (by decide) (fun hc => ?_) (fun hc => ?_)
          · have hf := br_n hc hf
            exact hJ99 w0 x6 v1 hf H locs hP hD hS ls (lv_sub hl [0, 1, 2] rfl)
          · have hf := br_y hc hf
            refine lv_iconst (pc := 95) (v := (1 : Int32)) hx hb dX11_encodes_95 (by decide) ?_
            refine lv_goto (pc := 96) (tgt := 100) hx hb dX11_encodes_96 (by decide) ?_
            exact hJ100 w0 x6 v1 (1 : Int32) hf H locs hP hD hS ls (lv_sub hl [0, 1, 2] rfl)
  refine lv_aload_n (pc := 0) hx hb dX11_encodes_0 rfl (lv_at hl 0 rfl) ?_
  refine lv_iconst (pc := 1) (v := (0 : Int32)) hx hb dX11_encodes_1 (by decide) ?_
  refine va_put (pc := 2) (D := G.1) (ci := 8) (v := .int (0 : Int32)) (ty := .int) (C := RX11) (T := TX11) (N := 14) hx hb hts inX11 tyX11 tyX11_ok nmX11 hown hK.1 hP hD hS 0 rfl rfl 6 (by decide) (hts _ wd_886) (fun _ h9 => h9) rfl (by decide +kernel) rfl rfl (Nat.le_of_ble_eq_true rfl) dX11_encodes_2 (fun H locs hP hD hS => ?_)
  have hP : va_P G.1 vwCl [(hw0_0, .inr (8, [.ref hw0_1, .ref hw0_2, .int w0.2.2.1, .int w0.2.2.2.1, .ref hw0_3, .ref hw0_4, .int (0 : Int32), .int w0.2.2.2.2.2.2.2.1, .int w0.2.2.2.2.2.2.2.2.1, .ref hw0_5, .ref hw0_6, .ref hw0_7, .int w0.2.2.2.2.2.2.2.2.2.2.2.2.1, .ref hw0_8])), (hw0_1, .inl (G.2.1, 617, .inl w0.1)), (hw0_2, .inl (G.2.1, 2468, .inl w0.2.1)), (hw0_3, .inl (G.2.1, 30, .inl w0.2.2.2.2.1)), (hw0_4, .inl (G.2.1, 4000, .inl w0.2.2.2.2.2.1)), (hw0_5, .inl (G.2.1, 120, .inl w0.2.2.2.2.2.2.2.2.2.1)), (hw0_6, .inl (G.2.1, 64, .inl w0.2.2.2.2.2.2.2.2.2.2.1)), (hw0_7, .inl (G.2.2.1, 64, .inl w0.2.2.2.2.2.2.2.2.2.2.2.1)), (hw0_8, .inl (G.2.1, 64, .inl w0.2.2.2.2.2.2.2.2.2.2.2.2.2))] H := hP
  have hD : va_D A [(hw0_0, .inr (8, [.ref hw0_1, .ref hw0_2, .int w0.2.2.1, .int w0.2.2.2.1, .ref hw0_3, .ref hw0_4, .int (0 : Int32), .int w0.2.2.2.2.2.2.2.1, .int w0.2.2.2.2.2.2.2.2.1, .ref hw0_5, .ref hw0_6, .ref hw0_7, .int w0.2.2.2.2.2.2.2.2.2.2.2.2.1, .ref hw0_8])), (hw0_1, .inl (G.2.1, 617, .inl w0.1)), (hw0_2, .inl (G.2.1, 2468, .inl w0.2.1)), (hw0_3, .inl (G.2.1, 30, .inl w0.2.2.2.2.1)), (hw0_4, .inl (G.2.1, 4000, .inl w0.2.2.2.2.2.1)), (hw0_5, .inl (G.2.1, 120, .inl w0.2.2.2.2.2.2.2.2.2.1)), (hw0_6, .inl (G.2.1, 64, .inl w0.2.2.2.2.2.2.2.2.2.2.1)), (hw0_7, .inl (G.2.2.1, 64, .inl w0.2.2.2.2.2.2.2.2.2.2.2.1)), (hw0_8, .inl (G.2.1, 64, .inl w0.2.2.2.2.2.2.2.2.2.2.2.2.2))] := hD
  refine lv_aload_n (pc := 5) hx hb dX11_encodes_5 rfl (lv_at hl 0 rfl) ?_
  refine lv_bipush (pc := 6) (v := (73 : Int32)) hx hb dX11_encodes_6 (by decide) ?_
  obtain ⟨x1, hcx1, hf⟩ := bn_some hf
  refine g_callV (pc := 8) (ws' := [(hw0_0, .inr (8, [.ref hw0_1, .ref hw0_2, .int x1.2.2.1, .int x1.2.2.2.1, .ref hw0_3, .ref hw0_4, .int x1.2.2.2.2.2.2.1, .int x1.2.2.2.2.2.2.2.1, .int x1.2.2.2.2.2.2.2.2.1, .ref hw0_5, .ref hw0_6, .ref hw0_7, .int x1.2.2.2.2.2.2.2.2.2.2.2.2.1, .ref hw0_8])), (hw0_1, .inl (G.2.1, 617, .inl x1.1)), (hw0_2, .inl (G.2.1, 2468, .inl x1.2.1)), (hw0_3, .inl (G.2.1, 30, .inl x1.2.2.2.2.1)), (hw0_4, .inl (G.2.1, 4000, .inl x1.2.2.2.2.2.1)), (hw0_5, .inl (G.2.1, 120, .inl x1.2.2.2.2.2.2.2.2.2.1)), (hw0_6, .inl (G.2.1, 64, .inl x1.2.2.2.2.2.2.2.2.2.2.1)), (hw0_7, .inl (G.2.2.1, 64, .inl x1.2.2.2.2.2.2.2.2.2.2.2.1)), (hw0_8, .inl (G.2.1, 64, .inl x1.2.2.2.2.2.2.2.2.2.2.2.2.2))]) (rest := []) hx hb hml hown hts hK (c_X11_writes l G hw0_0 hw0_1 hw0_2 hw0_3 hw0_4 hw0_5 hw0_6 hw0_7 hw0_8 (w0.1, w0.2.1, w0.2.2.1, w0.2.2.2.1, w0.2.2.2.2.1, w0.2.2.2.2.2.1, (0 : Int32), w0.2.2.2.2.2.2.2.1, w0.2.2.2.2.2.2.2.2.1, w0.2.2.2.2.2.2.2.2.2.1, w0.2.2.2.2.2.2.2.2.2.2.1, w0.2.2.2.2.2.2.2.2.2.2.2.1, w0.2.2.2.2.2.2.2.2.2.2.2.2.1, w0.2.2.2.2.2.2.2.2.2.2.2.2.2) (73 : Int32) hcx1) wd_1087 wd_10 wd_1084 wd_1086 ws_34 hd_X11_writes ⟨rfl, rfl, Nat.le_of_ble_eq_true rfl, Nat.le_of_ble_eq_true rfl⟩ hP hD hS hA [0, 1, 2, 3, 4, 5, 6, 7, 8] rfl rfl rfl rfl 8 0 rfl rfl rfl rfl hl.1 rfl (Nat.le_of_ble_eq_true rfl) dX11_encodes_8 ⟨Nat.zero_le _, Nat.zero_le _⟩ (fun H locs hP hD hS => ?_)
  refine lv_aload_n (pc := 11) hx hb dX11_encodes_11 rfl (lv_at hl 0 rfl) ?_
  refine lv_aload_n (pc := 12) hx hb dX11_encodes_12 rfl (lv_at hl 0 rfl) ?_
  refine va_get (pc := 13) (D := G.1) (ci := 8) (v := .ref hw0_1) (C := RX11) (T := TX11) (N := 14) hx hb hts inX11 hown hK.1 hP 0 rfl rfl 0 (by decide) (hts _ wd_880) (fun _ h9 => h9) rfl dX11_encodes_13 ?_
  refine lv_sipush (pc := 16) (v := (130 : Int32)) hx hb dX11_encodes_16 (by decide) ?_
  obtain ⟨hg, hf⟩ := gd_some hf
  refine va_iald (pc := 19) hx hb hK.1 hP 1 0 rfl rfl hg dX11_encodes_19 ?_
  obtain ⟨x2, hcx2, hf⟩ := bn_some hf
  refine g_callV (pc := 20) (ws' := [(hw0_0, .inr (8, [.ref hw0_1, .ref hw0_2, .int x2.2.2.1, .int x2.2.2.2.1, .ref hw0_3, .ref hw0_4, .int x2.2.2.2.2.2.2.1, .int x2.2.2.2.2.2.2.2.1, .int x2.2.2.2.2.2.2.2.2.1, .ref hw0_5, .ref hw0_6, .ref hw0_7, .int x2.2.2.2.2.2.2.2.2.2.2.2.2.1, .ref hw0_8])), (hw0_1, .inl (G.2.1, 617, .inl x2.1)), (hw0_2, .inl (G.2.1, 2468, .inl x2.2.1)), (hw0_3, .inl (G.2.1, 30, .inl x2.2.2.2.2.1)), (hw0_4, .inl (G.2.1, 4000, .inl x2.2.2.2.2.2.1)), (hw0_5, .inl (G.2.1, 120, .inl x2.2.2.2.2.2.2.2.2.2.1)), (hw0_6, .inl (G.2.1, 64, .inl x2.2.2.2.2.2.2.2.2.2.2.1)), (hw0_7, .inl (G.2.2.1, 64, .inl x2.2.2.2.2.2.2.2.2.2.2.2.1)), (hw0_8, .inl (G.2.1, 64, .inl x2.2.2.2.2.2.2.2.2.2.2.2.2.2))]) (rest := []) hx hb hml hown hts hK (c_X11_writes l G hw0_0 hw0_1 hw0_2 hw0_3 hw0_4 hw0_5 hw0_6 hw0_7 hw0_8 x1 (x1.1 (130 : Int32).toNatClampNeg) hcx2) wd_1087 wd_10 wd_1084 wd_1086 ws_34 hd_X11_writes ⟨rfl, rfl, Nat.le_of_ble_eq_true rfl, Nat.le_of_ble_eq_true rfl⟩ hP hD hS hA [0, 1, 2, 3, 4, 5, 6, 7, 8] rfl rfl rfl rfl 8 0 rfl rfl rfl rfl hl.1 rfl (Nat.le_of_ble_eq_true rfl) dX11_encodes_20 ⟨Nat.zero_le _, Nat.zero_le _⟩ (fun H locs hP hD hS => ?_)
  refine lv_aload_n (pc := 23) hx hb dX11_encodes_23 rfl (lv_at hl 0 rfl) ?_
  refine lv_aload_n (pc := 24) hx hb dX11_encodes_24 rfl (lv_at hl 0 rfl) ?_
  refine va_get (pc := 25) (D := G.1) (ci := 8) (v := .ref hw0_1) (C := RX11) (T := TX11) (N := 14) hx hb hts inX11 hown hK.1 hP 0 rfl rfl 0 (by decide) (hts _ wd_880) (fun _ h9 => h9) rfl dX11_encodes_25 ?_
  refine lv_sipush (pc := 28) (v := (131 : Int32)) hx hb dX11_encodes_28 (by decide) ?_
  obtain ⟨hg, hf⟩ := gd_some hf
  refine va_iald (pc := 31) hx hb hK.1 hP 1 0 rfl rfl hg dX11_encodes_31 ?_
  obtain ⟨x3, hcx3, hf⟩ := bn_some hf
  refine g_callV (pc := 32) (ws' := [(hw0_0, .inr (8, [.ref hw0_1, .ref hw0_2, .int x3.2.2.1, .int x3.2.2.2.1, .ref hw0_3, .ref hw0_4, .int x3.2.2.2.2.2.2.1, .int x3.2.2.2.2.2.2.2.1, .int x3.2.2.2.2.2.2.2.2.1, .ref hw0_5, .ref hw0_6, .ref hw0_7, .int x3.2.2.2.2.2.2.2.2.2.2.2.2.1, .ref hw0_8])), (hw0_1, .inl (G.2.1, 617, .inl x3.1)), (hw0_2, .inl (G.2.1, 2468, .inl x3.2.1)), (hw0_3, .inl (G.2.1, 30, .inl x3.2.2.2.2.1)), (hw0_4, .inl (G.2.1, 4000, .inl x3.2.2.2.2.2.1)), (hw0_5, .inl (G.2.1, 120, .inl x3.2.2.2.2.2.2.2.2.2.1)), (hw0_6, .inl (G.2.1, 64, .inl x3.2.2.2.2.2.2.2.2.2.2.1)), (hw0_7, .inl (G.2.2.1, 64, .inl x3.2.2.2.2.2.2.2.2.2.2.2.1)), (hw0_8, .inl (G.2.1, 64, .inl x3.2.2.2.2.2.2.2.2.2.2.2.2.2))]) (rest := []) hx hb hml hown hts hK (c_X11_writes l G hw0_0 hw0_1 hw0_2 hw0_3 hw0_4 hw0_5 hw0_6 hw0_7 hw0_8 x2 (x2.1 (131 : Int32).toNatClampNeg) hcx3) wd_1087 wd_10 wd_1084 wd_1086 ws_34 hd_X11_writes ⟨rfl, rfl, Nat.le_of_ble_eq_true rfl, Nat.le_of_ble_eq_true rfl⟩ hP hD hS hA [0, 1, 2, 3, 4, 5, 6, 7, 8] rfl rfl rfl rfl 8 0 rfl rfl rfl rfl hl.1 rfl (Nat.le_of_ble_eq_true rfl) dX11_encodes_32 ⟨Nat.zero_le _, Nat.zero_le _⟩ (fun H locs hP hD hS => ?_)
  refine lv_aload_n (pc := 35) hx hb dX11_encodes_35 rfl (lv_at hl 0 rfl) ?_
  refine lv_aload_n (pc := 36) hx hb dX11_encodes_36 rfl (lv_at hl 0 rfl) ?_
  refine va_get (pc := 37) (D := G.1) (ci := 8) (v := .ref hw0_1) (C := RX11) (T := TX11) (N := 14) hx hb hts inX11 hown hK.1 hP 0 rfl rfl 0 (by decide) (hts _ wd_880) (fun _ h9 => h9) rfl dX11_encodes_37 ?_
  refine lv_sipush (pc := 40) (v := (132 : Int32)) hx hb dX11_encodes_40 (by decide) ?_
  obtain ⟨hg, hf⟩ := gd_some hf
  refine va_iald (pc := 43) hx hb hK.1 hP 1 0 rfl rfl hg dX11_encodes_43 ?_
  obtain ⟨x4, hcx4, hf⟩ := bn_some hf
  refine g_callV (pc := 44) (ws' := [(hw0_0, .inr (8, [.ref hw0_1, .ref hw0_2, .int x4.2.2.1, .int x4.2.2.2.1, .ref hw0_3, .ref hw0_4, .int x4.2.2.2.2.2.2.1, .int x4.2.2.2.2.2.2.2.1, .int x4.2.2.2.2.2.2.2.2.1, .ref hw0_5, .ref hw0_6, .ref hw0_7, .int x4.2.2.2.2.2.2.2.2.2.2.2.2.1, .ref hw0_8])), (hw0_1, .inl (G.2.1, 617, .inl x4.1)), (hw0_2, .inl (G.2.1, 2468, .inl x4.2.1)), (hw0_3, .inl (G.2.1, 30, .inl x4.2.2.2.2.1)), (hw0_4, .inl (G.2.1, 4000, .inl x4.2.2.2.2.2.1)), (hw0_5, .inl (G.2.1, 120, .inl x4.2.2.2.2.2.2.2.2.2.1)), (hw0_6, .inl (G.2.1, 64, .inl x4.2.2.2.2.2.2.2.2.2.2.1)), (hw0_7, .inl (G.2.2.1, 64, .inl x4.2.2.2.2.2.2.2.2.2.2.2.1)), (hw0_8, .inl (G.2.1, 64, .inl x4.2.2.2.2.2.2.2.2.2.2.2.2.2))]) (rest := []) hx hb hml hown hts hK (c_X11_writes l G hw0_0 hw0_1 hw0_2 hw0_3 hw0_4 hw0_5 hw0_6 hw0_7 hw0_8 x3 (x3.1 (132 : Int32).toNatClampNeg) hcx4) wd_1087 wd_10 wd_1084 wd_1086 ws_34 hd_X11_writes ⟨rfl, rfl, Nat.le_of_ble_eq_true rfl, Nat.le_of_ble_eq_true rfl⟩ hP hD hS hA [0, 1, 2, 3, 4, 5, 6, 7, 8] rfl rfl rfl rfl 8 0 rfl rfl rfl rfl hl.1 rfl (Nat.le_of_ble_eq_true rfl) dX11_encodes_44 ⟨Nat.zero_le _, Nat.zero_le _⟩ (fun H locs hP hD hS => ?_)
  refine lv_iconst (pc := 47) (v := (0 : Int32)) hx hb dX11_encodes_47 (by decide) ?_
  refine lv_istore_n (pc := 48) (lv' := [(1, .int (0 : Int32)), (0, .ref hw0_0)]) hx hb dX11_encodes_48 rfl hl (by decide) rfl (fun ls hl => ?_)
  exact hL49 FUEL x4 (0 : Int32) hf H locs hP hD hS ls (lv_sub hl [0, 1] rfl)
