theorem hd_X11_step : yX11_step.cls ≠ "java/lang/invoke/MethodHandle" ∧ yX11_step.cls ≠ "java/lang/invoke/VarHandle" ∧ (parseMethodDescriptor yX11_step.desc).map (fun d => d.parameters.length) = some 0 := by decide +kernel
abbrev rm_X11_step : Room := { frames := 3, cells := 0, slots := 0, locals := 65 }
noncomputable def f_X11_step_L149   : Nat → TModel → Int32 → Int32 → Option (Int32 × TModel)
  | 0, _, _, _ => none
  | k149 + 1, w0, v3, v1 =>
    (f_X11_of w0 v1 (3 : Int32)).bind (fun x7 => br (x7 ≤ v3) (gd (vp_in (551 : Int32) 617) (gd (vp_in (551 : Int32) 617) ((f_X11_cutsWork ((upd w0.1 (551 : Int32).toNatClampNeg ((w0.1 (551 : Int32).toNatClampNeg) - (1 : Int32))), w0.2.1, w0.2.2.1, w0.2.2.2.1, w0.2.2.2.2.1, w0.2.2.2.2.2.1, w0.2.2.2.2.2.2.1, w0.2.2.2.2.2.2.2.1, w0.2.2.2.2.2.2.2.2.1, w0.2.2.2.2.2.2.2.2.2.1, w0.2.2.2.2.2.2.2.2.2.2.1, w0.2.2.2.2.2.2.2.2.2.2.2.1, w0.2.2.2.2.2.2.2.2.2.2.2.2.1, w0.2.2.2.2.2.2.2.2.2.2.2.2.2)).bind (fun x8 => gd (vp_in (551 : Int32) 617) (some ((x8.1 (551 : Int32).toNatClampNeg), x8)))))) ((f_X11_of w0 v1 (2 : Int32)).bind (fun x9 => gd (vp_in v3 64) (gd (vp_in (((553 : Int32) + x9) + v3) 617) (f_X11_step_L149   k149 ((upd w0.1 (((553 : Int32) + x9) + v3).toNatClampNeg (w0.2.2.2.2.2.2.2.2.2.2.2.2.2 v3.toNatClampNeg)), w0.2.1, w0.2.2.1, w0.2.2.2.1, w0.2.2.2.2.1, w0.2.2.2.2.2.1, w0.2.2.2.2.2.2.1, w0.2.2.2.2.2.2.2.1, w0.2.2.2.2.2.2.2.2.1, w0.2.2.2.2.2.2.2.2.2.1, w0.2.2.2.2.2.2.2.2.2.2.1, w0.2.2.2.2.2.2.2.2.2.2.2.1, w0.2.2.2.2.2.2.2.2.2.2.2.2.1, w0.2.2.2.2.2.2.2.2.2.2.2.2.2) (v3 + (1 : Int32)) v1)))))
noncomputable def f_X11_step_J140  (rec95 : TModel → Int32 → Int32 → Int32 → Option (Int32 × TModel)) (w0 : TModel) (v3 : Int32) (v2 : Int32) (v1 : Int32) (s0 : Int32) (s1 : Int32) : Option (Int32 × TModel) :=
  gd (vp_in s1 64) (rec95 (w0.1, w0.2.1, w0.2.2.1, w0.2.2.2.1, w0.2.2.2.2.1, w0.2.2.2.2.2.1, w0.2.2.2.2.2.2.1, w0.2.2.2.2.2.2.2.1, w0.2.2.2.2.2.2.2.2.1, w0.2.2.2.2.2.2.2.2.2.1, w0.2.2.2.2.2.2.2.2.2.2.1, w0.2.2.2.2.2.2.2.2.2.2.2.1, w0.2.2.2.2.2.2.2.2.2.2.2.2.1, (upd w0.2.2.2.2.2.2.2.2.2.2.2.2.2 s1.toNatClampNeg s0)) (v3 + (1 : Int32)) v2 v1)
noncomputable def f_X11_step_L95   : Nat → TModel → Int32 → Int32 → Int32 → Option (Int32 × TModel)
  | 0, _, _, _, _ => none
  | k95 + 1, w0, v3, v2, v1 =>
    (f_X11_of w0 v1 (3 : Int32)).bind (fun x6 => br (x6 ≤ v3) (f_X11_step_L149  FUEL w0 (0 : Int32) v1) (br (v2 = 0) ((f_X11_byteFor w0 v1 v3).bind (fun x10 => f_X11_step_J140  (f_X11_step_L95   k95) w0 v3 v2 v1 x10 v3)) ((f_X11_of w0 v1 (1 : Int32)).bind (fun x11 => gd (vp_in (((553 : Int32) + x11) + v3) 617) (f_X11_step_J140  (f_X11_step_L95   k95) w0 v3 v2 v1 (w0.1 (((553 : Int32) + x11) + v3).toNatClampNeg) v3)))))
noncomputable def f_X11_step_J92   (w0 : TModel) (v1 : Int32) (s0 : Int32) : Option (Int32 × TModel) :=
  f_X11_step_L95  FUEL w0 (0 : Int32) s0 v1
noncomputable def f_X11_step_J91   (w0 : TModel) (v1 : Int32) : Option (Int32 × TModel) :=
  f_X11_step_J92  w0 v1 (0 : Int32)
noncomputable def f_X11_step_J24   (w0 : TModel) (s0 : Int32) : Option (Int32 × TModel) :=
  (f_X11_goes w0 s0 (1 : Int32)).bind (fun x2 => br (x2.1 = 0) (some ((0 : Int32), x2.2)) ((f_X11_save x2.2).bind (fun x3 => gd (vp_in (132 : Int32) 617) (gd (vp_in (551 : Int32) 617) (gd (vp_in (((318 : Int32) + (x3.1 (132 : Int32).toNatClampNeg)) - (x3.1 (551 : Int32).toNatClampNeg)) 617) (nm (x3.1 (((318 : Int32) + (x3.1 (132 : Int32).toNatClampNeg)) - (x3.1 (551 : Int32).toNatClampNeg)).toNatClampNeg) (fun x4 => (f_X11_isCopy x3 x4).bind (fun x5 => br (x5 = 0) (f_X11_step_J91  x3 x4) (gd (vp_in (348 : Int32) 617) (br ((((x3.1 (348 : Int32).toNatClampNeg) >>> (x4 &&& 31)) &&& (1 : Int32)) = 0) (f_X11_step_J92  x3 x4 (1 : Int32)) (f_X11_step_J91  x3 x4)))))))))))
noncomputable def f_X11_step_J23   (w0 : TModel) : Option (Int32 × TModel) :=
  f_X11_step_J24  w0 (0 : Int32)
noncomputable def f_X11_step (w0 : TModel) : Option (Int32 × TModel) :=
  (f_X11_works w0).bind (fun x1 => br (x1 = 0) (f_X11_step_J23  w0) (gd (vp_in (551 : Int32) 617) (br ((w0.1 (551 : Int32).toNatClampNeg) ≤ 0) (f_X11_step_J23  w0) (f_X11_step_J24  w0 (1 : Int32)))))
set_option maxHeartbeats 4000000 in
set_option maxRecDepth 100000 in
theorem c_X11_step (l : Launch) (G : GT) (hw0_0 hw0_1 hw0_2 hw0_3 hw0_4 hw0_5 hw0_6 hw0_7 hw0_8 : Nat) (w0 : TModel) {r : Int32 × TModel} (hf : f_X11_step w0 = some r) : Ct l yX11_step (Cond.code yX11_step cX11_step 4 (some .int) :: lw_g) rm_X11_step G [.ref hw0_0] [(hw0_0, .inr (8, [.ref hw0_1, .ref hw0_2, .int w0.2.2.1, .int w0.2.2.2.1, .ref hw0_3, .ref hw0_4, .int w0.2.2.2.2.2.2.1, .int w0.2.2.2.2.2.2.2.1, .int w0.2.2.2.2.2.2.2.2.1, .ref hw0_5, .ref hw0_6, .ref hw0_7, .int w0.2.2.2.2.2.2.2.2.2.2.2.2.1, .ref hw0_8])), (hw0_1, .inl (G.2.1, 617, .inl w0.1)), (hw0_2, .inl (G.2.1, 2468, .inl w0.2.1)), (hw0_3, .inl (G.2.1, 30, .inl w0.2.2.2.2.1)), (hw0_4, .inl (G.2.1, 4000, .inl w0.2.2.2.2.2.1)), (hw0_5, .inl (G.2.1, 120, .inl w0.2.2.2.2.2.2.2.2.2.1)), (hw0_6, .inl (G.2.1, 64, .inl w0.2.2.2.2.2.2.2.2.2.2.1)), (hw0_7, .inl (G.2.2.1, 64, .inl w0.2.2.2.2.2.2.2.2.2.2.2.1)), (hw0_8, .inl (G.2.1, 64, .inl w0.2.2.2.2.2.2.2.2.2.2.2.2.2))] (some (.int r.1)) [(hw0_0, .inr (8, [.ref hw0_1, .ref hw0_2, .int r.2.2.2.1, .int r.2.2.2.2.1, .ref hw0_3, .ref hw0_4, .int r.2.2.2.2.2.2.2.1, .int r.2.2.2.2.2.2.2.2.1, .int r.2.2.2.2.2.2.2.2.2.1, .ref hw0_5, .ref hw0_6, .ref hw0_7, .int r.2.2.2.2.2.2.2.2.2.2.2.2.2.1, .ref hw0_8])), (hw0_1, .inl (G.2.1, 617, .inl r.2.1)), (hw0_2, .inl (G.2.1, 2468, .inl r.2.2.1)), (hw0_3, .inl (G.2.1, 30, .inl r.2.2.2.2.2.1)), (hw0_4, .inl (G.2.1, 4000, .inl r.2.2.2.2.2.2.1)), (hw0_5, .inl (G.2.1, 120, .inl r.2.2.2.2.2.2.2.2.2.2.1)), (hw0_6, .inl (G.2.1, 64, .inl r.2.2.2.2.2.2.2.2.2.2.2.1)), (hw0_7, .inl (G.2.2.1, 64, .inl r.2.2.2.2.2.2.2.2.2.2.2.2.1)), (hw0_8, .inl (G.2.1, 64, .inl r.2.2.2.2.2.2.2.2.2.2.2.2.2.2))] := by
  refine Ct.ofW (cc := cX11_step) (maxL := 4) (ret := (some .int)) (own := RX11) (by decide) rfl rfl (Nat.le_of_ble_eq_true rfl) ?_
  intro p e s m args below meth c A hx hb hr hml hts hown hlocks hK hP hD hA hS ls hl
  have hl : lv_has ls 4 [(0, .ref hw0_0)] := hl
  generalize hQ : gMQ below G _ _ A args s = Q
  generalize hH : s.heap = H at hP ⊢
  have hS : va_S A s.heap H [] := by rw [← hH]; exact hS
  generalize ([] : List Loc) = locs at hS ⊢
  unfold f_X11_step at hf
  have hL149 : ∀ (k149 : Nat) (w0 : TModel) (v3 : Int32) (v1 : Int32), f_X11_step_L149   k149 w0 v3 v1 = some r → ∀ (H : Heap) (locs : List Loc), va_P G.1 vwCl [(hw0_0, .inr (8, [.ref hw0_1, .ref hw0_2, .int w0.2.2.1, .int w0.2.2.2.1, .ref hw0_3, .ref hw0_4, .int w0.2.2.2.2.2.2.1, .int w0.2.2.2.2.2.2.2.1, .int w0.2.2.2.2.2.2.2.2.1, .ref hw0_5, .ref hw0_6, .ref hw0_7, .int w0.2.2.2.2.2.2.2.2.2.2.2.2.1, .ref hw0_8])), (hw0_1, .inl (G.2.1, 617, .inl w0.1)), (hw0_2, .inl (G.2.1, 2468, .inl w0.2.1)), (hw0_3, .inl (G.2.1, 30, .inl w0.2.2.2.2.1)), (hw0_4, .inl (G.2.1, 4000, .inl w0.2.2.2.2.2.1)), (hw0_5, .inl (G.2.1, 120, .inl w0.2.2.2.2.2.2.2.2.2.1)), (hw0_6, .inl (G.2.1, 64, .inl w0.2.2.2.2.2.2.2.2.2.2.1)), (hw0_7, .inl (G.2.2.1, 64, .inl w0.2.2.2.2.2.2.2.2.2.2.2.1)), (hw0_8, .inl (G.2.1, 64, .inl w0.2.2.2.2.2.2.2.2.2.2.2.2.2))] H → va_D A [(hw0_0, .inr (8, [.ref hw0_1, .ref hw0_2, .int w0.2.2.1, .int w0.2.2.2.1, .ref hw0_3, .ref hw0_4, .int w0.2.2.2.2.2.2.1, .int w0.2.2.2.2.2.2.2.1, .int w0.2.2.2.2.2.2.2.2.1, .ref hw0_5, .ref hw0_6, .ref hw0_7, .int w0.2.2.2.2.2.2.2.2.2.2.2.2.1, .ref hw0_8])), (hw0_1, .inl (G.2.1, 617, .inl w0.1)), (hw0_2, .inl (G.2.1, 2468, .inl w0.2.1)), (hw0_3, .inl (G.2.1, 30, .inl w0.2.2.2.2.1)), (hw0_4, .inl (G.2.1, 4000, .inl w0.2.2.2.2.2.1)), (hw0_5, .inl (G.2.1, 120, .inl w0.2.2.2.2.2.2.2.2.2.1)), (hw0_6, .inl (G.2.1, 64, .inl w0.2.2.2.2.2.2.2.2.2.2.1)), (hw0_7, .inl (G.2.2.1, 64, .inl w0.2.2.2.2.2.2.2.2.2.2.2.1)), (hw0_8, .inl (G.2.1, 64, .inl w0.2.2.2.2.2.2.2.2.2.2.2.2.2))] → va_S A s.heap H locs → ∀ (ls : Array Slot), lv_has ls 4 [(3, .int v3), (1, .int v1), (0, .ref hw0_0)] → W p l e (rm_X11_step) s m args below meth c H locs 0 0 Q (F0 m 149 ls []) := by
    intro k149
    induction k149 with
    | zero =>
      intro w0 v3 v1 hf
      rw [f_X11_step_L149.eq_1] at hf; cases hf
    | succ k149 ih149 =>
      intro w0 v3 v1 hf H locs hP hD hS ls hl
      rw [f_X11_step_L149.eq_2] at hf
      refine lv_iload_n (pc := 149) hx hb dX11_step_149 rfl (lv_at hl 0 rfl) ?_
      refine lv_aload_n (pc := 150) hx hb dX11_step_150 rfl (lv_at hl 2 rfl) ?_
      refine lv_iload_n (pc := 151) hx hb dX11_step_151 rfl (lv_at hl 1 rfl) ?_
      refine lv_iconst (pc := 152) (v := (3 : Int32)) hx hb dX11_step_152 (by decide) ?_
      obtain ⟨x7, hcx7, hf⟩ := bn_some hf
      refine g_callV0 (pc := 153) (rest := [.int v3]) hx hb hml hown hts hK (c_X11_of l G hw0_0 hw0_1 hw0_2 hw0_3 hw0_4 hw0_5 hw0_6 hw0_7 hw0_8 w0 v1 (3 : Int32) hcx7) wd_1010 wd_10 wd_1007 wd_1009 ws_22 hd_X11_of ⟨rfl, rfl, Nat.le_of_ble_eq_true rfl, Nat.le_of_ble_eq_true rfl⟩ hP hD hS hA [0, 1, 2, 3, 4, 5, 6, 7, 8] rfl rfl 8 0 rfl rfl rfl rfl hl.1 rfl (Nat.le_of_ble_eq_true rfl) dX11_step_153 ⟨Nat.zero_le _, Nat.zero_le _⟩ (fun H locs hP hS => ?_)
      refine lv_icmp_ge (pc := 156) (tgt := 188) hx hb dX11_step_156 (by decide) (fun hc => ?_) (fun hc => ?_)
      · have hf := br_y hc hf
        refine lv_aload_n (pc := 188) hx hb dX11_step_188 rfl (lv_at hl 2 rfl) ?_
        refine va_get (pc := 189) (D := G.1) (ci := 8) (v := .ref hw0_1) (C := RX11) (T := TX11) (N := 14) hx hb hts inX11 hown hK.1 hP 0 rfl rfl 0 (by decide) (hts _ wd_880) (fun _ h9 => h9) rfl dX11_step_189 ?_
        refine lv_sipush (pc := 192) (v := (551 : Int32)) hx hb dX11_step_192 (by decide) ?_
        refine lv_dup2_11 (pc := 195) hx hb dX11_step_195 rfl rfl ?_
        obtain ⟨hg, hf⟩ := gd_some hf
        refine va_iald (pc := 196) hx hb hK.1 hP 1 0 rfl rfl hg dX11_step_196 ?_
        refine lv_iconst (pc := 197) (v := (1 : Int32)) hx hb dX11_step_197 (by decide) ?_
        refine lv_isub (pc := 198) hx hb dX11_step_198 ?_
        obtain ⟨hg, hf⟩ := gd_some hf
        refine va_iast (pc := 199) hx hb hK.1 hP hD hS 1 0 rfl rfl hg dX11_step_199 (fun H locs hP hD hS => ?_)
        have hP : va_P G.1 vwCl [(hw0_0, .inr (8, [.ref hw0_1, .ref hw0_2, .int w0.2.2.1, .int w0.2.2.2.1, .ref hw0_3, .ref hw0_4, .int w0.2.2.2.2.2.2.1, .int w0.2.2.2.2.2.2.2.1, .int w0.2.2.2.2.2.2.2.2.1, .ref hw0_5, .ref hw0_6, .ref hw0_7, .int w0.2.2.2.2.2.2.2.2.2.2.2.2.1, .ref hw0_8])), (hw0_1, .inl (G.2.1, 617, .inl (upd w0.1 (551 : Int32).toNatClampNeg ((w0.1 (551 : Int32).toNatClampNeg) - (1 : Int32))))), (hw0_2, .inl (G.2.1, 2468, .inl w0.2.1)), (hw0_3, .inl (G.2.1, 30, .inl w0.2.2.2.2.1)), (hw0_4, .inl (G.2.1, 4000, .inl w0.2.2.2.2.2.1)), (hw0_5, .inl (G.2.1, 120, .inl w0.2.2.2.2.2.2.2.2.2.1)), (hw0_6, .inl (G.2.1, 64, .inl w0.2.2.2.2.2.2.2.2.2.2.1)), (hw0_7, .inl (G.2.2.1, 64, .inl w0.2.2.2.2.2.2.2.2.2.2.2.1)), (hw0_8, .inl (G.2.1, 64, .inl w0.2.2.2.2.2.2.2.2.2.2.2.2.2))] H := hP
        have hD : va_D A [(hw0_0, .inr (8, [.ref hw0_1, .ref hw0_2, .int w0.2.2.1, .int w0.2.2.2.1, .ref hw0_3, .ref hw0_4, .int w0.2.2.2.2.2.2.1, .int w0.2.2.2.2.2.2.2.1, .int w0.2.2.2.2.2.2.2.2.1, .ref hw0_5, .ref hw0_6, .ref hw0_7, .int w0.2.2.2.2.2.2.2.2.2.2.2.2.1, .ref hw0_8])), (hw0_1, .inl (G.2.1, 617, .inl (upd w0.1 (551 : Int32).toNatClampNeg ((w0.1 (551 : Int32).toNatClampNeg) - (1 : Int32))))), (hw0_2, .inl (G.2.1, 2468, .inl w0.2.1)), (hw0_3, .inl (G.2.1, 30, .inl w0.2.2.2.2.1)), (hw0_4, .inl (G.2.1, 4000, .inl w0.2.2.2.2.2.1)), (hw0_5, .inl (G.2.1, 120, .inl w0.2.2.2.2.2.2.2.2.2.1)), (hw0_6, .inl (G.2.1, 64, .inl w0.2.2.2.2.2.2.2.2.2.2.1)), (hw0_7, .inl (G.2.2.1, 64, .inl w0.2.2.2.2.2.2.2.2.2.2.2.1)), (hw0_8, .inl (G.2.1, 64, .inl w0.2.2.2.2.2.2.2.2.2.2.2.2.2))] := hD
        refine lv_aload_n (pc := 200) hx hb dX11_step_200 rfl (lv_at hl 2 rfl) ?_
        obtain ⟨x8, hcx8, hf⟩ := bn_some hf
        refine g_callV (pc := 201) (ws' := [(hw0_0, .inr (8, [.ref hw0_1, .ref hw0_2, .int x8.2.2.1, .int x8.2.2.2.1, .ref hw0_3, .ref hw0_4, .int x8.2.2.2.2.2.2.1, .int x8.2.2.2.2.2.2.2.1, .int x8.2.2.2.2.2.2.2.2.1, .ref hw0_5, .ref hw0_6, .ref hw0_7, .int x8.2.2.2.2.2.2.2.2.2.2.2.2.1, .ref hw0_8])), (hw0_1, .inl (G.2.1, 617, .inl x8.1)), (hw0_2, .inl (G.2.1, 2468, .inl x8.2.1)), (hw0_3, .inl (G.2.1, 30, .inl x8.2.2.2.2.1)), (hw0_4, .inl (G.2.1, 4000, .inl x8.2.2.2.2.2.1)), (hw0_5, .inl (G.2.1, 120, .inl x8.2.2.2.2.2.2.2.2.2.1)), (hw0_6, .inl (G.2.1, 64, .inl x8.2.2.2.2.2.2.2.2.2.2.1)), (hw0_7, .inl (G.2.2.1, 64, .inl x8.2.2.2.2.2.2.2.2.2.2.2.1)), (hw0_8, .inl (G.2.1, 64, .inl x8.2.2.2.2.2.2.2.2.2.2.2.2.2))]) (rest := []) hx hb hml hown hts hK (c_X11_cutsWork l G hw0_0 hw0_1 hw0_2 hw0_3 hw0_4 hw0_5 hw0_6 hw0_7 hw0_8 ((upd w0.1 (551 : Int32).toNatClampNeg ((w0.1 (551 : Int32).toNatClampNeg) - (1 : Int32))), w0.2.1, w0.2.2.1, w0.2.2.2.1, w0.2.2.2.2.1, w0.2.2.2.2.2.1, w0.2.2.2.2.2.2.1, w0.2.2.2.2.2.2.2.1, w0.2.2.2.2.2.2.2.2.1, w0.2.2.2.2.2.2.2.2.2.1, w0.2.2.2.2.2.2.2.2.2.2.1, w0.2.2.2.2.2.2.2.2.2.2.2.1, w0.2.2.2.2.2.2.2.2.2.2.2.2.1, w0.2.2.2.2.2.2.2.2.2.2.2.2.2) hcx8) wd_1131 wd_10 wd_1128 wd_1130 ws_40 hd_X11_cutsWork ⟨rfl, rfl, Nat.le_of_ble_eq_true rfl, Nat.le_of_ble_eq_true rfl⟩ hP hD hS hA [0, 1, 2, 3, 4, 5, 6, 7, 8] rfl rfl rfl rfl 8 0 rfl rfl rfl rfl hl.1 rfl (Nat.le_of_ble_eq_true rfl) dX11_step_201 ⟨Nat.zero_le _, Nat.zero_le _⟩ (fun H locs hP hD hS => ?_)
        refine lv_aload_n (pc := 204) hx hb dX11_step_204 rfl (lv_at hl 2 rfl) ?_
        refine va_get (pc := 205) (D := G.1) (ci := 8) (v := .ref hw0_1) (C := RX11) (T := TX11) (N := 14) hx hb hts inX11 hown hK.1 hP 0 rfl rfl 0 (by decide) (hts _ wd_880) (fun _ h9 => h9) rfl dX11_step_205 ?_
        refine lv_sipush (pc := 208) (v := (551 : Int32)) hx hb dX11_step_208 (by decide) ?_
        obtain ⟨hg, hf⟩ := gd_some hf
        refine va_iald (pc := 211) hx hb hK.1 hP 1 0 rfl rfl hg dX11_step_211 ?_
        have hf := Option.some.inj hf; subst hf
        rw [← hQ]
        exact g_iret hx hb hr hlocks hP hS dX11_step_212
      · have hf := br_n hc hf
        refine lv_aload_n (pc := 159) hx hb dX11_step_159 rfl (lv_at hl 2 rfl) ?_
        refine va_get (pc := 160) (D := G.1) (ci := 8) (v := .ref hw0_1) (C := RX11) (T := TX11) (N := 14) hx hb hts inX11 hown hK.1 hP 0 rfl rfl 0 (by decide) (hts _ wd_880) (fun _ h9 => h9) rfl dX11_step_160 ?_
        refine lv_sipush (pc := 163) (v := (553 : Int32)) hx hb dX11_step_163 (by decide) ?_
        refine lv_aload_n (pc := 166) hx hb dX11_step_166 rfl (lv_at hl 2 rfl) ?_
        refine lv_iload_n (pc := 167) hx hb dX11_step_167 rfl (lv_at hl 1 rfl) ?_
        refine lv_iconst (pc := 168) (v := (2 : Int32)) hx hb dX11_step_168 (by decide) ?_
        obtain ⟨x9, hcx9, hf⟩ := bn_some hf
        refine g_callV0 (pc := 169) (rest := [.int (553 : Int32), .ref hw0_1]) hx hb hml hown hts hK (c_X11_of l G hw0_0 hw0_1 hw0_2 hw0_3 hw0_4 hw0_5 hw0_6 hw0_7 hw0_8 w0 v1 (2 : Int32) hcx9) wd_1010 wd_10 wd_1007 wd_1009 ws_22 hd_X11_of ⟨rfl, rfl, Nat.le_of_ble_eq_true rfl, Nat.le_of_ble_eq_true rfl⟩ hP hD hS hA [0, 1, 2, 3, 4, 5, 6, 7, 8] rfl rfl 8 0 rfl rfl rfl rfl hl.1 rfl (Nat.le_of_ble_eq_true rfl) dX11_step_169 ⟨Nat.zero_le _, Nat.zero_le _⟩ (fun H locs hP hS => ?_)
        refine lv_iadd (pc := 172) hx hb dX11_step_172 ?_
        refine lv_iload_n (pc := 173) hx hb dX11_step_173 rfl (lv_at hl 0 rfl) ?_
        refine lv_iadd (pc := 174) hx hb dX11_step_174 ?_
        refine lv_aload_n (pc := 175) hx hb dX11_step_175 rfl (lv_at hl 2 rfl) ?_
        refine va_get (pc := 176) (D := G.1) (ci := 8) (v := .ref hw0_8) (C := RX11) (T := TX11) (N := 14) hx hb hts inX11 hown hK.1 hP 0 rfl rfl 13 (by decide) (hts _ wd_893) (fun _ h9 => h9) rfl dX11_step_176 ?_
        refine lv_iload_n (pc := 179) hx hb dX11_step_179 rfl (lv_at hl 0 rfl) ?_
        obtain ⟨hg, hf⟩ := gd_some hf
        refine va_iald (pc := 180) hx hb hK.1 hP 8 0 rfl rfl hg dX11_step_180 ?_
        obtain ⟨hg, hf⟩ := gd_some hf
        refine va_iast (pc := 181) hx hb hK.1 hP hD hS 1 0 rfl rfl hg dX11_step_181 (fun H locs hP hD hS => ?_)
        have hP : va_P G.1 vwCl [(hw0_0, .inr (8, [.ref hw0_1, .ref hw0_2, .int w0.2.2.1, .int w0.2.2.2.1, .ref hw0_3, .ref hw0_4, .int w0.2.2.2.2.2.2.1, .int w0.2.2.2.2.2.2.2.1, .int w0.2.2.2.2.2.2.2.2.1, .ref hw0_5, .ref hw0_6, .ref hw0_7, .int w0.2.2.2.2.2.2.2.2.2.2.2.2.1, .ref hw0_8])), (hw0_1, .inl (G.2.1, 617, .inl (upd w0.1 (((553 : Int32) + x9) + v3).toNatClampNeg (w0.2.2.2.2.2.2.2.2.2.2.2.2.2 v3.toNatClampNeg)))), (hw0_2, .inl (G.2.1, 2468, .inl w0.2.1)), (hw0_3, .inl (G.2.1, 30, .inl w0.2.2.2.2.1)), (hw0_4, .inl (G.2.1, 4000, .inl w0.2.2.2.2.2.1)), (hw0_5, .inl (G.2.1, 120, .inl w0.2.2.2.2.2.2.2.2.2.1)), (hw0_6, .inl (G.2.1, 64, .inl w0.2.2.2.2.2.2.2.2.2.2.1)), (hw0_7, .inl (G.2.2.1, 64, .inl w0.2.2.2.2.2.2.2.2.2.2.2.1)), (hw0_8, .inl (G.2.1, 64, .inl w0.2.2.2.2.2.2.2.2.2.2.2.2.2))] H := hP
        have hD : va_D A [(hw0_0, .inr (8, [.ref hw0_1, .ref hw0_2, .int w0.2.2.1, .int w0.2.2.2.1, .ref hw0_3, .ref hw0_4, .int w0.2.2.2.2.2.2.1, .int w0.2.2.2.2.2.2.2.1, .int w0.2.2.2.2.2.2.2.2.1, .ref hw0_5, .ref hw0_6, .ref hw0_7, .int w0.2.2.2.2.2.2.2.2.2.2.2.2.1, .ref hw0_8])), (hw0_1, .inl (G.2.1, 617, .inl (upd w0.1 (((553 : Int32) + x9) + v3).toNatClampNeg (w0.2.2.2.2.2.2.2.2.2.2.2.2.2 v3.toNatClampNeg)))), (hw0_2, .inl (G.2.1, 2468, .inl w0.2.1)), (hw0_3, .inl (G.2.1, 30, .inl w0.2.2.2.2.1)), (hw0_4, .inl (G.2.1, 4000, .inl w0.2.2.2.2.2.1)), (hw0_5, .inl (G.2.1, 120, .inl w0.2.2.2.2.2.2.2.2.2.1)), (hw0_6, .inl (G.2.1, 64, .inl w0.2.2.2.2.2.2.2.2.2.2.1)), (hw0_7, .inl (G.2.2.1, 64, .inl w0.2.2.2.2.2.2.2.2.2.2.2.1)), (hw0_8, .inl (G.2.1, 64, .inl w0.2.2.2.2.2.2.2.2.2.2.2.2.2))] := hD
        refine lv_iinc (pc := 182) (v := (v3 + (1 : Int32))) (lv' := [(3, .int (v3 + (1 : Int32))), (1, .int v1), (0, .ref hw0_0)]) hx hb dX11_step_182 hl (k := 0) rfl rfl (by decide) rfl (fun ls hl => ?_)
        refine lv_goto (pc := 185) (tgt := 149) hx hb dX11_step_185 (by decide) ?_
        exact ih149 ((upd w0.1 (((553 : Int32) + x9) + v3).toNatClampNeg (w0.2.2.2.2.2.2.2.2.2.2.2.2.2 v3.toNatClampNeg)), w0.2.1, w0.2.2.1, w0.2.2.2.1, w0.2.2.2.2.1, w0.2.2.2.2.2.1, w0.2.2.2.2.2.2.1, w0.2.2.2.2.2.2.2.1, w0.2.2.2.2.2.2.2.2.1, w0.2.2.2.2.2.2.2.2.2.1, w0.2.2.2.2.2.2.2.2.2.2.1, w0.2.2.2.2.2.2.2.2.2.2.2.1, w0.2.2.2.2.2.2.2.2.2.2.2.2.1, w0.2.2.2.2.2.2.2.2.2.2.2.2.2) (v3 + (1 : Int32)) v1 hf H locs hP hD hS ls (lv_sub hl [0, 1, 2] rfl)
  have hL95 : ∀ (k95 : Nat) (w0 : TModel) (v3 : Int32) (v2 : Int32) (v1 : Int32), f_X11_step_L95   k95 w0 v3 v2 v1 = some r → ∀ (H : Heap) (locs : List Loc), va_P G.1 vwCl [(hw0_0, .inr (8, [.ref hw0_1, .ref hw0_2, .int w0.2.2.1, .int w0.2.2.2.1, .ref hw0_3, .ref hw0_4, .int w0.2.2.2.2.2.2.1, .int w0.2.2.2.2.2.2.2.1, .int w0.2.2.2.2.2.2.2.2.1, .ref hw0_5, .ref hw0_6, .ref hw0_7, .int w0.2.2.2.2.2.2.2.2.2.2.2.2.1, .ref hw0_8])), (hw0_1, .inl (G.2.1, 617, .inl w0.1)), (hw0_2, .inl (G.2.1, 2468, .inl w0.2.1)), (hw0_3, .inl (G.2.1, 30, .inl w0.2.2.2.2.1)), (hw0_4, .inl (G.2.1, 4000, .inl w0.2.2.2.2.2.1)), (hw0_5, .inl (G.2.1, 120, .inl w0.2.2.2.2.2.2.2.2.2.1)), (hw0_6, .inl (G.2.1, 64, .inl w0.2.2.2.2.2.2.2.2.2.2.1)), (hw0_7, .inl (G.2.2.1, 64, .inl w0.2.2.2.2.2.2.2.2.2.2.2.1)), (hw0_8, .inl (G.2.1, 64, .inl w0.2.2.2.2.2.2.2.2.2.2.2.2.2))] H → va_D A [(hw0_0, .inr (8, [.ref hw0_1, .ref hw0_2, .int w0.2.2.1, .int w0.2.2.2.1, .ref hw0_3, .ref hw0_4, .int w0.2.2.2.2.2.2.1, .int w0.2.2.2.2.2.2.2.1, .int w0.2.2.2.2.2.2.2.2.1, .ref hw0_5, .ref hw0_6, .ref hw0_7, .int w0.2.2.2.2.2.2.2.2.2.2.2.2.1, .ref hw0_8])), (hw0_1, .inl (G.2.1, 617, .inl w0.1)), (hw0_2, .inl (G.2.1, 2468, .inl w0.2.1)), (hw0_3, .inl (G.2.1, 30, .inl w0.2.2.2.2.1)), (hw0_4, .inl (G.2.1, 4000, .inl w0.2.2.2.2.2.1)), (hw0_5, .inl (G.2.1, 120, .inl w0.2.2.2.2.2.2.2.2.2.1)), (hw0_6, .inl (G.2.1, 64, .inl w0.2.2.2.2.2.2.2.2.2.2.1)), (hw0_7, .inl (G.2.2.1, 64, .inl w0.2.2.2.2.2.2.2.2.2.2.2.1)), (hw0_8, .inl (G.2.1, 64, .inl w0.2.2.2.2.2.2.2.2.2.2.2.2.2))] → va_S A s.heap H locs → ∀ (ls : Array Slot), lv_has ls 4 [(3, .int v3), (2, .int v2), (1, .int v1), (0, .ref hw0_0)] → W p l e (rm_X11_step) s m args below meth c H locs 0 0 Q (F0 m 95 ls []) := by
    intro k95
    induction k95 with
    | zero =>
      intro w0 v3 v2 v1 hf
      rw [f_X11_step_L95.eq_1] at hf; cases hf
    | succ k95 ih95 =>
      have hJ140 : ∀ (w0 : TModel) (v3 : Int32) (v2 : Int32) (v1 : Int32) (s0 : Int32) (s1 : Int32), f_X11_step_J140  (f_X11_step_L95 k95) w0 v3 v2 v1 s0 s1 = some r → ∀ (H : Heap) (locs : List Loc), va_P G.1 vwCl [(hw0_0, .inr (8, [.ref hw0_1, .ref hw0_2, .int w0.2.2.1, .int w0.2.2.2.1, .ref hw0_3, .ref hw0_4, .int w0.2.2.2.2.2.2.1, .int w0.2.2.2.2.2.2.2.1, .int w0.2.2.2.2.2.2.2.2.1, .ref hw0_5, .ref hw0_6, .ref hw0_7, .int w0.2.2.2.2.2.2.2.2.2.2.2.2.1, .ref hw0_8])), (hw0_1, .inl (G.2.1, 617, .inl w0.1)), (hw0_2, .inl (G.2.1, 2468, .inl w0.2.1)), (hw0_3, .inl (G.2.1, 30, .inl w0.2.2.2.2.1)), (hw0_4, .inl (G.2.1, 4000, .inl w0.2.2.2.2.2.1)), (hw0_5, .inl (G.2.1, 120, .inl w0.2.2.2.2.2.2.2.2.2.1)), (hw0_6, .inl (G.2.1, 64, .inl w0.2.2.2.2.2.2.2.2.2.2.1)), (hw0_7, .inl (G.2.2.1, 64, .inl w0.2.2.2.2.2.2.2.2.2.2.2.1)), (hw0_8, .inl (G.2.1, 64, .inl w0.2.2.2.2.2.2.2.2.2.2.2.2.2))] H → va_D A [(hw0_0, .inr (8, [.ref hw0_1, .ref hw0_2, .int w0.2.2.1, .int w0.2.2.2.1, .ref hw0_3, .ref hw0_4, .int w0.2.2.2.2.2.2.1, .int w0.2.2.2.2.2.2.2.1, .int w0.2.2.2.2.2.2.2.2.1, .ref hw0_5, .ref hw0_6, .ref hw0_7, .int w0.2.2.2.2.2.2.2.2.2.2.2.2.1, .ref hw0_8])), (hw0_1, .inl (G.2.1, 617, .inl w0.1)), (hw0_2, .inl (G.2.1, 2468, .inl w0.2.1)), (hw0_3, .inl (G.2.1, 30, .inl w0.2.2.2.2.1)), (hw0_4, .inl (G.2.1, 4000, .inl w0.2.2.2.2.2.1)), (hw0_5, .inl (G.2.1, 120, .inl w0.2.2.2.2.2.2.2.2.2.1)), (hw0_6, .inl (G.2.1, 64, .inl w0.2.2.2.2.2.2.2.2.2.2.1)), (hw0_7, .inl (G.2.2.1, 64, .inl w0.2.2.2.2.2.2.2.2.2.2.2.1)), (hw0_8, .inl (G.2.1, 64, .inl w0.2.2.2.2.2.2.2.2.2.2.2.2.2))] → va_S A s.heap H locs → ∀ (ls : Array Slot), lv_has ls 4 [(3, .int v3), (2, .int v2), (1, .int v1), (0, .ref hw0_0)] → W p l e (rm_X11_step) s m args below meth c H locs 0 0 Q (F0 m 140 ls [.int s0, .int s1, .ref hw0_8]) := by
        intro w0 v3 v2 v1 s0 s1 hf H locs hP hD hS ls hl
        unfold f_X11_step_J140 at hf
        obtain ⟨hg, hf⟩ := gd_some hf
        refine va_iast (pc := 140) hx hb hK.1 hP hD hS 8 0 rfl rfl hg dX11_step_140 (fun H locs hP hD hS => ?_)
        have hP : va_P G.1 vwCl [(hw0_0, .inr (8, [.ref hw0_1, .ref hw0_2, .int w0.2.2.1, .int w0.2.2.2.1, .ref hw0_3, .ref hw0_4, .int w0.2.2.2.2.2.2.1, .int w0.2.2.2.2.2.2.2.1, .int w0.2.2.2.2.2.2.2.2.1, .ref hw0_5, .ref hw0_6, .ref hw0_7, .int w0.2.2.2.2.2.2.2.2.2.2.2.2.1, .ref hw0_8])), (hw0_1, .inl (G.2.1, 617, .inl w0.1)), (hw0_2, .inl (G.2.1, 2468, .inl w0.2.1)), (hw0_3, .inl (G.2.1, 30, .inl w0.2.2.2.2.1)), (hw0_4, .inl (G.2.1, 4000, .inl w0.2.2.2.2.2.1)), (hw0_5, .inl (G.2.1, 120, .inl w0.2.2.2.2.2.2.2.2.2.1)), (hw0_6, .inl (G.2.1, 64, .inl w0.2.2.2.2.2.2.2.2.2.2.1)), (hw0_7, .inl (G.2.2.1, 64, .inl w0.2.2.2.2.2.2.2.2.2.2.2.1)), (hw0_8, .inl (G.2.1, 64, .inl (upd w0.2.2.2.2.2.2.2.2.2.2.2.2.2 s1.toNatClampNeg s0)))] H := hP
        have hD : va_D A [(hw0_0, .inr (8, [.ref hw0_1, .ref hw0_2, .int w0.2.2.1, .int w0.2.2.2.1, .ref hw0_3, .ref hw0_4, .int w0.2.2.2.2.2.2.1, .int w0.2.2.2.2.2.2.2.1, .int w0.2.2.2.2.2.2.2.2.1, .ref hw0_5, .ref hw0_6, .ref hw0_7, .int w0.2.2.2.2.2.2.2.2.2.2.2.2.1, .ref hw0_8])), (hw0_1, .inl (G.2.1, 617, .inl w0.1)), (hw0_2, .inl (G.2.1, 2468, .inl w0.2.1)), (hw0_3, .inl (G.2.1, 30, .inl w0.2.2.2.2.1)), (hw0_4, .inl (G.2.1, 4000, .inl w0.2.2.2.2.2.1)), (hw0_5, .inl (G.2.1, 120, .inl w0.2.2.2.2.2.2.2.2.2.1)), (hw0_6, .inl (G.2.1, 64, .inl w0.2.2.2.2.2.2.2.2.2.2.1)), (hw0_7, .inl (G.2.2.1, 64, .inl w0.2.2.2.2.2.2.2.2.2.2.2.1)), (hw0_8, .inl (G.2.1, 64, .inl (upd w0.2.2.2.2.2.2.2.2.2.2.2.2.2 s1.toNatClampNeg s0)))] := hD
        refine lv_iinc (pc := 141) (v := (v3 + (1 : Int32))) (lv' := [(3, .int (v3 + (1 : Int32))), (2, .int v2), (1, .int v1), (0, .ref hw0_0)]) hx hb dX11_step_141 hl (k := 0) rfl rfl (by decide) rfl (fun ls hl => ?_)
        refine lv_goto (pc := 144) (tgt := 95) hx hb dX11_step_144 (by decide) ?_
        exact ih95 (w0.1, w0.2.1, w0.2.2.1, w0.2.2.2.1, w0.2.2.2.2.1, w0.2.2.2.2.2.1, w0.2.2.2.2.2.2.1, w0.2.2.2.2.2.2.2.1, w0.2.2.2.2.2.2.2.2.1, w0.2.2.2.2.2.2.2.2.2.1, w0.2.2.2.2.2.2.2.2.2.2.1, w0.2.2.2.2.2.2.2.2.2.2.2.1, w0.2.2.2.2.2.2.2.2.2.2.2.2.1, (upd w0.2.2.2.2.2.2.2.2.2.2.2.2.2 s1.toNatClampNeg s0)) (v3 + (1 : Int32)) v2 v1 hf H locs hP hD hS ls (lv_sub hl [0, 1, 2, 3] rfl)
      intro w0 v3 v2 v1 hf H locs hP hD hS ls hl
      rw [f_X11_step_L95.eq_2] at hf
      refine lv_iload_n (pc := 95) hx hb dX11_step_95 rfl (lv_at hl 0 rfl) ?_
      refine lv_aload_n (pc := 96) hx hb dX11_step_96 rfl (lv_at hl 3 rfl) ?_
      refine lv_iload_n (pc := 97) hx hb dX11_step_97 rfl (lv_at hl 2 rfl) ?_
      refine lv_iconst (pc := 98) (v := (3 : Int32)) hx hb dX11_step_98 (by decide) ?_
      obtain ⟨x6, hcx6, hf⟩ := bn_some hf
      refine g_callV0 (pc := 99) (rest := [.int v3]) hx hb hml hown hts hK (c_X11_of l G hw0_0 hw0_1 hw0_2 hw0_3 hw0_4 hw0_5 hw0_6 hw0_7 hw0_8 w0 v1 (3 : Int32) hcx6) wd_1010 wd_10 wd_1007 wd_1009 ws_22 hd_X11_of ⟨rfl, rfl, Nat.le_of_ble_eq_true rfl, Nat.le_of_ble_eq_true rfl⟩ hP hD hS hA [0, 1, 2, 3, 4, 5, 6, 7, 8] rfl rfl 8 0 rfl rfl rfl rfl hl.1 rfl (Nat.le_of_ble_eq_true rfl) dX11_step_99 ⟨Nat.zero_le _, Nat.zero_le _⟩ (fun H locs hP hS => ?_)
      refine lv_icmp_ge (pc := 102) (tgt := 147) hx hb dX11_step_102 (by decide) (fun hc => ?_) (fun hc => ?_)
      · have hf := br_y hc hf
        refine lv_iconst (pc := 147) (v := (0 : Int32)) hx hb dX11_step_147 (by decide) ?_
        refine lv_istore_n (pc := 148) (lv' := [(3, .int (0 : Int32)), (2, .int v2), (1, .int v1), (0, .ref hw0_0)]) hx hb dX11_step_148 rfl hl (by decide) rfl (fun ls hl => ?_)
        exact hL149 FUEL w0 (0 : Int32) v1 hf H locs hP hD hS ls (lv_sub hl [0, 2, 3] rfl)
      · have hf := br_n hc hf
        refine lv_aload_n (pc := 105) hx hb dX11_step_105 rfl (lv_at hl 3 rfl) ?_
        refine va_get (pc := 106) (D := G.1) (ci := 8) (v := .ref hw0_8) (C := RX11) (T := TX11) (N := 14) hx hb hts inX11 hown hK.1 hP 0 rfl rfl 13 (by decide) (hts _ wd_893) (fun _ h9 => h9) rfl dX11_step_106 ?_
        refine lv_iload_n (pc := 109) hx hb dX11_step_109 rfl (lv_at hl 0 rfl) ?_
        refine lv_iload_n (pc := 110) hx hb dX11_step_110 rfl (lv_at hl 1 rfl) ?_
        refine lv_if_eq (pc := 111) (tgt := 134) hx hb dX11_step_111 (by decide) (fun hc => ?_) (fun hc => ?_)
        · have hf := br_y hc hf
          refine lv_aload_n (pc := 134) hx hb dX11_step_134 rfl (lv_at hl 3 rfl) ?_
          refine lv_iload_n (pc := 135) hx hb dX11_step_135 rfl (lv_at hl 2 rfl) ?_
          refine lv_iload_n (pc := 136) hx hb dX11_step_136 rfl (lv_at hl 0 rfl) ?_
          obtain ⟨x10, hcx10, hf⟩ := bn_some hf
          refine g_callV0 (pc := 137) (rest := [.int v3, .ref hw0_8]) hx hb hml hown hts hK (c_X11_byteFor l G hw0_0 hw0_1 hw0_2 hw0_3 hw0_4 hw0_5 hw0_6 hw0_7 hw0_8 w0 v1 v3 hcx10) wd_1091 wd_10 wd_1088 wd_1090 ws_35 hd_X11_byteFor ⟨rfl, rfl, Nat.le_of_ble_eq_true rfl, Nat.le_of_ble_eq_true rfl⟩ hP hD hS hA [0, 1, 2, 3, 4, 5, 6, 7, 8] rfl rfl 8 0 rfl rfl rfl rfl hl.1 rfl (Nat.le_of_ble_eq_true rfl) dX11_step_137 ⟨Nat.zero_le _, Nat.zero_le _⟩ (fun H locs hP hS => ?_)
          exact hJ140 w0 v3 v2 v1 x10 v3 hf H locs hP hD hS ls (lv_sub hl [0, 1, 2, 3] rfl)
        · have hf := br_n hc hf
          refine lv_aload_n (pc := 114) hx hb dX11_step_114 rfl (lv_at hl 3 rfl) ?_
          refine va_get (pc := 115) (D := G.1) (ci := 8) (v := .ref hw0_1) (C := RX11) (T := TX11) (N := 14) hx hb hts inX11 hown hK.1 hP 0 rfl rfl 0 (by decide) (hts _ wd_880) (fun _ h9 => h9) rfl dX11_step_115 ?_
          refine lv_sipush (pc := 118) (v := (553 : Int32)) hx hb dX11_step_118 (by decide) ?_
          refine lv_aload_n (pc := 121) hx hb dX11_step_121 rfl (lv_at hl 3 rfl) ?_
          refine lv_iload_n (pc := 122) hx hb dX11_step_122 rfl (lv_at hl 2 rfl) ?_
          refine lv_iconst (pc := 123) (v := (1 : Int32)) hx hb dX11_step_123 (by decide) ?_
          obtain ⟨x11, hcx11, hf⟩ := bn_some hf
          refine g_callV0 (pc := 124) (rest := [.int (553 : Int32), .ref hw0_1, .int v3, .ref hw0_8]) hx hb hml hown hts hK (c_X11_of l G hw0_0 hw0_1 hw0_2 hw0_3 hw0_4 hw0_5 hw0_6 hw0_7 hw0_8 w0 v1 (1 : Int32) hcx11) wd_1010 wd_10 wd_1007 wd_1009 ws_22 hd_X11_of ⟨rfl, rfl, Nat.le_of_ble_eq_true rfl, Nat.le_of_ble_eq_true rfl⟩ hP hD hS hA [0, 1, 2, 3, 4, 5, 6, 7, 8] rfl rfl 8 0 rfl rfl rfl rfl hl.1 rfl (Nat.le_of_ble_eq_true rfl) dX11_step_124 ⟨Nat.zero_le _, Nat.zero_le _⟩ (fun H locs hP hS => ?_)
          refine lv_iadd (pc := 127) hx hb dX11_step_127 ?_
          refine lv_iload_n (pc := 128) hx hb dX11_step_128 rfl (lv_at hl 0 rfl) ?_
          refine lv_iadd (pc := 129) hx hb dX11_step_129 ?_
          obtain ⟨hg, hf⟩ := gd_some hf
          refine va_iald (pc := 130) hx hb hK.1 hP 1 0 rfl rfl hg dX11_step_130 ?_
          refine lv_goto (pc := 131) (tgt := 140) hx hb dX11_step_131 (by decide) ?_
          exact hJ140 w0 v3 v2 v1 (w0.1 (((553 : Int32) + x11) + v3).toNatClampNeg) v3 hf H locs hP hD hS ls (lv_sub hl [0, 1, 2, 3] rfl)
  have hJ92 : ∀ (w0 : TModel) (v1 : Int32) (s0 : Int32), f_X11_step_J92   w0 v1 s0 = some r → ∀ (H : Heap) (locs : List Loc), va_P G.1 vwCl [(hw0_0, .inr (8, [.ref hw0_1, .ref hw0_2, .int w0.2.2.1, .int w0.2.2.2.1, .ref hw0_3, .ref hw0_4, .int w0.2.2.2.2.2.2.1, .int w0.2.2.2.2.2.2.2.1, .int w0.2.2.2.2.2.2.2.2.1, .ref hw0_5, .ref hw0_6, .ref hw0_7, .int w0.2.2.2.2.2.2.2.2.2.2.2.2.1, .ref hw0_8])), (hw0_1, .inl (G.2.1, 617, .inl w0.1)), (hw0_2, .inl (G.2.1, 2468, .inl w0.2.1)), (hw0_3, .inl (G.2.1, 30, .inl w0.2.2.2.2.1)), (hw0_4, .inl (G.2.1, 4000, .inl w0.2.2.2.2.2.1)), (hw0_5, .inl (G.2.1, 120, .inl w0.2.2.2.2.2.2.2.2.2.1)), (hw0_6, .inl (G.2.1, 64, .inl w0.2.2.2.2.2.2.2.2.2.2.1)), (hw0_7, .inl (G.2.2.1, 64, .inl w0.2.2.2.2.2.2.2.2.2.2.2.1)), (hw0_8, .inl (G.2.1, 64, .inl w0.2.2.2.2.2.2.2.2.2.2.2.2.2))] H → va_D A [(hw0_0, .inr (8, [.ref hw0_1, .ref hw0_2, .int w0.2.2.1, .int w0.2.2.2.1, .ref hw0_3, .ref hw0_4, .int w0.2.2.2.2.2.2.1, .int w0.2.2.2.2.2.2.2.1, .int w0.2.2.2.2.2.2.2.2.1, .ref hw0_5, .ref hw0_6, .ref hw0_7, .int w0.2.2.2.2.2.2.2.2.2.2.2.2.1, .ref hw0_8])), (hw0_1, .inl (G.2.1, 617, .inl w0.1)), (hw0_2, .inl (G.2.1, 2468, .inl w0.2.1)), (hw0_3, .inl (G.2.1, 30, .inl w0.2.2.2.2.1)), (hw0_4, .inl (G.2.1, 4000, .inl w0.2.2.2.2.2.1)), (hw0_5, .inl (G.2.1, 120, .inl w0.2.2.2.2.2.2.2.2.2.1)), (hw0_6, .inl (G.2.1, 64, .inl w0.2.2.2.2.2.2.2.2.2.2.1)), (hw0_7, .inl (G.2.2.1, 64, .inl w0.2.2.2.2.2.2.2.2.2.2.2.1)), (hw0_8, .inl (G.2.1, 64, .inl w0.2.2.2.2.2.2.2.2.2.2.2.2.2))] → va_S A s.heap H locs → ∀ (ls : Array Slot), lv_has ls 4 [(1, .int v1), (0, .ref hw0_0)] → W p l e (rm_X11_step) s m args below meth c H locs 0 0 Q (F0 m 92 ls [.int s0]) := by
    intro w0 v1 s0 hf H locs hP hD hS ls hl
    unfold f_X11_step_J92 at hf
    refine lv_istore_n (pc := 92) (lv' := [(2, .int s0), (1, .int v1), (0, .ref hw0_0)]) hx hb dX11_step_92 rfl hl (by decide) rfl (fun ls hl => ?_)
    refine lv_iconst (pc := 93) (v := (0 : Int32)) hx hb dX11_step_93 (by decide) ?_
    refine lv_istore_n (pc := 94) (lv' := [(3, .int (0 : Int32)), (2, .int s0), (1, .int v1), (0, .ref hw0_0)]) hx hb dX11_step_94 rfl hl (by decide) rfl (fun ls hl => ?_)
    exact hL95 FUEL w0 (0 : Int32) s0 v1 hf H locs hP hD hS ls (lv_sub hl [0, 1, 2, 3] rfl)
  have hJ91 : ∀ (w0 : TModel) (v1 : Int32), f_X11_step_J91   w0 v1 = some r → ∀ (H : Heap) (locs : List Loc), va_P G.1 vwCl [(hw0_0, .inr (8, [.ref hw0_1, .ref hw0_2, .int w0.2.2.1, .int w0.2.2.2.1, .ref hw0_3, .ref hw0_4, .int w0.2.2.2.2.2.2.1, .int w0.2.2.2.2.2.2.2.1, .int w0.2.2.2.2.2.2.2.2.1, .ref hw0_5, .ref hw0_6, .ref hw0_7, .int w0.2.2.2.2.2.2.2.2.2.2.2.2.1, .ref hw0_8])), (hw0_1, .inl (G.2.1, 617, .inl w0.1)), (hw0_2, .inl (G.2.1, 2468, .inl w0.2.1)), (hw0_3, .inl (G.2.1, 30, .inl w0.2.2.2.2.1)), (hw0_4, .inl (G.2.1, 4000, .inl w0.2.2.2.2.2.1)), (hw0_5, .inl (G.2.1, 120, .inl w0.2.2.2.2.2.2.2.2.2.1)), (hw0_6, .inl (G.2.1, 64, .inl w0.2.2.2.2.2.2.2.2.2.2.1)), (hw0_7, .inl (G.2.2.1, 64, .inl w0.2.2.2.2.2.2.2.2.2.2.2.1)), (hw0_8, .inl (G.2.1, 64, .inl w0.2.2.2.2.2.2.2.2.2.2.2.2.2))] H → va_D A [(hw0_0, .inr (8, [.ref hw0_1, .ref hw0_2, .int w0.2.2.1, .int w0.2.2.2.1, .ref hw0_3, .ref hw0_4, .int w0.2.2.2.2.2.2.1, .int w0.2.2.2.2.2.2.2.1, .int w0.2.2.2.2.2.2.2.2.1, .ref hw0_5, .ref hw0_6, .ref hw0_7, .int w0.2.2.2.2.2.2.2.2.2.2.2.2.1, .ref hw0_8])), (hw0_1, .inl (G.2.1, 617, .inl w0.1)), (hw0_2, .inl (G.2.1, 2468, .inl w0.2.1)), (hw0_3, .inl (G.2.1, 30, .inl w0.2.2.2.2.1)), (hw0_4, .inl (G.2.1, 4000, .inl w0.2.2.2.2.2.1)), (hw0_5, .inl (G.2.1, 120, .inl w0.2.2.2.2.2.2.2.2.2.1)), (hw0_6, .inl (G.2.1, 64, .inl w0.2.2.2.2.2.2.2.2.2.2.1)), (hw0_7, .inl (G.2.2.1, 64, .inl w0.2.2.2.2.2.2.2.2.2.2.2.1)), (hw0_8, .inl (G.2.1, 64, .inl w0.2.2.2.2.2.2.2.2.2.2.2.2.2))] → va_S A s.heap H locs → ∀ (ls : Array Slot), lv_has ls 4 [(1, .int v1), (0, .ref hw0_0)] → W p l e (rm_X11_step) s m args below meth c H locs 0 0 Q (F0 m 91 ls []) := by
    intro w0 v1 hf H locs hP hD hS ls hl
    unfold f_X11_step_J91 at hf
    refine lv_iconst (pc := 91) (v := (0 : Int32)) hx hb dX11_step_91 (by decide) ?_
    exact hJ92 w0 v1 (0 : Int32) hf H locs hP hD hS ls (lv_sub hl [0, 1] rfl)
  have hJ24 : ∀ (w0 : TModel) (s0 : Int32), f_X11_step_J24   w0 s0 = some r → ∀ (H : Heap) (locs : List Loc), va_P G.1 vwCl [(hw0_0, .inr (8, [.ref hw0_1, .ref hw0_2, .int w0.2.2.1, .int w0.2.2.2.1, .ref hw0_3, .ref hw0_4, .int w0.2.2.2.2.2.2.1, .int w0.2.2.2.2.2.2.2.1, .int w0.2.2.2.2.2.2.2.2.1, .ref hw0_5, .ref hw0_6, .ref hw0_7, .int w0.2.2.2.2.2.2.2.2.2.2.2.2.1, .ref hw0_8])), (hw0_1, .inl (G.2.1, 617, .inl w0.1)), (hw0_2, .inl (G.2.1, 2468, .inl w0.2.1)), (hw0_3, .inl (G.2.1, 30, .inl w0.2.2.2.2.1)), (hw0_4, .inl (G.2.1, 4000, .inl w0.2.2.2.2.2.1)), (hw0_5, .inl (G.2.1, 120, .inl w0.2.2.2.2.2.2.2.2.2.1)), (hw0_6, .inl (G.2.1, 64, .inl w0.2.2.2.2.2.2.2.2.2.2.1)), (hw0_7, .inl (G.2.2.1, 64, .inl w0.2.2.2.2.2.2.2.2.2.2.2.1)), (hw0_8, .inl (G.2.1, 64, .inl w0.2.2.2.2.2.2.2.2.2.2.2.2.2))] H → va_D A [(hw0_0, .inr (8, [.ref hw0_1, .ref hw0_2, .int w0.2.2.1, .int w0.2.2.2.1, .ref hw0_3, .ref hw0_4, .int w0.2.2.2.2.2.2.1, .int w0.2.2.2.2.2.2.2.1, .int w0.2.2.2.2.2.2.2.2.1, .ref hw0_5, .ref hw0_6, .ref hw0_7, .int w0.2.2.2.2.2.2.2.2.2.2.2.2.1, .ref hw0_8])), (hw0_1, .inl (G.2.1, 617, .inl w0.1)), (hw0_2, .inl (G.2.1, 2468, .inl w0.2.1)), (hw0_3, .inl (G.2.1, 30, .inl w0.2.2.2.2.1)), (hw0_4, .inl (G.2.1, 4000, .inl w0.2.2.2.2.2.1)), (hw0_5, .inl (G.2.1, 120, .inl w0.2.2.2.2.2.2.2.2.2.1)), (hw0_6, .inl (G.2.1, 64, .inl w0.2.2.2.2.2.2.2.2.2.2.1)), (hw0_7, .inl (G.2.2.1, 64, .inl w0.2.2.2.2.2.2.2.2.2.2.2.1)), (hw0_8, .inl (G.2.1, 64, .inl w0.2.2.2.2.2.2.2.2.2.2.2.2.2))] → va_S A s.heap H locs → ∀ (ls : Array Slot), lv_has ls 4 [(0, .ref hw0_0)] → W p l e (rm_X11_step) s m args below meth c H locs 0 0 Q (F0 m 24 ls [.int s0, .ref hw0_0]) := by
    intro w0 s0 hf H locs hP hD hS ls hl
    unfold f_X11_step_J24 at hf
    refine lv_iconst (pc := 24) (v := (1 : Int32)) hx hb dX11_step_24 (by decide) ?_
    obtain ⟨x2, hcx2, hf⟩ := bn_some hf
    refine g_callV (pc := 25) (ws' := [(hw0_0, .inr (8, [.ref hw0_1, .ref hw0_2, .int x2.2.2.2.1, .int x2.2.2.2.2.1, .ref hw0_3, .ref hw0_4, .int x2.2.2.2.2.2.2.2.1, .int x2.2.2.2.2.2.2.2.2.1, .int x2.2.2.2.2.2.2.2.2.2.1, .ref hw0_5, .ref hw0_6, .ref hw0_7, .int x2.2.2.2.2.2.2.2.2.2.2.2.2.2.1, .ref hw0_8])), (hw0_1, .inl (G.2.1, 617, .inl x2.2.1)), (hw0_2, .inl (G.2.1, 2468, .inl x2.2.2.1)), (hw0_3, .inl (G.2.1, 30, .inl x2.2.2.2.2.2.1)), (hw0_4, .inl (G.2.1, 4000, .inl x2.2.2.2.2.2.2.1)), (hw0_5, .inl (G.2.1, 120, .inl x2.2.2.2.2.2.2.2.2.2.2.1)), (hw0_6, .inl (G.2.1, 64, .inl x2.2.2.2.2.2.2.2.2.2.2.2.1)), (hw0_7, .inl (G.2.2.1, 64, .inl x2.2.2.2.2.2.2.2.2.2.2.2.2.1)), (hw0_8, .inl (G.2.1, 64, .inl x2.2.2.2.2.2.2.2.2.2.2.2.2.2.2))]) (rest := []) hx hb hml hown hts hK (c_X11_goes l G hw0_0 hw0_1 hw0_2 hw0_3 hw0_4 hw0_5 hw0_6 hw0_7 hw0_8 w0 s0 (1 : Int32) hcx2) wd_949 wd_10 wd_946 wd_948 ws_13 hd_X11_goes ⟨rfl, rfl, Nat.le_of_ble_eq_true rfl, Nat.le_of_ble_eq_true rfl⟩ hP hD hS hA [0, 1, 2, 3, 4, 5, 6, 7, 8] rfl rfl rfl rfl 8 0 rfl rfl rfl rfl hl.1 rfl (Nat.le_of_ble_eq_true rfl) dX11_step_25 ⟨Nat.zero_le _, Nat.zero_le _⟩ (fun H locs hP hD hS => ?_)
    refine lv_if_ne (pc := 28) (tgt := 33) hx hb dX11_step_28 (by decide) (fun hc => ?_) (fun hc => ?_)
    · have hf := br_n hc hf
      refine lv_aload_n (pc := 33) hx hb dX11_step_33 rfl (lv_at hl 0 rfl) ?_
      obtain ⟨x3, hcx3, hf⟩ := bn_some hf
      refine g_callV (pc := 34) (ws' := [(hw0_0, .inr (8, [.ref hw0_1, .ref hw0_2, .int x3.2.2.1, .int x3.2.2.2.1, .ref hw0_3, .ref hw0_4, .int x3.2.2.2.2.2.2.1, .int x3.2.2.2.2.2.2.2.1, .int x3.2.2.2.2.2.2.2.2.1, .ref hw0_5, .ref hw0_6, .ref hw0_7, .int x3.2.2.2.2.2.2.2.2.2.2.2.2.1, .ref hw0_8])), (hw0_1, .inl (G.2.1, 617, .inl x3.1)), (hw0_2, .inl (G.2.1, 2468, .inl x3.2.1)), (hw0_3, .inl (G.2.1, 30, .inl x3.2.2.2.2.1)), (hw0_4, .inl (G.2.1, 4000, .inl x3.2.2.2.2.2.1)), (hw0_5, .inl (G.2.1, 120, .inl x3.2.2.2.2.2.2.2.2.2.1)), (hw0_6, .inl (G.2.1, 64, .inl x3.2.2.2.2.2.2.2.2.2.2.1)), (hw0_7, .inl (G.2.2.1, 64, .inl x3.2.2.2.2.2.2.2.2.2.2.2.1)), (hw0_8, .inl (G.2.1, 64, .inl x3.2.2.2.2.2.2.2.2.2.2.2.2.2))]) (rest := []) hx hb hml hown hts hK (c_X11_save l G hw0_0 hw0_1 hw0_2 hw0_3 hw0_4 hw0_5 hw0_6 hw0_7 hw0_8 x2.2 hcx3) wd_953 wd_10 wd_950 wd_952 ws_14 hd_X11_save ⟨rfl, rfl, Nat.le_of_ble_eq_true rfl, Nat.le_of_ble_eq_true rfl⟩ hP hD hS hA [0, 1, 2, 3, 4, 5, 6, 7, 8] rfl rfl rfl rfl 8 0 rfl rfl rfl rfl hl.1 rfl (Nat.le_of_ble_eq_true rfl) dX11_step_34 ⟨Nat.zero_le _, Nat.zero_le _⟩ (fun H locs hP hD hS => ?_)
      refine lv_aload_n (pc := 37) hx hb dX11_step_37 rfl (lv_at hl 0 rfl) ?_
      refine va_get (pc := 38) (D := G.1) (ci := 8) (v := .ref hw0_1) (C := RX11) (T := TX11) (N := 14) hx hb hts inX11 hown hK.1 hP 0 rfl rfl 0 (by decide) (hts _ wd_880) (fun _ h9 => h9) rfl dX11_step_38 ?_
      refine lv_sipush (pc := 41) (v := (318 : Int32)) hx hb dX11_step_41 (by decide) ?_
      refine lv_aload_n (pc := 44) hx hb dX11_step_44 rfl (lv_at hl 0 rfl) ?_
      refine va_get (pc := 45) (D := G.1) (ci := 8) (v := .ref hw0_1) (C := RX11) (T := TX11) (N := 14) hx hb hts inX11 hown hK.1 hP 0 rfl rfl 0 (by decide) (hts _ wd_880) (fun _ h9 => h9) rfl dX11_step_45 ?_
      refine lv_sipush (pc := 48) (v := (132 : Int32)) hx hb dX11_step_48 (by decide) ?_
      obtain ⟨hg, hf⟩ := gd_some hf
      refine va_iald (pc := 51) hx hb hK.1 hP 1 0 rfl rfl hg dX11_step_51 ?_
      refine lv_iadd (pc := 52) hx hb dX11_step_52 ?_
      refine lv_aload_n (pc := 53) hx hb dX11_step_53 rfl (lv_at hl 0 rfl) ?_
      refine va_get (pc := 54) (D := G.1) (ci := 8) (v := .ref hw0_1) (C := RX11) (T := TX11) (N := 14) hx hb hts inX11 hown hK.1 hP 0 rfl rfl 0 (by decide) (hts _ wd_880) (fun _ h9 => h9) rfl dX11_step_54 ?_
      refine lv_sipush (pc := 57) (v := (551 : Int32)) hx hb dX11_step_57 (by decide) ?_
      obtain ⟨hg, hf⟩ := gd_some hf
      refine va_iald (pc := 60) hx hb hK.1 hP 1 0 rfl rfl hg dX11_step_60 ?_
      refine lv_isub (pc := 61) hx hb dX11_step_61 ?_
      obtain ⟨hg, hf⟩ := gd_some hf
      refine va_iald (pc := 62) hx hb hK.1 hP 1 0 rfl rfl hg dX11_step_62 ?_
      refine lv_topi (fun x4 ex4 => ?_)
      have hf := nm_some hf ex4
      refine lv_istore_n (pc := 63) (lv' := [(1, .int x4), (0, .ref hw0_0)]) hx hb dX11_step_63 rfl hl (by decide) rfl (fun ls hl => ?_)
      refine lv_aload_n (pc := 64) hx hb dX11_step_64 rfl (lv_at hl 1 rfl) ?_
      refine lv_iload_n (pc := 65) hx hb dX11_step_65 rfl (lv_at hl 0 rfl) ?_
      obtain ⟨x5, hcx5, hf⟩ := bn_some hf
      refine g_callV0 (pc := 66) (rest := []) hx hb hml hown hts hK (c_X11_isCopy l G hw0_0 hw0_1 hw0_2 hw0_3 hw0_4 hw0_5 hw0_6 hw0_7 hw0_8 x3 x4 hcx5) wd_1022 wd_10 wd_1019 wd_1021 ws_24 hd_X11_isCopy ⟨rfl, rfl, Nat.le_of_ble_eq_true rfl, Nat.le_of_ble_eq_true rfl⟩ hP hD hS hA [0, 1, 2, 3, 4, 5, 6, 7, 8] rfl rfl 8 0 rfl rfl rfl rfl hl.1 rfl (Nat.le_of_ble_eq_true rfl) dX11_step_66 ⟨Nat.zero_le _, Nat.zero_le _⟩ (fun H locs hP hS => ?_)
      refine lv_if_eq (pc := 69) (tgt := 91) hx hb dX11_step_69 (by decide) (fun hc => ?_) (fun hc => ?_)
      · have hf := br_y hc hf
        exact hJ91 x3 x4 hf H locs hP hD hS ls (lv_sub hl [0, 1] rfl)
      · have hf := br_n hc hf
        refine lv_aload_n (pc := 72) hx hb dX11_step_72 rfl (lv_at hl 1 rfl) ?_
        refine va_get (pc := 73) (D := G.1) (ci := 8) (v := .ref hw0_1) (C := RX11) (T := TX11) (N := 14) hx hb hts inX11 hown hK.1 hP 0 rfl rfl 0 (by decide) (hts _ wd_880) (fun _ h9 => h9) rfl dX11_step_73 ?_
        refine lv_sipush (pc := 76) (v := (348 : Int32)) hx hb dX11_step_76 (by decide) ?_
        obtain ⟨hg, hf⟩ := gd_some hf
        refine va_iald (pc := 79) hx hb hK.1 hP 1 0 rfl rfl hg dX11_step_79 ?_
        refine lv_iload_n (pc := 80) hx hb dX11_step_80 rfl (lv_at hl 0 rfl) ?_
        refine lv_ishr (pc := 81) hx hb dX11_step_81 ?_
        refine lv_iconst (pc := 82) (v := (1 : Int32)) hx hb dX11_step_82 (by decide) ?_
        refine lv_iand (pc := 83) hx hb dX11_step_83 ?_
        refine lv_if_ne (pc := 84) (tgt := 91) hx hb dX11_step_84 (by decide) (fun hc => ?_) (fun hc => ?_)
        · have hf := br_n hc hf
          exact hJ91 x3 x4 hf H locs hP hD hS ls (lv_sub hl [0, 1] rfl)
        · have hf := br_y hc hf
          refine lv_iconst (pc := 87) (v := (1 : Int32)) hx hb dX11_step_87 (by decide) ?_
          refine lv_goto (pc := 88) (tgt := 92) hx hb dX11_step_88 (by decide) ?_
          exact hJ92 x3 x4 (1 : Int32) hf H locs hP hD hS ls (lv_sub hl [0, 1] rfl)
    · have hf := br_y hc hf
      refine lv_iconst (pc := 31) (v := (0 : Int32)) hx hb dX11_step_31 (by decide) ?_
      have hf := Option.some.inj hf; subst hf
      rw [← hQ]
      exact g_iret hx hb hr hlocks hP hS dX11_step_32
  have hJ23 : ∀ (w0 : TModel), f_X11_step_J23   w0 = some r → ∀ (H : Heap) (locs : List Loc), va_P G.1 vwCl [(hw0_0, .inr (8, [.ref hw0_1, .ref hw0_2, .int w0.2.2.1, .int w0.2.2.2.1, .ref hw0_3, .ref hw0_4, .int w0.2.2.2.2.2.2.1, .int w0.2.2.2.2.2.2.2.1, .int w0.2.2.2.2.2.2.2.2.1, .ref hw0_5, .ref hw0_6, .ref hw0_7, .int w0.2.2.2.2.2.2.2.2.2.2.2.2.1, .ref hw0_8])), (hw0_1, .inl (G.2.1, 617, .inl w0.1)), (hw0_2, .inl (G.2.1, 2468, .inl w0.2.1)), (hw0_3, .inl (G.2.1, 30, .inl w0.2.2.2.2.1)), (hw0_4, .inl (G.2.1, 4000, .inl w0.2.2.2.2.2.1)), (hw0_5, .inl (G.2.1, 120, .inl w0.2.2.2.2.2.2.2.2.2.1)), (hw0_6, .inl (G.2.1, 64, .inl w0.2.2.2.2.2.2.2.2.2.2.1)), (hw0_7, .inl (G.2.2.1, 64, .inl w0.2.2.2.2.2.2.2.2.2.2.2.1)), (hw0_8, .inl (G.2.1, 64, .inl w0.2.2.2.2.2.2.2.2.2.2.2.2.2))] H → va_D A [(hw0_0, .inr (8, [.ref hw0_1, .ref hw0_2, .int w0.2.2.1, .int w0.2.2.2.1, .ref hw0_3, .ref hw0_4, .int w0.2.2.2.2.2.2.1, .int w0.2.2.2.2.2.2.2.1, .int w0.2.2.2.2.2.2.2.2.1, .ref hw0_5, .ref hw0_6, .ref hw0_7, .int w0.2.2.2.2.2.2.2.2.2.2.2.2.1, .ref hw0_8])), (hw0_1, .inl (G.2.1, 617, .inl w0.1)), (hw0_2, .inl (G.2.1, 2468, .inl w0.2.1)), (hw0_3, .inl (G.2.1, 30, .inl w0.2.2.2.2.1)), (hw0_4, .inl (G.2.1, 4000, .inl w0.2.2.2.2.2.1)), (hw0_5, .inl (G.2.1, 120, .inl w0.2.2.2.2.2.2.2.2.2.1)), (hw0_6, .inl (G.2.1, 64, .inl w0.2.2.2.2.2.2.2.2.2.2.1)), (hw0_7, .inl (G.2.2.1, 64, .inl w0.2.2.2.2.2.2.2.2.2.2.2.1)), (hw0_8, .inl (G.2.1, 64, .inl w0.2.2.2.2.2.2.2.2.2.2.2.2.2))] → va_S A s.heap H locs → ∀ (ls : Array Slot), lv_has ls 4 [(0, .ref hw0_0)] → W p l e (rm_X11_step) s m args below meth c H locs 0 0 Q (F0 m 23 ls [.ref hw0_0]) := by
    intro w0 hf H locs hP hD hS ls hl
    unfold f_X11_step_J23 at hf
    refine lv_iconst (pc := 23) (v := (0 : Int32)) hx hb dX11_step_23 (by decide) ?_
    exact hJ24 w0 (0 : Int32) hf H locs hP hD hS ls (lv_sub hl [0] rfl)
  refine lv_aload_n (pc := 0) hx hb dX11_step_0 rfl (lv_at hl 0 rfl) ?_
  refine lv_aload_n (pc := 1) hx hb dX11_step_1 rfl (lv_at hl 0 rfl) ?_
  obtain ⟨x1, hcx1, hf⟩ := bn_some hf
  refine g_callV0 (pc := 2) (rest := [.ref hw0_0]) hx hb hml hown hts hK (c_X11_works l G hw0_0 hw0_1 hw0_2 hw0_3 hw0_4 hw0_5 hw0_6 hw0_7 hw0_8 w0 hcx1) wd_1139 wd_10 wd_1136 wd_1138 ws_41 hd_X11_works ⟨rfl, rfl, Nat.le_of_ble_eq_true rfl, Nat.le_of_ble_eq_true rfl⟩ hP hD hS hA [0, 1, 2, 3, 4, 5, 6, 7, 8] rfl rfl 8 0 rfl rfl rfl rfl hl.1 rfl (Nat.le_of_ble_eq_true rfl) dX11_step_2 ⟨Nat.zero_le _, Nat.zero_le _⟩ (fun H locs hP hS => ?_)
  refine lv_if_eq (pc := 5) (tgt := 23) hx hb dX11_step_5 (by decide) (fun hc => ?_) (fun hc => ?_)
  · have hf := br_y hc hf
    exact hJ23 w0 hf H locs hP hD hS ls (lv_sub hl [0] rfl)
  · have hf := br_n hc hf
    refine lv_aload_n (pc := 8) hx hb dX11_step_8 rfl (lv_at hl 0 rfl) ?_
    refine va_get (pc := 9) (D := G.1) (ci := 8) (v := .ref hw0_1) (C := RX11) (T := TX11) (N := 14) hx hb hts inX11 hown hK.1 hP 0 rfl rfl 0 (by decide) (hts _ wd_880) (fun _ h9 => h9) rfl dX11_step_9 ?_
    refine lv_sipush (pc := 12) (v := (551 : Int32)) hx hb dX11_step_12 (by decide) ?_
    obtain ⟨hg, hf⟩ := gd_some hf
    refine va_iald (pc := 15) hx hb hK.1 hP 1 0 rfl rfl hg dX11_step_15 ?_
    refine lv_if_le (pc := 16) (tgt := 23) hx hb dX11_step_16 (by decide) (fun hc => ?_) (fun hc => ?_)
    · have hf := br_y hc hf
      exact hJ23 w0 hf H locs hP hD hS ls (lv_sub hl [0] rfl)
    · have hf := br_n hc hf
      refine lv_iconst (pc := 19) (v := (1 : Int32)) hx hb dX11_step_19 (by decide) ?_
      refine lv_goto (pc := 20) (tgt := 24) hx hb dX11_step_20 (by decide) ?_
      exact hJ24 w0 (1 : Int32) hf H locs hP hD hS ls (lv_sub hl [0] rfl)
theorem hd_X11_workByte : yX11_workByte.cls ≠ "java/lang/invoke/MethodHandle" ∧ yX11_workByte.cls ≠ "java/lang/invoke/VarHandle" ∧ (parseMethodDescriptor yX11_workByte.desc).map (fun d => d.parameters.length) = some 1 := by decide +kernel
abbrev rm_X11_workByte : Room := { frames := 1, cells := 0, slots := 0, locals := 22 }
noncomputable def f_X11_workByte_J11 (p1 : Int32)  (w0 : TModel) (s0 : Int32) : Option (Int32 × TModel) :=
  (f_X11_works w0).bind (fun x1 => (f_X11_goes w0 s0 x1).bind (fun x2 => br (x2.1 = 0) (some ((0 : Int32), x2.2)) (br (p1 = (-1 : Int32)) (gd (vp_in (552 : Int32) 617) (some ((x2.2.1 (552 : Int32).toNatClampNeg), x2.2))) (gd (vp_in (552 : Int32) 617) (br ((x2.2.1 (552 : Int32).toNatClampNeg) ≤ p1) (some ((-1 : Int32), x2.2)) (gd (vp_in ((553 : Int32) + p1) 617) (some ((x2.2.1 ((553 : Int32) + p1).toNatClampNeg), x2.2))))))))
noncomputable def f_X11_workByte (w0 : TModel) (p1 : Int32) : Option (Int32 × TModel) :=
  br (p1 < (-1 : Int32)) (f_X11_workByte_J11 p1 w0 (0 : Int32)) (f_X11_workByte_J11 p1 w0 (1 : Int32))
set_option maxHeartbeats 4000000 in
set_option maxRecDepth 100000 in
theorem c_X11_workByte (l : Launch) (G : GT) (hw0_0 hw0_1 hw0_2 hw0_3 hw0_4 hw0_5 hw0_6 hw0_7 hw0_8 : Nat) (w0 : TModel) (p1 : Int32) {r : Int32 × TModel} (hf : f_X11_workByte w0 p1 = some r) : Ct l yX11_workByte (Cond.code yX11_workByte cX11_workByte 2 (some .int) :: lw_g) rm_X11_workByte G [.ref hw0_0, .int p1] [(hw0_0, .inr (8, [.ref hw0_1, .ref hw0_2, .int w0.2.2.1, .int w0.2.2.2.1, .ref hw0_3, .ref hw0_4, .int w0.2.2.2.2.2.2.1, .int w0.2.2.2.2.2.2.2.1, .int w0.2.2.2.2.2.2.2.2.1, .ref hw0_5, .ref hw0_6, .ref hw0_7, .int w0.2.2.2.2.2.2.2.2.2.2.2.2.1, .ref hw0_8])), (hw0_1, .inl (G.2.1, 617, .inl w0.1)), (hw0_2, .inl (G.2.1, 2468, .inl w0.2.1)), (hw0_3, .inl (G.2.1, 30, .inl w0.2.2.2.2.1)), (hw0_4, .inl (G.2.1, 4000, .inl w0.2.2.2.2.2.1)), (hw0_5, .inl (G.2.1, 120, .inl w0.2.2.2.2.2.2.2.2.2.1)), (hw0_6, .inl (G.2.1, 64, .inl w0.2.2.2.2.2.2.2.2.2.2.1)), (hw0_7, .inl (G.2.2.1, 64, .inl w0.2.2.2.2.2.2.2.2.2.2.2.1)), (hw0_8, .inl (G.2.1, 64, .inl w0.2.2.2.2.2.2.2.2.2.2.2.2.2))] (some (.int r.1)) [(hw0_0, .inr (8, [.ref hw0_1, .ref hw0_2, .int r.2.2.2.1, .int r.2.2.2.2.1, .ref hw0_3, .ref hw0_4, .int r.2.2.2.2.2.2.2.1, .int r.2.2.2.2.2.2.2.2.1, .int r.2.2.2.2.2.2.2.2.2.1, .ref hw0_5, .ref hw0_6, .ref hw0_7, .int r.2.2.2.2.2.2.2.2.2.2.2.2.2.1, .ref hw0_8])), (hw0_1, .inl (G.2.1, 617, .inl r.2.1)), (hw0_2, .inl (G.2.1, 2468, .inl r.2.2.1)), (hw0_3, .inl (G.2.1, 30, .inl r.2.2.2.2.2.1)), (hw0_4, .inl (G.2.1, 4000, .inl r.2.2.2.2.2.2.1)), (hw0_5, .inl (G.2.1, 120, .inl r.2.2.2.2.2.2.2.2.2.2.1)), (hw0_6, .inl (G.2.1, 64, .inl r.2.2.2.2.2.2.2.2.2.2.2.1)), (hw0_7, .inl (G.2.2.1, 64, .inl r.2.2.2.2.2.2.2.2.2.2.2.2.1)), (hw0_8, .inl (G.2.1, 64, .inl r.2.2.2.2.2.2.2.2.2.2.2.2.2.2))] := by
  refine Ct.ofW (cc := cX11_workByte) (maxL := 2) (ret := (some .int)) (own := RX11) (by decide) rfl rfl (Nat.le_of_ble_eq_true rfl) ?_
  intro p e s m args below meth c A hx hb hr hml hts hown hlocks hK hP hD hA hS ls hl
  have hl : lv_has ls 2 [(0, .ref hw0_0), (1, .int p1)] := hl
  generalize hQ : gMQ below G _ _ A args s = Q
  generalize hH : s.heap = H at hP ⊢
  have hS : va_S A s.heap H [] := by rw [← hH]; exact hS
  generalize ([] : List Loc) = locs at hS ⊢
  unfold f_X11_workByte at hf
  have hJ11 : ∀ (w0 : TModel) (s0 : Int32), f_X11_workByte_J11 p1  w0 s0 = some r → ∀ (H : Heap) (locs : List Loc), va_P G.1 vwCl [(hw0_0, .inr (8, [.ref hw0_1, .ref hw0_2, .int w0.2.2.1, .int w0.2.2.2.1, .ref hw0_3, .ref hw0_4, .int w0.2.2.2.2.2.2.1, .int w0.2.2.2.2.2.2.2.1, .int w0.2.2.2.2.2.2.2.2.1, .ref hw0_5, .ref hw0_6, .ref hw0_7, .int w0.2.2.2.2.2.2.2.2.2.2.2.2.1, .ref hw0_8])), (hw0_1, .inl (G.2.1, 617, .inl w0.1)), (hw0_2, .inl (G.2.1, 2468, .inl w0.2.1)), (hw0_3, .inl (G.2.1, 30, .inl w0.2.2.2.2.1)), (hw0_4, .inl (G.2.1, 4000, .inl w0.2.2.2.2.2.1)), (hw0_5, .inl (G.2.1, 120, .inl w0.2.2.2.2.2.2.2.2.2.1)), (hw0_6, .inl (G.2.1, 64, .inl w0.2.2.2.2.2.2.2.2.2.2.1)), (hw0_7, .inl (G.2.2.1, 64, .inl w0.2.2.2.2.2.2.2.2.2.2.2.1)), (hw0_8, .inl (G.2.1, 64, .inl w0.2.2.2.2.2.2.2.2.2.2.2.2.2))] H → va_D A [(hw0_0, .inr (8, [.ref hw0_1, .ref hw0_2, .int w0.2.2.1, .int w0.2.2.2.1, .ref hw0_3, .ref hw0_4, .int w0.2.2.2.2.2.2.1, .int w0.2.2.2.2.2.2.2.1, .int w0.2.2.2.2.2.2.2.2.1, .ref hw0_5, .ref hw0_6, .ref hw0_7, .int w0.2.2.2.2.2.2.2.2.2.2.2.2.1, .ref hw0_8])), (hw0_1, .inl (G.2.1, 617, .inl w0.1)), (hw0_2, .inl (G.2.1, 2468, .inl w0.2.1)), (hw0_3, .inl (G.2.1, 30, .inl w0.2.2.2.2.1)), (hw0_4, .inl (G.2.1, 4000, .inl w0.2.2.2.2.2.1)), (hw0_5, .inl (G.2.1, 120, .inl w0.2.2.2.2.2.2.2.2.2.1)), (hw0_6, .inl (G.2.1, 64, .inl w0.2.2.2.2.2.2.2.2.2.2.1)), (hw0_7, .inl (G.2.2.1, 64, .inl w0.2.2.2.2.2.2.2.2.2.2.2.1)), (hw0_8, .inl (G.2.1, 64, .inl w0.2.2.2.2.2.2.2.2.2.2.2.2.2))] → va_S A s.heap H locs → ∀ (ls : Array Slot), lv_has ls 2 [(0, .ref hw0_0), (1, .int p1)] → W p l e (rm_X11_workByte) s m args below meth c H locs 0 0 Q (F0 m 11 ls [.int s0, .ref hw0_0]) := by
    intro w0 s0 hf H locs hP hD hS ls hl
    unfold f_X11_workByte_J11 at hf
    refine lv_aload_n (pc := 11) hx hb dX11_workByte_11 rfl (lv_at hl 0 rfl) ?_
    obtain ⟨x1, hcx1, hf⟩ := bn_some hf
    refine g_callV0 (pc := 12) (rest := [.int s0, .ref hw0_0]) hx hb hml hown hts hK (c_X11_works l G hw0_0 hw0_1 hw0_2 hw0_3 hw0_4 hw0_5 hw0_6 hw0_7 hw0_8 w0 hcx1) wd_1139 wd_10 wd_1136 wd_1138 ws_41 hd_X11_works ⟨rfl, rfl, Nat.le_of_ble_eq_true rfl, Nat.le_of_ble_eq_true rfl⟩ hP hD hS hA [0, 1, 2, 3, 4, 5, 6, 7, 8] rfl rfl 8 0 rfl rfl rfl rfl hl.1 rfl (Nat.le_of_ble_eq_true rfl) dX11_workByte_12 ⟨Nat.zero_le _, Nat.zero_le _⟩ (fun H locs hP hS => ?_)
    obtain ⟨x2, hcx2, hf⟩ := bn_some hf
    refine g_callV (pc := 15) (ws' := [(hw0_0, .inr (8, [.ref hw0_1, .ref hw0_2, .int x2.2.2.2.1, .int x2.2.2.2.2.1, .ref hw0_3, .ref hw0_4, .int x2.2.2.2.2.2.2.2.1, .int x2.2.2.2.2.2.2.2.2.1, .int x2.2.2.2.2.2.2.2.2.2.1, .ref hw0_5, .ref hw0_6, .ref hw0_7, .int x2.2.2.2.2.2.2.2.2.2.2.2.2.2.1, .ref hw0_8])), (hw0_1, .inl (G.2.1, 617, .inl x2.2.1)), (hw0_2, .inl (G.2.1, 2468, .inl x2.2.2.1)), (hw0_3, .inl (G.2.1, 30, .inl x2.2.2.2.2.2.1)), (hw0_4, .inl (G.2.1, 4000, .inl x2.2.2.2.2.2.2.1)), (hw0_5, .inl (G.2.1, 120, .inl x2.2.2.2.2.2.2.2.2.2.2.1)), (hw0_6, .inl (G.2.1, 64, .inl x2.2.2.2.2.2.2.2.2.2.2.2.1)), (hw0_7, .inl (G.2.2.1, 64, .inl x2.2.2.2.2.2.2.2.2.2.2.2.2.1)), (hw0_8, .inl (G.2.1, 64, .inl x2.2.2.2.2.2.2.2.2.2.2.2.2.2.2))]) (rest := []) hx hb hml hown hts hK (c_X11_goes l G hw0_0 hw0_1 hw0_2 hw0_3 hw0_4 hw0_5 hw0_6 hw0_7 hw0_8 w0 s0 x1 hcx2) wd_949 wd_10 wd_946 wd_948 ws_13 hd_X11_goes ⟨rfl, rfl, Nat.le_of_ble_eq_true rfl, Nat.le_of_ble_eq_true rfl⟩ hP hD hS hA [0, 1, 2, 3, 4, 5, 6, 7, 8] rfl rfl rfl rfl 8 0 rfl rfl rfl rfl hl.1 rfl (Nat.le_of_ble_eq_true rfl) dX11_workByte_15 ⟨Nat.zero_le _, Nat.zero_le _⟩ (fun H locs hP hD hS => ?_)
    refine lv_if_ne (pc := 18) (tgt := 23) hx hb dX11_workByte_18 (by decide) (fun hc => ?_) (fun hc => ?_)
    · have hf := br_n hc hf
      refine lv_iload_n (pc := 23) hx hb dX11_workByte_23 rfl (lv_at hl 1 rfl) ?_
      refine lv_iconst (pc := 24) (v := (-1 : Int32)) hx hb dX11_workByte_24 (by decide) ?_
      refine lv_icmp_ne (pc := 25) (tgt := 39) hx hb dX11_workByte_25 (by decide) (fun hc => ?_) (fun hc => ?_)
      · have hf := br_n hc hf
        refine lv_iload_n (pc := 39) hx hb dX11_workByte_39 rfl (lv_at hl 1 rfl) ?_
        refine lv_aload_n (pc := 40) hx hb dX11_workByte_40 rfl (lv_at hl 0 rfl) ?_
        refine va_get (pc := 41) (D := G.1) (ci := 8) (v := .ref hw0_1) (C := RX11) (T := TX11) (N := 14) hx hb hts inX11 hown hK.1 hP 0 rfl rfl 0 (by decide) (hts _ wd_880) (fun _ h9 => h9) rfl dX11_workByte_41 ?_
        refine lv_sipush (pc := 44) (v := (552 : Int32)) hx hb dX11_workByte_44 (by decide) ?_
        obtain ⟨hg, hf⟩ := gd_some hf
        refine va_iald (pc := 47) hx hb hK.1 hP 1 0 rfl rfl hg dX11_workByte_47 ?_
        refine lv_icmp_ge (pc := 48) (tgt := 64) hx hb dX11_workByte_48 (by decide) (fun hc => ?_) (fun hc => ?_)
        · have hf := br_y hc hf
          refine lv_iconst (pc := 64) (v := (-1 : Int32)) hx hb dX11_workByte_64 (by decide) ?_
          have hf := Option.some.inj hf; subst hf
          rw [← hQ]
          exact g_iret hx hb hr hlocks hP hS dX11_workByte_65
        · have hf := br_n hc hf
          refine lv_aload_n (pc := 51) hx hb dX11_workByte_51 rfl (lv_at hl 0 rfl) ?_
          refine va_get (pc := 52) (D := G.1) (ci := 8) (v := .ref hw0_1) (C := RX11) (T := TX11) (N := 14) hx hb hts inX11 hown hK.1 hP 0 rfl rfl 0 (by decide) (hts _ wd_880) (fun _ h9 => h9) rfl dX11_workByte_52 ?_
          refine lv_sipush (pc := 55) (v := (553 : Int32)) hx hb dX11_workByte_55 (by decide) ?_
          refine lv_iload_n (pc := 58) hx hb dX11_workByte_58 rfl (lv_at hl 1 rfl) ?_
          refine lv_iadd (pc := 59) hx hb dX11_workByte_59 ?_
          obtain ⟨hg, hf⟩ := gd_some hf
          refine va_iald (pc := 60) hx hb hK.1 hP 1 0 rfl rfl hg dX11_workByte_60 ?_
          refine lv_goto (pc := 61) (tgt := 65) hx hb dX11_workByte_61 (by decide) ?_
          have hf := Option.some.inj hf; subst hf
          rw [← hQ]
          exact g_iret hx hb hr hlocks hP hS dX11_workByte_65
      · have hf := br_y hc hf
        refine lv_aload_n (pc := 28) hx hb dX11_workByte_28 rfl (lv_at hl 0 rfl) ?_
        refine va_get (pc := 29) (D := G.1) (ci := 8) (v := .ref hw0_1) (C := RX11) (T := TX11) (N := 14) hx hb hts inX11 hown hK.1 hP 0 rfl rfl 0 (by decide) (hts _ wd_880) (fun _ h9 => h9) rfl dX11_workByte_29 ?_
        refine lv_sipush (pc := 32) (v := (552 : Int32)) hx hb dX11_workByte_32 (by decide) ?_
        obtain ⟨hg, hf⟩ := gd_some hf
        refine va_iald (pc := 35) hx hb hK.1 hP 1 0 rfl rfl hg dX11_workByte_35 ?_
        refine lv_goto (pc := 36) (tgt := 65) hx hb dX11_workByte_36 (by decide) ?_
        have hf := Option.some.inj hf; subst hf
        rw [← hQ]
        exact g_iret hx hb hr hlocks hP hS dX11_workByte_65
    · have hf := br_y hc hf
      refine lv_iconst (pc := 21) (v := (0 : Int32)) hx hb dX11_workByte_21 (by decide) ?_
      have hf := Option.some.inj hf; subst hf
      rw [← hQ]
      exact g_iret hx hb hr hlocks hP hS dX11_workByte_22
  refine lv_aload_n (pc := 0) hx hb dX11_workByte_0 rfl (lv_at hl 0 rfl) ?_
  refine lv_iload_n (pc := 1) hx hb dX11_workByte_1 rfl (lv_at hl 1 rfl) ?_
  refine lv_iconst (pc := 2) (v := (-1 : Int32)) hx hb dX11_workByte_2 (by decide) ?_
  refine lv_icmp_lt (pc := 3) (tgt := 10) hx hb dX11_workByte_3 (by decide) (fun hc => ?_) (fun hc => ?_)
  · have hf := br_y hc hf
    refine lv_iconst (pc := 10) (v := (0 : Int32)) hx hb dX11_workByte_10 (by decide) ?_
    exact hJ11 w0 (0 : Int32) hf H locs hP hD hS ls (lv_sub hl [0, 1] rfl)
  · have hf := br_n hc hf
    refine lv_iconst (pc := 6) (v := (1 : Int32)) hx hb dX11_workByte_6 (by decide) ?_
    refine lv_goto (pc := 7) (tgt := 11) hx hb dX11_workByte_7 (by decide) ?_
    exact hJ11 w0 (1 : Int32) hf H locs hP hD hS ls (lv_sub hl [0, 1] rfl)
theorem hd_X11_compare : yX11_compare.cls ≠ "java/lang/invoke/MethodHandle" ∧ yX11_compare.cls ≠ "java/lang/invoke/VarHandle" ∧ (parseMethodDescriptor yX11_compare.desc).map (fun d => d.parameters.length) = some 0 := by decide +kernel
abbrev rm_X11_compare : Room := { frames := 1, cells := 0, slots := 0, locals := 22 }
noncomputable def f_X11_compare_J62   (w0 : TModel) (v1 : Int32) : Option (Int32 × TModel) :=
  gd (vp_in (552 : Int32) 617) (br (v1 = (w0.1 (552 : Int32).toNatClampNeg)) ((f_X11_longOf w0 (1 : Int32)).bind (fun x3 => br (v1 = x3) (some ((-1 : Int32), w0)) (some (v1, w0)))) (some (v1, w0)))
noncomputable def f_X11_compare_L16   : Nat → TModel → Int32 → Option (Int32 × TModel)
  | 0, _, _ => none
  | k16 + 1, w0, v1 =>
    gd (vp_in (552 : Int32) 617) (br ((w0.1 (552 : Int32).toNatClampNeg) ≤ v1) (f_X11_compare_J62  w0 v1) ((f_X11_longOf w0 (1 : Int32)).bind (fun x4 => br (x4 ≤ v1) (f_X11_compare_J62  w0 v1) (gd (vp_in ((553 : Int32) + v1) 617) ((f_X11_byteAt w0 (1 : Int32) v1).bind (fun x5 => br ((w0.1 ((553 : Int32) + v1).toNatClampNeg) = x5) (f_X11_compare_L16   k16 w0 (v1 + (1 : Int32))) (f_X11_compare_J62  w0 v1)))))))
noncomputable def f_X11_compare (w0 : TModel) : Option (Int32 × TModel) :=
  (f_X11_works w0).bind (fun x1 => (f_X11_goes w0 x1 (1 : Int32)).bind (fun x2 => br (x2.1 = 0) (some ((0 : Int32), x2.2)) (f_X11_compare_L16  FUEL x2.2 (0 : Int32))))
set_option maxHeartbeats 4000000 in
set_option maxRecDepth 100000 in
theorem c_X11_compare (l : Launch) (G : GT) (hw0_0 hw0_1 hw0_2 hw0_3 hw0_4 hw0_5 hw0_6 hw0_7 hw0_8 : Nat) (w0 : TModel) {r : Int32 × TModel} (hf : f_X11_compare w0 = some r) : Ct l yX11_compare (Cond.code yX11_compare cX11_compare 2 (some .int) :: lw_g) rm_X11_compare G [.ref hw0_0] [(hw0_0, .inr (8, [.ref hw0_1, .ref hw0_2, .int w0.2.2.1, .int w0.2.2.2.1, .ref hw0_3, .ref hw0_4, .int w0.2.2.2.2.2.2.1, .int w0.2.2.2.2.2.2.2.1, .int w0.2.2.2.2.2.2.2.2.1, .ref hw0_5, .ref hw0_6, .ref hw0_7, .int w0.2.2.2.2.2.2.2.2.2.2.2.2.1, .ref hw0_8])), (hw0_1, .inl (G.2.1, 617, .inl w0.1)), (hw0_2, .inl (G.2.1, 2468, .inl w0.2.1)), (hw0_3, .inl (G.2.1, 30, .inl w0.2.2.2.2.1)), (hw0_4, .inl (G.2.1, 4000, .inl w0.2.2.2.2.2.1)), (hw0_5, .inl (G.2.1, 120, .inl w0.2.2.2.2.2.2.2.2.2.1)), (hw0_6, .inl (G.2.1, 64, .inl w0.2.2.2.2.2.2.2.2.2.2.1)), (hw0_7, .inl (G.2.2.1, 64, .inl w0.2.2.2.2.2.2.2.2.2.2.2.1)), (hw0_8, .inl (G.2.1, 64, .inl w0.2.2.2.2.2.2.2.2.2.2.2.2.2))] (some (.int r.1)) [(hw0_0, .inr (8, [.ref hw0_1, .ref hw0_2, .int r.2.2.2.1, .int r.2.2.2.2.1, .ref hw0_3, .ref hw0_4, .int r.2.2.2.2.2.2.2.1, .int r.2.2.2.2.2.2.2.2.1, .int r.2.2.2.2.2.2.2.2.2.1, .ref hw0_5, .ref hw0_6, .ref hw0_7, .int r.2.2.2.2.2.2.2.2.2.2.2.2.2.1, .ref hw0_8])), (hw0_1, .inl (G.2.1, 617, .inl r.2.1)), (hw0_2, .inl (G.2.1, 2468, .inl r.2.2.1)), (hw0_3, .inl (G.2.1, 30, .inl r.2.2.2.2.2.1)), (hw0_4, .inl (G.2.1, 4000, .inl r.2.2.2.2.2.2.1)), (hw0_5, .inl (G.2.1, 120, .inl r.2.2.2.2.2.2.2.2.2.2.1)), (hw0_6, .inl (G.2.1, 64, .inl r.2.2.2.2.2.2.2.2.2.2.2.1)), (hw0_7, .inl (G.2.2.1, 64, .inl r.2.2.2.2.2.2.2.2.2.2.2.2.1)), (hw0_8, .inl (G.2.1, 64, .inl r.2.2.2.2.2.2.2.2.2.2.2.2.2.2))] := by
  refine Ct.ofW (cc := cX11_compare) (maxL := 2) (ret := (some .int)) (own := RX11) (by decide) rfl rfl (Nat.le_of_ble_eq_true rfl) ?_
  intro p e s m args below meth c A hx hb hr hml hts hown hlocks hK hP hD hA hS ls hl
  have hl : lv_has ls 2 [(0, .ref hw0_0)] := hl
  generalize hQ : gMQ below G _ _ A args s = Q
  generalize hH : s.heap = H at hP ⊢
  have hS : va_S A s.heap H [] := by rw [← hH]; exact hS
  generalize ([] : List Loc) = locs at hS ⊢
  unfold f_X11_compare at hf
  have hJ62 : ∀ (w0 : TModel) (v1 : Int32), f_X11_compare_J62   w0 v1 = some r → ∀ (H : Heap) (locs : List Loc), va_P G.1 vwCl [(hw0_0, .inr (8, [.ref hw0_1, .ref hw0_2, .int w0.2.2.1, .int w0.2.2.2.1, .ref hw0_3, .ref hw0_4, .int w0.2.2.2.2.2.2.1, .int w0.2.2.2.2.2.2.2.1, .int w0.2.2.2.2.2.2.2.2.1, .ref hw0_5, .ref hw0_6, .ref hw0_7, .int w0.2.2.2.2.2.2.2.2.2.2.2.2.1, .ref hw0_8])), (hw0_1, .inl (G.2.1, 617, .inl w0.1)), (hw0_2, .inl (G.2.1, 2468, .inl w0.2.1)), (hw0_3, .inl (G.2.1, 30, .inl w0.2.2.2.2.1)), (hw0_4, .inl (G.2.1, 4000, .inl w0.2.2.2.2.2.1)), (hw0_5, .inl (G.2.1, 120, .inl w0.2.2.2.2.2.2.2.2.2.1)), (hw0_6, .inl (G.2.1, 64, .inl w0.2.2.2.2.2.2.2.2.2.2.1)), (hw0_7, .inl (G.2.2.1, 64, .inl w0.2.2.2.2.2.2.2.2.2.2.2.1)), (hw0_8, .inl (G.2.1, 64, .inl w0.2.2.2.2.2.2.2.2.2.2.2.2.2))] H → va_D A [(hw0_0, .inr (8, [.ref hw0_1, .ref hw0_2, .int w0.2.2.1, .int w0.2.2.2.1, .ref hw0_3, .ref hw0_4, .int w0.2.2.2.2.2.2.1, .int w0.2.2.2.2.2.2.2.1, .int w0.2.2.2.2.2.2.2.2.1, .ref hw0_5, .ref hw0_6, .ref hw0_7, .int w0.2.2.2.2.2.2.2.2.2.2.2.2.1, .ref hw0_8])), (hw0_1, .inl (G.2.1, 617, .inl w0.1)), (hw0_2, .inl (G.2.1, 2468, .inl w0.2.1)), (hw0_3, .inl (G.2.1, 30, .inl w0.2.2.2.2.1)), (hw0_4, .inl (G.2.1, 4000, .inl w0.2.2.2.2.2.1)), (hw0_5, .inl (G.2.1, 120, .inl w0.2.2.2.2.2.2.2.2.2.1)), (hw0_6, .inl (G.2.1, 64, .inl w0.2.2.2.2.2.2.2.2.2.2.1)), (hw0_7, .inl (G.2.2.1, 64, .inl w0.2.2.2.2.2.2.2.2.2.2.2.1)), (hw0_8, .inl (G.2.1, 64, .inl w0.2.2.2.2.2.2.2.2.2.2.2.2.2))] → va_S A s.heap H locs → ∀ (ls : Array Slot), lv_has ls 2 [(1, .int v1), (0, .ref hw0_0)] → W p l e (rm_X11_compare) s m args below meth c H locs 0 0 Q (F0 m 62 ls []) := by
    intro w0 v1 hf H locs hP hD hS ls hl
    unfold f_X11_compare_J62 at hf
    refine lv_iload_n (pc := 62) hx hb dX11_compare_62 rfl (lv_at hl 0 rfl) ?_
    refine lv_aload_n (pc := 63) hx hb dX11_compare_63 rfl (lv_at hl 1 rfl) ?_
    refine va_get (pc := 64) (D := G.1) (ci := 8) (v := .ref hw0_1) (C := RX11) (T := TX11) (N := 14) hx hb hts inX11 hown hK.1 hP 0 rfl rfl 0 (by decide) (hts _ wd_880) (fun _ h9 => h9) rfl dX11_compare_64 ?_
    refine lv_sipush (pc := 67) (v := (552 : Int32)) hx hb dX11_compare_67 (by decide) ?_
    obtain ⟨hg, hf⟩ := gd_some hf
    refine va_iald (pc := 70) hx hb hK.1 hP 1 0 rfl rfl hg dX11_compare_70 ?_
    refine lv_icmp_ne (pc := 71) (tgt := 87) hx hb dX11_compare_71 (by decide) (fun hc => ?_) (fun hc => ?_)
    · have hf := br_n hc hf
      refine lv_iload_n (pc := 87) hx hb dX11_compare_87 rfl (lv_at hl 0 rfl) ?_
      have hf := Option.some.inj hf; subst hf
      rw [← hQ]
      exact g_iret hx hb hr hlocks hP hS dX11_compare_88
    · have hf := br_y hc hf
      refine lv_iload_n (pc := 74) hx hb dX11_compare_74 rfl (lv_at hl 0 rfl) ?_
      refine lv_aload_n (pc := 75) hx hb dX11_compare_75 rfl (lv_at hl 1 rfl) ?_
      refine lv_iconst (pc := 76) (v := (1 : Int32)) hx hb dX11_compare_76 (by decide) ?_
      obtain ⟨x3, hcx3, hf⟩ := bn_some hf
      refine g_callV0 (pc := 77) (rest := [.int v1]) hx hb hml hown hts hK (c_X11_longOf l G hw0_0 hw0_1 hw0_2 hw0_3 hw0_4 hw0_5 hw0_6 hw0_7 hw0_8 w0 (1 : Int32) hcx3) wd_945 wd_10 wd_942 wd_944 ws_12 hd_X11_longOf ⟨rfl, rfl, Nat.le_of_ble_eq_true rfl, Nat.le_of_ble_eq_true rfl⟩ hP hD hS hA [0, 1, 2, 3, 4, 5, 6, 7, 8] rfl rfl 8 0 rfl rfl rfl rfl hl.1 rfl (Nat.le_of_ble_eq_true rfl) dX11_compare_77 ⟨Nat.zero_le _, Nat.zero_le _⟩ (fun H locs hP hS => ?_)
      refine lv_icmp_ne (pc := 80) (tgt := 87) hx hb dX11_compare_80 (by decide) (fun hc => ?_) (fun hc => ?_)
      · have hf := br_n hc hf
        refine lv_iload_n (pc := 87) hx hb dX11_compare_87 rfl (lv_at hl 0 rfl) ?_
        have hf := Option.some.inj hf; subst hf
        rw [← hQ]
        exact g_iret hx hb hr hlocks hP hS dX11_compare_88
      · have hf := br_y hc hf
        refine lv_iconst (pc := 83) (v := (-1 : Int32)) hx hb dX11_compare_83 (by decide) ?_
        refine lv_goto (pc := 84) (tgt := 88) hx hb dX11_compare_84 (by decide) ?_
        have hf := Option.some.inj hf; subst hf
        rw [← hQ]
        exact g_iret hx hb hr hlocks hP hS dX11_compare_88
  have hL16 : ∀ (k16 : Nat) (w0 : TModel) (v1 : Int32), f_X11_compare_L16   k16 w0 v1 = some r → ∀ (H : Heap) (locs : List Loc), va_P G.1 vwCl [(hw0_0, .inr (8, [.ref hw0_1, .ref hw0_2, .int w0.2.2.1, .int w0.2.2.2.1, .ref hw0_3, .ref hw0_4, .int w0.2.2.2.2.2.2.1, .int w0.2.2.2.2.2.2.2.1, .int w0.2.2.2.2.2.2.2.2.1, .ref hw0_5, .ref hw0_6, .ref hw0_7, .int w0.2.2.2.2.2.2.2.2.2.2.2.2.1, .ref hw0_8])), (hw0_1, .inl (G.2.1, 617, .inl w0.1)), (hw0_2, .inl (G.2.1, 2468, .inl w0.2.1)), (hw0_3, .inl (G.2.1, 30, .inl w0.2.2.2.2.1)), (hw0_4, .inl (G.2.1, 4000, .inl w0.2.2.2.2.2.1)), (hw0_5, .inl (G.2.1, 120, .inl w0.2.2.2.2.2.2.2.2.2.1)), (hw0_6, .inl (G.2.1, 64, .inl w0.2.2.2.2.2.2.2.2.2.2.1)), (hw0_7, .inl (G.2.2.1, 64, .inl w0.2.2.2.2.2.2.2.2.2.2.2.1)), (hw0_8, .inl (G.2.1, 64, .inl w0.2.2.2.2.2.2.2.2.2.2.2.2.2))] H → va_D A [(hw0_0, .inr (8, [.ref hw0_1, .ref hw0_2, .int w0.2.2.1, .int w0.2.2.2.1, .ref hw0_3, .ref hw0_4, .int w0.2.2.2.2.2.2.1, .int w0.2.2.2.2.2.2.2.1, .int w0.2.2.2.2.2.2.2.2.1, .ref hw0_5, .ref hw0_6, .ref hw0_7, .int w0.2.2.2.2.2.2.2.2.2.2.2.2.1, .ref hw0_8])), (hw0_1, .inl (G.2.1, 617, .inl w0.1)), (hw0_2, .inl (G.2.1, 2468, .inl w0.2.1)), (hw0_3, .inl (G.2.1, 30, .inl w0.2.2.2.2.1)), (hw0_4, .inl (G.2.1, 4000, .inl w0.2.2.2.2.2.1)), (hw0_5, .inl (G.2.1, 120, .inl w0.2.2.2.2.2.2.2.2.2.1)), (hw0_6, .inl (G.2.1, 64, .inl w0.2.2.2.2.2.2.2.2.2.2.1)), (hw0_7, .inl (G.2.2.1, 64, .inl w0.2.2.2.2.2.2.2.2.2.2.2.1)), (hw0_8, .inl (G.2.1, 64, .inl w0.2.2.2.2.2.2.2.2.2.2.2.2.2))] → va_S A s.heap H locs → ∀ (ls : Array Slot), lv_has ls 2 [(1, .int v1), (0, .ref hw0_0)] → W p l e (rm_X11_compare) s m args below meth c H locs 0 0 Q (F0 m 16 ls []) := by
    intro k16
    induction k16 with
    | zero =>
      intro w0 v1 hf
      rw [f_X11_compare_L16.eq_1] at hf; cases hf
    | succ k16 ih16 =>
      intro w0 v1 hf H locs hP hD hS ls hl
      rw [f_X11_compare_L16.eq_2] at hf
      refine lv_iload_n (pc := 16) hx hb dX11_compare_16 rfl (lv_at hl 0 rfl) ?_
      refine lv_aload_n (pc := 17) hx hb dX11_compare_17 rfl (lv_at hl 1 rfl) ?_
      refine va_get (pc := 18) (D := G.1) (ci := 8) (v := .ref hw0_1) (C := RX11) (T := TX11) (N := 14) hx hb hts inX11 hown hK.1 hP 0 rfl rfl 0 (by decide) (hts _ wd_880) (fun _ h9 => h9) rfl dX11_compare_18 ?_
      refine lv_sipush (pc := 21) (v := (552 : Int32)) hx hb dX11_compare_21 (by decide) ?_
      obtain ⟨hg, hf⟩ := gd_some hf
      refine va_iald (pc := 24) hx hb hK.1 hP 1 0 rfl rfl hg dX11_compare_24 ?_
      refine lv_icmp_ge (pc := 25) (tgt := 62) hx hb dX11_compare_25 (by decide) (fun hc => ?_) (fun hc => ?_)
      · have hf := br_y hc hf
        exact hJ62 w0 v1 hf H locs hP hD hS ls (lv_sub hl [0, 1] rfl)
      · have hf := br_n hc hf
        refine lv_iload_n (pc := 28) hx hb dX11_compare_28 rfl (lv_at hl 0 rfl) ?_
        refine lv_aload_n (pc := 29) hx hb dX11_compare_29 rfl (lv_at hl 1 rfl) ?_
        refine lv_iconst (pc := 30) (v := (1 : Int32)) hx hb dX11_compare_30 (by decide) ?_
        obtain ⟨x4, hcx4, hf⟩ := bn_some hf
        refine g_callV0 (pc := 31) (rest := [.int v1]) hx hb hml hown hts hK (c_X11_longOf l G hw0_0 hw0_1 hw0_2 hw0_3 hw0_4 hw0_5 hw0_6 hw0_7 hw0_8 w0 (1 : Int32) hcx4) wd_945 wd_10 wd_942 wd_944 ws_12 hd_X11_longOf ⟨rfl, rfl, Nat.le_of_ble_eq_true rfl, Nat.le_of_ble_eq_true rfl⟩ hP hD hS hA [0, 1, 2, 3, 4, 5, 6, 7, 8] rfl rfl 8 0 rfl rfl rfl rfl hl.1 rfl (Nat.le_of_ble_eq_true rfl) dX11_compare_31 ⟨Nat.zero_le _, Nat.zero_le _⟩ (fun H locs hP hS => ?_)
        refine lv_icmp_ge (pc := 34) (tgt := 62) hx hb dX11_compare_34 (by decide) (fun hc => ?_) (fun hc => ?_)
        · have hf := br_y hc hf
          exact hJ62 w0 v1 hf H locs hP hD hS ls (lv_sub hl [0, 1] rfl)
        · have hf := br_n hc hf
          refine lv_aload_n (pc := 37) hx hb dX11_compare_37 rfl (lv_at hl 1 rfl) ?_
          refine va_get (pc := 38) (D := G.1) (ci := 8) (v := .ref hw0_1) (C := RX11) (T := TX11) (N := 14) hx hb hts inX11 hown hK.1 hP 0 rfl rfl 0 (by decide) (hts _ wd_880) (fun _ h9 => h9) rfl dX11_compare_38 ?_
          refine lv_sipush (pc := 41) (v := (553 : Int32)) hx hb dX11_compare_41 (by decide) ?_
          refine lv_iload_n (pc := 44) hx hb dX11_compare_44 rfl (lv_at hl 0 rfl) ?_
          refine lv_iadd (pc := 45) hx hb dX11_compare_45 ?_
          obtain ⟨hg, hf⟩ := gd_some hf
          refine va_iald (pc := 46) hx hb hK.1 hP 1 0 rfl rfl hg dX11_compare_46 ?_
          refine lv_aload_n (pc := 47) hx hb dX11_compare_47 rfl (lv_at hl 1 rfl) ?_
          refine lv_iconst (pc := 48) (v := (1 : Int32)) hx hb dX11_compare_48 (by decide) ?_
          refine lv_iload_n (pc := 49) hx hb dX11_compare_49 rfl (lv_at hl 0 rfl) ?_
          obtain ⟨x5, hcx5, hf⟩ := bn_some hf
          refine g_callV0 (pc := 50) (rest := [.int (w0.1 ((553 : Int32) + v1).toNatClampNeg)]) hx hb hml hown hts hK (c_X11_byteAt l G hw0_0 hw0_1 hw0_2 hw0_3 hw0_4 hw0_5 hw0_6 hw0_7 hw0_8 w0 (1 : Int32) v1 hcx5) wd_969 wd_10 wd_966 wd_968 ws_17 hd_X11_byteAt ⟨rfl, rfl, Nat.le_of_ble_eq_true rfl, Nat.le_of_ble_eq_true rfl⟩ hP hD hS hA [0, 1, 2, 3, 4, 5, 6, 7, 8] rfl rfl 8 0 rfl rfl rfl rfl hl.1 rfl (Nat.le_of_ble_eq_true rfl) dX11_compare_50 ⟨Nat.zero_le _, Nat.zero_le _⟩ (fun H locs hP hS => ?_)
          refine lv_icmp_ne (pc := 53) (tgt := 62) hx hb dX11_compare_53 (by decide) (fun hc => ?_) (fun hc => ?_)
          · have hf := br_n hc hf
            exact hJ62 w0 v1 hf H locs hP hD hS ls (lv_sub hl [0, 1] rfl)
          · have hf := br_y hc hf
            refine lv_iinc (pc := 56) (v := (v1 + (1 : Int32))) (lv' := [(1, .int (v1 + (1 : Int32))), (0, .ref hw0_0)]) hx hb dX11_compare_56 hl (k := 0) rfl rfl (by decide) rfl (fun ls hl => ?_)
            refine lv_goto (pc := 59) (tgt := 16) hx hb dX11_compare_59 (by decide) ?_
            exact ih16 w0 (v1 + (1 : Int32)) hf H locs hP hD hS ls (lv_sub hl [0, 1] rfl)
  refine lv_aload_n (pc := 0) hx hb dX11_compare_0 rfl (lv_at hl 0 rfl) ?_
  refine lv_aload_n (pc := 1) hx hb dX11_compare_1 rfl (lv_at hl 0 rfl) ?_
  obtain ⟨x1, hcx1, hf⟩ := bn_some hf
  refine g_callV0 (pc := 2) (rest := [.ref hw0_0]) hx hb hml hown hts hK (c_X11_works l G hw0_0 hw0_1 hw0_2 hw0_3 hw0_4 hw0_5 hw0_6 hw0_7 hw0_8 w0 hcx1) wd_1139 wd_10 wd_1136 wd_1138 ws_41 hd_X11_works ⟨rfl, rfl, Nat.le_of_ble_eq_true rfl, Nat.le_of_ble_eq_true rfl⟩ hP hD hS hA [0, 1, 2, 3, 4, 5, 6, 7, 8] rfl rfl 8 0 rfl rfl rfl rfl hl.1 rfl (Nat.le_of_ble_eq_true rfl) dX11_compare_2 ⟨Nat.zero_le _, Nat.zero_le _⟩ (fun H locs hP hS => ?_)
  refine lv_iconst (pc := 5) (v := (1 : Int32)) hx hb dX11_compare_5 (by decide) ?_
  obtain ⟨x2, hcx2, hf⟩ := bn_some hf
  refine g_callV (pc := 6) (ws' := [(hw0_0, .inr (8, [.ref hw0_1, .ref hw0_2, .int x2.2.2.2.1, .int x2.2.2.2.2.1, .ref hw0_3, .ref hw0_4, .int x2.2.2.2.2.2.2.2.1, .int x2.2.2.2.2.2.2.2.2.1, .int x2.2.2.2.2.2.2.2.2.2.1, .ref hw0_5, .ref hw0_6, .ref hw0_7, .int x2.2.2.2.2.2.2.2.2.2.2.2.2.2.1, .ref hw0_8])), (hw0_1, .inl (G.2.1, 617, .inl x2.2.1)), (hw0_2, .inl (G.2.1, 2468, .inl x2.2.2.1)), (hw0_3, .inl (G.2.1, 30, .inl x2.2.2.2.2.2.1)), (hw0_4, .inl (G.2.1, 4000, .inl x2.2.2.2.2.2.2.1)), (hw0_5, .inl (G.2.1, 120, .inl x2.2.2.2.2.2.2.2.2.2.2.1)), (hw0_6, .inl (G.2.1, 64, .inl x2.2.2.2.2.2.2.2.2.2.2.2.1)), (hw0_7, .inl (G.2.2.1, 64, .inl x2.2.2.2.2.2.2.2.2.2.2.2.2.1)), (hw0_8, .inl (G.2.1, 64, .inl x2.2.2.2.2.2.2.2.2.2.2.2.2.2.2))]) (rest := []) hx hb hml hown hts hK (c_X11_goes l G hw0_0 hw0_1 hw0_2 hw0_3 hw0_4 hw0_5 hw0_6 hw0_7 hw0_8 w0 x1 (1 : Int32) hcx2) wd_949 wd_10 wd_946 wd_948 ws_13 hd_X11_goes ⟨rfl, rfl, Nat.le_of_ble_eq_true rfl, Nat.le_of_ble_eq_true rfl⟩ hP hD hS hA [0, 1, 2, 3, 4, 5, 6, 7, 8] rfl rfl rfl rfl 8 0 rfl rfl rfl rfl hl.1 rfl (Nat.le_of_ble_eq_true rfl) dX11_compare_6 ⟨Nat.zero_le _, Nat.zero_le _⟩ (fun H locs hP hD hS => ?_)
  refine lv_if_ne (pc := 9) (tgt := 14) hx hb dX11_compare_9 (by decide) (fun hc => ?_) (fun hc => ?_)
  · have hf := br_n hc hf
    refine lv_iconst (pc := 14) (v := (0 : Int32)) hx hb dX11_compare_14 (by decide) ?_
    refine lv_istore_n (pc := 15) (lv' := [(1, .int (0 : Int32)), (0, .ref hw0_0)]) hx hb dX11_compare_15 rfl hl (by decide) rfl (fun ls hl => ?_)
    exact hL16 FUEL x2.2 (0 : Int32) hf H locs hP hD hS ls (lv_sub hl [0, 1] rfl)
  · have hf := br_y hc hf
    refine lv_iconst (pc := 12) (v := (0 : Int32)) hx hb dX11_compare_12 (by decide) ?_
    have hf := Option.some.inj hf; subst hf
    rw [← hQ]
    exact g_iret hx hb hr hlocks hP hS dX11_compare_13
theorem hd_X11_ratio : yX11_ratio.cls ≠ "java/lang/invoke/MethodHandle" ∧ yX11_ratio.cls ≠ "java/lang/invoke/VarHandle" ∧ (parseMethodDescriptor yX11_ratio.desc).map (fun d => d.parameters.length) = some 0 := by decide +kernel
abbrev rm_X11_ratio : Room := { frames := 1, cells := 0, slots := 0, locals := 21 }
noncomputable def f_X11_ratio (w0 : TModel) : Option (UInt64 × TModel) :=
  gd (vp_in (349 : Int32) 617) ((f_X11_longOf (w0.1, w0.2.1, w0.2.2.1, (0 : Int32), w0.2.2.2.2.1, w0.2.2.2.2.2.1, w0.2.2.2.2.2.2.1, w0.2.2.2.2.2.2.2.1, w0.2.2.2.2.2.2.2.2.1, w0.2.2.2.2.2.2.2.2.2.1, w0.2.2.2.2.2.2.2.2.2.2.1, w0.2.2.2.2.2.2.2.2.2.2.2.1, w0.2.2.2.2.2.2.2.2.2.2.2.2.1, w0.2.2.2.2.2.2.2.2.2.2.2.2.2) (1 : Int32)).bind (fun x1 => (f_X11_longOf (w0.1, w0.2.1, w0.2.2.1, (0 : Int32), w0.2.2.2.2.1, w0.2.2.2.2.2.1, w0.2.2.2.2.2.2.1, w0.2.2.2.2.2.2.2.1, w0.2.2.2.2.2.2.2.2.1, w0.2.2.2.2.2.2.2.2.2.1, w0.2.2.2.2.2.2.2.2.2.2.1, w0.2.2.2.2.2.2.2.2.2.2.2.1, w0.2.2.2.2.2.2.2.2.2.2.2.2.1, w0.2.2.2.2.2.2.2.2.2.2.2.2.2) (1 : Int32)).bind (fun x2 => br (x2 = 0) (some ((0 : UInt64), (w0.1, w0.2.1, w0.2.2.1, (0 : Int32), w0.2.2.2.2.1, w0.2.2.2.2.2.1, w0.2.2.2.2.2.2.1, w0.2.2.2.2.2.2.2.1, w0.2.2.2.2.2.2.2.2.1, w0.2.2.2.2.2.2.2.2.2.1, w0.2.2.2.2.2.2.2.2.2.2.1, w0.2.2.2.2.2.2.2.2.2.2.2.1, w0.2.2.2.2.2.2.2.2.2.2.2.2.1, w0.2.2.2.2.2.2.2.2.2.2.2.2.2))) (gd (vf_n64 (FP.ddiv (FP.i2d (w0.1 (349 : Int32).toNatClampNeg)) (FP.i2d x1))) (some ((FP.ddiv (FP.i2d (w0.1 (349 : Int32).toNatClampNeg)) (FP.i2d x1)), (w0.1, w0.2.1, w0.2.2.1, (0 : Int32), w0.2.2.2.2.1, w0.2.2.2.2.2.1, w0.2.2.2.2.2.2.1, w0.2.2.2.2.2.2.2.1, w0.2.2.2.2.2.2.2.2.1, w0.2.2.2.2.2.2.2.2.2.1, w0.2.2.2.2.2.2.2.2.2.2.1, w0.2.2.2.2.2.2.2.2.2.2.2.1, w0.2.2.2.2.2.2.2.2.2.2.2.2.1, w0.2.2.2.2.2.2.2.2.2.2.2.2.2)))))))
set_option maxHeartbeats 4000000 in
set_option maxRecDepth 100000 in
theorem c_X11_ratio (l : Launch) (G : GT) (hw0_0 hw0_1 hw0_2 hw0_3 hw0_4 hw0_5 hw0_6 hw0_7 hw0_8 : Nat) (w0 : TModel) {r : UInt64 × TModel} (hf : f_X11_ratio w0 = some r) : Ct l yX11_ratio (Cond.code yX11_ratio cX11_ratio 5 (some .double) :: lw_g) rm_X11_ratio G [.ref hw0_0] [(hw0_0, .inr (8, [.ref hw0_1, .ref hw0_2, .int w0.2.2.1, .int w0.2.2.2.1, .ref hw0_3, .ref hw0_4, .int w0.2.2.2.2.2.2.1, .int w0.2.2.2.2.2.2.2.1, .int w0.2.2.2.2.2.2.2.2.1, .ref hw0_5, .ref hw0_6, .ref hw0_7, .int w0.2.2.2.2.2.2.2.2.2.2.2.2.1, .ref hw0_8])), (hw0_1, .inl (G.2.1, 617, .inl w0.1)), (hw0_2, .inl (G.2.1, 2468, .inl w0.2.1)), (hw0_3, .inl (G.2.1, 30, .inl w0.2.2.2.2.1)), (hw0_4, .inl (G.2.1, 4000, .inl w0.2.2.2.2.2.1)), (hw0_5, .inl (G.2.1, 120, .inl w0.2.2.2.2.2.2.2.2.2.1)), (hw0_6, .inl (G.2.1, 64, .inl w0.2.2.2.2.2.2.2.2.2.2.1)), (hw0_7, .inl (G.2.2.1, 64, .inl w0.2.2.2.2.2.2.2.2.2.2.2.1)), (hw0_8, .inl (G.2.1, 64, .inl w0.2.2.2.2.2.2.2.2.2.2.2.2.2))] (some (.double r.1)) [(hw0_0, .inr (8, [.ref hw0_1, .ref hw0_2, .int r.2.2.2.1, .int r.2.2.2.2.1, .ref hw0_3, .ref hw0_4, .int r.2.2.2.2.2.2.2.1, .int r.2.2.2.2.2.2.2.2.1, .int r.2.2.2.2.2.2.2.2.2.1, .ref hw0_5, .ref hw0_6, .ref hw0_7, .int r.2.2.2.2.2.2.2.2.2.2.2.2.2.1, .ref hw0_8])), (hw0_1, .inl (G.2.1, 617, .inl r.2.1)), (hw0_2, .inl (G.2.1, 2468, .inl r.2.2.1)), (hw0_3, .inl (G.2.1, 30, .inl r.2.2.2.2.2.1)), (hw0_4, .inl (G.2.1, 4000, .inl r.2.2.2.2.2.2.1)), (hw0_5, .inl (G.2.1, 120, .inl r.2.2.2.2.2.2.2.2.2.2.1)), (hw0_6, .inl (G.2.1, 64, .inl r.2.2.2.2.2.2.2.2.2.2.2.1)), (hw0_7, .inl (G.2.2.1, 64, .inl r.2.2.2.2.2.2.2.2.2.2.2.2.1)), (hw0_8, .inl (G.2.1, 64, .inl r.2.2.2.2.2.2.2.2.2.2.2.2.2.2))] := by
  refine Ct.ofW (cc := cX11_ratio) (maxL := 5) (ret := (some .double)) (own := RX11) (by decide) rfl rfl (Nat.le_of_ble_eq_true rfl) ?_
  intro p e s m args below meth c A hx hb hr hml hts hown hlocks hK hP hD hA hS ls hl
  have hl : lv_has ls 5 [(0, .ref hw0_0)] := hl
  generalize hQ : gMQ below G _ _ A args s = Q
  generalize hH : s.heap = H at hP ⊢
  have hS : va_S A s.heap H [] := by rw [← hH]; exact hS
  generalize ([] : List Loc) = locs at hS ⊢
  unfold f_X11_ratio at hf
  refine lv_aload_n (pc := 0) hx hb dX11_ratio_0 rfl (lv_at hl 0 rfl) ?_
  refine lv_iconst (pc := 1) (v := (0 : Int32)) hx hb dX11_ratio_1 (by decide) ?_
  refine va_put (pc := 2) (D := G.1) (ci := 8) (v := .int (0 : Int32)) (ty := .int) (C := RX11) (T := TX11) (N := 14) hx hb hts inX11 tyX11 tyX11_ok nmX11 hown hK.1 hP hD hS 0 rfl rfl 3 (by decide) (hts _ wd_883) (fun _ h9 => h9) rfl (by decide +kernel) rfl rfl (Nat.le_of_ble_eq_true rfl) dX11_ratio_2 (fun H locs hP hD hS => ?_)
  have hP : va_P G.1 vwCl [(hw0_0, .inr (8, [.ref hw0_1, .ref hw0_2, .int w0.2.2.1, .int (0 : Int32), .ref hw0_3, .ref hw0_4, .int w0.2.2.2.2.2.2.1, .int w0.2.2.2.2.2.2.2.1, .int w0.2.2.2.2.2.2.2.2.1, .ref hw0_5, .ref hw0_6, .ref hw0_7, .int w0.2.2.2.2.2.2.2.2.2.2.2.2.1, .ref hw0_8])), (hw0_1, .inl (G.2.1, 617, .inl w0.1)), (hw0_2, .inl (G.2.1, 2468, .inl w0.2.1)), (hw0_3, .inl (G.2.1, 30, .inl w0.2.2.2.2.1)), (hw0_4, .inl (G.2.1, 4000, .inl w0.2.2.2.2.2.1)), (hw0_5, .inl (G.2.1, 120, .inl w0.2.2.2.2.2.2.2.2.2.1)), (hw0_6, .inl (G.2.1, 64, .inl w0.2.2.2.2.2.2.2.2.2.2.1)), (hw0_7, .inl (G.2.2.1, 64, .inl w0.2.2.2.2.2.2.2.2.2.2.2.1)), (hw0_8, .inl (G.2.1, 64, .inl w0.2.2.2.2.2.2.2.2.2.2.2.2.2))] H := hP
  have hD : va_D A [(hw0_0, .inr (8, [.ref hw0_1, .ref hw0_2, .int w0.2.2.1, .int (0 : Int32), .ref hw0_3, .ref hw0_4, .int w0.2.2.2.2.2.2.1, .int w0.2.2.2.2.2.2.2.1, .int w0.2.2.2.2.2.2.2.2.1, .ref hw0_5, .ref hw0_6, .ref hw0_7, .int w0.2.2.2.2.2.2.2.2.2.2.2.2.1, .ref hw0_8])), (hw0_1, .inl (G.2.1, 617, .inl w0.1)), (hw0_2, .inl (G.2.1, 2468, .inl w0.2.1)), (hw0_3, .inl (G.2.1, 30, .inl w0.2.2.2.2.1)), (hw0_4, .inl (G.2.1, 4000, .inl w0.2.2.2.2.2.1)), (hw0_5, .inl (G.2.1, 120, .inl w0.2.2.2.2.2.2.2.2.2.1)), (hw0_6, .inl (G.2.1, 64, .inl w0.2.2.2.2.2.2.2.2.2.2.1)), (hw0_7, .inl (G.2.2.1, 64, .inl w0.2.2.2.2.2.2.2.2.2.2.2.1)), (hw0_8, .inl (G.2.1, 64, .inl w0.2.2.2.2.2.2.2.2.2.2.2.2.2))] := hD
  refine lv_aload_n (pc := 5) hx hb dX11_ratio_5 rfl (lv_at hl 0 rfl) ?_
  refine va_get (pc := 6) (D := G.1) (ci := 8) (v := .ref hw0_1) (C := RX11) (T := TX11) (N := 14) hx hb hts inX11 hown hK.1 hP 0 rfl rfl 0 (by decide) (hts _ wd_880) (fun _ h9 => h9) rfl dX11_ratio_6 ?_
  refine lv_sipush (pc := 9) (v := (349 : Int32)) hx hb dX11_ratio_9 (by decide) ?_
  obtain ⟨hg, hf⟩ := gd_some hf
  refine va_iald (pc := 12) hx hb hK.1 hP 1 0 rfl rfl hg dX11_ratio_12 ?_
  refine lv_i2d (pc := 13) hx hb dX11_ratio_13 ?_
  refine lv_dstore_n (pc := 14) (lv' := [(1, .double (FP.i2d (w0.1 (349 : Int32).toNatClampNeg))), (0, .ref hw0_0)]) hx hb dX11_ratio_14 rfl hl (by decide) rfl (fun ls hl => ?_)
  refine lv_aload_n (pc := 15) hx hb dX11_ratio_15 rfl (lv_at hl 1 rfl) ?_
  refine lv_iconst (pc := 16) (v := (1 : Int32)) hx hb dX11_ratio_16 (by decide) ?_
  obtain ⟨x1, hcx1, hf⟩ := bn_some hf
  refine g_callV0 (pc := 17) (rest := []) hx hb hml hown hts hK (c_X11_longOf l G hw0_0 hw0_1 hw0_2 hw0_3 hw0_4 hw0_5 hw0_6 hw0_7 hw0_8 (w0.1, w0.2.1, w0.2.2.1, (0 : Int32), w0.2.2.2.2.1, w0.2.2.2.2.2.1, w0.2.2.2.2.2.2.1, w0.2.2.2.2.2.2.2.1, w0.2.2.2.2.2.2.2.2.1, w0.2.2.2.2.2.2.2.2.2.1, w0.2.2.2.2.2.2.2.2.2.2.1, w0.2.2.2.2.2.2.2.2.2.2.2.1, w0.2.2.2.2.2.2.2.2.2.2.2.2.1, w0.2.2.2.2.2.2.2.2.2.2.2.2.2) (1 : Int32) hcx1) wd_945 wd_10 wd_942 wd_944 ws_12 hd_X11_longOf ⟨rfl, rfl, Nat.le_of_ble_eq_true rfl, Nat.le_of_ble_eq_true rfl⟩ hP hD hS hA [0, 1, 2, 3, 4, 5, 6, 7, 8] rfl rfl 8 0 rfl rfl rfl rfl hl.1 rfl (Nat.le_of_ble_eq_true rfl) dX11_ratio_17 ⟨Nat.zero_le _, Nat.zero_le _⟩ (fun H locs hP hS => ?_)
  refine lv_i2d (pc := 20) hx hb dX11_ratio_20 ?_
  refine lv_dstore_n (pc := 21) (lv' := [(3, .double (FP.i2d x1)), (1, .double (FP.i2d (w0.1 (349 : Int32).toNatClampNeg))), (0, .ref hw0_0)]) hx hb dX11_ratio_21 rfl hl (by decide) rfl (fun ls hl => ?_)
  refine lv_aload_n (pc := 22) hx hb dX11_ratio_22 rfl (lv_at hl 2 rfl) ?_
  refine lv_iconst (pc := 23) (v := (1 : Int32)) hx hb dX11_ratio_23 (by decide) ?_
  obtain ⟨x2, hcx2, hf⟩ := bn_some hf
  refine g_callV0 (pc := 24) (rest := []) hx hb hml hown hts hK (c_X11_longOf l G hw0_0 hw0_1 hw0_2 hw0_3 hw0_4 hw0_5 hw0_6 hw0_7 hw0_8 (w0.1, w0.2.1, w0.2.2.1, (0 : Int32), w0.2.2.2.2.1, w0.2.2.2.2.2.1, w0.2.2.2.2.2.2.1, w0.2.2.2.2.2.2.2.1, w0.2.2.2.2.2.2.2.2.1, w0.2.2.2.2.2.2.2.2.2.1, w0.2.2.2.2.2.2.2.2.2.2.1, w0.2.2.2.2.2.2.2.2.2.2.2.1, w0.2.2.2.2.2.2.2.2.2.2.2.2.1, w0.2.2.2.2.2.2.2.2.2.2.2.2.2) (1 : Int32) hcx2) wd_945 wd_10 wd_942 wd_944 ws_12 hd_X11_longOf ⟨rfl, rfl, Nat.le_of_ble_eq_true rfl, Nat.le_of_ble_eq_true rfl⟩ hP hD hS hA [0, 1, 2, 3, 4, 5, 6, 7, 8] rfl rfl 8 0 rfl rfl rfl rfl hl.1 rfl (Nat.le_of_ble_eq_true rfl) dX11_ratio_24 ⟨Nat.zero_le _, Nat.zero_le _⟩ (fun H locs hP hS => ?_)
  refine lv_if_ne (pc := 27) (tgt := 34) hx hb dX11_ratio_27 (by decide) (fun hc => ?_) (fun hc => ?_)
  · have hf := br_n hc hf
    refine lv_dload_n (pc := 34) hx hb dX11_ratio_34 rfl (lv_at hl 1 rfl) ?_
    refine lv_dload_n (pc := 35) hx hb dX11_ratio_35 rfl (lv_at hl 0 rfl) ?_
    obtain ⟨hg, hf⟩ := gd_some hf
    refine lv_ddiv (pc := 36) hx hb dX11_ratio_36 hg ?_
    have hf := Option.some.inj hf; subst hf
    rw [← hQ]
    exact g_dret hx hb hr hlocks hP hS dX11_ratio_37
  · have hf := br_y hc hf
    refine lv_dconst0 (pc := 30) hx hb dX11_ratio_30 ?_
    refine lv_goto (pc := 31) (tgt := 37) hx hb dX11_ratio_31 (by decide) ?_
    have hf := Option.some.inj hf; subst hf
    rw [← hQ]
    exact g_dret hx hb hr hlocks hP hS dX11_ratio_37
theorem hd_X11_undo : yX11_undo.cls ≠ "java/lang/invoke/MethodHandle" ∧ yX11_undo.cls ≠ "java/lang/invoke/VarHandle" ∧ (parseMethodDescriptor yX11_undo.desc).map (fun d => d.parameters.length) = some 0 := by decide +kernel
abbrev rm_X11_undo : Room := { frames := 1, cells := 0, slots := 0, locals := 22 }
noncomputable def f_X11_undo_L34   : Nat → TModel → Int32 → Option (Int32 × TModel)
  | 0, _, _ => none
  | k34 + 1, w0, v1 =>
    br ((617 : Int32) ≤ v1) (some (w0.2.2.1, w0)) (gd (vp_in (((617 : Int32) * w0.2.2.1) + v1) 2468) (gd (vp_in v1 617) (f_X11_undo_L34   k34 ((upd w0.1 v1.toNatClampNeg (w0.2.1 (((617 : Int32) * w0.2.2.1) + v1).toNatClampNeg)), w0.2.1, w0.2.2.1, w0.2.2.2.1, w0.2.2.2.2.1, w0.2.2.2.2.2.1, w0.2.2.2.2.2.2.1, w0.2.2.2.2.2.2.2.1, w0.2.2.2.2.2.2.2.2.1, w0.2.2.2.2.2.2.2.2.2.1, w0.2.2.2.2.2.2.2.2.2.2.1, w0.2.2.2.2.2.2.2.2.2.2.2.1, w0.2.2.2.2.2.2.2.2.2.2.2.2.1, w0.2.2.2.2.2.2.2.2.2.2.2.2.2) (v1 + (1 : Int32)))))
noncomputable def f_X11_undo_J13   (w0 : TModel) (s0 : Int32) : Option (Int32 × TModel) :=
  (f_X11_goes w0 s0 (1 : Int32)).bind (fun x1 => br (x1.1 = 0) (some ((0 : Int32), x1.2)) (f_X11_undo_L34  FUEL (x1.2.1, x1.2.2.1, (x1.2.2.2.1 - (1 : Int32)), x1.2.2.2.2.1, x1.2.2.2.2.2.1, x1.2.2.2.2.2.2.1, x1.2.2.2.2.2.2.2.1, x1.2.2.2.2.2.2.2.2.1, x1.2.2.2.2.2.2.2.2.2.1, x1.2.2.2.2.2.2.2.2.2.2.1, x1.2.2.2.2.2.2.2.2.2.2.2.1, x1.2.2.2.2.2.2.2.2.2.2.2.2.1, x1.2.2.2.2.2.2.2.2.2.2.2.2.2.1, x1.2.2.2.2.2.2.2.2.2.2.2.2.2.2) (0 : Int32)))
noncomputable def f_X11_undo (w0 : TModel) : Option (Int32 × TModel) :=
  br (w0.2.2.1 ≤ 0) (f_X11_undo_J13  w0 (0 : Int32)) (f_X11_undo_J13  w0 (1 : Int32))
set_option maxHeartbeats 4000000 in
set_option maxRecDepth 100000 in
theorem c_X11_undo (l : Launch) (G : GT) (hw0_0 hw0_1 hw0_2 hw0_3 hw0_4 hw0_5 hw0_6 hw0_7 hw0_8 : Nat) (w0 : TModel) {r : Int32 × TModel} (hf : f_X11_undo w0 = some r) : Ct l yX11_undo (Cond.code yX11_undo cX11_undo 2 (some .int) :: lw_g) rm_X11_undo G [.ref hw0_0] [(hw0_0, .inr (8, [.ref hw0_1, .ref hw0_2, .int w0.2.2.1, .int w0.2.2.2.1, .ref hw0_3, .ref hw0_4, .int w0.2.2.2.2.2.2.1, .int w0.2.2.2.2.2.2.2.1, .int w0.2.2.2.2.2.2.2.2.1, .ref hw0_5, .ref hw0_6, .ref hw0_7, .int w0.2.2.2.2.2.2.2.2.2.2.2.2.1, .ref hw0_8])), (hw0_1, .inl (G.2.1, 617, .inl w0.1)), (hw0_2, .inl (G.2.1, 2468, .inl w0.2.1)), (hw0_3, .inl (G.2.1, 30, .inl w0.2.2.2.2.1)), (hw0_4, .inl (G.2.1, 4000, .inl w0.2.2.2.2.2.1)), (hw0_5, .inl (G.2.1, 120, .inl w0.2.2.2.2.2.2.2.2.2.1)), (hw0_6, .inl (G.2.1, 64, .inl w0.2.2.2.2.2.2.2.2.2.2.1)), (hw0_7, .inl (G.2.2.1, 64, .inl w0.2.2.2.2.2.2.2.2.2.2.2.1)), (hw0_8, .inl (G.2.1, 64, .inl w0.2.2.2.2.2.2.2.2.2.2.2.2.2))] (some (.int r.1)) [(hw0_0, .inr (8, [.ref hw0_1, .ref hw0_2, .int r.2.2.2.1, .int r.2.2.2.2.1, .ref hw0_3, .ref hw0_4, .int r.2.2.2.2.2.2.2.1, .int r.2.2.2.2.2.2.2.2.1, .int r.2.2.2.2.2.2.2.2.2.1, .ref hw0_5, .ref hw0_6, .ref hw0_7, .int r.2.2.2.2.2.2.2.2.2.2.2.2.2.1, .ref hw0_8])), (hw0_1, .inl (G.2.1, 617, .inl r.2.1)), (hw0_2, .inl (G.2.1, 2468, .inl r.2.2.1)), (hw0_3, .inl (G.2.1, 30, .inl r.2.2.2.2.2.1)), (hw0_4, .inl (G.2.1, 4000, .inl r.2.2.2.2.2.2.1)), (hw0_5, .inl (G.2.1, 120, .inl r.2.2.2.2.2.2.2.2.2.2.1)), (hw0_6, .inl (G.2.1, 64, .inl r.2.2.2.2.2.2.2.2.2.2.2.1)), (hw0_7, .inl (G.2.2.1, 64, .inl r.2.2.2.2.2.2.2.2.2.2.2.2.1)), (hw0_8, .inl (G.2.1, 64, .inl r.2.2.2.2.2.2.2.2.2.2.2.2.2.2))] := by
  refine Ct.ofW (cc := cX11_undo) (maxL := 2) (ret := (some .int)) (own := RX11) (by decide) rfl rfl (Nat.le_of_ble_eq_true rfl) ?_
  intro p e s m args below meth c A hx hb hr hml hts hown hlocks hK hP hD hA hS ls hl
  have hl : lv_has ls 2 [(0, .ref hw0_0)] := hl
  generalize hQ : gMQ below G _ _ A args s = Q
  generalize hH : s.heap = H at hP ⊢
  have hS : va_S A s.heap H [] := by rw [← hH]; exact hS
  generalize ([] : List Loc) = locs at hS ⊢
  unfold f_X11_undo at hf
  have hL34 : ∀ (k34 : Nat) (w0 : TModel) (v1 : Int32), f_X11_undo_L34   k34 w0 v1 = some r → ∀ (H : Heap) (locs : List Loc), va_P G.1 vwCl [(hw0_0, .inr (8, [.ref hw0_1, .ref hw0_2, .int w0.2.2.1, .int w0.2.2.2.1, .ref hw0_3, .ref hw0_4, .int w0.2.2.2.2.2.2.1, .int w0.2.2.2.2.2.2.2.1, .int w0.2.2.2.2.2.2.2.2.1, .ref hw0_5, .ref hw0_6, .ref hw0_7, .int w0.2.2.2.2.2.2.2.2.2.2.2.2.1, .ref hw0_8])), (hw0_1, .inl (G.2.1, 617, .inl w0.1)), (hw0_2, .inl (G.2.1, 2468, .inl w0.2.1)), (hw0_3, .inl (G.2.1, 30, .inl w0.2.2.2.2.1)), (hw0_4, .inl (G.2.1, 4000, .inl w0.2.2.2.2.2.1)), (hw0_5, .inl (G.2.1, 120, .inl w0.2.2.2.2.2.2.2.2.2.1)), (hw0_6, .inl (G.2.1, 64, .inl w0.2.2.2.2.2.2.2.2.2.2.1)), (hw0_7, .inl (G.2.2.1, 64, .inl w0.2.2.2.2.2.2.2.2.2.2.2.1)), (hw0_8, .inl (G.2.1, 64, .inl w0.2.2.2.2.2.2.2.2.2.2.2.2.2))] H → va_D A [(hw0_0, .inr (8, [.ref hw0_1, .ref hw0_2, .int w0.2.2.1, .int w0.2.2.2.1, .ref hw0_3, .ref hw0_4, .int w0.2.2.2.2.2.2.1, .int w0.2.2.2.2.2.2.2.1, .int w0.2.2.2.2.2.2.2.2.1, .ref hw0_5, .ref hw0_6, .ref hw0_7, .int w0.2.2.2.2.2.2.2.2.2.2.2.2.1, .ref hw0_8])), (hw0_1, .inl (G.2.1, 617, .inl w0.1)), (hw0_2, .inl (G.2.1, 2468, .inl w0.2.1)), (hw0_3, .inl (G.2.1, 30, .inl w0.2.2.2.2.1)), (hw0_4, .inl (G.2.1, 4000, .inl w0.2.2.2.2.2.1)), (hw0_5, .inl (G.2.1, 120, .inl w0.2.2.2.2.2.2.2.2.2.1)), (hw0_6, .inl (G.2.1, 64, .inl w0.2.2.2.2.2.2.2.2.2.2.1)), (hw0_7, .inl (G.2.2.1, 64, .inl w0.2.2.2.2.2.2.2.2.2.2.2.1)), (hw0_8, .inl (G.2.1, 64, .inl w0.2.2.2.2.2.2.2.2.2.2.2.2.2))] → va_S A s.heap H locs → ∀ (ls : Array Slot), lv_has ls 2 [(1, .int v1), (0, .ref hw0_0)] → W p l e (rm_X11_undo) s m args below meth c H locs 0 0 Q (F0 m 34 ls []) := by
    intro k34
    induction k34 with
    | zero =>
      intro w0 v1 hf
      rw [f_X11_undo_L34.eq_1] at hf; cases hf
    | succ k34 ih34 =>
      intro w0 v1 hf H locs hP hD hS ls hl
      rw [f_X11_undo_L34.eq_2] at hf
      refine lv_iload_n (pc := 34) hx hb dX11_undo_34 rfl (lv_at hl 0 rfl) ?_
      refine lv_sipush (pc := 35) (v := (617 : Int32)) hx hb dX11_undo_35 (by decide) ?_
      refine lv_icmp_ge (pc := 38) (tgt := 68) hx hb dX11_undo_38 (by decide) (fun hc => ?_) (fun hc => ?_)
      · have hf := br_y hc hf
        refine lv_aload_n (pc := 68) hx hb dX11_undo_68 rfl (lv_at hl 1 rfl) ?_
        refine va_get (pc := 69) (D := G.1) (ci := 8) (v := .int w0.2.2.1) (C := RX11) (T := TX11) (N := 14) hx hb hts inX11 hown hK.1 hP 0 rfl rfl 2 (by decide) (hts _ wd_882) (fun _ h9 => h9) rfl dX11_undo_69 ?_
        have hf := Option.some.inj hf; subst hf
        rw [← hQ]
        exact g_iret hx hb hr hlocks hP hS dX11_undo_72
      · have hf := br_n hc hf
        refine lv_aload_n (pc := 41) hx hb dX11_undo_41 rfl (lv_at hl 1 rfl) ?_
        refine va_get (pc := 42) (D := G.1) (ci := 8) (v := .ref hw0_1) (C := RX11) (T := TX11) (N := 14) hx hb hts inX11 hown hK.1 hP 0 rfl rfl 0 (by decide) (hts _ wd_880) (fun _ h9 => h9) rfl dX11_undo_42 ?_
        refine lv_iload_n (pc := 45) hx hb dX11_undo_45 rfl (lv_at hl 0 rfl) ?_
        refine lv_aload_n (pc := 46) hx hb dX11_undo_46 rfl (lv_at hl 1 rfl) ?_
        refine va_get (pc := 47) (D := G.1) (ci := 8) (v := .ref hw0_2) (C := RX11) (T := TX11) (N := 14) hx hb hts inX11 hown hK.1 hP 0 rfl rfl 1 (by decide) (hts _ wd_881) (fun _ h9 => h9) rfl dX11_undo_47 ?_
        refine lv_sipush (pc := 50) (v := (617 : Int32)) hx hb dX11_undo_50 (by decide) ?_
        refine lv_aload_n (pc := 53) hx hb dX11_undo_53 rfl (lv_at hl 1 rfl) ?_
        refine va_get (pc := 54) (D := G.1) (ci := 8) (v := .int w0.2.2.1) (C := RX11) (T := TX11) (N := 14) hx hb hts inX11 hown hK.1 hP 0 rfl rfl 2 (by decide) (hts _ wd_882) (fun _ h9 => h9) rfl dX11_undo_54 ?_
        refine lv_imul (pc := 57) hx hb dX11_undo_57 ?_
        refine lv_iload_n (pc := 58) hx hb dX11_undo_58 rfl (lv_at hl 0 rfl) ?_
        refine lv_iadd (pc := 59) hx hb dX11_undo_59 ?_
        obtain ⟨hg, hf⟩ := gd_some hf
        refine va_iald (pc := 60) hx hb hK.1 hP 2 0 rfl rfl hg dX11_undo_60 ?_
        obtain ⟨hg, hf⟩ := gd_some hf
        refine va_iast (pc := 61) hx hb hK.1 hP hD hS 1 0 rfl rfl hg dX11_undo_61 (fun H locs hP hD hS => ?_)
        have hP : va_P G.1 vwCl [(hw0_0, .inr (8, [.ref hw0_1, .ref hw0_2, .int w0.2.2.1, .int w0.2.2.2.1, .ref hw0_3, .ref hw0_4, .int w0.2.2.2.2.2.2.1, .int w0.2.2.2.2.2.2.2.1, .int w0.2.2.2.2.2.2.2.2.1, .ref hw0_5, .ref hw0_6, .ref hw0_7, .int w0.2.2.2.2.2.2.2.2.2.2.2.2.1, .ref hw0_8])), (hw0_1, .inl (G.2.1, 617, .inl (upd w0.1 v1.toNatClampNeg (w0.2.1 (((617 : Int32) * w0.2.2.1) + v1).toNatClampNeg)))), (hw0_2, .inl (G.2.1, 2468, .inl w0.2.1)), (hw0_3, .inl (G.2.1, 30, .inl w0.2.2.2.2.1)), (hw0_4, .inl (G.2.1, 4000, .inl w0.2.2.2.2.2.1)), (hw0_5, .inl (G.2.1, 120, .inl w0.2.2.2.2.2.2.2.2.2.1)), (hw0_6, .inl (G.2.1, 64, .inl w0.2.2.2.2.2.2.2.2.2.2.1)), (hw0_7, .inl (G.2.2.1, 64, .inl w0.2.2.2.2.2.2.2.2.2.2.2.1)), (hw0_8, .inl (G.2.1, 64, .inl w0.2.2.2.2.2.2.2.2.2.2.2.2.2))] H := hP
        have hD : va_D A [(hw0_0, .inr (8, [.ref hw0_1, .ref hw0_2, .int w0.2.2.1, .int w0.2.2.2.1, .ref hw0_3, .ref hw0_4, .int w0.2.2.2.2.2.2.1, .int w0.2.2.2.2.2.2.2.1, .int w0.2.2.2.2.2.2.2.2.1, .ref hw0_5, .ref hw0_6, .ref hw0_7, .int w0.2.2.2.2.2.2.2.2.2.2.2.2.1, .ref hw0_8])), (hw0_1, .inl (G.2.1, 617, .inl (upd w0.1 v1.toNatClampNeg (w0.2.1 (((617 : Int32) * w0.2.2.1) + v1).toNatClampNeg)))), (hw0_2, .inl (G.2.1, 2468, .inl w0.2.1)), (hw0_3, .inl (G.2.1, 30, .inl w0.2.2.2.2.1)), (hw0_4, .inl (G.2.1, 4000, .inl w0.2.2.2.2.2.1)), (hw0_5, .inl (G.2.1, 120, .inl w0.2.2.2.2.2.2.2.2.2.1)), (hw0_6, .inl (G.2.1, 64, .inl w0.2.2.2.2.2.2.2.2.2.2.1)), (hw0_7, .inl (G.2.2.1, 64, .inl w0.2.2.2.2.2.2.2.2.2.2.2.1)), (hw0_8, .inl (G.2.1, 64, .inl w0.2.2.2.2.2.2.2.2.2.2.2.2.2))] := hD
        refine lv_iinc (pc := 62) (v := (v1 + (1 : Int32))) (lv' := [(1, .int (v1 + (1 : Int32))), (0, .ref hw0_0)]) hx hb dX11_undo_62 hl (k := 0) rfl rfl (by decide) rfl (fun ls hl => ?_)
        refine lv_goto (pc := 65) (tgt := 34) hx hb dX11_undo_65 (by decide) ?_
        exact ih34 ((upd w0.1 v1.toNatClampNeg (w0.2.1 (((617 : Int32) * w0.2.2.1) + v1).toNatClampNeg)), w0.2.1, w0.2.2.1, w0.2.2.2.1, w0.2.2.2.2.1, w0.2.2.2.2.2.1, w0.2.2.2.2.2.2.1, w0.2.2.2.2.2.2.2.1, w0.2.2.2.2.2.2.2.2.1, w0.2.2.2.2.2.2.2.2.2.1, w0.2.2.2.2.2.2.2.2.2.2.1, w0.2.2.2.2.2.2.2.2.2.2.2.1, w0.2.2.2.2.2.2.2.2.2.2.2.2.1, w0.2.2.2.2.2.2.2.2.2.2.2.2.2) (v1 + (1 : Int32)) hf H locs hP hD hS ls (lv_sub hl [0, 1] rfl)
  have hJ13 : ∀ (w0 : TModel) (s0 : Int32), f_X11_undo_J13   w0 s0 = some r → ∀ (H : Heap) (locs : List Loc), va_P G.1 vwCl [(hw0_0, .inr (8, [.ref hw0_1, .ref hw0_2, .int w0.2.2.1, .int w0.2.2.2.1, .ref hw0_3, .ref hw0_4, .int w0.2.2.2.2.2.2.1, .int w0.2.2.2.2.2.2.2.1, .int w0.2.2.2.2.2.2.2.2.1, .ref hw0_5, .ref hw0_6, .ref hw0_7, .int w0.2.2.2.2.2.2.2.2.2.2.2.2.1, .ref hw0_8])), (hw0_1, .inl (G.2.1, 617, .inl w0.1)), (hw0_2, .inl (G.2.1, 2468, .inl w0.2.1)), (hw0_3, .inl (G.2.1, 30, .inl w0.2.2.2.2.1)), (hw0_4, .inl (G.2.1, 4000, .inl w0.2.2.2.2.2.1)), (hw0_5, .inl (G.2.1, 120, .inl w0.2.2.2.2.2.2.2.2.2.1)), (hw0_6, .inl (G.2.1, 64, .inl w0.2.2.2.2.2.2.2.2.2.2.1)), (hw0_7, .inl (G.2.2.1, 64, .inl w0.2.2.2.2.2.2.2.2.2.2.2.1)), (hw0_8, .inl (G.2.1, 64, .inl w0.2.2.2.2.2.2.2.2.2.2.2.2.2))] H → va_D A [(hw0_0, .inr (8, [.ref hw0_1, .ref hw0_2, .int w0.2.2.1, .int w0.2.2.2.1, .ref hw0_3, .ref hw0_4, .int w0.2.2.2.2.2.2.1, .int w0.2.2.2.2.2.2.2.1, .int w0.2.2.2.2.2.2.2.2.1, .ref hw0_5, .ref hw0_6, .ref hw0_7, .int w0.2.2.2.2.2.2.2.2.2.2.2.2.1, .ref hw0_8])), (hw0_1, .inl (G.2.1, 617, .inl w0.1)), (hw0_2, .inl (G.2.1, 2468, .inl w0.2.1)), (hw0_3, .inl (G.2.1, 30, .inl w0.2.2.2.2.1)), (hw0_4, .inl (G.2.1, 4000, .inl w0.2.2.2.2.2.1)), (hw0_5, .inl (G.2.1, 120, .inl w0.2.2.2.2.2.2.2.2.2.1)), (hw0_6, .inl (G.2.1, 64, .inl w0.2.2.2.2.2.2.2.2.2.2.1)), (hw0_7, .inl (G.2.2.1, 64, .inl w0.2.2.2.2.2.2.2.2.2.2.2.1)), (hw0_8, .inl (G.2.1, 64, .inl w0.2.2.2.2.2.2.2.2.2.2.2.2.2))] → va_S A s.heap H locs → ∀ (ls : Array Slot), lv_has ls 2 [(0, .ref hw0_0)] → W p l e (rm_X11_undo) s m args below meth c H locs 0 0 Q (F0 m 13 ls [.int s0, .ref hw0_0]) := by
    intro w0 s0 hf H locs hP hD hS ls hl
    unfold f_X11_undo_J13 at hf
    refine lv_iconst (pc := 13) (v := (1 : Int32)) hx hb dX11_undo_13 (by decide) ?_
    obtain ⟨x1, hcx1, hf⟩ := bn_some hf
    refine g_callV (pc := 14) (ws' := [(hw0_0, .inr (8, [.ref hw0_1, .ref hw0_2, .int x1.2.2.2.1, .int x1.2.2.2.2.1, .ref hw0_3, .ref hw0_4, .int x1.2.2.2.2.2.2.2.1, .int x1.2.2.2.2.2.2.2.2.1, .int x1.2.2.2.2.2.2.2.2.2.1, .ref hw0_5, .ref hw0_6, .ref hw0_7, .int x1.2.2.2.2.2.2.2.2.2.2.2.2.2.1, .ref hw0_8])), (hw0_1, .inl (G.2.1, 617, .inl x1.2.1)), (hw0_2, .inl (G.2.1, 2468, .inl x1.2.2.1)), (hw0_3, .inl (G.2.1, 30, .inl x1.2.2.2.2.2.1)), (hw0_4, .inl (G.2.1, 4000, .inl x1.2.2.2.2.2.2.1)), (hw0_5, .inl (G.2.1, 120, .inl x1.2.2.2.2.2.2.2.2.2.2.1)), (hw0_6, .inl (G.2.1, 64, .inl x1.2.2.2.2.2.2.2.2.2.2.2.1)), (hw0_7, .inl (G.2.2.1, 64, .inl x1.2.2.2.2.2.2.2.2.2.2.2.2.1)), (hw0_8, .inl (G.2.1, 64, .inl x1.2.2.2.2.2.2.2.2.2.2.2.2.2.2))]) (rest := []) hx hb hml hown hts hK (c_X11_goes l G hw0_0 hw0_1 hw0_2 hw0_3 hw0_4 hw0_5 hw0_6 hw0_7 hw0_8 w0 s0 (1 : Int32) hcx1) wd_949 wd_10 wd_946 wd_948 ws_13 hd_X11_goes ⟨rfl, rfl, Nat.le_of_ble_eq_true rfl, Nat.le_of_ble_eq_true rfl⟩ hP hD hS hA [0, 1, 2, 3, 4, 5, 6, 7, 8] rfl rfl rfl rfl 8 0 rfl rfl rfl rfl hl.1 rfl (Nat.le_of_ble_eq_true rfl) dX11_undo_14 ⟨Nat.zero_le _, Nat.zero_le _⟩ (fun H locs hP hD hS => ?_)
    refine lv_if_ne (pc := 17) (tgt := 22) hx hb dX11_undo_17 (by decide) (fun hc => ?_) (fun hc => ?_)
    · have hf := br_n hc hf
      refine lv_aload_n (pc := 22) hx hb dX11_undo_22 rfl (lv_at hl 0 rfl) ?_
      refine lv_dup (pc := 23) hx hb dX11_undo_23 rfl ?_
      refine va_get (pc := 24) (D := G.1) (ci := 8) (v := .int x1.2.2.2.1) (C := RX11) (T := TX11) (N := 14) hx hb hts inX11 hown hK.1 hP 0 rfl rfl 2 (by decide) (hts _ wd_882) (fun _ h9 => h9) rfl dX11_undo_24 ?_
      refine lv_iconst (pc := 27) (v := (1 : Int32)) hx hb dX11_undo_27 (by decide) ?_
      refine lv_isub (pc := 28) hx hb dX11_undo_28 ?_
      refine va_put (pc := 29) (D := G.1) (ci := 8) (v := .int (x1.2.2.2.1 - (1 : Int32))) (ty := .int) (C := RX11) (T := TX11) (N := 14) hx hb hts inX11 tyX11 tyX11_ok nmX11 hown hK.1 hP hD hS 0 rfl rfl 2 (by decide) (hts _ wd_882) (fun _ h9 => h9) rfl (by decide +kernel) rfl rfl (Nat.le_of_ble_eq_true rfl) dX11_undo_29 (fun H locs hP hD hS => ?_)
      have hP : va_P G.1 vwCl [(hw0_0, .inr (8, [.ref hw0_1, .ref hw0_2, .int (x1.2.2.2.1 - (1 : Int32)), .int x1.2.2.2.2.1, .ref hw0_3, .ref hw0_4, .int x1.2.2.2.2.2.2.2.1, .int x1.2.2.2.2.2.2.2.2.1, .int x1.2.2.2.2.2.2.2.2.2.1, .ref hw0_5, .ref hw0_6, .ref hw0_7, .int x1.2.2.2.2.2.2.2.2.2.2.2.2.2.1, .ref hw0_8])), (hw0_1, .inl (G.2.1, 617, .inl x1.2.1)), (hw0_2, .inl (G.2.1, 2468, .inl x1.2.2.1)), (hw0_3, .inl (G.2.1, 30, .inl x1.2.2.2.2.2.1)), (hw0_4, .inl (G.2.1, 4000, .inl x1.2.2.2.2.2.2.1)), (hw0_5, .inl (G.2.1, 120, .inl x1.2.2.2.2.2.2.2.2.2.2.1)), (hw0_6, .inl (G.2.1, 64, .inl x1.2.2.2.2.2.2.2.2.2.2.2.1)), (hw0_7, .inl (G.2.2.1, 64, .inl x1.2.2.2.2.2.2.2.2.2.2.2.2.1)), (hw0_8, .inl (G.2.1, 64, .inl x1.2.2.2.2.2.2.2.2.2.2.2.2.2.2))] H := hP
      have hD : va_D A [(hw0_0, .inr (8, [.ref hw0_1, .ref hw0_2, .int (x1.2.2.2.1 - (1 : Int32)), .int x1.2.2.2.2.1, .ref hw0_3, .ref hw0_4, .int x1.2.2.2.2.2.2.2.1, .int x1.2.2.2.2.2.2.2.2.1, .int x1.2.2.2.2.2.2.2.2.2.1, .ref hw0_5, .ref hw0_6, .ref hw0_7, .int x1.2.2.2.2.2.2.2.2.2.2.2.2.2.1, .ref hw0_8])), (hw0_1, .inl (G.2.1, 617, .inl x1.2.1)), (hw0_2, .inl (G.2.1, 2468, .inl x1.2.2.1)), (hw0_3, .inl (G.2.1, 30, .inl x1.2.2.2.2.2.1)), (hw0_4, .inl (G.2.1, 4000, .inl x1.2.2.2.2.2.2.1)), (hw0_5, .inl (G.2.1, 120, .inl x1.2.2.2.2.2.2.2.2.2.2.1)), (hw0_6, .inl (G.2.1, 64, .inl x1.2.2.2.2.2.2.2.2.2.2.2.1)), (hw0_7, .inl (G.2.2.1, 64, .inl x1.2.2.2.2.2.2.2.2.2.2.2.2.1)), (hw0_8, .inl (G.2.1, 64, .inl x1.2.2.2.2.2.2.2.2.2.2.2.2.2.2))] := hD
      refine lv_iconst (pc := 32) (v := (0 : Int32)) hx hb dX11_undo_32 (by decide) ?_
      refine lv_istore_n (pc := 33) (lv' := [(1, .int (0 : Int32)), (0, .ref hw0_0)]) hx hb dX11_undo_33 rfl hl (by decide) rfl (fun ls hl => ?_)
      exact hL34 FUEL (x1.2.1, x1.2.2.1, (x1.2.2.2.1 - (1 : Int32)), x1.2.2.2.2.1, x1.2.2.2.2.2.1, x1.2.2.2.2.2.2.1, x1.2.2.2.2.2.2.2.1, x1.2.2.2.2.2.2.2.2.1, x1.2.2.2.2.2.2.2.2.2.1, x1.2.2.2.2.2.2.2.2.2.2.1, x1.2.2.2.2.2.2.2.2.2.2.2.1, x1.2.2.2.2.2.2.2.2.2.2.2.2.1, x1.2.2.2.2.2.2.2.2.2.2.2.2.2.1, x1.2.2.2.2.2.2.2.2.2.2.2.2.2.2) (0 : Int32) hf H locs hP hD hS ls (lv_sub hl [0, 1] rfl)
    · have hf := br_y hc hf
      refine lv_iconst (pc := 20) (v := (0 : Int32)) hx hb dX11_undo_20 (by decide) ?_
      have hf := Option.some.inj hf; subst hf
      rw [← hQ]
      exact g_iret hx hb hr hlocks hP hS dX11_undo_21
  refine lv_aload_n (pc := 0) hx hb dX11_undo_0 rfl (lv_at hl 0 rfl) ?_
  refine lv_aload_n (pc := 1) hx hb dX11_undo_1 rfl (lv_at hl 0 rfl) ?_
  refine va_get (pc := 2) (D := G.1) (ci := 8) (v := .int w0.2.2.1) (C := RX11) (T := TX11) (N := 14) hx hb hts inX11 hown hK.1 hP 0 rfl rfl 2 (by decide) (hts _ wd_882) (fun _ h9 => h9) rfl dX11_undo_2 ?_
  refine lv_if_le (pc := 5) (tgt := 12) hx hb dX11_undo_5 (by decide) (fun hc => ?_) (fun hc => ?_)
  · have hf := br_y hc hf
    refine lv_iconst (pc := 12) (v := (0 : Int32)) hx hb dX11_undo_12 (by decide) ?_
    exact hJ13 w0 (0 : Int32) hf H locs hP hD hS ls (lv_sub hl [0] rfl)
  · have hf := br_n hc hf
    refine lv_iconst (pc := 8) (v := (1 : Int32)) hx hb dX11_undo_8 (by decide) ?_
    refine lv_goto (pc := 9) (tgt := 13) hx hb dX11_undo_9 (by decide) ?_
    exact hJ13 w0 (1 : Int32) hf H locs hP hD hS ls (lv_sub hl [0] rfl)
theorem hd_X11_sums : yX11_sums.cls ≠ "java/lang/invoke/MethodHandle" ∧ yX11_sums.cls ≠ "java/lang/invoke/VarHandle" ∧ (parseMethodDescriptor yX11_sums.desc).map (fun d => d.parameters.length) = some 3 := by decide +kernel
abbrev rm_X11_sums : Room := { frames := 0, cells := 0, slots := 0, locals := 0 }
noncomputable def f_X11_sums_L6 (w0 : TModel) (p1 : Int64) (p2 : Int32) (p3 : Int32)  : Nat → Int32 → Int64 → Option Int64
  | 0, _, _ => none
  | k6 + 1, v7, v5 =>
    br (p3 ≤ v7) (some v5) (gd (vp_in (p2 + v7) 617) (nm (((31 : Int64) * v5) + (w0.1 (p2 + v7).toNatClampNeg).toInt64) (fun x1 => f_X11_sums_L6 w0 p1 p2 p3  k6 (v7 + (1 : Int32)) x1)))
noncomputable def f_X11_sums (w0 : TModel) (p1 : Int64) (p2 : Int32) (p3 : Int32) : Option Int64 :=
  f_X11_sums_L6 w0 p1 p2 p3 FUEL (0 : Int32) p1
set_option maxHeartbeats 4000000 in
set_option maxRecDepth 100000 in
theorem c_X11_sums (l : Launch) (G : GT) (hw0_0 hw0_1 hw0_2 hw0_3 hw0_4 hw0_5 hw0_6 hw0_7 hw0_8 : Nat) (w0 : TModel) (p1 : Int64) (p2 : Int32) (p3 : Int32) {r : Int64} (hf : f_X11_sums w0 p1 p2 p3 = some r) : Ct l yX11_sums (Cond.code yX11_sums cX11_sums 8 (some .long) :: lw_g) rm_X11_sums G [.ref hw0_0, .long p1, .int p2, .int p3] [(hw0_0, .inr (8, [.ref hw0_1, .ref hw0_2, .int w0.2.2.1, .int w0.2.2.2.1, .ref hw0_3, .ref hw0_4, .int w0.2.2.2.2.2.2.1, .int w0.2.2.2.2.2.2.2.1, .int w0.2.2.2.2.2.2.2.2.1, .ref hw0_5, .ref hw0_6, .ref hw0_7, .int w0.2.2.2.2.2.2.2.2.2.2.2.2.1, .ref hw0_8])), (hw0_1, .inl (G.2.1, 617, .inl w0.1)), (hw0_2, .inl (G.2.1, 2468, .inl w0.2.1)), (hw0_3, .inl (G.2.1, 30, .inl w0.2.2.2.2.1)), (hw0_4, .inl (G.2.1, 4000, .inl w0.2.2.2.2.2.1)), (hw0_5, .inl (G.2.1, 120, .inl w0.2.2.2.2.2.2.2.2.2.1)), (hw0_6, .inl (G.2.1, 64, .inl w0.2.2.2.2.2.2.2.2.2.2.1)), (hw0_7, .inl (G.2.2.1, 64, .inl w0.2.2.2.2.2.2.2.2.2.2.2.1)), (hw0_8, .inl (G.2.1, 64, .inl w0.2.2.2.2.2.2.2.2.2.2.2.2.2))] (some (.long r)) [(hw0_0, .inr (8, [.ref hw0_1, .ref hw0_2, .int w0.2.2.1, .int w0.2.2.2.1, .ref hw0_3, .ref hw0_4, .int w0.2.2.2.2.2.2.1, .int w0.2.2.2.2.2.2.2.1, .int w0.2.2.2.2.2.2.2.2.1, .ref hw0_5, .ref hw0_6, .ref hw0_7, .int w0.2.2.2.2.2.2.2.2.2.2.2.2.1, .ref hw0_8])), (hw0_1, .inl (G.2.1, 617, .inl w0.1)), (hw0_2, .inl (G.2.1, 2468, .inl w0.2.1)), (hw0_3, .inl (G.2.1, 30, .inl w0.2.2.2.2.1)), (hw0_4, .inl (G.2.1, 4000, .inl w0.2.2.2.2.2.1)), (hw0_5, .inl (G.2.1, 120, .inl w0.2.2.2.2.2.2.2.2.2.1)), (hw0_6, .inl (G.2.1, 64, .inl w0.2.2.2.2.2.2.2.2.2.2.1)), (hw0_7, .inl (G.2.2.1, 64, .inl w0.2.2.2.2.2.2.2.2.2.2.2.1)), (hw0_8, .inl (G.2.1, 64, .inl w0.2.2.2.2.2.2.2.2.2.2.2.2.2))] := by
  refine Ct.ofW (cc := cX11_sums) (maxL := 8) (ret := (some .long)) (own := RX11) (by decide) rfl rfl (Nat.le_of_ble_eq_true rfl) ?_
  intro p e s m args below meth c A hx hb hr hml hts hown hlocks hK hP hD hA hS ls hl
  have hl : lv_has ls 8 [(0, .ref hw0_0), (1, .long p1), (3, .int p2), (4, .int p3)] := hl
  generalize hQ : gMQ below G _ _ A args s = Q
  generalize hH : s.heap = H at hP ⊢
  have hS : va_S A s.heap H [] := by rw [← hH]; exact hS
  generalize ([] : List Loc) = locs at hS ⊢
  unfold f_X11_sums at hf
  have hL6 : ∀ (k6 : Nat) (v7 : Int32) (v5 : Int64), f_X11_sums_L6 w0 p1 p2 p3  k6 v7 v5 = some r → ∀ (H : Heap) (locs : List Loc), va_P G.1 vwCl [(hw0_0, .inr (8, [.ref hw0_1, .ref hw0_2, .int w0.2.2.1, .int w0.2.2.2.1, .ref hw0_3, .ref hw0_4, .int w0.2.2.2.2.2.2.1, .int w0.2.2.2.2.2.2.2.1, .int w0.2.2.2.2.2.2.2.2.1, .ref hw0_5, .ref hw0_6, .ref hw0_7, .int w0.2.2.2.2.2.2.2.2.2.2.2.2.1, .ref hw0_8])), (hw0_1, .inl (G.2.1, 617, .inl w0.1)), (hw0_2, .inl (G.2.1, 2468, .inl w0.2.1)), (hw0_3, .inl (G.2.1, 30, .inl w0.2.2.2.2.1)), (hw0_4, .inl (G.2.1, 4000, .inl w0.2.2.2.2.2.1)), (hw0_5, .inl (G.2.1, 120, .inl w0.2.2.2.2.2.2.2.2.2.1)), (hw0_6, .inl (G.2.1, 64, .inl w0.2.2.2.2.2.2.2.2.2.2.1)), (hw0_7, .inl (G.2.2.1, 64, .inl w0.2.2.2.2.2.2.2.2.2.2.2.1)), (hw0_8, .inl (G.2.1, 64, .inl w0.2.2.2.2.2.2.2.2.2.2.2.2.2))] H → va_D A [(hw0_0, .inr (8, [.ref hw0_1, .ref hw0_2, .int w0.2.2.1, .int w0.2.2.2.1, .ref hw0_3, .ref hw0_4, .int w0.2.2.2.2.2.2.1, .int w0.2.2.2.2.2.2.2.1, .int w0.2.2.2.2.2.2.2.2.1, .ref hw0_5, .ref hw0_6, .ref hw0_7, .int w0.2.2.2.2.2.2.2.2.2.2.2.2.1, .ref hw0_8])), (hw0_1, .inl (G.2.1, 617, .inl w0.1)), (hw0_2, .inl (G.2.1, 2468, .inl w0.2.1)), (hw0_3, .inl (G.2.1, 30, .inl w0.2.2.2.2.1)), (hw0_4, .inl (G.2.1, 4000, .inl w0.2.2.2.2.2.1)), (hw0_5, .inl (G.2.1, 120, .inl w0.2.2.2.2.2.2.2.2.2.1)), (hw0_6, .inl (G.2.1, 64, .inl w0.2.2.2.2.2.2.2.2.2.2.1)), (hw0_7, .inl (G.2.2.1, 64, .inl w0.2.2.2.2.2.2.2.2.2.2.2.1)), (hw0_8, .inl (G.2.1, 64, .inl w0.2.2.2.2.2.2.2.2.2.2.2.2.2))] → va_S A s.heap H locs → ∀ (ls : Array Slot), lv_has ls 8 [(7, .int v7), (5, .long v5), (0, .ref hw0_0), (3, .int p2), (4, .int p3)] → W p l e (rm_X11_sums) s m args below meth c H locs 0 0 Q (F0 m 6 ls []) := by
    intro k6
    induction k6 with
    | zero =>
      intro v7 v5 hf
      rw [f_X11_sums_L6.eq_1] at hf; cases hf
    | succ k6 ih6 =>
      intro v7 v5 hf H locs hP hD hS ls hl
      rw [f_X11_sums_L6.eq_2] at hf
      refine lv_iload (pc := 6) hx hb dX11_sums_6 (lv_at hl 0 rfl) ?_
      refine lv_iload (pc := 8) hx hb dX11_sums_8 (lv_at hl 4 rfl) ?_
      refine lv_icmp_ge (pc := 10) (tgt := 38) hx hb dX11_sums_10 (by decide) (fun hc => ?_) (fun hc => ?_)
      · have hf := br_y hc hf
        refine lv_lload (pc := 38) hx hb dX11_sums_38 (lv_at hl 1 rfl) ?_
        have hf := Option.some.inj hf; subst hf
        rw [← hQ]
        exact g_lret hx hb hr hlocks hP hS dX11_sums_40
      · have hf := br_n hc hf
        refine lv_ldc2 (pc := 13) (v := (31 : Int64)) hx hb hown (hts _ wd_1161) dX11_sums_13 ?_
        refine lv_lload (pc := 16) hx hb dX11_sums_16 (lv_at hl 1 rfl) ?_
        refine lv_lmul (pc := 18) hx hb dX11_sums_18 ?_
        refine lv_aload_n (pc := 19) hx hb dX11_sums_19 rfl (lv_at hl 2 rfl) ?_
        refine va_get (pc := 20) (D := G.1) (ci := 8) (v := .ref hw0_1) (C := RX11) (T := TX11) (N := 14) hx hb hts inX11 hown hK.1 hP 0 rfl rfl 0 (by decide) (hts _ wd_880) (fun _ h9 => h9) rfl dX11_sums_20 ?_
        refine lv_iload_n (pc := 23) hx hb dX11_sums_23 rfl (lv_at hl 3 rfl) ?_
        refine lv_iload (pc := 24) hx hb dX11_sums_24 (lv_at hl 0 rfl) ?_
        refine lv_iadd (pc := 26) hx hb dX11_sums_26 ?_
        obtain ⟨hg, hf⟩ := gd_some hf
        refine va_iald (pc := 27) hx hb hK.1 hP 1 0 rfl rfl hg dX11_sums_27 ?_
        refine lv_i2l (pc := 28) (v := (w0.1 (p2 + v7).toNatClampNeg).toInt64) hx hb dX11_sums_28 rfl ?_
        refine lv_ladd (pc := 29) hx hb dX11_sums_29 ?_
        refine lv_topl (fun x1 ex1 => ?_)
        have hf := nm_some hf ex1
        refine lv_lstore (pc := 30) (lv' := [(5, .long x1), (7, .int v7), (0, .ref hw0_0), (3, .int p2), (4, .int p3)]) hx hb dX11_sums_30 hl (by decide) rfl (fun ls hl => ?_)
        refine lv_iinc (pc := 32) (v := (v7 + (1 : Int32))) (lv' := [(7, .int (v7 + (1 : Int32))), (5, .long x1), (0, .ref hw0_0), (3, .int p2), (4, .int p3)]) hx hb dX11_sums_32 hl (k := 1) rfl rfl (by decide) rfl (fun ls hl => ?_)
        refine lv_goto (pc := 35) (tgt := 6) hx hb dX11_sums_35 (by decide) ?_
        exact ih6 (v7 + (1 : Int32)) x1 hf H locs hP hD hS ls (lv_sub hl [0, 1, 2, 3, 4] rfl)
  refine lv_lload_n (pc := 0) hx hb dX11_sums_0 rfl (lv_at hl 1 rfl) ?_
  refine lv_lstore (pc := 1) (lv' := [(5, .long p1), (0, .ref hw0_0), (1, .long p1), (3, .int p2), (4, .int p3)]) hx hb dX11_sums_1 hl (by decide) rfl (fun ls hl => ?_)
  refine lv_iconst (pc := 3) (v := (0 : Int32)) hx hb dX11_sums_3 (by decide) ?_
  refine lv_istore (pc := 4) (lv' := [(7, .int (0 : Int32)), (5, .long p1), (0, .ref hw0_0), (1, .long p1), (3, .int p2), (4, .int p3)]) hx hb dX11_sums_4 hl (by decide) rfl (fun ls hl => ?_)
  exact hL6 FUEL (0 : Int32) p1 hf H locs hP hD hS ls (lv_sub hl [0, 1, 2, 4, 5] rfl)
theorem hd_X11_digest : yX11_digest.cls ≠ "java/lang/invoke/MethodHandle" ∧ yX11_digest.cls ≠ "java/lang/invoke/VarHandle" ∧ (parseMethodDescriptor yX11_digest.desc).map (fun d => d.parameters.length) = some 0 := by decide +kernel
abbrev rm_X11_digest : Room := { frames := 4, cells := 0, slots := 0, locals := 88 }
noncomputable def f_X11_digest_J291   (w0 : TModel) (v1 : Int64) : Option (Int64 × TModel) :=
  some ((((31 : Int64) * v1) + w0.2.2.1.toInt64), w0)
noncomputable def f_X11_digest_J192   (w0 : TModel) (v1 : Int64) : Option (Int64 × TModel) :=
  gd (vp_in (349 : Int32) 617) (gd (vp_in (349 : Int32) 617) ((f_X11_sums w0 (((31 : Int64) * v1) + (w0.1 (349 : Int32).toNatClampNeg).toInt64) (350 : Int32) (w0.1 (349 : Int32).toNatClampNeg)).bind (fun x5 => gd (vp_in (550 : Int32) 617) (nm (((31 : Int64) * x5) + (w0.1 (550 : Int32).toNatClampNeg).toInt64) (fun x6 => (f_X11_works w0).bind (fun x7 => br (x7 = 0) (f_X11_digest_J291  w0 x6) (gd (vp_in (551 : Int32) 617) (gd (vp_in (552 : Int32) 617) (gd (vp_in (552 : Int32) 617) ((f_X11_sums w0 (((31 : Int64) * (((31 : Int64) * x6) + (w0.1 (551 : Int32).toNatClampNeg).toInt64)) + (w0.1 (552 : Int32).toNatClampNeg).toInt64) (553 : Int32) (w0.1 (552 : Int32).toNatClampNeg)).bind (fun x8 => f_X11_digest_J291  w0 x8)))))))))))
noncomputable def f_X11_digest_J121  (rec62 : TModel → Int32 → Int64 → Option (Int64 × TModel)) (w0 : TModel) (v3 : Int32) (s0 : Int64) : Option (Int64 × TModel) :=
  rec62 w0 (v3 + (1 : Int32)) s0
noncomputable def f_X11_digest_L62   : Nat → TModel → Int32 → Int64 → Option (Int64 × TModel)
  | 0, _, _, _ => none
  | k62 + 1, w0, v3, v1 =>
    gd (vp_in (132 : Int32) 617) (br ((w0.1 (132 : Int32).toNatClampNeg) ≤ v3) ((f_X11_leastLossOf w0).bind (fun x2 => gd (vp_in (317 : Int32) 617) (nm (((31 : Int64) * (((31 : Int64) * v1) + x2.1.toInt64)) + (x2.2.1 (317 : Int32).toNatClampNeg).toInt64) (fun x3 => (f_X11_isPlanned x2.2).bind (fun x4 => br (x4 = 0) (f_X11_digest_J192  x2.2 x3) (gd (vp_in (132 : Int32) 617) ((f_X11_sums x2.2 x3 (318 : Int32) (x2.2.1 (132 : Int32).toNatClampNeg)).bind (fun x9 => gd (vp_in (348 : Int32) 617) (nm (((31 : Int64) * x9) + (x2.2.1 (348 : Int32).toNatClampNeg).toInt64) (fun x10 => f_X11_digest_J192  x2.2 x10)))))))))) ((f_X11_sums w0 v1 ((133 : Int32) + ((4 : Int32) * v3)) (4 : Int32)).bind (fun x11 => (f_X11_isCopy w0 v3).bind (fun x12 => br (x12 = 0) ((f_X11_of w0 v3 (2 : Int32)).bind (fun x13 => (f_X11_of w0 v3 (3 : Int32)).bind (fun x14 => (f_X11_sums w0 x11 ((253 : Int32) + x13) x14).bind (fun x15 => f_X11_digest_J121  (f_X11_digest_L62   k62) w0 v3 x15)))) (f_X11_digest_J121  (f_X11_digest_L62   k62) w0 v3 x11)))))
noncomputable def f_X11_digest_L11   : Nat → TModel → Int32 → Int64 → Option (Int64 × TModel)
  | 0, _, _, _ => none
  | k11 + 1, w0, v3, v1 =>
    br ((2 : Int32) ≤ v3) ((f_X11_sums w0 v1 (130 : Int32) (3 : Int32)).bind (fun x1 => f_X11_digest_L62  FUEL w0 (0 : Int32) x1)) ((f_X11_longOf w0 v3).bind (fun x16 => (f_X11_longOf w0 v3).bind (fun x17 => (f_X11_sums w0 (((31 : Int64) * v1) + x16.toInt64) ((2 : Int32) + ((64 : Int32) * v3)) x17).bind (fun x18 => f_X11_digest_L11   k11 w0 (v3 + (1 : Int32)) x18))))
noncomputable def f_X11_digest (w0 : TModel) : Option (Int64 × TModel) :=
  f_X11_digest_L11  FUEL (w0.1, w0.2.1, w0.2.2.1, (0 : Int32), w0.2.2.2.2.1, w0.2.2.2.2.2.1, w0.2.2.2.2.2.2.1, w0.2.2.2.2.2.2.2.1, w0.2.2.2.2.2.2.2.2.1, w0.2.2.2.2.2.2.2.2.2.1, w0.2.2.2.2.2.2.2.2.2.2.1, w0.2.2.2.2.2.2.2.2.2.2.2.1, w0.2.2.2.2.2.2.2.2.2.2.2.2.1, w0.2.2.2.2.2.2.2.2.2.2.2.2.2) (0 : Int32) (2777 : Int64)
set_option maxHeartbeats 4000000 in
set_option maxRecDepth 100000 in
theorem c_X11_digest (l : Launch) (G : GT) (hw0_0 hw0_1 hw0_2 hw0_3 hw0_4 hw0_5 hw0_6 hw0_7 hw0_8 : Nat) (w0 : TModel) {r : Int64 × TModel} (hf : f_X11_digest w0 = some r) : Ct l yX11_digest (Cond.code yX11_digest cX11_digest 4 (some .long) :: lw_g) rm_X11_digest G [.ref hw0_0] [(hw0_0, .inr (8, [.ref hw0_1, .ref hw0_2, .int w0.2.2.1, .int w0.2.2.2.1, .ref hw0_3, .ref hw0_4, .int w0.2.2.2.2.2.2.1, .int w0.2.2.2.2.2.2.2.1, .int w0.2.2.2.2.2.2.2.2.1, .ref hw0_5, .ref hw0_6, .ref hw0_7, .int w0.2.2.2.2.2.2.2.2.2.2.2.2.1, .ref hw0_8])), (hw0_1, .inl (G.2.1, 617, .inl w0.1)), (hw0_2, .inl (G.2.1, 2468, .inl w0.2.1)), (hw0_3, .inl (G.2.1, 30, .inl w0.2.2.2.2.1)), (hw0_4, .inl (G.2.1, 4000, .inl w0.2.2.2.2.2.1)), (hw0_5, .inl (G.2.1, 120, .inl w0.2.2.2.2.2.2.2.2.2.1)), (hw0_6, .inl (G.2.1, 64, .inl w0.2.2.2.2.2.2.2.2.2.2.1)), (hw0_7, .inl (G.2.2.1, 64, .inl w0.2.2.2.2.2.2.2.2.2.2.2.1)), (hw0_8, .inl (G.2.1, 64, .inl w0.2.2.2.2.2.2.2.2.2.2.2.2.2))] (some (.long r.1)) [(hw0_0, .inr (8, [.ref hw0_1, .ref hw0_2, .int r.2.2.2.1, .int r.2.2.2.2.1, .ref hw0_3, .ref hw0_4, .int r.2.2.2.2.2.2.2.1, .int r.2.2.2.2.2.2.2.2.1, .int r.2.2.2.2.2.2.2.2.2.1, .ref hw0_5, .ref hw0_6, .ref hw0_7, .int r.2.2.2.2.2.2.2.2.2.2.2.2.2.1, .ref hw0_8])), (hw0_1, .inl (G.2.1, 617, .inl r.2.1)), (hw0_2, .inl (G.2.1, 2468, .inl r.2.2.1)), (hw0_3, .inl (G.2.1, 30, .inl r.2.2.2.2.2.1)), (hw0_4, .inl (G.2.1, 4000, .inl r.2.2.2.2.2.2.1)), (hw0_5, .inl (G.2.1, 120, .inl r.2.2.2.2.2.2.2.2.2.2.1)), (hw0_6, .inl (G.2.1, 64, .inl r.2.2.2.2.2.2.2.2.2.2.2.1)), (hw0_7, .inl (G.2.2.1, 64, .inl r.2.2.2.2.2.2.2.2.2.2.2.2.1)), (hw0_8, .inl (G.2.1, 64, .inl r.2.2.2.2.2.2.2.2.2.2.2.2.2.2))] := by
  refine Ct.ofW (cc := cX11_digest) (maxL := 4) (ret := (some .long)) (own := RX11) (by decide) rfl rfl (Nat.le_of_ble_eq_true rfl) ?_
  intro p e s m args below meth c A hx hb hr hml hts hown hlocks hK hP hD hA hS ls hl
  have hl : lv_has ls 4 [(0, .ref hw0_0)] := hl
  generalize hQ : gMQ below G _ _ A args s = Q
  generalize hH : s.heap = H at hP ⊢
  have hS : va_S A s.heap H [] := by rw [← hH]; exact hS
  generalize ([] : List Loc) = locs at hS ⊢
  unfold f_X11_digest at hf
  have hJ291 : ∀ (w0 : TModel) (v1 : Int64), f_X11_digest_J291   w0 v1 = some r → ∀ (H : Heap) (locs : List Loc), va_P G.1 vwCl [(hw0_0, .inr (8, [.ref hw0_1, .ref hw0_2, .int w0.2.2.1, .int w0.2.2.2.1, .ref hw0_3, .ref hw0_4, .int w0.2.2.2.2.2.2.1, .int w0.2.2.2.2.2.2.2.1, .int w0.2.2.2.2.2.2.2.2.1, .ref hw0_5, .ref hw0_6, .ref hw0_7, .int w0.2.2.2.2.2.2.2.2.2.2.2.2.1, .ref hw0_8])), (hw0_1, .inl (G.2.1, 617, .inl w0.1)), (hw0_2, .inl (G.2.1, 2468, .inl w0.2.1)), (hw0_3, .inl (G.2.1, 30, .inl w0.2.2.2.2.1)), (hw0_4, .inl (G.2.1, 4000, .inl w0.2.2.2.2.2.1)), (hw0_5, .inl (G.2.1, 120, .inl w0.2.2.2.2.2.2.2.2.2.1)), (hw0_6, .inl (G.2.1, 64, .inl w0.2.2.2.2.2.2.2.2.2.2.1)), (hw0_7, .inl (G.2.2.1, 64, .inl w0.2.2.2.2.2.2.2.2.2.2.2.1)), (hw0_8, .inl (G.2.1, 64, .inl w0.2.2.2.2.2.2.2.2.2.2.2.2.2))] H → va_D A [(hw0_0, .inr (8, [.ref hw0_1, .ref hw0_2, .int w0.2.2.1, .int w0.2.2.2.1, .ref hw0_3, .ref hw0_4, .int w0.2.2.2.2.2.2.1, .int w0.2.2.2.2.2.2.2.1, .int w0.2.2.2.2.2.2.2.2.1, .ref hw0_5, .ref hw0_6, .ref hw0_7, .int w0.2.2.2.2.2.2.2.2.2.2.2.2.1, .ref hw0_8])), (hw0_1, .inl (G.2.1, 617, .inl w0.1)), (hw0_2, .inl (G.2.1, 2468, .inl w0.2.1)), (hw0_3, .inl (G.2.1, 30, .inl w0.2.2.2.2.1)), (hw0_4, .inl (G.2.1, 4000, .inl w0.2.2.2.2.2.1)), (hw0_5, .inl (G.2.1, 120, .inl w0.2.2.2.2.2.2.2.2.2.1)), (hw0_6, .inl (G.2.1, 64, .inl w0.2.2.2.2.2.2.2.2.2.2.1)), (hw0_7, .inl (G.2.2.1, 64, .inl w0.2.2.2.2.2.2.2.2.2.2.2.1)), (hw0_8, .inl (G.2.1, 64, .inl w0.2.2.2.2.2.2.2.2.2.2.2.2.2))] → va_S A s.heap H locs → ∀ (ls : Array Slot), lv_has ls 4 [(1, .long v1), (0, .ref hw0_0)] → W p l e (rm_X11_digest) s m args below meth c H locs 0 0 Q (F0 m 291 ls []) := by
    intro w0 v1 hf H locs hP hD hS ls hl
    unfold f_X11_digest_J291 at hf
    refine lv_ldc2 (pc := 291) (v := (31 : Int64)) hx hb hown (hts _ wd_1161) dX11_digest_291 ?_
    refine lv_lload_n (pc := 294) hx hb dX11_digest_294 rfl (lv_at hl 0 rfl) ?_
    refine lv_lmul (pc := 295) hx hb dX11_digest_295 ?_
    refine lv_aload_n (pc := 296) hx hb dX11_digest_296 rfl (lv_at hl 1 rfl) ?_
    refine va_get (pc := 297) (D := G.1) (ci := 8) (v := .int w0.2.2.1) (C := RX11) (T := TX11) (N := 14) hx hb hts inX11 hown hK.1 hP 0 rfl rfl 2 (by decide) (hts _ wd_882) (fun _ h9 => h9) rfl dX11_digest_297 ?_
    refine lv_i2l (pc := 300) (v := w0.2.2.1.toInt64) hx hb dX11_digest_300 rfl ?_
    refine lv_ladd (pc := 301) hx hb dX11_digest_301 ?_
    have hf := Option.some.inj hf; subst hf
    rw [← hQ]
    exact g_lret hx hb hr hlocks hP hS dX11_digest_302
  have hJ192 : ∀ (w0 : TModel) (v1 : Int64), f_X11_digest_J192   w0 v1 = some r → ∀ (H : Heap) (locs : List Loc), va_P G.1 vwCl [(hw0_0, .inr (8, [.ref hw0_1, .ref hw0_2, .int w0.2.2.1, .int w0.2.2.2.1, .ref hw0_3, .ref hw0_4, .int w0.2.2.2.2.2.2.1, .int w0.2.2.2.2.2.2.2.1, .int w0.2.2.2.2.2.2.2.2.1, .ref hw0_5, .ref hw0_6, .ref hw0_7, .int w0.2.2.2.2.2.2.2.2.2.2.2.2.1, .ref hw0_8])), (hw0_1, .inl (G.2.1, 617, .inl w0.1)), (hw0_2, .inl (G.2.1, 2468, .inl w0.2.1)), (hw0_3, .inl (G.2.1, 30, .inl w0.2.2.2.2.1)), (hw0_4, .inl (G.2.1, 4000, .inl w0.2.2.2.2.2.1)), (hw0_5, .inl (G.2.1, 120, .inl w0.2.2.2.2.2.2.2.2.2.1)), (hw0_6, .inl (G.2.1, 64, .inl w0.2.2.2.2.2.2.2.2.2.2.1)), (hw0_7, .inl (G.2.2.1, 64, .inl w0.2.2.2.2.2.2.2.2.2.2.2.1)), (hw0_8, .inl (G.2.1, 64, .inl w0.2.2.2.2.2.2.2.2.2.2.2.2.2))] H → va_D A [(hw0_0, .inr (8, [.ref hw0_1, .ref hw0_2, .int w0.2.2.1, .int w0.2.2.2.1, .ref hw0_3, .ref hw0_4, .int w0.2.2.2.2.2.2.1, .int w0.2.2.2.2.2.2.2.1, .int w0.2.2.2.2.2.2.2.2.1, .ref hw0_5, .ref hw0_6, .ref hw0_7, .int w0.2.2.2.2.2.2.2.2.2.2.2.2.1, .ref hw0_8])), (hw0_1, .inl (G.2.1, 617, .inl w0.1)), (hw0_2, .inl (G.2.1, 2468, .inl w0.2.1)), (hw0_3, .inl (G.2.1, 30, .inl w0.2.2.2.2.1)), (hw0_4, .inl (G.2.1, 4000, .inl w0.2.2.2.2.2.1)), (hw0_5, .inl (G.2.1, 120, .inl w0.2.2.2.2.2.2.2.2.2.1)), (hw0_6, .inl (G.2.1, 64, .inl w0.2.2.2.2.2.2.2.2.2.2.1)), (hw0_7, .inl (G.2.2.1, 64, .inl w0.2.2.2.2.2.2.2.2.2.2.2.1)), (hw0_8, .inl (G.2.1, 64, .inl w0.2.2.2.2.2.2.2.2.2.2.2.2.2))] → va_S A s.heap H locs → ∀ (ls : Array Slot), lv_has ls 4 [(1, .long v1), (0, .ref hw0_0)] → W p l e (rm_X11_digest) s m args below meth c H locs 0 0 Q (F0 m 192 ls []) := by
    intro w0 v1 hf H locs hP hD hS ls hl
    unfold f_X11_digest_J192 at hf
    refine lv_aload_n (pc := 192) hx hb dX11_digest_192 rfl (lv_at hl 1 rfl) ?_
    refine lv_ldc2 (pc := 193) (v := (31 : Int64)) hx hb hown (hts _ wd_1161) dX11_digest_193 ?_
    refine lv_lload_n (pc := 196) hx hb dX11_digest_196 rfl (lv_at hl 0 rfl) ?_
    refine lv_lmul (pc := 197) hx hb dX11_digest_197 ?_
    refine lv_aload_n (pc := 198) hx hb dX11_digest_198 rfl (lv_at hl 1 rfl) ?_
    refine va_get (pc := 199) (D := G.1) (ci := 8) (v := .ref hw0_1) (C := RX11) (T := TX11) (N := 14) hx hb hts inX11 hown hK.1 hP 0 rfl rfl 0 (by decide) (hts _ wd_880) (fun _ h9 => h9) rfl dX11_digest_199 ?_
    refine lv_sipush (pc := 202) (v := (349 : Int32)) hx hb dX11_digest_202 (by decide) ?_
    obtain ⟨hg, hf⟩ := gd_some hf
    refine va_iald (pc := 205) hx hb hK.1 hP 1 0 rfl rfl hg dX11_digest_205 ?_
    refine lv_i2l (pc := 206) (v := (w0.1 (349 : Int32).toNatClampNeg).toInt64) hx hb dX11_digest_206 rfl ?_
    refine lv_ladd (pc := 207) hx hb dX11_digest_207 ?_
    refine lv_sipush (pc := 208) (v := (350 : Int32)) hx hb dX11_digest_208 (by decide) ?_
    refine lv_aload_n (pc := 211) hx hb dX11_digest_211 rfl (lv_at hl 1 rfl) ?_
    refine va_get (pc := 212) (D := G.1) (ci := 8) (v := .ref hw0_1) (C := RX11) (T := TX11) (N := 14) hx hb hts inX11 hown hK.1 hP 0 rfl rfl 0 (by decide) (hts _ wd_880) (fun _ h9 => h9) rfl dX11_digest_212 ?_
    refine lv_sipush (pc := 215) (v := (349 : Int32)) hx hb dX11_digest_215 (by decide) ?_
    obtain ⟨hg, hf⟩ := gd_some hf
    refine va_iald (pc := 218) hx hb hK.1 hP 1 0 rfl rfl hg dX11_digest_218 ?_
    obtain ⟨x5, hcx5, hf⟩ := bn_some hf
    refine g_callV0 (pc := 219) (rest := []) hx hb hml hown hts hK (c_X11_sums l G hw0_0 hw0_1 hw0_2 hw0_3 hw0_4 hw0_5 hw0_6 hw0_7 hw0_8 w0 (((31 : Int64) * v1) + (w0.1 (349 : Int32).toNatClampNeg).toInt64) (350 : Int32) (w0.1 (349 : Int32).toNatClampNeg) hcx5) wd_1165 wd_10 wd_1162 wd_1164 ws_42 hd_X11_sums ⟨rfl, rfl, Nat.le_of_ble_eq_true rfl, Nat.le_of_ble_eq_true rfl⟩ hP hD hS hA [0, 1, 2, 3, 4, 5, 6, 7, 8] rfl rfl 8 0 rfl rfl rfl rfl hl.1 rfl (Nat.le_of_ble_eq_true rfl) dX11_digest_219 ⟨Nat.zero_le _, Nat.zero_le _⟩ (fun H locs hP hS => ?_)
    refine lv_lstore_n (pc := 222) (lv' := [(1, .long x5), (0, .ref hw0_0)]) hx hb dX11_digest_222 rfl hl (by decide) rfl (fun ls hl => ?_)
    refine lv_ldc2 (pc := 223) (v := (31 : Int64)) hx hb hown (hts _ wd_1161) dX11_digest_223 ?_
    refine lv_lload_n (pc := 226) hx hb dX11_digest_226 rfl (lv_at hl 0 rfl) ?_
    refine lv_lmul (pc := 227) hx hb dX11_digest_227 ?_
    refine lv_aload_n (pc := 228) hx hb dX11_digest_228 rfl (lv_at hl 1 rfl) ?_
    refine va_get (pc := 229) (D := G.1) (ci := 8) (v := .ref hw0_1) (C := RX11) (T := TX11) (N := 14) hx hb hts inX11 hown hK.1 hP 0 rfl rfl 0 (by decide) (hts _ wd_880) (fun _ h9 => h9) rfl dX11_digest_229 ?_
    refine lv_sipush (pc := 232) (v := (550 : Int32)) hx hb dX11_digest_232 (by decide) ?_
    obtain ⟨hg, hf⟩ := gd_some hf
    refine va_iald (pc := 235) hx hb hK.1 hP 1 0 rfl rfl hg dX11_digest_235 ?_
    refine lv_i2l (pc := 236) (v := (w0.1 (550 : Int32).toNatClampNeg).toInt64) hx hb dX11_digest_236 rfl ?_
    refine lv_ladd (pc := 237) hx hb dX11_digest_237 ?_
    refine lv_topl (fun x6 ex6 => ?_)
    have hf := nm_some hf ex6
    refine lv_lstore_n (pc := 238) (lv' := [(1, .long x6), (0, .ref hw0_0)]) hx hb dX11_digest_238 rfl hl (by decide) rfl (fun ls hl => ?_)
    refine lv_aload_n (pc := 239) hx hb dX11_digest_239 rfl (lv_at hl 1 rfl) ?_
    obtain ⟨x7, hcx7, hf⟩ := bn_some hf
    refine g_callV0 (pc := 240) (rest := []) hx hb hml hown hts hK (c_X11_works l G hw0_0 hw0_1 hw0_2 hw0_3 hw0_4 hw0_5 hw0_6 hw0_7 hw0_8 w0 hcx7) wd_1139 wd_10 wd_1136 wd_1138 ws_41 hd_X11_works ⟨rfl, rfl, Nat.le_of_ble_eq_true rfl, Nat.le_of_ble_eq_true rfl⟩ hP hD hS hA [0, 1, 2, 3, 4, 5, 6, 7, 8] rfl rfl 8 0 rfl rfl rfl rfl hl.1 rfl (Nat.le_of_ble_eq_true rfl) dX11_digest_240 ⟨Nat.zero_le _, Nat.zero_le _⟩ (fun H locs hP hS => ?_)
    refine lv_if_eq (pc := 243) (tgt := 291) hx hb dX11_digest_243 (by decide) (fun hc => ?_) (fun hc => ?_)
    · have hf := br_y hc hf
      exact hJ291 w0 x6 hf H locs hP hD hS ls (lv_sub hl [0, 1] rfl)
    · have hf := br_n hc hf
      refine lv_aload_n (pc := 246) hx hb dX11_digest_246 rfl (lv_at hl 1 rfl) ?_
      refine lv_ldc2 (pc := 247) (v := (31 : Int64)) hx hb hown (hts _ wd_1161) dX11_digest_247 ?_
      refine lv_ldc2 (pc := 250) (v := (31 : Int64)) hx hb hown (hts _ wd_1161) dX11_digest_250 ?_
      refine lv_lload_n (pc := 253) hx hb dX11_digest_253 rfl (lv_at hl 0 rfl) ?_
      refine lv_lmul (pc := 254) hx hb dX11_digest_254 ?_
      refine lv_aload_n (pc := 255) hx hb dX11_digest_255 rfl (lv_at hl 1 rfl) ?_
      refine va_get (pc := 256) (D := G.1) (ci := 8) (v := .ref hw0_1) (C := RX11) (T := TX11) (N := 14) hx hb hts inX11 hown hK.1 hP 0 rfl rfl 0 (by decide) (hts _ wd_880) (fun _ h9 => h9) rfl dX11_digest_256 ?_
      refine lv_sipush (pc := 259) (v := (551 : Int32)) hx hb dX11_digest_259 (by decide) ?_
      obtain ⟨hg, hf⟩ := gd_some hf
      refine va_iald (pc := 262) hx hb hK.1 hP 1 0 rfl rfl hg dX11_digest_262 ?_
      refine lv_i2l (pc := 263) (v := (w0.1 (551 : Int32).toNatClampNeg).toInt64) hx hb dX11_digest_263 rfl ?_
      refine lv_ladd (pc := 264) hx hb dX11_digest_264 ?_
      refine lv_lmul (pc := 265) hx hb dX11_digest_265 ?_
      refine lv_aload_n (pc := 266) hx hb dX11_digest_266 rfl (lv_at hl 1 rfl) ?_
      refine va_get (pc := 267) (D := G.1) (ci := 8) (v := .ref hw0_1) (C := RX11) (T := TX11) (N := 14) hx hb hts inX11 hown hK.1 hP 0 rfl rfl 0 (by decide) (hts _ wd_880) (fun _ h9 => h9) rfl dX11_digest_267 ?_
      refine lv_sipush (pc := 270) (v := (552 : Int32)) hx hb dX11_digest_270 (by decide) ?_
      obtain ⟨hg, hf⟩ := gd_some hf
      refine va_iald (pc := 273) hx hb hK.1 hP 1 0 rfl rfl hg dX11_digest_273 ?_
      refine lv_i2l (pc := 274) (v := (w0.1 (552 : Int32).toNatClampNeg).toInt64) hx hb dX11_digest_274 rfl ?_
      refine lv_ladd (pc := 275) hx hb dX11_digest_275 ?_
      refine lv_sipush (pc := 276) (v := (553 : Int32)) hx hb dX11_digest_276 (by decide) ?_
      refine lv_aload_n (pc := 279) hx hb dX11_digest_279 rfl (lv_at hl 1 rfl) ?_
      refine va_get (pc := 280) (D := G.1) (ci := 8) (v := .ref hw0_1) (C := RX11) (T := TX11) (N := 14) hx hb hts inX11 hown hK.1 hP 0 rfl rfl 0 (by decide) (hts _ wd_880) (fun _ h9 => h9) rfl dX11_digest_280 ?_
      refine lv_sipush (pc := 283) (v := (552 : Int32)) hx hb dX11_digest_283 (by decide) ?_
      obtain ⟨hg, hf⟩ := gd_some hf
      refine va_iald (pc := 286) hx hb hK.1 hP 1 0 rfl rfl hg dX11_digest_286 ?_
      obtain ⟨x8, hcx8, hf⟩ := bn_some hf
      refine g_callV0 (pc := 287) (rest := []) hx hb hml hown hts hK (c_X11_sums l G hw0_0 hw0_1 hw0_2 hw0_3 hw0_4 hw0_5 hw0_6 hw0_7 hw0_8 w0 (((31 : Int64) * (((31 : Int64) * x6) + (w0.1 (551 : Int32).toNatClampNeg).toInt64)) + (w0.1 (552 : Int32).toNatClampNeg).toInt64) (553 : Int32) (w0.1 (552 : Int32).toNatClampNeg) hcx8) wd_1165 wd_10 wd_1162 wd_1164 ws_42 hd_X11_sums ⟨rfl, rfl, Nat.le_of_ble_eq_true rfl, Nat.le_of_ble_eq_true rfl⟩ hP hD hS hA [0, 1, 2, 3, 4, 5, 6, 7, 8] rfl rfl 8 0 rfl rfl rfl rfl hl.1 rfl (Nat.le_of_ble_eq_true rfl) dX11_digest_287 ⟨Nat.zero_le _, Nat.zero_le _⟩ (fun H locs hP hS => ?_)
      refine lv_lstore_n (pc := 290) (lv' := [(1, .long x8), (0, .ref hw0_0)]) hx hb dX11_digest_290 rfl hl (by decide) rfl (fun ls hl => ?_)
      exact hJ291 w0 x8 hf H locs hP hD hS ls (lv_sub hl [0, 1] rfl)
  have hL62 : ∀ (k62 : Nat) (w0 : TModel) (v3 : Int32) (v1 : Int64), f_X11_digest_L62   k62 w0 v3 v1 = some r → ∀ (H : Heap) (locs : List Loc), va_P G.1 vwCl [(hw0_0, .inr (8, [.ref hw0_1, .ref hw0_2, .int w0.2.2.1, .int w0.2.2.2.1, .ref hw0_3, .ref hw0_4, .int w0.2.2.2.2.2.2.1, .int w0.2.2.2.2.2.2.2.1, .int w0.2.2.2.2.2.2.2.2.1, .ref hw0_5, .ref hw0_6, .ref hw0_7, .int w0.2.2.2.2.2.2.2.2.2.2.2.2.1, .ref hw0_8])), (hw0_1, .inl (G.2.1, 617, .inl w0.1)), (hw0_2, .inl (G.2.1, 2468, .inl w0.2.1)), (hw0_3, .inl (G.2.1, 30, .inl w0.2.2.2.2.1)), (hw0_4, .inl (G.2.1, 4000, .inl w0.2.2.2.2.2.1)), (hw0_5, .inl (G.2.1, 120, .inl w0.2.2.2.2.2.2.2.2.2.1)), (hw0_6, .inl (G.2.1, 64, .inl w0.2.2.2.2.2.2.2.2.2.2.1)), (hw0_7, .inl (G.2.2.1, 64, .inl w0.2.2.2.2.2.2.2.2.2.2.2.1)), (hw0_8, .inl (G.2.1, 64, .inl w0.2.2.2.2.2.2.2.2.2.2.2.2.2))] H → va_D A [(hw0_0, .inr (8, [.ref hw0_1, .ref hw0_2, .int w0.2.2.1, .int w0.2.2.2.1, .ref hw0_3, .ref hw0_4, .int w0.2.2.2.2.2.2.1, .int w0.2.2.2.2.2.2.2.1, .int w0.2.2.2.2.2.2.2.2.1, .ref hw0_5, .ref hw0_6, .ref hw0_7, .int w0.2.2.2.2.2.2.2.2.2.2.2.2.1, .ref hw0_8])), (hw0_1, .inl (G.2.1, 617, .inl w0.1)), (hw0_2, .inl (G.2.1, 2468, .inl w0.2.1)), (hw0_3, .inl (G.2.1, 30, .inl w0.2.2.2.2.1)), (hw0_4, .inl (G.2.1, 4000, .inl w0.2.2.2.2.2.1)), (hw0_5, .inl (G.2.1, 120, .inl w0.2.2.2.2.2.2.2.2.2.1)), (hw0_6, .inl (G.2.1, 64, .inl w0.2.2.2.2.2.2.2.2.2.2.1)), (hw0_7, .inl (G.2.2.1, 64, .inl w0.2.2.2.2.2.2.2.2.2.2.2.1)), (hw0_8, .inl (G.2.1, 64, .inl w0.2.2.2.2.2.2.2.2.2.2.2.2.2))] → va_S A s.heap H locs → ∀ (ls : Array Slot), lv_has ls 4 [(3, .int v3), (1, .long v1), (0, .ref hw0_0)] → W p l e (rm_X11_digest) s m args below meth c H locs 0 0 Q (F0 m 62 ls []) := by
    intro k62
    induction k62 with
    | zero =>
      intro w0 v3 v1 hf
      rw [f_X11_digest_L62.eq_1] at hf; cases hf
    | succ k62 ih62 =>
      have hJ121 : ∀ (w0 : TModel) (v3 : Int32) (s0 : Int64), f_X11_digest_J121  (f_X11_digest_L62 k62) w0 v3 s0 = some r → ∀ (H : Heap) (locs : List Loc), va_P G.1 vwCl [(hw0_0, .inr (8, [.ref hw0_1, .ref hw0_2, .int w0.2.2.1, .int w0.2.2.2.1, .ref hw0_3, .ref hw0_4, .int w0.2.2.2.2.2.2.1, .int w0.2.2.2.2.2.2.2.1, .int w0.2.2.2.2.2.2.2.2.1, .ref hw0_5, .ref hw0_6, .ref hw0_7, .int w0.2.2.2.2.2.2.2.2.2.2.2.2.1, .ref hw0_8])), (hw0_1, .inl (G.2.1, 617, .inl w0.1)), (hw0_2, .inl (G.2.1, 2468, .inl w0.2.1)), (hw0_3, .inl (G.2.1, 30, .inl w0.2.2.2.2.1)), (hw0_4, .inl (G.2.1, 4000, .inl w0.2.2.2.2.2.1)), (hw0_5, .inl (G.2.1, 120, .inl w0.2.2.2.2.2.2.2.2.2.1)), (hw0_6, .inl (G.2.1, 64, .inl w0.2.2.2.2.2.2.2.2.2.2.1)), (hw0_7, .inl (G.2.2.1, 64, .inl w0.2.2.2.2.2.2.2.2.2.2.2.1)), (hw0_8, .inl (G.2.1, 64, .inl w0.2.2.2.2.2.2.2.2.2.2.2.2.2))] H → va_D A [(hw0_0, .inr (8, [.ref hw0_1, .ref hw0_2, .int w0.2.2.1, .int w0.2.2.2.1, .ref hw0_3, .ref hw0_4, .int w0.2.2.2.2.2.2.1, .int w0.2.2.2.2.2.2.2.1, .int w0.2.2.2.2.2.2.2.2.1, .ref hw0_5, .ref hw0_6, .ref hw0_7, .int w0.2.2.2.2.2.2.2.2.2.2.2.2.1, .ref hw0_8])), (hw0_1, .inl (G.2.1, 617, .inl w0.1)), (hw0_2, .inl (G.2.1, 2468, .inl w0.2.1)), (hw0_3, .inl (G.2.1, 30, .inl w0.2.2.2.2.1)), (hw0_4, .inl (G.2.1, 4000, .inl w0.2.2.2.2.2.1)), (hw0_5, .inl (G.2.1, 120, .inl w0.2.2.2.2.2.2.2.2.2.1)), (hw0_6, .inl (G.2.1, 64, .inl w0.2.2.2.2.2.2.2.2.2.2.1)), (hw0_7, .inl (G.2.2.1, 64, .inl w0.2.2.2.2.2.2.2.2.2.2.2.1)), (hw0_8, .inl (G.2.1, 64, .inl w0.2.2.2.2.2.2.2.2.2.2.2.2.2))] → va_S A s.heap H locs → ∀ (ls : Array Slot), lv_has ls 4 [(3, .int v3), (0, .ref hw0_0)] → W p l e (rm_X11_digest) s m args below meth c H locs 0 0 Q (F0 m 121 ls [.long s0]) := by
        intro w0 v3 s0 hf H locs hP hD hS ls hl
        unfold f_X11_digest_J121 at hf
        refine lv_lstore_n (pc := 121) (lv' := [(1, .long s0), (3, .int v3), (0, .ref hw0_0)]) hx hb dX11_digest_121 rfl hl (by decide) rfl (fun ls hl => ?_)
        refine lv_iinc (pc := 122) (v := (v3 + (1 : Int32))) (lv' := [(3, .int (v3 + (1 : Int32))), (1, .long s0), (0, .ref hw0_0)]) hx hb dX11_digest_122 hl (k := 1) rfl rfl (by decide) rfl (fun ls hl => ?_)
        refine lv_goto (pc := 125) (tgt := 62) hx hb dX11_digest_125 (by decide) ?_
        exact ih62 w0 (v3 + (1 : Int32)) s0 hf H locs hP hD hS ls (lv_sub hl [0, 1, 2] rfl)
      intro w0 v3 v1 hf H locs hP hD hS ls hl
      rw [f_X11_digest_L62.eq_2] at hf
      refine lv_iload_n (pc := 62) hx hb dX11_digest_62 rfl (lv_at hl 0 rfl) ?_
      refine lv_aload_n (pc := 63) hx hb dX11_digest_63 rfl (lv_at hl 2 rfl) ?_
      refine va_get (pc := 64) (D := G.1) (ci := 8) (v := .ref hw0_1) (C := RX11) (T := TX11) (N := 14) hx hb hts inX11 hown hK.1 hP 0 rfl rfl 0 (by decide) (hts _ wd_880) (fun _ h9 => h9) rfl dX11_digest_64 ?_
      refine lv_sipush (pc := 67) (v := (132 : Int32)) hx hb dX11_digest_67 (by decide) ?_
      obtain ⟨hg, hf⟩ := gd_some hf
      refine va_iald (pc := 70) hx hb hK.1 hP 1 0 rfl rfl hg dX11_digest_70 ?_
      refine lv_icmp_ge (pc := 71) (tgt := 128) hx hb dX11_digest_71 (by decide) (fun hc => ?_) (fun hc => ?_)
      · have hf := br_y hc hf
        refine lv_ldc2 (pc := 128) (v := (31 : Int64)) hx hb hown (hts _ wd_1161) dX11_digest_128 ?_
        refine lv_ldc2 (pc := 131) (v := (31 : Int64)) hx hb hown (hts _ wd_1161) dX11_digest_131 ?_
        refine lv_lload_n (pc := 134) hx hb dX11_digest_134 rfl (lv_at hl 1 rfl) ?_
        refine lv_lmul (pc := 135) hx hb dX11_digest_135 ?_
        refine lv_aload_n (pc := 136) hx hb dX11_digest_136 rfl (lv_at hl 2 rfl) ?_
        obtain ⟨x2, hcx2, hf⟩ := bn_some hf
        refine g_callV (pc := 137) (ws' := [(hw0_0, .inr (8, [.ref hw0_1, .ref hw0_2, .int x2.2.2.2.1, .int x2.2.2.2.2.1, .ref hw0_3, .ref hw0_4, .int x2.2.2.2.2.2.2.2.1, .int x2.2.2.2.2.2.2.2.2.1, .int x2.2.2.2.2.2.2.2.2.2.1, .ref hw0_5, .ref hw0_6, .ref hw0_7, .int x2.2.2.2.2.2.2.2.2.2.2.2.2.2.1, .ref hw0_8])), (hw0_1, .inl (G.2.1, 617, .inl x2.2.1)), (hw0_2, .inl (G.2.1, 2468, .inl x2.2.2.1)), (hw0_3, .inl (G.2.1, 30, .inl x2.2.2.2.2.2.1)), (hw0_4, .inl (G.2.1, 4000, .inl x2.2.2.2.2.2.2.1)), (hw0_5, .inl (G.2.1, 120, .inl x2.2.2.2.2.2.2.2.2.2.2.1)), (hw0_6, .inl (G.2.1, 64, .inl x2.2.2.2.2.2.2.2.2.2.2.2.1)), (hw0_7, .inl (G.2.2.1, 64, .inl x2.2.2.2.2.2.2.2.2.2.2.2.2.1)), (hw0_8, .inl (G.2.1, 64, .inl x2.2.2.2.2.2.2.2.2.2.2.2.2.2.2))]) (rest := [.long ((31 : Int64) * v1), .long (31 : Int64)]) hx hb hml hown hts hK (c_X11_leastLossOf l G hw0_0 hw0_1 hw0_2 hw0_3 hw0_4 hw0_5 hw0_6 hw0_7 hw0_8 w0 hcx2) wd_1071 wd_10 wd_1068 wd_1070 ws_31 hd_X11_leastLossOf ⟨rfl, rfl, Nat.le_of_ble_eq_true rfl, Nat.le_of_ble_eq_true rfl⟩ hP hD hS hA [0, 1, 2, 3, 4, 5, 6, 7, 8] rfl rfl rfl rfl 8 0 rfl rfl rfl rfl hl.1 rfl (Nat.le_of_ble_eq_true rfl) dX11_digest_137 ⟨Nat.zero_le _, Nat.zero_le _⟩ (fun H locs hP hD hS => ?_)
        refine lv_i2l (pc := 140) (v := x2.1.toInt64) hx hb dX11_digest_140 rfl ?_
        refine lv_ladd (pc := 141) hx hb dX11_digest_141 ?_
        refine lv_lmul (pc := 142) hx hb dX11_digest_142 ?_
        refine lv_aload_n (pc := 143) hx hb dX11_digest_143 rfl (lv_at hl 2 rfl) ?_
        refine va_get (pc := 144) (D := G.1) (ci := 8) (v := .ref hw0_1) (C := RX11) (T := TX11) (N := 14) hx hb hts inX11 hown hK.1 hP 0 rfl rfl 0 (by decide) (hts _ wd_880) (fun _ h9 => h9) rfl dX11_digest_144 ?_
        refine lv_sipush (pc := 147) (v := (317 : Int32)) hx hb dX11_digest_147 (by decide) ?_
        obtain ⟨hg, hf⟩ := gd_some hf
        refine va_iald (pc := 150) hx hb hK.1 hP 1 0 rfl rfl hg dX11_digest_150 ?_
        refine lv_i2l (pc := 151) (v := (x2.2.1 (317 : Int32).toNatClampNeg).toInt64) hx hb dX11_digest_151 rfl ?_
        refine lv_ladd (pc := 152) hx hb dX11_digest_152 ?_
        refine lv_topl (fun x3 ex3 => ?_)
        have hf := nm_some hf ex3
        refine lv_lstore_n (pc := 153) (lv' := [(1, .long x3), (3, .int v3), (0, .ref hw0_0)]) hx hb dX11_digest_153 rfl hl (by decide) rfl (fun ls hl => ?_)
        refine lv_aload_n (pc := 154) hx hb dX11_digest_154 rfl (lv_at hl 2 rfl) ?_
        obtain ⟨x4, hcx4, hf⟩ := bn_some hf
        refine g_callV0 (pc := 155) (rest := []) hx hb hml hown hts hK (c_X11_isPlanned l G hw0_0 hw0_1 hw0_2 hw0_3 hw0_4 hw0_5 hw0_6 hw0_7 hw0_8 x2.2 hcx4) wd_1051 wd_10 wd_1048 wd_1050 ws_29 hd_X11_isPlanned ⟨rfl, rfl, Nat.le_of_ble_eq_true rfl, Nat.le_of_ble_eq_true rfl⟩ hP hD hS hA [0, 1, 2, 3, 4, 5, 6, 7, 8] rfl rfl 8 0 rfl rfl rfl rfl hl.1 rfl (Nat.le_of_ble_eq_true rfl) dX11_digest_155 ⟨Nat.zero_le _, Nat.zero_le _⟩ (fun H locs hP hS => ?_)
        refine lv_if_eq (pc := 158) (tgt := 192) hx hb dX11_digest_158 (by decide) (fun hc => ?_) (fun hc => ?_)
        · have hf := br_y hc hf
          exact hJ192 x2.2 x3 hf H locs hP hD hS ls (lv_sub hl [0, 2] rfl)
        · have hf := br_n hc hf
          refine lv_ldc2 (pc := 161) (v := (31 : Int64)) hx hb hown (hts _ wd_1161) dX11_digest_161 ?_
          refine lv_aload_n (pc := 164) hx hb dX11_digest_164 rfl (lv_at hl 2 rfl) ?_
          refine lv_lload_n (pc := 165) hx hb dX11_digest_165 rfl (lv_at hl 0 rfl) ?_
          refine lv_sipush (pc := 166) (v := (318 : Int32)) hx hb dX11_digest_166 (by decide) ?_
          refine lv_aload_n (pc := 169) hx hb dX11_digest_169 rfl (lv_at hl 2 rfl) ?_
          refine va_get (pc := 170) (D := G.1) (ci := 8) (v := .ref hw0_1) (C := RX11) (T := TX11) (N := 14) hx hb hts inX11 hown hK.1 hP 0 rfl rfl 0 (by decide) (hts _ wd_880) (fun _ h9 => h9) rfl dX11_digest_170 ?_
          refine lv_sipush (pc := 173) (v := (132 : Int32)) hx hb dX11_digest_173 (by decide) ?_
          obtain ⟨hg, hf⟩ := gd_some hf
          refine va_iald (pc := 176) hx hb hK.1 hP 1 0 rfl rfl hg dX11_digest_176 ?_
          obtain ⟨x9, hcx9, hf⟩ := bn_some hf
          refine g_callV0 (pc := 177) (rest := [.long (31 : Int64)]) hx hb hml hown hts hK (c_X11_sums l G hw0_0 hw0_1 hw0_2 hw0_3 hw0_4 hw0_5 hw0_6 hw0_7 hw0_8 x2.2 x3 (318 : Int32) (x2.2.1 (132 : Int32).toNatClampNeg) hcx9) wd_1165 wd_10 wd_1162 wd_1164 ws_42 hd_X11_sums ⟨rfl, rfl, Nat.le_of_ble_eq_true rfl, Nat.le_of_ble_eq_true rfl⟩ hP hD hS hA [0, 1, 2, 3, 4, 5, 6, 7, 8] rfl rfl 8 0 rfl rfl rfl rfl hl.1 rfl (Nat.le_of_ble_eq_true rfl) dX11_digest_177 ⟨Nat.zero_le _, Nat.zero_le _⟩ (fun H locs hP hS => ?_)
          refine lv_lmul (pc := 180) hx hb dX11_digest_180 ?_
          refine lv_aload_n (pc := 181) hx hb dX11_digest_181 rfl (lv_at hl 2 rfl) ?_
          refine va_get (pc := 182) (D := G.1) (ci := 8) (v := .ref hw0_1) (C := RX11) (T := TX11) (N := 14) hx hb hts inX11 hown hK.1 hP 0 rfl rfl 0 (by decide) (hts _ wd_880) (fun _ h9 => h9) rfl dX11_digest_182 ?_
          refine lv_sipush (pc := 185) (v := (348 : Int32)) hx hb dX11_digest_185 (by decide) ?_
          obtain ⟨hg, hf⟩ := gd_some hf
          refine va_iald (pc := 188) hx hb hK.1 hP 1 0 rfl rfl hg dX11_digest_188 ?_
          refine lv_i2l (pc := 189) (v := (x2.2.1 (348 : Int32).toNatClampNeg).toInt64) hx hb dX11_digest_189 rfl ?_
          refine lv_ladd (pc := 190) hx hb dX11_digest_190 ?_
          refine lv_topl (fun x10 ex10 => ?_)
          have hf := nm_some hf ex10
          refine lv_lstore_n (pc := 191) (lv' := [(1, .long x10), (3, .int v3), (0, .ref hw0_0)]) hx hb dX11_digest_191 rfl hl (by decide) rfl (fun ls hl => ?_)
          exact hJ192 x2.2 x10 hf H locs hP hD hS ls (lv_sub hl [0, 2] rfl)
      · have hf := br_n hc hf
        refine lv_aload_n (pc := 74) hx hb dX11_digest_74 rfl (lv_at hl 2 rfl) ?_
        refine lv_lload_n (pc := 75) hx hb dX11_digest_75 rfl (lv_at hl 1 rfl) ?_
        refine lv_sipush (pc := 76) (v := (133 : Int32)) hx hb dX11_digest_76 (by decide) ?_
        refine lv_iconst (pc := 79) (v := (4 : Int32)) hx hb dX11_digest_79 (by decide) ?_
        refine lv_iload_n (pc := 80) hx hb dX11_digest_80 rfl (lv_at hl 0 rfl) ?_
        refine lv_imul (pc := 81) hx hb dX11_digest_81 ?_
        refine lv_iadd (pc := 82) hx hb dX11_digest_82 ?_
        refine lv_iconst (pc := 83) (v := (4 : Int32)) hx hb dX11_digest_83 (by decide) ?_
        obtain ⟨x11, hcx11, hf⟩ := bn_some hf
        refine g_callV0 (pc := 84) (rest := []) hx hb hml hown hts hK (c_X11_sums l G hw0_0 hw0_1 hw0_2 hw0_3 hw0_4 hw0_5 hw0_6 hw0_7 hw0_8 w0 v1 ((133 : Int32) + ((4 : Int32) * v3)) (4 : Int32) hcx11) wd_1165 wd_10 wd_1162 wd_1164 ws_42 hd_X11_sums ⟨rfl, rfl, Nat.le_of_ble_eq_true rfl, Nat.le_of_ble_eq_true rfl⟩ hP hD hS hA [0, 1, 2, 3, 4, 5, 6, 7, 8] rfl rfl 8 0 rfl rfl rfl rfl hl.1 rfl (Nat.le_of_ble_eq_true rfl) dX11_digest_84 ⟨Nat.zero_le _, Nat.zero_le _⟩ (fun H locs hP hS => ?_)
        refine lv_lstore_n (pc := 87) (lv' := [(1, .long x11), (3, .int v3), (0, .ref hw0_0)]) hx hb dX11_digest_87 rfl hl (by decide) rfl (fun ls hl => ?_)
        refine lv_aload_n (pc := 88) hx hb dX11_digest_88 rfl (lv_at hl 2 rfl) ?_
        refine lv_iload_n (pc := 89) hx hb dX11_digest_89 rfl (lv_at hl 1 rfl) ?_
        obtain ⟨x12, hcx12, hf⟩ := bn_some hf
        refine g_callV0 (pc := 90) (rest := []) hx hb hml hown hts hK (c_X11_isCopy l G hw0_0 hw0_1 hw0_2 hw0_3 hw0_4 hw0_5 hw0_6 hw0_7 hw0_8 w0 v3 hcx12) wd_1022 wd_10 wd_1019 wd_1021 ws_24 hd_X11_isCopy ⟨rfl, rfl, Nat.le_of_ble_eq_true rfl, Nat.le_of_ble_eq_true rfl⟩ hP hD hS hA [0, 1, 2, 3, 4, 5, 6, 7, 8] rfl rfl 8 0 rfl rfl rfl rfl hl.1 rfl (Nat.le_of_ble_eq_true rfl) dX11_digest_90 ⟨Nat.zero_le _, Nat.zero_le _⟩ (fun H locs hP hS => ?_)
        refine lv_if_eq (pc := 93) (tgt := 100) hx hb dX11_digest_93 (by decide) (fun hc => ?_) (fun hc => ?_)
        · have hf := br_y hc hf
          refine lv_aload_n (pc := 100) hx hb dX11_digest_100 rfl (lv_at hl 2 rfl) ?_
          refine lv_lload_n (pc := 101) hx hb dX11_digest_101 rfl (lv_at hl 0 rfl) ?_
          refine lv_sipush (pc := 102) (v := (253 : Int32)) hx hb dX11_digest_102 (by decide) ?_
          refine lv_aload_n (pc := 105) hx hb dX11_digest_105 rfl (lv_at hl 2 rfl) ?_
          refine lv_iload_n (pc := 106) hx hb dX11_digest_106 rfl (lv_at hl 1 rfl) ?_
          refine lv_iconst (pc := 107) (v := (2 : Int32)) hx hb dX11_digest_107 (by decide) ?_
          obtain ⟨x13, hcx13, hf⟩ := bn_some hf
          refine g_callV0 (pc := 108) (rest := [.int (253 : Int32), .long x11, .ref hw0_0]) hx hb hml hown hts hK (c_X11_of l G hw0_0 hw0_1 hw0_2 hw0_3 hw0_4 hw0_5 hw0_6 hw0_7 hw0_8 w0 v3 (2 : Int32) hcx13) wd_1010 wd_10 wd_1007 wd_1009 ws_22 hd_X11_of ⟨rfl, rfl, Nat.le_of_ble_eq_true rfl, Nat.le_of_ble_eq_true rfl⟩ hP hD hS hA [0, 1, 2, 3, 4, 5, 6, 7, 8] rfl rfl 8 0 rfl rfl rfl rfl hl.1 rfl (Nat.le_of_ble_eq_true rfl) dX11_digest_108 ⟨Nat.zero_le _, Nat.zero_le _⟩ (fun H locs hP hS => ?_)
          refine lv_iadd (pc := 111) hx hb dX11_digest_111 ?_
          refine lv_aload_n (pc := 112) hx hb dX11_digest_112 rfl (lv_at hl 2 rfl) ?_
          refine lv_iload_n (pc := 113) hx hb dX11_digest_113 rfl (lv_at hl 1 rfl) ?_
          refine lv_iconst (pc := 114) (v := (3 : Int32)) hx hb dX11_digest_114 (by decide) ?_
          obtain ⟨x14, hcx14, hf⟩ := bn_some hf
          refine g_callV0 (pc := 115) (rest := [.int ((253 : Int32) + x13), .long x11, .ref hw0_0]) hx hb hml hown hts hK (c_X11_of l G hw0_0 hw0_1 hw0_2 hw0_3 hw0_4 hw0_5 hw0_6 hw0_7 hw0_8 w0 v3 (3 : Int32) hcx14) wd_1010 wd_10 wd_1007 wd_1009 ws_22 hd_X11_of ⟨rfl, rfl, Nat.le_of_ble_eq_true rfl, Nat.le_of_ble_eq_true rfl⟩ hP hD hS hA [0, 1, 2, 3, 4, 5, 6, 7, 8] rfl rfl 8 0 rfl rfl rfl rfl hl.1 rfl (Nat.le_of_ble_eq_true rfl) dX11_digest_115 ⟨Nat.zero_le _, Nat.zero_le _⟩ (fun H locs hP hS => ?_)
          obtain ⟨x15, hcx15, hf⟩ := bn_some hf
          refine g_callV0 (pc := 118) (rest := []) hx hb hml hown hts hK (c_X11_sums l G hw0_0 hw0_1 hw0_2 hw0_3 hw0_4 hw0_5 hw0_6 hw0_7 hw0_8 w0 x11 ((253 : Int32) + x13) x14 hcx15) wd_1165 wd_10 wd_1162 wd_1164 ws_42 hd_X11_sums ⟨rfl, rfl, Nat.le_of_ble_eq_true rfl, Nat.le_of_ble_eq_true rfl⟩ hP hD hS hA [0, 1, 2, 3, 4, 5, 6, 7, 8] rfl rfl 8 0 rfl rfl rfl rfl hl.1 rfl (Nat.le_of_ble_eq_true rfl) dX11_digest_118 ⟨Nat.zero_le _, Nat.zero_le _⟩ (fun H locs hP hS => ?_)
          exact hJ121 w0 v3 x15 hf H locs hP hD hS ls (lv_sub hl [1, 2] rfl)
        · have hf := br_n hc hf
          refine lv_lload_n (pc := 96) hx hb dX11_digest_96 rfl (lv_at hl 0 rfl) ?_
          refine lv_goto (pc := 97) (tgt := 121) hx hb dX11_digest_97 (by decide) ?_
          exact hJ121 w0 v3 x11 hf H locs hP hD hS ls (lv_sub hl [1, 2] rfl)
  have hL11 : ∀ (k11 : Nat) (w0 : TModel) (v3 : Int32) (v1 : Int64), f_X11_digest_L11   k11 w0 v3 v1 = some r → ∀ (H : Heap) (locs : List Loc), va_P G.1 vwCl [(hw0_0, .inr (8, [.ref hw0_1, .ref hw0_2, .int w0.2.2.1, .int w0.2.2.2.1, .ref hw0_3, .ref hw0_4, .int w0.2.2.2.2.2.2.1, .int w0.2.2.2.2.2.2.2.1, .int w0.2.2.2.2.2.2.2.2.1, .ref hw0_5, .ref hw0_6, .ref hw0_7, .int w0.2.2.2.2.2.2.2.2.2.2.2.2.1, .ref hw0_8])), (hw0_1, .inl (G.2.1, 617, .inl w0.1)), (hw0_2, .inl (G.2.1, 2468, .inl w0.2.1)), (hw0_3, .inl (G.2.1, 30, .inl w0.2.2.2.2.1)), (hw0_4, .inl (G.2.1, 4000, .inl w0.2.2.2.2.2.1)), (hw0_5, .inl (G.2.1, 120, .inl w0.2.2.2.2.2.2.2.2.2.1)), (hw0_6, .inl (G.2.1, 64, .inl w0.2.2.2.2.2.2.2.2.2.2.1)), (hw0_7, .inl (G.2.2.1, 64, .inl w0.2.2.2.2.2.2.2.2.2.2.2.1)), (hw0_8, .inl (G.2.1, 64, .inl w0.2.2.2.2.2.2.2.2.2.2.2.2.2))] H → va_D A [(hw0_0, .inr (8, [.ref hw0_1, .ref hw0_2, .int w0.2.2.1, .int w0.2.2.2.1, .ref hw0_3, .ref hw0_4, .int w0.2.2.2.2.2.2.1, .int w0.2.2.2.2.2.2.2.1, .int w0.2.2.2.2.2.2.2.2.1, .ref hw0_5, .ref hw0_6, .ref hw0_7, .int w0.2.2.2.2.2.2.2.2.2.2.2.2.1, .ref hw0_8])), (hw0_1, .inl (G.2.1, 617, .inl w0.1)), (hw0_2, .inl (G.2.1, 2468, .inl w0.2.1)), (hw0_3, .inl (G.2.1, 30, .inl w0.2.2.2.2.1)), (hw0_4, .inl (G.2.1, 4000, .inl w0.2.2.2.2.2.1)), (hw0_5, .inl (G.2.1, 120, .inl w0.2.2.2.2.2.2.2.2.2.1)), (hw0_6, .inl (G.2.1, 64, .inl w0.2.2.2.2.2.2.2.2.2.2.1)), (hw0_7, .inl (G.2.2.1, 64, .inl w0.2.2.2.2.2.2.2.2.2.2.2.1)), (hw0_8, .inl (G.2.1, 64, .inl w0.2.2.2.2.2.2.2.2.2.2.2.2.2))] → va_S A s.heap H locs → ∀ (ls : Array Slot), lv_has ls 4 [(3, .int v3), (1, .long v1), (0, .ref hw0_0)] → W p l e (rm_X11_digest) s m args below meth c H locs 0 0 Q (F0 m 11 ls []) := by
    intro k11
    induction k11 with
    | zero =>
      intro w0 v3 v1 hf
      rw [f_X11_digest_L11.eq_1] at hf; cases hf
    | succ k11 ih11 =>
      intro w0 v3 v1 hf H locs hP hD hS ls hl
      rw [f_X11_digest_L11.eq_2] at hf
      refine lv_iload_n (pc := 11) hx hb dX11_digest_11 rfl (lv_at hl 0 rfl) ?_
      refine lv_iconst (pc := 12) (v := (2 : Int32)) hx hb dX11_digest_12 (by decide) ?_
      refine lv_icmp_ge (pc := 13) (tgt := 50) hx hb dX11_digest_13 (by decide) (fun hc => ?_) (fun hc => ?_)
      · have hf := br_y hc hf
        refine lv_aload_n (pc := 50) hx hb dX11_digest_50 rfl (lv_at hl 2 rfl) ?_
        refine lv_lload_n (pc := 51) hx hb dX11_digest_51 rfl (lv_at hl 1 rfl) ?_
        refine lv_sipush (pc := 52) (v := (130 : Int32)) hx hb dX11_digest_52 (by decide) ?_
        refine lv_iconst (pc := 55) (v := (3 : Int32)) hx hb dX11_digest_55 (by decide) ?_
        obtain ⟨x1, hcx1, hf⟩ := bn_some hf
        refine g_callV0 (pc := 56) (rest := []) hx hb hml hown hts hK (c_X11_sums l G hw0_0 hw0_1 hw0_2 hw0_3 hw0_4 hw0_5 hw0_6 hw0_7 hw0_8 w0 v1 (130 : Int32) (3 : Int32) hcx1) wd_1165 wd_10 wd_1162 wd_1164 ws_42 hd_X11_sums ⟨rfl, rfl, Nat.le_of_ble_eq_true rfl, Nat.le_of_ble_eq_true rfl⟩ hP hD hS hA [0, 1, 2, 3, 4, 5, 6, 7, 8] rfl rfl 8 0 rfl rfl rfl rfl hl.1 rfl (Nat.le_of_ble_eq_true rfl) dX11_digest_56 ⟨Nat.zero_le _, Nat.zero_le _⟩ (fun H locs hP hS => ?_)
        refine lv_lstore_n (pc := 59) (lv' := [(1, .long x1), (3, .int v3), (0, .ref hw0_0)]) hx hb dX11_digest_59 rfl hl (by decide) rfl (fun ls hl => ?_)
        refine lv_iconst (pc := 60) (v := (0 : Int32)) hx hb dX11_digest_60 (by decide) ?_
        refine lv_istore_n (pc := 61) (lv' := [(3, .int (0 : Int32)), (1, .long x1), (0, .ref hw0_0)]) hx hb dX11_digest_61 rfl hl (by decide) rfl (fun ls hl => ?_)
        exact hL62 FUEL w0 (0 : Int32) x1 hf H locs hP hD hS ls (lv_sub hl [0, 1, 2] rfl)
      · have hf := br_n hc hf
        refine lv_aload_n (pc := 16) hx hb dX11_digest_16 rfl (lv_at hl 2 rfl) ?_
        refine lv_ldc2 (pc := 17) (v := (31 : Int64)) hx hb hown (hts _ wd_1161) dX11_digest_17 ?_
        refine lv_lload_n (pc := 20) hx hb dX11_digest_20 rfl (lv_at hl 1 rfl) ?_
        refine lv_lmul (pc := 21) hx hb dX11_digest_21 ?_
        refine lv_aload_n (pc := 22) hx hb dX11_digest_22 rfl (lv_at hl 2 rfl) ?_
        refine lv_iload_n (pc := 23) hx hb dX11_digest_23 rfl (lv_at hl 0 rfl) ?_
        obtain ⟨x16, hcx16, hf⟩ := bn_some hf
        refine g_callV0 (pc := 24) (rest := [.long ((31 : Int64) * v1), .ref hw0_0]) hx hb hml hown hts hK (c_X11_longOf l G hw0_0 hw0_1 hw0_2 hw0_3 hw0_4 hw0_5 hw0_6 hw0_7 hw0_8 w0 v3 hcx16) wd_945 wd_10 wd_942 wd_944 ws_12 hd_X11_longOf ⟨rfl, rfl, Nat.le_of_ble_eq_true rfl, Nat.le_of_ble_eq_true rfl⟩ hP hD hS hA [0, 1, 2, 3, 4, 5, 6, 7, 8] rfl rfl 8 0 rfl rfl rfl rfl hl.1 rfl (Nat.le_of_ble_eq_true rfl) dX11_digest_24 ⟨Nat.zero_le _, Nat.zero_le _⟩ (fun H locs hP hS => ?_)
        refine lv_i2l (pc := 27) (v := x16.toInt64) hx hb dX11_digest_27 rfl ?_
        refine lv_ladd (pc := 28) hx hb dX11_digest_28 ?_
        refine lv_iconst (pc := 29) (v := (2 : Int32)) hx hb dX11_digest_29 (by decide) ?_
        refine lv_bipush (pc := 30) (v := (64 : Int32)) hx hb dX11_digest_30 (by decide) ?_
        refine lv_iload_n (pc := 32) hx hb dX11_digest_32 rfl (lv_at hl 0 rfl) ?_
        refine lv_imul (pc := 33) hx hb dX11_digest_33 ?_
        refine lv_iadd (pc := 34) hx hb dX11_digest_34 ?_
        refine lv_aload_n (pc := 35) hx hb dX11_digest_35 rfl (lv_at hl 2 rfl) ?_
        refine lv_iload_n (pc := 36) hx hb dX11_digest_36 rfl (lv_at hl 0 rfl) ?_
        obtain ⟨x17, hcx17, hf⟩ := bn_some hf
        refine g_callV0 (pc := 37) (rest := [.int ((2 : Int32) + ((64 : Int32) * v3)), .long (((31 : Int64) * v1) + x16.toInt64), .ref hw0_0]) hx hb hml hown hts hK (c_X11_longOf l G hw0_0 hw0_1 hw0_2 hw0_3 hw0_4 hw0_5 hw0_6 hw0_7 hw0_8 w0 v3 hcx17) wd_945 wd_10 wd_942 wd_944 ws_12 hd_X11_longOf ⟨rfl, rfl, Nat.le_of_ble_eq_true rfl, Nat.le_of_ble_eq_true rfl⟩ hP hD hS hA [0, 1, 2, 3, 4, 5, 6, 7, 8] rfl rfl 8 0 rfl rfl rfl rfl hl.1 rfl (Nat.le_of_ble_eq_true rfl) dX11_digest_37 ⟨Nat.zero_le _, Nat.zero_le _⟩ (fun H locs hP hS => ?_)
        obtain ⟨x18, hcx18, hf⟩ := bn_some hf
        refine g_callV0 (pc := 40) (rest := []) hx hb hml hown hts hK (c_X11_sums l G hw0_0 hw0_1 hw0_2 hw0_3 hw0_4 hw0_5 hw0_6 hw0_7 hw0_8 w0 (((31 : Int64) * v1) + x16.toInt64) ((2 : Int32) + ((64 : Int32) * v3)) x17 hcx18) wd_1165 wd_10 wd_1162 wd_1164 ws_42 hd_X11_sums ⟨rfl, rfl, Nat.le_of_ble_eq_true rfl, Nat.le_of_ble_eq_true rfl⟩ hP hD hS hA [0, 1, 2, 3, 4, 5, 6, 7, 8] rfl rfl 8 0 rfl rfl rfl rfl hl.1 rfl (Nat.le_of_ble_eq_true rfl) dX11_digest_40 ⟨Nat.zero_le _, Nat.zero_le _⟩ (fun H locs hP hS => ?_)
        refine lv_lstore_n (pc := 43) (lv' := [(1, .long x18), (3, .int v3), (0, .ref hw0_0)]) hx hb dX11_digest_43 rfl hl (by decide) rfl (fun ls hl => ?_)
        refine lv_iinc (pc := 44) (v := (v3 + (1 : Int32))) (lv' := [(3, .int (v3 + (1 : Int32))), (1, .long x18), (0, .ref hw0_0)]) hx hb dX11_digest_44 hl (k := 1) rfl rfl (by decide) rfl (fun ls hl => ?_)
        refine lv_goto (pc := 47) (tgt := 11) hx hb dX11_digest_47 (by decide) ?_
        exact ih11 w0 (v3 + (1 : Int32)) x18 hf H locs hP hD hS ls (lv_sub hl [0, 1, 2] rfl)
  refine lv_aload_n (pc := 0) hx hb dX11_digest_0 rfl (lv_at hl 0 rfl) ?_
  refine lv_iconst (pc := 1) (v := (0 : Int32)) hx hb dX11_digest_1 (by decide) ?_
  refine va_put (pc := 2) (D := G.1) (ci := 8) (v := .int (0 : Int32)) (ty := .int) (C := RX11) (T := TX11) (N := 14) hx hb hts inX11 tyX11 tyX11_ok nmX11 hown hK.1 hP hD hS 0 rfl rfl 3 (by decide) (hts _ wd_883) (fun _ h9 => h9) rfl (by decide +kernel) rfl rfl (Nat.le_of_ble_eq_true rfl) dX11_digest_2 (fun H locs hP hD hS => ?_)
  have hP : va_P G.1 vwCl [(hw0_0, .inr (8, [.ref hw0_1, .ref hw0_2, .int w0.2.2.1, .int (0 : Int32), .ref hw0_3, .ref hw0_4, .int w0.2.2.2.2.2.2.1, .int w0.2.2.2.2.2.2.2.1, .int w0.2.2.2.2.2.2.2.2.1, .ref hw0_5, .ref hw0_6, .ref hw0_7, .int w0.2.2.2.2.2.2.2.2.2.2.2.2.1, .ref hw0_8])), (hw0_1, .inl (G.2.1, 617, .inl w0.1)), (hw0_2, .inl (G.2.1, 2468, .inl w0.2.1)), (hw0_3, .inl (G.2.1, 30, .inl w0.2.2.2.2.1)), (hw0_4, .inl (G.2.1, 4000, .inl w0.2.2.2.2.2.1)), (hw0_5, .inl (G.2.1, 120, .inl w0.2.2.2.2.2.2.2.2.2.1)), (hw0_6, .inl (G.2.1, 64, .inl w0.2.2.2.2.2.2.2.2.2.2.1)), (hw0_7, .inl (G.2.2.1, 64, .inl w0.2.2.2.2.2.2.2.2.2.2.2.1)), (hw0_8, .inl (G.2.1, 64, .inl w0.2.2.2.2.2.2.2.2.2.2.2.2.2))] H := hP
  have hD : va_D A [(hw0_0, .inr (8, [.ref hw0_1, .ref hw0_2, .int w0.2.2.1, .int (0 : Int32), .ref hw0_3, .ref hw0_4, .int w0.2.2.2.2.2.2.1, .int w0.2.2.2.2.2.2.2.1, .int w0.2.2.2.2.2.2.2.2.1, .ref hw0_5, .ref hw0_6, .ref hw0_7, .int w0.2.2.2.2.2.2.2.2.2.2.2.2.1, .ref hw0_8])), (hw0_1, .inl (G.2.1, 617, .inl w0.1)), (hw0_2, .inl (G.2.1, 2468, .inl w0.2.1)), (hw0_3, .inl (G.2.1, 30, .inl w0.2.2.2.2.1)), (hw0_4, .inl (G.2.1, 4000, .inl w0.2.2.2.2.2.1)), (hw0_5, .inl (G.2.1, 120, .inl w0.2.2.2.2.2.2.2.2.2.1)), (hw0_6, .inl (G.2.1, 64, .inl w0.2.2.2.2.2.2.2.2.2.2.1)), (hw0_7, .inl (G.2.2.1, 64, .inl w0.2.2.2.2.2.2.2.2.2.2.2.1)), (hw0_8, .inl (G.2.1, 64, .inl w0.2.2.2.2.2.2.2.2.2.2.2.2.2))] := hD
  refine lv_ldc2 (pc := 5) (v := (2777 : Int64)) hx hb hown (hts _ wd_1160) dX11_digest_5 ?_
  refine lv_lstore_n (pc := 8) (lv' := [(1, .long (2777 : Int64)), (0, .ref hw0_0)]) hx hb dX11_digest_8 rfl hl (by decide) rfl (fun ls hl => ?_)
  refine lv_iconst (pc := 9) (v := (0 : Int32)) hx hb dX11_digest_9 (by decide) ?_
  refine lv_istore_n (pc := 10) (lv' := [(3, .int (0 : Int32)), (1, .long (2777 : Int64)), (0, .ref hw0_0)]) hx hb dX11_digest_10 rfl hl (by decide) rfl (fun ls hl => ?_)
  exact hL11 FUEL (w0.1, w0.2.1, w0.2.2.1, (0 : Int32), w0.2.2.2.2.1, w0.2.2.2.2.2.1, w0.2.2.2.2.2.2.1, w0.2.2.2.2.2.2.2.1, w0.2.2.2.2.2.2.2.2.1, w0.2.2.2.2.2.2.2.2.2.1, w0.2.2.2.2.2.2.2.2.2.2.1, w0.2.2.2.2.2.2.2.2.2.2.2.1, w0.2.2.2.2.2.2.2.2.2.2.2.2.1, w0.2.2.2.2.2.2.2.2.2.2.2.2.2) (0 : Int32) (2777 : Int64) hf H locs hP hD hS ls (lv_sub hl [0, 1, 2] rfl)
