theorem sum_l {α β γ : Type} {f : α → Option γ} {g : β → Option γ} {a : α} {r : γ} (h : Sum.elim f g (.inl a) = some r) : f a = some r := h
theorem sum_r {α β γ : Type} {f : α → Option γ} {g : β → Option γ} {a : β} {r : γ} (h : Sum.elim f g (.inr a) = some r) : g a = some r := h

theorem hd_L_append : yL_append.cls ≠ "java/lang/invoke/MethodHandle" ∧ yL_append.cls ≠ "java/lang/invoke/VarHandle" ∧ (parseMethodDescriptor yL_append.desc).map (fun d => d.parameters.length) = some 4 := by decide +kernel
abbrev rm_L_append : Room := { frames := 8, cells := 3, slots := 18, locals := 171 }
noncomputable def f_L_append (now : TState) (hist : THistory) (out : (Nat → Int64)) (p1 : Int32) (p2 : Int32) : Option (Int32 × TState × THistory × (Nat → Int64)) :=
  (f_X10_append now hist p1 p2).bind (fun x1 => Sum.elim (fun E => br (E = "java/lang/IllegalArgumentException") (some ((1 : Int32), now, hist, out)) (br (E = "java/lang/IllegalStateException") (some ((2 : Int32), now, hist, out)) (none))) (fun x1 => gd (vp_in (0 : Int32) 1) (some ((0 : Int32), x1.2.1, x1.2.2, (vp_updL out (0 : Int32).toNatClampNeg x1.1.toInt64)))) x1)
set_option maxHeartbeats 4000000 in
set_option maxRecDepth 100000 in
theorem c_L_append (l : Launch) (hl0 : l.stackTraces = false) (G : GT) (hx_0 hdec_0 : Nat) (anow : Nat → Nat) (hhist_0 hhist_1 : Nat) (ahist0 ahist1 ahist2 ahist3 : Nat → Nat) (hout_0 : Nat) (now : TState) (hist : THistory) (out : (Nat → Int64)) (p1 : Int32) (p2 : Int32) {r : Int32 × TState × THistory × (Nat → Int64)} (hf : f_L_append now hist out p1 p2 = some r) : CtW l yL_append (Cond.codeWith yL_append cL_append 5 (some .int) [(0, 10, 13, 13), (0, 10, 17, 15)] :: lw_g) rm_L_append G [.ref hx_0, .int p1, .int p2, .ref hout_0] (List.flatten [[(hx_0, .inr (7, [.ref (anow 0), .ref hhist_0, .ref hdec_0]))], [((anow 0), .inr (5, [.ref (anow 1), .ref (anow 3), .ref (anow 5), .ref (anow 12), .ref (anow 14), .ref (anow 16)]))], cBy G (anow 1) (anow 2) 64 now.1, cBy G (anow 3) (anow 4) 64 now.2.1, cDe G (anow 5) (anow 6) (anow 7) (anow 8) (anow 9) (anow 10) (anow 11) now.2.2.1, cPl G (anow 12) (anow 13) now.2.2.2.1, cBy G (anow 14) (anow 15) 200 now.2.2.2.2.1, [((anow 16), .inr (6, [.ref (anow 17), .int now.2.2.2.2.2.2.1, .int now.2.2.2.2.2.2.2]))], cBy G (anow 17) (anow 18) 64 now.2.2.2.2.2.1, cHist G hhist_0 hhist_1 ahist0 ahist1 ahist2 ahist3 hist, [(hout_0, .inl (G.2.2.2.1, 1, .inr (.inl out)))]]) (some (.int r.1)) (List.flatten [[(hx_0, .inr (7, [.ref (anow 0), .ref hhist_0, .ref hdec_0]))], [((anow 0), .inr (5, [.ref (anow 1), .ref (anow 3), .ref (anow 5), .ref (anow 12), .ref (anow 14), .ref (anow 16)]))], cBy G (anow 1) (anow 2) 64 r.2.1.1, cBy G (anow 3) (anow 4) 64 r.2.1.2.1, cDe G (anow 5) (anow 6) (anow 7) (anow 8) (anow 9) (anow 10) (anow 11) r.2.1.2.2.1, cPl G (anow 12) (anow 13) r.2.1.2.2.2.1, cBy G (anow 14) (anow 15) 200 r.2.1.2.2.2.2.1, [((anow 16), .inr (6, [.ref (anow 17), .int r.2.1.2.2.2.2.2.2.1, .int r.2.1.2.2.2.2.2.2.2]))], cBy G (anow 17) (anow 18) 64 r.2.1.2.2.2.2.2.1, cHist G hhist_0 hhist_1 ahist0 ahist1 ahist2 ahist3 r.2.2.1, [(hout_0, .inl (G.2.2.2.1, 1, .inr (.inl r.2.2.2)))]]) := by
  refine CtW.ofW (cc := cL_append) (maxL := 5) (ret := (some .int)) (own := RL) (by decide) rfl rfl (Nat.le_of_ble_eq_true rfl) ?_
  intro p e s m args below meth c A hx hb hr hml hts hown hlocks hK hP hD hA hS htab hZ ls hl
  have hl : lv_has ls 5 [(0, .ref hx_0), (1, .int p1), (2, .int p2), (3, .ref hout_0)] := hl
  generalize hQ : wMQ below G _ _ A args s _ _ = Q
  generalize hH : s.heap = H at hP ⊢
  have hS : va_S A s.heap H [] := by rw [← hH]; exact hS
  generalize ([] : List Loc) = locs at hS ⊢
  unfold f_L_append at hf
  refine lv_aload_n (pc := 0) hx hb dL_append_0 rfl (lv_at hl 3 rfl) ?_
  refine lv_iconst (pc := 1) (v := (0 : Int32)) hx hb dL_append_1 (by decide) ?_
  refine lv_aload_n (pc := 2) hx hb dL_append_2 rfl (lv_at hl 0 rfl) ?_
  refine lv_iload_n (pc := 3) hx hb dL_append_3 rfl (lv_at hl 1 rfl) ?_
  refine lv_iload_n (pc := 4) hx hb dL_append_4 rfl (lv_at hl 2 rfl) ?_
  obtain ⟨x1, hcx1, hf⟩ := bn_some hf
  rcases x1 with E | x1
  · have hf := sum_l hf
    by_cases hE : E = "java/lang/IllegalArgumentException"
    · subst hE
      have hf := br_y rfl hf
      refine w_callT (pc := 5) (E := "java/lang/IllegalArgumentException") (name := "java/lang/IllegalArgumentException") (rest := [.int (0 : Int32), .ref hout_0]) hx hb hml hown hts hK hZ (c_X10_append l hl0 G hx_0 hdec_0 anow hhist_0 hhist_1 ahist0 ahist1 ahist2 ahist3 now hist p1 p2 hcx1) wd_501 wd_1 wd_498 wd_499 wd_500 hd_X10_append ⟨(Nat.le_of_ble_eq_true rfl), (Nat.le_of_ble_eq_true rfl)⟩ hP hD hS hA [0, 1, 2, 3, 4, 5, 6, 7, 8, 9] rfl (blk_D [0, 1, 2, 3, 4, 5, 6, 7, 8, 9] rfl hD rfl) 7 0 rfl rfl rfl rfl hl.1 rfl (Nat.le_of_ble_eq_true rfl) dL_append_5 ⟨(Nat.le_of_ble_eq_true rfl), (Nat.le_of_ble_eq_true rfl)⟩ [] (⟨0, 10, 13, 13⟩ : ExceptionTableEntry) [(⟨0, 10, 17, 15⟩ : ExceptionTableEntry)] htab (fun z hz => absurd hz List.not_mem_nil) (by decide) (by decide) (hts _ wd_496) (va_Nw.use rfl (hK.2.1 _ nw_507)) (fun H locs q9 hP hS => ?_)
      refine W.widen (k := 3) (n := 18) (Nat.le_of_ble_eq_true rfl) (Nat.le_of_ble_eq_true rfl) ?_
      refine lv_astore (pc := 13) (lv' := [(4, .ref q9), (0, .ref hx_0), (1, .int p1), (2, .int p2), (3, .ref hout_0)]) hx hb dL_append_13 hl (by decide) rfl (fun ls hl => ?_)
      refine lv_iconst (pc := 15) (v := (1 : Int32)) hx hb dL_append_15 (by decide) ?_
      have hf := Option.some.inj hf; subst hf
      rw [← hQ]
      exact w_iret hx hb hr hlocks (Nat.le_of_ble_eq_true rfl) (Nat.le_of_ble_eq_true rfl) hP hS dL_append_16
    have hf := br_n hE hf
    by_cases hE : E = "java/lang/IllegalStateException"
    · subst hE
      have hf := br_y rfl hf
      refine w_callT (pc := 5) (E := "java/lang/IllegalStateException") (name := "java/lang/IllegalStateException") (rest := [.int (0 : Int32), .ref hout_0]) hx hb hml hown hts hK hZ (c_X10_append l hl0 G hx_0 hdec_0 anow hhist_0 hhist_1 ahist0 ahist1 ahist2 ahist3 now hist p1 p2 hcx1) wd_501 wd_1 wd_498 wd_499 wd_500 hd_X10_append ⟨(Nat.le_of_ble_eq_true rfl), (Nat.le_of_ble_eq_true rfl)⟩ hP hD hS hA [0, 1, 2, 3, 4, 5, 6, 7, 8, 9] rfl (blk_D [0, 1, 2, 3, 4, 5, 6, 7, 8, 9] rfl hD rfl) 7 0 rfl rfl rfl rfl hl.1 rfl (Nat.le_of_ble_eq_true rfl) dL_append_5 ⟨(Nat.le_of_ble_eq_true rfl), (Nat.le_of_ble_eq_true rfl)⟩ [(⟨0, 10, 13, 13⟩ : ExceptionTableEntry)] (⟨0, 10, 17, 15⟩ : ExceptionTableEntry) [] htab (fun z hz => by rw [List.mem_singleton.mp hz]; exact Or.inr ⟨by decide, _, hts _ wd_496, hK.2.2.2 _ _ (List.mem_of_getElem? (i := 2) rfl)⟩) (by decide) (by decide) (hts _ wd_497) (va_Nw.use rfl (hK.2.1 _ nw_587)) (fun H locs q9 hP hS => ?_)
      refine W.widen (k := 3) (n := 18) (Nat.le_of_ble_eq_true rfl) (Nat.le_of_ble_eq_true rfl) ?_
      refine lv_astore (pc := 17) (lv' := [(4, .ref q9), (0, .ref hx_0), (1, .int p1), (2, .int p2), (3, .ref hout_0)]) hx hb dL_append_17 hl (by decide) rfl (fun ls hl => ?_)
      refine lv_iconst (pc := 19) (v := (2 : Int32)) hx hb dL_append_19 (by decide) ?_
      have hf := Option.some.inj hf; subst hf
      rw [← hQ]
      exact w_iret hx hb hr hlocks (Nat.le_of_ble_eq_true rfl) (Nat.le_of_ble_eq_true rfl) hP hS dL_append_20
    have hf := br_n hE hf
    cases hf
  have hf := sum_r hf
  refine w_callR (pc := 5) (bs' := [[(hx_0, .inr (7, [.ref (anow 0), .ref hhist_0, .ref hdec_0]))], [((anow 0), .inr (5, [.ref (anow 1), .ref (anow 3), .ref (anow 5), .ref (anow 12), .ref (anow 14), .ref (anow 16)]))], cBy G (anow 1) (anow 2) 64 x1.2.1.1, cBy G (anow 3) (anow 4) 64 x1.2.1.2.1, cDe G (anow 5) (anow 6) (anow 7) (anow 8) (anow 9) (anow 10) (anow 11) x1.2.1.2.2.1, cPl G (anow 12) (anow 13) x1.2.1.2.2.2.1, cBy G (anow 14) (anow 15) 200 x1.2.1.2.2.2.2.1, [((anow 16), .inr (6, [.ref (anow 17), .int x1.2.1.2.2.2.2.2.2.1, .int x1.2.1.2.2.2.2.2.2.2]))], cBy G (anow 17) (anow 18) 64 x1.2.1.2.2.2.2.2.1, cHist G hhist_0 hhist_1 ahist0 ahist1 ahist2 ahist3 x1.2.2, [(hout_0, .inl (G.2.2.2.1, 1, .inr (.inl out)))]]) (rest := [.int (0 : Int32), .ref hout_0]) hx hb hml hown hts hK hZ (c_X10_append l hl0 G hx_0 hdec_0 anow hhist_0 hhist_1 ahist0 ahist1 ahist2 ahist3 now hist p1 p2 hcx1) wd_501 wd_1 wd_498 wd_499 wd_500 hd_X10_append ⟨(Nat.le_of_ble_eq_true rfl), (Nat.le_of_ble_eq_true rfl)⟩ hP hD hS hA [0, 1, 2, 3, 4, 5, 6, 7, 8, 9] rfl (blk_D [0, 1, 2, 3, 4, 5, 6, 7, 8, 9] rfl hD rfl) rfl rfl 7 0 rfl rfl rfl rfl hl.1 rfl (Nat.le_of_ble_eq_true rfl) dL_append_5 ⟨(Nat.le_of_ble_eq_true rfl), (Nat.le_of_ble_eq_true rfl)⟩ (fun H locs hP hD hS => ?_)
  refine W.widen (k := 3) (n := 18) (Nat.le_of_ble_eq_true rfl) (Nat.le_of_ble_eq_true rfl) ?_
  refine lv_i2l (pc := 8) (v := x1.1.toInt64) hx hb dL_append_8 rfl ?_
  obtain ⟨hg, hf⟩ := gd_some hf
  refine va_last (pc := 9) hx hb hK.1 hP hD hS 98 2 rfl rfl hg dL_append_9 (fun H locs hP hD hS => ?_)
  have hP : va_P G.1 vwCl (List.flatten [[(hx_0, .inr (7, [.ref (anow 0), .ref hhist_0, .ref hdec_0]))], [((anow 0), .inr (5, [.ref (anow 1), .ref (anow 3), .ref (anow 5), .ref (anow 12), .ref (anow 14), .ref (anow 16)]))], cBy G (anow 1) (anow 2) 64 x1.2.1.1, cBy G (anow 3) (anow 4) 64 x1.2.1.2.1, cDe G (anow 5) (anow 6) (anow 7) (anow 8) (anow 9) (anow 10) (anow 11) x1.2.1.2.2.1, cPl G (anow 12) (anow 13) x1.2.1.2.2.2.1, cBy G (anow 14) (anow 15) 200 x1.2.1.2.2.2.2.1, [((anow 16), .inr (6, [.ref (anow 17), .int x1.2.1.2.2.2.2.2.2.1, .int x1.2.1.2.2.2.2.2.2.2]))], cBy G (anow 17) (anow 18) 64 x1.2.1.2.2.2.2.2.1, cHist G hhist_0 hhist_1 ahist0 ahist1 ahist2 ahist3 x1.2.2, [(hout_0, .inl (G.2.2.2.1, 1, .inr (.inl (vp_updL out (0 : Int32).toNatClampNeg x1.1.toInt64))))]]) H := hP
  have hD : va_D A (List.flatten [[(hx_0, .inr (7, [.ref (anow 0), .ref hhist_0, .ref hdec_0]))], [((anow 0), .inr (5, [.ref (anow 1), .ref (anow 3), .ref (anow 5), .ref (anow 12), .ref (anow 14), .ref (anow 16)]))], cBy G (anow 1) (anow 2) 64 x1.2.1.1, cBy G (anow 3) (anow 4) 64 x1.2.1.2.1, cDe G (anow 5) (anow 6) (anow 7) (anow 8) (anow 9) (anow 10) (anow 11) x1.2.1.2.2.1, cPl G (anow 12) (anow 13) x1.2.1.2.2.2.1, cBy G (anow 14) (anow 15) 200 x1.2.1.2.2.2.2.1, [((anow 16), .inr (6, [.ref (anow 17), .int x1.2.1.2.2.2.2.2.2.1, .int x1.2.1.2.2.2.2.2.2.2]))], cBy G (anow 17) (anow 18) 64 x1.2.1.2.2.2.2.2.1, cHist G hhist_0 hhist_1 ahist0 ahist1 ahist2 ahist3 x1.2.2, [(hout_0, .inl (G.2.2.2.1, 1, .inr (.inl (vp_updL out (0 : Int32).toNatClampNeg x1.1.toInt64))))]]) := hD
  refine lv_goto (pc := 10) (tgt := 21) hx hb dL_append_10 (by decide) ?_
  refine lv_iconst (pc := 21) (v := (0 : Int32)) hx hb dL_append_21 (by decide) ?_
  have hf := Option.some.inj hf; subst hf
  rw [← hQ]
  exact w_iret hx hb hr hlocks (Nat.le_of_ble_eq_true rfl) (Nat.le_of_ble_eq_true rfl) hP hS dL_append_22
theorem hd_L_patch : yL_patch.cls ≠ "java/lang/invoke/MethodHandle" ∧ yL_patch.cls ≠ "java/lang/invoke/VarHandle" ∧ (parseMethodDescriptor yL_patch.desc).map (fun d => d.parameters.length) = some 5 := by decide +kernel
abbrev rm_L_patch : Room := { frames := 8, cells := 3, slots := 18, locals := 173 }
noncomputable def f_L_patch (now : TState) (hist : THistory) (out : (Nat → Int64)) (p1 : Int32) (p2 : Int32) (p3 : Int32) : Option (Int32 × TState × THistory × (Nat → Int64)) :=
  (f_X10_patch now hist p1 p2 p3).bind (fun x1 => Sum.elim (fun E => br (E = "java/lang/IllegalArgumentException") (some ((1 : Int32), now, hist, out)) (br (E = "java/lang/IndexOutOfBoundsException") (some ((2 : Int32), now, hist, out)) (none))) (fun x1 => gd (vp_in (0 : Int32) 1) (some ((0 : Int32), x1.2.1, x1.2.2, (vp_updL out (0 : Int32).toNatClampNeg x1.1.toInt64)))) x1)
set_option maxHeartbeats 4000000 in
set_option maxRecDepth 100000 in
theorem c_L_patch (l : Launch) (hl0 : l.stackTraces = false) (G : GT) (hx_0 hdec_0 : Nat) (anow : Nat → Nat) (hhist_0 hhist_1 : Nat) (ahist0 ahist1 ahist2 ahist3 : Nat → Nat) (hout_0 : Nat) (now : TState) (hist : THistory) (out : (Nat → Int64)) (p1 : Int32) (p2 : Int32) (p3 : Int32) {r : Int32 × TState × THistory × (Nat → Int64)} (hf : f_L_patch now hist out p1 p2 p3 = some r) : CtW l yL_patch (Cond.codeWith yL_patch cL_patch 6 (some .int) [(0, 12, 15, 13), (0, 12, 19, 21)] :: lw_g) rm_L_patch G [.ref hx_0, .int p1, .int p2, .int p3, .ref hout_0] (List.flatten [[(hx_0, .inr (7, [.ref (anow 0), .ref hhist_0, .ref hdec_0]))], [((anow 0), .inr (5, [.ref (anow 1), .ref (anow 3), .ref (anow 5), .ref (anow 12), .ref (anow 14), .ref (anow 16)]))], cBy G (anow 1) (anow 2) 64 now.1, cBy G (anow 3) (anow 4) 64 now.2.1, cDe G (anow 5) (anow 6) (anow 7) (anow 8) (anow 9) (anow 10) (anow 11) now.2.2.1, cPl G (anow 12) (anow 13) now.2.2.2.1, cBy G (anow 14) (anow 15) 200 now.2.2.2.2.1, [((anow 16), .inr (6, [.ref (anow 17), .int now.2.2.2.2.2.2.1, .int now.2.2.2.2.2.2.2]))], cBy G (anow 17) (anow 18) 64 now.2.2.2.2.2.1, cHist G hhist_0 hhist_1 ahist0 ahist1 ahist2 ahist3 hist, [(hout_0, .inl (G.2.2.2.1, 1, .inr (.inl out)))]]) (some (.int r.1)) (List.flatten [[(hx_0, .inr (7, [.ref (anow 0), .ref hhist_0, .ref hdec_0]))], [((anow 0), .inr (5, [.ref (anow 1), .ref (anow 3), .ref (anow 5), .ref (anow 12), .ref (anow 14), .ref (anow 16)]))], cBy G (anow 1) (anow 2) 64 r.2.1.1, cBy G (anow 3) (anow 4) 64 r.2.1.2.1, cDe G (anow 5) (anow 6) (anow 7) (anow 8) (anow 9) (anow 10) (anow 11) r.2.1.2.2.1, cPl G (anow 12) (anow 13) r.2.1.2.2.2.1, cBy G (anow 14) (anow 15) 200 r.2.1.2.2.2.2.1, [((anow 16), .inr (6, [.ref (anow 17), .int r.2.1.2.2.2.2.2.2.1, .int r.2.1.2.2.2.2.2.2.2]))], cBy G (anow 17) (anow 18) 64 r.2.1.2.2.2.2.2.1, cHist G hhist_0 hhist_1 ahist0 ahist1 ahist2 ahist3 r.2.2.1, [(hout_0, .inl (G.2.2.2.1, 1, .inr (.inl r.2.2.2)))]]) := by
  refine CtW.ofW (cc := cL_patch) (maxL := 6) (ret := (some .int)) (own := RL) (by decide) rfl rfl (Nat.le_of_ble_eq_true rfl) ?_
  intro p e s m args below meth c A hx hb hr hml hts hown hlocks hK hP hD hA hS htab hZ ls hl
  have hl : lv_has ls 6 [(0, .ref hx_0), (1, .int p1), (2, .int p2), (3, .int p3), (4, .ref hout_0)] := hl
  generalize hQ : wMQ below G _ _ A args s _ _ = Q
  generalize hH : s.heap = H at hP ⊢
  have hS : va_S A s.heap H [] := by rw [← hH]; exact hS
  generalize ([] : List Loc) = locs at hS ⊢
  unfold f_L_patch at hf
  refine lv_aload (pc := 0) hx hb dL_patch_0 (lv_at hl 4 rfl) ?_
  refine lv_iconst (pc := 2) (v := (0 : Int32)) hx hb dL_patch_2 (by decide) ?_
  refine lv_aload_n (pc := 3) hx hb dL_patch_3 rfl (lv_at hl 0 rfl) ?_
  refine lv_iload_n (pc := 4) hx hb dL_patch_4 rfl (lv_at hl 1 rfl) ?_
  refine lv_iload_n (pc := 5) hx hb dL_patch_5 rfl (lv_at hl 2 rfl) ?_
  refine lv_iload_n (pc := 6) hx hb dL_patch_6 rfl (lv_at hl 3 rfl) ?_
  obtain ⟨x1, hcx1, hf⟩ := bn_some hf
  rcases x1 with E | x1
  · have hf := sum_l hf
    by_cases hE : E = "java/lang/IllegalArgumentException"
    · subst hE
      have hf := br_y rfl hf
      refine w_callT (pc := 7) (E := "java/lang/IllegalArgumentException") (name := "java/lang/IllegalArgumentException") (rest := [.int (0 : Int32), .ref hout_0]) hx hb hml hown hts hK hZ (c_X10_patch l hl0 G hx_0 hdec_0 anow hhist_0 hhist_1 ahist0 ahist1 ahist2 ahist3 now hist p1 p2 p3 hcx1) wd_613 wd_1 wd_610 wd_611 wd_612 hd_X10_patch ⟨(Nat.le_of_ble_eq_true rfl), (Nat.le_of_ble_eq_true rfl)⟩ hP hD hS hA [0, 1, 2, 3, 4, 5, 6, 7, 8, 9] rfl (blk_D [0, 1, 2, 3, 4, 5, 6, 7, 8, 9] rfl hD rfl) 7 0 rfl rfl rfl rfl hl.1 rfl (Nat.le_of_ble_eq_true rfl) dL_patch_7 ⟨(Nat.le_of_ble_eq_true rfl), (Nat.le_of_ble_eq_true rfl)⟩ [] (⟨0, 12, 15, 13⟩ : ExceptionTableEntry) [(⟨0, 12, 19, 21⟩ : ExceptionTableEntry)] htab (fun z hz => absurd hz List.not_mem_nil) (by decide) (by decide) (hts _ wd_496) (va_Nw.use rfl (hK.2.1 _ nw_507)) (fun H locs q9 hP hS => ?_)
      refine W.widen (k := 3) (n := 18) (Nat.le_of_ble_eq_true rfl) (Nat.le_of_ble_eq_true rfl) ?_
      refine lv_astore (pc := 15) (lv' := [(5, .ref q9), (0, .ref hx_0), (1, .int p1), (2, .int p2), (3, .int p3), (4, .ref hout_0)]) hx hb dL_patch_15 hl (by decide) rfl (fun ls hl => ?_)
      refine lv_iconst (pc := 17) (v := (1 : Int32)) hx hb dL_patch_17 (by decide) ?_
      have hf := Option.some.inj hf; subst hf
      rw [← hQ]
      exact w_iret hx hb hr hlocks (Nat.le_of_ble_eq_true rfl) (Nat.le_of_ble_eq_true rfl) hP hS dL_patch_18
    have hf := br_n hE hf
    by_cases hE : E = "java/lang/IndexOutOfBoundsException"
    · subst hE
      have hf := br_y rfl hf
      refine w_callT (pc := 7) (E := "java/lang/IndexOutOfBoundsException") (name := "java/lang/IndexOutOfBoundsException") (rest := [.int (0 : Int32), .ref hout_0]) hx hb hml hown hts hK hZ (c_X10_patch l hl0 G hx_0 hdec_0 anow hhist_0 hhist_1 ahist0 ahist1 ahist2 ahist3 now hist p1 p2 p3 hcx1) wd_613 wd_1 wd_610 wd_611 wd_612 hd_X10_patch ⟨(Nat.le_of_ble_eq_true rfl), (Nat.le_of_ble_eq_true rfl)⟩ hP hD hS hA [0, 1, 2, 3, 4, 5, 6, 7, 8, 9] rfl (blk_D [0, 1, 2, 3, 4, 5, 6, 7, 8, 9] rfl hD rfl) 7 0 rfl rfl rfl rfl hl.1 rfl (Nat.le_of_ble_eq_true rfl) dL_patch_7 ⟨(Nat.le_of_ble_eq_true rfl), (Nat.le_of_ble_eq_true rfl)⟩ [(⟨0, 12, 15, 13⟩ : ExceptionTableEntry)] (⟨0, 12, 19, 21⟩ : ExceptionTableEntry) [] htab (fun z hz => by rw [List.mem_singleton.mp hz]; exact Or.inr ⟨by decide, _, hts _ wd_496, hK.2.2.2 _ _ (List.mem_of_getElem? (i := 4) rfl)⟩) (by decide) (by decide) (hts _ wd_609) (va_Nw.use rfl (hK.2.1 _ nw_620)) (fun H locs q9 hP hS => ?_)
      refine W.widen (k := 3) (n := 18) (Nat.le_of_ble_eq_true rfl) (Nat.le_of_ble_eq_true rfl) ?_
      refine lv_astore (pc := 19) (lv' := [(5, .ref q9), (0, .ref hx_0), (1, .int p1), (2, .int p2), (3, .int p3), (4, .ref hout_0)]) hx hb dL_patch_19 hl (by decide) rfl (fun ls hl => ?_)
      refine lv_iconst (pc := 21) (v := (2 : Int32)) hx hb dL_patch_21 (by decide) ?_
      have hf := Option.some.inj hf; subst hf
      rw [← hQ]
      exact w_iret hx hb hr hlocks (Nat.le_of_ble_eq_true rfl) (Nat.le_of_ble_eq_true rfl) hP hS dL_patch_22
    have hf := br_n hE hf
    cases hf
  have hf := sum_r hf
  refine w_callR (pc := 7) (bs' := [[(hx_0, .inr (7, [.ref (anow 0), .ref hhist_0, .ref hdec_0]))], [((anow 0), .inr (5, [.ref (anow 1), .ref (anow 3), .ref (anow 5), .ref (anow 12), .ref (anow 14), .ref (anow 16)]))], cBy G (anow 1) (anow 2) 64 x1.2.1.1, cBy G (anow 3) (anow 4) 64 x1.2.1.2.1, cDe G (anow 5) (anow 6) (anow 7) (anow 8) (anow 9) (anow 10) (anow 11) x1.2.1.2.2.1, cPl G (anow 12) (anow 13) x1.2.1.2.2.2.1, cBy G (anow 14) (anow 15) 200 x1.2.1.2.2.2.2.1, [((anow 16), .inr (6, [.ref (anow 17), .int x1.2.1.2.2.2.2.2.2.1, .int x1.2.1.2.2.2.2.2.2.2]))], cBy G (anow 17) (anow 18) 64 x1.2.1.2.2.2.2.2.1, cHist G hhist_0 hhist_1 ahist0 ahist1 ahist2 ahist3 x1.2.2, [(hout_0, .inl (G.2.2.2.1, 1, .inr (.inl out)))]]) (rest := [.int (0 : Int32), .ref hout_0]) hx hb hml hown hts hK hZ (c_X10_patch l hl0 G hx_0 hdec_0 anow hhist_0 hhist_1 ahist0 ahist1 ahist2 ahist3 now hist p1 p2 p3 hcx1) wd_613 wd_1 wd_610 wd_611 wd_612 hd_X10_patch ⟨(Nat.le_of_ble_eq_true rfl), (Nat.le_of_ble_eq_true rfl)⟩ hP hD hS hA [0, 1, 2, 3, 4, 5, 6, 7, 8, 9] rfl (blk_D [0, 1, 2, 3, 4, 5, 6, 7, 8, 9] rfl hD rfl) rfl rfl 7 0 rfl rfl rfl rfl hl.1 rfl (Nat.le_of_ble_eq_true rfl) dL_patch_7 ⟨(Nat.le_of_ble_eq_true rfl), (Nat.le_of_ble_eq_true rfl)⟩ (fun H locs hP hD hS => ?_)
  refine W.widen (k := 3) (n := 18) (Nat.le_of_ble_eq_true rfl) (Nat.le_of_ble_eq_true rfl) ?_
  refine lv_i2l (pc := 10) (v := x1.1.toInt64) hx hb dL_patch_10 rfl ?_
  obtain ⟨hg, hf⟩ := gd_some hf
  refine va_last (pc := 11) hx hb hK.1 hP hD hS 98 2 rfl rfl hg dL_patch_11 (fun H locs hP hD hS => ?_)
  have hP : va_P G.1 vwCl (List.flatten [[(hx_0, .inr (7, [.ref (anow 0), .ref hhist_0, .ref hdec_0]))], [((anow 0), .inr (5, [.ref (anow 1), .ref (anow 3), .ref (anow 5), .ref (anow 12), .ref (anow 14), .ref (anow 16)]))], cBy G (anow 1) (anow 2) 64 x1.2.1.1, cBy G (anow 3) (anow 4) 64 x1.2.1.2.1, cDe G (anow 5) (anow 6) (anow 7) (anow 8) (anow 9) (anow 10) (anow 11) x1.2.1.2.2.1, cPl G (anow 12) (anow 13) x1.2.1.2.2.2.1, cBy G (anow 14) (anow 15) 200 x1.2.1.2.2.2.2.1, [((anow 16), .inr (6, [.ref (anow 17), .int x1.2.1.2.2.2.2.2.2.1, .int x1.2.1.2.2.2.2.2.2.2]))], cBy G (anow 17) (anow 18) 64 x1.2.1.2.2.2.2.2.1, cHist G hhist_0 hhist_1 ahist0 ahist1 ahist2 ahist3 x1.2.2, [(hout_0, .inl (G.2.2.2.1, 1, .inr (.inl (vp_updL out (0 : Int32).toNatClampNeg x1.1.toInt64))))]]) H := hP
  have hD : va_D A (List.flatten [[(hx_0, .inr (7, [.ref (anow 0), .ref hhist_0, .ref hdec_0]))], [((anow 0), .inr (5, [.ref (anow 1), .ref (anow 3), .ref (anow 5), .ref (anow 12), .ref (anow 14), .ref (anow 16)]))], cBy G (anow 1) (anow 2) 64 x1.2.1.1, cBy G (anow 3) (anow 4) 64 x1.2.1.2.1, cDe G (anow 5) (anow 6) (anow 7) (anow 8) (anow 9) (anow 10) (anow 11) x1.2.1.2.2.1, cPl G (anow 12) (anow 13) x1.2.1.2.2.2.1, cBy G (anow 14) (anow 15) 200 x1.2.1.2.2.2.2.1, [((anow 16), .inr (6, [.ref (anow 17), .int x1.2.1.2.2.2.2.2.2.1, .int x1.2.1.2.2.2.2.2.2.2]))], cBy G (anow 17) (anow 18) 64 x1.2.1.2.2.2.2.2.1, cHist G hhist_0 hhist_1 ahist0 ahist1 ahist2 ahist3 x1.2.2, [(hout_0, .inl (G.2.2.2.1, 1, .inr (.inl (vp_updL out (0 : Int32).toNatClampNeg x1.1.toInt64))))]]) := hD
  refine lv_goto (pc := 12) (tgt := 23) hx hb dL_patch_12 (by decide) ?_
  refine lv_iconst (pc := 23) (v := (0 : Int32)) hx hb dL_patch_23 (by decide) ?_
  have hf := Option.some.inj hf; subst hf
  rw [← hQ]
  exact w_iret hx hb hr hlocks (Nat.le_of_ble_eq_true rfl) (Nat.le_of_ble_eq_true rfl) hP hS dL_patch_24
theorem hd_L_clear : yL_clear.cls ≠ "java/lang/invoke/MethodHandle" ∧ yL_clear.cls ≠ "java/lang/invoke/VarHandle" ∧ (parseMethodDescriptor yL_clear.desc).map (fun d => d.parameters.length) = some 3 := by decide +kernel
abbrev rm_L_clear : Room := { frames := 8, cells := 1, slots := 6, locals := 171 }
noncomputable def f_L_clear (now : TState) (hist : THistory) (out : (Nat → Int64)) (p1 : Int32) : Option (Int32 × TState × THistory × (Nat → Int64)) :=
  (f_X10_clear now hist p1).bind (fun x1 => Sum.elim (fun E => br (E = "java/lang/IllegalArgumentException") (some ((1 : Int32), now, hist, out)) (none)) (fun x1 => gd (vp_in (0 : Int32) 1) (some ((0 : Int32), x1.2.1, x1.2.2, (vp_updL out (0 : Int32).toNatClampNeg x1.1.toInt64)))) x1)
set_option maxHeartbeats 4000000 in
set_option maxRecDepth 100000 in
theorem c_L_clear (l : Launch) (hl0 : l.stackTraces = false) (G : GT) (hx_0 hdec_0 : Nat) (anow : Nat → Nat) (hhist_0 hhist_1 : Nat) (ahist0 ahist1 ahist2 ahist3 : Nat → Nat) (hout_0 : Nat) (now : TState) (hist : THistory) (out : (Nat → Int64)) (p1 : Int32) {r : Int32 × TState × THistory × (Nat → Int64)} (hf : f_L_clear now hist out p1 = some r) : CtW l yL_clear (Cond.codeWith yL_clear cL_clear 4 (some .int) [(0, 9, 12, 13)] :: lw_g) rm_L_clear G [.ref hx_0, .int p1, .ref hout_0] (List.flatten [[(hx_0, .inr (7, [.ref (anow 0), .ref hhist_0, .ref hdec_0]))], [((anow 0), .inr (5, [.ref (anow 1), .ref (anow 3), .ref (anow 5), .ref (anow 12), .ref (anow 14), .ref (anow 16)]))], cBy G (anow 1) (anow 2) 64 now.1, cBy G (anow 3) (anow 4) 64 now.2.1, cDe G (anow 5) (anow 6) (anow 7) (anow 8) (anow 9) (anow 10) (anow 11) now.2.2.1, cPl G (anow 12) (anow 13) now.2.2.2.1, cBy G (anow 14) (anow 15) 200 now.2.2.2.2.1, [((anow 16), .inr (6, [.ref (anow 17), .int now.2.2.2.2.2.2.1, .int now.2.2.2.2.2.2.2]))], cBy G (anow 17) (anow 18) 64 now.2.2.2.2.2.1, cHist G hhist_0 hhist_1 ahist0 ahist1 ahist2 ahist3 hist, [(hout_0, .inl (G.2.2.2.1, 1, .inr (.inl out)))]]) (some (.int r.1)) (List.flatten [[(hx_0, .inr (7, [.ref (anow 0), .ref hhist_0, .ref hdec_0]))], [((anow 0), .inr (5, [.ref (anow 1), .ref (anow 3), .ref (anow 5), .ref (anow 12), .ref (anow 14), .ref (anow 16)]))], cBy G (anow 1) (anow 2) 64 r.2.1.1, cBy G (anow 3) (anow 4) 64 r.2.1.2.1, cDe G (anow 5) (anow 6) (anow 7) (anow 8) (anow 9) (anow 10) (anow 11) r.2.1.2.2.1, cPl G (anow 12) (anow 13) r.2.1.2.2.2.1, cBy G (anow 14) (anow 15) 200 r.2.1.2.2.2.2.1, [((anow 16), .inr (6, [.ref (anow 17), .int r.2.1.2.2.2.2.2.2.1, .int r.2.1.2.2.2.2.2.2.2]))], cBy G (anow 17) (anow 18) 64 r.2.1.2.2.2.2.2.1, cHist G hhist_0 hhist_1 ahist0 ahist1 ahist2 ahist3 r.2.2.1, [(hout_0, .inl (G.2.2.2.1, 1, .inr (.inl r.2.2.2)))]]) := by
  refine CtW.ofW (cc := cL_clear) (maxL := 4) (ret := (some .int)) (own := RL) (by decide) rfl rfl (Nat.le_of_ble_eq_true rfl) ?_
  intro p e s m args below meth c A hx hb hr hml hts hown hlocks hK hP hD hA hS htab hZ ls hl
  have hl : lv_has ls 4 [(0, .ref hx_0), (1, .int p1), (2, .ref hout_0)] := hl
  generalize hQ : wMQ below G _ _ A args s _ _ = Q
  generalize hH : s.heap = H at hP ⊢
  have hS : va_S A s.heap H [] := by rw [← hH]; exact hS
  generalize ([] : List Loc) = locs at hS ⊢
  unfold f_L_clear at hf
  refine lv_aload_n (pc := 0) hx hb dL_clear_0 rfl (lv_at hl 2 rfl) ?_
  refine lv_iconst (pc := 1) (v := (0 : Int32)) hx hb dL_clear_1 (by decide) ?_
  refine lv_aload_n (pc := 2) hx hb dL_clear_2 rfl (lv_at hl 0 rfl) ?_
  refine lv_iload_n (pc := 3) hx hb dL_clear_3 rfl (lv_at hl 1 rfl) ?_
  obtain ⟨x1, hcx1, hf⟩ := bn_some hf
  rcases x1 with E | x1
  · have hf := sum_l hf
    by_cases hE : E = "java/lang/IllegalArgumentException"
    · subst hE
      have hf := br_y rfl hf
      refine w_callT (pc := 4) (E := "java/lang/IllegalArgumentException") (name := "java/lang/IllegalArgumentException") (rest := [.int (0 : Int32), .ref hout_0]) hx hb hml hown hts hK hZ (c_X10_clear l hl0 G hx_0 hdec_0 anow hhist_0 hhist_1 ahist0 ahist1 ahist2 ahist3 now hist p1 hcx1) wd_645 wd_1 wd_642 wd_643 wd_644 hd_X10_clear ⟨(Nat.le_of_ble_eq_true rfl), (Nat.le_of_ble_eq_true rfl)⟩ hP hD hS hA [0, 1, 2, 3, 4, 5, 6, 7, 8, 9] rfl (blk_D [0, 1, 2, 3, 4, 5, 6, 7, 8, 9] rfl hD rfl) 7 0 rfl rfl rfl rfl hl.1 rfl (Nat.le_of_ble_eq_true rfl) dL_clear_4 ⟨(Nat.le_of_ble_eq_true rfl), (Nat.le_of_ble_eq_true rfl)⟩ [] (⟨0, 9, 12, 13⟩ : ExceptionTableEntry) [] htab (fun z hz => absurd hz List.not_mem_nil) (by decide) (by decide) (hts _ wd_496) (va_Nw.use rfl (hK.2.1 _ nw_507)) (fun H locs q9 hP hS => ?_)
      refine W.widen (k := 1) (n := 6) (Nat.le_of_ble_eq_true rfl) (Nat.le_of_ble_eq_true rfl) ?_
      refine lv_astore_n (pc := 12) (lv' := [(3, .ref q9), (0, .ref hx_0), (1, .int p1), (2, .ref hout_0)]) hx hb dL_clear_12 rfl hl (by decide) rfl (fun ls hl => ?_)
      refine lv_iconst (pc := 13) (v := (1 : Int32)) hx hb dL_clear_13 (by decide) ?_
      have hf := Option.some.inj hf; subst hf
      rw [← hQ]
      exact w_iret hx hb hr hlocks (Nat.le_of_ble_eq_true rfl) (Nat.le_of_ble_eq_true rfl) hP hS dL_clear_14
    have hf := br_n hE hf
    cases hf
  have hf := sum_r hf
  refine w_callR (pc := 4) (bs' := [[(hx_0, .inr (7, [.ref (anow 0), .ref hhist_0, .ref hdec_0]))], [((anow 0), .inr (5, [.ref (anow 1), .ref (anow 3), .ref (anow 5), .ref (anow 12), .ref (anow 14), .ref (anow 16)]))], cBy G (anow 1) (anow 2) 64 x1.2.1.1, cBy G (anow 3) (anow 4) 64 x1.2.1.2.1, cDe G (anow 5) (anow 6) (anow 7) (anow 8) (anow 9) (anow 10) (anow 11) x1.2.1.2.2.1, cPl G (anow 12) (anow 13) x1.2.1.2.2.2.1, cBy G (anow 14) (anow 15) 200 x1.2.1.2.2.2.2.1, [((anow 16), .inr (6, [.ref (anow 17), .int x1.2.1.2.2.2.2.2.2.1, .int x1.2.1.2.2.2.2.2.2.2]))], cBy G (anow 17) (anow 18) 64 x1.2.1.2.2.2.2.2.1, cHist G hhist_0 hhist_1 ahist0 ahist1 ahist2 ahist3 x1.2.2, [(hout_0, .inl (G.2.2.2.1, 1, .inr (.inl out)))]]) (rest := [.int (0 : Int32), .ref hout_0]) hx hb hml hown hts hK hZ (c_X10_clear l hl0 G hx_0 hdec_0 anow hhist_0 hhist_1 ahist0 ahist1 ahist2 ahist3 now hist p1 hcx1) wd_645 wd_1 wd_642 wd_643 wd_644 hd_X10_clear ⟨(Nat.le_of_ble_eq_true rfl), (Nat.le_of_ble_eq_true rfl)⟩ hP hD hS hA [0, 1, 2, 3, 4, 5, 6, 7, 8, 9] rfl (blk_D [0, 1, 2, 3, 4, 5, 6, 7, 8, 9] rfl hD rfl) rfl rfl 7 0 rfl rfl rfl rfl hl.1 rfl (Nat.le_of_ble_eq_true rfl) dL_clear_4 ⟨(Nat.le_of_ble_eq_true rfl), (Nat.le_of_ble_eq_true rfl)⟩ (fun H locs hP hD hS => ?_)
  refine W.widen (k := 1) (n := 6) (Nat.le_of_ble_eq_true rfl) (Nat.le_of_ble_eq_true rfl) ?_
  refine lv_i2l (pc := 7) (v := x1.1.toInt64) hx hb dL_clear_7 rfl ?_
  obtain ⟨hg, hf⟩ := gd_some hf
  refine va_last (pc := 8) hx hb hK.1 hP hD hS 98 2 rfl rfl hg dL_clear_8 (fun H locs hP hD hS => ?_)
  have hP : va_P G.1 vwCl (List.flatten [[(hx_0, .inr (7, [.ref (anow 0), .ref hhist_0, .ref hdec_0]))], [((anow 0), .inr (5, [.ref (anow 1), .ref (anow 3), .ref (anow 5), .ref (anow 12), .ref (anow 14), .ref (anow 16)]))], cBy G (anow 1) (anow 2) 64 x1.2.1.1, cBy G (anow 3) (anow 4) 64 x1.2.1.2.1, cDe G (anow 5) (anow 6) (anow 7) (anow 8) (anow 9) (anow 10) (anow 11) x1.2.1.2.2.1, cPl G (anow 12) (anow 13) x1.2.1.2.2.2.1, cBy G (anow 14) (anow 15) 200 x1.2.1.2.2.2.2.1, [((anow 16), .inr (6, [.ref (anow 17), .int x1.2.1.2.2.2.2.2.2.1, .int x1.2.1.2.2.2.2.2.2.2]))], cBy G (anow 17) (anow 18) 64 x1.2.1.2.2.2.2.2.1, cHist G hhist_0 hhist_1 ahist0 ahist1 ahist2 ahist3 x1.2.2, [(hout_0, .inl (G.2.2.2.1, 1, .inr (.inl (vp_updL out (0 : Int32).toNatClampNeg x1.1.toInt64))))]]) H := hP
  have hD : va_D A (List.flatten [[(hx_0, .inr (7, [.ref (anow 0), .ref hhist_0, .ref hdec_0]))], [((anow 0), .inr (5, [.ref (anow 1), .ref (anow 3), .ref (anow 5), .ref (anow 12), .ref (anow 14), .ref (anow 16)]))], cBy G (anow 1) (anow 2) 64 x1.2.1.1, cBy G (anow 3) (anow 4) 64 x1.2.1.2.1, cDe G (anow 5) (anow 6) (anow 7) (anow 8) (anow 9) (anow 10) (anow 11) x1.2.1.2.2.1, cPl G (anow 12) (anow 13) x1.2.1.2.2.2.1, cBy G (anow 14) (anow 15) 200 x1.2.1.2.2.2.2.1, [((anow 16), .inr (6, [.ref (anow 17), .int x1.2.1.2.2.2.2.2.2.1, .int x1.2.1.2.2.2.2.2.2.2]))], cBy G (anow 17) (anow 18) 64 x1.2.1.2.2.2.2.2.1, cHist G hhist_0 hhist_1 ahist0 ahist1 ahist2 ahist3 x1.2.2, [(hout_0, .inl (G.2.2.2.1, 1, .inr (.inl (vp_updL out (0 : Int32).toNatClampNeg x1.1.toInt64))))]]) := hD
  refine lv_goto (pc := 9) (tgt := 15) hx hb dL_clear_9 (by decide) ?_
  refine lv_iconst (pc := 15) (v := (0 : Int32)) hx hb dL_clear_15 (by decide) ?_
  have hf := Option.some.inj hf; subst hf
  rw [← hQ]
  exact w_iret hx hb hr hlocks (Nat.le_of_ble_eq_true rfl) (Nat.le_of_ble_eq_true rfl) hP hS dL_clear_16
theorem hd_L_byteOf : yL_byteOf.cls ≠ "java/lang/invoke/MethodHandle" ∧ yL_byteOf.cls ≠ "java/lang/invoke/VarHandle" ∧ (parseMethodDescriptor yL_byteOf.desc).map (fun d => d.parameters.length) = some 4 := by decide +kernel
abbrev rm_L_byteOf : Room := { frames := 8, cells := 2, slots := 12, locals := 135 }
noncomputable def f_L_byteOf (now : TState) (out : (Nat → Int64)) (p1 : Int32) (p2 : Int32) : Option (Int32 × (Nat → Int64)) :=
  (f_X10_byteOf now p1 p2).bind (fun x1 => Sum.elim (fun E => br (E = "java/lang/IllegalArgumentException") (some ((1 : Int32), out)) (br (E = "java/lang/IndexOutOfBoundsException") (some ((2 : Int32), out)) (none))) (fun x1 => gd (vp_in (0 : Int32) 1) (some ((0 : Int32), (vp_updL out (0 : Int32).toNatClampNeg x1.toInt64)))) x1)
set_option maxHeartbeats 4000000 in
set_option maxRecDepth 100000 in
theorem c_L_byteOf (l : Launch) (hl0 : l.stackTraces = false) (G : GT) (hx_0 hhist_0 hdec_0 : Nat) (anow : Nat → Nat) (hout_0 : Nat) (now : TState) (out : (Nat → Int64)) (p1 : Int32) (p2 : Int32) {r : Int32 × (Nat → Int64)} (hf : f_L_byteOf now out p1 p2 = some r) : CtW l yL_byteOf (Cond.codeWith yL_byteOf cL_byteOf 5 (some .int) [(0, 10, 13, 13), (0, 10, 17, 21)] :: lw_g) rm_L_byteOf G [.ref hx_0, .int p1, .int p2, .ref hout_0] (List.flatten [[(hx_0, .inr (7, [.ref (anow 0), .ref hhist_0, .ref hdec_0]))], [((anow 0), .inr (5, [.ref (anow 1), .ref (anow 3), .ref (anow 5), .ref (anow 12), .ref (anow 14), .ref (anow 16)]))], cBy G (anow 1) (anow 2) 64 now.1, cBy G (anow 3) (anow 4) 64 now.2.1, cDe G (anow 5) (anow 6) (anow 7) (anow 8) (anow 9) (anow 10) (anow 11) now.2.2.1, cPl G (anow 12) (anow 13) now.2.2.2.1, cBy G (anow 14) (anow 15) 200 now.2.2.2.2.1, [((anow 16), .inr (6, [.ref (anow 17), .int now.2.2.2.2.2.2.1, .int now.2.2.2.2.2.2.2]))], cBy G (anow 17) (anow 18) 64 now.2.2.2.2.2.1, [(hout_0, .inl (G.2.2.2.1, 1, .inr (.inl out)))]]) (some (.int r.1)) (List.flatten [[(hx_0, .inr (7, [.ref (anow 0), .ref hhist_0, .ref hdec_0]))], [((anow 0), .inr (5, [.ref (anow 1), .ref (anow 3), .ref (anow 5), .ref (anow 12), .ref (anow 14), .ref (anow 16)]))], cBy G (anow 1) (anow 2) 64 now.1, cBy G (anow 3) (anow 4) 64 now.2.1, cDe G (anow 5) (anow 6) (anow 7) (anow 8) (anow 9) (anow 10) (anow 11) now.2.2.1, cPl G (anow 12) (anow 13) now.2.2.2.1, cBy G (anow 14) (anow 15) 200 now.2.2.2.2.1, [((anow 16), .inr (6, [.ref (anow 17), .int now.2.2.2.2.2.2.1, .int now.2.2.2.2.2.2.2]))], cBy G (anow 17) (anow 18) 64 now.2.2.2.2.2.1, [(hout_0, .inl (G.2.2.2.1, 1, .inr (.inl r.2)))]]) := by
  refine CtW.ofW (cc := cL_byteOf) (maxL := 5) (ret := (some .int)) (own := RL) (by decide) rfl rfl (Nat.le_of_ble_eq_true rfl) ?_
  intro p e s m args below meth c A hx hb hr hml hts hown hlocks hK hP hD hA hS htab hZ ls hl
  have hl : lv_has ls 5 [(0, .ref hx_0), (1, .int p1), (2, .int p2), (3, .ref hout_0)] := hl
  generalize hQ : wMQ below G _ _ A args s _ _ = Q
  generalize hH : s.heap = H at hP ⊢
  have hS : va_S A s.heap H [] := by rw [← hH]; exact hS
  generalize ([] : List Loc) = locs at hS ⊢
  unfold f_L_byteOf at hf
  refine lv_aload_n (pc := 0) hx hb dL_byteOf_0 rfl (lv_at hl 3 rfl) ?_
  refine lv_iconst (pc := 1) (v := (0 : Int32)) hx hb dL_byteOf_1 (by decide) ?_
  refine lv_aload_n (pc := 2) hx hb dL_byteOf_2 rfl (lv_at hl 0 rfl) ?_
  refine lv_iload_n (pc := 3) hx hb dL_byteOf_3 rfl (lv_at hl 1 rfl) ?_
  refine lv_iload_n (pc := 4) hx hb dL_byteOf_4 rfl (lv_at hl 2 rfl) ?_
  obtain ⟨x1, hcx1, hf⟩ := bn_some hf
  rcases x1 with E | x1
  · have hf := sum_l hf
    by_cases hE : E = "java/lang/IllegalArgumentException"
    · subst hE
      have hf := br_y rfl hf
      refine w_callT (pc := 5) (E := "java/lang/IllegalArgumentException") (name := "java/lang/IllegalArgumentException") (rest := [.int (0 : Int32), .ref hout_0]) hx hb hml hown hts hK hZ (c_X10_byteOf l hl0 G hx_0 hhist_0 hdec_0 anow now p1 p2 hcx1) wd_652 wd_1 wd_649 wd_650 wd_651 hd_X10_byteOf ⟨(Nat.le_of_ble_eq_true rfl), (Nat.le_of_ble_eq_true rfl)⟩ hP hD hS hA [0, 1, 2, 3, 4, 5, 6, 7, 8] rfl (blk_D [0, 1, 2, 3, 4, 5, 6, 7, 8] rfl hD rfl) 7 0 rfl rfl rfl rfl hl.1 rfl (Nat.le_of_ble_eq_true rfl) dL_byteOf_5 ⟨(Nat.le_of_ble_eq_true rfl), (Nat.le_of_ble_eq_true rfl)⟩ [] (⟨0, 10, 13, 13⟩ : ExceptionTableEntry) [(⟨0, 10, 17, 21⟩ : ExceptionTableEntry)] htab (fun z hz => absurd hz List.not_mem_nil) (by decide) (by decide) (hts _ wd_496) (va_Nw.use rfl (hK.2.1 _ nw_507)) (fun H locs q9 hP hS => ?_)
      refine W.widen (k := 2) (n := 12) (Nat.le_of_ble_eq_true rfl) (Nat.le_of_ble_eq_true rfl) ?_
      refine lv_astore (pc := 13) (lv' := [(4, .ref q9), (0, .ref hx_0), (1, .int p1), (2, .int p2), (3, .ref hout_0)]) hx hb dL_byteOf_13 hl (by decide) rfl (fun ls hl => ?_)
      refine lv_iconst (pc := 15) (v := (1 : Int32)) hx hb dL_byteOf_15 (by decide) ?_
      have hf := Option.some.inj hf; subst hf
      rw [← hQ]
      exact w_iret hx hb hr hlocks (Nat.le_of_ble_eq_true rfl) (Nat.le_of_ble_eq_true rfl) hP hS dL_byteOf_16
    have hf := br_n hE hf
    by_cases hE : E = "java/lang/IndexOutOfBoundsException"
    · subst hE
      have hf := br_y rfl hf
      refine w_callT (pc := 5) (E := "java/lang/IndexOutOfBoundsException") (name := "java/lang/IndexOutOfBoundsException") (rest := [.int (0 : Int32), .ref hout_0]) hx hb hml hown hts hK hZ (c_X10_byteOf l hl0 G hx_0 hhist_0 hdec_0 anow now p1 p2 hcx1) wd_652 wd_1 wd_649 wd_650 wd_651 hd_X10_byteOf ⟨(Nat.le_of_ble_eq_true rfl), (Nat.le_of_ble_eq_true rfl)⟩ hP hD hS hA [0, 1, 2, 3, 4, 5, 6, 7, 8] rfl (blk_D [0, 1, 2, 3, 4, 5, 6, 7, 8] rfl hD rfl) 7 0 rfl rfl rfl rfl hl.1 rfl (Nat.le_of_ble_eq_true rfl) dL_byteOf_5 ⟨(Nat.le_of_ble_eq_true rfl), (Nat.le_of_ble_eq_true rfl)⟩ [(⟨0, 10, 13, 13⟩ : ExceptionTableEntry)] (⟨0, 10, 17, 21⟩ : ExceptionTableEntry) [] htab (fun z hz => by rw [List.mem_singleton.mp hz]; exact Or.inr ⟨by decide, _, hts _ wd_496, hK.2.2.2 _ _ (List.mem_of_getElem? (i := 4) rfl)⟩) (by decide) (by decide) (hts _ wd_609) (va_Nw.use rfl (hK.2.1 _ nw_620)) (fun H locs q9 hP hS => ?_)
      refine W.widen (k := 2) (n := 12) (Nat.le_of_ble_eq_true rfl) (Nat.le_of_ble_eq_true rfl) ?_
      refine lv_astore (pc := 17) (lv' := [(4, .ref q9), (0, .ref hx_0), (1, .int p1), (2, .int p2), (3, .ref hout_0)]) hx hb dL_byteOf_17 hl (by decide) rfl (fun ls hl => ?_)
      refine lv_iconst (pc := 19) (v := (2 : Int32)) hx hb dL_byteOf_19 (by decide) ?_
      have hf := Option.some.inj hf; subst hf
      rw [← hQ]
      exact w_iret hx hb hr hlocks (Nat.le_of_ble_eq_true rfl) (Nat.le_of_ble_eq_true rfl) hP hS dL_byteOf_20
    have hf := br_n hE hf
    cases hf
  have hf := sum_r hf
  refine w_callR (pc := 5) (bs' := [[(hx_0, .inr (7, [.ref (anow 0), .ref hhist_0, .ref hdec_0]))], [((anow 0), .inr (5, [.ref (anow 1), .ref (anow 3), .ref (anow 5), .ref (anow 12), .ref (anow 14), .ref (anow 16)]))], cBy G (anow 1) (anow 2) 64 now.1, cBy G (anow 3) (anow 4) 64 now.2.1, cDe G (anow 5) (anow 6) (anow 7) (anow 8) (anow 9) (anow 10) (anow 11) now.2.2.1, cPl G (anow 12) (anow 13) now.2.2.2.1, cBy G (anow 14) (anow 15) 200 now.2.2.2.2.1, [((anow 16), .inr (6, [.ref (anow 17), .int now.2.2.2.2.2.2.1, .int now.2.2.2.2.2.2.2]))], cBy G (anow 17) (anow 18) 64 now.2.2.2.2.2.1, [(hout_0, .inl (G.2.2.2.1, 1, .inr (.inl out)))]]) (rest := [.int (0 : Int32), .ref hout_0]) hx hb hml hown hts hK hZ (c_X10_byteOf l hl0 G hx_0 hhist_0 hdec_0 anow now p1 p2 hcx1) wd_652 wd_1 wd_649 wd_650 wd_651 hd_X10_byteOf ⟨(Nat.le_of_ble_eq_true rfl), (Nat.le_of_ble_eq_true rfl)⟩ hP hD hS hA [0, 1, 2, 3, 4, 5, 6, 7, 8] rfl (blk_D [0, 1, 2, 3, 4, 5, 6, 7, 8] rfl hD rfl) rfl rfl 7 0 rfl rfl rfl rfl hl.1 rfl (Nat.le_of_ble_eq_true rfl) dL_byteOf_5 ⟨(Nat.le_of_ble_eq_true rfl), (Nat.le_of_ble_eq_true rfl)⟩ (fun H locs hP hD hS => ?_)
  refine W.widen (k := 2) (n := 12) (Nat.le_of_ble_eq_true rfl) (Nat.le_of_ble_eq_true rfl) ?_
  refine lv_i2l (pc := 8) (v := x1.toInt64) hx hb dL_byteOf_8 rfl ?_
  obtain ⟨hg, hf⟩ := gd_some hf
  refine va_last (pc := 9) hx hb hK.1 hP hD hS 20 2 rfl rfl hg dL_byteOf_9 (fun H locs hP hD hS => ?_)
  have hP : va_P G.1 vwCl (List.flatten [[(hx_0, .inr (7, [.ref (anow 0), .ref hhist_0, .ref hdec_0]))], [((anow 0), .inr (5, [.ref (anow 1), .ref (anow 3), .ref (anow 5), .ref (anow 12), .ref (anow 14), .ref (anow 16)]))], cBy G (anow 1) (anow 2) 64 now.1, cBy G (anow 3) (anow 4) 64 now.2.1, cDe G (anow 5) (anow 6) (anow 7) (anow 8) (anow 9) (anow 10) (anow 11) now.2.2.1, cPl G (anow 12) (anow 13) now.2.2.2.1, cBy G (anow 14) (anow 15) 200 now.2.2.2.2.1, [((anow 16), .inr (6, [.ref (anow 17), .int now.2.2.2.2.2.2.1, .int now.2.2.2.2.2.2.2]))], cBy G (anow 17) (anow 18) 64 now.2.2.2.2.2.1, [(hout_0, .inl (G.2.2.2.1, 1, .inr (.inl (vp_updL out (0 : Int32).toNatClampNeg x1.toInt64))))]]) H := hP
  have hD : va_D A (List.flatten [[(hx_0, .inr (7, [.ref (anow 0), .ref hhist_0, .ref hdec_0]))], [((anow 0), .inr (5, [.ref (anow 1), .ref (anow 3), .ref (anow 5), .ref (anow 12), .ref (anow 14), .ref (anow 16)]))], cBy G (anow 1) (anow 2) 64 now.1, cBy G (anow 3) (anow 4) 64 now.2.1, cDe G (anow 5) (anow 6) (anow 7) (anow 8) (anow 9) (anow 10) (anow 11) now.2.2.1, cPl G (anow 12) (anow 13) now.2.2.2.1, cBy G (anow 14) (anow 15) 200 now.2.2.2.2.1, [((anow 16), .inr (6, [.ref (anow 17), .int now.2.2.2.2.2.2.1, .int now.2.2.2.2.2.2.2]))], cBy G (anow 17) (anow 18) 64 now.2.2.2.2.2.1, [(hout_0, .inl (G.2.2.2.1, 1, .inr (.inl (vp_updL out (0 : Int32).toNatClampNeg x1.toInt64))))]]) := hD
  refine lv_goto (pc := 10) (tgt := 21) hx hb dL_byteOf_10 (by decide) ?_
  refine lv_iconst (pc := 21) (v := (0 : Int32)) hx hb dL_byteOf_21 (by decide) ?_
  have hf := Option.some.inj hf; subst hf
  rw [← hQ]
  exact w_iret hx hb hr hlocks (Nat.le_of_ble_eq_true rfl) (Nat.le_of_ble_eq_true rfl) hP hS dL_byteOf_22
theorem hd_L_command : yL_command.cls ≠ "java/lang/invoke/MethodHandle" ∧ yL_command.cls ≠ "java/lang/invoke/VarHandle" ∧ (parseMethodDescriptor yL_command.desc).map (fun d => d.parameters.length) = some 4 := by decide +kernel
abbrev rm_L_command : Room := { frames := 8, cells := 2, slots := 12, locals := 134 }
noncomputable def f_L_command (now : TState) (out : (Nat → Int64)) (p1 : Int32) (p2 : Int32) : Option (Int32 × (Nat → Int64)) :=
  (f_X10_command now p1 p2).bind (fun x1 => Sum.elim (fun E => br (E = "java/lang/IndexOutOfBoundsException") (some ((1 : Int32), out)) (br (E = "java/lang/IllegalArgumentException") (some ((2 : Int32), out)) (none))) (fun x1 => gd (vp_in (0 : Int32) 1) (some ((0 : Int32), (vp_updL out (0 : Int32).toNatClampNeg x1.toInt64)))) x1)
set_option maxHeartbeats 4000000 in
set_option maxRecDepth 100000 in
theorem c_L_command (l : Launch) (hl0 : l.stackTraces = false) (G : GT) (hx_0 hhist_0 hdec_0 : Nat) (anow : Nat → Nat) (hout_0 : Nat) (now : TState) (out : (Nat → Int64)) (p1 : Int32) (p2 : Int32) {r : Int32 × (Nat → Int64)} (hf : f_L_command now out p1 p2 = some r) : CtW l yL_command (Cond.codeWith yL_command cL_command 5 (some .int) [(0, 10, 13, 21), (0, 10, 17, 13)] :: lw_g) rm_L_command G [.ref hx_0, .int p1, .int p2, .ref hout_0] (List.flatten [[(hx_0, .inr (7, [.ref (anow 0), .ref hhist_0, .ref hdec_0]))], [((anow 0), .inr (5, [.ref (anow 1), .ref (anow 3), .ref (anow 5), .ref (anow 12), .ref (anow 14), .ref (anow 16)]))], cBy G (anow 1) (anow 2) 64 now.1, cBy G (anow 3) (anow 4) 64 now.2.1, cDe G (anow 5) (anow 6) (anow 7) (anow 8) (anow 9) (anow 10) (anow 11) now.2.2.1, cPl G (anow 12) (anow 13) now.2.2.2.1, cBy G (anow 14) (anow 15) 200 now.2.2.2.2.1, [((anow 16), .inr (6, [.ref (anow 17), .int now.2.2.2.2.2.2.1, .int now.2.2.2.2.2.2.2]))], cBy G (anow 17) (anow 18) 64 now.2.2.2.2.2.1, [(hout_0, .inl (G.2.2.2.1, 1, .inr (.inl out)))]]) (some (.int r.1)) (List.flatten [[(hx_0, .inr (7, [.ref (anow 0), .ref hhist_0, .ref hdec_0]))], [((anow 0), .inr (5, [.ref (anow 1), .ref (anow 3), .ref (anow 5), .ref (anow 12), .ref (anow 14), .ref (anow 16)]))], cBy G (anow 1) (anow 2) 64 now.1, cBy G (anow 3) (anow 4) 64 now.2.1, cDe G (anow 5) (anow 6) (anow 7) (anow 8) (anow 9) (anow 10) (anow 11) now.2.2.1, cPl G (anow 12) (anow 13) now.2.2.2.1, cBy G (anow 14) (anow 15) 200 now.2.2.2.2.1, [((anow 16), .inr (6, [.ref (anow 17), .int now.2.2.2.2.2.2.1, .int now.2.2.2.2.2.2.2]))], cBy G (anow 17) (anow 18) 64 now.2.2.2.2.2.1, [(hout_0, .inl (G.2.2.2.1, 1, .inr (.inl r.2)))]]) := by
  refine CtW.ofW (cc := cL_command) (maxL := 5) (ret := (some .int)) (own := RL) (by decide) rfl rfl (Nat.le_of_ble_eq_true rfl) ?_
  intro p e s m args below meth c A hx hb hr hml hts hown hlocks hK hP hD hA hS htab hZ ls hl
  have hl : lv_has ls 5 [(0, .ref hx_0), (1, .int p1), (2, .int p2), (3, .ref hout_0)] := hl
  generalize hQ : wMQ below G _ _ A args s _ _ = Q
  generalize hH : s.heap = H at hP ⊢
  have hS : va_S A s.heap H [] := by rw [← hH]; exact hS
  generalize ([] : List Loc) = locs at hS ⊢
  unfold f_L_command at hf
  refine lv_aload_n (pc := 0) hx hb dL_command_0 rfl (lv_at hl 3 rfl) ?_
  refine lv_iconst (pc := 1) (v := (0 : Int32)) hx hb dL_command_1 (by decide) ?_
  refine lv_aload_n (pc := 2) hx hb dL_command_2 rfl (lv_at hl 0 rfl) ?_
  refine lv_iload_n (pc := 3) hx hb dL_command_3 rfl (lv_at hl 1 rfl) ?_
  refine lv_iload_n (pc := 4) hx hb dL_command_4 rfl (lv_at hl 2 rfl) ?_
  obtain ⟨x1, hcx1, hf⟩ := bn_some hf
  rcases x1 with E | x1
  · have hf := sum_l hf
    by_cases hE : E = "java/lang/IndexOutOfBoundsException"
    · subst hE
      have hf := br_y rfl hf
      refine w_callT (pc := 5) (E := "java/lang/IndexOutOfBoundsException") (name := "java/lang/IndexOutOfBoundsException") (rest := [.int (0 : Int32), .ref hout_0]) hx hb hml hown hts hK hZ (c_X10_command l hl0 G hx_0 hhist_0 hdec_0 anow now p1 p2 hcx1) wd_659 wd_1 wd_656 wd_657 wd_658 hd_X10_command ⟨(Nat.le_of_ble_eq_true rfl), (Nat.le_of_ble_eq_true rfl)⟩ hP hD hS hA [0, 1, 2, 3, 4, 5, 6, 7, 8] rfl (blk_D [0, 1, 2, 3, 4, 5, 6, 7, 8] rfl hD rfl) 7 0 rfl rfl rfl rfl hl.1 rfl (Nat.le_of_ble_eq_true rfl) dL_command_5 ⟨(Nat.le_of_ble_eq_true rfl), (Nat.le_of_ble_eq_true rfl)⟩ [] (⟨0, 10, 13, 21⟩ : ExceptionTableEntry) [(⟨0, 10, 17, 13⟩ : ExceptionTableEntry)] htab (fun z hz => absurd hz List.not_mem_nil) (by decide) (by decide) (hts _ wd_609) (va_Nw.use rfl (hK.2.1 _ nw_620)) (fun H locs q9 hP hS => ?_)
      refine W.widen (k := 2) (n := 12) (Nat.le_of_ble_eq_true rfl) (Nat.le_of_ble_eq_true rfl) ?_
      refine lv_astore (pc := 13) (lv' := [(4, .ref q9), (0, .ref hx_0), (1, .int p1), (2, .int p2), (3, .ref hout_0)]) hx hb dL_command_13 hl (by decide) rfl (fun ls hl => ?_)
      refine lv_iconst (pc := 15) (v := (1 : Int32)) hx hb dL_command_15 (by decide) ?_
      have hf := Option.some.inj hf; subst hf
      rw [← hQ]
      exact w_iret hx hb hr hlocks (Nat.le_of_ble_eq_true rfl) (Nat.le_of_ble_eq_true rfl) hP hS dL_command_16
    have hf := br_n hE hf
    by_cases hE : E = "java/lang/IllegalArgumentException"
    · subst hE
      have hf := br_y rfl hf
      refine w_callT (pc := 5) (E := "java/lang/IllegalArgumentException") (name := "java/lang/IllegalArgumentException") (rest := [.int (0 : Int32), .ref hout_0]) hx hb hml hown hts hK hZ (c_X10_command l hl0 G hx_0 hhist_0 hdec_0 anow now p1 p2 hcx1) wd_659 wd_1 wd_656 wd_657 wd_658 hd_X10_command ⟨(Nat.le_of_ble_eq_true rfl), (Nat.le_of_ble_eq_true rfl)⟩ hP hD hS hA [0, 1, 2, 3, 4, 5, 6, 7, 8] rfl (blk_D [0, 1, 2, 3, 4, 5, 6, 7, 8] rfl hD rfl) 7 0 rfl rfl rfl rfl hl.1 rfl (Nat.le_of_ble_eq_true rfl) dL_command_5 ⟨(Nat.le_of_ble_eq_true rfl), (Nat.le_of_ble_eq_true rfl)⟩ [(⟨0, 10, 13, 21⟩ : ExceptionTableEntry)] (⟨0, 10, 17, 13⟩ : ExceptionTableEntry) [] htab (fun z hz => by rw [List.mem_singleton.mp hz]; exact Or.inr ⟨by decide, _, hts _ wd_609, hK.2.2.2 _ _ (List.mem_of_getElem? (i := 1) rfl)⟩) (by decide) (by decide) (hts _ wd_496) (va_Nw.use rfl (hK.2.1 _ nw_507)) (fun H locs q9 hP hS => ?_)
      refine W.widen (k := 2) (n := 12) (Nat.le_of_ble_eq_true rfl) (Nat.le_of_ble_eq_true rfl) ?_
      refine lv_astore (pc := 17) (lv' := [(4, .ref q9), (0, .ref hx_0), (1, .int p1), (2, .int p2), (3, .ref hout_0)]) hx hb dL_command_17 hl (by decide) rfl (fun ls hl => ?_)
      refine lv_iconst (pc := 19) (v := (2 : Int32)) hx hb dL_command_19 (by decide) ?_
      have hf := Option.some.inj hf; subst hf
      rw [← hQ]
      exact w_iret hx hb hr hlocks (Nat.le_of_ble_eq_true rfl) (Nat.le_of_ble_eq_true rfl) hP hS dL_command_20
    have hf := br_n hE hf
    cases hf
  have hf := sum_r hf
  refine w_callR (pc := 5) (bs' := [[(hx_0, .inr (7, [.ref (anow 0), .ref hhist_0, .ref hdec_0]))], [((anow 0), .inr (5, [.ref (anow 1), .ref (anow 3), .ref (anow 5), .ref (anow 12), .ref (anow 14), .ref (anow 16)]))], cBy G (anow 1) (anow 2) 64 now.1, cBy G (anow 3) (anow 4) 64 now.2.1, cDe G (anow 5) (anow 6) (anow 7) (anow 8) (anow 9) (anow 10) (anow 11) now.2.2.1, cPl G (anow 12) (anow 13) now.2.2.2.1, cBy G (anow 14) (anow 15) 200 now.2.2.2.2.1, [((anow 16), .inr (6, [.ref (anow 17), .int now.2.2.2.2.2.2.1, .int now.2.2.2.2.2.2.2]))], cBy G (anow 17) (anow 18) 64 now.2.2.2.2.2.1, [(hout_0, .inl (G.2.2.2.1, 1, .inr (.inl out)))]]) (rest := [.int (0 : Int32), .ref hout_0]) hx hb hml hown hts hK hZ (c_X10_command l hl0 G hx_0 hhist_0 hdec_0 anow now p1 p2 hcx1) wd_659 wd_1 wd_656 wd_657 wd_658 hd_X10_command ⟨(Nat.le_of_ble_eq_true rfl), (Nat.le_of_ble_eq_true rfl)⟩ hP hD hS hA [0, 1, 2, 3, 4, 5, 6, 7, 8] rfl (blk_D [0, 1, 2, 3, 4, 5, 6, 7, 8] rfl hD rfl) rfl rfl 7 0 rfl rfl rfl rfl hl.1 rfl (Nat.le_of_ble_eq_true rfl) dL_command_5 ⟨(Nat.le_of_ble_eq_true rfl), (Nat.le_of_ble_eq_true rfl)⟩ (fun H locs hP hD hS => ?_)
  refine W.widen (k := 2) (n := 12) (Nat.le_of_ble_eq_true rfl) (Nat.le_of_ble_eq_true rfl) ?_
  refine lv_i2l (pc := 8) (v := x1.toInt64) hx hb dL_command_8 rfl ?_
  obtain ⟨hg, hf⟩ := gd_some hf
  refine va_last (pc := 9) hx hb hK.1 hP hD hS 20 2 rfl rfl hg dL_command_9 (fun H locs hP hD hS => ?_)
  have hP : va_P G.1 vwCl (List.flatten [[(hx_0, .inr (7, [.ref (anow 0), .ref hhist_0, .ref hdec_0]))], [((anow 0), .inr (5, [.ref (anow 1), .ref (anow 3), .ref (anow 5), .ref (anow 12), .ref (anow 14), .ref (anow 16)]))], cBy G (anow 1) (anow 2) 64 now.1, cBy G (anow 3) (anow 4) 64 now.2.1, cDe G (anow 5) (anow 6) (anow 7) (anow 8) (anow 9) (anow 10) (anow 11) now.2.2.1, cPl G (anow 12) (anow 13) now.2.2.2.1, cBy G (anow 14) (anow 15) 200 now.2.2.2.2.1, [((anow 16), .inr (6, [.ref (anow 17), .int now.2.2.2.2.2.2.1, .int now.2.2.2.2.2.2.2]))], cBy G (anow 17) (anow 18) 64 now.2.2.2.2.2.1, [(hout_0, .inl (G.2.2.2.1, 1, .inr (.inl (vp_updL out (0 : Int32).toNatClampNeg x1.toInt64))))]]) H := hP
  have hD : va_D A (List.flatten [[(hx_0, .inr (7, [.ref (anow 0), .ref hhist_0, .ref hdec_0]))], [((anow 0), .inr (5, [.ref (anow 1), .ref (anow 3), .ref (anow 5), .ref (anow 12), .ref (anow 14), .ref (anow 16)]))], cBy G (anow 1) (anow 2) 64 now.1, cBy G (anow 3) (anow 4) 64 now.2.1, cDe G (anow 5) (anow 6) (anow 7) (anow 8) (anow 9) (anow 10) (anow 11) now.2.2.1, cPl G (anow 12) (anow 13) now.2.2.2.1, cBy G (anow 14) (anow 15) 200 now.2.2.2.2.1, [((anow 16), .inr (6, [.ref (anow 17), .int now.2.2.2.2.2.2.1, .int now.2.2.2.2.2.2.2]))], cBy G (anow 17) (anow 18) 64 now.2.2.2.2.2.1, [(hout_0, .inl (G.2.2.2.1, 1, .inr (.inl (vp_updL out (0 : Int32).toNatClampNeg x1.toInt64))))]]) := hD
  refine lv_goto (pc := 10) (tgt := 21) hx hb dL_command_10 (by decide) ?_
  refine lv_iconst (pc := 21) (v := (0 : Int32)) hx hb dL_command_21 (by decide) ?_
  have hf := Option.some.inj hf; subst hf
  rw [← hQ]
  exact w_iret hx hb hr hlocks (Nat.le_of_ble_eq_true rfl) (Nat.le_of_ble_eq_true rfl) hP hS dL_command_22
theorem hd_L_mustPrecede : yL_mustPrecede.cls ≠ "java/lang/invoke/MethodHandle" ∧ yL_mustPrecede.cls ≠ "java/lang/invoke/VarHandle" ∧ (parseMethodDescriptor yL_mustPrecede.desc).map (fun d => d.parameters.length) = some 4 := by decide +kernel
abbrev rm_L_mustPrecede : Room := { frames := 8, cells := 1, slots := 6, locals := 134 }
noncomputable def f_L_mustPrecede_J16 (now : TState) (p1 : Int32) (p2 : Int32)  (out : (Nat → Int64)) (s0 : Int64) (s1 : Int32) : Option (Int32 × (Nat → Int64)) :=
  gd (vp_in s1 1) (some ((0 : Int32), (vp_updL out s1.toNatClampNeg s0)))
noncomputable def f_L_mustPrecede (now : TState) (out : (Nat → Int64)) (p1 : Int32) (p2 : Int32) : Option (Int32 × (Nat → Int64)) :=
  (f_X10_mustPrecede now p1 p2).bind (fun x1 => Sum.elim (fun E => br (E = "java/lang/IndexOutOfBoundsException") (some ((1 : Int32), out)) (none)) (fun x1 => br (x1 = 0) (f_L_mustPrecede_J16 now p1 p2 out (0 : Int64) (0 : Int32)) (f_L_mustPrecede_J16 now p1 p2 out (1 : Int64) (0 : Int32))) x1)
set_option maxHeartbeats 4000000 in
set_option maxRecDepth 100000 in
theorem c_L_mustPrecede (l : Launch) (hl0 : l.stackTraces = false) (G : GT) (hx_0 hhist_0 hdec_0 : Nat) (anow : Nat → Nat) (hout_0 : Nat) (now : TState) (out : (Nat → Int64)) (p1 : Int32) (p2 : Int32) {r : Int32 × (Nat → Int64)} (hf : f_L_mustPrecede now out p1 p2 = some r) : CtW l yL_mustPrecede (Cond.codeWith yL_mustPrecede cL_mustPrecede 5 (some .int) [(0, 17, 20, 21)] :: lw_g) rm_L_mustPrecede G [.ref hx_0, .int p1, .int p2, .ref hout_0] (List.flatten [[(hx_0, .inr (7, [.ref (anow 0), .ref hhist_0, .ref hdec_0]))], [((anow 0), .inr (5, [.ref (anow 1), .ref (anow 3), .ref (anow 5), .ref (anow 12), .ref (anow 14), .ref (anow 16)]))], cBy G (anow 1) (anow 2) 64 now.1, cBy G (anow 3) (anow 4) 64 now.2.1, cDe G (anow 5) (anow 6) (anow 7) (anow 8) (anow 9) (anow 10) (anow 11) now.2.2.1, cPl G (anow 12) (anow 13) now.2.2.2.1, cBy G (anow 14) (anow 15) 200 now.2.2.2.2.1, [((anow 16), .inr (6, [.ref (anow 17), .int now.2.2.2.2.2.2.1, .int now.2.2.2.2.2.2.2]))], cBy G (anow 17) (anow 18) 64 now.2.2.2.2.2.1, [(hout_0, .inl (G.2.2.2.1, 1, .inr (.inl out)))]]) (some (.int r.1)) (List.flatten [[(hx_0, .inr (7, [.ref (anow 0), .ref hhist_0, .ref hdec_0]))], [((anow 0), .inr (5, [.ref (anow 1), .ref (anow 3), .ref (anow 5), .ref (anow 12), .ref (anow 14), .ref (anow 16)]))], cBy G (anow 1) (anow 2) 64 now.1, cBy G (anow 3) (anow 4) 64 now.2.1, cDe G (anow 5) (anow 6) (anow 7) (anow 8) (anow 9) (anow 10) (anow 11) now.2.2.1, cPl G (anow 12) (anow 13) now.2.2.2.1, cBy G (anow 14) (anow 15) 200 now.2.2.2.2.1, [((anow 16), .inr (6, [.ref (anow 17), .int now.2.2.2.2.2.2.1, .int now.2.2.2.2.2.2.2]))], cBy G (anow 17) (anow 18) 64 now.2.2.2.2.2.1, [(hout_0, .inl (G.2.2.2.1, 1, .inr (.inl r.2)))]]) := by
  refine CtW.ofW (cc := cL_mustPrecede) (maxL := 5) (ret := (some .int)) (own := RL) (by decide) rfl rfl (Nat.le_of_ble_eq_true rfl) ?_
  intro p e s m args below meth c A hx hb hr hml hts hown hlocks hK hP hD hA hS htab hZ ls hl
  have hl : lv_has ls 5 [(0, .ref hx_0), (1, .int p1), (2, .int p2), (3, .ref hout_0)] := hl
  generalize hQ : wMQ below G _ _ A args s _ _ = Q
  generalize hH : s.heap = H at hP ⊢
  have hS : va_S A s.heap H [] := by rw [← hH]; exact hS
  generalize ([] : List Loc) = locs at hS ⊢
  unfold f_L_mustPrecede at hf
  have hJ16 : ∀ (out : (Nat → Int64)) (s0 : Int64) (s1 : Int32), f_L_mustPrecede_J16 now p1 p2  out s0 s1 = some r → ∀ (H : Heap) (locs : List Loc), va_P G.1 vwCl (List.flatten [[(hx_0, .inr (7, [.ref (anow 0), .ref hhist_0, .ref hdec_0]))], [((anow 0), .inr (5, [.ref (anow 1), .ref (anow 3), .ref (anow 5), .ref (anow 12), .ref (anow 14), .ref (anow 16)]))], cBy G (anow 1) (anow 2) 64 now.1, cBy G (anow 3) (anow 4) 64 now.2.1, cDe G (anow 5) (anow 6) (anow 7) (anow 8) (anow 9) (anow 10) (anow 11) now.2.2.1, cPl G (anow 12) (anow 13) now.2.2.2.1, cBy G (anow 14) (anow 15) 200 now.2.2.2.2.1, [((anow 16), .inr (6, [.ref (anow 17), .int now.2.2.2.2.2.2.1, .int now.2.2.2.2.2.2.2]))], cBy G (anow 17) (anow 18) 64 now.2.2.2.2.2.1, [(hout_0, .inl (G.2.2.2.1, 1, .inr (.inl out)))]]) H → va_D A (List.flatten [[(hx_0, .inr (7, [.ref (anow 0), .ref hhist_0, .ref hdec_0]))], [((anow 0), .inr (5, [.ref (anow 1), .ref (anow 3), .ref (anow 5), .ref (anow 12), .ref (anow 14), .ref (anow 16)]))], cBy G (anow 1) (anow 2) 64 now.1, cBy G (anow 3) (anow 4) 64 now.2.1, cDe G (anow 5) (anow 6) (anow 7) (anow 8) (anow 9) (anow 10) (anow 11) now.2.2.1, cPl G (anow 12) (anow 13) now.2.2.2.1, cBy G (anow 14) (anow 15) 200 now.2.2.2.2.1, [((anow 16), .inr (6, [.ref (anow 17), .int now.2.2.2.2.2.2.1, .int now.2.2.2.2.2.2.2]))], cBy G (anow 17) (anow 18) 64 now.2.2.2.2.2.1, [(hout_0, .inl (G.2.2.2.1, 1, .inr (.inl out)))]]) → va_S A s.heap H locs → ∀ (ls : Array Slot), lv_has ls 5 [] → W p l e (rm_L_mustPrecede) s m args below meth c H locs 1 6 Q (F0 m 16 ls [.long s0, .int s1, .ref hout_0]) := by
    intro out s0 s1 hf H locs hP hD hS ls hl
    unfold f_L_mustPrecede_J16 at hf
    obtain ⟨hg, hf⟩ := gd_some hf
    refine va_last (pc := 16) hx hb hK.1 hP hD hS 20 2 rfl rfl hg dL_mustPrecede_16 (fun H locs hP hD hS => ?_)
    have hP : va_P G.1 vwCl (List.flatten [[(hx_0, .inr (7, [.ref (anow 0), .ref hhist_0, .ref hdec_0]))], [((anow 0), .inr (5, [.ref (anow 1), .ref (anow 3), .ref (anow 5), .ref (anow 12), .ref (anow 14), .ref (anow 16)]))], cBy G (anow 1) (anow 2) 64 now.1, cBy G (anow 3) (anow 4) 64 now.2.1, cDe G (anow 5) (anow 6) (anow 7) (anow 8) (anow 9) (anow 10) (anow 11) now.2.2.1, cPl G (anow 12) (anow 13) now.2.2.2.1, cBy G (anow 14) (anow 15) 200 now.2.2.2.2.1, [((anow 16), .inr (6, [.ref (anow 17), .int now.2.2.2.2.2.2.1, .int now.2.2.2.2.2.2.2]))], cBy G (anow 17) (anow 18) 64 now.2.2.2.2.2.1, [(hout_0, .inl (G.2.2.2.1, 1, .inr (.inl (vp_updL out s1.toNatClampNeg s0))))]]) H := hP
    have hD : va_D A (List.flatten [[(hx_0, .inr (7, [.ref (anow 0), .ref hhist_0, .ref hdec_0]))], [((anow 0), .inr (5, [.ref (anow 1), .ref (anow 3), .ref (anow 5), .ref (anow 12), .ref (anow 14), .ref (anow 16)]))], cBy G (anow 1) (anow 2) 64 now.1, cBy G (anow 3) (anow 4) 64 now.2.1, cDe G (anow 5) (anow 6) (anow 7) (anow 8) (anow 9) (anow 10) (anow 11) now.2.2.1, cPl G (anow 12) (anow 13) now.2.2.2.1, cBy G (anow 14) (anow 15) 200 now.2.2.2.2.1, [((anow 16), .inr (6, [.ref (anow 17), .int now.2.2.2.2.2.2.1, .int now.2.2.2.2.2.2.2]))], cBy G (anow 17) (anow 18) 64 now.2.2.2.2.2.1, [(hout_0, .inl (G.2.2.2.1, 1, .inr (.inl (vp_updL out s1.toNatClampNeg s0))))]]) := hD
    refine lv_goto (pc := 17) (tgt := 24) hx hb dL_mustPrecede_17 (by decide) ?_
    refine lv_iconst (pc := 24) (v := (0 : Int32)) hx hb dL_mustPrecede_24 (by decide) ?_
    have hf := Option.some.inj hf; subst hf
    rw [← hQ]
    exact w_iret hx hb hr hlocks (Nat.le_of_ble_eq_true rfl) (Nat.le_of_ble_eq_true rfl) hP hS dL_mustPrecede_25
  refine lv_aload_n (pc := 0) hx hb dL_mustPrecede_0 rfl (lv_at hl 3 rfl) ?_
  refine lv_iconst (pc := 1) (v := (0 : Int32)) hx hb dL_mustPrecede_1 (by decide) ?_
  refine lv_aload_n (pc := 2) hx hb dL_mustPrecede_2 rfl (lv_at hl 0 rfl) ?_
  refine lv_iload_n (pc := 3) hx hb dL_mustPrecede_3 rfl (lv_at hl 1 rfl) ?_
  refine lv_iload_n (pc := 4) hx hb dL_mustPrecede_4 rfl (lv_at hl 2 rfl) ?_
  obtain ⟨x1, hcx1, hf⟩ := bn_some hf
  rcases x1 with E | x1
  · have hf := sum_l hf
    by_cases hE : E = "java/lang/IndexOutOfBoundsException"
    · subst hE
      have hf := br_y rfl hf
      refine w_callT (pc := 5) (E := "java/lang/IndexOutOfBoundsException") (name := "java/lang/IndexOutOfBoundsException") (rest := [.int (0 : Int32), .ref hout_0]) hx hb hml hown hts hK hZ (c_X10_mustPrecede l hl0 G hx_0 hhist_0 hdec_0 anow now p1 p2 hcx1) wd_669 wd_1 wd_666 wd_667 wd_668 hd_X10_mustPrecede ⟨(Nat.le_of_ble_eq_true rfl), (Nat.le_of_ble_eq_true rfl)⟩ hP hD hS hA [0, 1, 2, 3, 4, 5, 6, 7, 8] rfl (blk_D [0, 1, 2, 3, 4, 5, 6, 7, 8] rfl hD rfl) 7 0 rfl rfl rfl rfl hl.1 rfl (Nat.le_of_ble_eq_true rfl) dL_mustPrecede_5 ⟨(Nat.le_of_ble_eq_true rfl), (Nat.le_of_ble_eq_true rfl)⟩ [] (⟨0, 17, 20, 21⟩ : ExceptionTableEntry) [] htab (fun z hz => absurd hz List.not_mem_nil) (by decide) (by decide) (hts _ wd_609) (va_Nw.use rfl (hK.2.1 _ nw_620)) (fun H locs q9 hP hS => ?_)
      refine W.widen (k := 1) (n := 6) (Nat.le_of_ble_eq_true rfl) (Nat.le_of_ble_eq_true rfl) ?_
      refine lv_astore (pc := 20) (lv' := [(4, .ref q9), (0, .ref hx_0), (1, .int p1), (2, .int p2), (3, .ref hout_0)]) hx hb dL_mustPrecede_20 hl (by decide) rfl (fun ls hl => ?_)
      refine lv_iconst (pc := 22) (v := (1 : Int32)) hx hb dL_mustPrecede_22 (by decide) ?_
      have hf := Option.some.inj hf; subst hf
      rw [← hQ]
      exact w_iret hx hb hr hlocks (Nat.le_of_ble_eq_true rfl) (Nat.le_of_ble_eq_true rfl) hP hS dL_mustPrecede_23
    have hf := br_n hE hf
    cases hf
  have hf := sum_r hf
  refine w_callR (pc := 5) (bs' := [[(hx_0, .inr (7, [.ref (anow 0), .ref hhist_0, .ref hdec_0]))], [((anow 0), .inr (5, [.ref (anow 1), .ref (anow 3), .ref (anow 5), .ref (anow 12), .ref (anow 14), .ref (anow 16)]))], cBy G (anow 1) (anow 2) 64 now.1, cBy G (anow 3) (anow 4) 64 now.2.1, cDe G (anow 5) (anow 6) (anow 7) (anow 8) (anow 9) (anow 10) (anow 11) now.2.2.1, cPl G (anow 12) (anow 13) now.2.2.2.1, cBy G (anow 14) (anow 15) 200 now.2.2.2.2.1, [((anow 16), .inr (6, [.ref (anow 17), .int now.2.2.2.2.2.2.1, .int now.2.2.2.2.2.2.2]))], cBy G (anow 17) (anow 18) 64 now.2.2.2.2.2.1, [(hout_0, .inl (G.2.2.2.1, 1, .inr (.inl out)))]]) (rest := [.int (0 : Int32), .ref hout_0]) hx hb hml hown hts hK hZ (c_X10_mustPrecede l hl0 G hx_0 hhist_0 hdec_0 anow now p1 p2 hcx1) wd_669 wd_1 wd_666 wd_667 wd_668 hd_X10_mustPrecede ⟨(Nat.le_of_ble_eq_true rfl), (Nat.le_of_ble_eq_true rfl)⟩ hP hD hS hA [0, 1, 2, 3, 4, 5, 6, 7, 8] rfl (blk_D [0, 1, 2, 3, 4, 5, 6, 7, 8] rfl hD rfl) rfl rfl 7 0 rfl rfl rfl rfl hl.1 rfl (Nat.le_of_ble_eq_true rfl) dL_mustPrecede_5 ⟨(Nat.le_of_ble_eq_true rfl), (Nat.le_of_ble_eq_true rfl)⟩ (fun H locs hP hD hS => ?_)
  refine W.widen (k := 1) (n := 6) (Nat.le_of_ble_eq_true rfl) (Nat.le_of_ble_eq_true rfl) ?_
  refine lv_if_eq (pc := 8) (tgt := 15) hx hb dL_mustPrecede_8 (by decide) (fun hc => ?_) (fun hc => ?_)
  · have hf := br_y hc hf
    refine lv_lconst (pc := 15) (v := (0 : Int64)) hx hb dL_mustPrecede_15 (by decide) ?_
    exact hJ16 out (0 : Int64) (0 : Int32) hf H locs hP hD hS ls (lv_sub hl [] rfl)
  · have hf := br_n hc hf
    refine lv_lconst (pc := 11) (v := (1 : Int64)) hx hb dL_mustPrecede_11 (by decide) ?_
    refine lv_goto (pc := 12) (tgt := 16) hx hb dL_mustPrecede_12 (by decide) ?_
    exact hJ16 out (1 : Int64) (0 : Int32) hf H locs hP hD hS ls (lv_sub hl [] rfl)
theorem hd_L_plan : yL_plan.cls ≠ "java/lang/invoke/MethodHandle" ∧ yL_plan.cls ≠ "java/lang/invoke/VarHandle" ∧ (parseMethodDescriptor yL_plan.desc).map (fun d => d.parameters.length) = some 3 := by decide +kernel
abbrev rm_L_plan : Room := { frames := 8, cells := 1, slots := 6, locals := 184 }
noncomputable def f_L_plan (now : TState) (hist : THistory) (out : (Nat → Int64)) (p1 : Int32) : Option (Int32 × TState × THistory × (Nat → Int64)) :=
  (f_X10_plan now hist p1).bind (fun x1 => Sum.elim (fun E => br (E = "java/lang/IllegalArgumentException") (some ((1 : Int32), now, hist, out)) (br (E = "java/lang/IllegalStateException") (some ((2 : Int32), now, hist, out)) (none))) (fun x1 => gd (vp_in (0 : Int32) 1) (some ((0 : Int32), x1.2.1, x1.2.2, (vp_updL out (0 : Int32).toNatClampNeg x1.1.toInt64)))) x1)
set_option maxHeartbeats 4000000 in
set_option maxRecDepth 100000 in
theorem c_L_plan (l : Launch) (hl0 : l.stackTraces = false) (G : GT) (hx_0 hdec_0 : Nat) (anow : Nat → Nat) (hhist_0 hhist_1 : Nat) (ahist0 ahist1 ahist2 ahist3 : Nat → Nat) (hout_0 : Nat) (now : TState) (hist : THistory) (out : (Nat → Int64)) (p1 : Int32) {r : Int32 × TState × THistory × (Nat → Int64)} (hf : f_L_plan now hist out p1 = some r) : CtW l yL_plan (Cond.codeWith yL_plan cL_plan 4 (some .int) [(0, 9, 12, 13), (0, 9, 15, 15)] :: lw_g) rm_L_plan G [.ref hx_0, .int p1, .ref hout_0] (List.flatten [[(hx_0, .inr (7, [.ref (anow 0), .ref hhist_0, .ref hdec_0]))], [((anow 0), .inr (5, [.ref (anow 1), .ref (anow 3), .ref (anow 5), .ref (anow 12), .ref (anow 14), .ref (anow 16)]))], cBy G (anow 1) (anow 2) 64 now.1, cBy G (anow 3) (anow 4) 64 now.2.1, cDe G (anow 5) (anow 6) (anow 7) (anow 8) (anow 9) (anow 10) (anow 11) now.2.2.1, cPl G (anow 12) (anow 13) now.2.2.2.1, cBy G (anow 14) (anow 15) 200 now.2.2.2.2.1, [((anow 16), .inr (6, [.ref (anow 17), .int now.2.2.2.2.2.2.1, .int now.2.2.2.2.2.2.2]))], cBy G (anow 17) (anow 18) 64 now.2.2.2.2.2.1, cHist G hhist_0 hhist_1 ahist0 ahist1 ahist2 ahist3 hist, [(hout_0, .inl (G.2.2.2.1, 1, .inr (.inl out)))]]) (some (.int r.1)) (List.flatten [[(hx_0, .inr (7, [.ref (anow 0), .ref hhist_0, .ref hdec_0]))], [((anow 0), .inr (5, [.ref (anow 1), .ref (anow 3), .ref (anow 5), .ref (anow 12), .ref (anow 14), .ref (anow 16)]))], cBy G (anow 1) (anow 2) 64 r.2.1.1, cBy G (anow 3) (anow 4) 64 r.2.1.2.1, cDe G (anow 5) (anow 6) (anow 7) (anow 8) (anow 9) (anow 10) (anow 11) r.2.1.2.2.1, cPl G (anow 12) (anow 13) r.2.1.2.2.2.1, cBy G (anow 14) (anow 15) 200 r.2.1.2.2.2.2.1, [((anow 16), .inr (6, [.ref (anow 17), .int r.2.1.2.2.2.2.2.2.1, .int r.2.1.2.2.2.2.2.2.2]))], cBy G (anow 17) (anow 18) 64 r.2.1.2.2.2.2.2.1, cHist G hhist_0 hhist_1 ahist0 ahist1 ahist2 ahist3 r.2.2.1, [(hout_0, .inl (G.2.2.2.1, 1, .inr (.inl r.2.2.2)))]]) := by
  refine CtW.ofW (cc := cL_plan) (maxL := 4) (ret := (some .int)) (own := RL) (by decide) rfl rfl (Nat.le_of_ble_eq_true rfl) ?_
  intro p e s m args below meth c A hx hb hr hml hts hown hlocks hK hP hD hA hS htab hZ ls hl
  have hl : lv_has ls 4 [(0, .ref hx_0), (1, .int p1), (2, .ref hout_0)] := hl
  generalize hQ : wMQ below G _ _ A args s _ _ = Q
  generalize hH : s.heap = H at hP ⊢
  have hS : va_S A s.heap H [] := by rw [← hH]; exact hS
  generalize ([] : List Loc) = locs at hS ⊢
  unfold f_L_plan at hf
  refine lv_aload_n (pc := 0) hx hb dL_plan_0 rfl (lv_at hl 2 rfl) ?_
  refine lv_iconst (pc := 1) (v := (0 : Int32)) hx hb dL_plan_1 (by decide) ?_
  refine lv_aload_n (pc := 2) hx hb dL_plan_2 rfl (lv_at hl 0 rfl) ?_
  refine lv_iload_n (pc := 3) hx hb dL_plan_3 rfl (lv_at hl 1 rfl) ?_
  obtain ⟨x1, hcx1, hf⟩ := bn_some hf
  rcases x1 with E | x1
  · have hf := sum_l hf
    by_cases hE : E = "java/lang/IllegalArgumentException"
    · subst hE
      have hf := br_y rfl hf
      refine w_callT (pc := 4) (E := "java/lang/IllegalArgumentException") (name := "java/lang/IllegalArgumentException") (rest := [.int (0 : Int32), .ref hout_0]) hx hb hml hown hts hK hZ (c_X10_plan l hl0 G hx_0 hdec_0 anow hhist_0 hhist_1 ahist0 ahist1 ahist2 ahist3 now hist p1 hcx1) wd_678 wd_1 wd_675 wd_676 wd_677 hd_X10_plan ⟨(Nat.le_of_ble_eq_true rfl), (Nat.le_of_ble_eq_true rfl)⟩ hP hD hS hA [0, 1, 2, 3, 4, 5, 6, 7, 8, 9] rfl (blk_D [0, 1, 2, 3, 4, 5, 6, 7, 8, 9] rfl hD rfl) 7 0 rfl rfl rfl rfl hl.1 rfl (Nat.le_of_ble_eq_true rfl) dL_plan_4 ⟨(Nat.le_of_ble_eq_true rfl), (Nat.le_of_ble_eq_true rfl)⟩ [] (⟨0, 9, 12, 13⟩ : ExceptionTableEntry) [(⟨0, 9, 15, 15⟩ : ExceptionTableEntry)] htab (fun z hz => absurd hz List.not_mem_nil) (by decide) (by decide) (hts _ wd_496) (va_Nw.use rfl (hK.2.1 _ nw_507)) (fun H locs q9 hP hS => ?_)
      refine W.widen (k := 1) (n := 6) (Nat.le_of_ble_eq_true rfl) (Nat.le_of_ble_eq_true rfl) ?_
      refine lv_astore_n (pc := 12) (lv' := [(3, .ref q9), (0, .ref hx_0), (1, .int p1), (2, .ref hout_0)]) hx hb dL_plan_12 rfl hl (by decide) rfl (fun ls hl => ?_)
      refine lv_iconst (pc := 13) (v := (1 : Int32)) hx hb dL_plan_13 (by decide) ?_
      have hf := Option.some.inj hf; subst hf
      rw [← hQ]
      exact w_iret hx hb hr hlocks (Nat.le_of_ble_eq_true rfl) (Nat.le_of_ble_eq_true rfl) hP hS dL_plan_14
    have hf := br_n hE hf
    by_cases hE : E = "java/lang/IllegalStateException"
    · subst hE
      have hf := br_y rfl hf
      refine w_callT (pc := 4) (E := "java/lang/IllegalStateException") (name := "java/lang/IllegalStateException") (rest := [.int (0 : Int32), .ref hout_0]) hx hb hml hown hts hK hZ (c_X10_plan l hl0 G hx_0 hdec_0 anow hhist_0 hhist_1 ahist0 ahist1 ahist2 ahist3 now hist p1 hcx1) wd_678 wd_1 wd_675 wd_676 wd_677 hd_X10_plan ⟨(Nat.le_of_ble_eq_true rfl), (Nat.le_of_ble_eq_true rfl)⟩ hP hD hS hA [0, 1, 2, 3, 4, 5, 6, 7, 8, 9] rfl (blk_D [0, 1, 2, 3, 4, 5, 6, 7, 8, 9] rfl hD rfl) 7 0 rfl rfl rfl rfl hl.1 rfl (Nat.le_of_ble_eq_true rfl) dL_plan_4 ⟨(Nat.le_of_ble_eq_true rfl), (Nat.le_of_ble_eq_true rfl)⟩ [(⟨0, 9, 12, 13⟩ : ExceptionTableEntry)] (⟨0, 9, 15, 15⟩ : ExceptionTableEntry) [] htab (fun z hz => by rw [List.mem_singleton.mp hz]; exact Or.inr ⟨by decide, _, hts _ wd_496, hK.2.2.2 _ _ (List.mem_of_getElem? (i := 2) rfl)⟩) (by decide) (by decide) (hts _ wd_497) (va_Nw.use rfl (hK.2.1 _ nw_587)) (fun H locs q9 hP hS => ?_)
      refine W.widen (k := 1) (n := 6) (Nat.le_of_ble_eq_true rfl) (Nat.le_of_ble_eq_true rfl) ?_
      refine lv_astore_n (pc := 15) (lv' := [(3, .ref q9), (0, .ref hx_0), (1, .int p1), (2, .ref hout_0)]) hx hb dL_plan_15 rfl hl (by decide) rfl (fun ls hl => ?_)
      refine lv_iconst (pc := 16) (v := (2 : Int32)) hx hb dL_plan_16 (by decide) ?_
      have hf := Option.some.inj hf; subst hf
      rw [← hQ]
      exact w_iret hx hb hr hlocks (Nat.le_of_ble_eq_true rfl) (Nat.le_of_ble_eq_true rfl) hP hS dL_plan_17
    have hf := br_n hE hf
    cases hf
  have hf := sum_r hf
  refine w_callR (pc := 4) (bs' := [[(hx_0, .inr (7, [.ref (anow 0), .ref hhist_0, .ref hdec_0]))], [((anow 0), .inr (5, [.ref (anow 1), .ref (anow 3), .ref (anow 5), .ref (anow 12), .ref (anow 14), .ref (anow 16)]))], cBy G (anow 1) (anow 2) 64 x1.2.1.1, cBy G (anow 3) (anow 4) 64 x1.2.1.2.1, cDe G (anow 5) (anow 6) (anow 7) (anow 8) (anow 9) (anow 10) (anow 11) x1.2.1.2.2.1, cPl G (anow 12) (anow 13) x1.2.1.2.2.2.1, cBy G (anow 14) (anow 15) 200 x1.2.1.2.2.2.2.1, [((anow 16), .inr (6, [.ref (anow 17), .int x1.2.1.2.2.2.2.2.2.1, .int x1.2.1.2.2.2.2.2.2.2]))], cBy G (anow 17) (anow 18) 64 x1.2.1.2.2.2.2.2.1, cHist G hhist_0 hhist_1 ahist0 ahist1 ahist2 ahist3 x1.2.2, [(hout_0, .inl (G.2.2.2.1, 1, .inr (.inl out)))]]) (rest := [.int (0 : Int32), .ref hout_0]) hx hb hml hown hts hK hZ (c_X10_plan l hl0 G hx_0 hdec_0 anow hhist_0 hhist_1 ahist0 ahist1 ahist2 ahist3 now hist p1 hcx1) wd_678 wd_1 wd_675 wd_676 wd_677 hd_X10_plan ⟨(Nat.le_of_ble_eq_true rfl), (Nat.le_of_ble_eq_true rfl)⟩ hP hD hS hA [0, 1, 2, 3, 4, 5, 6, 7, 8, 9] rfl (blk_D [0, 1, 2, 3, 4, 5, 6, 7, 8, 9] rfl hD rfl) rfl rfl 7 0 rfl rfl rfl rfl hl.1 rfl (Nat.le_of_ble_eq_true rfl) dL_plan_4 ⟨(Nat.le_of_ble_eq_true rfl), (Nat.le_of_ble_eq_true rfl)⟩ (fun H locs hP hD hS => ?_)
  refine W.widen (k := 1) (n := 6) (Nat.le_of_ble_eq_true rfl) (Nat.le_of_ble_eq_true rfl) ?_
  refine lv_i2l (pc := 7) (v := x1.1.toInt64) hx hb dL_plan_7 rfl ?_
  obtain ⟨hg, hf⟩ := gd_some hf
  refine va_last (pc := 8) hx hb hK.1 hP hD hS 98 2 rfl rfl hg dL_plan_8 (fun H locs hP hD hS => ?_)
  have hP : va_P G.1 vwCl (List.flatten [[(hx_0, .inr (7, [.ref (anow 0), .ref hhist_0, .ref hdec_0]))], [((anow 0), .inr (5, [.ref (anow 1), .ref (anow 3), .ref (anow 5), .ref (anow 12), .ref (anow 14), .ref (anow 16)]))], cBy G (anow 1) (anow 2) 64 x1.2.1.1, cBy G (anow 3) (anow 4) 64 x1.2.1.2.1, cDe G (anow 5) (anow 6) (anow 7) (anow 8) (anow 9) (anow 10) (anow 11) x1.2.1.2.2.1, cPl G (anow 12) (anow 13) x1.2.1.2.2.2.1, cBy G (anow 14) (anow 15) 200 x1.2.1.2.2.2.2.1, [((anow 16), .inr (6, [.ref (anow 17), .int x1.2.1.2.2.2.2.2.2.1, .int x1.2.1.2.2.2.2.2.2.2]))], cBy G (anow 17) (anow 18) 64 x1.2.1.2.2.2.2.2.1, cHist G hhist_0 hhist_1 ahist0 ahist1 ahist2 ahist3 x1.2.2, [(hout_0, .inl (G.2.2.2.1, 1, .inr (.inl (vp_updL out (0 : Int32).toNatClampNeg x1.1.toInt64))))]]) H := hP
  have hD : va_D A (List.flatten [[(hx_0, .inr (7, [.ref (anow 0), .ref hhist_0, .ref hdec_0]))], [((anow 0), .inr (5, [.ref (anow 1), .ref (anow 3), .ref (anow 5), .ref (anow 12), .ref (anow 14), .ref (anow 16)]))], cBy G (anow 1) (anow 2) 64 x1.2.1.1, cBy G (anow 3) (anow 4) 64 x1.2.1.2.1, cDe G (anow 5) (anow 6) (anow 7) (anow 8) (anow 9) (anow 10) (anow 11) x1.2.1.2.2.1, cPl G (anow 12) (anow 13) x1.2.1.2.2.2.1, cBy G (anow 14) (anow 15) 200 x1.2.1.2.2.2.2.1, [((anow 16), .inr (6, [.ref (anow 17), .int x1.2.1.2.2.2.2.2.2.1, .int x1.2.1.2.2.2.2.2.2.2]))], cBy G (anow 17) (anow 18) 64 x1.2.1.2.2.2.2.2.1, cHist G hhist_0 hhist_1 ahist0 ahist1 ahist2 ahist3 x1.2.2, [(hout_0, .inl (G.2.2.2.1, 1, .inr (.inl (vp_updL out (0 : Int32).toNatClampNeg x1.1.toInt64))))]]) := hD
  refine lv_goto (pc := 9) (tgt := 18) hx hb dL_plan_9 (by decide) ?_
  refine lv_iconst (pc := 18) (v := (0 : Int32)) hx hb dL_plan_18 (by decide) ?_
  have hf := Option.some.inj hf; subst hf
  rw [← hQ]
  exact w_iret hx hb hr hlocks (Nat.le_of_ble_eq_true rfl) (Nat.le_of_ble_eq_true rfl) hP hS dL_plan_19
theorem hd_L_planned : yL_planned.cls ≠ "java/lang/invoke/MethodHandle" ∧ yL_planned.cls ≠ "java/lang/invoke/VarHandle" ∧ (parseMethodDescriptor yL_planned.desc).map (fun d => d.parameters.length) = some 3 := by decide +kernel
abbrev rm_L_planned : Room := { frames := 8, cells := 2, slots := 12, locals := 133 }
noncomputable def f_L_planned (now : TState) (out : (Nat → Int64)) (p1 : Int32) : Option (Int32 × (Nat → Int64)) :=
  (f_X10_planned now p1).bind (fun x1 => Sum.elim (fun E => br (E = "java/lang/IllegalStateException") (some ((1 : Int32), out)) (br (E = "java/lang/IndexOutOfBoundsException") (some ((2 : Int32), out)) (none))) (fun x1 => gd (vp_in (0 : Int32) 1) (some ((0 : Int32), (vp_updL out (0 : Int32).toNatClampNeg x1.toInt64)))) x1)
set_option maxHeartbeats 4000000 in
set_option maxRecDepth 100000 in
theorem c_L_planned (l : Launch) (hl0 : l.stackTraces = false) (G : GT) (hx_0 hhist_0 hdec_0 : Nat) (anow : Nat → Nat) (hout_0 : Nat) (now : TState) (out : (Nat → Int64)) (p1 : Int32) {r : Int32 × (Nat → Int64)} (hf : f_L_planned now out p1 = some r) : CtW l yL_planned (Cond.codeWith yL_planned cL_planned 4 (some .int) [(0, 9, 12, 15), (0, 9, 15, 21)] :: lw_g) rm_L_planned G [.ref hx_0, .int p1, .ref hout_0] (List.flatten [[(hx_0, .inr (7, [.ref (anow 0), .ref hhist_0, .ref hdec_0]))], [((anow 0), .inr (5, [.ref (anow 1), .ref (anow 3), .ref (anow 5), .ref (anow 12), .ref (anow 14), .ref (anow 16)]))], cBy G (anow 1) (anow 2) 64 now.1, cBy G (anow 3) (anow 4) 64 now.2.1, cDe G (anow 5) (anow 6) (anow 7) (anow 8) (anow 9) (anow 10) (anow 11) now.2.2.1, cPl G (anow 12) (anow 13) now.2.2.2.1, cBy G (anow 14) (anow 15) 200 now.2.2.2.2.1, [((anow 16), .inr (6, [.ref (anow 17), .int now.2.2.2.2.2.2.1, .int now.2.2.2.2.2.2.2]))], cBy G (anow 17) (anow 18) 64 now.2.2.2.2.2.1, [(hout_0, .inl (G.2.2.2.1, 1, .inr (.inl out)))]]) (some (.int r.1)) (List.flatten [[(hx_0, .inr (7, [.ref (anow 0), .ref hhist_0, .ref hdec_0]))], [((anow 0), .inr (5, [.ref (anow 1), .ref (anow 3), .ref (anow 5), .ref (anow 12), .ref (anow 14), .ref (anow 16)]))], cBy G (anow 1) (anow 2) 64 now.1, cBy G (anow 3) (anow 4) 64 now.2.1, cDe G (anow 5) (anow 6) (anow 7) (anow 8) (anow 9) (anow 10) (anow 11) now.2.2.1, cPl G (anow 12) (anow 13) now.2.2.2.1, cBy G (anow 14) (anow 15) 200 now.2.2.2.2.1, [((anow 16), .inr (6, [.ref (anow 17), .int now.2.2.2.2.2.2.1, .int now.2.2.2.2.2.2.2]))], cBy G (anow 17) (anow 18) 64 now.2.2.2.2.2.1, [(hout_0, .inl (G.2.2.2.1, 1, .inr (.inl r.2)))]]) := by
  refine CtW.ofW (cc := cL_planned) (maxL := 4) (ret := (some .int)) (own := RL) (by decide) rfl rfl (Nat.le_of_ble_eq_true rfl) ?_
  intro p e s m args below meth c A hx hb hr hml hts hown hlocks hK hP hD hA hS htab hZ ls hl
  have hl : lv_has ls 4 [(0, .ref hx_0), (1, .int p1), (2, .ref hout_0)] := hl
  generalize hQ : wMQ below G _ _ A args s _ _ = Q
  generalize hH : s.heap = H at hP ⊢
  have hS : va_S A s.heap H [] := by rw [← hH]; exact hS
  generalize ([] : List Loc) = locs at hS ⊢
  unfold f_L_planned at hf
  refine lv_aload_n (pc := 0) hx hb dL_planned_0 rfl (lv_at hl 2 rfl) ?_
  refine lv_iconst (pc := 1) (v := (0 : Int32)) hx hb dL_planned_1 (by decide) ?_
  refine lv_aload_n (pc := 2) hx hb dL_planned_2 rfl (lv_at hl 0 rfl) ?_
  refine lv_iload_n (pc := 3) hx hb dL_planned_3 rfl (lv_at hl 1 rfl) ?_
  obtain ⟨x1, hcx1, hf⟩ := bn_some hf
  rcases x1 with E | x1
  · have hf := sum_l hf
    by_cases hE : E = "java/lang/IllegalStateException"
    · subst hE
      have hf := br_y rfl hf
      refine w_callT (pc := 4) (E := "java/lang/IllegalStateException") (name := "java/lang/IllegalStateException") (rest := [.int (0 : Int32), .ref hout_0]) hx hb hml hown hts hK hZ (c_X10_planned l hl0 G hx_0 hhist_0 hdec_0 anow now p1 hcx1) wd_720 wd_1 wd_717 wd_718 wd_719 hd_X10_planned ⟨(Nat.le_of_ble_eq_true rfl), (Nat.le_of_ble_eq_true rfl)⟩ hP hD hS hA [0, 1, 2, 3, 4, 5, 6, 7, 8] rfl (blk_D [0, 1, 2, 3, 4, 5, 6, 7, 8] rfl hD rfl) 7 0 rfl rfl rfl rfl hl.1 rfl (Nat.le_of_ble_eq_true rfl) dL_planned_4 ⟨(Nat.le_of_ble_eq_true rfl), (Nat.le_of_ble_eq_true rfl)⟩ [] (⟨0, 9, 12, 15⟩ : ExceptionTableEntry) [(⟨0, 9, 15, 21⟩ : ExceptionTableEntry)] htab (fun z hz => absurd hz List.not_mem_nil) (by decide) (by decide) (hts _ wd_497) (va_Nw.use rfl (hK.2.1 _ nw_587)) (fun H locs q9 hP hS => ?_)
      refine W.widen (k := 2) (n := 12) (Nat.le_of_ble_eq_true rfl) (Nat.le_of_ble_eq_true rfl) ?_
      refine lv_astore_n (pc := 12) (lv' := [(3, .ref q9), (0, .ref hx_0), (1, .int p1), (2, .ref hout_0)]) hx hb dL_planned_12 rfl hl (by decide) rfl (fun ls hl => ?_)
      refine lv_iconst (pc := 13) (v := (1 : Int32)) hx hb dL_planned_13 (by decide) ?_
      have hf := Option.some.inj hf; subst hf
      rw [← hQ]
      exact w_iret hx hb hr hlocks (Nat.le_of_ble_eq_true rfl) (Nat.le_of_ble_eq_true rfl) hP hS dL_planned_14
    have hf := br_n hE hf
    by_cases hE : E = "java/lang/IndexOutOfBoundsException"
    · subst hE
      have hf := br_y rfl hf
      refine w_callT (pc := 4) (E := "java/lang/IndexOutOfBoundsException") (name := "java/lang/IndexOutOfBoundsException") (rest := [.int (0 : Int32), .ref hout_0]) hx hb hml hown hts hK hZ (c_X10_planned l hl0 G hx_0 hhist_0 hdec_0 anow now p1 hcx1) wd_720 wd_1 wd_717 wd_718 wd_719 hd_X10_planned ⟨(Nat.le_of_ble_eq_true rfl), (Nat.le_of_ble_eq_true rfl)⟩ hP hD hS hA [0, 1, 2, 3, 4, 5, 6, 7, 8] rfl (blk_D [0, 1, 2, 3, 4, 5, 6, 7, 8] rfl hD rfl) 7 0 rfl rfl rfl rfl hl.1 rfl (Nat.le_of_ble_eq_true rfl) dL_planned_4 ⟨(Nat.le_of_ble_eq_true rfl), (Nat.le_of_ble_eq_true rfl)⟩ [(⟨0, 9, 12, 15⟩ : ExceptionTableEntry)] (⟨0, 9, 15, 21⟩ : ExceptionTableEntry) [] htab (fun z hz => by rw [List.mem_singleton.mp hz]; exact Or.inr ⟨by decide, _, hts _ wd_497, hK.2.2.2 _ _ (List.mem_of_getElem? (i := 5) rfl)⟩) (by decide) (by decide) (hts _ wd_609) (va_Nw.use rfl (hK.2.1 _ nw_620)) (fun H locs q9 hP hS => ?_)
      refine W.widen (k := 2) (n := 12) (Nat.le_of_ble_eq_true rfl) (Nat.le_of_ble_eq_true rfl) ?_
      refine lv_astore_n (pc := 15) (lv' := [(3, .ref q9), (0, .ref hx_0), (1, .int p1), (2, .ref hout_0)]) hx hb dL_planned_15 rfl hl (by decide) rfl (fun ls hl => ?_)
      refine lv_iconst (pc := 16) (v := (2 : Int32)) hx hb dL_planned_16 (by decide) ?_
      have hf := Option.some.inj hf; subst hf
      rw [← hQ]
      exact w_iret hx hb hr hlocks (Nat.le_of_ble_eq_true rfl) (Nat.le_of_ble_eq_true rfl) hP hS dL_planned_17
    have hf := br_n hE hf
    cases hf
  have hf := sum_r hf
  refine w_callR (pc := 4) (bs' := [[(hx_0, .inr (7, [.ref (anow 0), .ref hhist_0, .ref hdec_0]))], [((anow 0), .inr (5, [.ref (anow 1), .ref (anow 3), .ref (anow 5), .ref (anow 12), .ref (anow 14), .ref (anow 16)]))], cBy G (anow 1) (anow 2) 64 now.1, cBy G (anow 3) (anow 4) 64 now.2.1, cDe G (anow 5) (anow 6) (anow 7) (anow 8) (anow 9) (anow 10) (anow 11) now.2.2.1, cPl G (anow 12) (anow 13) now.2.2.2.1, cBy G (anow 14) (anow 15) 200 now.2.2.2.2.1, [((anow 16), .inr (6, [.ref (anow 17), .int now.2.2.2.2.2.2.1, .int now.2.2.2.2.2.2.2]))], cBy G (anow 17) (anow 18) 64 now.2.2.2.2.2.1, [(hout_0, .inl (G.2.2.2.1, 1, .inr (.inl out)))]]) (rest := [.int (0 : Int32), .ref hout_0]) hx hb hml hown hts hK hZ (c_X10_planned l hl0 G hx_0 hhist_0 hdec_0 anow now p1 hcx1) wd_720 wd_1 wd_717 wd_718 wd_719 hd_X10_planned ⟨(Nat.le_of_ble_eq_true rfl), (Nat.le_of_ble_eq_true rfl)⟩ hP hD hS hA [0, 1, 2, 3, 4, 5, 6, 7, 8] rfl (blk_D [0, 1, 2, 3, 4, 5, 6, 7, 8] rfl hD rfl) rfl rfl 7 0 rfl rfl rfl rfl hl.1 rfl (Nat.le_of_ble_eq_true rfl) dL_planned_4 ⟨(Nat.le_of_ble_eq_true rfl), (Nat.le_of_ble_eq_true rfl)⟩ (fun H locs hP hD hS => ?_)
  refine W.widen (k := 2) (n := 12) (Nat.le_of_ble_eq_true rfl) (Nat.le_of_ble_eq_true rfl) ?_
  refine lv_i2l (pc := 7) (v := x1.toInt64) hx hb dL_planned_7 rfl ?_
  obtain ⟨hg, hf⟩ := gd_some hf
  refine va_last (pc := 8) hx hb hK.1 hP hD hS 20 2 rfl rfl hg dL_planned_8 (fun H locs hP hD hS => ?_)
  have hP : va_P G.1 vwCl (List.flatten [[(hx_0, .inr (7, [.ref (anow 0), .ref hhist_0, .ref hdec_0]))], [((anow 0), .inr (5, [.ref (anow 1), .ref (anow 3), .ref (anow 5), .ref (anow 12), .ref (anow 14), .ref (anow 16)]))], cBy G (anow 1) (anow 2) 64 now.1, cBy G (anow 3) (anow 4) 64 now.2.1, cDe G (anow 5) (anow 6) (anow 7) (anow 8) (anow 9) (anow 10) (anow 11) now.2.2.1, cPl G (anow 12) (anow 13) now.2.2.2.1, cBy G (anow 14) (anow 15) 200 now.2.2.2.2.1, [((anow 16), .inr (6, [.ref (anow 17), .int now.2.2.2.2.2.2.1, .int now.2.2.2.2.2.2.2]))], cBy G (anow 17) (anow 18) 64 now.2.2.2.2.2.1, [(hout_0, .inl (G.2.2.2.1, 1, .inr (.inl (vp_updL out (0 : Int32).toNatClampNeg x1.toInt64))))]]) H := hP
  have hD : va_D A (List.flatten [[(hx_0, .inr (7, [.ref (anow 0), .ref hhist_0, .ref hdec_0]))], [((anow 0), .inr (5, [.ref (anow 1), .ref (anow 3), .ref (anow 5), .ref (anow 12), .ref (anow 14), .ref (anow 16)]))], cBy G (anow 1) (anow 2) 64 now.1, cBy G (anow 3) (anow 4) 64 now.2.1, cDe G (anow 5) (anow 6) (anow 7) (anow 8) (anow 9) (anow 10) (anow 11) now.2.2.1, cPl G (anow 12) (anow 13) now.2.2.2.1, cBy G (anow 14) (anow 15) 200 now.2.2.2.2.1, [((anow 16), .inr (6, [.ref (anow 17), .int now.2.2.2.2.2.2.1, .int now.2.2.2.2.2.2.2]))], cBy G (anow 17) (anow 18) 64 now.2.2.2.2.2.1, [(hout_0, .inl (G.2.2.2.1, 1, .inr (.inl (vp_updL out (0 : Int32).toNatClampNeg x1.toInt64))))]]) := hD
  refine lv_goto (pc := 9) (tgt := 18) hx hb dL_planned_9 (by decide) ?_
  refine lv_iconst (pc := 18) (v := (0 : Int32)) hx hb dL_planned_18 (by decide) ?_
  have hf := Option.some.inj hf; subst hf
  rw [← hQ]
  exact w_iret hx hb hr hlocks (Nat.le_of_ble_eq_true rfl) (Nat.le_of_ble_eq_true rfl) hP hS dL_planned_19
theorem hd_L_converted : yL_converted.cls ≠ "java/lang/invoke/MethodHandle" ∧ yL_converted.cls ≠ "java/lang/invoke/VarHandle" ∧ (parseMethodDescriptor yL_converted.desc).map (fun d => d.parameters.length) = some 2 := by decide +kernel
abbrev rm_L_converted : Room := { frames := 8, cells := 1, slots := 6, locals := 132 }
noncomputable def f_L_converted (now : TState) (out : (Nat → Int64)) : Option (Int32 × (Nat → Int64)) :=
  (f_X10_converted now).bind (fun x1 => Sum.elim (fun E => br (E = "java/lang/IllegalStateException") (some ((1 : Int32), out)) (none)) (fun x1 => gd (vp_in (0 : Int32) 1) (some ((0 : Int32), (vp_updL out (0 : Int32).toNatClampNeg x1.toInt64)))) x1)
set_option maxHeartbeats 4000000 in
set_option maxRecDepth 100000 in
theorem c_L_converted (l : Launch) (hl0 : l.stackTraces = false) (G : GT) (hx_0 hhist_0 hdec_0 : Nat) (anow : Nat → Nat) (hout_0 : Nat) (now : TState) (out : (Nat → Int64)) {r : Int32 × (Nat → Int64)} (hf : f_L_converted now out = some r) : CtW l yL_converted (Cond.codeWith yL_converted cL_converted 3 (some .int) [(0, 8, 11, 15)] :: lw_g) rm_L_converted G [.ref hx_0, .ref hout_0] (List.flatten [[(hx_0, .inr (7, [.ref (anow 0), .ref hhist_0, .ref hdec_0]))], [((anow 0), .inr (5, [.ref (anow 1), .ref (anow 3), .ref (anow 5), .ref (anow 12), .ref (anow 14), .ref (anow 16)]))], cBy G (anow 1) (anow 2) 64 now.1, cBy G (anow 3) (anow 4) 64 now.2.1, cDe G (anow 5) (anow 6) (anow 7) (anow 8) (anow 9) (anow 10) (anow 11) now.2.2.1, cPl G (anow 12) (anow 13) now.2.2.2.1, cBy G (anow 14) (anow 15) 200 now.2.2.2.2.1, [((anow 16), .inr (6, [.ref (anow 17), .int now.2.2.2.2.2.2.1, .int now.2.2.2.2.2.2.2]))], cBy G (anow 17) (anow 18) 64 now.2.2.2.2.2.1, [(hout_0, .inl (G.2.2.2.1, 1, .inr (.inl out)))]]) (some (.int r.1)) (List.flatten [[(hx_0, .inr (7, [.ref (anow 0), .ref hhist_0, .ref hdec_0]))], [((anow 0), .inr (5, [.ref (anow 1), .ref (anow 3), .ref (anow 5), .ref (anow 12), .ref (anow 14), .ref (anow 16)]))], cBy G (anow 1) (anow 2) 64 now.1, cBy G (anow 3) (anow 4) 64 now.2.1, cDe G (anow 5) (anow 6) (anow 7) (anow 8) (anow 9) (anow 10) (anow 11) now.2.2.1, cPl G (anow 12) (anow 13) now.2.2.2.1, cBy G (anow 14) (anow 15) 200 now.2.2.2.2.1, [((anow 16), .inr (6, [.ref (anow 17), .int now.2.2.2.2.2.2.1, .int now.2.2.2.2.2.2.2]))], cBy G (anow 17) (anow 18) 64 now.2.2.2.2.2.1, [(hout_0, .inl (G.2.2.2.1, 1, .inr (.inl r.2)))]]) := by
  refine CtW.ofW (cc := cL_converted) (maxL := 3) (ret := (some .int)) (own := RL) (by decide) rfl rfl (Nat.le_of_ble_eq_true rfl) ?_
  intro p e s m args below meth c A hx hb hr hml hts hown hlocks hK hP hD hA hS htab hZ ls hl
  have hl : lv_has ls 3 [(0, .ref hx_0), (1, .ref hout_0)] := hl
  generalize hQ : wMQ below G _ _ A args s _ _ = Q
  generalize hH : s.heap = H at hP ⊢
  have hS : va_S A s.heap H [] := by rw [← hH]; exact hS
  generalize ([] : List Loc) = locs at hS ⊢
  unfold f_L_converted at hf
  refine lv_aload_n (pc := 0) hx hb dL_converted_0 rfl (lv_at hl 1 rfl) ?_
  refine lv_iconst (pc := 1) (v := (0 : Int32)) hx hb dL_converted_1 (by decide) ?_
  refine lv_aload_n (pc := 2) hx hb dL_converted_2 rfl (lv_at hl 0 rfl) ?_
  obtain ⟨x1, hcx1, hf⟩ := bn_some hf
  rcases x1 with E | x1
  · have hf := sum_l hf
    by_cases hE : E = "java/lang/IllegalStateException"
    · subst hE
      have hf := br_y rfl hf
      refine w_callT (pc := 3) (E := "java/lang/IllegalStateException") (name := "java/lang/IllegalStateException") (rest := [.int (0 : Int32), .ref hout_0]) hx hb hml hown hts hK hZ (c_X10_converted l hl0 G hx_0 hhist_0 hdec_0 anow now hcx1) wd_734 wd_1 wd_731 wd_732 wd_733 hd_X10_converted ⟨(Nat.le_of_ble_eq_true rfl), (Nat.le_of_ble_eq_true rfl)⟩ hP hD hS hA [0, 1, 2, 3, 4, 5, 6, 7, 8] rfl (blk_D [0, 1, 2, 3, 4, 5, 6, 7, 8] rfl hD rfl) 7 0 rfl rfl rfl rfl hl.1 rfl (Nat.le_of_ble_eq_true rfl) dL_converted_3 ⟨(Nat.le_of_ble_eq_true rfl), (Nat.le_of_ble_eq_true rfl)⟩ [] (⟨0, 8, 11, 15⟩ : ExceptionTableEntry) [] htab (fun z hz => absurd hz List.not_mem_nil) (by decide) (by decide) (hts _ wd_497) (va_Nw.use rfl (hK.2.1 _ nw_587)) (fun H locs q9 hP hS => ?_)
      refine W.widen (k := 1) (n := 6) (Nat.le_of_ble_eq_true rfl) (Nat.le_of_ble_eq_true rfl) ?_
      refine lv_astore_n (pc := 11) (lv' := [(2, .ref q9), (0, .ref hx_0), (1, .ref hout_0)]) hx hb dL_converted_11 rfl hl (by decide) rfl (fun ls hl => ?_)
      refine lv_iconst (pc := 12) (v := (1 : Int32)) hx hb dL_converted_12 (by decide) ?_
      have hf := Option.some.inj hf; subst hf
      rw [← hQ]
      exact w_iret hx hb hr hlocks (Nat.le_of_ble_eq_true rfl) (Nat.le_of_ble_eq_true rfl) hP hS dL_converted_13
    have hf := br_n hE hf
    cases hf
  have hf := sum_r hf
  refine w_callR (pc := 3) (bs' := [[(hx_0, .inr (7, [.ref (anow 0), .ref hhist_0, .ref hdec_0]))], [((anow 0), .inr (5, [.ref (anow 1), .ref (anow 3), .ref (anow 5), .ref (anow 12), .ref (anow 14), .ref (anow 16)]))], cBy G (anow 1) (anow 2) 64 now.1, cBy G (anow 3) (anow 4) 64 now.2.1, cDe G (anow 5) (anow 6) (anow 7) (anow 8) (anow 9) (anow 10) (anow 11) now.2.2.1, cPl G (anow 12) (anow 13) now.2.2.2.1, cBy G (anow 14) (anow 15) 200 now.2.2.2.2.1, [((anow 16), .inr (6, [.ref (anow 17), .int now.2.2.2.2.2.2.1, .int now.2.2.2.2.2.2.2]))], cBy G (anow 17) (anow 18) 64 now.2.2.2.2.2.1, [(hout_0, .inl (G.2.2.2.1, 1, .inr (.inl out)))]]) (rest := [.int (0 : Int32), .ref hout_0]) hx hb hml hown hts hK hZ (c_X10_converted l hl0 G hx_0 hhist_0 hdec_0 anow now hcx1) wd_734 wd_1 wd_731 wd_732 wd_733 hd_X10_converted ⟨(Nat.le_of_ble_eq_true rfl), (Nat.le_of_ble_eq_true rfl)⟩ hP hD hS hA [0, 1, 2, 3, 4, 5, 6, 7, 8] rfl (blk_D [0, 1, 2, 3, 4, 5, 6, 7, 8] rfl hD rfl) rfl rfl 7 0 rfl rfl rfl rfl hl.1 rfl (Nat.le_of_ble_eq_true rfl) dL_converted_3 ⟨(Nat.le_of_ble_eq_true rfl), (Nat.le_of_ble_eq_true rfl)⟩ (fun H locs hP hD hS => ?_)
  refine W.widen (k := 1) (n := 6) (Nat.le_of_ble_eq_true rfl) (Nat.le_of_ble_eq_true rfl) ?_
  refine lv_i2l (pc := 6) (v := x1.toInt64) hx hb dL_converted_6 rfl ?_
  obtain ⟨hg, hf⟩ := gd_some hf
  refine va_last (pc := 7) hx hb hK.1 hP hD hS 20 2 rfl rfl hg dL_converted_7 (fun H locs hP hD hS => ?_)
  have hP : va_P G.1 vwCl (List.flatten [[(hx_0, .inr (7, [.ref (anow 0), .ref hhist_0, .ref hdec_0]))], [((anow 0), .inr (5, [.ref (anow 1), .ref (anow 3), .ref (anow 5), .ref (anow 12), .ref (anow 14), .ref (anow 16)]))], cBy G (anow 1) (anow 2) 64 now.1, cBy G (anow 3) (anow 4) 64 now.2.1, cDe G (anow 5) (anow 6) (anow 7) (anow 8) (anow 9) (anow 10) (anow 11) now.2.2.1, cPl G (anow 12) (anow 13) now.2.2.2.1, cBy G (anow 14) (anow 15) 200 now.2.2.2.2.1, [((anow 16), .inr (6, [.ref (anow 17), .int now.2.2.2.2.2.2.1, .int now.2.2.2.2.2.2.2]))], cBy G (anow 17) (anow 18) 64 now.2.2.2.2.2.1, [(hout_0, .inl (G.2.2.2.1, 1, .inr (.inl (vp_updL out (0 : Int32).toNatClampNeg x1.toInt64))))]]) H := hP
  have hD : va_D A (List.flatten [[(hx_0, .inr (7, [.ref (anow 0), .ref hhist_0, .ref hdec_0]))], [((anow 0), .inr (5, [.ref (anow 1), .ref (anow 3), .ref (anow 5), .ref (anow 12), .ref (anow 14), .ref (anow 16)]))], cBy G (anow 1) (anow 2) 64 now.1, cBy G (anow 3) (anow 4) 64 now.2.1, cDe G (anow 5) (anow 6) (anow 7) (anow 8) (anow 9) (anow 10) (anow 11) now.2.2.1, cPl G (anow 12) (anow 13) now.2.2.2.1, cBy G (anow 14) (anow 15) 200 now.2.2.2.2.1, [((anow 16), .inr (6, [.ref (anow 17), .int now.2.2.2.2.2.2.1, .int now.2.2.2.2.2.2.2]))], cBy G (anow 17) (anow 18) 64 now.2.2.2.2.2.1, [(hout_0, .inl (G.2.2.2.1, 1, .inr (.inl (vp_updL out (0 : Int32).toNatClampNeg x1.toInt64))))]]) := hD
  refine lv_goto (pc := 8) (tgt := 14) hx hb dL_converted_8 (by decide) ?_
  refine lv_iconst (pc := 14) (v := (0 : Int32)) hx hb dL_converted_14 (by decide) ?_
  have hf := Option.some.inj hf; subst hf
  rw [← hQ]
  exact w_iret hx hb hr hlocks (Nat.le_of_ble_eq_true rfl) (Nat.le_of_ble_eq_true rfl) hP hS dL_converted_15
theorem hd_L_loss : yL_loss.cls ≠ "java/lang/invoke/MethodHandle" ∧ yL_loss.cls ≠ "java/lang/invoke/VarHandle" ∧ (parseMethodDescriptor yL_loss.desc).map (fun d => d.parameters.length) = some 2 := by decide +kernel
abbrev rm_L_loss : Room := { frames := 8, cells := 1, slots := 6, locals := 132 }
noncomputable def f_L_loss (now : TState) (out : (Nat → Int64)) : Option (Int32 × (Nat → Int64)) :=
  (f_X10_loss now).bind (fun x1 => Sum.elim (fun E => br (E = "java/lang/IllegalStateException") (some ((1 : Int32), out)) (none)) (fun x1 => gd (vp_in (0 : Int32) 1) (some ((0 : Int32), (vp_updL out (0 : Int32).toNatClampNeg x1.toInt64)))) x1)
set_option maxHeartbeats 4000000 in
set_option maxRecDepth 100000 in
theorem c_L_loss (l : Launch) (hl0 : l.stackTraces = false) (G : GT) (hx_0 hhist_0 hdec_0 : Nat) (anow : Nat → Nat) (hout_0 : Nat) (now : TState) (out : (Nat → Int64)) {r : Int32 × (Nat → Int64)} (hf : f_L_loss now out = some r) : CtW l yL_loss (Cond.codeWith yL_loss cL_loss 3 (some .int) [(0, 8, 11, 15)] :: lw_g) rm_L_loss G [.ref hx_0, .ref hout_0] (List.flatten [[(hx_0, .inr (7, [.ref (anow 0), .ref hhist_0, .ref hdec_0]))], [((anow 0), .inr (5, [.ref (anow 1), .ref (anow 3), .ref (anow 5), .ref (anow 12), .ref (anow 14), .ref (anow 16)]))], cBy G (anow 1) (anow 2) 64 now.1, cBy G (anow 3) (anow 4) 64 now.2.1, cDe G (anow 5) (anow 6) (anow 7) (anow 8) (anow 9) (anow 10) (anow 11) now.2.2.1, cPl G (anow 12) (anow 13) now.2.2.2.1, cBy G (anow 14) (anow 15) 200 now.2.2.2.2.1, [((anow 16), .inr (6, [.ref (anow 17), .int now.2.2.2.2.2.2.1, .int now.2.2.2.2.2.2.2]))], cBy G (anow 17) (anow 18) 64 now.2.2.2.2.2.1, [(hout_0, .inl (G.2.2.2.1, 1, .inr (.inl out)))]]) (some (.int r.1)) (List.flatten [[(hx_0, .inr (7, [.ref (anow 0), .ref hhist_0, .ref hdec_0]))], [((anow 0), .inr (5, [.ref (anow 1), .ref (anow 3), .ref (anow 5), .ref (anow 12), .ref (anow 14), .ref (anow 16)]))], cBy G (anow 1) (anow 2) 64 now.1, cBy G (anow 3) (anow 4) 64 now.2.1, cDe G (anow 5) (anow 6) (anow 7) (anow 8) (anow 9) (anow 10) (anow 11) now.2.2.1, cPl G (anow 12) (anow 13) now.2.2.2.1, cBy G (anow 14) (anow 15) 200 now.2.2.2.2.1, [((anow 16), .inr (6, [.ref (anow 17), .int now.2.2.2.2.2.2.1, .int now.2.2.2.2.2.2.2]))], cBy G (anow 17) (anow 18) 64 now.2.2.2.2.2.1, [(hout_0, .inl (G.2.2.2.1, 1, .inr (.inl r.2)))]]) := by
  refine CtW.ofW (cc := cL_loss) (maxL := 3) (ret := (some .int)) (own := RL) (by decide) rfl rfl (Nat.le_of_ble_eq_true rfl) ?_
  intro p e s m args below meth c A hx hb hr hml hts hown hlocks hK hP hD hA hS htab hZ ls hl
  have hl : lv_has ls 3 [(0, .ref hx_0), (1, .ref hout_0)] := hl
  generalize hQ : wMQ below G _ _ A args s _ _ = Q
  generalize hH : s.heap = H at hP ⊢
  have hS : va_S A s.heap H [] := by rw [← hH]; exact hS
  generalize ([] : List Loc) = locs at hS ⊢
  unfold f_L_loss at hf
  refine lv_aload_n (pc := 0) hx hb dL_loss_0 rfl (lv_at hl 1 rfl) ?_
  refine lv_iconst (pc := 1) (v := (0 : Int32)) hx hb dL_loss_1 (by decide) ?_
  refine lv_aload_n (pc := 2) hx hb dL_loss_2 rfl (lv_at hl 0 rfl) ?_
  obtain ⟨x1, hcx1, hf⟩ := bn_some hf
  rcases x1 with E | x1
  · have hf := sum_l hf
    by_cases hE : E = "java/lang/IllegalStateException"
    · subst hE
      have hf := br_y rfl hf
      refine w_callT (pc := 3) (E := "java/lang/IllegalStateException") (name := "java/lang/IllegalStateException") (rest := [.int (0 : Int32), .ref hout_0]) hx hb hml hown hts hK hZ (c_X10_loss l hl0 G hx_0 hhist_0 hdec_0 anow now hcx1) wd_741 wd_1 wd_738 wd_739 wd_740 hd_X10_loss ⟨(Nat.le_of_ble_eq_true rfl), (Nat.le_of_ble_eq_true rfl)⟩ hP hD hS hA [0, 1, 2, 3, 4, 5, 6, 7, 8] rfl (blk_D [0, 1, 2, 3, 4, 5, 6, 7, 8] rfl hD rfl) 7 0 rfl rfl rfl rfl hl.1 rfl (Nat.le_of_ble_eq_true rfl) dL_loss_3 ⟨(Nat.le_of_ble_eq_true rfl), (Nat.le_of_ble_eq_true rfl)⟩ [] (⟨0, 8, 11, 15⟩ : ExceptionTableEntry) [] htab (fun z hz => absurd hz List.not_mem_nil) (by decide) (by decide) (hts _ wd_497) (va_Nw.use rfl (hK.2.1 _ nw_587)) (fun H locs q9 hP hS => ?_)
      refine W.widen (k := 1) (n := 6) (Nat.le_of_ble_eq_true rfl) (Nat.le_of_ble_eq_true rfl) ?_
      refine lv_astore_n (pc := 11) (lv' := [(2, .ref q9), (0, .ref hx_0), (1, .ref hout_0)]) hx hb dL_loss_11 rfl hl (by decide) rfl (fun ls hl => ?_)
      refine lv_iconst (pc := 12) (v := (1 : Int32)) hx hb dL_loss_12 (by decide) ?_
      have hf := Option.some.inj hf; subst hf
      rw [← hQ]
      exact w_iret hx hb hr hlocks (Nat.le_of_ble_eq_true rfl) (Nat.le_of_ble_eq_true rfl) hP hS dL_loss_13
    have hf := br_n hE hf
    cases hf
  have hf := sum_r hf
  refine w_callR (pc := 3) (bs' := [[(hx_0, .inr (7, [.ref (anow 0), .ref hhist_0, .ref hdec_0]))], [((anow 0), .inr (5, [.ref (anow 1), .ref (anow 3), .ref (anow 5), .ref (anow 12), .ref (anow 14), .ref (anow 16)]))], cBy G (anow 1) (anow 2) 64 now.1, cBy G (anow 3) (anow 4) 64 now.2.1, cDe G (anow 5) (anow 6) (anow 7) (anow 8) (anow 9) (anow 10) (anow 11) now.2.2.1, cPl G (anow 12) (anow 13) now.2.2.2.1, cBy G (anow 14) (anow 15) 200 now.2.2.2.2.1, [((anow 16), .inr (6, [.ref (anow 17), .int now.2.2.2.2.2.2.1, .int now.2.2.2.2.2.2.2]))], cBy G (anow 17) (anow 18) 64 now.2.2.2.2.2.1, [(hout_0, .inl (G.2.2.2.1, 1, .inr (.inl out)))]]) (rest := [.int (0 : Int32), .ref hout_0]) hx hb hml hown hts hK hZ (c_X10_loss l hl0 G hx_0 hhist_0 hdec_0 anow now hcx1) wd_741 wd_1 wd_738 wd_739 wd_740 hd_X10_loss ⟨(Nat.le_of_ble_eq_true rfl), (Nat.le_of_ble_eq_true rfl)⟩ hP hD hS hA [0, 1, 2, 3, 4, 5, 6, 7, 8] rfl (blk_D [0, 1, 2, 3, 4, 5, 6, 7, 8] rfl hD rfl) rfl rfl 7 0 rfl rfl rfl rfl hl.1 rfl (Nat.le_of_ble_eq_true rfl) dL_loss_3 ⟨(Nat.le_of_ble_eq_true rfl), (Nat.le_of_ble_eq_true rfl)⟩ (fun H locs hP hD hS => ?_)
  refine W.widen (k := 1) (n := 6) (Nat.le_of_ble_eq_true rfl) (Nat.le_of_ble_eq_true rfl) ?_
  refine lv_i2l (pc := 6) (v := x1.toInt64) hx hb dL_loss_6 rfl ?_
  obtain ⟨hg, hf⟩ := gd_some hf
  refine va_last (pc := 7) hx hb hK.1 hP hD hS 20 2 rfl rfl hg dL_loss_7 (fun H locs hP hD hS => ?_)
  have hP : va_P G.1 vwCl (List.flatten [[(hx_0, .inr (7, [.ref (anow 0), .ref hhist_0, .ref hdec_0]))], [((anow 0), .inr (5, [.ref (anow 1), .ref (anow 3), .ref (anow 5), .ref (anow 12), .ref (anow 14), .ref (anow 16)]))], cBy G (anow 1) (anow 2) 64 now.1, cBy G (anow 3) (anow 4) 64 now.2.1, cDe G (anow 5) (anow 6) (anow 7) (anow 8) (anow 9) (anow 10) (anow 11) now.2.2.1, cPl G (anow 12) (anow 13) now.2.2.2.1, cBy G (anow 14) (anow 15) 200 now.2.2.2.2.1, [((anow 16), .inr (6, [.ref (anow 17), .int now.2.2.2.2.2.2.1, .int now.2.2.2.2.2.2.2]))], cBy G (anow 17) (anow 18) 64 now.2.2.2.2.2.1, [(hout_0, .inl (G.2.2.2.1, 1, .inr (.inl (vp_updL out (0 : Int32).toNatClampNeg x1.toInt64))))]]) H := hP
  have hD : va_D A (List.flatten [[(hx_0, .inr (7, [.ref (anow 0), .ref hhist_0, .ref hdec_0]))], [((anow 0), .inr (5, [.ref (anow 1), .ref (anow 3), .ref (anow 5), .ref (anow 12), .ref (anow 14), .ref (anow 16)]))], cBy G (anow 1) (anow 2) 64 now.1, cBy G (anow 3) (anow 4) 64 now.2.1, cDe G (anow 5) (anow 6) (anow 7) (anow 8) (anow 9) (anow 10) (anow 11) now.2.2.1, cPl G (anow 12) (anow 13) now.2.2.2.1, cBy G (anow 14) (anow 15) 200 now.2.2.2.2.1, [((anow 16), .inr (6, [.ref (anow 17), .int now.2.2.2.2.2.2.1, .int now.2.2.2.2.2.2.2]))], cBy G (anow 17) (anow 18) 64 now.2.2.2.2.2.1, [(hout_0, .inl (G.2.2.2.1, 1, .inr (.inl (vp_updL out (0 : Int32).toNatClampNeg x1.toInt64))))]]) := hD
  refine lv_goto (pc := 8) (tgt := 14) hx hb dL_loss_8 (by decide) ?_
  refine lv_iconst (pc := 14) (v := (0 : Int32)) hx hb dL_loss_14 (by decide) ?_
  have hf := Option.some.inj hf; subst hf
  rw [← hQ]
  exact w_iret hx hb hr hlocks (Nat.le_of_ble_eq_true rfl) (Nat.le_of_ble_eq_true rfl) hP hS dL_loss_15
theorem hd_L_encode : yL_encode.cls ≠ "java/lang/invoke/MethodHandle" ∧ yL_encode.cls ≠ "java/lang/invoke/VarHandle" ∧ (parseMethodDescriptor yL_encode.desc).map (fun d => d.parameters.length) = some 2 := by decide +kernel
abbrev rm_L_encode : Room := { frames := 8, cells := 2, slots := 12, locals := 168 }
noncomputable def f_L_encode (now : TState) (hist : THistory) (out : (Nat → Int64)) : Option (Int32 × TState × THistory × (Nat → Int64)) :=
  (f_X10_encode now hist).bind (fun x1 => Sum.elim (fun E => br (E = "java/lang/IllegalStateException") (some ((1 : Int32), now, hist, out)) (none)) (fun x1 => gd (vp_in (0 : Int32) 1) (some ((0 : Int32), x1.2.1, x1.2.2, (vp_updL out (0 : Int32).toNatClampNeg x1.1.toInt64)))) x1)
set_option maxHeartbeats 4000000 in
set_option maxRecDepth 100000 in
theorem c_L_encode (l : Launch) (hl0 : l.stackTraces = false) (G : GT) (hx_0 hdec_0 : Nat) (anow : Nat → Nat) (hhist_0 hhist_1 : Nat) (ahist0 ahist1 ahist2 ahist3 : Nat → Nat) (hout_0 : Nat) (now : TState) (hist : THistory) (out : (Nat → Int64)) {r : Int32 × TState × THistory × (Nat → Int64)} (hf : f_L_encode now hist out = some r) : CtW l yL_encode (Cond.codeWith yL_encode cL_encode 3 (some .int) [(0, 8, 11, 15)] :: lw_g) rm_L_encode G [.ref hx_0, .ref hout_0] (List.flatten [[(hx_0, .inr (7, [.ref (anow 0), .ref hhist_0, .ref hdec_0]))], [((anow 0), .inr (5, [.ref (anow 1), .ref (anow 3), .ref (anow 5), .ref (anow 12), .ref (anow 14), .ref (anow 16)]))], cBy G (anow 1) (anow 2) 64 now.1, cBy G (anow 3) (anow 4) 64 now.2.1, cDe G (anow 5) (anow 6) (anow 7) (anow 8) (anow 9) (anow 10) (anow 11) now.2.2.1, cPl G (anow 12) (anow 13) now.2.2.2.1, cBy G (anow 14) (anow 15) 200 now.2.2.2.2.1, [((anow 16), .inr (6, [.ref (anow 17), .int now.2.2.2.2.2.2.1, .int now.2.2.2.2.2.2.2]))], cBy G (anow 17) (anow 18) 64 now.2.2.2.2.2.1, cHist G hhist_0 hhist_1 ahist0 ahist1 ahist2 ahist3 hist, [(hout_0, .inl (G.2.2.2.1, 1, .inr (.inl out)))]]) (some (.int r.1)) (List.flatten [[(hx_0, .inr (7, [.ref (anow 0), .ref hhist_0, .ref hdec_0]))], [((anow 0), .inr (5, [.ref (anow 1), .ref (anow 3), .ref (anow 5), .ref (anow 12), .ref (anow 14), .ref (anow 16)]))], cBy G (anow 1) (anow 2) 64 r.2.1.1, cBy G (anow 3) (anow 4) 64 r.2.1.2.1, cDe G (anow 5) (anow 6) (anow 7) (anow 8) (anow 9) (anow 10) (anow 11) r.2.1.2.2.1, cPl G (anow 12) (anow 13) r.2.1.2.2.2.1, cBy G (anow 14) (anow 15) 200 r.2.1.2.2.2.2.1, [((anow 16), .inr (6, [.ref (anow 17), .int r.2.1.2.2.2.2.2.2.1, .int r.2.1.2.2.2.2.2.2.2]))], cBy G (anow 17) (anow 18) 64 r.2.1.2.2.2.2.2.1, cHist G hhist_0 hhist_1 ahist0 ahist1 ahist2 ahist3 r.2.2.1, [(hout_0, .inl (G.2.2.2.1, 1, .inr (.inl r.2.2.2)))]]) := by
  refine CtW.ofW (cc := cL_encode) (maxL := 3) (ret := (some .int)) (own := RL) (by decide) rfl rfl (Nat.le_of_ble_eq_true rfl) ?_
  intro p e s m args below meth c A hx hb hr hml hts hown hlocks hK hP hD hA hS htab hZ ls hl
  have hl : lv_has ls 3 [(0, .ref hx_0), (1, .ref hout_0)] := hl
  generalize hQ : wMQ below G _ _ A args s _ _ = Q
  generalize hH : s.heap = H at hP ⊢
  have hS : va_S A s.heap H [] := by rw [← hH]; exact hS
  generalize ([] : List Loc) = locs at hS ⊢
  unfold f_L_encode at hf
  refine lv_aload_n (pc := 0) hx hb dL_encode_0 rfl (lv_at hl 1 rfl) ?_
  refine lv_iconst (pc := 1) (v := (0 : Int32)) hx hb dL_encode_1 (by decide) ?_
  refine lv_aload_n (pc := 2) hx hb dL_encode_2 rfl (lv_at hl 0 rfl) ?_
  obtain ⟨x1, hcx1, hf⟩ := bn_some hf
  rcases x1 with E | x1
  · have hf := sum_l hf
    by_cases hE : E = "java/lang/IllegalStateException"
    · subst hE
      have hf := br_y rfl hf
      refine w_callT (pc := 3) (E := "java/lang/IllegalStateException") (name := "java/lang/IllegalStateException") (rest := [.int (0 : Int32), .ref hout_0]) hx hb hml hown hts hK hZ (c_X10_encode l hl0 G hx_0 hdec_0 anow hhist_0 hhist_1 ahist0 ahist1 ahist2 ahist3 now hist hcx1) wd_748 wd_1 wd_745 wd_746 wd_747 hd_X10_encode ⟨(Nat.le_of_ble_eq_true rfl), (Nat.le_of_ble_eq_true rfl)⟩ hP hD hS hA [0, 1, 2, 3, 4, 5, 6, 7, 8, 9] rfl (blk_D [0, 1, 2, 3, 4, 5, 6, 7, 8, 9] rfl hD rfl) 7 0 rfl rfl rfl rfl hl.1 rfl (Nat.le_of_ble_eq_true rfl) dL_encode_3 ⟨(Nat.le_of_ble_eq_true rfl), (Nat.le_of_ble_eq_true rfl)⟩ [] (⟨0, 8, 11, 15⟩ : ExceptionTableEntry) [] htab (fun z hz => absurd hz List.not_mem_nil) (by decide) (by decide) (hts _ wd_497) (va_Nw.use rfl (hK.2.1 _ nw_587)) (fun H locs q9 hP hS => ?_)
      refine W.widen (k := 2) (n := 12) (Nat.le_of_ble_eq_true rfl) (Nat.le_of_ble_eq_true rfl) ?_
      refine lv_astore_n (pc := 11) (lv' := [(2, .ref q9), (0, .ref hx_0), (1, .ref hout_0)]) hx hb dL_encode_11 rfl hl (by decide) rfl (fun ls hl => ?_)
      refine lv_iconst (pc := 12) (v := (1 : Int32)) hx hb dL_encode_12 (by decide) ?_
      have hf := Option.some.inj hf; subst hf
      rw [← hQ]
      exact w_iret hx hb hr hlocks (Nat.le_of_ble_eq_true rfl) (Nat.le_of_ble_eq_true rfl) hP hS dL_encode_13
    have hf := br_n hE hf
    cases hf
  have hf := sum_r hf
  refine w_callR (pc := 3) (bs' := [[(hx_0, .inr (7, [.ref (anow 0), .ref hhist_0, .ref hdec_0]))], [((anow 0), .inr (5, [.ref (anow 1), .ref (anow 3), .ref (anow 5), .ref (anow 12), .ref (anow 14), .ref (anow 16)]))], cBy G (anow 1) (anow 2) 64 x1.2.1.1, cBy G (anow 3) (anow 4) 64 x1.2.1.2.1, cDe G (anow 5) (anow 6) (anow 7) (anow 8) (anow 9) (anow 10) (anow 11) x1.2.1.2.2.1, cPl G (anow 12) (anow 13) x1.2.1.2.2.2.1, cBy G (anow 14) (anow 15) 200 x1.2.1.2.2.2.2.1, [((anow 16), .inr (6, [.ref (anow 17), .int x1.2.1.2.2.2.2.2.2.1, .int x1.2.1.2.2.2.2.2.2.2]))], cBy G (anow 17) (anow 18) 64 x1.2.1.2.2.2.2.2.1, cHist G hhist_0 hhist_1 ahist0 ahist1 ahist2 ahist3 x1.2.2, [(hout_0, .inl (G.2.2.2.1, 1, .inr (.inl out)))]]) (rest := [.int (0 : Int32), .ref hout_0]) hx hb hml hown hts hK hZ (c_X10_encode l hl0 G hx_0 hdec_0 anow hhist_0 hhist_1 ahist0 ahist1 ahist2 ahist3 now hist hcx1) wd_748 wd_1 wd_745 wd_746 wd_747 hd_X10_encode ⟨(Nat.le_of_ble_eq_true rfl), (Nat.le_of_ble_eq_true rfl)⟩ hP hD hS hA [0, 1, 2, 3, 4, 5, 6, 7, 8, 9] rfl (blk_D [0, 1, 2, 3, 4, 5, 6, 7, 8, 9] rfl hD rfl) rfl rfl 7 0 rfl rfl rfl rfl hl.1 rfl (Nat.le_of_ble_eq_true rfl) dL_encode_3 ⟨(Nat.le_of_ble_eq_true rfl), (Nat.le_of_ble_eq_true rfl)⟩ (fun H locs hP hD hS => ?_)
  refine W.widen (k := 2) (n := 12) (Nat.le_of_ble_eq_true rfl) (Nat.le_of_ble_eq_true rfl) ?_
  refine lv_i2l (pc := 6) (v := x1.1.toInt64) hx hb dL_encode_6 rfl ?_
  obtain ⟨hg, hf⟩ := gd_some hf
  refine va_last (pc := 7) hx hb hK.1 hP hD hS 98 2 rfl rfl hg dL_encode_7 (fun H locs hP hD hS => ?_)
  have hP : va_P G.1 vwCl (List.flatten [[(hx_0, .inr (7, [.ref (anow 0), .ref hhist_0, .ref hdec_0]))], [((anow 0), .inr (5, [.ref (anow 1), .ref (anow 3), .ref (anow 5), .ref (anow 12), .ref (anow 14), .ref (anow 16)]))], cBy G (anow 1) (anow 2) 64 x1.2.1.1, cBy G (anow 3) (anow 4) 64 x1.2.1.2.1, cDe G (anow 5) (anow 6) (anow 7) (anow 8) (anow 9) (anow 10) (anow 11) x1.2.1.2.2.1, cPl G (anow 12) (anow 13) x1.2.1.2.2.2.1, cBy G (anow 14) (anow 15) 200 x1.2.1.2.2.2.2.1, [((anow 16), .inr (6, [.ref (anow 17), .int x1.2.1.2.2.2.2.2.2.1, .int x1.2.1.2.2.2.2.2.2.2]))], cBy G (anow 17) (anow 18) 64 x1.2.1.2.2.2.2.2.1, cHist G hhist_0 hhist_1 ahist0 ahist1 ahist2 ahist3 x1.2.2, [(hout_0, .inl (G.2.2.2.1, 1, .inr (.inl (vp_updL out (0 : Int32).toNatClampNeg x1.1.toInt64))))]]) H := hP
  have hD : va_D A (List.flatten [[(hx_0, .inr (7, [.ref (anow 0), .ref hhist_0, .ref hdec_0]))], [((anow 0), .inr (5, [.ref (anow 1), .ref (anow 3), .ref (anow 5), .ref (anow 12), .ref (anow 14), .ref (anow 16)]))], cBy G (anow 1) (anow 2) 64 x1.2.1.1, cBy G (anow 3) (anow 4) 64 x1.2.1.2.1, cDe G (anow 5) (anow 6) (anow 7) (anow 8) (anow 9) (anow 10) (anow 11) x1.2.1.2.2.1, cPl G (anow 12) (anow 13) x1.2.1.2.2.2.1, cBy G (anow 14) (anow 15) 200 x1.2.1.2.2.2.2.1, [((anow 16), .inr (6, [.ref (anow 17), .int x1.2.1.2.2.2.2.2.2.1, .int x1.2.1.2.2.2.2.2.2.2]))], cBy G (anow 17) (anow 18) 64 x1.2.1.2.2.2.2.2.1, cHist G hhist_0 hhist_1 ahist0 ahist1 ahist2 ahist3 x1.2.2, [(hout_0, .inl (G.2.2.2.1, 1, .inr (.inl (vp_updL out (0 : Int32).toNatClampNeg x1.1.toInt64))))]]) := hD
  refine lv_goto (pc := 8) (tgt := 14) hx hb dL_encode_8 (by decide) ?_
  refine lv_iconst (pc := 14) (v := (0 : Int32)) hx hb dL_encode_14 (by decide) ?_
  have hf := Option.some.inj hf; subst hf
  rw [← hQ]
  exact w_iret hx hb hr hlocks (Nat.le_of_ble_eq_true rfl) (Nat.le_of_ble_eq_true rfl) hP hS dL_encode_15
theorem hd_L_write : yL_write.cls ≠ "java/lang/invoke/MethodHandle" ∧ yL_write.cls ≠ "java/lang/invoke/VarHandle" ∧ (parseMethodDescriptor yL_write.desc).map (fun d => d.parameters.length) = some 3 := by decide +kernel
abbrev rm_L_write : Room := { frames := 8, cells := 2, slots := 12, locals := 169 }
noncomputable def f_L_write (now : TState) (hist : THistory) (out : (Nat → Int64)) (p1 : Int32) : Option (Int32 × TState × THistory × (Nat → Int64)) :=
  (f_X10_write now hist p1).bind (fun x1 => Sum.elim (fun E => br (E = "java/lang/IllegalArgumentException") (some ((1 : Int32), now, hist, out)) (br (E = "java/lang/IllegalStateException") (some ((2 : Int32), now, hist, out)) (none))) (fun x1 => gd (vp_in (0 : Int32) 1) (some ((0 : Int32), x1.2.1, x1.2.2, (vp_updL out (0 : Int32).toNatClampNeg x1.1.toInt64)))) x1)
set_option maxHeartbeats 4000000 in
set_option maxRecDepth 100000 in
theorem c_L_write (l : Launch) (hl0 : l.stackTraces = false) (G : GT) (hx_0 hdec_0 : Nat) (anow : Nat → Nat) (hhist_0 hhist_1 : Nat) (ahist0 ahist1 ahist2 ahist3 : Nat → Nat) (hout_0 : Nat) (now : TState) (hist : THistory) (out : (Nat → Int64)) (p1 : Int32) {r : Int32 × TState × THistory × (Nat → Int64)} (hf : f_L_write now hist out p1 = some r) : CtW l yL_write (Cond.codeWith yL_write cL_write 4 (some .int) [(0, 9, 12, 13), (0, 9, 15, 15)] :: lw_g) rm_L_write G [.ref hx_0, .int p1, .ref hout_0] (List.flatten [[(hx_0, .inr (7, [.ref (anow 0), .ref hhist_0, .ref hdec_0]))], [((anow 0), .inr (5, [.ref (anow 1), .ref (anow 3), .ref (anow 5), .ref (anow 12), .ref (anow 14), .ref (anow 16)]))], cBy G (anow 1) (anow 2) 64 now.1, cBy G (anow 3) (anow 4) 64 now.2.1, cDe G (anow 5) (anow 6) (anow 7) (anow 8) (anow 9) (anow 10) (anow 11) now.2.2.1, cPl G (anow 12) (anow 13) now.2.2.2.1, cBy G (anow 14) (anow 15) 200 now.2.2.2.2.1, [((anow 16), .inr (6, [.ref (anow 17), .int now.2.2.2.2.2.2.1, .int now.2.2.2.2.2.2.2]))], cBy G (anow 17) (anow 18) 64 now.2.2.2.2.2.1, cHist G hhist_0 hhist_1 ahist0 ahist1 ahist2 ahist3 hist, [(hout_0, .inl (G.2.2.2.1, 1, .inr (.inl out)))]]) (some (.int r.1)) (List.flatten [[(hx_0, .inr (7, [.ref (anow 0), .ref hhist_0, .ref hdec_0]))], [((anow 0), .inr (5, [.ref (anow 1), .ref (anow 3), .ref (anow 5), .ref (anow 12), .ref (anow 14), .ref (anow 16)]))], cBy G (anow 1) (anow 2) 64 r.2.1.1, cBy G (anow 3) (anow 4) 64 r.2.1.2.1, cDe G (anow 5) (anow 6) (anow 7) (anow 8) (anow 9) (anow 10) (anow 11) r.2.1.2.2.1, cPl G (anow 12) (anow 13) r.2.1.2.2.2.1, cBy G (anow 14) (anow 15) 200 r.2.1.2.2.2.2.1, [((anow 16), .inr (6, [.ref (anow 17), .int r.2.1.2.2.2.2.2.2.1, .int r.2.1.2.2.2.2.2.2.2]))], cBy G (anow 17) (anow 18) 64 r.2.1.2.2.2.2.2.1, cHist G hhist_0 hhist_1 ahist0 ahist1 ahist2 ahist3 r.2.2.1, [(hout_0, .inl (G.2.2.2.1, 1, .inr (.inl r.2.2.2)))]]) := by
  refine CtW.ofW (cc := cL_write) (maxL := 4) (ret := (some .int)) (own := RL) (by decide) rfl rfl (Nat.le_of_ble_eq_true rfl) ?_
  intro p e s m args below meth c A hx hb hr hml hts hown hlocks hK hP hD hA hS htab hZ ls hl
  have hl : lv_has ls 4 [(0, .ref hx_0), (1, .int p1), (2, .ref hout_0)] := hl
  generalize hQ : wMQ below G _ _ A args s _ _ = Q
  generalize hH : s.heap = H at hP ⊢
  have hS : va_S A s.heap H [] := by rw [← hH]; exact hS
  generalize ([] : List Loc) = locs at hS ⊢
  unfold f_L_write at hf
  refine lv_aload_n (pc := 0) hx hb dL_write_0 rfl (lv_at hl 2 rfl) ?_
  refine lv_iconst (pc := 1) (v := (0 : Int32)) hx hb dL_write_1 (by decide) ?_
  refine lv_aload_n (pc := 2) hx hb dL_write_2 rfl (lv_at hl 0 rfl) ?_
  refine lv_iload_n (pc := 3) hx hb dL_write_3 rfl (lv_at hl 1 rfl) ?_
  obtain ⟨x1, hcx1, hf⟩ := bn_some hf
  rcases x1 with E | x1
  · have hf := sum_l hf
    by_cases hE : E = "java/lang/IllegalArgumentException"
    · subst hE
      have hf := br_y rfl hf
      refine w_callT (pc := 4) (E := "java/lang/IllegalArgumentException") (name := "java/lang/IllegalArgumentException") (rest := [.int (0 : Int32), .ref hout_0]) hx hb hml hown hts hK hZ (c_X10_write l hl0 G hx_0 hdec_0 anow hhist_0 hhist_1 ahist0 ahist1 ahist2 ahist3 now hist p1 hcx1) wd_785 wd_1 wd_782 wd_783 wd_784 hd_X10_write ⟨(Nat.le_of_ble_eq_true rfl), (Nat.le_of_ble_eq_true rfl)⟩ hP hD hS hA [0, 1, 2, 3, 4, 5, 6, 7, 8, 9] rfl (blk_D [0, 1, 2, 3, 4, 5, 6, 7, 8, 9] rfl hD rfl) 7 0 rfl rfl rfl rfl hl.1 rfl (Nat.le_of_ble_eq_true rfl) dL_write_4 ⟨(Nat.le_of_ble_eq_true rfl), (Nat.le_of_ble_eq_true rfl)⟩ [] (⟨0, 9, 12, 13⟩ : ExceptionTableEntry) [(⟨0, 9, 15, 15⟩ : ExceptionTableEntry)] htab (fun z hz => absurd hz List.not_mem_nil) (by decide) (by decide) (hts _ wd_496) (va_Nw.use rfl (hK.2.1 _ nw_507)) (fun H locs q9 hP hS => ?_)
      refine W.widen (k := 2) (n := 12) (Nat.le_of_ble_eq_true rfl) (Nat.le_of_ble_eq_true rfl) ?_
      refine lv_astore_n (pc := 12) (lv' := [(3, .ref q9), (0, .ref hx_0), (1, .int p1), (2, .ref hout_0)]) hx hb dL_write_12 rfl hl (by decide) rfl (fun ls hl => ?_)
      refine lv_iconst (pc := 13) (v := (1 : Int32)) hx hb dL_write_13 (by decide) ?_
      have hf := Option.some.inj hf; subst hf
      rw [← hQ]
      exact w_iret hx hb hr hlocks (Nat.le_of_ble_eq_true rfl) (Nat.le_of_ble_eq_true rfl) hP hS dL_write_14
    have hf := br_n hE hf
    by_cases hE : E = "java/lang/IllegalStateException"
    · subst hE
      have hf := br_y rfl hf
      refine w_callT (pc := 4) (E := "java/lang/IllegalStateException") (name := "java/lang/IllegalStateException") (rest := [.int (0 : Int32), .ref hout_0]) hx hb hml hown hts hK hZ (c_X10_write l hl0 G hx_0 hdec_0 anow hhist_0 hhist_1 ahist0 ahist1 ahist2 ahist3 now hist p1 hcx1) wd_785 wd_1 wd_782 wd_783 wd_784 hd_X10_write ⟨(Nat.le_of_ble_eq_true rfl), (Nat.le_of_ble_eq_true rfl)⟩ hP hD hS hA [0, 1, 2, 3, 4, 5, 6, 7, 8, 9] rfl (blk_D [0, 1, 2, 3, 4, 5, 6, 7, 8, 9] rfl hD rfl) 7 0 rfl rfl rfl rfl hl.1 rfl (Nat.le_of_ble_eq_true rfl) dL_write_4 ⟨(Nat.le_of_ble_eq_true rfl), (Nat.le_of_ble_eq_true rfl)⟩ [(⟨0, 9, 12, 13⟩ : ExceptionTableEntry)] (⟨0, 9, 15, 15⟩ : ExceptionTableEntry) [] htab (fun z hz => by rw [List.mem_singleton.mp hz]; exact Or.inr ⟨by decide, _, hts _ wd_496, hK.2.2.2 _ _ (List.mem_of_getElem? (i := 2) rfl)⟩) (by decide) (by decide) (hts _ wd_497) (va_Nw.use rfl (hK.2.1 _ nw_587)) (fun H locs q9 hP hS => ?_)
      refine W.widen (k := 2) (n := 12) (Nat.le_of_ble_eq_true rfl) (Nat.le_of_ble_eq_true rfl) ?_
      refine lv_astore_n (pc := 15) (lv' := [(3, .ref q9), (0, .ref hx_0), (1, .int p1), (2, .ref hout_0)]) hx hb dL_write_15 rfl hl (by decide) rfl (fun ls hl => ?_)
      refine lv_iconst (pc := 16) (v := (2 : Int32)) hx hb dL_write_16 (by decide) ?_
      have hf := Option.some.inj hf; subst hf
      rw [← hQ]
      exact w_iret hx hb hr hlocks (Nat.le_of_ble_eq_true rfl) (Nat.le_of_ble_eq_true rfl) hP hS dL_write_17
    have hf := br_n hE hf
    cases hf
  have hf := sum_r hf
  refine w_callR (pc := 4) (bs' := [[(hx_0, .inr (7, [.ref (anow 0), .ref hhist_0, .ref hdec_0]))], [((anow 0), .inr (5, [.ref (anow 1), .ref (anow 3), .ref (anow 5), .ref (anow 12), .ref (anow 14), .ref (anow 16)]))], cBy G (anow 1) (anow 2) 64 x1.2.1.1, cBy G (anow 3) (anow 4) 64 x1.2.1.2.1, cDe G (anow 5) (anow 6) (anow 7) (anow 8) (anow 9) (anow 10) (anow 11) x1.2.1.2.2.1, cPl G (anow 12) (anow 13) x1.2.1.2.2.2.1, cBy G (anow 14) (anow 15) 200 x1.2.1.2.2.2.2.1, [((anow 16), .inr (6, [.ref (anow 17), .int x1.2.1.2.2.2.2.2.2.1, .int x1.2.1.2.2.2.2.2.2.2]))], cBy G (anow 17) (anow 18) 64 x1.2.1.2.2.2.2.2.1, cHist G hhist_0 hhist_1 ahist0 ahist1 ahist2 ahist3 x1.2.2, [(hout_0, .inl (G.2.2.2.1, 1, .inr (.inl out)))]]) (rest := [.int (0 : Int32), .ref hout_0]) hx hb hml hown hts hK hZ (c_X10_write l hl0 G hx_0 hdec_0 anow hhist_0 hhist_1 ahist0 ahist1 ahist2 ahist3 now hist p1 hcx1) wd_785 wd_1 wd_782 wd_783 wd_784 hd_X10_write ⟨(Nat.le_of_ble_eq_true rfl), (Nat.le_of_ble_eq_true rfl)⟩ hP hD hS hA [0, 1, 2, 3, 4, 5, 6, 7, 8, 9] rfl (blk_D [0, 1, 2, 3, 4, 5, 6, 7, 8, 9] rfl hD rfl) rfl rfl 7 0 rfl rfl rfl rfl hl.1 rfl (Nat.le_of_ble_eq_true rfl) dL_write_4 ⟨(Nat.le_of_ble_eq_true rfl), (Nat.le_of_ble_eq_true rfl)⟩ (fun H locs hP hD hS => ?_)
  refine W.widen (k := 2) (n := 12) (Nat.le_of_ble_eq_true rfl) (Nat.le_of_ble_eq_true rfl) ?_
  refine lv_i2l (pc := 7) (v := x1.1.toInt64) hx hb dL_write_7 rfl ?_
  obtain ⟨hg, hf⟩ := gd_some hf
  refine va_last (pc := 8) hx hb hK.1 hP hD hS 98 2 rfl rfl hg dL_write_8 (fun H locs hP hD hS => ?_)
  have hP : va_P G.1 vwCl (List.flatten [[(hx_0, .inr (7, [.ref (anow 0), .ref hhist_0, .ref hdec_0]))], [((anow 0), .inr (5, [.ref (anow 1), .ref (anow 3), .ref (anow 5), .ref (anow 12), .ref (anow 14), .ref (anow 16)]))], cBy G (anow 1) (anow 2) 64 x1.2.1.1, cBy G (anow 3) (anow 4) 64 x1.2.1.2.1, cDe G (anow 5) (anow 6) (anow 7) (anow 8) (anow 9) (anow 10) (anow 11) x1.2.1.2.2.1, cPl G (anow 12) (anow 13) x1.2.1.2.2.2.1, cBy G (anow 14) (anow 15) 200 x1.2.1.2.2.2.2.1, [((anow 16), .inr (6, [.ref (anow 17), .int x1.2.1.2.2.2.2.2.2.1, .int x1.2.1.2.2.2.2.2.2.2]))], cBy G (anow 17) (anow 18) 64 x1.2.1.2.2.2.2.2.1, cHist G hhist_0 hhist_1 ahist0 ahist1 ahist2 ahist3 x1.2.2, [(hout_0, .inl (G.2.2.2.1, 1, .inr (.inl (vp_updL out (0 : Int32).toNatClampNeg x1.1.toInt64))))]]) H := hP
  have hD : va_D A (List.flatten [[(hx_0, .inr (7, [.ref (anow 0), .ref hhist_0, .ref hdec_0]))], [((anow 0), .inr (5, [.ref (anow 1), .ref (anow 3), .ref (anow 5), .ref (anow 12), .ref (anow 14), .ref (anow 16)]))], cBy G (anow 1) (anow 2) 64 x1.2.1.1, cBy G (anow 3) (anow 4) 64 x1.2.1.2.1, cDe G (anow 5) (anow 6) (anow 7) (anow 8) (anow 9) (anow 10) (anow 11) x1.2.1.2.2.1, cPl G (anow 12) (anow 13) x1.2.1.2.2.2.1, cBy G (anow 14) (anow 15) 200 x1.2.1.2.2.2.2.1, [((anow 16), .inr (6, [.ref (anow 17), .int x1.2.1.2.2.2.2.2.2.1, .int x1.2.1.2.2.2.2.2.2.2]))], cBy G (anow 17) (anow 18) 64 x1.2.1.2.2.2.2.2.1, cHist G hhist_0 hhist_1 ahist0 ahist1 ahist2 ahist3 x1.2.2, [(hout_0, .inl (G.2.2.2.1, 1, .inr (.inl (vp_updL out (0 : Int32).toNatClampNeg x1.1.toInt64))))]]) := hD
  refine lv_goto (pc := 9) (tgt := 18) hx hb dL_write_9 (by decide) ?_
  refine lv_iconst (pc := 18) (v := (0 : Int32)) hx hb dL_write_18 (by decide) ?_
  have hf := Option.some.inj hf; subst hf
  rw [← hQ]
  exact w_iret hx hb hr hlocks (Nat.le_of_ble_eq_true rfl) (Nat.le_of_ble_eq_true rfl) hP hS dL_write_19
theorem hd_L_code : yL_code.cls ≠ "java/lang/invoke/MethodHandle" ∧ yL_code.cls ≠ "java/lang/invoke/VarHandle" ∧ (parseMethodDescriptor yL_code.desc).map (fun d => d.parameters.length) = some 3 := by decide +kernel
abbrev rm_L_code : Room := { frames := 8, cells := 1, slots := 6, locals := 133 }
noncomputable def f_L_code (now : TState) (out : (Nat → Int64)) (p1 : Int32) : Option (Int32 × (Nat → Int64)) :=
  (f_X10_code now p1).bind (fun x1 => Sum.elim (fun E => br (E = "java/lang/IllegalArgumentException") (some ((1 : Int32), out)) (none)) (fun x1 => gd (vp_in (0 : Int32) 1) (some ((0 : Int32), (vp_updL out (0 : Int32).toNatClampNeg x1.toInt64)))) x1)
set_option maxHeartbeats 4000000 in
set_option maxRecDepth 100000 in
theorem c_L_code (l : Launch) (hl0 : l.stackTraces = false) (G : GT) (hx_0 hhist_0 hdec_0 : Nat) (anow : Nat → Nat) (hout_0 : Nat) (now : TState) (out : (Nat → Int64)) (p1 : Int32) {r : Int32 × (Nat → Int64)} (hf : f_L_code now out p1 = some r) : CtW l yL_code (Cond.codeWith yL_code cL_code 4 (some .int) [(0, 9, 12, 13)] :: lw_g) rm_L_code G [.ref hx_0, .int p1, .ref hout_0] (List.flatten [[(hx_0, .inr (7, [.ref (anow 0), .ref hhist_0, .ref hdec_0]))], [((anow 0), .inr (5, [.ref (anow 1), .ref (anow 3), .ref (anow 5), .ref (anow 12), .ref (anow 14), .ref (anow 16)]))], cBy G (anow 1) (anow 2) 64 now.1, cBy G (anow 3) (anow 4) 64 now.2.1, cDe G (anow 5) (anow 6) (anow 7) (anow 8) (anow 9) (anow 10) (anow 11) now.2.2.1, cPl G (anow 12) (anow 13) now.2.2.2.1, cBy G (anow 14) (anow 15) 200 now.2.2.2.2.1, [((anow 16), .inr (6, [.ref (anow 17), .int now.2.2.2.2.2.2.1, .int now.2.2.2.2.2.2.2]))], cBy G (anow 17) (anow 18) 64 now.2.2.2.2.2.1, [(hout_0, .inl (G.2.2.2.1, 1, .inr (.inl out)))]]) (some (.int r.1)) (List.flatten [[(hx_0, .inr (7, [.ref (anow 0), .ref hhist_0, .ref hdec_0]))], [((anow 0), .inr (5, [.ref (anow 1), .ref (anow 3), .ref (anow 5), .ref (anow 12), .ref (anow 14), .ref (anow 16)]))], cBy G (anow 1) (anow 2) 64 now.1, cBy G (anow 3) (anow 4) 64 now.2.1, cDe G (anow 5) (anow 6) (anow 7) (anow 8) (anow 9) (anow 10) (anow 11) now.2.2.1, cPl G (anow 12) (anow 13) now.2.2.2.1, cBy G (anow 14) (anow 15) 200 now.2.2.2.2.1, [((anow 16), .inr (6, [.ref (anow 17), .int now.2.2.2.2.2.2.1, .int now.2.2.2.2.2.2.2]))], cBy G (anow 17) (anow 18) 64 now.2.2.2.2.2.1, [(hout_0, .inl (G.2.2.2.1, 1, .inr (.inl r.2)))]]) := by
  refine CtW.ofW (cc := cL_code) (maxL := 4) (ret := (some .int)) (own := RL) (by decide) rfl rfl (Nat.le_of_ble_eq_true rfl) ?_
  intro p e s m args below meth c A hx hb hr hml hts hown hlocks hK hP hD hA hS htab hZ ls hl
  have hl : lv_has ls 4 [(0, .ref hx_0), (1, .int p1), (2, .ref hout_0)] := hl
  generalize hQ : wMQ below G _ _ A args s _ _ = Q
  generalize hH : s.heap = H at hP ⊢
  have hS : va_S A s.heap H [] := by rw [← hH]; exact hS
  generalize ([] : List Loc) = locs at hS ⊢
  unfold f_L_code at hf
  refine lv_aload_n (pc := 0) hx hb dL_code_0 rfl (lv_at hl 2 rfl) ?_
  refine lv_iconst (pc := 1) (v := (0 : Int32)) hx hb dL_code_1 (by decide) ?_
  refine lv_aload_n (pc := 2) hx hb dL_code_2 rfl (lv_at hl 0 rfl) ?_
  refine lv_iload_n (pc := 3) hx hb dL_code_3 rfl (lv_at hl 1 rfl) ?_
  obtain ⟨x1, hcx1, hf⟩ := bn_some hf
  rcases x1 with E | x1
  · have hf := sum_l hf
    by_cases hE : E = "java/lang/IllegalArgumentException"
    · subst hE
      have hf := br_y rfl hf
      refine w_callT (pc := 4) (E := "java/lang/IllegalArgumentException") (name := "java/lang/IllegalArgumentException") (rest := [.int (0 : Int32), .ref hout_0]) hx hb hml hown hts hK hZ (c_X10_code l hl0 G hx_0 hhist_0 hdec_0 anow now p1 hcx1) wd_793 wd_1 wd_790 wd_791 wd_792 hd_X10_code ⟨(Nat.le_of_ble_eq_true rfl), (Nat.le_of_ble_eq_true rfl)⟩ hP hD hS hA [0, 1, 2, 3, 4, 5, 6, 7, 8] rfl (blk_D [0, 1, 2, 3, 4, 5, 6, 7, 8] rfl hD rfl) 7 0 rfl rfl rfl rfl hl.1 rfl (Nat.le_of_ble_eq_true rfl) dL_code_4 ⟨(Nat.le_of_ble_eq_true rfl), (Nat.le_of_ble_eq_true rfl)⟩ [] (⟨0, 9, 12, 13⟩ : ExceptionTableEntry) [] htab (fun z hz => absurd hz List.not_mem_nil) (by decide) (by decide) (hts _ wd_496) (va_Nw.use rfl (hK.2.1 _ nw_507)) (fun H locs q9 hP hS => ?_)
      refine W.widen (k := 1) (n := 6) (Nat.le_of_ble_eq_true rfl) (Nat.le_of_ble_eq_true rfl) ?_
      refine lv_astore_n (pc := 12) (lv' := [(3, .ref q9), (0, .ref hx_0), (1, .int p1), (2, .ref hout_0)]) hx hb dL_code_12 rfl hl (by decide) rfl (fun ls hl => ?_)
      refine lv_iconst (pc := 13) (v := (1 : Int32)) hx hb dL_code_13 (by decide) ?_
      have hf := Option.some.inj hf; subst hf
      rw [← hQ]
      exact w_iret hx hb hr hlocks (Nat.le_of_ble_eq_true rfl) (Nat.le_of_ble_eq_true rfl) hP hS dL_code_14
    have hf := br_n hE hf
    cases hf
  have hf := sum_r hf
  refine w_callR (pc := 4) (bs' := [[(hx_0, .inr (7, [.ref (anow 0), .ref hhist_0, .ref hdec_0]))], [((anow 0), .inr (5, [.ref (anow 1), .ref (anow 3), .ref (anow 5), .ref (anow 12), .ref (anow 14), .ref (anow 16)]))], cBy G (anow 1) (anow 2) 64 now.1, cBy G (anow 3) (anow 4) 64 now.2.1, cDe G (anow 5) (anow 6) (anow 7) (anow 8) (anow 9) (anow 10) (anow 11) now.2.2.1, cPl G (anow 12) (anow 13) now.2.2.2.1, cBy G (anow 14) (anow 15) 200 now.2.2.2.2.1, [((anow 16), .inr (6, [.ref (anow 17), .int now.2.2.2.2.2.2.1, .int now.2.2.2.2.2.2.2]))], cBy G (anow 17) (anow 18) 64 now.2.2.2.2.2.1, [(hout_0, .inl (G.2.2.2.1, 1, .inr (.inl out)))]]) (rest := [.int (0 : Int32), .ref hout_0]) hx hb hml hown hts hK hZ (c_X10_code l hl0 G hx_0 hhist_0 hdec_0 anow now p1 hcx1) wd_793 wd_1 wd_790 wd_791 wd_792 hd_X10_code ⟨(Nat.le_of_ble_eq_true rfl), (Nat.le_of_ble_eq_true rfl)⟩ hP hD hS hA [0, 1, 2, 3, 4, 5, 6, 7, 8] rfl (blk_D [0, 1, 2, 3, 4, 5, 6, 7, 8] rfl hD rfl) rfl rfl 7 0 rfl rfl rfl rfl hl.1 rfl (Nat.le_of_ble_eq_true rfl) dL_code_4 ⟨(Nat.le_of_ble_eq_true rfl), (Nat.le_of_ble_eq_true rfl)⟩ (fun H locs hP hD hS => ?_)
  refine W.widen (k := 1) (n := 6) (Nat.le_of_ble_eq_true rfl) (Nat.le_of_ble_eq_true rfl) ?_
  refine lv_i2l (pc := 7) (v := x1.toInt64) hx hb dL_code_7 rfl ?_
  obtain ⟨hg, hf⟩ := gd_some hf
  refine va_last (pc := 8) hx hb hK.1 hP hD hS 20 2 rfl rfl hg dL_code_8 (fun H locs hP hD hS => ?_)
  have hP : va_P G.1 vwCl (List.flatten [[(hx_0, .inr (7, [.ref (anow 0), .ref hhist_0, .ref hdec_0]))], [((anow 0), .inr (5, [.ref (anow 1), .ref (anow 3), .ref (anow 5), .ref (anow 12), .ref (anow 14), .ref (anow 16)]))], cBy G (anow 1) (anow 2) 64 now.1, cBy G (anow 3) (anow 4) 64 now.2.1, cDe G (anow 5) (anow 6) (anow 7) (anow 8) (anow 9) (anow 10) (anow 11) now.2.2.1, cPl G (anow 12) (anow 13) now.2.2.2.1, cBy G (anow 14) (anow 15) 200 now.2.2.2.2.1, [((anow 16), .inr (6, [.ref (anow 17), .int now.2.2.2.2.2.2.1, .int now.2.2.2.2.2.2.2]))], cBy G (anow 17) (anow 18) 64 now.2.2.2.2.2.1, [(hout_0, .inl (G.2.2.2.1, 1, .inr (.inl (vp_updL out (0 : Int32).toNatClampNeg x1.toInt64))))]]) H := hP
  have hD : va_D A (List.flatten [[(hx_0, .inr (7, [.ref (anow 0), .ref hhist_0, .ref hdec_0]))], [((anow 0), .inr (5, [.ref (anow 1), .ref (anow 3), .ref (anow 5), .ref (anow 12), .ref (anow 14), .ref (anow 16)]))], cBy G (anow 1) (anow 2) 64 now.1, cBy G (anow 3) (anow 4) 64 now.2.1, cDe G (anow 5) (anow 6) (anow 7) (anow 8) (anow 9) (anow 10) (anow 11) now.2.2.1, cPl G (anow 12) (anow 13) now.2.2.2.1, cBy G (anow 14) (anow 15) 200 now.2.2.2.2.1, [((anow 16), .inr (6, [.ref (anow 17), .int now.2.2.2.2.2.2.1, .int now.2.2.2.2.2.2.2]))], cBy G (anow 17) (anow 18) 64 now.2.2.2.2.2.1, [(hout_0, .inl (G.2.2.2.1, 1, .inr (.inl (vp_updL out (0 : Int32).toNatClampNeg x1.toInt64))))]]) := hD
  refine lv_goto (pc := 9) (tgt := 15) hx hb dL_code_9 (by decide) ?_
  refine lv_iconst (pc := 15) (v := (0 : Int32)) hx hb dL_code_15 (by decide) ?_
  have hf := Option.some.inj hf; subst hf
  rw [← hQ]
  exact w_iret hx hb hr hlocks (Nat.le_of_ble_eq_true rfl) (Nat.le_of_ble_eq_true rfl) hP hS dL_code_16
theorem hd_L_begin : yL_begin.cls ≠ "java/lang/invoke/MethodHandle" ∧ yL_begin.cls ≠ "java/lang/invoke/VarHandle" ∧ (parseMethodDescriptor yL_begin.desc).map (fun d => d.parameters.length) = some 2 := by decide +kernel
abbrev rm_L_begin : Room := { frames := 8, cells := 1, slots := 6, locals := 168 }
noncomputable def f_L_begin (now : TState) (hist : THistory) (out : (Nat → Int64)) : Option (Int32 × TState × THistory × (Nat → Int64)) :=
  (f_X10_begin now hist).bind (fun x1 => Sum.elim (fun E => br (E = "java/lang/IllegalStateException") (some ((1 : Int32), now, hist, out)) (none)) (fun x1 => gd (vp_in (0 : Int32) 1) (some ((0 : Int32), x1.2.1, x1.2.2, (vp_updL out (0 : Int32).toNatClampNeg x1.1.toInt64)))) x1)
set_option maxHeartbeats 4000000 in
set_option maxRecDepth 100000 in
theorem c_L_begin (l : Launch) (hl0 : l.stackTraces = false) (G : GT) (hx_0 hdec_0 : Nat) (anow : Nat → Nat) (hhist_0 hhist_1 : Nat) (ahist0 ahist1 ahist2 ahist3 : Nat → Nat) (hout_0 : Nat) (now : TState) (hist : THistory) (out : (Nat → Int64)) {r : Int32 × TState × THistory × (Nat → Int64)} (hf : f_L_begin now hist out = some r) : CtW l yL_begin (Cond.codeWith yL_begin cL_begin 3 (some .int) [(0, 8, 11, 15)] :: lw_g) rm_L_begin G [.ref hx_0, .ref hout_0] (List.flatten [[(hx_0, .inr (7, [.ref (anow 0), .ref hhist_0, .ref hdec_0]))], [((anow 0), .inr (5, [.ref (anow 1), .ref (anow 3), .ref (anow 5), .ref (anow 12), .ref (anow 14), .ref (anow 16)]))], cBy G (anow 1) (anow 2) 64 now.1, cBy G (anow 3) (anow 4) 64 now.2.1, cDe G (anow 5) (anow 6) (anow 7) (anow 8) (anow 9) (anow 10) (anow 11) now.2.2.1, cPl G (anow 12) (anow 13) now.2.2.2.1, cBy G (anow 14) (anow 15) 200 now.2.2.2.2.1, [((anow 16), .inr (6, [.ref (anow 17), .int now.2.2.2.2.2.2.1, .int now.2.2.2.2.2.2.2]))], cBy G (anow 17) (anow 18) 64 now.2.2.2.2.2.1, cHist G hhist_0 hhist_1 ahist0 ahist1 ahist2 ahist3 hist, [(hout_0, .inl (G.2.2.2.1, 1, .inr (.inl out)))]]) (some (.int r.1)) (List.flatten [[(hx_0, .inr (7, [.ref (anow 0), .ref hhist_0, .ref hdec_0]))], [((anow 0), .inr (5, [.ref (anow 1), .ref (anow 3), .ref (anow 5), .ref (anow 12), .ref (anow 14), .ref (anow 16)]))], cBy G (anow 1) (anow 2) 64 r.2.1.1, cBy G (anow 3) (anow 4) 64 r.2.1.2.1, cDe G (anow 5) (anow 6) (anow 7) (anow 8) (anow 9) (anow 10) (anow 11) r.2.1.2.2.1, cPl G (anow 12) (anow 13) r.2.1.2.2.2.1, cBy G (anow 14) (anow 15) 200 r.2.1.2.2.2.2.1, [((anow 16), .inr (6, [.ref (anow 17), .int r.2.1.2.2.2.2.2.2.1, .int r.2.1.2.2.2.2.2.2.2]))], cBy G (anow 17) (anow 18) 64 r.2.1.2.2.2.2.2.1, cHist G hhist_0 hhist_1 ahist0 ahist1 ahist2 ahist3 r.2.2.1, [(hout_0, .inl (G.2.2.2.1, 1, .inr (.inl r.2.2.2)))]]) := by
  refine CtW.ofW (cc := cL_begin) (maxL := 3) (ret := (some .int)) (own := RL) (by decide) rfl rfl (Nat.le_of_ble_eq_true rfl) ?_
  intro p e s m args below meth c A hx hb hr hml hts hown hlocks hK hP hD hA hS htab hZ ls hl
  have hl : lv_has ls 3 [(0, .ref hx_0), (1, .ref hout_0)] := hl
  generalize hQ : wMQ below G _ _ A args s _ _ = Q
  generalize hH : s.heap = H at hP ⊢
  have hS : va_S A s.heap H [] := by rw [← hH]; exact hS
  generalize ([] : List Loc) = locs at hS ⊢
  unfold f_L_begin at hf
  refine lv_aload_n (pc := 0) hx hb dL_begin_0 rfl (lv_at hl 1 rfl) ?_
  refine lv_iconst (pc := 1) (v := (0 : Int32)) hx hb dL_begin_1 (by decide) ?_
  refine lv_aload_n (pc := 2) hx hb dL_begin_2 rfl (lv_at hl 0 rfl) ?_
  obtain ⟨x1, hcx1, hf⟩ := bn_some hf
  rcases x1 with E | x1
  · have hf := sum_l hf
    by_cases hE : E = "java/lang/IllegalStateException"
    · subst hE
      have hf := br_y rfl hf
      refine w_callT (pc := 3) (E := "java/lang/IllegalStateException") (name := "java/lang/IllegalStateException") (rest := [.int (0 : Int32), .ref hout_0]) hx hb hml hown hts hK hZ (c_X10_begin l hl0 G hx_0 hdec_0 anow hhist_0 hhist_1 ahist0 ahist1 ahist2 ahist3 now hist hcx1) wd_808 wd_1 wd_805 wd_806 wd_807 hd_X10_begin ⟨(Nat.le_of_ble_eq_true rfl), (Nat.le_of_ble_eq_true rfl)⟩ hP hD hS hA [0, 1, 2, 3, 4, 5, 6, 7, 8, 9] rfl (blk_D [0, 1, 2, 3, 4, 5, 6, 7, 8, 9] rfl hD rfl) 7 0 rfl rfl rfl rfl hl.1 rfl (Nat.le_of_ble_eq_true rfl) dL_begin_3 ⟨(Nat.le_of_ble_eq_true rfl), (Nat.le_of_ble_eq_true rfl)⟩ [] (⟨0, 8, 11, 15⟩ : ExceptionTableEntry) [] htab (fun z hz => absurd hz List.not_mem_nil) (by decide) (by decide) (hts _ wd_497) (va_Nw.use rfl (hK.2.1 _ nw_587)) (fun H locs q9 hP hS => ?_)
      refine W.widen (k := 1) (n := 6) (Nat.le_of_ble_eq_true rfl) (Nat.le_of_ble_eq_true rfl) ?_
      refine lv_astore_n (pc := 11) (lv' := [(2, .ref q9), (0, .ref hx_0), (1, .ref hout_0)]) hx hb dL_begin_11 rfl hl (by decide) rfl (fun ls hl => ?_)
      refine lv_iconst (pc := 12) (v := (1 : Int32)) hx hb dL_begin_12 (by decide) ?_
      have hf := Option.some.inj hf; subst hf
      rw [← hQ]
      exact w_iret hx hb hr hlocks (Nat.le_of_ble_eq_true rfl) (Nat.le_of_ble_eq_true rfl) hP hS dL_begin_13
    have hf := br_n hE hf
    cases hf
  have hf := sum_r hf
  refine w_callR (pc := 3) (bs' := [[(hx_0, .inr (7, [.ref (anow 0), .ref hhist_0, .ref hdec_0]))], [((anow 0), .inr (5, [.ref (anow 1), .ref (anow 3), .ref (anow 5), .ref (anow 12), .ref (anow 14), .ref (anow 16)]))], cBy G (anow 1) (anow 2) 64 x1.2.1.1, cBy G (anow 3) (anow 4) 64 x1.2.1.2.1, cDe G (anow 5) (anow 6) (anow 7) (anow 8) (anow 9) (anow 10) (anow 11) x1.2.1.2.2.1, cPl G (anow 12) (anow 13) x1.2.1.2.2.2.1, cBy G (anow 14) (anow 15) 200 x1.2.1.2.2.2.2.1, [((anow 16), .inr (6, [.ref (anow 17), .int x1.2.1.2.2.2.2.2.2.1, .int x1.2.1.2.2.2.2.2.2.2]))], cBy G (anow 17) (anow 18) 64 x1.2.1.2.2.2.2.2.1, cHist G hhist_0 hhist_1 ahist0 ahist1 ahist2 ahist3 x1.2.2, [(hout_0, .inl (G.2.2.2.1, 1, .inr (.inl out)))]]) (rest := [.int (0 : Int32), .ref hout_0]) hx hb hml hown hts hK hZ (c_X10_begin l hl0 G hx_0 hdec_0 anow hhist_0 hhist_1 ahist0 ahist1 ahist2 ahist3 now hist hcx1) wd_808 wd_1 wd_805 wd_806 wd_807 hd_X10_begin ⟨(Nat.le_of_ble_eq_true rfl), (Nat.le_of_ble_eq_true rfl)⟩ hP hD hS hA [0, 1, 2, 3, 4, 5, 6, 7, 8, 9] rfl (blk_D [0, 1, 2, 3, 4, 5, 6, 7, 8, 9] rfl hD rfl) rfl rfl 7 0 rfl rfl rfl rfl hl.1 rfl (Nat.le_of_ble_eq_true rfl) dL_begin_3 ⟨(Nat.le_of_ble_eq_true rfl), (Nat.le_of_ble_eq_true rfl)⟩ (fun H locs hP hD hS => ?_)
  refine W.widen (k := 1) (n := 6) (Nat.le_of_ble_eq_true rfl) (Nat.le_of_ble_eq_true rfl) ?_
  refine lv_i2l (pc := 6) (v := x1.1.toInt64) hx hb dL_begin_6 rfl ?_
  obtain ⟨hg, hf⟩ := gd_some hf
  refine va_last (pc := 7) hx hb hK.1 hP hD hS 98 2 rfl rfl hg dL_begin_7 (fun H locs hP hD hS => ?_)
  have hP : va_P G.1 vwCl (List.flatten [[(hx_0, .inr (7, [.ref (anow 0), .ref hhist_0, .ref hdec_0]))], [((anow 0), .inr (5, [.ref (anow 1), .ref (anow 3), .ref (anow 5), .ref (anow 12), .ref (anow 14), .ref (anow 16)]))], cBy G (anow 1) (anow 2) 64 x1.2.1.1, cBy G (anow 3) (anow 4) 64 x1.2.1.2.1, cDe G (anow 5) (anow 6) (anow 7) (anow 8) (anow 9) (anow 10) (anow 11) x1.2.1.2.2.1, cPl G (anow 12) (anow 13) x1.2.1.2.2.2.1, cBy G (anow 14) (anow 15) 200 x1.2.1.2.2.2.2.1, [((anow 16), .inr (6, [.ref (anow 17), .int x1.2.1.2.2.2.2.2.2.1, .int x1.2.1.2.2.2.2.2.2.2]))], cBy G (anow 17) (anow 18) 64 x1.2.1.2.2.2.2.2.1, cHist G hhist_0 hhist_1 ahist0 ahist1 ahist2 ahist3 x1.2.2, [(hout_0, .inl (G.2.2.2.1, 1, .inr (.inl (vp_updL out (0 : Int32).toNatClampNeg x1.1.toInt64))))]]) H := hP
  have hD : va_D A (List.flatten [[(hx_0, .inr (7, [.ref (anow 0), .ref hhist_0, .ref hdec_0]))], [((anow 0), .inr (5, [.ref (anow 1), .ref (anow 3), .ref (anow 5), .ref (anow 12), .ref (anow 14), .ref (anow 16)]))], cBy G (anow 1) (anow 2) 64 x1.2.1.1, cBy G (anow 3) (anow 4) 64 x1.2.1.2.1, cDe G (anow 5) (anow 6) (anow 7) (anow 8) (anow 9) (anow 10) (anow 11) x1.2.1.2.2.1, cPl G (anow 12) (anow 13) x1.2.1.2.2.2.1, cBy G (anow 14) (anow 15) 200 x1.2.1.2.2.2.2.1, [((anow 16), .inr (6, [.ref (anow 17), .int x1.2.1.2.2.2.2.2.2.1, .int x1.2.1.2.2.2.2.2.2.2]))], cBy G (anow 17) (anow 18) 64 x1.2.1.2.2.2.2.2.1, cHist G hhist_0 hhist_1 ahist0 ahist1 ahist2 ahist3 x1.2.2, [(hout_0, .inl (G.2.2.2.1, 1, .inr (.inl (vp_updL out (0 : Int32).toNatClampNeg x1.1.toInt64))))]]) := hD
  refine lv_goto (pc := 8) (tgt := 14) hx hb dL_begin_8 (by decide) ?_
  refine lv_iconst (pc := 14) (v := (0 : Int32)) hx hb dL_begin_14 (by decide) ?_
  have hf := Option.some.inj hf; subst hf
  rw [← hQ]
  exact w_iret hx hb hr hlocks (Nat.le_of_ble_eq_true rfl) (Nat.le_of_ble_eq_true rfl) hP hS dL_begin_15
theorem hd_L_step : yL_step.cls ≠ "java/lang/invoke/MethodHandle" ∧ yL_step.cls ≠ "java/lang/invoke/VarHandle" ∧ (parseMethodDescriptor yL_step.desc).map (fun d => d.parameters.length) = some 2 := by decide +kernel
abbrev rm_L_step : Room := { frames := 8, cells := 2, slots := 12, locals := 168 }
noncomputable def f_L_step (now : TState) (hist : THistory) (out : (Nat → Int64)) : Option (Int32 × TState × THistory × (Nat → Int64)) :=
  (f_X10_step now hist).bind (fun x1 => Sum.elim (fun E => br (E = "java/lang/IllegalStateException") (some ((1 : Int32), now, hist, out)) (none)) (fun x1 => gd (vp_in (0 : Int32) 1) (some ((0 : Int32), x1.2.1, x1.2.2, (vp_updL out (0 : Int32).toNatClampNeg x1.1.toInt64)))) x1)
set_option maxHeartbeats 4000000 in
set_option maxRecDepth 100000 in
theorem c_L_step (l : Launch) (hl0 : l.stackTraces = false) (G : GT) (hx_0 hdec_0 : Nat) (anow : Nat → Nat) (hhist_0 hhist_1 : Nat) (ahist0 ahist1 ahist2 ahist3 : Nat → Nat) (hout_0 : Nat) (now : TState) (hist : THistory) (out : (Nat → Int64)) {r : Int32 × TState × THistory × (Nat → Int64)} (hf : f_L_step now hist out = some r) : CtW l yL_step (Cond.codeWith yL_step cL_step 3 (some .int) [(0, 8, 11, 15)] :: lw_g) rm_L_step G [.ref hx_0, .ref hout_0] (List.flatten [[(hx_0, .inr (7, [.ref (anow 0), .ref hhist_0, .ref hdec_0]))], [((anow 0), .inr (5, [.ref (anow 1), .ref (anow 3), .ref (anow 5), .ref (anow 12), .ref (anow 14), .ref (anow 16)]))], cBy G (anow 1) (anow 2) 64 now.1, cBy G (anow 3) (anow 4) 64 now.2.1, cDe G (anow 5) (anow 6) (anow 7) (anow 8) (anow 9) (anow 10) (anow 11) now.2.2.1, cPl G (anow 12) (anow 13) now.2.2.2.1, cBy G (anow 14) (anow 15) 200 now.2.2.2.2.1, [((anow 16), .inr (6, [.ref (anow 17), .int now.2.2.2.2.2.2.1, .int now.2.2.2.2.2.2.2]))], cBy G (anow 17) (anow 18) 64 now.2.2.2.2.2.1, cHist G hhist_0 hhist_1 ahist0 ahist1 ahist2 ahist3 hist, [(hout_0, .inl (G.2.2.2.1, 1, .inr (.inl out)))]]) (some (.int r.1)) (List.flatten [[(hx_0, .inr (7, [.ref (anow 0), .ref hhist_0, .ref hdec_0]))], [((anow 0), .inr (5, [.ref (anow 1), .ref (anow 3), .ref (anow 5), .ref (anow 12), .ref (anow 14), .ref (anow 16)]))], cBy G (anow 1) (anow 2) 64 r.2.1.1, cBy G (anow 3) (anow 4) 64 r.2.1.2.1, cDe G (anow 5) (anow 6) (anow 7) (anow 8) (anow 9) (anow 10) (anow 11) r.2.1.2.2.1, cPl G (anow 12) (anow 13) r.2.1.2.2.2.1, cBy G (anow 14) (anow 15) 200 r.2.1.2.2.2.2.1, [((anow 16), .inr (6, [.ref (anow 17), .int r.2.1.2.2.2.2.2.2.1, .int r.2.1.2.2.2.2.2.2.2]))], cBy G (anow 17) (anow 18) 64 r.2.1.2.2.2.2.2.1, cHist G hhist_0 hhist_1 ahist0 ahist1 ahist2 ahist3 r.2.2.1, [(hout_0, .inl (G.2.2.2.1, 1, .inr (.inl r.2.2.2)))]]) := by
  refine CtW.ofW (cc := cL_step) (maxL := 3) (ret := (some .int)) (own := RL) (by decide) rfl rfl (Nat.le_of_ble_eq_true rfl) ?_
  intro p e s m args below meth c A hx hb hr hml hts hown hlocks hK hP hD hA hS htab hZ ls hl
  have hl : lv_has ls 3 [(0, .ref hx_0), (1, .ref hout_0)] := hl
  generalize hQ : wMQ below G _ _ A args s _ _ = Q
  generalize hH : s.heap = H at hP ⊢
  have hS : va_S A s.heap H [] := by rw [← hH]; exact hS
  generalize ([] : List Loc) = locs at hS ⊢
  unfold f_L_step at hf
  refine lv_aload_n (pc := 0) hx hb dL_step_0 rfl (lv_at hl 1 rfl) ?_
  refine lv_iconst (pc := 1) (v := (0 : Int32)) hx hb dL_step_1 (by decide) ?_
  refine lv_aload_n (pc := 2) hx hb dL_step_2 rfl (lv_at hl 0 rfl) ?_
  obtain ⟨x1, hcx1, hf⟩ := bn_some hf
  rcases x1 with E | x1
  · have hf := sum_l hf
    by_cases hE : E = "java/lang/IllegalStateException"
    · subst hE
      have hf := br_y rfl hf
      refine w_callT (pc := 3) (E := "java/lang/IllegalStateException") (name := "java/lang/IllegalStateException") (rest := [.int (0 : Int32), .ref hout_0]) hx hb hml hown hts hK hZ (c_X10_step l hl0 G hx_0 hdec_0 anow hhist_0 hhist_1 ahist0 ahist1 ahist2 ahist3 now hist hcx1) wd_825 wd_1 wd_822 wd_823 wd_824 hd_X10_step ⟨(Nat.le_of_ble_eq_true rfl), (Nat.le_of_ble_eq_true rfl)⟩ hP hD hS hA [0, 1, 2, 3, 4, 5, 6, 7, 8, 9] rfl (blk_D [0, 1, 2, 3, 4, 5, 6, 7, 8, 9] rfl hD rfl) 7 0 rfl rfl rfl rfl hl.1 rfl (Nat.le_of_ble_eq_true rfl) dL_step_3 ⟨(Nat.le_of_ble_eq_true rfl), (Nat.le_of_ble_eq_true rfl)⟩ [] (⟨0, 8, 11, 15⟩ : ExceptionTableEntry) [] htab (fun z hz => absurd hz List.not_mem_nil) (by decide) (by decide) (hts _ wd_497) (va_Nw.use rfl (hK.2.1 _ nw_587)) (fun H locs q9 hP hS => ?_)
      refine W.widen (k := 2) (n := 12) (Nat.le_of_ble_eq_true rfl) (Nat.le_of_ble_eq_true rfl) ?_
      refine lv_astore_n (pc := 11) (lv' := [(2, .ref q9), (0, .ref hx_0), (1, .ref hout_0)]) hx hb dL_step_11 rfl hl (by decide) rfl (fun ls hl => ?_)
      refine lv_iconst (pc := 12) (v := (1 : Int32)) hx hb dL_step_12 (by decide) ?_
      have hf := Option.some.inj hf; subst hf
      rw [← hQ]
      exact w_iret hx hb hr hlocks (Nat.le_of_ble_eq_true rfl) (Nat.le_of_ble_eq_true rfl) hP hS dL_step_13
    have hf := br_n hE hf
    cases hf
  have hf := sum_r hf
  refine w_callR (pc := 3) (bs' := [[(hx_0, .inr (7, [.ref (anow 0), .ref hhist_0, .ref hdec_0]))], [((anow 0), .inr (5, [.ref (anow 1), .ref (anow 3), .ref (anow 5), .ref (anow 12), .ref (anow 14), .ref (anow 16)]))], cBy G (anow 1) (anow 2) 64 x1.2.1.1, cBy G (anow 3) (anow 4) 64 x1.2.1.2.1, cDe G (anow 5) (anow 6) (anow 7) (anow 8) (anow 9) (anow 10) (anow 11) x1.2.1.2.2.1, cPl G (anow 12) (anow 13) x1.2.1.2.2.2.1, cBy G (anow 14) (anow 15) 200 x1.2.1.2.2.2.2.1, [((anow 16), .inr (6, [.ref (anow 17), .int x1.2.1.2.2.2.2.2.2.1, .int x1.2.1.2.2.2.2.2.2.2]))], cBy G (anow 17) (anow 18) 64 x1.2.1.2.2.2.2.2.1, cHist G hhist_0 hhist_1 ahist0 ahist1 ahist2 ahist3 x1.2.2, [(hout_0, .inl (G.2.2.2.1, 1, .inr (.inl out)))]]) (rest := [.int (0 : Int32), .ref hout_0]) hx hb hml hown hts hK hZ (c_X10_step l hl0 G hx_0 hdec_0 anow hhist_0 hhist_1 ahist0 ahist1 ahist2 ahist3 now hist hcx1) wd_825 wd_1 wd_822 wd_823 wd_824 hd_X10_step ⟨(Nat.le_of_ble_eq_true rfl), (Nat.le_of_ble_eq_true rfl)⟩ hP hD hS hA [0, 1, 2, 3, 4, 5, 6, 7, 8, 9] rfl (blk_D [0, 1, 2, 3, 4, 5, 6, 7, 8, 9] rfl hD rfl) rfl rfl 7 0 rfl rfl rfl rfl hl.1 rfl (Nat.le_of_ble_eq_true rfl) dL_step_3 ⟨(Nat.le_of_ble_eq_true rfl), (Nat.le_of_ble_eq_true rfl)⟩ (fun H locs hP hD hS => ?_)
  refine W.widen (k := 2) (n := 12) (Nat.le_of_ble_eq_true rfl) (Nat.le_of_ble_eq_true rfl) ?_
  refine lv_i2l (pc := 6) (v := x1.1.toInt64) hx hb dL_step_6 rfl ?_
  obtain ⟨hg, hf⟩ := gd_some hf
  refine va_last (pc := 7) hx hb hK.1 hP hD hS 98 2 rfl rfl hg dL_step_7 (fun H locs hP hD hS => ?_)
  have hP : va_P G.1 vwCl (List.flatten [[(hx_0, .inr (7, [.ref (anow 0), .ref hhist_0, .ref hdec_0]))], [((anow 0), .inr (5, [.ref (anow 1), .ref (anow 3), .ref (anow 5), .ref (anow 12), .ref (anow 14), .ref (anow 16)]))], cBy G (anow 1) (anow 2) 64 x1.2.1.1, cBy G (anow 3) (anow 4) 64 x1.2.1.2.1, cDe G (anow 5) (anow 6) (anow 7) (anow 8) (anow 9) (anow 10) (anow 11) x1.2.1.2.2.1, cPl G (anow 12) (anow 13) x1.2.1.2.2.2.1, cBy G (anow 14) (anow 15) 200 x1.2.1.2.2.2.2.1, [((anow 16), .inr (6, [.ref (anow 17), .int x1.2.1.2.2.2.2.2.2.1, .int x1.2.1.2.2.2.2.2.2.2]))], cBy G (anow 17) (anow 18) 64 x1.2.1.2.2.2.2.2.1, cHist G hhist_0 hhist_1 ahist0 ahist1 ahist2 ahist3 x1.2.2, [(hout_0, .inl (G.2.2.2.1, 1, .inr (.inl (vp_updL out (0 : Int32).toNatClampNeg x1.1.toInt64))))]]) H := hP
  have hD : va_D A (List.flatten [[(hx_0, .inr (7, [.ref (anow 0), .ref hhist_0, .ref hdec_0]))], [((anow 0), .inr (5, [.ref (anow 1), .ref (anow 3), .ref (anow 5), .ref (anow 12), .ref (anow 14), .ref (anow 16)]))], cBy G (anow 1) (anow 2) 64 x1.2.1.1, cBy G (anow 3) (anow 4) 64 x1.2.1.2.1, cDe G (anow 5) (anow 6) (anow 7) (anow 8) (anow 9) (anow 10) (anow 11) x1.2.1.2.2.1, cPl G (anow 12) (anow 13) x1.2.1.2.2.2.1, cBy G (anow 14) (anow 15) 200 x1.2.1.2.2.2.2.1, [((anow 16), .inr (6, [.ref (anow 17), .int x1.2.1.2.2.2.2.2.2.1, .int x1.2.1.2.2.2.2.2.2.2]))], cBy G (anow 17) (anow 18) 64 x1.2.1.2.2.2.2.2.1, cHist G hhist_0 hhist_1 ahist0 ahist1 ahist2 ahist3 x1.2.2, [(hout_0, .inl (G.2.2.2.1, 1, .inr (.inl (vp_updL out (0 : Int32).toNatClampNeg x1.1.toInt64))))]]) := hD
  refine lv_goto (pc := 8) (tgt := 14) hx hb dL_step_8 (by decide) ?_
  refine lv_iconst (pc := 14) (v := (0 : Int32)) hx hb dL_step_14 (by decide) ?_
  have hf := Option.some.inj hf; subst hf
  rw [← hQ]
  exact w_iret hx hb hr hlocks (Nat.le_of_ble_eq_true rfl) (Nat.le_of_ble_eq_true rfl) hP hS dL_step_15
theorem hd_L_workByte : yL_workByte.cls ≠ "java/lang/invoke/MethodHandle" ∧ yL_workByte.cls ≠ "java/lang/invoke/VarHandle" ∧ (parseMethodDescriptor yL_workByte.desc).map (fun d => d.parameters.length) = some 3 := by decide +kernel
abbrev rm_L_workByte : Room := { frames := 8, cells := 2, slots := 12, locals := 133 }
noncomputable def f_L_workByte (now : TState) (out : (Nat → Int64)) (p1 : Int32) : Option (Int32 × (Nat → Int64)) :=
  (f_X10_workByte now p1).bind (fun x1 => Sum.elim (fun E => br (E = "java/lang/IllegalArgumentException") (some ((1 : Int32), out)) (br (E = "java/lang/IllegalStateException") (some ((2 : Int32), out)) (none))) (fun x1 => gd (vp_in (0 : Int32) 1) (some ((0 : Int32), (vp_updL out (0 : Int32).toNatClampNeg x1.toInt64)))) x1)
set_option maxHeartbeats 4000000 in
set_option maxRecDepth 100000 in
theorem c_L_workByte (l : Launch) (hl0 : l.stackTraces = false) (G : GT) (hx_0 hhist_0 hdec_0 : Nat) (anow : Nat → Nat) (hout_0 : Nat) (now : TState) (out : (Nat → Int64)) (p1 : Int32) {r : Int32 × (Nat → Int64)} (hf : f_L_workByte now out p1 = some r) : CtW l yL_workByte (Cond.codeWith yL_workByte cL_workByte 4 (some .int) [(0, 9, 12, 13), (0, 9, 15, 15)] :: lw_g) rm_L_workByte G [.ref hx_0, .int p1, .ref hout_0] (List.flatten [[(hx_0, .inr (7, [.ref (anow 0), .ref hhist_0, .ref hdec_0]))], [((anow 0), .inr (5, [.ref (anow 1), .ref (anow 3), .ref (anow 5), .ref (anow 12), .ref (anow 14), .ref (anow 16)]))], cBy G (anow 1) (anow 2) 64 now.1, cBy G (anow 3) (anow 4) 64 now.2.1, cDe G (anow 5) (anow 6) (anow 7) (anow 8) (anow 9) (anow 10) (anow 11) now.2.2.1, cPl G (anow 12) (anow 13) now.2.2.2.1, cBy G (anow 14) (anow 15) 200 now.2.2.2.2.1, [((anow 16), .inr (6, [.ref (anow 17), .int now.2.2.2.2.2.2.1, .int now.2.2.2.2.2.2.2]))], cBy G (anow 17) (anow 18) 64 now.2.2.2.2.2.1, [(hout_0, .inl (G.2.2.2.1, 1, .inr (.inl out)))]]) (some (.int r.1)) (List.flatten [[(hx_0, .inr (7, [.ref (anow 0), .ref hhist_0, .ref hdec_0]))], [((anow 0), .inr (5, [.ref (anow 1), .ref (anow 3), .ref (anow 5), .ref (anow 12), .ref (anow 14), .ref (anow 16)]))], cBy G (anow 1) (anow 2) 64 now.1, cBy G (anow 3) (anow 4) 64 now.2.1, cDe G (anow 5) (anow 6) (anow 7) (anow 8) (anow 9) (anow 10) (anow 11) now.2.2.1, cPl G (anow 12) (anow 13) now.2.2.2.1, cBy G (anow 14) (anow 15) 200 now.2.2.2.2.1, [((anow 16), .inr (6, [.ref (anow 17), .int now.2.2.2.2.2.2.1, .int now.2.2.2.2.2.2.2]))], cBy G (anow 17) (anow 18) 64 now.2.2.2.2.2.1, [(hout_0, .inl (G.2.2.2.1, 1, .inr (.inl r.2)))]]) := by
  refine CtW.ofW (cc := cL_workByte) (maxL := 4) (ret := (some .int)) (own := RL) (by decide) rfl rfl (Nat.le_of_ble_eq_true rfl) ?_
  intro p e s m args below meth c A hx hb hr hml hts hown hlocks hK hP hD hA hS htab hZ ls hl
  have hl : lv_has ls 4 [(0, .ref hx_0), (1, .int p1), (2, .ref hout_0)] := hl
  generalize hQ : wMQ below G _ _ A args s _ _ = Q
  generalize hH : s.heap = H at hP ⊢
  have hS : va_S A s.heap H [] := by rw [← hH]; exact hS
  generalize ([] : List Loc) = locs at hS ⊢
  unfold f_L_workByte at hf
  refine lv_aload_n (pc := 0) hx hb dL_workByte_0 rfl (lv_at hl 2 rfl) ?_
  refine lv_iconst (pc := 1) (v := (0 : Int32)) hx hb dL_workByte_1 (by decide) ?_
  refine lv_aload_n (pc := 2) hx hb dL_workByte_2 rfl (lv_at hl 0 rfl) ?_
  refine lv_iload_n (pc := 3) hx hb dL_workByte_3 rfl (lv_at hl 1 rfl) ?_
  obtain ⟨x1, hcx1, hf⟩ := bn_some hf
  rcases x1 with E | x1
  · have hf := sum_l hf
    by_cases hE : E = "java/lang/IllegalArgumentException"
    · subst hE
      have hf := br_y rfl hf
      refine w_callT (pc := 4) (E := "java/lang/IllegalArgumentException") (name := "java/lang/IllegalArgumentException") (rest := [.int (0 : Int32), .ref hout_0]) hx hb hml hown hts hK hZ (c_X10_workByte l hl0 G hx_0 hhist_0 hdec_0 anow now p1 hcx1) wd_853 wd_1 wd_850 wd_851 wd_852 hd_X10_workByte ⟨(Nat.le_of_ble_eq_true rfl), (Nat.le_of_ble_eq_true rfl)⟩ hP hD hS hA [0, 1, 2, 3, 4, 5, 6, 7, 8] rfl (blk_D [0, 1, 2, 3, 4, 5, 6, 7, 8] rfl hD rfl) 7 0 rfl rfl rfl rfl hl.1 rfl (Nat.le_of_ble_eq_true rfl) dL_workByte_4 ⟨(Nat.le_of_ble_eq_true rfl), (Nat.le_of_ble_eq_true rfl)⟩ [] (⟨0, 9, 12, 13⟩ : ExceptionTableEntry) [(⟨0, 9, 15, 15⟩ : ExceptionTableEntry)] htab (fun z hz => absurd hz List.not_mem_nil) (by decide) (by decide) (hts _ wd_496) (va_Nw.use rfl (hK.2.1 _ nw_507)) (fun H locs q9 hP hS => ?_)
      refine W.widen (k := 2) (n := 12) (Nat.le_of_ble_eq_true rfl) (Nat.le_of_ble_eq_true rfl) ?_
      refine lv_astore_n (pc := 12) (lv' := [(3, .ref q9), (0, .ref hx_0), (1, .int p1), (2, .ref hout_0)]) hx hb dL_workByte_12 rfl hl (by decide) rfl (fun ls hl => ?_)
      refine lv_iconst (pc := 13) (v := (1 : Int32)) hx hb dL_workByte_13 (by decide) ?_
      have hf := Option.some.inj hf; subst hf
      rw [← hQ]
      exact w_iret hx hb hr hlocks (Nat.le_of_ble_eq_true rfl) (Nat.le_of_ble_eq_true rfl) hP hS dL_workByte_14
    have hf := br_n hE hf
    by_cases hE : E = "java/lang/IllegalStateException"
    · subst hE
      have hf := br_y rfl hf
      refine w_callT (pc := 4) (E := "java/lang/IllegalStateException") (name := "java/lang/IllegalStateException") (rest := [.int (0 : Int32), .ref hout_0]) hx hb hml hown hts hK hZ (c_X10_workByte l hl0 G hx_0 hhist_0 hdec_0 anow now p1 hcx1) wd_853 wd_1 wd_850 wd_851 wd_852 hd_X10_workByte ⟨(Nat.le_of_ble_eq_true rfl), (Nat.le_of_ble_eq_true rfl)⟩ hP hD hS hA [0, 1, 2, 3, 4, 5, 6, 7, 8] rfl (blk_D [0, 1, 2, 3, 4, 5, 6, 7, 8] rfl hD rfl) 7 0 rfl rfl rfl rfl hl.1 rfl (Nat.le_of_ble_eq_true rfl) dL_workByte_4 ⟨(Nat.le_of_ble_eq_true rfl), (Nat.le_of_ble_eq_true rfl)⟩ [(⟨0, 9, 12, 13⟩ : ExceptionTableEntry)] (⟨0, 9, 15, 15⟩ : ExceptionTableEntry) [] htab (fun z hz => by rw [List.mem_singleton.mp hz]; exact Or.inr ⟨by decide, _, hts _ wd_496, hK.2.2.2 _ _ (List.mem_of_getElem? (i := 2) rfl)⟩) (by decide) (by decide) (hts _ wd_497) (va_Nw.use rfl (hK.2.1 _ nw_587)) (fun H locs q9 hP hS => ?_)
      refine W.widen (k := 2) (n := 12) (Nat.le_of_ble_eq_true rfl) (Nat.le_of_ble_eq_true rfl) ?_
      refine lv_astore_n (pc := 15) (lv' := [(3, .ref q9), (0, .ref hx_0), (1, .int p1), (2, .ref hout_0)]) hx hb dL_workByte_15 rfl hl (by decide) rfl (fun ls hl => ?_)
      refine lv_iconst (pc := 16) (v := (2 : Int32)) hx hb dL_workByte_16 (by decide) ?_
      have hf := Option.some.inj hf; subst hf
      rw [← hQ]
      exact w_iret hx hb hr hlocks (Nat.le_of_ble_eq_true rfl) (Nat.le_of_ble_eq_true rfl) hP hS dL_workByte_17
    have hf := br_n hE hf
    cases hf
  have hf := sum_r hf
  refine w_callR (pc := 4) (bs' := [[(hx_0, .inr (7, [.ref (anow 0), .ref hhist_0, .ref hdec_0]))], [((anow 0), .inr (5, [.ref (anow 1), .ref (anow 3), .ref (anow 5), .ref (anow 12), .ref (anow 14), .ref (anow 16)]))], cBy G (anow 1) (anow 2) 64 now.1, cBy G (anow 3) (anow 4) 64 now.2.1, cDe G (anow 5) (anow 6) (anow 7) (anow 8) (anow 9) (anow 10) (anow 11) now.2.2.1, cPl G (anow 12) (anow 13) now.2.2.2.1, cBy G (anow 14) (anow 15) 200 now.2.2.2.2.1, [((anow 16), .inr (6, [.ref (anow 17), .int now.2.2.2.2.2.2.1, .int now.2.2.2.2.2.2.2]))], cBy G (anow 17) (anow 18) 64 now.2.2.2.2.2.1, [(hout_0, .inl (G.2.2.2.1, 1, .inr (.inl out)))]]) (rest := [.int (0 : Int32), .ref hout_0]) hx hb hml hown hts hK hZ (c_X10_workByte l hl0 G hx_0 hhist_0 hdec_0 anow now p1 hcx1) wd_853 wd_1 wd_850 wd_851 wd_852 hd_X10_workByte ⟨(Nat.le_of_ble_eq_true rfl), (Nat.le_of_ble_eq_true rfl)⟩ hP hD hS hA [0, 1, 2, 3, 4, 5, 6, 7, 8] rfl (blk_D [0, 1, 2, 3, 4, 5, 6, 7, 8] rfl hD rfl) rfl rfl 7 0 rfl rfl rfl rfl hl.1 rfl (Nat.le_of_ble_eq_true rfl) dL_workByte_4 ⟨(Nat.le_of_ble_eq_true rfl), (Nat.le_of_ble_eq_true rfl)⟩ (fun H locs hP hD hS => ?_)
  refine W.widen (k := 2) (n := 12) (Nat.le_of_ble_eq_true rfl) (Nat.le_of_ble_eq_true rfl) ?_
  refine lv_i2l (pc := 7) (v := x1.toInt64) hx hb dL_workByte_7 rfl ?_
  obtain ⟨hg, hf⟩ := gd_some hf
  refine va_last (pc := 8) hx hb hK.1 hP hD hS 20 2 rfl rfl hg dL_workByte_8 (fun H locs hP hD hS => ?_)
  have hP : va_P G.1 vwCl (List.flatten [[(hx_0, .inr (7, [.ref (anow 0), .ref hhist_0, .ref hdec_0]))], [((anow 0), .inr (5, [.ref (anow 1), .ref (anow 3), .ref (anow 5), .ref (anow 12), .ref (anow 14), .ref (anow 16)]))], cBy G (anow 1) (anow 2) 64 now.1, cBy G (anow 3) (anow 4) 64 now.2.1, cDe G (anow 5) (anow 6) (anow 7) (anow 8) (anow 9) (anow 10) (anow 11) now.2.2.1, cPl G (anow 12) (anow 13) now.2.2.2.1, cBy G (anow 14) (anow 15) 200 now.2.2.2.2.1, [((anow 16), .inr (6, [.ref (anow 17), .int now.2.2.2.2.2.2.1, .int now.2.2.2.2.2.2.2]))], cBy G (anow 17) (anow 18) 64 now.2.2.2.2.2.1, [(hout_0, .inl (G.2.2.2.1, 1, .inr (.inl (vp_updL out (0 : Int32).toNatClampNeg x1.toInt64))))]]) H := hP
  have hD : va_D A (List.flatten [[(hx_0, .inr (7, [.ref (anow 0), .ref hhist_0, .ref hdec_0]))], [((anow 0), .inr (5, [.ref (anow 1), .ref (anow 3), .ref (anow 5), .ref (anow 12), .ref (anow 14), .ref (anow 16)]))], cBy G (anow 1) (anow 2) 64 now.1, cBy G (anow 3) (anow 4) 64 now.2.1, cDe G (anow 5) (anow 6) (anow 7) (anow 8) (anow 9) (anow 10) (anow 11) now.2.2.1, cPl G (anow 12) (anow 13) now.2.2.2.1, cBy G (anow 14) (anow 15) 200 now.2.2.2.2.1, [((anow 16), .inr (6, [.ref (anow 17), .int now.2.2.2.2.2.2.1, .int now.2.2.2.2.2.2.2]))], cBy G (anow 17) (anow 18) 64 now.2.2.2.2.2.1, [(hout_0, .inl (G.2.2.2.1, 1, .inr (.inl (vp_updL out (0 : Int32).toNatClampNeg x1.toInt64))))]]) := hD
  refine lv_goto (pc := 9) (tgt := 18) hx hb dL_workByte_9 (by decide) ?_
  refine lv_iconst (pc := 18) (v := (0 : Int32)) hx hb dL_workByte_18 (by decide) ?_
  have hf := Option.some.inj hf; subst hf
  rw [← hQ]
  exact w_iret hx hb hr hlocks (Nat.le_of_ble_eq_true rfl) (Nat.le_of_ble_eq_true rfl) hP hS dL_workByte_19
theorem hd_L_compare : yL_compare.cls ≠ "java/lang/invoke/MethodHandle" ∧ yL_compare.cls ≠ "java/lang/invoke/VarHandle" ∧ (parseMethodDescriptor yL_compare.desc).map (fun d => d.parameters.length) = some 2 := by decide +kernel
abbrev rm_L_compare : Room := { frames := 8, cells := 1, slots := 6, locals := 135 }
noncomputable def f_L_compare (now : TState) (out : (Nat → Int64)) : Option (Int32 × (Nat → Int64)) :=
  (f_X10_compare now).bind (fun x1 => Sum.elim (fun E => br (E = "java/lang/IllegalStateException") (some ((1 : Int32), out)) (none)) (fun x1 => gd (vp_in (0 : Int32) 1) (some ((0 : Int32), (vp_updL out (0 : Int32).toNatClampNeg x1.toInt64)))) x1)
set_option maxHeartbeats 4000000 in
set_option maxRecDepth 100000 in
theorem c_L_compare (l : Launch) (hl0 : l.stackTraces = false) (G : GT) (hx_0 hhist_0 hdec_0 : Nat) (anow : Nat → Nat) (hout_0 : Nat) (now : TState) (out : (Nat → Int64)) {r : Int32 × (Nat → Int64)} (hf : f_L_compare now out = some r) : CtW l yL_compare (Cond.codeWith yL_compare cL_compare 3 (some .int) [(0, 8, 11, 15)] :: lw_g) rm_L_compare G [.ref hx_0, .ref hout_0] (List.flatten [[(hx_0, .inr (7, [.ref (anow 0), .ref hhist_0, .ref hdec_0]))], [((anow 0), .inr (5, [.ref (anow 1), .ref (anow 3), .ref (anow 5), .ref (anow 12), .ref (anow 14), .ref (anow 16)]))], cBy G (anow 1) (anow 2) 64 now.1, cBy G (anow 3) (anow 4) 64 now.2.1, cDe G (anow 5) (anow 6) (anow 7) (anow 8) (anow 9) (anow 10) (anow 11) now.2.2.1, cPl G (anow 12) (anow 13) now.2.2.2.1, cBy G (anow 14) (anow 15) 200 now.2.2.2.2.1, [((anow 16), .inr (6, [.ref (anow 17), .int now.2.2.2.2.2.2.1, .int now.2.2.2.2.2.2.2]))], cBy G (anow 17) (anow 18) 64 now.2.2.2.2.2.1, [(hout_0, .inl (G.2.2.2.1, 1, .inr (.inl out)))]]) (some (.int r.1)) (List.flatten [[(hx_0, .inr (7, [.ref (anow 0), .ref hhist_0, .ref hdec_0]))], [((anow 0), .inr (5, [.ref (anow 1), .ref (anow 3), .ref (anow 5), .ref (anow 12), .ref (anow 14), .ref (anow 16)]))], cBy G (anow 1) (anow 2) 64 now.1, cBy G (anow 3) (anow 4) 64 now.2.1, cDe G (anow 5) (anow 6) (anow 7) (anow 8) (anow 9) (anow 10) (anow 11) now.2.2.1, cPl G (anow 12) (anow 13) now.2.2.2.1, cBy G (anow 14) (anow 15) 200 now.2.2.2.2.1, [((anow 16), .inr (6, [.ref (anow 17), .int now.2.2.2.2.2.2.1, .int now.2.2.2.2.2.2.2]))], cBy G (anow 17) (anow 18) 64 now.2.2.2.2.2.1, [(hout_0, .inl (G.2.2.2.1, 1, .inr (.inl r.2)))]]) := by
  refine CtW.ofW (cc := cL_compare) (maxL := 3) (ret := (some .int)) (own := RL) (by decide) rfl rfl (Nat.le_of_ble_eq_true rfl) ?_
  intro p e s m args below meth c A hx hb hr hml hts hown hlocks hK hP hD hA hS htab hZ ls hl
  have hl : lv_has ls 3 [(0, .ref hx_0), (1, .ref hout_0)] := hl
  generalize hQ : wMQ below G _ _ A args s _ _ = Q
  generalize hH : s.heap = H at hP ⊢
  have hS : va_S A s.heap H [] := by rw [← hH]; exact hS
  generalize ([] : List Loc) = locs at hS ⊢
  unfold f_L_compare at hf
  refine lv_aload_n (pc := 0) hx hb dL_compare_0 rfl (lv_at hl 1 rfl) ?_
  refine lv_iconst (pc := 1) (v := (0 : Int32)) hx hb dL_compare_1 (by decide) ?_
  refine lv_aload_n (pc := 2) hx hb dL_compare_2 rfl (lv_at hl 0 rfl) ?_
  obtain ⟨x1, hcx1, hf⟩ := bn_some hf
  rcases x1 with E | x1
  · have hf := sum_l hf
    by_cases hE : E = "java/lang/IllegalStateException"
    · subst hE
      have hf := br_y rfl hf
      refine w_callT (pc := 3) (E := "java/lang/IllegalStateException") (name := "java/lang/IllegalStateException") (rest := [.int (0 : Int32), .ref hout_0]) hx hb hml hown hts hK hZ (c_X10_compare l hl0 G hx_0 hhist_0 hdec_0 anow now hcx1) wd_860 wd_1 wd_857 wd_858 wd_859 hd_X10_compare ⟨(Nat.le_of_ble_eq_true rfl), (Nat.le_of_ble_eq_true rfl)⟩ hP hD hS hA [0, 1, 2, 3, 4, 5, 6, 7, 8] rfl (blk_D [0, 1, 2, 3, 4, 5, 6, 7, 8] rfl hD rfl) 7 0 rfl rfl rfl rfl hl.1 rfl (Nat.le_of_ble_eq_true rfl) dL_compare_3 ⟨(Nat.le_of_ble_eq_true rfl), (Nat.le_of_ble_eq_true rfl)⟩ [] (⟨0, 8, 11, 15⟩ : ExceptionTableEntry) [] htab (fun z hz => absurd hz List.not_mem_nil) (by decide) (by decide) (hts _ wd_497) (va_Nw.use rfl (hK.2.1 _ nw_587)) (fun H locs q9 hP hS => ?_)
      refine W.widen (k := 1) (n := 6) (Nat.le_of_ble_eq_true rfl) (Nat.le_of_ble_eq_true rfl) ?_
      refine lv_astore_n (pc := 11) (lv' := [(2, .ref q9), (0, .ref hx_0), (1, .ref hout_0)]) hx hb dL_compare_11 rfl hl (by decide) rfl (fun ls hl => ?_)
      refine lv_iconst (pc := 12) (v := (1 : Int32)) hx hb dL_compare_12 (by decide) ?_
      have hf := Option.some.inj hf; subst hf
      rw [← hQ]
      exact w_iret hx hb hr hlocks (Nat.le_of_ble_eq_true rfl) (Nat.le_of_ble_eq_true rfl) hP hS dL_compare_13
    have hf := br_n hE hf
    cases hf
  have hf := sum_r hf
  refine w_callR (pc := 3) (bs' := [[(hx_0, .inr (7, [.ref (anow 0), .ref hhist_0, .ref hdec_0]))], [((anow 0), .inr (5, [.ref (anow 1), .ref (anow 3), .ref (anow 5), .ref (anow 12), .ref (anow 14), .ref (anow 16)]))], cBy G (anow 1) (anow 2) 64 now.1, cBy G (anow 3) (anow 4) 64 now.2.1, cDe G (anow 5) (anow 6) (anow 7) (anow 8) (anow 9) (anow 10) (anow 11) now.2.2.1, cPl G (anow 12) (anow 13) now.2.2.2.1, cBy G (anow 14) (anow 15) 200 now.2.2.2.2.1, [((anow 16), .inr (6, [.ref (anow 17), .int now.2.2.2.2.2.2.1, .int now.2.2.2.2.2.2.2]))], cBy G (anow 17) (anow 18) 64 now.2.2.2.2.2.1, [(hout_0, .inl (G.2.2.2.1, 1, .inr (.inl out)))]]) (rest := [.int (0 : Int32), .ref hout_0]) hx hb hml hown hts hK hZ (c_X10_compare l hl0 G hx_0 hhist_0 hdec_0 anow now hcx1) wd_860 wd_1 wd_857 wd_858 wd_859 hd_X10_compare ⟨(Nat.le_of_ble_eq_true rfl), (Nat.le_of_ble_eq_true rfl)⟩ hP hD hS hA [0, 1, 2, 3, 4, 5, 6, 7, 8] rfl (blk_D [0, 1, 2, 3, 4, 5, 6, 7, 8] rfl hD rfl) rfl rfl 7 0 rfl rfl rfl rfl hl.1 rfl (Nat.le_of_ble_eq_true rfl) dL_compare_3 ⟨(Nat.le_of_ble_eq_true rfl), (Nat.le_of_ble_eq_true rfl)⟩ (fun H locs hP hD hS => ?_)
  refine W.widen (k := 1) (n := 6) (Nat.le_of_ble_eq_true rfl) (Nat.le_of_ble_eq_true rfl) ?_
  refine lv_i2l (pc := 6) (v := x1.toInt64) hx hb dL_compare_6 rfl ?_
  obtain ⟨hg, hf⟩ := gd_some hf
  refine va_last (pc := 7) hx hb hK.1 hP hD hS 20 2 rfl rfl hg dL_compare_7 (fun H locs hP hD hS => ?_)
  have hP : va_P G.1 vwCl (List.flatten [[(hx_0, .inr (7, [.ref (anow 0), .ref hhist_0, .ref hdec_0]))], [((anow 0), .inr (5, [.ref (anow 1), .ref (anow 3), .ref (anow 5), .ref (anow 12), .ref (anow 14), .ref (anow 16)]))], cBy G (anow 1) (anow 2) 64 now.1, cBy G (anow 3) (anow 4) 64 now.2.1, cDe G (anow 5) (anow 6) (anow 7) (anow 8) (anow 9) (anow 10) (anow 11) now.2.2.1, cPl G (anow 12) (anow 13) now.2.2.2.1, cBy G (anow 14) (anow 15) 200 now.2.2.2.2.1, [((anow 16), .inr (6, [.ref (anow 17), .int now.2.2.2.2.2.2.1, .int now.2.2.2.2.2.2.2]))], cBy G (anow 17) (anow 18) 64 now.2.2.2.2.2.1, [(hout_0, .inl (G.2.2.2.1, 1, .inr (.inl (vp_updL out (0 : Int32).toNatClampNeg x1.toInt64))))]]) H := hP
  have hD : va_D A (List.flatten [[(hx_0, .inr (7, [.ref (anow 0), .ref hhist_0, .ref hdec_0]))], [((anow 0), .inr (5, [.ref (anow 1), .ref (anow 3), .ref (anow 5), .ref (anow 12), .ref (anow 14), .ref (anow 16)]))], cBy G (anow 1) (anow 2) 64 now.1, cBy G (anow 3) (anow 4) 64 now.2.1, cDe G (anow 5) (anow 6) (anow 7) (anow 8) (anow 9) (anow 10) (anow 11) now.2.2.1, cPl G (anow 12) (anow 13) now.2.2.2.1, cBy G (anow 14) (anow 15) 200 now.2.2.2.2.1, [((anow 16), .inr (6, [.ref (anow 17), .int now.2.2.2.2.2.2.1, .int now.2.2.2.2.2.2.2]))], cBy G (anow 17) (anow 18) 64 now.2.2.2.2.2.1, [(hout_0, .inl (G.2.2.2.1, 1, .inr (.inl (vp_updL out (0 : Int32).toNatClampNeg x1.toInt64))))]]) := hD
  refine lv_goto (pc := 8) (tgt := 14) hx hb dL_compare_8 (by decide) ?_
  refine lv_iconst (pc := 14) (v := (0 : Int32)) hx hb dL_compare_14 (by decide) ?_
  have hf := Option.some.inj hf; subst hf
  rw [← hQ]
  exact w_iret hx hb hr hlocks (Nat.le_of_ble_eq_true rfl) (Nat.le_of_ble_eq_true rfl) hP hS dL_compare_15
theorem hd_L_undo : yL_undo.cls ≠ "java/lang/invoke/MethodHandle" ∧ yL_undo.cls ≠ "java/lang/invoke/VarHandle" ∧ (parseMethodDescriptor yL_undo.desc).map (fun d => d.parameters.length) = some 2 := by decide +kernel
abbrev rm_L_undo : Room := { frames := 7, cells := 1, slots := 6, locals := 168 }
noncomputable def f_L_undo (now : TState) (hist : THistory) (out : (Nat → Int64)) : Option (Int32 × TState × THistory × (Nat → Int64)) :=
  (f_X10_undo now hist).bind (fun x1 => Sum.elim (fun E => br (E = "java/lang/IllegalStateException") (some ((1 : Int32), now, hist, out)) (none)) (fun x1 => gd (vp_in (0 : Int32) 1) (some ((0 : Int32), x1.2.1, x1.2.2, (vp_updL out (0 : Int32).toNatClampNeg x1.1.toInt64)))) x1)
set_option maxHeartbeats 4000000 in
set_option maxRecDepth 100000 in
theorem c_L_undo (l : Launch) (hl0 : l.stackTraces = false) (G : GT) (hx_0 hdec_0 : Nat) (anow : Nat → Nat) (hhist_0 hhist_1 : Nat) (ahist0 ahist1 ahist2 ahist3 : Nat → Nat) (hout_0 : Nat) (now : TState) (hist : THistory) (out : (Nat → Int64)) {r : Int32 × TState × THistory × (Nat → Int64)} (hf : f_L_undo now hist out = some r) : CtW l yL_undo (Cond.codeWith yL_undo cL_undo 3 (some .int) [(0, 8, 11, 15)] :: lw_g) rm_L_undo G [.ref hx_0, .ref hout_0] (List.flatten [[(hx_0, .inr (7, [.ref (anow 0), .ref hhist_0, .ref hdec_0]))], [((anow 0), .inr (5, [.ref (anow 1), .ref (anow 3), .ref (anow 5), .ref (anow 12), .ref (anow 14), .ref (anow 16)]))], cBy G (anow 1) (anow 2) 64 now.1, cBy G (anow 3) (anow 4) 64 now.2.1, cDe G (anow 5) (anow 6) (anow 7) (anow 8) (anow 9) (anow 10) (anow 11) now.2.2.1, cPl G (anow 12) (anow 13) now.2.2.2.1, cBy G (anow 14) (anow 15) 200 now.2.2.2.2.1, [((anow 16), .inr (6, [.ref (anow 17), .int now.2.2.2.2.2.2.1, .int now.2.2.2.2.2.2.2]))], cBy G (anow 17) (anow 18) 64 now.2.2.2.2.2.1, cHist G hhist_0 hhist_1 ahist0 ahist1 ahist2 ahist3 hist, [(hout_0, .inl (G.2.2.2.1, 1, .inr (.inl out)))]]) (some (.int r.1)) (List.flatten [[(hx_0, .inr (7, [.ref (anow 0), .ref hhist_0, .ref hdec_0]))], [((anow 0), .inr (5, [.ref (anow 1), .ref (anow 3), .ref (anow 5), .ref (anow 12), .ref (anow 14), .ref (anow 16)]))], cBy G (anow 1) (anow 2) 64 r.2.1.1, cBy G (anow 3) (anow 4) 64 r.2.1.2.1, cDe G (anow 5) (anow 6) (anow 7) (anow 8) (anow 9) (anow 10) (anow 11) r.2.1.2.2.1, cPl G (anow 12) (anow 13) r.2.1.2.2.2.1, cBy G (anow 14) (anow 15) 200 r.2.1.2.2.2.2.1, [((anow 16), .inr (6, [.ref (anow 17), .int r.2.1.2.2.2.2.2.2.1, .int r.2.1.2.2.2.2.2.2.2]))], cBy G (anow 17) (anow 18) 64 r.2.1.2.2.2.2.2.1, cHist G hhist_0 hhist_1 ahist0 ahist1 ahist2 ahist3 r.2.2.1, [(hout_0, .inl (G.2.2.2.1, 1, .inr (.inl r.2.2.2)))]]) := by
  refine CtW.ofW (cc := cL_undo) (maxL := 3) (ret := (some .int)) (own := RL) (by decide) rfl rfl (Nat.le_of_ble_eq_true rfl) ?_
  intro p e s m args below meth c A hx hb hr hml hts hown hlocks hK hP hD hA hS htab hZ ls hl
  have hl : lv_has ls 3 [(0, .ref hx_0), (1, .ref hout_0)] := hl
  generalize hQ : wMQ below G _ _ A args s _ _ = Q
  generalize hH : s.heap = H at hP ⊢
  have hS : va_S A s.heap H [] := by rw [← hH]; exact hS
  generalize ([] : List Loc) = locs at hS ⊢
  unfold f_L_undo at hf
  refine lv_aload_n (pc := 0) hx hb dL_undo_0 rfl (lv_at hl 1 rfl) ?_
  refine lv_iconst (pc := 1) (v := (0 : Int32)) hx hb dL_undo_1 (by decide) ?_
  refine lv_aload_n (pc := 2) hx hb dL_undo_2 rfl (lv_at hl 0 rfl) ?_
  obtain ⟨x1, hcx1, hf⟩ := bn_some hf
  rcases x1 with E | x1
  · have hf := sum_l hf
    by_cases hE : E = "java/lang/IllegalStateException"
    · subst hE
      have hf := br_y rfl hf
      refine w_callT (pc := 3) (E := "java/lang/IllegalStateException") (name := "java/lang/IllegalStateException") (rest := [.int (0 : Int32), .ref hout_0]) hx hb hml hown hts hK hZ (c_X10_undo l hl0 G hx_0 hdec_0 anow hhist_0 hhist_1 ahist0 ahist1 ahist2 ahist3 now hist hcx1) wd_868 wd_1 wd_865 wd_866 wd_867 hd_X10_undo ⟨(Nat.le_of_ble_eq_true rfl), (Nat.le_of_ble_eq_true rfl)⟩ hP hD hS hA [0, 1, 2, 3, 4, 5, 6, 7, 8, 9] rfl (blk_D [0, 1, 2, 3, 4, 5, 6, 7, 8, 9] rfl hD rfl) 7 0 rfl rfl rfl rfl hl.1 rfl (Nat.le_of_ble_eq_true rfl) dL_undo_3 ⟨(Nat.le_of_ble_eq_true rfl), (Nat.le_of_ble_eq_true rfl)⟩ [] (⟨0, 8, 11, 15⟩ : ExceptionTableEntry) [] htab (fun z hz => absurd hz List.not_mem_nil) (by decide) (by decide) (hts _ wd_497) (va_Nw.use rfl (hK.2.1 _ nw_587)) (fun H locs q9 hP hS => ?_)
      refine W.widen (k := 1) (n := 6) (Nat.le_of_ble_eq_true rfl) (Nat.le_of_ble_eq_true rfl) ?_
      refine lv_astore_n (pc := 11) (lv' := [(2, .ref q9), (0, .ref hx_0), (1, .ref hout_0)]) hx hb dL_undo_11 rfl hl (by decide) rfl (fun ls hl => ?_)
      refine lv_iconst (pc := 12) (v := (1 : Int32)) hx hb dL_undo_12 (by decide) ?_
      have hf := Option.some.inj hf; subst hf
      rw [← hQ]
      exact w_iret hx hb hr hlocks (Nat.le_of_ble_eq_true rfl) (Nat.le_of_ble_eq_true rfl) hP hS dL_undo_13
    have hf := br_n hE hf
    cases hf
  have hf := sum_r hf
  refine w_callR (pc := 3) (bs' := [[(hx_0, .inr (7, [.ref (anow 0), .ref hhist_0, .ref hdec_0]))], [((anow 0), .inr (5, [.ref (anow 1), .ref (anow 3), .ref (anow 5), .ref (anow 12), .ref (anow 14), .ref (anow 16)]))], cBy G (anow 1) (anow 2) 64 x1.2.1.1, cBy G (anow 3) (anow 4) 64 x1.2.1.2.1, cDe G (anow 5) (anow 6) (anow 7) (anow 8) (anow 9) (anow 10) (anow 11) x1.2.1.2.2.1, cPl G (anow 12) (anow 13) x1.2.1.2.2.2.1, cBy G (anow 14) (anow 15) 200 x1.2.1.2.2.2.2.1, [((anow 16), .inr (6, [.ref (anow 17), .int x1.2.1.2.2.2.2.2.2.1, .int x1.2.1.2.2.2.2.2.2.2]))], cBy G (anow 17) (anow 18) 64 x1.2.1.2.2.2.2.2.1, cHist G hhist_0 hhist_1 ahist0 ahist1 ahist2 ahist3 x1.2.2, [(hout_0, .inl (G.2.2.2.1, 1, .inr (.inl out)))]]) (rest := [.int (0 : Int32), .ref hout_0]) hx hb hml hown hts hK hZ (c_X10_undo l hl0 G hx_0 hdec_0 anow hhist_0 hhist_1 ahist0 ahist1 ahist2 ahist3 now hist hcx1) wd_868 wd_1 wd_865 wd_866 wd_867 hd_X10_undo ⟨(Nat.le_of_ble_eq_true rfl), (Nat.le_of_ble_eq_true rfl)⟩ hP hD hS hA [0, 1, 2, 3, 4, 5, 6, 7, 8, 9] rfl (blk_D [0, 1, 2, 3, 4, 5, 6, 7, 8, 9] rfl hD rfl) rfl rfl 7 0 rfl rfl rfl rfl hl.1 rfl (Nat.le_of_ble_eq_true rfl) dL_undo_3 ⟨(Nat.le_of_ble_eq_true rfl), (Nat.le_of_ble_eq_true rfl)⟩ (fun H locs hP hD hS => ?_)
  refine W.widen (k := 1) (n := 6) (Nat.le_of_ble_eq_true rfl) (Nat.le_of_ble_eq_true rfl) ?_
  refine lv_i2l (pc := 6) (v := x1.1.toInt64) hx hb dL_undo_6 rfl ?_
  obtain ⟨hg, hf⟩ := gd_some hf
  refine va_last (pc := 7) hx hb hK.1 hP hD hS 98 2 rfl rfl hg dL_undo_7 (fun H locs hP hD hS => ?_)
  have hP : va_P G.1 vwCl (List.flatten [[(hx_0, .inr (7, [.ref (anow 0), .ref hhist_0, .ref hdec_0]))], [((anow 0), .inr (5, [.ref (anow 1), .ref (anow 3), .ref (anow 5), .ref (anow 12), .ref (anow 14), .ref (anow 16)]))], cBy G (anow 1) (anow 2) 64 x1.2.1.1, cBy G (anow 3) (anow 4) 64 x1.2.1.2.1, cDe G (anow 5) (anow 6) (anow 7) (anow 8) (anow 9) (anow 10) (anow 11) x1.2.1.2.2.1, cPl G (anow 12) (anow 13) x1.2.1.2.2.2.1, cBy G (anow 14) (anow 15) 200 x1.2.1.2.2.2.2.1, [((anow 16), .inr (6, [.ref (anow 17), .int x1.2.1.2.2.2.2.2.2.1, .int x1.2.1.2.2.2.2.2.2.2]))], cBy G (anow 17) (anow 18) 64 x1.2.1.2.2.2.2.2.1, cHist G hhist_0 hhist_1 ahist0 ahist1 ahist2 ahist3 x1.2.2, [(hout_0, .inl (G.2.2.2.1, 1, .inr (.inl (vp_updL out (0 : Int32).toNatClampNeg x1.1.toInt64))))]]) H := hP
  have hD : va_D A (List.flatten [[(hx_0, .inr (7, [.ref (anow 0), .ref hhist_0, .ref hdec_0]))], [((anow 0), .inr (5, [.ref (anow 1), .ref (anow 3), .ref (anow 5), .ref (anow 12), .ref (anow 14), .ref (anow 16)]))], cBy G (anow 1) (anow 2) 64 x1.2.1.1, cBy G (anow 3) (anow 4) 64 x1.2.1.2.1, cDe G (anow 5) (anow 6) (anow 7) (anow 8) (anow 9) (anow 10) (anow 11) x1.2.1.2.2.1, cPl G (anow 12) (anow 13) x1.2.1.2.2.2.1, cBy G (anow 14) (anow 15) 200 x1.2.1.2.2.2.2.1, [((anow 16), .inr (6, [.ref (anow 17), .int x1.2.1.2.2.2.2.2.2.1, .int x1.2.1.2.2.2.2.2.2.2]))], cBy G (anow 17) (anow 18) 64 x1.2.1.2.2.2.2.2.1, cHist G hhist_0 hhist_1 ahist0 ahist1 ahist2 ahist3 x1.2.2, [(hout_0, .inl (G.2.2.2.1, 1, .inr (.inl (vp_updL out (0 : Int32).toNatClampNeg x1.1.toInt64))))]]) := hD
  refine lv_goto (pc := 8) (tgt := 14) hx hb dL_undo_8 (by decide) ?_
  refine lv_iconst (pc := 14) (v := (0 : Int32)) hx hb dL_undo_14 (by decide) ?_
  have hf := Option.some.inj hf; subst hf
  rw [← hQ]
  exact w_iret hx hb hr hlocks (Nat.le_of_ble_eq_true rfl) (Nat.le_of_ble_eq_true rfl) hP hS dL_undo_15
