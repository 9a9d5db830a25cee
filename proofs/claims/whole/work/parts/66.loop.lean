noncomputable def kst (xs : Nat → Int32) (L : Nat) (i : Int32) (now : TState) (hist : THistory) (dec : TDecoder) (mo : TModel) (out : Nat → Int64) : Option (TState × THistory × TDecoder × TModel × (Nat → Int64)) :=
  gd (vp_in i L) (br ((xs i.toNatClampNeg &&& (31 : Int32)) = (0 : Int32)) (kf_152 xs L i now hist dec mo out) (br ((xs i.toNatClampNeg &&& (31 : Int32)) = (1 : Int32)) (kf_220 xs L i now hist dec mo out) (br ((xs i.toNatClampNeg &&& (31 : Int32)) = (2 : Int32)) (kf_300 xs L i now hist dec mo out) (br ((xs i.toNatClampNeg &&& (31 : Int32)) = (3 : Int32)) (kf_356 xs L i now hist dec mo out) (br ((xs i.toNatClampNeg &&& (31 : Int32)) = (4 : Int32)) (kf_424 xs L i now hist dec mo out) (br ((xs i.toNatClampNeg &&& (31 : Int32)) = (5 : Int32)) (kf_437 xs L i now hist dec mo out) (br ((xs i.toNatClampNeg &&& (31 : Int32)) = (6 : Int32)) (kf_450 xs L i now hist dec mo out) (br ((xs i.toNatClampNeg &&& (31 : Int32)) = (7 : Int32)) (kf_518 xs L i now hist dec mo out) (br ((xs i.toNatClampNeg &&& (31 : Int32)) = (8 : Int32)) (kf_593 xs L i now hist dec mo out) (br ((xs i.toNatClampNeg &&& (31 : Int32)) = (9 : Int32)) (kf_649 xs L i now hist dec mo out) (br ((xs i.toNatClampNeg &&& (31 : Int32)) = (10 : Int32)) (kf_705 xs L i now hist dec mo out) (br ((xs i.toNatClampNeg &&& (31 : Int32)) = (11 : Int32)) (kf_749 xs L i now hist dec mo out) (br ((xs i.toNatClampNeg &&& (31 : Int32)) = (12 : Int32)) (kf_793 xs L i now hist dec mo out) (br ((xs i.toNatClampNeg &&& (31 : Int32)) = (13 : Int32)) (kf_806 xs L i now hist dec mo out) (br ((xs i.toNatClampNeg &&& (31 : Int32)) = (14 : Int32)) (kf_850 xs L i now hist dec mo out) (br ((xs i.toNatClampNeg &&& (31 : Int32)) = (15 : Int32)) (kf_906 xs L i now hist dec mo out) (br ((xs i.toNatClampNeg &&& (31 : Int32)) = (16 : Int32)) (kf_919 xs L i now hist dec mo out) (br ((xs i.toNatClampNeg &&& (31 : Int32)) = (17 : Int32)) (kf_975 xs L i now hist dec mo out) (br ((xs i.toNatClampNeg &&& (31 : Int32)) = (18 : Int32)) (kf_988 xs L i now hist dec mo out) (br ((xs i.toNatClampNeg &&& (31 : Int32)) = (19 : Int32)) (kf_1032 xs L i now hist dec mo out) (br ((xs i.toNatClampNeg &&& (31 : Int32)) = (20 : Int32)) (kf_1076 xs L i now hist dec mo out) (br ((xs i.toNatClampNeg &&& (31 : Int32)) = (21 : Int32)) (kf_1132 xs L i now hist dec mo out) (br ((xs i.toNatClampNeg &&& (31 : Int32)) = (22 : Int32)) (kf_1176 xs L i now hist dec mo out) (br ((xs i.toNatClampNeg &&& (31 : Int32)) = (23 : Int32)) (kf_1217 xs L i now hist dec mo out) (br ((xs i.toNatClampNeg &&& (31 : Int32)) = (24 : Int32)) (kf_1261 xs L i now hist dec mo out) (some (now, hist, dec, mo, out)))))))))))))))))))))))))))
noncomputable def kLp (xs : Nat → Int32) (L : Nat) : Nat → Int32 → TState → THistory → TDecoder → TModel → (Nat → Int64) → Option Unit
  | 0, _, _, _, _, _, _ => none
  | k + 1, i, now, hist, dec, mo, out => br ((Int32.ofNat L - (4 : Int32)) < i) (some ()) ((kst xs L i now hist dec mo out).bind (fun r => kLp xs L k (i + (4 : Int32)) r.1 r.2.1 r.2.2.1 r.2.2.2.1 r.2.2.2.2))
set_option maxHeartbeats 4000000 in
set_option maxRecDepth 100000 in
theorem law_L {p : Program} {l : Launch} {e : Env} {s : State} {m : MethodId} {args : Array Value} {below : List Frame} {meth : Method} {c : Code} {Q : State → Prop} {A : Nat → Prop} {b L : Nat} {xs : Nat → Int32} {G : GT} (hl0 : l.stackTraces = false) (hx : p.tables.exec = Jvm.exec) (hb : c.code = cL_law) (hml : c.maxLocals = 9) (hown : s.vm.findClass RL = some m.cls) (hts : ∀ w ∈ lw_g, w.before args s = true) (hK : GK G s) (hZ : XZ A s s.heap) (hA : ∀ q : Nat, s.heap.size ≤ q → A q) (hX : va_X b L xs s s.heap) (hbl : b < s.heap.size) (hbA : ¬ A b) (hx_0 : Nat) (hmo_0 hmo_1 hmo_2 hmo_3 hmo_4 hmo_5 hmo_6 hmo_7 hmo_8 : Nat) (hout_0 : Nat) (anow : Nat → Nat) (hhist_0 hhist_1 : Nat) (ahist0 ahist1 ahist2 ahist3 : Nat → Nat) (hdec_0 hdec_1 hdec_2 hdec_3 hdec_4 hdec_5 hdec_6 hdec_7 : Nat) (kx : ∀ (H : Heap) (locs : List Loc) (ls : Array Slot) (cw sw : Nat), cw ≤ 600000 → sw ≤ 7000000 → va_S A s.heap H locs → W p l e room_1 s m args below meth c H locs cw sw Q (F0 m 1281 ls [])) :
    ∀ (k : Nat) (i : Int32) (now : TState) (hist : THistory) (dec : TDecoder) (mo : TModel) (out : Nat → Int64) (cw sw : Nat), kLp xs L k i now hist dec mo out = some () → cw + 3 * k ≤ 600000 → sw + 18 * k ≤ 7000000 → ∀ (H : Heap) (locs : List Loc), va_P G.1 vwCl (List.flatten [[(hx_0, .inr (7, [.ref (anow 0), .ref hhist_0, .ref hdec_0]))], cMo G hmo_0 hmo_1 hmo_2 hmo_3 hmo_4 hmo_5 hmo_6 hmo_7 hmo_8 mo, [(hout_0, .inl (G.2.2.2.1, 1, .inr (.inl out)))], [((anow 0), .inr (5, [.ref (anow 1), .ref (anow 3), .ref (anow 5), .ref (anow 12), .ref (anow 14), .ref (anow 16)]))], cBy G (anow 1) (anow 2) 64 now.1, cBy G (anow 3) (anow 4) 64 now.2.1, cDe G (anow 5) (anow 6) (anow 7) (anow 8) (anow 9) (anow 10) (anow 11) now.2.2.1, cPl G (anow 12) (anow 13) now.2.2.2.1, cBy G (anow 14) (anow 15) 200 now.2.2.2.2.1, [((anow 16), .inr (6, [.ref (anow 17), .int now.2.2.2.2.2.2.1, .int now.2.2.2.2.2.2.2]))], cBy G (anow 17) (anow 18) 64 now.2.2.2.2.2.1, cHist G hhist_0 hhist_1 ahist0 ahist1 ahist2 ahist3 hist, [(hdec_0, .inr (1, [.ref hdec_1, .int dec.2.1, .int dec.2.2.1, .int dec.2.2.2]))], cDe G hdec_1 hdec_2 hdec_3 hdec_4 hdec_5 hdec_6 hdec_7 dec.1]) H → va_D A (List.flatten [[(hx_0, .inr (7, [.ref (anow 0), .ref hhist_0, .ref hdec_0]))], cMo G hmo_0 hmo_1 hmo_2 hmo_3 hmo_4 hmo_5 hmo_6 hmo_7 hmo_8 mo, [(hout_0, .inl (G.2.2.2.1, 1, .inr (.inl out)))], [((anow 0), .inr (5, [.ref (anow 1), .ref (anow 3), .ref (anow 5), .ref (anow 12), .ref (anow 14), .ref (anow 16)]))], cBy G (anow 1) (anow 2) 64 now.1, cBy G (anow 3) (anow 4) 64 now.2.1, cDe G (anow 5) (anow 6) (anow 7) (anow 8) (anow 9) (anow 10) (anow 11) now.2.2.1, cPl G (anow 12) (anow 13) now.2.2.2.1, cBy G (anow 14) (anow 15) 200 now.2.2.2.2.1, [((anow 16), .inr (6, [.ref (anow 17), .int now.2.2.2.2.2.2.1, .int now.2.2.2.2.2.2.2]))], cBy G (anow 17) (anow 18) 64 now.2.2.2.2.2.1, cHist G hhist_0 hhist_1 ahist0 ahist1 ahist2 ahist3 hist, [(hdec_0, .inr (1, [.ref hdec_1, .int dec.2.1, .int dec.2.2.1, .int dec.2.2.2]))], cDe G hdec_1 hdec_2 hdec_3 hdec_4 hdec_5 hdec_6 hdec_7 dec.1]) → va_S A s.heap H locs → ∀ ls : Array Slot, lv_has ls 9 [(0, .ref b), (1, .ref hx_0), (2, .ref hmo_0), (3, .ref hout_0), (4, .int i)] → W p l e room_1 s m args below meth c H locs cw sw Q (F0 m 23 ls []) := by
  intro k
  induction k with
  | zero => intro i now hist dec mo out cw sw hf; rw [kLp.eq_1] at hf; cases hf
  | succ k ih =>
    intro i now hist dec mo out cw sw hf hcw hsw H locs hP hD hS ls hl
    rw [kLp.eq_2] at hf
    have hcap : cw + 3 ≤ room_1.cells ∧ sw + 18 ≤ room_1.slots := ⟨by show cw + 3 ≤ 601024; omega, by show sw + 18 ≤ 7293034; omega⟩
    refine lv_iload (pc := 23) hx hb dL_law_23 (lv_at hl 4 rfl) ?_
    refine lv_aload_n (pc := 25) hx hb dL_law_25 rfl (lv_at hl 0 rfl) ?_
    refine va_slen (pc := 26) hx hb hX hbl hbA hS dL_law_26 ?_
    refine lv_iconst (pc := 27) (v := (4 : Int32)) hx hb dL_law_27 (by decide) ?_
    refine lv_isub (pc := 28) hx hb dL_law_28 ?_
    refine lv_icmp_gt (pc := 29) (tgt := 1281) hx hb dL_law_29 (by decide) (fun hc => ?_) (fun hc => ?_)
    · exact kx H locs ls cw sw (by omega) (by omega) hS
    have hf := br_n hc hf
    obtain ⟨r, hr, hf⟩ := bn_some hf
    have kk : ∀ (H : Heap) (locs : List Loc), va_P G.1 vwCl (List.flatten [[(hx_0, .inr (7, [.ref (anow 0), .ref hhist_0, .ref hdec_0]))], cMo G hmo_0 hmo_1 hmo_2 hmo_3 hmo_4 hmo_5 hmo_6 hmo_7 hmo_8 r.2.2.2.1, [(hout_0, .inl (G.2.2.2.1, 1, .inr (.inl r.2.2.2.2)))], [((anow 0), .inr (5, [.ref (anow 1), .ref (anow 3), .ref (anow 5), .ref (anow 12), .ref (anow 14), .ref (anow 16)]))], cBy G (anow 1) (anow 2) 64 r.1.1, cBy G (anow 3) (anow 4) 64 r.1.2.1, cDe G (anow 5) (anow 6) (anow 7) (anow 8) (anow 9) (anow 10) (anow 11) r.1.2.2.1, cPl G (anow 12) (anow 13) r.1.2.2.2.1, cBy G (anow 14) (anow 15) 200 r.1.2.2.2.2.1, [((anow 16), .inr (6, [.ref (anow 17), .int r.1.2.2.2.2.2.2.1, .int r.1.2.2.2.2.2.2.2]))], cBy G (anow 17) (anow 18) 64 r.1.2.2.2.2.2.1, cHist G hhist_0 hhist_1 ahist0 ahist1 ahist2 ahist3 r.2.1, [(hdec_0, .inr (1, [.ref hdec_1, .int r.2.2.1.2.1, .int r.2.2.1.2.2.1, .int r.2.2.1.2.2.2]))], cDe G hdec_1 hdec_2 hdec_3 hdec_4 hdec_5 hdec_6 hdec_7 r.2.2.1.1]) H → va_D A (List.flatten [[(hx_0, .inr (7, [.ref (anow 0), .ref hhist_0, .ref hdec_0]))], cMo G hmo_0 hmo_1 hmo_2 hmo_3 hmo_4 hmo_5 hmo_6 hmo_7 hmo_8 r.2.2.2.1, [(hout_0, .inl (G.2.2.2.1, 1, .inr (.inl r.2.2.2.2)))], [((anow 0), .inr (5, [.ref (anow 1), .ref (anow 3), .ref (anow 5), .ref (anow 12), .ref (anow 14), .ref (anow 16)]))], cBy G (anow 1) (anow 2) 64 r.1.1, cBy G (anow 3) (anow 4) 64 r.1.2.1, cDe G (anow 5) (anow 6) (anow 7) (anow 8) (anow 9) (anow 10) (anow 11) r.1.2.2.1, cPl G (anow 12) (anow 13) r.1.2.2.2.1, cBy G (anow 14) (anow 15) 200 r.1.2.2.2.2.1, [((anow 16), .inr (6, [.ref (anow 17), .int r.1.2.2.2.2.2.2.1, .int r.1.2.2.2.2.2.2.2]))], cBy G (anow 17) (anow 18) 64 r.1.2.2.2.2.2.1, cHist G hhist_0 hhist_1 ahist0 ahist1 ahist2 ahist3 r.2.1, [(hdec_0, .inr (1, [.ref hdec_1, .int r.2.2.1.2.1, .int r.2.2.1.2.2.1, .int r.2.2.1.2.2.2]))], cDe G hdec_1 hdec_2 hdec_3 hdec_4 hdec_5 hdec_6 hdec_7 r.2.2.1.1]) → va_S A s.heap H locs → ∀ ls : Array Slot, lv_has ls 9 [(0, .ref b), (1, .ref hx_0), (2, .ref hmo_0), (3, .ref hout_0), (4, .int i)] → W p l e room_1 s m args below meth c H locs (cw + 3) (sw + 18) Q (F0 m 1275 ls []) := by
      intro H locs hP hD hS ls hl
      refine lv_iinc (pc := 1275) (v := (i + (4 : Int32))) (lv' := [(4, .int (i + (4 : Int32))), (0, .ref b), (1, .ref hx_0), (2, .ref hmo_0), (3, .ref hout_0)]) hx hb dL_law_1275 hl (k := 4) rfl rfl (by decide) rfl (fun ls hl => ?_)
      refine lv_goto (pc := 1278) (tgt := 23) hx hb dL_law_1278 (by decide) ?_
      exact ih (i + 4) r.1 r.2.1 r.2.2.1 r.2.2.2.1 r.2.2.2.2 (cw + 3) (sw + 18) hf (by omega) (by omega) H locs hP hD hS ls (lv_sub hl [1, 2, 3, 4, 0] rfl)
    clear ih
    unfold kst at hr
    obtain ⟨hg, hr⟩ := gd_some hr
    refine lv_aload_n (pc := 32) hx hb dL_law_32 rfl (lv_at hl 0 rfl) ?_
    refine lv_iload (pc := 33) hx hb dL_law_33 (lv_at hl 4 rfl) ?_
    refine va_sld (pc := 35) hx hb hX hbl hbA hS hg dL_law_35 ?_
    refine lv_bipush (pc := 36) (v := (31 : Int32)) hx hb dL_law_36 (by decide) ?_
    refine lv_iand (pc := 38) hx hb dL_law_38 ?_
    generalize hv : (xs i.toNatClampNeg &&& (31 : Int32)) = v at hr ⊢
    by_cases hc0 : v = (0 : Int32)
    · have hr := br_y hc0 hr
      refine lv_tableIn (pc := 39) (off := 113) (tgt := 152) hx hb dL_law_39 (by rw [hc0]; decide) (by rw [hc0]; decide) (by rw [hc0]; rfl) (by decide) ?_
      exact k_152 hl0 hx hb hml hown hts hK hZ hA hX hbl hbA hcap hx_0 hmo_0 hmo_1 hmo_2 hmo_3 hmo_4 hmo_5 hmo_6 hmo_7 hmo_8 hout_0 anow hhist_0 hhist_1 ahist0 ahist1 ahist2 ahist3 hdec_0 hdec_1 hdec_2 hdec_3 hdec_4 hdec_5 hdec_6 hdec_7 i now hist dec mo out hr hP hD hS hl kk
    have hr := br_n hc0 hr
    by_cases hc1 : v = (1 : Int32)
    · have hr := br_y hc1 hr
      refine lv_tableIn (pc := 39) (off := 181) (tgt := 220) hx hb dL_law_39 (by rw [hc1]; decide) (by rw [hc1]; decide) (by rw [hc1]; rfl) (by decide) ?_
      exact k_220 hl0 hx hb hml hown hts hK hZ hA hX hbl hbA hcap hx_0 hmo_0 hmo_1 hmo_2 hmo_3 hmo_4 hmo_5 hmo_6 hmo_7 hmo_8 hout_0 anow hhist_0 hhist_1 ahist0 ahist1 ahist2 ahist3 hdec_0 hdec_1 hdec_2 hdec_3 hdec_4 hdec_5 hdec_6 hdec_7 i now hist dec mo out hr hP hD hS hl kk
    have hr := br_n hc1 hr
    by_cases hc2 : v = (2 : Int32)
    · have hr := br_y hc2 hr
      refine lv_tableIn (pc := 39) (off := 261) (tgt := 300) hx hb dL_law_39 (by rw [hc2]; decide) (by rw [hc2]; decide) (by rw [hc2]; rfl) (by decide) ?_
      exact k_300 hl0 hx hb hml hown hts hK hZ hA hX hbl hbA hcap hx_0 hmo_0 hmo_1 hmo_2 hmo_3 hmo_4 hmo_5 hmo_6 hmo_7 hmo_8 hout_0 anow hhist_0 hhist_1 ahist0 ahist1 ahist2 ahist3 hdec_0 hdec_1 hdec_2 hdec_3 hdec_4 hdec_5 hdec_6 hdec_7 i now hist dec mo out hr hP hD hS hl kk
    have hr := br_n hc2 hr
    by_cases hc3 : v = (3 : Int32)
    · have hr := br_y hc3 hr
      refine lv_tableIn (pc := 39) (off := 317) (tgt := 356) hx hb dL_law_39 (by rw [hc3]; decide) (by rw [hc3]; decide) (by rw [hc3]; rfl) (by decide) ?_
      exact k_356 hl0 hx hb hml hown hts hK hZ hA hX hbl hbA hcap hx_0 hmo_0 hmo_1 hmo_2 hmo_3 hmo_4 hmo_5 hmo_6 hmo_7 hmo_8 hout_0 anow hhist_0 hhist_1 ahist0 ahist1 ahist2 ahist3 hdec_0 hdec_1 hdec_2 hdec_3 hdec_4 hdec_5 hdec_6 hdec_7 i now hist dec mo out hr hP hD hS hl kk
    have hr := br_n hc3 hr
    by_cases hc4 : v = (4 : Int32)
    · have hr := br_y hc4 hr
      refine lv_tableIn (pc := 39) (off := 385) (tgt := 424) hx hb dL_law_39 (by rw [hc4]; decide) (by rw [hc4]; decide) (by rw [hc4]; rfl) (by decide) ?_
      exact k_424 hl0 hx hb hml hown hts hK hZ hA hX hbl hbA hcap hx_0 hmo_0 hmo_1 hmo_2 hmo_3 hmo_4 hmo_5 hmo_6 hmo_7 hmo_8 hout_0 anow hhist_0 hhist_1 ahist0 ahist1 ahist2 ahist3 hdec_0 hdec_1 hdec_2 hdec_3 hdec_4 hdec_5 hdec_6 hdec_7 i now hist dec mo out hr hP hD hS hl kk
    have hr := br_n hc4 hr
    by_cases hc5 : v = (5 : Int32)
    · have hr := br_y hc5 hr
      refine lv_tableIn (pc := 39) (off := 398) (tgt := 437) hx hb dL_law_39 (by rw [hc5]; decide) (by rw [hc5]; decide) (by rw [hc5]; rfl) (by decide) ?_
      exact k_437 hl0 hx hb hml hown hts hK hZ hA hX hbl hbA hcap hx_0 hmo_0 hmo_1 hmo_2 hmo_3 hmo_4 hmo_5 hmo_6 hmo_7 hmo_8 hout_0 anow hhist_0 hhist_1 ahist0 ahist1 ahist2 ahist3 hdec_0 hdec_1 hdec_2 hdec_3 hdec_4 hdec_5 hdec_6 hdec_7 i now hist dec mo out hr hP hD hS hl kk
    have hr := br_n hc5 hr
    by_cases hc6 : v = (6 : Int32)
    · have hr := br_y hc6 hr
      refine lv_tableIn (pc := 39) (off := 411) (tgt := 450) hx hb dL_law_39 (by rw [hc6]; decide) (by rw [hc6]; decide) (by rw [hc6]; rfl) (by decide) ?_
      exact k_450 hl0 hx hb hml hown hts hK hZ hA hX hbl hbA hcap hx_0 hmo_0 hmo_1 hmo_2 hmo_3 hmo_4 hmo_5 hmo_6 hmo_7 hmo_8 hout_0 anow hhist_0 hhist_1 ahist0 ahist1 ahist2 ahist3 hdec_0 hdec_1 hdec_2 hdec_3 hdec_4 hdec_5 hdec_6 hdec_7 i now hist dec mo out hr hP hD hS hl kk
    have hr := br_n hc6 hr
    by_cases hc7 : v = (7 : Int32)
    · have hr := br_y hc7 hr
      refine lv_tableIn (pc := 39) (off := 479) (tgt := 518) hx hb dL_law_39 (by rw [hc7]; decide) (by rw [hc7]; decide) (by rw [hc7]; rfl) (by decide) ?_
      exact k_518 hl0 hx hb hml hown hts hK hZ hA hX hbl hbA hcap hx_0 hmo_0 hmo_1 hmo_2 hmo_3 hmo_4 hmo_5 hmo_6 hmo_7 hmo_8 hout_0 anow hhist_0 hhist_1 ahist0 ahist1 ahist2 ahist3 hdec_0 hdec_1 hdec_2 hdec_3 hdec_4 hdec_5 hdec_6 hdec_7 i now hist dec mo out hr hP hD hS hl kk
    have hr := br_n hc7 hr
    by_cases hc8 : v = (8 : Int32)
    · have hr := br_y hc8 hr
      refine lv_tableIn (pc := 39) (off := 554) (tgt := 593) hx hb dL_law_39 (by rw [hc8]; decide) (by rw [hc8]; decide) (by rw [hc8]; rfl) (by decide) ?_
      exact k_593 hl0 hx hb hml hown hts hK hZ hA hX hbl hbA hcap hx_0 hmo_0 hmo_1 hmo_2 hmo_3 hmo_4 hmo_5 hmo_6 hmo_7 hmo_8 hout_0 anow hhist_0 hhist_1 ahist0 ahist1 ahist2 ahist3 hdec_0 hdec_1 hdec_2 hdec_3 hdec_4 hdec_5 hdec_6 hdec_7 i now hist dec mo out hr hP hD hS hl kk
    have hr := br_n hc8 hr
    by_cases hc9 : v = (9 : Int32)
    · have hr := br_y hc9 hr
      refine lv_tableIn (pc := 39) (off := 610) (tgt := 649) hx hb dL_law_39 (by rw [hc9]; decide) (by rw [hc9]; decide) (by rw [hc9]; rfl) (by decide) ?_
      exact k_649 hl0 hx hb hml hown hts hK hZ hA hX hbl hbA hcap hx_0 hmo_0 hmo_1 hmo_2 hmo_3 hmo_4 hmo_5 hmo_6 hmo_7 hmo_8 hout_0 anow hhist_0 hhist_1 ahist0 ahist1 ahist2 ahist3 hdec_0 hdec_1 hdec_2 hdec_3 hdec_4 hdec_5 hdec_6 hdec_7 i now hist dec mo out hr hP hD hS hl kk
    have hr := br_n hc9 hr
    by_cases hc10 : v = (10 : Int32)
    · have hr := br_y hc10 hr
      refine lv_tableIn (pc := 39) (off := 666) (tgt := 705) hx hb dL_law_39 (by rw [hc10]; decide) (by rw [hc10]; decide) (by rw [hc10]; rfl) (by decide) ?_
      exact k_705 hl0 hx hb hml hown hts hK hZ hA hX hbl hbA hcap hx_0 hmo_0 hmo_1 hmo_2 hmo_3 hmo_4 hmo_5 hmo_6 hmo_7 hmo_8 hout_0 anow hhist_0 hhist_1 ahist0 ahist1 ahist2 ahist3 hdec_0 hdec_1 hdec_2 hdec_3 hdec_4 hdec_5 hdec_6 hdec_7 i now hist dec mo out hr hP hD hS hl kk
    have hr := br_n hc10 hr
    by_cases hc11 : v = (11 : Int32)
    · have hr := br_y hc11 hr
      refine lv_tableIn (pc := 39) (off := 710) (tgt := 749) hx hb dL_law_39 (by rw [hc11]; decide) (by rw [hc11]; decide) (by rw [hc11]; rfl) (by decide) ?_
      exact k_749 hl0 hx hb hml hown hts hK hZ hA hX hbl hbA hcap hx_0 hmo_0 hmo_1 hmo_2 hmo_3 hmo_4 hmo_5 hmo_6 hmo_7 hmo_8 hout_0 anow hhist_0 hhist_1 ahist0 ahist1 ahist2 ahist3 hdec_0 hdec_1 hdec_2 hdec_3 hdec_4 hdec_5 hdec_6 hdec_7 i now hist dec mo out hr hP hD hS hl kk
    have hr := br_n hc11 hr
    by_cases hc12 : v = (12 : Int32)
    · have hr := br_y hc12 hr
      refine lv_tableIn (pc := 39) (off := 754) (tgt := 793) hx hb dL_law_39 (by rw [hc12]; decide) (by rw [hc12]; decide) (by rw [hc12]; rfl) (by decide) ?_
      exact k_793 hl0 hx hb hml hown hts hK hZ hA hX hbl hbA hcap hx_0 hmo_0 hmo_1 hmo_2 hmo_3 hmo_4 hmo_5 hmo_6 hmo_7 hmo_8 hout_0 anow hhist_0 hhist_1 ahist0 ahist1 ahist2 ahist3 hdec_0 hdec_1 hdec_2 hdec_3 hdec_4 hdec_5 hdec_6 hdec_7 i now hist dec mo out hr hP hD hS hl kk
    have hr := br_n hc12 hr
    by_cases hc13 : v = (13 : Int32)
    · have hr := br_y hc13 hr
      refine lv_tableIn (pc := 39) (off := 767) (tgt := 806) hx hb dL_law_39 (by rw [hc13]; decide) (by rw [hc13]; decide) (by rw [hc13]; rfl) (by decide) ?_
      exact k_806 hl0 hx hb hml hown hts hK hZ hA hX hbl hbA hcap hx_0 hmo_0 hmo_1 hmo_2 hmo_3 hmo_4 hmo_5 hmo_6 hmo_7 hmo_8 hout_0 anow hhist_0 hhist_1 ahist0 ahist1 ahist2 ahist3 hdec_0 hdec_1 hdec_2 hdec_3 hdec_4 hdec_5 hdec_6 hdec_7 i now hist dec mo out hr hP hD hS hl kk
    have hr := br_n hc13 hr
    by_cases hc14 : v = (14 : Int32)
    · have hr := br_y hc14 hr
      refine lv_tableIn (pc := 39) (off := 811) (tgt := 850) hx hb dL_law_39 (by rw [hc14]; decide) (by rw [hc14]; decide) (by rw [hc14]; rfl) (by decide) ?_
      exact k_850 hl0 hx hb hml hown hts hK hZ hA hX hbl hbA hcap hx_0 hmo_0 hmo_1 hmo_2 hmo_3 hmo_4 hmo_5 hmo_6 hmo_7 hmo_8 hout_0 anow hhist_0 hhist_1 ahist0 ahist1 ahist2 ahist3 hdec_0 hdec_1 hdec_2 hdec_3 hdec_4 hdec_5 hdec_6 hdec_7 i now hist dec mo out hr hP hD hS hl kk
    have hr := br_n hc14 hr
    by_cases hc15 : v = (15 : Int32)
    · have hr := br_y hc15 hr
      refine lv_tableIn (pc := 39) (off := 867) (tgt := 906) hx hb dL_law_39 (by rw [hc15]; decide) (by rw [hc15]; decide) (by rw [hc15]; rfl) (by decide) ?_
      exact k_906 hl0 hx hb hml hown hts hK hZ hA hX hbl hbA hcap hx_0 hmo_0 hmo_1 hmo_2 hmo_3 hmo_4 hmo_5 hmo_6 hmo_7 hmo_8 hout_0 anow hhist_0 hhist_1 ahist0 ahist1 ahist2 ahist3 hdec_0 hdec_1 hdec_2 hdec_3 hdec_4 hdec_5 hdec_6 hdec_7 i now hist dec mo out hr hP hD hS hl kk
    have hr := br_n hc15 hr
    by_cases hc16 : v = (16 : Int32)
    · have hr := br_y hc16 hr
      refine lv_tableIn (pc := 39) (off := 880) (tgt := 919) hx hb dL_law_39 (by rw [hc16]; decide) (by rw [hc16]; decide) (by rw [hc16]; rfl) (by decide) ?_
      exact k_919 hl0 hx hb hml hown hts hK hZ hA hX hbl hbA hcap hx_0 hmo_0 hmo_1 hmo_2 hmo_3 hmo_4 hmo_5 hmo_6 hmo_7 hmo_8 hout_0 anow hhist_0 hhist_1 ahist0 ahist1 ahist2 ahist3 hdec_0 hdec_1 hdec_2 hdec_3 hdec_4 hdec_5 hdec_6 hdec_7 i now hist dec mo out hr hP hD hS hl kk
    have hr := br_n hc16 hr
    by_cases hc17 : v = (17 : Int32)
    · have hr := br_y hc17 hr
      refine lv_tableIn (pc := 39) (off := 936) (tgt := 975) hx hb dL_law_39 (by rw [hc17]; decide) (by rw [hc17]; decide) (by rw [hc17]; rfl) (by decide) ?_
      exact k_975 hl0 hx hb hml hown hts hK hZ hA hX hbl hbA hcap hx_0 hmo_0 hmo_1 hmo_2 hmo_3 hmo_4 hmo_5 hmo_6 hmo_7 hmo_8 hout_0 anow hhist_0 hhist_1 ahist0 ahist1 ahist2 ahist3 hdec_0 hdec_1 hdec_2 hdec_3 hdec_4 hdec_5 hdec_6 hdec_7 i now hist dec mo out hr hP hD hS hl kk
    have hr := br_n hc17 hr
    by_cases hc18 : v = (18 : Int32)
    · have hr := br_y hc18 hr
      refine lv_tableIn (pc := 39) (off := 949) (tgt := 988) hx hb dL_law_39 (by rw [hc18]; decide) (by rw [hc18]; decide) (by rw [hc18]; rfl) (by decide) ?_
      exact k_988 hl0 hx hb hml hown hts hK hZ hA hX hbl hbA hcap hx_0 hmo_0 hmo_1 hmo_2 hmo_3 hmo_4 hmo_5 hmo_6 hmo_7 hmo_8 hout_0 anow hhist_0 hhist_1 ahist0 ahist1 ahist2 ahist3 hdec_0 hdec_1 hdec_2 hdec_3 hdec_4 hdec_5 hdec_6 hdec_7 i now hist dec mo out hr hP hD hS hl kk
    have hr := br_n hc18 hr
    by_cases hc19 : v = (19 : Int32)
    · have hr := br_y hc19 hr
      refine lv_tableIn (pc := 39) (off := 993) (tgt := 1032) hx hb dL_law_39 (by rw [hc19]; decide) (by rw [hc19]; decide) (by rw [hc19]; rfl) (by decide) ?_
      exact k_1032 hl0 hx hb hml hown hts hK hZ hA hX hbl hbA hcap hx_0 hmo_0 hmo_1 hmo_2 hmo_3 hmo_4 hmo_5 hmo_6 hmo_7 hmo_8 hout_0 anow hhist_0 hhist_1 ahist0 ahist1 ahist2 ahist3 hdec_0 hdec_1 hdec_2 hdec_3 hdec_4 hdec_5 hdec_6 hdec_7 i now hist dec mo out hr hP hD hS hl kk
    have hr := br_n hc19 hr
    by_cases hc20 : v = (20 : Int32)
    · have hr := br_y hc20 hr
      refine lv_tableIn (pc := 39) (off := 1037) (tgt := 1076) hx hb dL_law_39 (by rw [hc20]; decide) (by rw [hc20]; decide) (by rw [hc20]; rfl) (by decide) ?_
      exact k_1076 hl0 hx hb hml hown hts hK hZ hA hX hbl hbA hcap hx_0 hmo_0 hmo_1 hmo_2 hmo_3 hmo_4 hmo_5 hmo_6 hmo_7 hmo_8 hout_0 anow hhist_0 hhist_1 ahist0 ahist1 ahist2 ahist3 hdec_0 hdec_1 hdec_2 hdec_3 hdec_4 hdec_5 hdec_6 hdec_7 i now hist dec mo out hr hP hD hS hl kk
    have hr := br_n hc20 hr
    by_cases hc21 : v = (21 : Int32)
    · have hr := br_y hc21 hr
      refine lv_tableIn (pc := 39) (off := 1093) (tgt := 1132) hx hb dL_law_39 (by rw [hc21]; decide) (by rw [hc21]; decide) (by rw [hc21]; rfl) (by decide) ?_
      exact k_1132 hl0 hx hb hml hown hts hK hZ hA hX hbl hbA hcap hx_0 hmo_0 hmo_1 hmo_2 hmo_3 hmo_4 hmo_5 hmo_6 hmo_7 hmo_8 hout_0 anow hhist_0 hhist_1 ahist0 ahist1 ahist2 ahist3 hdec_0 hdec_1 hdec_2 hdec_3 hdec_4 hdec_5 hdec_6 hdec_7 i now hist dec mo out hr hP hD hS hl kk
    have hr := br_n hc21 hr
    by_cases hc22 : v = (22 : Int32)
    · have hr := br_y hc22 hr
      refine lv_tableIn (pc := 39) (off := 1137) (tgt := 1176) hx hb dL_law_39 (by rw [hc22]; decide) (by rw [hc22]; decide) (by rw [hc22]; rfl) (by decide) ?_
      exact k_1176 hl0 hx hb hml hown hts hK hZ hA hX hbl hbA hcap hx_0 hmo_0 hmo_1 hmo_2 hmo_3 hmo_4 hmo_5 hmo_6 hmo_7 hmo_8 hout_0 anow hhist_0 hhist_1 ahist0 ahist1 ahist2 ahist3 hdec_0 hdec_1 hdec_2 hdec_3 hdec_4 hdec_5 hdec_6 hdec_7 i now hist dec mo out hr hP hD hS hl kk
    have hr := br_n hc22 hr
    by_cases hc23 : v = (23 : Int32)
    · have hr := br_y hc23 hr
      refine lv_tableIn (pc := 39) (off := 1178) (tgt := 1217) hx hb dL_law_39 (by rw [hc23]; decide) (by rw [hc23]; decide) (by rw [hc23]; rfl) (by decide) ?_
      exact k_1217 hl0 hx hb hml hown hts hK hZ hA hX hbl hbA hcap hx_0 hmo_0 hmo_1 hmo_2 hmo_3 hmo_4 hmo_5 hmo_6 hmo_7 hmo_8 hout_0 anow hhist_0 hhist_1 ahist0 ahist1 ahist2 ahist3 hdec_0 hdec_1 hdec_2 hdec_3 hdec_4 hdec_5 hdec_6 hdec_7 i now hist dec mo out hr hP hD hS hl kk
    have hr := br_n hc23 hr
    by_cases hc24 : v = (24 : Int32)
    · have hr := br_y hc24 hr
      refine lv_tableIn (pc := 39) (off := 1222) (tgt := 1261) hx hb dL_law_39 (by rw [hc24]; decide) (by rw [hc24]; decide) (by rw [hc24]; rfl) (by decide) ?_
      exact k_1261 hl0 hx hb hml hown hts hK hZ hA hX hbl hbA hcap hx_0 hmo_0 hmo_1 hmo_2 hmo_3 hmo_4 hmo_5 hmo_6 hmo_7 hmo_8 hout_0 anow hhist_0 hhist_1 ahist0 ahist1 ahist2 ahist3 hdec_0 hdec_1 hdec_2 hdec_3 hdec_4 hdec_5 hdec_6 hdec_7 i now hist dec mo out hr hP hD hS hl kk
    have hr := br_n hc24 hr
    refine lv_tableOut (pc := 39) (tgt := 1275) hx hb dL_law_39 (by have z0 := lv_neT hc0 (a := 0) rfl; have z1 := lv_neT hc1 (a := 1) rfl; have z2 := lv_neT hc2 (a := 2) rfl; have z3 := lv_neT hc3 (a := 3) rfl; have z4 := lv_neT hc4 (a := 4) rfl; have z5 := lv_neT hc5 (a := 5) rfl; have z6 := lv_neT hc6 (a := 6) rfl; have z7 := lv_neT hc7 (a := 7) rfl; have z8 := lv_neT hc8 (a := 8) rfl; have z9 := lv_neT hc9 (a := 9) rfl; have z10 := lv_neT hc10 (a := 10) rfl; have z11 := lv_neT hc11 (a := 11) rfl; have z12 := lv_neT hc12 (a := 12) rfl; have z13 := lv_neT hc13 (a := 13) rfl; have z14 := lv_neT hc14 (a := 14) rfl; have z15 := lv_neT hc15 (a := 15) rfl; have z16 := lv_neT hc16 (a := 16) rfl; have z17 := lv_neT hc17 (a := 17) rfl; have z18 := lv_neT hc18 (a := 18) rfl; have z19 := lv_neT hc19 (a := 19) rfl; have z20 := lv_neT hc20 (a := 20) rfl; have z21 := lv_neT hc21 (a := 21) rfl; have z22 := lv_neT hc22 (a := 22) rfl; have z23 := lv_neT hc23 (a := 23) rfl; have z24 := lv_neT hc24 (a := 24) rfl; omega) (by decide) ?_
    have hr := Option.some.inj hr; subst hr
    exact W.widen (k := cw + 3) (n := sw + 18) (Nat.le_add_right _ _) (Nat.le_add_right _ _) (kk H locs hP hD hS ls hl)
