/-! the reference's step -/
abbrev mR (w : TModel) := w.2.2.2.2.2.2.2.2.2.2.2.2.2
def sR (w : TModel) (r : Nat → Int32) : TModel := (w.1, w.2.1, w.2.2.1, w.2.2.2.1, w.2.2.2.2.1, w.2.2.2.2.2.1, w.2.2.2.2.2.2.1, w.2.2.2.2.2.2.2.1, w.2.2.2.2.2.2.2.2.1, w.2.2.2.2.2.2.2.2.2.1, w.2.2.2.2.2.2.2.2.2.2.1, w.2.2.2.2.2.2.2.2.2.2.2.1, w.2.2.2.2.2.2.2.2.2.2.2.2.1, r)
theorem mA_sR (w : TModel) (r : Nat → Int32) : mA (sR w r) = mA w := rfl
theorem step95 {x : XS} (hI : SI x) (ht : x.2.2.2.2.2.1 = true) (hl : 0 < x.2.2.2.2.2.2.1) {k : Nat} (hk : k < dC x.2.2.1) : ∀ (d i fu : Nat) (w : TModel), S2 (mA w) x → i + d = dL x.2.2.1 k → d < fu → ∃ rd, f_X11_step_L95 fu w (nI i) (zI (whl x k)) (nI k) = f_X11_step_L149 FUEL (sR w rd) (0 : Int32) (nI k) ∧ (∀ e, e < i → rd e = mR w e) ∧ ∀ e, i ≤ e → e < dL x.2.2.1 k → rd e = stW x k e := by
  have hwi := hI.2.2.2.2.2 ht
  have hS := (hI.2.2.2.1 hwi.1).1
  have bk := hI.2.2.1.2.2.2.1 k hk
  have i1 := hI.2.2.1.1
  have i2 := hI.2.2.1.2.1
  have i3 := hI.2.2.1.2.2.1
  have hn := hwi.2.2 hl
  intro d
  induction d with
  | zero =>
    intro i fu w h2 hi hf
    obtain ⟨fu, rfl⟩ : ∃ k', fu = k' + 1 := ⟨fu - 1, by omega⟩
    refine ⟨mR w, ?_, fun e _ => rfl, fun e h1 h2 => by omega⟩
    rw [f_X11_step_L95.eq_2, of_3 h2.2.2.1 i1 hk, Option.bind_some, br_le_t (by omega) (by omega)]
    rfl
  | succ d ih =>
    intro i fu w h2 hi hf
    obtain ⟨fu, rfl⟩ : ∃ k', fu = k' + 1 := ⟨fu - 1, by omega⟩
    have step : f_X11_step_L95 (fu + 1) w (nI i) (zI (whl x k)) (nI k) = f_X11_step_L95 fu (sR w (upd (mR w) i (stW x k i))) (nI (i + 1)) (zI (whl x k)) (nI k) := by
      rw [f_X11_step_L95.eq_2, of_3 h2.2.2.1 i1 hk, Option.bind_some, br_le_f (by omega) (by omega), br_z0]
      unfold f_X11_step_J140 stW
      cases hW : whl x k
      · rw [if_neg (by decide), if_neg (by decide), X11_byteFor h2 hI hS hk (by omega), Option.bind_some, gd_in (by omega) (by omega), nI_clamp (by omega), show nI i + 1 = nI (i + 1) from nI_1 i]
        rfl
      · have hK : dK x.2.2.1 k = true := by
          unfold whl at hW
          cases hz : dK x.2.2.1 k
          · rw [hz] at hW; cases hW
          · rfl
        have b2 := bk.2.2 hK
        have hb := (h2.2.2.2.2.2.2 ht).2
        have hb64 := hb.2.1
        rw [if_pos rfl, if_pos rfl, of_1 h2.2.2.1 i1 hk, Option.bind_some, hK, show sI true (dR x.2.2.1 k) = nI (dR x.2.2.1 k) from rfl, show (553 : Int32) + nI (dR x.2.2.1 k) = nI (553 + dR x.2.2.1 k) from nI_add 553 _, nI_add, gd_in (by omega) (by omega), gd_in (by omega) (by omega), nI_clamp (by omega), nI_clamp (by omega), show nI i + 1 = nI (i + 1) from nI_1 i, show w.1 (553 + dR x.2.2.1 k + i) = x.2.2.2.2.2.2.2.1 (dR x.2.2.1 k + i) by rw [Nat.add_assoc]; exact hb.2.2 _ (by omega)]
        rfl
    obtain ⟨rd, e, r1, r2⟩ := ih (i + 1) fu (sR w (upd (mR w) i (stW x k i))) h2 (by omega) (by omega)
    refine ⟨rd, step.trans e, fun e he => ?_, fun e h1 h2 => ?_⟩
    · rw [r1 e (by omega)]; exact upd_ne _ _ (by omega)
    · by_cases q : e = i
      · rw [q, r1 i (by omega)]; exact upd_at _ _ _
      · exact r2 e (by omega) h2
theorem step149 {k L G l T : Nat} (hk : k < 30) (hG : G + L ≤ 64) (hl : 0 < l) (hl2 : l ≤ 30) : ∀ (d i fu : Nat) (w : TModel), mA w (133 + 4 * k + 3) = nI L → mA w (133 + 4 * k + 2) = nI G → mA w 551 = nI l → mA w 131 = nI T → i + d = L → d < fu → ∃ v, f_X11_step_L149 fu w (nI i) (nI k) = some (nI (l - 1), sA w v) ∧ (∀ j, j ≠ 551 → j ≠ 552 → (j < 553 + G + i ∨ 553 + G + L ≤ j) → v j = mA w j) ∧ v 551 = nI (l - 1) ∧ v 552 = (if l = 1 then nI T else mA w 552) ∧ ∀ e, i ≤ e → e < L → v (553 + G + e) = mR w e := by
  intro d
  induction d with
  | zero =>
    intro i fu w aL aG a551 a131 hi hf
    obtain ⟨fu, rfl⟩ : ∃ k', fu = k' + 1 := ⟨fu - 1, by omega⟩
    have hc := cutsW (w := sA w (upd (mA w) 551 (nI (l - 1)))) (l := l - 1) (t := T) (by rw [mA_sA, upd_at]) (by rw [mA_sA, upd_ne _ _ (by omega)]; exact a131) (by omega)
    rw [mA_sA] at hc
    refine ⟨if l - 1 = 0 then upd (upd (mA w) 551 (nI (l - 1))) 552 (nI T) else upd (mA w) 551 (nI (l - 1)), ?_, fun j h1 h2 h3 => ?_, ?_, ?_, fun e h1 h2 => by omega⟩
    · rw [f_X11_step_L149.eq_2, show f_X11_of w (nI k) 3 = some (nI L) from (X11_of w (q := 3) hk (by omega)).trans (congrArg some aL), Option.bind_some, br_le_t (by omega) (by omega), gd_551, gd_551, c_551, show w.1 551 = nI l from a551, show nI l - 1 = nI (l - 1) from nI_sb (b := 1) hl]
      have hc2 : f_X11_cutsWork (upd w.1 551 (nI (l - 1)), w.2.1, w.2.2.1, w.2.2.2.1, w.2.2.2.2.1, w.2.2.2.2.2.1, w.2.2.2.2.2.2.1, w.2.2.2.2.2.2.2.1, w.2.2.2.2.2.2.2.2.1, w.2.2.2.2.2.2.2.2.2.1, w.2.2.2.2.2.2.2.2.2.2.1, w.2.2.2.2.2.2.2.2.2.2.2.1, w.2.2.2.2.2.2.2.2.2.2.2.2.1, w.2.2.2.2.2.2.2.2.2.2.2.2.2) = _ := hc
      rw [hc2, Option.bind_some, gd_551]
      have e : (sA (sA w (upd (mA w) 551 (nI (l - 1)))) (if l - 1 = 0 then upd (upd (mA w) 551 (nI (l - 1))) 552 (nI T) else upd (mA w) 551 (nI (l - 1)))).1 551 = nI (l - 1) := by
        show (if l - 1 = 0 then upd (upd (mA w) 551 (nI (l - 1))) 552 (nI T) else upd (mA w) 551 (nI (l - 1))) 551 = nI (l - 1)
        split
        · rw [upd_ne _ _ (by omega), upd_at]
        · rw [upd_at]
      rw [e]
      rfl
    · split
      · rw [upd_ne _ _ h2, upd_ne _ _ h1]
      · rw [upd_ne _ _ h1]
    · split
      · rw [upd_ne _ _ (by omega), upd_at]
      · rw [upd_at]
    · by_cases q : l = 1
      · rw [if_pos (by omega), if_pos q, upd_at]
      · rw [if_neg (by omega), if_neg q, upd_ne _ _ (by omega)]
  | succ d ih =>
    intro i fu w aL aG a551 a131 hi hf
    obtain ⟨fu, rfl⟩ : ∃ k', fu = k' + 1 := ⟨fu - 1, by omega⟩
    have step : f_X11_step_L149 (fu + 1) w (nI i) (nI k) = f_X11_step_L149 fu (sA w (upd (mA w) (553 + G + i) (mR w i))) (nI (i + 1)) (nI k) := by
      rw [f_X11_step_L149.eq_2, show f_X11_of w (nI k) 3 = some (nI L) from (X11_of w (q := 3) hk (by omega)).trans (congrArg some aL), Option.bind_some, br_le_f (by omega) (by omega), show f_X11_of w (nI k) 2 = some (nI G) from (X11_of w (q := 2) hk (by omega)).trans (congrArg some aG), Option.bind_some, gd_in (by omega) (by omega), show (553 : Int32) + nI G = nI (553 + G) from nI_add 553 _, nI_add, gd_in (by omega) (by omega), nI_clamp (by omega), nI_clamp (by omega), show nI i + 1 = nI (i + 1) from nI_1 i]
      rfl
    obtain ⟨v, e, v1, v2, v3, v4⟩ := ih (i + 1) fu (sA w (upd (mA w) (553 + G + i) (mR w i))) (by rw [mA_sA, upd_ne _ _ (by omega)]; exact aL) (by rw [mA_sA, upd_ne _ _ (by omega)]; exact aG) (by rw [mA_sA, upd_ne _ _ (by omega)]; exact a551) (by rw [mA_sA, upd_ne _ _ (by omega)]; exact a131) (by omega) (by omega)
    refine ⟨v, step.trans e, fun j h1 h2 h3 => ?_, v2, ?_, fun e h1 h2 => ?_⟩
    · rw [v1 j h1 h2 (by omega), mA_sA, upd_ne _ _ (by omega)]
    · rw [v3]
      split
      · rfl
      · rw [mA_sA, upd_ne _ _ (by omega)]
    · by_cases q : e = i
      · rw [q, v1 _ (by omega) (by omega) (by omega), mA_sA, upd_at]
      · exact v4 e (by omega) h2
theorem m_step {now : TState} {hist : THistory} {mo : TModel} (h : RR now hist mo) (out : Nat → Int64) : OKw (f_L_step now hist out) (f_X11_step mo) := by
  obtain ⟨x, n, f, hn, h1, h2, hI, h3, h4, hf⟩ := id h
  have hw1 := h1.2.2.2.2.2
  have hw2 := h2.2.2.2.2.2
  have hx := X11_works hw2
  by_cases ht : x.2.2.2.2.2.1 = true
  · rw [zI_y ht] at hx
    have hwi := hI.2.2.2.2.2 ht
    have i1 := hI.2.2.1.1
    have i2 := hI.2.2.1.2.1
    have i3 := hI.2.2.1.2.2.1
    have hlc := hwi.2.1
    have a551 : mo.1 551 = nI x.2.2.2.2.2.2.1 := (hw2.2 ht).1
    have b551 : now.2.2.2.2.2.2.2 = nI x.2.2.2.2.2.2.1 := hw1.2.2 ht
    by_cases hl : 0 < x.2.2.2.2.2.2.1
    · have hpi := hI.2.2.2.1 hwi.1
      have hkc : stK x < dC x.2.2.1 := hpi.2.1 _ (by omega)
      have bk := hI.2.2.1.2.2.2.1 _ hkc
      have hnb := hwi.2.2 hl
      obtain ⟨hs, es, hs1⟩ := X4_save hn hI h3 h1
      obtain ⟨r, er, hr, hr2⟩ := X9_carry h1 hI ht hl
      obtain ⟨w', es2, ea, eh, hs2⟩ := X11_saveW (w := sT mo 0) hn hI hf h4 h2
      have ea : mA w' = mA mo := ea
      have h2' : S2 (mA w') x := by rw [ea]; exact h2
      obtain ⟨rd, e95, r1, r2⟩ := step95 hI ht hl hkc (dL x.2.2.1 (stK x)) 0 FUEL w' h2' (Nat.zero_add _) (by show _ < 10000; omega)
      obtain ⟨v, ev, v1, v2, v3, v4⟩ := step149 (k := stK x) (L := dL x.2.2.1 (stK x)) (G := dG x.2.2.1 (stK x)) (l := x.2.2.2.2.2.2.1) (T := dT x.2.2.1) (by omega) (by omega) hl (by omega) (dL x.2.2.1 (stK x)) 0 FUEL (sR w' rd) (by rw [mA_sR]; exact (h2'.2.2.1.2.2.2.1 _ hkc).2.2.2) (by rw [mA_sR]; exact (h2'.2.2.1.2.2.2.1 _ hkc).2.2.1) (by rw [mA_sR, ea]; exact a551) (by rw [mA_sR]; exact h2'.2.2.1.2.1) (Nat.zero_add _) (by show _ < 10000; omega)
      rw [mA_sR, ea] at v1 v3
      refine ⟨0, r, hs, vp_updL out (0 : Int32).toNatClampNeg (nI (x.2.2.2.2.2.2.1 - 1)).toInt64, nI (x.2.2.2.2.2.2.1 - 1), sA (sR w' rd) v, ?_, ?_, eh, fun _ => ?_, ?_⟩
      · unfold f_L_step f_X10_step
        rw [rw_y hw1 ht, b551]
        simp only [br_T, br_F, gd_T, br_00, br_10, Option.bind_some, rx_0, rx_s, el_l, el_r, br_A_A, br_S_S, br_I_I, br_S_A, br_I_A, br_A_I, br_I_S, gd_o, goes_00, goes_01, goes_10, goes_11, zI_t, zI_f, ri_0, ri_1, gd_130, c_130, gd_131, c_131, gd_132, c_132, gd_317, c_317, gd_348, c_348, gd_349, c_349, gd_550, c_550, gd_551, c_551, gd_552, c_552]
        rw [br_ne (nI_ne0 hl (by omega))]
        simp only [br_T, br_F, gd_T, br_00, br_10, Option.bind_some, rx_0, rx_s, el_l, el_r, br_A_A, br_S_S, br_I_I, br_S_A, br_I_A, br_A_I, br_I_S, gd_o, goes_00, goes_01, goes_10, goes_11, zI_t, zI_f, ri_0, ri_1, gd_130, c_130, gd_131, c_131, gd_132, c_132, gd_317, c_317, gd_348, c_348, gd_349, c_349, gd_550, c_550, gd_551, c_551, gd_552, c_552, es, er, hr2]
      · unfold f_X11_step f_X11_step_J24
        rw [hx]
        simp only [br_T, br_F, gd_T, br_00, br_10, Option.bind_some, rx_0, rx_s, el_l, el_r, br_A_A, br_S_S, br_I_I, br_S_A, br_I_A, br_A_I, br_I_S, gd_o, goes_00, goes_01, goes_10, goes_11, zI_t, zI_f, ri_0, ri_1, gd_130, c_130, gd_131, c_131, gd_132, c_132, gd_317, c_317, gd_348, c_348, gd_349, c_349, gd_550, c_550, gd_551, c_551, gd_552, c_552, a551]
        rw [br_ne (nI_nle hl (by omega))]
        simp only [br_T, br_F, gd_T, br_00, br_10, Option.bind_some, rx_0, rx_s, el_l, el_r, br_A_A, br_S_S, br_I_I, br_S_A, br_I_A, br_A_I, br_I_S, gd_o, goes_00, goes_01, goes_10, goes_11, zI_t, zI_f, ri_0, ri_1, gd_130, c_130, gd_131, c_131, gd_132, c_132, gd_317, c_317, gd_348, c_348, gd_349, c_349, gd_550, c_550, gd_551, c_551, gd_552, c_552, es2, show w'.1 = mA mo from ea]
        rw [show mA mo 132 = nI (dC x.2.2.1) from h2.2.2.1.2.2.1, show mA mo 551 = nI x.2.2.2.2.2.2.1 from a551, show (318 : Int32) + nI (dC x.2.2.1) = nI (318 + dC x.2.2.1) from nI_add 318 _, nI_sb (by omega), gd_in (by omega) (by omega), nI_clamp (by omega), nm_eq, show mA mo (318 + dC x.2.2.1 - x.2.2.2.2.2.2.1) = nI (stK x) by rw [show 318 + dC x.2.2.1 - x.2.2.2.2.2.2.1 = 318 + (dC x.2.2.1 - x.2.2.2.2.2.2.1) by omega]; exact (h2.2.2.2.1.2 hwi.1).1 _ (by omega), X11_isC h2'.2.2.1 i1 hkc, Option.bind_some, br_z0, show mA mo 348 = bm x.2.2.2.1.2.2 (dC x.2.2.1) from (h2.2.2.2.1.2 hwi.1).2, bm_z1 i1 hkc, br_z0]
        have fin : f_X11_step_J92 w' (nI (stK x)) (zI (whl x (stK x))) = some (nI (x.2.2.2.2.2.2.1 - 1), sA (sR w' rd) v) := by
          unfold f_X11_step_J92
          exact e95.trans ev
        unfold f_X11_step_J91
        unfold whl at fin
        cases hK : dK x.2.2.1 (stK x)
        · rw [hK] at fin; exact fin
        · rw [hK] at fin
          cases hV : x.2.2.2.1.2.2 (stK x)
          · rw [hV] at fin; exact fin
          · rw [hV] at fin; exact fin
      · rw [out0]
      · have hv : ∀ k, k < 551 → mA mo k = v k := fun k hk => (v1 k (by omega) (by omega) (by omega)).symm
        obtain ⟨g1, g2, g3, g4, g5, g6⟩ := h2
        refine ⟨xstep x, nS n, fS n f x, nS_le hn, hr, ⟨B2_cong (hv _ (by omega)) (fun k _ _ => hv k (by omega)) g1, B2_cong (hv _ (by omega)) (fun k _ _ => hv k (by omega)) g2, D2_cong hI.2.2.1 (fun k _ _ => hv k (by omega)) g3, P2_cong hI.2.2.1.1 (fun k _ _ => hv k (by omega)) g4, B2_cong (hv _ (by omega)) (fun k _ _ => hv k (by omega)) g5, ⟨?_, fun _ => ⟨v2, ?_, ?_, fun i hi => ?_⟩⟩⟩, ⟨hI.1, hI.2.1, hI.2.2.1, hI.2.2.2.1, hI.2.2.2.2.1, fun _ => ⟨hwi.1, ?_, fun q => ?_⟩⟩, hs1, hs2, fS_I hn hI hf⟩
        · show v 550 = _
          rw [← hv 550 (by omega), show mA mo 550 = zI x.2.2.2.2.2.1 from g6.1, ht]; rfl
        · show v 552 = nI (if x.2.2.2.2.2.2.1 = 1 then dT x.2.2.1 else x.2.2.2.2.2.2.2.2)
          rw [v3, show mA mo 552 = nI x.2.2.2.2.2.2.2.2 from (g6.2 ht).2.1]
          split <;> rfl
        · show (if x.2.2.2.2.2.2.1 = 1 then dT x.2.2.1 else x.2.2.2.2.2.2.2.2) ≤ 64
          have := (g6.2 ht).2.2.1
          split <;> omega
        · have hi : i < (if x.2.2.2.2.2.2.1 = 1 then dT x.2.2.1 else x.2.2.2.2.2.2.2.2) := hi
          have hi2 : i < x.2.2.2.2.2.2.2.2 := by split at hi <;> omega
          show v (553 + i) = fb_put x.2.2.2.2.2.2.2.1 (stW x (stK x)) (dG x.2.2.1 (stK x)) (dL x.2.2.1 (stK x)) i
          by_cases q : dG x.2.2.1 (stK x) ≤ i ∧ i < dG x.2.2.1 (stK x) + dL x.2.2.1 (stK x)
          · rw [fb_put_in q.1 q.2]
            have e4 := v4 (i - dG x.2.2.1 (stK x)) (by omega) (by omega)
            rw [show 553 + dG x.2.2.1 (stK x) + (i - dG x.2.2.1 (stK x)) = 553 + i by omega] at e4
            rw [e4]
            exact r2 _ (by omega) (by omega)
          · rw [fb_put_out (by omega), v1 _ (by omega) (by omega) (by omega)]
            exact (g6.2 ht).2.2.2 i hi2
        · show x.2.2.2.2.2.2.1 - 1 ≤ dC x.2.2.1
          omega
        · have q : 0 < x.2.2.2.2.2.2.1 - 1 := q
          show dS x.2.2.1 ≤ (if x.2.2.2.2.2.2.1 = 1 then dT x.2.2.1 else x.2.2.2.2.2.2.2.2) ∧ dT x.2.2.1 ≤ (if x.2.2.2.2.2.2.1 = 1 then dT x.2.2.1 else x.2.2.2.2.2.2.2.2)
          rw [if_neg (by omega)]
          exact hnb
    · have hl0 : x.2.2.2.2.2.2.1 = 0 := by omega
      refine okw_t h (out := out) (b := 0) (t := 1) ?_ ?_ (by decide)
      · unfold f_L_step f_X10_step
        rw [rw_y hw1 ht, b551]
        simp only [br_T, br_F, gd_T, br_00, br_10, Option.bind_some, rx_0, rx_s, el_l, el_r, br_A_A, br_S_S, br_I_I, br_S_A, br_I_A, br_A_I, br_I_S, gd_o, goes_00, goes_01, goes_10, goes_11, zI_t, zI_f, ri_0, ri_1, gd_130, c_130, gd_131, c_131, gd_132, c_132, gd_317, c_317, gd_348, c_348, gd_349, c_349, gd_550, c_550, gd_551, c_551, gd_552, c_552]
        rw [br_eq (show nI x.2.2.2.2.2.2.1 = 0 by rw [hl0]; rfl)]
        simp only [br_T, br_F, gd_T, br_00, br_10, Option.bind_some, rx_0, rx_s, el_l, el_r, br_A_A, br_S_S, br_I_I, br_S_A, br_I_A, br_A_I, br_I_S, gd_o, goes_00, goes_01, goes_10, goes_11, zI_t, zI_f, ri_0, ri_1, gd_130, c_130, gd_131, c_131, gd_132, c_132, gd_317, c_317, gd_348, c_348, gd_349, c_349, gd_550, c_550, gd_551, c_551, gd_552, c_552]
      · unfold f_X11_step f_X11_step_J23 f_X11_step_J24
        rw [hx]
        simp only [br_T, br_F, gd_T, br_00, br_10, Option.bind_some, rx_0, rx_s, el_l, el_r, br_A_A, br_S_S, br_I_I, br_S_A, br_I_A, br_A_I, br_I_S, gd_o, goes_00, goes_01, goes_10, goes_11, zI_t, zI_f, ri_0, ri_1, gd_130, c_130, gd_131, c_131, gd_132, c_132, gd_317, c_317, gd_348, c_348, gd_349, c_349, gd_550, c_550, gd_551, c_551, gd_552, c_552, a551]
        rw [br_eq (show nI x.2.2.2.2.2.2.1 ≤ 0 by rw [hl0]; decide)]
  · refine okw_t h (out := out) (b := 0) (t := 1) ?_ ?_ (by decide)
    · unfold f_L_step f_X10_step
      simp only [br_T, br_F, gd_T, br_00, br_10, Option.bind_some, rx_0, rx_s, el_l, el_r, br_A_A, br_S_S, br_I_I, br_S_A, br_I_A, br_A_I, br_I_S, gd_o, goes_00, goes_01, goes_10, goes_11, zI_t, zI_f, ri_0, ri_1, gd_130, c_130, gd_131, c_131, gd_132, c_132, gd_317, c_317, gd_348, c_348, gd_349, c_349, gd_550, c_550, gd_551, c_551, gd_552, c_552, rw_n hw1 ht]
    · unfold f_X11_step f_X11_step_J23 f_X11_step_J24
      rw [zI_n ht] at hx
      rw [hx]
      simp only [br_T, br_F, gd_T, br_00, br_10, Option.bind_some, rx_0, rx_s, el_l, el_r, br_A_A, br_S_S, br_I_I, br_S_A, br_I_A, br_A_I, br_I_S, gd_o, goes_00, goes_01, goes_10, goes_11, zI_t, zI_f, ri_0, ri_1, gd_130, c_130, gd_131, c_131, gd_132, c_132, gd_317, c_317, gd_348, c_348, gd_349, c_349, gd_550, c_550, gd_551, c_551, gd_552, c_552]
