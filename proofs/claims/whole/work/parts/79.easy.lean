/-! code, work's bytes, commands, plan's questions, undo, ratio -/
theorem ril_y {p : Int32} (h : (-1 : Int32) ≤ p) : f_X10_requireIndexOrLength p = some none := br_eq h
theorem ril_n {p : Int32} (h : ¬ (-1 : Int32) ≤ p) : f_X10_requireIndexOrLength p = some (some "java/lang/IllegalArgumentException") := br_ne h
theorem aol {cap : Nat} (hc : cap < 2147483648) {w : TBytes} {x : XB} (h : B1 cap w x) {p : Int32} (hp : (-1 : Int32) ≤ p) : (p = -1 ∧ f_X0_atOrLength cap w p = some (nI x.2)) ∨ (∃ j, j < x.2 ∧ p = nI j ∧ f_X0_atOrLength cap w p = some (x.1 j)) ∨ (∃ j, x.2 ≤ j ∧ j < 2147483648 ∧ p = nI j ∧ f_X0_atOrLength cap w p = some (-1)) := by
  unfold f_X0_atOrLength
  by_cases e : p = -1
  · exact Or.inl ⟨e, by rw [br_eq e, h.1]⟩
  · have h0 : ¬ p < 0 := by
      intro q
      rw [fa_lt] at q
      rw [fa_le] at hp
      rw [fa_eq] at e
      rw [show (-1 : Int32).toInt = -1 from by decide] at hp e
      rw [show (0 : Int32).toInt = 0 from by decide] at q
      omega
    obtain ⟨j, hj, rfl⟩ := nI_of h0
    rw [br_ne e]
    by_cases q : j < x.2
    · exact Or.inr (Or.inl ⟨j, q, rfl, by rw [X0_at hc h q]; rfl⟩)
    · exact Or.inr (Or.inr ⟨j, by omega, hj, rfl, by rw [X0_no hc h (by omega) hj]; rfl⟩)
def xcode (x : XS) (y : XB) : XS := (x.1, x.2.1, x.2.2.1, x.2.2.2.1, y, x.2.2.2.2.2)
theorem RR_code {x : XS} {n : Nat} {f : Nat → XS} {hs : THistory} {d : TState} {r : TBytes} {y : XB} {mo w : TModel} {a' : Nat → Int32} (hn : n ≤ 4) (hI : SI x) (hf : ∀ j, j < n → SI (f j)) (hd : S1 d x) (hr : B1 200 r y) (hs1 : H1 hs (nS n) (fS n f x)) (hs2 : H2 w (nS n) (fS n f x)) (h2 : S2 (mA mo) x) (hy : BI y) (ha : ∀ k, (k < 349 ∨ 550 ≤ k) → mA mo k = a' k) (hb : a' 349 = nI y.2) (hi : ∀ i, i < y.2 → a' (350 + i) = y.1 i) : RR (d.1, d.2.1, d.2.2.1, d.2.2.2.1, r, d.2.2.2.2.2) hs (sA w a') := by
  refine ⟨xcode x y, nS n, fS n f x, nS_le hn, ⟨hd.1, hd.2.1, hd.2.2.1, hd.2.2.2.1, hr, hd.2.2.2.2.2⟩, ?_, ⟨hI.1, hI.2.1, hI.2.2.1, hI.2.2.2.1, hy, hI.2.2.2.2.2⟩, hs1, hs2, fS_I hn hI hf⟩
  obtain ⟨h1, h2, h3, h4, h5, h6⟩ := h2
  exact ⟨B2_cong (ha _ (by omega)) (fun k _ _ => ha k (by omega)) h1, B2_cong (ha _ (by omega)) (fun k _ _ => ha k (by omega)) h2, D2_cong hI.2.2.1 (fun k _ _ => ha k (by omega)) h3, P2_cong hI.2.2.1.1 (fun k _ _ => ha k (by omega)) h4, ⟨hb, hr.2.1, hi⟩, W2_cong (fun k _ _ => ha k (by omega)) h6⟩
theorem m_write {now : TState} {hist : THistory} {mo : TModel} (h : RR now hist mo) (out : Nat → Int64) (p1 : Int32) : OKw (f_L_write now hist out p1) (f_X11_write mo p1) := by
  obtain ⟨x, n, f, hn, h1, h2, hI, h3, h4, hf⟩ := id h
  have b1 := h1.2.2.2.2.1
  have b2 := h2.2.2.2.2.1
  have b20 : mo.1 349 = nI x.2.2.2.2.1.2 := b2.1
  have b200 := b2.2.1
  by_cases hb : isB p1
  · by_cases hF : 200 ≤ x.2.2.2.2.1.2
    · refine okw_t h (out := out) (b := 0) (t := 2) ?_ ?_ (by decide)
      · unfold f_L_write f_X10_write
        rw [rb_yes hb, X0_isFull (by decide) b1, decide_eq_true hF]
        simp only [br_T, br_F, gd_T, br_00, br_10, Option.bind_some, rx_0, rx_s, el_l, el_r, br_A_A, br_S_S, br_I_I, br_S_A, br_I_A, br_A_I, br_I_S, gd_o, goes_00, goes_01, goes_10, goes_11, zI_t, zI_f, ri_0, ri_1, gd_130, c_130, gd_131, c_131, gd_132, c_132, gd_317, c_317, gd_348, c_348, gd_349, c_349, gd_550, c_550, gd_551, c_551, gd_552, c_552]
      · unfold f_X11_write f_X11_write_J24
        simp only [br_T, br_F, gd_T, br_00, br_10, Option.bind_some, rx_0, rx_s, el_l, el_r, br_A_A, br_S_S, br_I_I, br_S_A, br_I_A, br_A_I, br_I_S, gd_o, goes_00, goes_01, goes_10, goes_11, zI_t, zI_f, ri_0, ri_1, gd_130, c_130, gd_131, c_131, gd_132, c_132, gd_317, c_317, gd_348, c_348, gd_349, c_349, gd_550, c_550, gd_551, c_551, gd_552, c_552, isB_yes hb, b20]
        rw [br_eq (show (200 : Int32) ≤ nI x.2.2.2.2.1.2 from nI_le (a := 200) hF (by omega))]
    · obtain ⟨hs, es, hs1⟩ := X4_save hn hI h3 h1
      obtain ⟨r, er, hr⟩ := X0_push (by decide) b1 (show x.2.2.2.2.1.2 < 200 by omega) p1
      obtain ⟨w', es2, ea, eh, hs2⟩ := X11_saveW (w := sT mo 0) hn hI hf h4 h2
      have ea : mA w' = mA mo := ea
      have er2 : r.2 = nI (x.2.2.2.2.1.2 + 1) := hr.1
      refine ⟨0, (now.1, now.2.1, now.2.2.1, now.2.2.2.1, r, now.2.2.2.2.2), hs, vp_updL out (0 : Int32).toNatClampNeg (nI (x.2.2.2.2.1.2 + 1)).toInt64, nI (x.2.2.2.2.1.2 + 1), sA w' (upd (upd (mA mo) (350 + x.2.2.2.2.1.2) p1) 349 (nI (x.2.2.2.2.1.2 + 1))), ?_, ?_, eh, fun _ => ?_, ?_⟩
      · unfold f_L_write f_X10_write
        rw [rb_yes hb, X0_isFull (by decide) b1, decide_eq_false hF]
        simp only [br_T, br_F, gd_T, br_00, br_10, Option.bind_some, rx_0, rx_s, el_l, el_r, br_A_A, br_S_S, br_I_I, br_S_A, br_I_A, br_A_I, br_I_S, gd_o, goes_00, goes_01, goes_10, goes_11, zI_t, zI_f, ri_0, ri_1, gd_130, c_130, gd_131, c_131, gd_132, c_132, gd_317, c_317, gd_348, c_348, gd_349, c_349, gd_550, c_550, gd_551, c_551, gd_552, c_552, es, er, er2]
      · unfold f_X11_write f_X11_write_J24
        simp only [br_T, br_F, gd_T, br_00, br_10, Option.bind_some, rx_0, rx_s, el_l, el_r, br_A_A, br_S_S, br_I_I, br_S_A, br_I_A, br_A_I, br_I_S, gd_o, goes_00, goes_01, goes_10, goes_11, zI_t, zI_f, ri_0, ri_1, gd_130, c_130, gd_131, c_131, gd_132, c_132, gd_317, c_317, gd_348, c_348, gd_349, c_349, gd_550, c_550, gd_551, c_551, gd_552, c_552, isB_yes hb, b20]
        rw [br_ne (show ¬ (200 : Int32) ≤ nI x.2.2.2.2.1.2 from nI_ge (b := 200) (by omega) (by omega))]
        simp only [br_T, br_F, gd_T, br_00, br_10, Option.bind_some, rx_0, rx_s, el_l, el_r, br_A_A, br_S_S, br_I_I, br_S_A, br_I_A, br_A_I, br_I_S, gd_o, goes_00, goes_01, goes_10, goes_11, zI_t, zI_f, ri_0, ri_1, gd_130, c_130, gd_131, c_131, gd_132, c_132, gd_317, c_317, gd_348, c_348, gd_349, c_349, gd_550, c_550, gd_551, c_551, gd_552, c_552, es2, show w'.1 = mA mo from ea, show mA mo 349 = nI x.2.2.2.2.1.2 from b20]
        simp (disch := omega) only [br_T, br_F, gd_T, br_le_t, br_le_f, br_lt_t, br_lt_f, br_eq_t, br_eq_f, br_m1, br_rf, br_0m, gd_in, gd_01, nI_add, nI_sb, pk_mul, nI_clamp, nm_eq, Option.bind_some, l_0, l_1, l_2, l_3, l_4, l_5, l_12, l_30, l_64, l_73, l_130, l_131, l_132, l_133, l_200, l_251, l_253, l_255, l_317, l_318, l_348, l_349, l_350, l_550, l_551, l_552, l_553, l_617, l_1851]
        rw [upd_at, upd_ne _ _ (show 349 ≠ 350 + x.2.2.2.2.1.2 by omega), show mA mo 349 = nI x.2.2.2.2.1.2 from b20, nI_add]
        rfl
      · rw [out0]
      · refine RR_code hn hI hf h1 hr hs1 hs2 h2 (fun i hi => ?_) (fun k hk => ?_) ?_ (fun i hi => ?_)
        · show isB (if i = x.2.2.2.2.1.2 then p1 else x.2.2.2.2.1.1 i)
          have hi : i < x.2.2.2.2.1.2 + 1 := hi
          split
          · exact hb
          · exact hI.2.2.2.2.1 i (by omega)
        · rw [upd_ne _ _ (by omega), upd_ne _ _ (by omega)]
        · exact upd_at _ _ _
        · have hi : i < x.2.2.2.2.1.2 + 1 := hi
          show _ = if i = x.2.2.2.2.1.2 then p1 else x.2.2.2.2.1.1 i
          rw [upd_ne _ _ (by omega)]
          by_cases e : i = x.2.2.2.2.1.2
          · rw [if_pos e, e, upd_at]
          · rw [if_neg e, upd_ne _ _ (by omega)]; exact b2.2.2 i (by omega)
  · refine okw_t h (out := out) (b := 0) (t := 1) ?_ ?_ (by decide)
    · unfold f_L_write f_X10_write
      simp only [br_T, br_F, gd_T, br_00, br_10, Option.bind_some, rx_0, rx_s, el_l, el_r, br_A_A, br_S_S, br_I_I, br_S_A, br_I_A, br_A_I, br_I_S, gd_o, goes_00, goes_01, goes_10, goes_11, zI_t, zI_f, ri_0, ri_1, gd_130, c_130, gd_131, c_131, gd_132, c_132, gd_317, c_317, gd_348, c_348, gd_349, c_349, gd_550, c_550, gd_551, c_551, gd_552, c_552, rb_no hb]
    · unfold f_X11_write f_X11_write_J24
      simp only [br_T, br_F, gd_T, br_00, br_10, Option.bind_some, rx_0, rx_s, el_l, el_r, br_A_A, br_S_S, br_I_I, br_S_A, br_I_A, br_A_I, br_I_S, gd_o, goes_00, goes_01, goes_10, goes_11, zI_t, zI_f, ri_0, ri_1, gd_130, c_130, gd_131, c_131, gd_132, c_132, gd_317, c_317, gd_348, c_348, gd_349, c_349, gd_550, c_550, gd_551, c_551, gd_552, c_552, isB_no hb]
      by_cases q : (200 : Int32) ≤ mo.1 349
      · rw [br_eq q]
      · rw [br_ne q]
def OKp (A : Option (Int32 × TState × THistory)) (B : Option (Int32 × TModel)) : Prop := ∃ v now' hist' mo', A = some (v, now', hist') ∧ B = some (v, mo') ∧ RR now' hist' mo'
theorem m_clearCode {now : TState} {hist : THistory} {mo : TModel} (h : RR now hist mo) : OKp (f_X10_clearCode now hist) (f_X11_clearCode mo) := by
  obtain ⟨x, n, f, hn, h1, h2, hI, h3, h4, hf⟩ := id h
  have b1 := h1.2.2.2.2.1
  have b2 := h2.2.2.2.2.1
  obtain ⟨hs, es, hs1⟩ := X4_save hn hI h3 h1
  obtain ⟨r, er, hr⟩ := X0_cut (by decide) b1 (m := 0) (by decide)
  have er : f_X0_cut 200 now.2.2.2.2.1 0 = some r := er
  obtain ⟨w', es2, ea, eh, hs2⟩ := X11_saveW (w := sT mo 0) hn hI hf h4 h2
  have ea : mA w' = mA mo := ea
  refine ⟨nI x.2.2.2.2.1.2, (now.1, now.2.1, now.2.2.1, now.2.2.2.1, r, now.2.2.2.2.2), hs, sA w' (upd (mA mo) 349 0), ?_, ?_, ?_⟩
  · unfold f_X10_clearCode
    simp only [br_T, br_F, gd_T, br_00, br_10, Option.bind_some, rx_0, rx_s, el_l, el_r, br_A_A, br_S_S, br_I_I, br_S_A, br_I_A, br_A_I, br_I_S, gd_o, goes_00, goes_01, goes_10, goes_11, zI_t, zI_f, ri_0, ri_1, gd_130, c_130, gd_131, c_131, gd_132, c_132, gd_317, c_317, gd_348, c_348, gd_349, c_349, gd_550, c_550, gd_551, c_551, gd_552, c_552, es, er, b1.1]
  · unfold f_X11_clearCode
    have es3 : f_X11_save (w0 := (mo.1, mo.2.1, mo.2.2.1, (0 : Int32), mo.2.2.2.2)) = some w' := es2
    rw [show f_X11_save (mo.1, mo.2.1, mo.2.2.1, (0 : Int32), mo.2.2.2.2.1, mo.2.2.2.2.2.1, mo.2.2.2.2.2.2.1, mo.2.2.2.2.2.2.2.1, mo.2.2.2.2.2.2.2.2.1, mo.2.2.2.2.2.2.2.2.2.1, mo.2.2.2.2.2.2.2.2.2.2.1, mo.2.2.2.2.2.2.2.2.2.2.2.1, mo.2.2.2.2.2.2.2.2.2.2.2.2.1, mo.2.2.2.2.2.2.2.2.2.2.2.2.2) = some w' from es2]
    simp only [br_T, br_F, gd_T, br_00, br_10, Option.bind_some, rx_0, rx_s, el_l, el_r, br_A_A, br_S_S, br_I_I, br_S_A, br_I_A, br_A_I, br_I_S, gd_o, goes_00, goes_01, goes_10, goes_11, zI_t, zI_f, ri_0, ri_1, gd_130, c_130, gd_131, c_131, gd_132, c_132, gd_317, c_317, gd_348, c_348, gd_349, c_349, gd_550, c_550, gd_551, c_551, gd_552, c_552, show w'.1 = mA mo from ea]
    rw [show mA mo 349 = nI x.2.2.2.2.1.2 from b2.1]
    rfl
  · refine RR_code hn hI hf h1 hr hs1 hs2 h2 (fun i hi => ?_) (fun k hk => ?_) ?_ (fun i hi => ?_)
    · have hi : i < min x.2.2.2.2.1.2 0 := hi
      omega
    · rw [upd_ne _ _ (by omega)]
    · rw [upd_at]
      show (0 : Int32) = nI (min x.2.2.2.2.1.2 0)
      rw [Nat.min_zero]; rfl
    · have hi : i < min x.2.2.2.2.1.2 0 := hi
      omega
theorem not_m1 {p : Int32} (h : (-1 : Int32) ≤ p) : ¬ p < (-1 : Int32) := Int32.not_lt.mpr h
theorem m_code {now : TState} {hist : THistory} {mo : TModel} (h : RR now hist mo) (out : Nat → Int64) (p1 : Int32) : OKr now hist (f_L_code now out p1) (f_X11_code mo p1) := by
  obtain ⟨x, n, f, hn, h1, h2, hI, h3, h4, hf⟩ := id h
  have b2 := h2.2.2.2.2.1
  have b20 : (sT mo 0).1 349 = nI x.2.2.2.2.1.2 := b2.1
  have b200 := b2.2.1
  by_cases hp : (-1 : Int32) ≤ p1
  · rcases aol (by decide) h1.2.2.2.2.1 hp with ⟨e, ea⟩ | ⟨j, hj, e, ea⟩ | ⟨j, hj, hj2, e, ea⟩
    · refine okr_d h (out := out) (v := nI x.2.2.2.2.1.2) ?_ ?_
      · unfold f_L_code f_X10_code
        simp only [br_T, br_F, gd_T, br_00, br_10, Option.bind_some, rx_0, rx_s, el_l, el_r, br_A_A, br_S_S, br_I_I, br_S_A, br_I_A, br_A_I, br_I_S, gd_o, goes_00, goes_01, goes_10, goes_11, zI_t, zI_f, ri_0, ri_1, gd_130, c_130, gd_131, c_131, gd_132, c_132, gd_317, c_317, gd_348, c_348, gd_349, c_349, gd_550, c_550, gd_551, c_551, gd_552, c_552, ril_y hp, ea]
      · unfold f_X11_code f_X11_code_J11
        rw [br_ne (not_m1 hp)]
        simp only [br_T, br_F, gd_T, br_00, br_10, Option.bind_some, rx_0, rx_s, el_l, el_r, br_A_A, br_S_S, br_I_I, br_S_A, br_I_A, br_A_I, br_I_S, gd_o, goes_00, goes_01, goes_10, goes_11, zI_t, zI_f, ri_0, ri_1, gd_130, c_130, gd_131, c_131, gd_132, c_132, gd_317, c_317, gd_348, c_348, gd_349, c_349, gd_550, c_550, gd_551, c_551, gd_552, c_552, b20]
        rw [br_eq e]
    · refine okr_d h (out := out) (v := x.2.2.2.2.1.1 j) ?_ ?_
      · unfold f_L_code f_X10_code
        simp only [br_T, br_F, gd_T, br_00, br_10, Option.bind_some, rx_0, rx_s, el_l, el_r, br_A_A, br_S_S, br_I_I, br_S_A, br_I_A, br_A_I, br_I_S, gd_o, goes_00, goes_01, goes_10, goes_11, zI_t, zI_f, ri_0, ri_1, gd_130, c_130, gd_131, c_131, gd_132, c_132, gd_317, c_317, gd_348, c_348, gd_349, c_349, gd_550, c_550, gd_551, c_551, gd_552, c_552, ril_y hp, ea]
      · unfold f_X11_code f_X11_code_J11
        rw [br_ne (not_m1 hp)]
        simp only [br_T, br_F, gd_T, br_00, br_10, Option.bind_some, rx_0, rx_s, el_l, el_r, br_A_A, br_S_S, br_I_I, br_S_A, br_I_A, br_A_I, br_I_S, gd_o, goes_00, goes_01, goes_10, goes_11, zI_t, zI_f, ri_0, ri_1, gd_130, c_130, gd_131, c_131, gd_132, c_132, gd_317, c_317, gd_348, c_348, gd_349, c_349, gd_550, c_550, gd_551, c_551, gd_552, c_552, b20]
        subst e
        rw [br_m1 (by omega), br_le_f (by omega) (by omega)]
        simp (disch := omega) only [br_T, br_F, gd_T, br_le_t, br_le_f, br_lt_t, br_lt_f, br_eq_t, br_eq_f, br_m1, br_rf, br_0m, gd_in, gd_01, nI_add, nI_sb, pk_mul, nI_clamp, nm_eq, Option.bind_some, l_0, l_1, l_2, l_3, l_4, l_5, l_12, l_30, l_64, l_73, l_130, l_131, l_132, l_133, l_200, l_251, l_253, l_255, l_317, l_318, l_348, l_349, l_350, l_550, l_551, l_552, l_553, l_617, l_1851]
        exact congrArg (fun z => some (z, _)) (b2.2.2 j hj)
    · refine okr_d h (out := out) (v := -1) ?_ ?_
      · unfold f_L_code f_X10_code
        simp only [br_T, br_F, gd_T, br_00, br_10, Option.bind_some, rx_0, rx_s, el_l, el_r, br_A_A, br_S_S, br_I_I, br_S_A, br_I_A, br_A_I, br_I_S, gd_o, goes_00, goes_01, goes_10, goes_11, zI_t, zI_f, ri_0, ri_1, gd_130, c_130, gd_131, c_131, gd_132, c_132, gd_317, c_317, gd_348, c_348, gd_349, c_349, gd_550, c_550, gd_551, c_551, gd_552, c_552, ril_y hp, ea]
      · unfold f_X11_code f_X11_code_J11
        rw [br_ne (not_m1 hp)]
        simp only [br_T, br_F, gd_T, br_00, br_10, Option.bind_some, rx_0, rx_s, el_l, el_r, br_A_A, br_S_S, br_I_I, br_S_A, br_I_A, br_A_I, br_I_S, gd_o, goes_00, goes_01, goes_10, goes_11, zI_t, zI_f, ri_0, ri_1, gd_130, c_130, gd_131, c_131, gd_132, c_132, gd_317, c_317, gd_348, c_348, gd_349, c_349, gd_550, c_550, gd_551, c_551, gd_552, c_552, b20]
        subst e
        rw [br_m1 (by omega), br_le_t (by omega) (by omega)]
  · refine okr_t h (out := out) (b := 0) (t := 1) ?_ ?_ (by decide)
    · unfold f_L_code f_X10_code
      simp only [br_T, br_F, gd_T, br_00, br_10, Option.bind_some, rx_0, rx_s, el_l, el_r, br_A_A, br_S_S, br_I_I, br_S_A, br_I_A, br_A_I, br_I_S, gd_o, goes_00, goes_01, goes_10, goes_11, zI_t, zI_f, ri_0, ri_1, gd_130, c_130, gd_131, c_131, gd_132, c_132, gd_317, c_317, gd_348, c_348, gd_349, c_349, gd_550, c_550, gd_551, c_551, gd_552, c_552, ril_n hp]
    · unfold f_X11_code f_X11_code_J11
      rw [br_eq (Int32.not_le.mp hp)]
      simp only [br_T, br_F, gd_T, br_00, br_10, Option.bind_some, rx_0, rx_s, el_l, el_r, br_A_A, br_S_S, br_I_I, br_S_A, br_I_A, br_A_I, br_I_S, gd_o, goes_00, goes_01, goes_10, goes_11, zI_t, zI_f, ri_0, ri_1, gd_130, c_130, gd_131, c_131, gd_132, c_132, gd_317, c_317, gd_348, c_348, gd_349, c_349, gd_550, c_550, gd_551, c_551, gd_552, c_552]
