theorem zI_y {b : Bool} (e : b = true) : zI b = 1 := by rw [e]; rfl
theorem zI_n {b : Bool} (e : ¬ b = true) : zI b = 0 := by cases b; rfl; exact absurd rfl e
theorem X11_works {w : TModel} {y : XW} (h : W2 (mA w) y) : f_X11_works w = some (zI y.1) := by
  unfold f_X11_works
  rw [gd_550, c_550, show w.1 550 = zI y.1 from h.1, br_z1]
  cases y.1 <;> rfl
theorem X11_isPlanned {w : TModel} {x : XD} {y : XP} (h : P2 (mA w) x y) : f_X11_isPlanned w = some (zI y.1) := by
  unfold f_X11_isPlanned
  rw [gd_317, c_317, show w.1 317 = zI y.1 from h.1, br_z1]
  cases y.1 <;> rfl
theorem rw_y {now : TState} {y : XW} (h : W1 now.2.2.2.2.2 y) (e : y.1 = true) : f_X10_requireWork now = some none := by
  unfold f_X10_requireWork
  rw [h.1, e, br_z0]; rfl
theorem rw_n {now : TState} {y : XW} (h : W1 now.2.2.2.2.2 y) (e : ¬ y.1 = true) : f_X10_requireWork now = some (some "java/lang/IllegalStateException") := by
  unfold f_X10_requireWork
  rw [h.1, zI_n e, br_00]
theorem rp_y {now : TState} {x : XD} {y : XP} (h : P1 now.2.2.2.1 x y) (e : y.1 = true) : f_X10_requirePlan now = some none := by
  unfold f_X10_requirePlan
  rw [h.1, e, br_z0]; rfl
theorem rp_n {now : TState} {x : XD} {y : XP} (h : P1 now.2.2.2.1 x y) (e : ¬ y.1 = true) : f_X10_requirePlan now = some (some "java/lang/IllegalStateException") := by
  unfold f_X10_requirePlan
  rw [h.1, zI_n e, br_00]
theorem m_workByte {now : TState} {hist : THistory} {mo : TModel} (h : RR now hist mo) (out : Nat → Int64) (p1 : Int32) : OKr now hist (f_L_workByte now out p1) (f_X11_workByte mo p1) := by
  obtain ⟨x, n, f, hn, h1, h2, hI, h3, h4, hf⟩ := id h
  have hw := h2.2.2.2.2.2
  have hw1 := h1.2.2.2.2.2
  have hx := X11_works hw
  by_cases hp : (-1 : Int32) ≤ p1
  · by_cases ht : x.2.2.2.2.2.1 = true
    · have b2 := (hw.2 ht).2
      have b20 : (sT mo 0).1 552 = nI x.2.2.2.2.2.2.2.2 := b2.1
      have b64 := b2.2.1
      rw [zI_y ht] at hx
      rcases aol (by decide) hw1.2.1 hp with ⟨e, ea⟩ | ⟨j, hj, e, ea⟩ | ⟨j, hj, hj2, e, ea⟩
      · refine okr_d h (out := out) (v := nI x.2.2.2.2.2.2.2.2) ?_ ?_
        · unfold f_L_workByte f_X10_workByte
          simp only [br_T, br_F, gd_T, br_00, br_10, Option.bind_some, rx_0, rx_s, el_l, el_r, br_A_A, br_S_S, br_I_I, br_S_A, br_I_A, br_A_I, br_I_S, gd_o, goes_00, goes_01, goes_10, goes_11, zI_t, zI_f, ri_0, ri_1, gd_130, c_130, gd_131, c_131, gd_132, c_132, gd_317, c_317, gd_348, c_348, gd_349, c_349, gd_550, c_550, gd_551, c_551, gd_552, c_552, ril_y hp, ea, rw_y hw1 ht]
        · unfold f_X11_workByte f_X11_workByte_J11
          rw [br_ne (not_m1 hp)]
          simp only [br_T, br_F, gd_T, br_00, br_10, Option.bind_some, rx_0, rx_s, el_l, el_r, br_A_A, br_S_S, br_I_I, br_S_A, br_I_A, br_A_I, br_I_S, gd_o, goes_00, goes_01, goes_10, goes_11, zI_t, zI_f, ri_0, ri_1, gd_130, c_130, gd_131, c_131, gd_132, c_132, gd_317, c_317, gd_348, c_348, gd_349, c_349, gd_550, c_550, gd_551, c_551, gd_552, c_552, b20, hx]
          rw [br_eq e]
      · refine okr_d h (out := out) (v := x.2.2.2.2.2.2.2.1 j) ?_ ?_
        · unfold f_L_workByte f_X10_workByte
          simp only [br_T, br_F, gd_T, br_00, br_10, Option.bind_some, rx_0, rx_s, el_l, el_r, br_A_A, br_S_S, br_I_I, br_S_A, br_I_A, br_A_I, br_I_S, gd_o, goes_00, goes_01, goes_10, goes_11, zI_t, zI_f, ri_0, ri_1, gd_130, c_130, gd_131, c_131, gd_132, c_132, gd_317, c_317, gd_348, c_348, gd_349, c_349, gd_550, c_550, gd_551, c_551, gd_552, c_552, ril_y hp, ea, rw_y hw1 ht]
        · unfold f_X11_workByte f_X11_workByte_J11
          rw [br_ne (not_m1 hp)]
          simp only [br_T, br_F, gd_T, br_00, br_10, Option.bind_some, rx_0, rx_s, el_l, el_r, br_A_A, br_S_S, br_I_I, br_S_A, br_I_A, br_A_I, br_I_S, gd_o, goes_00, goes_01, goes_10, goes_11, zI_t, zI_f, ri_0, ri_1, gd_130, c_130, gd_131, c_131, gd_132, c_132, gd_317, c_317, gd_348, c_348, gd_349, c_349, gd_550, c_550, gd_551, c_551, gd_552, c_552, b20, hx]
          subst e
          rw [br_m1 (by omega), br_le_f (by omega) (by omega)]
          simp (disch := omega) only [br_T, br_F, gd_T, br_le_t, br_le_f, br_lt_t, br_lt_f, br_eq_t, br_eq_f, br_m1, br_rf, br_0m, gd_in, gd_01, nI_add, nI_sb, pk_mul, nI_clamp, nm_eq, Option.bind_some, l_0, l_1, l_2, l_3, l_4, l_5, l_12, l_30, l_64, l_73, l_130, l_131, l_132, l_133, l_200, l_251, l_253, l_255, l_317, l_318, l_348, l_349, l_350, l_550, l_551, l_552, l_553, l_617, l_1851]
          exact congrArg (fun z => some (z, _)) (b2.2.2 j hj)
      · refine okr_d h (out := out) (v := -1) ?_ ?_
        · unfold f_L_workByte f_X10_workByte
          simp only [br_T, br_F, gd_T, br_00, br_10, Option.bind_some, rx_0, rx_s, el_l, el_r, br_A_A, br_S_S, br_I_I, br_S_A, br_I_A, br_A_I, br_I_S, gd_o, goes_00, goes_01, goes_10, goes_11, zI_t, zI_f, ri_0, ri_1, gd_130, c_130, gd_131, c_131, gd_132, c_132, gd_317, c_317, gd_348, c_348, gd_349, c_349, gd_550, c_550, gd_551, c_551, gd_552, c_552, ril_y hp, ea, rw_y hw1 ht]
        · unfold f_X11_workByte f_X11_workByte_J11
          rw [br_ne (not_m1 hp)]
          simp only [br_T, br_F, gd_T, br_00, br_10, Option.bind_some, rx_0, rx_s, el_l, el_r, br_A_A, br_S_S, br_I_I, br_S_A, br_I_A, br_A_I, br_I_S, gd_o, goes_00, goes_01, goes_10, goes_11, zI_t, zI_f, ri_0, ri_1, gd_130, c_130, gd_131, c_131, gd_132, c_132, gd_317, c_317, gd_348, c_348, gd_349, c_349, gd_550, c_550, gd_551, c_551, gd_552, c_552, b20, hx]
          subst e
          rw [br_m1 (by omega), br_le_t (by omega) (by omega)]
    · refine okr_t h (out := out) (b := 0) (t := 2) ?_ ?_ (by decide)
      · unfold f_L_workByte f_X10_workByte
        simp only [br_T, br_F, gd_T, br_00, br_10, Option.bind_some, rx_0, rx_s, el_l, el_r, br_A_A, br_S_S, br_I_I, br_S_A, br_I_A, br_A_I, br_I_S, gd_o, goes_00, goes_01, goes_10, goes_11, zI_t, zI_f, ri_0, ri_1, gd_130, c_130, gd_131, c_131, gd_132, c_132, gd_317, c_317, gd_348, c_348, gd_349, c_349, gd_550, c_550, gd_551, c_551, gd_552, c_552, ril_y hp, rw_n hw1 ht]
      · unfold f_X11_workByte f_X11_workByte_J11
        rw [br_ne (not_m1 hp)]
        rw [zI_n ht] at hx
        simp only [br_T, br_F, gd_T, br_00, br_10, Option.bind_some, rx_0, rx_s, el_l, el_r, br_A_A, br_S_S, br_I_I, br_S_A, br_I_A, br_A_I, br_I_S, gd_o, goes_00, goes_01, goes_10, goes_11, zI_t, zI_f, ri_0, ri_1, gd_130, c_130, gd_131, c_131, gd_132, c_132, gd_317, c_317, gd_348, c_348, gd_349, c_349, gd_550, c_550, gd_551, c_551, gd_552, c_552, hx]
  · refine okr_t h (out := out) (b := 0) (t := 1) ?_ ?_ (by decide)
    · unfold f_L_workByte f_X10_workByte
      simp only [br_T, br_F, gd_T, br_00, br_10, Option.bind_some, rx_0, rx_s, el_l, el_r, br_A_A, br_S_S, br_I_I, br_S_A, br_I_A, br_A_I, br_I_S, gd_o, goes_00, goes_01, goes_10, goes_11, zI_t, zI_f, ri_0, ri_1, gd_130, c_130, gd_131, c_131, gd_132, c_132, gd_317, c_317, gd_348, c_348, gd_349, c_349, gd_550, c_550, gd_551, c_551, gd_552, c_552, ril_n hp]
    · unfold f_X11_workByte f_X11_workByte_J11
      rw [br_eq (Int32.not_le.mp hp), hx]
      cases x.2.2.2.2.2.1
      · simp only [br_T, br_F, gd_T, br_00, br_10, Option.bind_some, rx_0, rx_s, el_l, el_r, br_A_A, br_S_S, br_I_I, br_S_A, br_I_A, br_A_I, br_I_S, gd_o, goes_00, goes_01, goes_10, goes_11, zI_t, zI_f, ri_0, ri_1, gd_130, c_130, gd_131, c_131, gd_132, c_132, gd_317, c_317, gd_348, c_348, gd_349, c_349, gd_550, c_550, gd_551, c_551, gd_552, c_552]
      · simp only [br_T, br_F, gd_T, br_00, br_10, Option.bind_some, rx_0, rx_s, el_l, el_r, br_A_A, br_S_S, br_I_I, br_S_A, br_I_A, br_A_I, br_I_S, gd_o, goes_00, goes_01, goes_10, goes_11, zI_t, zI_f, ri_0, ri_1, gd_130, c_130, gd_131, c_131, gd_132, c_132, gd_317, c_317, gd_348, c_348, gd_349, c_349, gd_550, c_550, gd_551, c_551, gd_552, c_552]
theorem m_commands {now : TState} {hist : THistory} {mo : TModel} (h : RR now hist mo) : ∃ v mo', f_X10_commands now = some v ∧ f_X11_commands mo = some (v, mo') ∧ RR now hist mo' := by
  obtain ⟨x, n, f, hn, h1, h2, hI, h3, h4, hf⟩ := id h
  refine ⟨nI (dC x.2.2.1), sT mo 0, ?_, ?_, RR_T h 0⟩
  · exact congrArg some h1.2.2.1.2.2.1
  · unfold f_X11_commands
    rw [gd_132, c_132, show mo.1 132 = nI (dC x.2.2.1) from h2.2.2.1.2.2.1]; rfl
theorem in03 (p : Int32) : f_X11_in p.toInt64 (0 : Int64) (3 : Int64) = some (zI (decide (¬ p < 0 ∧ p ≤ 3))) := by
  rw [X11_in]
  congr 2
  rw [show (0 : Int64) = (0 : Int32).toInt64 from by decide, show (3 : Int64) = (3 : Int32).toInt64 from by decide, ← Bool.decide_and]
  refine decide_eq_decide.mpr ?_
  rw [fa_wide_le, fa_wide_le, Int32.not_lt]
theorem m_command {now : TState} {hist : THistory} {mo : TModel} (h : RR now hist mo) (out : Nat → Int64) (p1 p2 : Int32) : OKr now hist (f_L_command now out p1 p2) (f_X11_command mo p1 p2) := by
  obtain ⟨x, n, f, hn, h1, h2, hI, h3, h4, hf⟩ := id h
  have d1 := h1.2.2.1
  have d2 := h2.2.2.1
  have hc := hI.2.2.1.1
  have hx := X11_isCmd (w := mo) d2 hc p1
  have hy := X2_hasP now.2.2.1 p1
  rw [d1.2.2.1] at hy
  by_cases hp : ¬ p1 < 0 ∧ p1 < nI (dC x.2.2.1)
  · rw [decide_eq_true hp, zI_t] at hx hy
    by_cases hq : ¬ p2 < 0 ∧ p2 ≤ 3
    · obtain ⟨j, hj31, rfl⟩ := nI_of hp.1
      have hj : j < dC x.2.2.1 := (nI_ltI hj31 (by omega)).mp hp.2
      obtain ⟨q, hq31, rfl⟩ := nI_of hq.1
      have hq4 : q ≤ 3 := (nI_leI hq31 (b := 3) (by omega)).mp hq.2
      refine okr_d h (out := out) (v := dsc x.2.2.1 j q) ?_ ?_
      · unfold f_L_command f_X10_command
        rw [hy]
        simp only [br_T, br_F, gd_T, br_00, br_10, Option.bind_some, rx_0, rx_s, el_l, el_r, br_A_A, br_S_S, br_I_I, br_S_A, br_I_A, br_A_I, br_I_S, gd_o, goes_00, goes_01, goes_10, goes_11, zI_t, zI_f, ri_0, ri_1, gd_130, c_130, gd_131, c_131, gd_132, c_132, gd_317, c_317, gd_348, c_348, gd_349, c_349, gd_550, c_550, gd_551, c_551, gd_552, c_552]
        rw [br_ne hq.1, br_eq hq.2, X2_describe d1 hc hj (by omega)]
        simp only [br_T, br_F, gd_T, br_00, br_10, Option.bind_some, rx_0, rx_s, el_l, el_r, br_A_A, br_S_S, br_I_I, br_S_A, br_I_A, br_A_I, br_I_S, gd_o, goes_00, goes_01, goes_10, goes_11, zI_t, zI_f, ri_0, ri_1, gd_130, c_130, gd_131, c_131, gd_132, c_132, gd_317, c_317, gd_348, c_348, gd_349, c_349, gd_550, c_550, gd_551, c_551, gd_552, c_552]
      · unfold f_X11_command
        rw [hx, in03, decide_eq_true hq]
        simp only [br_T, br_F, gd_T, br_00, br_10, Option.bind_some, rx_0, rx_s, el_l, el_r, br_A_A, br_S_S, br_I_I, br_S_A, br_I_A, br_A_I, br_I_S, gd_o, goes_00, goes_01, goes_10, goes_11, zI_t, zI_f, ri_0, ri_1, gd_130, c_130, gd_131, c_131, gd_132, c_132, gd_317, c_317, gd_348, c_348, gd_349, c_349, gd_550, c_550, gd_551, c_551, gd_552, c_552, of_dsc (w := sT mo 0) d2 hc hj (show q < 4 by omega)]
    · refine okr_t h (out := out) (b := 0) (t := 2) ?_ ?_ (by decide)
      · unfold f_L_command f_X10_command
        rw [hy]
        simp only [br_T, br_F, gd_T, br_00, br_10, Option.bind_some, rx_0, rx_s, el_l, el_r, br_A_A, br_S_S, br_I_I, br_S_A, br_I_A, br_A_I, br_I_S, gd_o, goes_00, goes_01, goes_10, goes_11, zI_t, zI_f, ri_0, ri_1, gd_130, c_130, gd_131, c_131, gd_132, c_132, gd_317, c_317, gd_348, c_348, gd_349, c_349, gd_550, c_550, gd_551, c_551, gd_552, c_552]
        by_cases e : p2 < 0
        · rw [br_eq e]; simp only [br_T, br_F, gd_T, br_00, br_10, Option.bind_some, rx_0, rx_s, el_l, el_r, br_A_A, br_S_S, br_I_I, br_S_A, br_I_A, br_A_I, br_I_S, gd_o, goes_00, goes_01, goes_10, goes_11, zI_t, zI_f, ri_0, ri_1, gd_130, c_130, gd_131, c_131, gd_132, c_132, gd_317, c_317, gd_348, c_348, gd_349, c_349, gd_550, c_550, gd_551, c_551, gd_552, c_552]
        · rw [br_ne e, br_ne (fun z => hq ⟨e, z⟩)]; simp only [br_T, br_F, gd_T, br_00, br_10, Option.bind_some, rx_0, rx_s, el_l, el_r, br_A_A, br_S_S, br_I_I, br_S_A, br_I_A, br_A_I, br_I_S, gd_o, goes_00, goes_01, goes_10, goes_11, zI_t, zI_f, ri_0, ri_1, gd_130, c_130, gd_131, c_131, gd_132, c_132, gd_317, c_317, gd_348, c_348, gd_349, c_349, gd_550, c_550, gd_551, c_551, gd_552, c_552]
      · unfold f_X11_command
        rw [hx, in03, decide_eq_false hq]
        simp only [br_T, br_F, gd_T, br_00, br_10, Option.bind_some, rx_0, rx_s, el_l, el_r, br_A_A, br_S_S, br_I_I, br_S_A, br_I_A, br_A_I, br_I_S, gd_o, goes_00, goes_01, goes_10, goes_11, zI_t, zI_f, ri_0, ri_1, gd_130, c_130, gd_131, c_131, gd_132, c_132, gd_317, c_317, gd_348, c_348, gd_349, c_349, gd_550, c_550, gd_551, c_551, gd_552, c_552]
  · rw [decide_eq_false hp, zI_f] at hx hy
    refine okr_t h (out := out) (b := 0) (t := 1) ?_ ?_ (by decide)
    · unfold f_L_command f_X10_command
      rw [hy]
      simp only [br_T, br_F, gd_T, br_00, br_10, Option.bind_some, rx_0, rx_s, el_l, el_r, br_A_A, br_S_S, br_I_I, br_S_A, br_I_A, br_A_I, br_I_S, gd_o, goes_00, goes_01, goes_10, goes_11, zI_t, zI_f, ri_0, ri_1, gd_130, c_130, gd_131, c_131, gd_132, c_132, gd_317, c_317, gd_348, c_348, gd_349, c_349, gd_550, c_550, gd_551, c_551, gd_552, c_552]
    · unfold f_X11_command
      rw [hx, in03]
      cases decide (¬ p2 < 0 ∧ p2 ≤ 3)
      · simp only [br_T, br_F, gd_T, br_00, br_10, Option.bind_some, rx_0, rx_s, el_l, el_r, br_A_A, br_S_S, br_I_I, br_S_A, br_I_A, br_A_I, br_I_S, gd_o, goes_00, goes_01, goes_10, goes_11, zI_t, zI_f, ri_0, ri_1, gd_130, c_130, gd_131, c_131, gd_132, c_132, gd_317, c_317, gd_348, c_348, gd_349, c_349, gd_550, c_550, gd_551, c_551, gd_552, c_552]
      · simp only [br_T, br_F, gd_T, br_00, br_10, Option.bind_some, rx_0, rx_s, el_l, el_r, br_A_A, br_S_S, br_I_I, br_S_A, br_I_A, br_A_I, br_I_S, gd_o, goes_00, goes_01, goes_10, goes_11, zI_t, zI_f, ri_0, ri_1, gd_130, c_130, gd_131, c_131, gd_132, c_132, gd_317, c_317, gd_348, c_348, gd_349, c_349, gd_550, c_550, gd_551, c_551, gd_552, c_552]
theorem m_mustPrecede {now : TState} {hist : THistory} {mo : TModel} (h : RR now hist mo) (out : Nat → Int64) (p1 p2 : Int32) : ∃ k out' b mo', f_L_mustPrecede now out p1 p2 = some (k, out') ∧ f_X11_mustPrecede mo p1 p2 = some (zI b, mo') ∧ mH mo' = k ∧ (k = 0 → out' 0 = if b then 1 else 0) ∧ RR now hist mo' := by
  obtain ⟨x, n, f, hn, h1, h2, hI, h3, h4, hf⟩ := id h
  have d1 := h1.2.2.1
  have d2 := h2.2.2.1
  have hc := hI.2.2.1.1
  have hx := X11_isCmd (w := mo) d2 hc p1
  have hy := X2_hasP now.2.2.1 p1
  have hx2 := X11_isCmd (w := mo) d2 hc p2
  have hy2 := X2_hasP now.2.2.1 p2
  rw [d1.2.2.1] at hy hy2
  by_cases hp : ¬ p1 < 0 ∧ p1 < nI (dC x.2.2.1)
  · rw [decide_eq_true hp, zI_t] at hx hy
    by_cases hq : ¬ p2 < 0 ∧ p2 < nI (dC x.2.2.1)
    · rw [decide_eq_true hq, zI_t] at hx2 hy2
      obtain ⟨i, hi31, rfl⟩ := nI_of hp.1
      have hi : i < dC x.2.2.1 := (nI_ltI hi31 (by omega)).mp hp.2
      obtain ⟨j, hj31, rfl⟩ := nI_of hq.1
      have hj : j < dC x.2.2.1 := (nI_ltI hj31 (by omega)).mp hq.2
      refine ⟨0, vp_updL out (0 : Int32).toNatClampNeg (if Pr x.2.2.1 i j then 1 else 0), Pr x.2.2.1 i j, sT mo 0, ?_, ?_, rfl, fun _ => ?_, RR_T h 0⟩
      · unfold f_L_mustPrecede f_X10_mustPrecede f_X10_mustPrecede_J33 f_L_mustPrecede_J16
        rw [hy, hy2]
        simp only [br_T, br_F, gd_T, br_00, br_10, Option.bind_some, rx_0, rx_s, el_l, el_r, br_A_A, br_S_S, br_I_I, br_S_A, br_I_A, br_A_I, br_I_S, gd_o, goes_00, goes_01, goes_10, goes_11, zI_t, zI_f, ri_0, ri_1, gd_130, c_130, gd_131, c_131, gd_132, c_132, gd_317, c_317, gd_348, c_348, gd_349, c_349, gd_550, c_550, gd_551, c_551, gd_552, c_552, X2_pre d1 hc hj, X10_isIn (show dC x.2.2.1 ≤ 32 by omega) (show i < 31 by omega), decide_eq_true hi, Bool.true_and, gd_z, br_z0]
        cases Pr x.2.2.1 i j <;> rfl
      · unfold f_X11_mustPrecede f_X11_mustPrecede_J22
        rw [hx, hx2]
        simp only [br_T, br_F, gd_T, br_00, br_10, Option.bind_some, rx_0, rx_s, el_l, el_r, br_A_A, br_S_S, br_I_I, br_S_A, br_I_A, br_A_I, br_I_S, gd_o, goes_00, goes_01, goes_10, goes_11, zI_t, zI_f, ri_0, ri_1, gd_130, c_130, gd_131, c_131, gd_132, c_132, gd_317, c_317, gd_348, c_348, gd_349, c_349, gd_550, c_550, gd_551, c_551, gd_552, c_552, X11_precedes (w := sT mo 0) d2 hI.2.2.1 hi hj, br_z0]
        cases Pr x.2.2.1 i j <;> rfl
      · rw [out0]
    · rw [decide_eq_false hq, zI_f] at hx2 hy2
      refine ⟨1, out, false, sT mo 1, ?_, ?_, rfl, fun q => absurd q (by decide), RR_T h 1⟩
      · unfold f_L_mustPrecede f_X10_mustPrecede f_X10_mustPrecede_J32 f_X10_mustPrecede_J33
        rw [hy, hy2]
        simp only [br_T, br_F, gd_T, br_00, br_10, Option.bind_some, rx_0, rx_s, el_l, el_r, br_A_A, br_S_S, br_I_I, br_S_A, br_I_A, br_A_I, br_I_S, gd_o, goes_00, goes_01, goes_10, goes_11, zI_t, zI_f, ri_0, ri_1, gd_130, c_130, gd_131, c_131, gd_132, c_132, gd_317, c_317, gd_348, c_348, gd_349, c_349, gd_550, c_550, gd_551, c_551, gd_552, c_552]
      · unfold f_X11_mustPrecede f_X11_mustPrecede_J21 f_X11_mustPrecede_J22
        rw [hx, hx2]
        simp only [br_T, br_F, gd_T, br_00, br_10, Option.bind_some, rx_0, rx_s, el_l, el_r, br_A_A, br_S_S, br_I_I, br_S_A, br_I_A, br_A_I, br_I_S, gd_o, goes_00, goes_01, goes_10, goes_11, zI_t, zI_f, ri_0, ri_1, gd_130, c_130, gd_131, c_131, gd_132, c_132, gd_317, c_317, gd_348, c_348, gd_349, c_349, gd_550, c_550, gd_551, c_551, gd_552, c_552]
  · rw [decide_eq_false hp, zI_f] at hx hy
    refine ⟨1, out, false, sT mo 1, ?_, ?_, rfl, fun q => absurd q (by decide), RR_T h 1⟩
    · unfold f_L_mustPrecede f_X10_mustPrecede f_X10_mustPrecede_J32 f_X10_mustPrecede_J33
      rw [hy]
      simp only [br_T, br_F, gd_T, br_00, br_10, Option.bind_some, rx_0, rx_s, el_l, el_r, br_A_A, br_S_S, br_I_I, br_S_A, br_I_A, br_A_I, br_I_S, gd_o, goes_00, goes_01, goes_10, goes_11, zI_t, zI_f, ri_0, ri_1, gd_130, c_130, gd_131, c_131, gd_132, c_132, gd_317, c_317, gd_348, c_348, gd_349, c_349, gd_550, c_550, gd_551, c_551, gd_552, c_552]
    · unfold f_X11_mustPrecede f_X11_mustPrecede_J21 f_X11_mustPrecede_J22
      rw [hx]
      simp only [br_T, br_F, gd_T, br_00, br_10, Option.bind_some, rx_0, rx_s, el_l, el_r, br_A_A, br_S_S, br_I_I, br_S_A, br_I_A, br_A_I, br_I_S, gd_o, goes_00, goes_01, goes_10, goes_11, zI_t, zI_f, ri_0, ri_1, gd_130, c_130, gd_131, c_131, gd_132, c_132, gd_317, c_317, gd_348, c_348, gd_349, c_349, gd_550, c_550, gd_551, c_551, gd_552, c_552]
theorem m_converted {now : TState} {hist : THistory} {mo : TModel} (h : RR now hist mo) (out : Nat → Int64) : OKr now hist (f_L_converted now out) (f_X11_converted mo) := by
  obtain ⟨x, n, f, hn, h1, h2, hI, h3, h4, hf⟩ := id h
  have hp1 := h1.2.2.2.1
  have hp2 := h2.2.2.2.1
  have hx := X11_isPlanned hp2
  by_cases ht : x.2.2.2.1.1 = true
  · refine okr_d h (out := out) (v := bm x.2.2.2.1.2.2 (dC x.2.2.1)) ?_ ?_
    · unfold f_L_converted f_X10_converted
      simp only [br_T, br_F, gd_T, br_00, br_10, Option.bind_some, rx_0, rx_s, el_l, el_r, br_A_A, br_S_S, br_I_I, br_S_A, br_I_A, br_A_I, br_I_S, gd_o, goes_00, goes_01, goes_10, goes_11, zI_t, zI_f, ri_0, ri_1, gd_130, c_130, gd_131, c_131, gd_132, c_132, gd_317, c_317, gd_348, c_348, gd_349, c_349, gd_550, c_550, gd_551, c_551, gd_552, c_552, rp_y hp1 ht, (hp1.2 ht).2.2.1]
    · unfold f_X11_converted
      rw [zI_y ht] at hx
      simp only [br_T, br_F, gd_T, br_00, br_10, Option.bind_some, rx_0, rx_s, el_l, el_r, br_A_A, br_S_S, br_I_I, br_S_A, br_I_A, br_A_I, br_I_S, gd_o, goes_00, goes_01, goes_10, goes_11, zI_t, zI_f, ri_0, ri_1, gd_130, c_130, gd_131, c_131, gd_132, c_132, gd_317, c_317, gd_348, c_348, gd_349, c_349, gd_550, c_550, gd_551, c_551, gd_552, c_552, hx, show (sT mo 0).1 348 = bm x.2.2.2.1.2.2 (dC x.2.2.1) from (hp2.2 ht).2]
  · refine okr_t h (out := out) (b := 0) (t := 1) ?_ ?_ (by decide)
    · unfold f_L_converted f_X10_converted
      simp only [br_T, br_F, gd_T, br_00, br_10, Option.bind_some, rx_0, rx_s, el_l, el_r, br_A_A, br_S_S, br_I_I, br_S_A, br_I_A, br_A_I, br_I_S, gd_o, goes_00, goes_01, goes_10, goes_11, zI_t, zI_f, ri_0, ri_1, gd_130, c_130, gd_131, c_131, gd_132, c_132, gd_317, c_317, gd_348, c_348, gd_349, c_349, gd_550, c_550, gd_551, c_551, gd_552, c_552, rp_n hp1 ht]
    · unfold f_X11_converted
      rw [zI_n ht] at hx
      simp only [br_T, br_F, gd_T, br_00, br_10, Option.bind_some, rx_0, rx_s, el_l, el_r, br_A_A, br_S_S, br_I_I, br_S_A, br_I_A, br_A_I, br_I_S, gd_o, goes_00, goes_01, goes_10, goes_11, zI_t, zI_f, ri_0, ri_1, gd_130, c_130, gd_131, c_131, gd_132, c_132, gd_317, c_317, gd_348, c_348, gd_349, c_349, gd_550, c_550, gd_551, c_551, gd_552, c_552, hx]
theorem X7_has {w : TPlan} {c : Nat} (h : w.2.2.1 = nI c) (hc : c ≤ 30) (p : Int32) : f_X7_has w p = some (zI (decide (¬ p < 0 ∧ p < nI c))) := by
  unfold f_X7_has
  rw [h]
  by_cases e : p < 0
  · rw [br_eq e, decide_eq_false (fun q => q.1 e)]; rfl
  · rw [br_ne e]
    by_cases e2 : p < nI c
    · rw [br_ne (Int32.not_le.mpr e2), decide_eq_true ⟨e, e2⟩]; rfl
    · rw [br_eq (Int32.not_lt.mp e2), decide_eq_false (fun q => e2 q.2)]; rfl
theorem X7_at {w : TPlan} {c : Nat} (h : w.2.2.1 = nI c) (hc : c ≤ 30) {j : Nat} (hj : j < c) : f_X7_at w (nI j) = some (w.1 j) := by
  unfold f_X7_at
  rw [X7_has h hc, decide_eq_true ⟨nI_pos (by omega), nI_lt hj (by omega)⟩]
  simp only [br_T, br_F, gd_T, br_00, br_10, Option.bind_some, rx_0, rx_s, el_l, el_r, br_A_A, br_S_S, br_I_I, br_S_A, br_I_A, br_A_I, br_I_S, gd_o, goes_00, goes_01, goes_10, goes_11, zI_t, zI_f, ri_0, ri_1, gd_130, c_130, gd_131, c_131, gd_132, c_132, gd_317, c_317, gd_348, c_348, gd_349, c_349, gd_550, c_550, gd_551, c_551, gd_552, c_552]
  rw [gd_in (by omega) (by omega), nI_clamp (by omega)]
theorem m_planned {now : TState} {hist : THistory} {mo : TModel} (h : RR now hist mo) (out : Nat → Int64) (p1 : Int32) : OKr now hist (f_L_planned now out p1) (f_X11_planned mo p1) := by
  obtain ⟨x, n, f, hn, h1, h2, hI, h3, h4, hf⟩ := id h
  have hp1 := h1.2.2.2.1
  have hp2 := h2.2.2.2.1
  have hx := X11_isPlanned hp2
  have hc := hI.2.2.1.1
  have d2 : mo.1 132 = nI (dC x.2.2.1) := h2.2.2.1.2.2.1
  by_cases ht : x.2.2.2.1.1 = true
  · obtain ⟨q1, q2, q3, q4⟩ := hp1.2 ht
    rw [zI_y ht] at hx
    by_cases hp : ¬ p1 < 0 ∧ p1 < nI (dC x.2.2.1)
    · obtain ⟨j, hj31, rfl⟩ := nI_of hp.1
      have hj : j < dC x.2.2.1 := (nI_ltI hj31 (by omega)).mp hp.2
      refine okr_d h (out := out) (v := nI (x.2.2.2.1.2.1 j)) ?_ ?_
      · unfold f_L_planned f_X10_planned
        rw [rp_y hp1 ht, X7_has q1 hc, decide_eq_true hp]
        simp only [br_T, br_F, gd_T, br_00, br_10, Option.bind_some, rx_0, rx_s, el_l, el_r, br_A_A, br_S_S, br_I_I, br_S_A, br_I_A, br_A_I, br_I_S, gd_o, goes_00, goes_01, goes_10, goes_11, zI_t, zI_f, ri_0, ri_1, gd_130, c_130, gd_131, c_131, gd_132, c_132, gd_317, c_317, gd_348, c_348, gd_349, c_349, gd_550, c_550, gd_551, c_551, gd_552, c_552, X7_at q1 hc hj, q2 j hj]
      · unfold f_X11_planned
        rw [hx]
        simp only [br_T, br_F, gd_T, br_00, br_10, Option.bind_some, rx_0, rx_s, el_l, el_r, br_A_A, br_S_S, br_I_I, br_S_A, br_I_A, br_A_I, br_I_S, gd_o, goes_00, goes_01, goes_10, goes_11, zI_t, zI_f, ri_0, ri_1, gd_130, c_130, gd_131, c_131, gd_132, c_132, gd_317, c_317, gd_348, c_348, gd_349, c_349, gd_550, c_550, gd_551, c_551, gd_552, c_552, d2, X11_inC (show dC x.2.2.1 < 1073741824 by omega), decide_eq_true hp]
        simp (disch := omega) only [br_T, br_F, gd_T, br_le_t, br_le_f, br_lt_t, br_lt_f, br_eq_t, br_eq_f, br_m1, br_rf, br_0m, gd_in, gd_01, nI_add, nI_sb, pk_mul, nI_clamp, nm_eq, Option.bind_some, l_0, l_1, l_2, l_3, l_4, l_5, l_12, l_30, l_64, l_73, l_130, l_131, l_132, l_133, l_200, l_251, l_253, l_255, l_317, l_318, l_348, l_349, l_350, l_550, l_551, l_552, l_553, l_617, l_1851]
        exact congrArg (fun z => some (z, _)) ((hp2.2 ht).1 j hj)
    · refine okr_t h (out := out) (b := 0) (t := 2) ?_ ?_ (by decide)
      · unfold f_L_planned f_X10_planned
        rw [rp_y hp1 ht, X7_has q1 hc, decide_eq_false hp]
        simp only [br_T, br_F, gd_T, br_00, br_10, Option.bind_some, rx_0, rx_s, el_l, el_r, br_A_A, br_S_S, br_I_I, br_S_A, br_I_A, br_A_I, br_I_S, gd_o, goes_00, goes_01, goes_10, goes_11, zI_t, zI_f, ri_0, ri_1, gd_130, c_130, gd_131, c_131, gd_132, c_132, gd_317, c_317, gd_348, c_348, gd_349, c_349, gd_550, c_550, gd_551, c_551, gd_552, c_552]
      · unfold f_X11_planned
        rw [hx]
        simp only [br_T, br_F, gd_T, br_00, br_10, Option.bind_some, rx_0, rx_s, el_l, el_r, br_A_A, br_S_S, br_I_I, br_S_A, br_I_A, br_A_I, br_I_S, gd_o, goes_00, goes_01, goes_10, goes_11, zI_t, zI_f, ri_0, ri_1, gd_130, c_130, gd_131, c_131, gd_132, c_132, gd_317, c_317, gd_348, c_348, gd_349, c_349, gd_550, c_550, gd_551, c_551, gd_552, c_552, d2, X11_inC (show dC x.2.2.1 < 1073741824 by omega), decide_eq_false hp]
  · rw [zI_n ht] at hx
    refine okr_t h (out := out) (b := 0) (t := 1) ?_ ?_ (by decide)
    · unfold f_L_planned f_X10_planned
      simp only [br_T, br_F, gd_T, br_00, br_10, Option.bind_some, rx_0, rx_s, el_l, el_r, br_A_A, br_S_S, br_I_I, br_S_A, br_I_A, br_A_I, br_I_S, gd_o, goes_00, goes_01, goes_10, goes_11, zI_t, zI_f, ri_0, ri_1, gd_130, c_130, gd_131, c_131, gd_132, c_132, gd_317, c_317, gd_348, c_348, gd_349, c_349, gd_550, c_550, gd_551, c_551, gd_552, c_552, rp_n hp1 ht]
    · unfold f_X11_planned
      rw [hx]
      simp only [br_T, br_F, gd_T, br_00, br_10, Option.bind_some, rx_0, rx_s, el_l, el_r, br_A_A, br_S_S, br_I_I, br_S_A, br_I_A, br_A_I, br_I_S, gd_o, goes_00, goes_01, goes_10, goes_11, zI_t, zI_f, ri_0, ri_1, gd_130, c_130, gd_131, c_131, gd_132, c_132, gd_317, c_317, gd_348, c_348, gd_349, c_349, gd_550, c_550, gd_551, c_551, gd_552, c_552, d2, X11_inC (show dC x.2.2.1 < 1073741824 by omega)]
      cases decide (¬ p1 < 0 ∧ p1 < nI (dC x.2.2.1))
      · simp only [br_T, br_F, gd_T, br_00, br_10, Option.bind_some, rx_0, rx_s, el_l, el_r, br_A_A, br_S_S, br_I_I, br_S_A, br_I_A, br_A_I, br_I_S, gd_o, goes_00, goes_01, goes_10, goes_11, zI_t, zI_f, ri_0, ri_1, gd_130, c_130, gd_131, c_131, gd_132, c_132, gd_317, c_317, gd_348, c_348, gd_349, c_349, gd_550, c_550, gd_551, c_551, gd_552, c_552]
      · simp only [br_T, br_F, gd_T, br_00, br_10, Option.bind_some, rx_0, rx_s, el_l, el_r, br_A_A, br_S_S, br_I_I, br_S_A, br_I_A, br_A_I, br_I_S, gd_o, goes_00, goes_01, goes_10, goes_11, zI_t, zI_f, ri_0, ri_1, gd_130, c_130, gd_131, c_131, gd_132, c_132, gd_317, c_317, gd_348, c_348, gd_349, c_349, gd_550, c_550, gd_551, c_551, gd_552, c_552]
theorem m_undo {now : TState} {hist : THistory} {mo : TModel} (h : RR now hist mo) (out : Nat → Int64) : OKw (f_L_undo now hist out) (f_X11_undo mo) := by
  obtain ⟨x, n, f, hn, h1, h2, hI, h3, h4, hf⟩ := id h
  have e1 : hist.2.2 = nI n := h3.1
  have e2 : mo.2.2.1 = nI n := h4.1
  by_cases hz : n = 0
  · subst hz
    refine okw_t h (out := out) (b := 0) (t := 1) ?_ ?_ (by decide)
    · unfold f_L_undo f_X10_undo
      rw [br_eq (show hist.2.2 = 0 from e1)]
      simp only [br_T, br_F, gd_T, br_00, br_10, Option.bind_some, rx_0, rx_s, el_l, el_r, br_A_A, br_S_S, br_I_I, br_S_A, br_I_A, br_A_I, br_I_S, gd_o, goes_00, goes_01, goes_10, goes_11, zI_t, zI_f, ri_0, ri_1, gd_130, c_130, gd_131, c_131, gd_132, c_132, gd_317, c_317, gd_348, c_348, gd_349, c_349, gd_550, c_550, gd_551, c_551, gd_552, c_552]
    · unfold f_X11_undo f_X11_undo_J13
      rw [br_eq (show mo.2.2.1 ≤ 0 by rw [e2]; decide)]
      simp only [br_T, br_F, gd_T, br_00, br_10, Option.bind_some, rx_0, rx_s, el_l, el_r, br_A_A, br_S_S, br_I_I, br_S_A, br_I_A, br_A_I, br_I_S, gd_o, goes_00, goes_01, goes_10, goes_11, zI_t, zI_f, ri_0, ri_1, gd_130, c_130, gd_131, c_131, gd_132, c_132, gd_317, c_317, gd_348, c_348, gd_349, c_349, gd_550, c_550, gd_551, c_551, gd_552, c_552]
  · obtain ⟨m, rfl⟩ : ∃ m, n = m + 1 := ⟨n - 1, by omega⟩
    obtain ⟨r, er, hr1, hr2⟩ := X4_restore (w := now) (show m < 4 by omega) (hf m (by omega)) h3
    obtain ⟨v, ev, hv1, hv2⟩ := undo34 (n := m) (by omega) 617 0 FUEL (sSv (sT mo 0) (mS mo) (nI m)) rfl rfl (by decide)
    refine ⟨0, r.2, r.1, vp_updL out (0 : Int32).toNatClampNeg (nI m).toInt64, nI m, sA (sSv (sT mo 0) (mS mo) (nI m)) v, ?_, ?_, rfl, fun _ => ?_, ?_⟩
    · unfold f_L_undo f_X10_undo
      rw [br_ne (show ¬ hist.2.2 = 0 by rw [e1]; exact nI_ne0 (by omega) (by omega)), er]
      simp only [br_T, br_F, gd_T, br_00, br_10, Option.bind_some, rx_0, rx_s, el_l, el_r, br_A_A, br_S_S, br_I_I, br_S_A, br_I_A, br_A_I, br_I_S, gd_o, goes_00, goes_01, goes_10, goes_11, zI_t, zI_f, ri_0, ri_1, gd_130, c_130, gd_131, c_131, gd_132, c_132, gd_317, c_317, gd_348, c_348, gd_349, c_349, gd_550, c_550, gd_551, c_551, gd_552, c_552, show r.1.2.2 = nI m from hr1.1]
    · unfold f_X11_undo f_X11_undo_J13
      rw [br_ne (show ¬ mo.2.2.1 ≤ 0 by rw [e2]; exact nI_nle (by omega) (by omega))]
      simp only [br_T, br_F, gd_T, br_00, br_10, Option.bind_some, rx_0, rx_s, el_l, el_r, br_A_A, br_S_S, br_I_I, br_S_A, br_I_A, br_A_I, br_I_S, gd_o, goes_00, goes_01, goes_10, goes_11, zI_t, zI_f, ri_0, ri_1, gd_130, c_130, gd_131, c_131, gd_132, c_132, gd_317, c_317, gd_348, c_348, gd_349, c_349, gd_550, c_550, gd_551, c_551, gd_552, c_552]
      rw [show (sT mo 0).2.2.1 = nI (m + 1) from e2, show nI (m + 1) - 1 = nI m from nI_pred m]
      exact ev
    · rw [out0]
    · refine ⟨f m, m, f, by omega, hr2, ?_, hf m (by omega), hr1, ⟨rfl, fun j hj => h4.2 j (by omega)⟩, fun j hj => hf j (by omega)⟩
      refine S2_cong (hf m (by omega)) (fun k hk => ?_) (h4.2 m (by omega))
      exact (hv2 k (by omega) hk).symm
