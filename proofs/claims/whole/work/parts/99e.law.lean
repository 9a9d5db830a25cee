/-! the law's cases over class and reference, its loop, its start -/
abbrev RRr (r : TState × THistory × TDecoder × TModel × (Nat → Int64)) : Prop := RR r.1 r.2.1 r.2.2.2.1
abbrev OK5 (A : Option (TState × THistory × TDecoder × TModel × (Nat → Int64))) : Prop := ∃ r, A = some r ∧ RRr r
theorem v01 : vp_in (0 : Int32) 1 := nI_in (c := 0) (N := 1) (by omega) (by omega)
theorem kw {A : Option (Int32 × TState × THistory × (Nat → Int64))} {B : Option (Int32 × TModel)} (dec : TDecoder) (h : OKw A B) : OK5 (A.bind (fun x1 => B.bind (fun x2 => (f_X11_thrown x2.2).bind (fun x3 => br (x3 = x1.1) (br (x1.1 = 0) (gd (vp_in (0 : Int32) 1) (br ((lg_cmp (x1.2.2.2 (0 : Int32).toNatClampNeg) x2.1.toInt64) = 0) (some (x1.2.1, x1.2.2.1, dec, x2.2, x1.2.2.2)) (none))) (some (x1.2.1, x1.2.2.1, dec, x2.2, x1.2.2.2))) (none))))) := by
  obtain ⟨k, now', hist', out', b, mo', e1, e2, e3, e4, e5⟩ := h
  subst e1; subst e2
  refine ⟨(now', hist', dec, mo', out'), ?_, e5⟩
  simp only [Option.bind_some, X11_thrown]
  rw [br_eq e3]
  by_cases hk : k = 0
  · rw [br_eq hk, gd_eq v01]; exact br_eq ((lg_cmp_eq _ _).mpr (e4 hk))
  · rw [br_ne hk]
theorem kr {now : TState} {hist : THistory} {A : Option (Int32 × (Nat → Int64))} {B : Option (Int32 × TModel)} (dec : TDecoder) (h : OKr now hist A B) : OK5 (A.bind (fun x1 => B.bind (fun x2 => (f_X11_thrown x2.2).bind (fun x3 => br (x3 = x1.1) (br (x1.1 = 0) (gd (vp_in (0 : Int32) 1) (br ((lg_cmp (x1.2 (0 : Int32).toNatClampNeg) x2.1.toInt64) = 0) (some (now, hist, dec, x2.2, x1.2)) (none))) (some (now, hist, dec, x2.2, x1.2))) (none))))) := by
  obtain ⟨k, out', b, mo', e1, e2, e3, e4, e5⟩ := h
  subst e1; subst e2
  refine ⟨(now, hist, dec, mo', out'), ?_, e5⟩
  simp only [Option.bind_some, X11_thrown]
  rw [br_eq e3]
  by_cases hk : k = 0
  · rw [br_eq hk, gd_eq v01]; exact br_eq ((lg_cmp_eq _ _).mpr (e4 hk))
  · rw [br_ne hk]
theorem kp {A : Option (Int32 × TState × THistory)} {B : Option (Int32 × TModel)} (dec : TDecoder) (out : Nat → Int64) (h : OKp A B) : OK5 (A.bind (fun x1 => B.bind (fun x2 => br (x1.1 = x2.1) (some (x1.2.1, x1.2.2, dec, x2.2, out)) (none)))) := by
  obtain ⟨v, now', hist', mo', e1, e2, e5⟩ := h
  subst e1; subst e2
  refine ⟨(now', hist', dec, mo', out), ?_, e5⟩
  simp only [Option.bind_some]
  exact br_eq trivial
theorem p_152 {now : TState} {hist : THistory} {mo : TModel} {xs : Nat → Int32} {L : Nat} {i : Int32} {dec : TDecoder} {out : Nat → Int64} (h : RR now hist mo) (g1 : vp_in (i + (1 : Int32)) L) (g2 : vp_in (i + (2 : Int32)) L) (g3 : vp_in (i + (3 : Int32)) L) : OK5 (kf_152 xs L i now hist dec mo out) := by
  unfold kf_152
  simp only [gd_eq g1, gd_eq g2]
  exact kw dec (m_append h out _ _)
theorem p_220 {now : TState} {hist : THistory} {mo : TModel} {xs : Nat → Int32} {L : Nat} {i : Int32} {dec : TDecoder} {out : Nat → Int64} (h : RR now hist mo) (g1 : vp_in (i + (1 : Int32)) L) (g2 : vp_in (i + (2 : Int32)) L) (g3 : vp_in (i + (3 : Int32)) L) : OK5 (kf_220 xs L i now hist dec mo out) := by
  unfold kf_220
  simp only [gd_eq g1, gd_eq g2, gd_eq g3]
  exact kw dec (m_patch h out _ _ _)
theorem p_300 {now : TState} {hist : THistory} {mo : TModel} {xs : Nat → Int32} {L : Nat} {i : Int32} {dec : TDecoder} {out : Nat → Int64} (h : RR now hist mo) (g1 : vp_in (i + (1 : Int32)) L) (g2 : vp_in (i + (2 : Int32)) L) (g3 : vp_in (i + (3 : Int32)) L) : OK5 (kf_300 xs L i now hist dec mo out) := by
  unfold kf_300
  simp only [gd_eq g1]
  exact kw dec (m_clear h out _)
theorem p_593 {now : TState} {hist : THistory} {mo : TModel} {xs : Nat → Int32} {L : Nat} {i : Int32} {dec : TDecoder} {out : Nat → Int64} (h : RR now hist mo) (g1 : vp_in (i + (1 : Int32)) L) (g2 : vp_in (i + (2 : Int32)) L) (g3 : vp_in (i + (3 : Int32)) L) : OK5 (kf_593 xs L i now hist dec mo out) := by
  unfold kf_593
  simp only [gd_eq g1]
  exact kw dec (m_plan h out _)
theorem p_806 {now : TState} {hist : THistory} {mo : TModel} {xs : Nat → Int32} {L : Nat} {i : Int32} {dec : TDecoder} {out : Nat → Int64} (h : RR now hist mo) (g1 : vp_in (i + (1 : Int32)) L) (g2 : vp_in (i + (2 : Int32)) L) (g3 : vp_in (i + (3 : Int32)) L) : OK5 (kf_806 xs L i now hist dec mo out) := by
  unfold kf_806
  exact kw dec (m_encode h out)
theorem p_850 {now : TState} {hist : THistory} {mo : TModel} {xs : Nat → Int32} {L : Nat} {i : Int32} {dec : TDecoder} {out : Nat → Int64} (h : RR now hist mo) (g1 : vp_in (i + (1 : Int32)) L) (g2 : vp_in (i + (2 : Int32)) L) (g3 : vp_in (i + (3 : Int32)) L) : OK5 (kf_850 xs L i now hist dec mo out) := by
  unfold kf_850
  simp only [gd_eq g1]
  exact kw dec (m_write h out _)
theorem p_988 {now : TState} {hist : THistory} {mo : TModel} {xs : Nat → Int32} {L : Nat} {i : Int32} {dec : TDecoder} {out : Nat → Int64} (h : RR now hist mo) (g1 : vp_in (i + (1 : Int32)) L) (g2 : vp_in (i + (2 : Int32)) L) (g3 : vp_in (i + (3 : Int32)) L) : OK5 (kf_988 xs L i now hist dec mo out) := by
  unfold kf_988
  exact kw dec (m_begin h out)
theorem p_1032 {now : TState} {hist : THistory} {mo : TModel} {xs : Nat → Int32} {L : Nat} {i : Int32} {dec : TDecoder} {out : Nat → Int64} (h : RR now hist mo) (g1 : vp_in (i + (1 : Int32)) L) (g2 : vp_in (i + (2 : Int32)) L) (g3 : vp_in (i + (3 : Int32)) L) : OK5 (kf_1032 xs L i now hist dec mo out) := by
  unfold kf_1032
  exact kw dec (m_step h out)
theorem p_1217 {now : TState} {hist : THistory} {mo : TModel} {xs : Nat → Int32} {L : Nat} {i : Int32} {dec : TDecoder} {out : Nat → Int64} (h : RR now hist mo) (g1 : vp_in (i + (1 : Int32)) L) (g2 : vp_in (i + (2 : Int32)) L) (g3 : vp_in (i + (3 : Int32)) L) : OK5 (kf_1217 xs L i now hist dec mo out) := by
  unfold kf_1217
  exact kw dec (m_undo h out)
theorem p_356 {now : TState} {hist : THistory} {mo : TModel} {xs : Nat → Int32} {L : Nat} {i : Int32} {dec : TDecoder} {out : Nat → Int64} (h : RR now hist mo) (g1 : vp_in (i + (1 : Int32)) L) (g2 : vp_in (i + (2 : Int32)) L) (g3 : vp_in (i + (3 : Int32)) L) : OK5 (kf_356 xs L i now hist dec mo out) := by
  unfold kf_356
  simp only [gd_eq g1, gd_eq g2]
  exact kr dec (m_byteOf h out _ _)
theorem p_450 {now : TState} {hist : THistory} {mo : TModel} {xs : Nat → Int32} {L : Nat} {i : Int32} {dec : TDecoder} {out : Nat → Int64} (h : RR now hist mo) (g1 : vp_in (i + (1 : Int32)) L) (g2 : vp_in (i + (2 : Int32)) L) (g3 : vp_in (i + (3 : Int32)) L) : OK5 (kf_450 xs L i now hist dec mo out) := by
  unfold kf_450
  simp only [gd_eq g1, gd_eq g2]
  exact kr dec (m_command h out _ _)
theorem p_649 {now : TState} {hist : THistory} {mo : TModel} {xs : Nat → Int32} {L : Nat} {i : Int32} {dec : TDecoder} {out : Nat → Int64} (h : RR now hist mo) (g1 : vp_in (i + (1 : Int32)) L) (g2 : vp_in (i + (2 : Int32)) L) (g3 : vp_in (i + (3 : Int32)) L) : OK5 (kf_649 xs L i now hist dec mo out) := by
  unfold kf_649
  simp only [gd_eq g1]
  exact kr dec (m_planned h out _)
theorem p_705 {now : TState} {hist : THistory} {mo : TModel} {xs : Nat → Int32} {L : Nat} {i : Int32} {dec : TDecoder} {out : Nat → Int64} (h : RR now hist mo) (g1 : vp_in (i + (1 : Int32)) L) (g2 : vp_in (i + (2 : Int32)) L) (g3 : vp_in (i + (3 : Int32)) L) : OK5 (kf_705 xs L i now hist dec mo out) := by
  unfold kf_705
  exact kr dec (m_converted h out)
theorem p_749 {now : TState} {hist : THistory} {mo : TModel} {xs : Nat → Int32} {L : Nat} {i : Int32} {dec : TDecoder} {out : Nat → Int64} (h : RR now hist mo) (g1 : vp_in (i + (1 : Int32)) L) (g2 : vp_in (i + (2 : Int32)) L) (g3 : vp_in (i + (3 : Int32)) L) : OK5 (kf_749 xs L i now hist dec mo out) := by
  unfold kf_749
  exact kr dec (m_loss h out)
theorem p_919 {now : TState} {hist : THistory} {mo : TModel} {xs : Nat → Int32} {L : Nat} {i : Int32} {dec : TDecoder} {out : Nat → Int64} (h : RR now hist mo) (g1 : vp_in (i + (1 : Int32)) L) (g2 : vp_in (i + (2 : Int32)) L) (g3 : vp_in (i + (3 : Int32)) L) : OK5 (kf_919 xs L i now hist dec mo out) := by
  unfold kf_919
  simp only [gd_eq g1]
  exact kr dec (m_code h out _)
theorem p_1076 {now : TState} {hist : THistory} {mo : TModel} {xs : Nat → Int32} {L : Nat} {i : Int32} {dec : TDecoder} {out : Nat → Int64} (h : RR now hist mo) (g1 : vp_in (i + (1 : Int32)) L) (g2 : vp_in (i + (2 : Int32)) L) (g3 : vp_in (i + (3 : Int32)) L) : OK5 (kf_1076 xs L i now hist dec mo out) := by
  unfold kf_1076
  simp only [gd_eq g1]
  exact kr dec (m_workByte h out _)
theorem p_1132 {now : TState} {hist : THistory} {mo : TModel} {xs : Nat → Int32} {L : Nat} {i : Int32} {dec : TDecoder} {out : Nat → Int64} (h : RR now hist mo) (g1 : vp_in (i + (1 : Int32)) L) (g2 : vp_in (i + (2 : Int32)) L) (g3 : vp_in (i + (3 : Int32)) L) : OK5 (kf_1132 xs L i now hist dec mo out) := by
  unfold kf_1132
  exact kr dec (m_compare h out)
theorem p_424 {now : TState} {hist : THistory} {mo : TModel} {xs : Nat → Int32} {L : Nat} {i : Int32} {dec : TDecoder} {out : Nat → Int64} (h : RR now hist mo) (g1 : vp_in (i + (1 : Int32)) L) (g2 : vp_in (i + (2 : Int32)) L) (g3 : vp_in (i + (3 : Int32)) L) : OK5 (kf_424 xs L i now hist dec mo out) := by
  unfold kf_424
  exact kp dec out (m_make h)
theorem p_906 {now : TState} {hist : THistory} {mo : TModel} {xs : Nat → Int32} {L : Nat} {i : Int32} {dec : TDecoder} {out : Nat → Int64} (h : RR now hist mo) (g1 : vp_in (i + (1 : Int32)) L) (g2 : vp_in (i + (2 : Int32)) L) (g3 : vp_in (i + (3 : Int32)) L) : OK5 (kf_906 xs L i now hist dec mo out) := by
  unfold kf_906
  exact kp dec out (m_clearCode h)
theorem p_437 {now : TState} {hist : THistory} {mo : TModel} {xs : Nat → Int32} {L : Nat} {i : Int32} {dec : TDecoder} {out : Nat → Int64} (h : RR now hist mo) (g1 : vp_in (i + (1 : Int32)) L) (g2 : vp_in (i + (2 : Int32)) L) (g3 : vp_in (i + (3 : Int32)) L) : OK5 (kf_437 xs L i now hist dec mo out) := by
  unfold kf_437
  obtain ⟨v, mo', e1, e2, e5⟩ := m_commands h
  refine ⟨(now, hist, dec, mo', out), ?_, e5⟩
  rw [e1, e2]; simp only [Option.bind_some]
  exact br_eq trivial
theorem p_1176 {now : TState} {hist : THistory} {mo : TModel} {xs : Nat → Int32} {L : Nat} {i : Int32} {dec : TDecoder} {out : Nat → Int64} (h : RR now hist mo) (g1 : vp_in (i + (1 : Int32)) L) (g2 : vp_in (i + (2 : Int32)) L) (g3 : vp_in (i + (3 : Int32)) L) : OK5 (kf_1176 xs L i now hist dec mo out) := by
  unfold kf_1176
  obtain ⟨v, mo', e1, e2, e5⟩ := m_ratio h
  refine ⟨(now, hist, dec, mo', out), ?_, e5⟩
  rw [e1, e2]; simp only [Option.bind_some]
  by_cases hc : Op.cmpValue (FP.dcmp v v) .l = 0
  · rw [br_eq hc]
  · rw [br_ne hc, br_ne hc, br_ne hc]
theorem p_793 {now : TState} {hist : THistory} {mo : TModel} {xs : Nat → Int32} {L : Nat} {i : Int32} {dec : TDecoder} {out : Nat → Int64} (h : RR now hist mo) (g1 : vp_in (i + (1 : Int32)) L) (g2 : vp_in (i + (2 : Int32)) L) (g3 : vp_in (i + (3 : Int32)) L) : OK5 (kf_793 xs L i now hist dec mo out) := by
  unfold kf_793
  obtain ⟨v, now', mo', e1, e2, e5⟩ := m_leastLoss h
  refine ⟨(now', hist, dec, mo', out), ?_, e5⟩
  rw [e1, e2]; simp only [Option.bind_some]
  exact br_eq trivial
theorem p_1261 {now : TState} {hist : THistory} {mo : TModel} {xs : Nat → Int32} {L : Nat} {i : Int32} {dec : TDecoder} {out : Nat → Int64} (h : RR now hist mo) (g1 : vp_in (i + (1 : Int32)) L) (g2 : vp_in (i + (2 : Int32)) L) (g3 : vp_in (i + (3 : Int32)) L) : OK5 (kf_1261 xs L i now hist dec mo out) := by
  unfold kf_1261
  obtain ⟨v, now', mo', e1, e2, e5⟩ := m_digest h
  refine ⟨(now', hist, dec, mo', out), ?_, e5⟩
  rw [e1, e2]; simp only [Option.bind_some]
  rw [br_eq ((lg_cmp_eq _ _).mpr rfl)]
theorem p_975 {now : TState} {hist : THistory} {mo : TModel} {xs : Nat → Int32} {L : Nat} {i : Int32} {dec : TDecoder} {out : Nat → Int64} (h : RR now hist mo) (g1 : vp_in (i + (1 : Int32)) L) (g2 : vp_in (i + (2 : Int32)) L) (g3 : vp_in (i + (3 : Int32)) L) : OK5 (kf_975 xs L i now hist dec mo out) := by
  unfold kf_975
  obtain ⟨v, now', hist', dec', mo', e1, e2, e5⟩ := m_decode h dec
  refine ⟨(now', hist', dec', mo', out), ?_, e5⟩
  rw [e1, e2]; simp only [Option.bind_some]
  exact br_eq trivial
theorem p_518 {now : TState} {hist : THistory} {mo : TModel} {xs : Nat → Int32} {L : Nat} {i : Int32} {dec : TDecoder} {out : Nat → Int64} (h : RR now hist mo) (g1 : vp_in (i + (1 : Int32)) L) (g2 : vp_in (i + (2 : Int32)) L) (g3 : vp_in (i + (3 : Int32)) L) : OK5 (kf_518 xs L i now hist dec mo out) := by
  unfold kf_518
  simp only [gd_eq g1, gd_eq g2]
  obtain ⟨k, out', b, mo', e1, e2, e3, e4, e5⟩ := m_mustPrecede h out (xs (i + (1 : Int32)).toNatClampNeg) (xs (i + (2 : Int32)).toNatClampNeg)
  refine ⟨(now, hist, dec, mo', out'), ?_, e5⟩
  rw [e1]; simp only [Option.bind_some]
  rw [e2]; simp only [Option.bind_some, X11_thrown]
  rw [br_eq e3]
  by_cases hk : k = 0
  · have e6 := e4 hk
    rw [br_eq hk, gd_eq v01]
    cases b
    · rw [br_eq zI_f]; exact br_eq ((lg_cmp_eq _ _).mpr e6)
    · rw [br_ne (show ¬ zI true = 0 by decide)]; exact br_eq ((lg_cmp_eq _ _).mpr e6)
  · rw [br_ne hk]
theorem pst {now : TState} {hist : THistory} {mo : TModel} {xs : Nat → Int32} {L : Nat} {i : Int32} {dec : TDecoder} {out : Nat → Int64} (h : RR now hist mo) (g0 : vp_in i L) (g1 : vp_in (i + (1 : Int32)) L) (g2 : vp_in (i + (2 : Int32)) L) (g3 : vp_in (i + (3 : Int32)) L) : OK5 (kst xs L i now hist dec mo out) := by
  unfold kst
  rw [gd_eq g0]
  generalize (xs i.toNatClampNeg &&& (31 : Int32)) = v
  by_cases h0 : v = (0 : Int32)
  · rw [br_eq h0]; exact p_152 h g1 g2 g3
  rw [br_ne h0]
  by_cases h1 : v = (1 : Int32)
  · rw [br_eq h1]; exact p_220 h g1 g2 g3
  rw [br_ne h1]
  by_cases h2 : v = (2 : Int32)
  · rw [br_eq h2]; exact p_300 h g1 g2 g3
  rw [br_ne h2]
  by_cases h3 : v = (3 : Int32)
  · rw [br_eq h3]; exact p_356 h g1 g2 g3
  rw [br_ne h3]
  by_cases h4 : v = (4 : Int32)
  · rw [br_eq h4]; exact p_424 h g1 g2 g3
  rw [br_ne h4]
  by_cases h5 : v = (5 : Int32)
  · rw [br_eq h5]; exact p_437 h g1 g2 g3
  rw [br_ne h5]
  by_cases h6 : v = (6 : Int32)
  · rw [br_eq h6]; exact p_450 h g1 g2 g3
  rw [br_ne h6]
  by_cases h7 : v = (7 : Int32)
  · rw [br_eq h7]; exact p_518 h g1 g2 g3
  rw [br_ne h7]
  by_cases h8 : v = (8 : Int32)
  · rw [br_eq h8]; exact p_593 h g1 g2 g3
  rw [br_ne h8]
  by_cases h9 : v = (9 : Int32)
  · rw [br_eq h9]; exact p_649 h g1 g2 g3
  rw [br_ne h9]
  by_cases h10 : v = (10 : Int32)
  · rw [br_eq h10]; exact p_705 h g1 g2 g3
  rw [br_ne h10]
  by_cases h11 : v = (11 : Int32)
  · rw [br_eq h11]; exact p_749 h g1 g2 g3
  rw [br_ne h11]
  by_cases h12 : v = (12 : Int32)
  · rw [br_eq h12]; exact p_793 h g1 g2 g3
  rw [br_ne h12]
  by_cases h13 : v = (13 : Int32)
  · rw [br_eq h13]; exact p_806 h g1 g2 g3
  rw [br_ne h13]
  by_cases h14 : v = (14 : Int32)
  · rw [br_eq h14]; exact p_850 h g1 g2 g3
  rw [br_ne h14]
  by_cases h15 : v = (15 : Int32)
  · rw [br_eq h15]; exact p_906 h g1 g2 g3
  rw [br_ne h15]
  by_cases h16 : v = (16 : Int32)
  · rw [br_eq h16]; exact p_919 h g1 g2 g3
  rw [br_ne h16]
  by_cases h17 : v = (17 : Int32)
  · rw [br_eq h17]; exact p_975 h g1 g2 g3
  rw [br_ne h17]
  by_cases h18 : v = (18 : Int32)
  · rw [br_eq h18]; exact p_988 h g1 g2 g3
  rw [br_ne h18]
  by_cases h19 : v = (19 : Int32)
  · rw [br_eq h19]; exact p_1032 h g1 g2 g3
  rw [br_ne h19]
  by_cases h20 : v = (20 : Int32)
  · rw [br_eq h20]; exact p_1076 h g1 g2 g3
  rw [br_ne h20]
  by_cases h21 : v = (21 : Int32)
  · rw [br_eq h21]; exact p_1132 h g1 g2 g3
  rw [br_ne h21]
  by_cases h22 : v = (22 : Int32)
  · rw [br_eq h22]; exact p_1176 h g1 g2 g3
  rw [br_ne h22]
  by_cases h23 : v = (23 : Int32)
  · rw [br_eq h23]; exact p_1217 h g1 g2 g3
  rw [br_ne h23]
  by_cases h24 : v = (24 : Int32)
  · rw [br_eq h24]; exact p_1261 h g1 g2 g3
  rw [br_ne h24]
  exact ⟨_, rfl, h⟩
theorem pLp {xs : Nat → Int32} {L : Nat} (hL : L ≤ 2048) : ∀ (k m : Nat) (now : TState) (hist : THistory) (dec : TDecoder) (mo : TModel) (out : Nat → Int64), m ≤ L → L < 4 * k + m → RR now hist mo → kLp xs L k (nI m) now hist dec mo out = some () := by
  intro k
  induction k with
  | zero =>
    intro m now hist dec mo out hm hk h
    exact absurd hk (by omega)
  | succ k ih =>
    intro m now hist dec mo out hm hk h
    rw [kLp.eq_2]
    have hs : (Int32.ofNat L - (4 : Int32)).toInt = (L : Int) - 4 := pk_sub_toInt (a := L) (b := 4) (by omega) (by omega)
    by_cases hc : L < m + 4
    · rw [br_eq]
      rw [fa_lt, hs, nI_toInt (by omega)]; omega
    · rw [br_ne (by rw [fa_lt, hs, nI_toInt (by omega)]; omega)]
      have q : ∀ j : Nat, j < 4 → vp_in (nI m + nI j) L := fun j hj => by rw [nI_add]; exact nI_in (by omega) (by omega)
      obtain ⟨r, er, hr⟩ := pst (xs := xs) (L := L) (i := nI m) (dec := dec) (out := out) h (nI_in (by omega) (by omega)) (q 1 (by omega)) (q 2 (by omega)) (q 3 (by omega))
      rw [er, Option.bind_some, show nI m + (4 : Int32) = nI (m + 4) from nI_add m 4]
      exact ih (m + 4) _ _ _ _ _ (by omega) (by omega) hr
abbrev xb0 : XB := (z0, 0)
abbrev xd0 : XD := (0, 0, 0, fun _ => false, fun _ => 0, fun _ => 0, fun _ => 0, z0)
abbrev xs0 : XS := (xb0, xb0, xd0, (false, fun _ => 0, fun _ => false), xb0, (false, 0, xb0))
theorem b10 {cap : Nat} : B1 cap by0 xb0 := ⟨rfl, Nat.zero_le _, fun i hi => absurd hi (Nat.not_lt_zero i)⟩
theorem b20 {cap pl pb : Nat} : B2 cap pl pb z0 xb0 := ⟨rfl, Nat.zero_le _, fun i hi => absurd hi (Nat.not_lt_zero i)⟩
theorem bi0 : BI xb0 := fun i hi => absurd hi (Nat.not_lt_zero i)
theorem RR0 : RR st0 hi0 mo0 := by
  refine ⟨xs0, 0, fun _ => xs0, by omega, ⟨b10, b10, ⟨rfl, rfl, rfl, ?_, ?_, rfl, ?_, Or.inl rfl⟩, ⟨rfl, ?_⟩, b10, ⟨rfl, b10, ?_⟩⟩, ⟨b20, b20, ⟨rfl, rfl, rfl, ?_, ?_⟩, ⟨rfl, ?_⟩, b20, ⟨rfl, ?_⟩⟩, ⟨bi0, bi0, ⟨Nat.zero_le _, Nat.zero_le _, Nat.zero_le _, ?_, Nat.zero_le _, ?_⟩, ?_, bi0, ?_⟩, ⟨rfl, 0, by omega, rfl, ?_⟩, ⟨rfl, ?_⟩, ?_⟩
  all_goals (first | exact fun k hk => absurd hk (Nat.not_lt_zero k) | exact fun q => Bool.noConfusion q)
theorem pure_law {xs : Nat → Int32} {L : Nat} (hL : L ≤ 2048) : kLp xs L 600 0 st0 hi0 dc0 mo0 (fun _ => 0) = some () :=
  pLp hL 600 0 st0 hi0 dc0 mo0 _ (Nat.zero_le _) (by omega) RR0
