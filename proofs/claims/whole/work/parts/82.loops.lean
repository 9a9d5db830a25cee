/-! loss; matches; compare -/
theorem bm_z1 {p : Nat → Bool} {n j : Nat} (hn : n ≤ 30) (hj : j < n) : ((bm p n >>> (nI j &&& 31)) &&& (1 : Int32)) = zI (p j) := by
  rw [bm_in (by omega) (by omega)]
  cases hp : p j
  · rw [if_neg (by simp)]; rfl
  · rw [if_pos ⟨hj, rfl⟩]; rfl
theorem loss4 {w : TModel} {x : XD} (h : D2 (mA w) x) (hc : dC x ≤ 30) (q : Nat → Bool) : ∀ d i k : Nat, i + d = dC x → d < k → f_X11_lossOf_L4 w (bm q (dC x)) k (nI i) (nI (fb_sm (fun k => if q k then dL x k else 0) i)) = some (nI (lossOf x q)) := by
  intro d
  induction d with
  | zero =>
    intro i k hi hk
    obtain ⟨k, rfl⟩ : ∃ k', k = k' + 1 := ⟨k - 1, by omega⟩
    rw [f_X11_lossOf_L4.eq_2, gd_132, c_132, show w.1 132 = nI (dC x) from h.2.2.1, br_le_t (by omega) (by omega)]
    unfold lossOf
    rw [show i = dC x by omega]
  | succ d ih =>
    intro i k hi hk
    obtain ⟨k, rfl⟩ : ∃ k', k = k' + 1 := ⟨k - 1, by omega⟩
    rw [f_X11_lossOf_L4.eq_2, gd_132, c_132, show w.1 132 = nI (dC x) from h.2.2.1, br_le_f (by omega) (by omega), bm_z1 hc (by omega), br_z1, of_3 h hc (by omega), Option.bind_some]
    unfold f_X11_lossOf_J36
    have h2 := ih (i + 1) k (by omega) (by omega)
    rw [fb_sm_succ] at h2
    cases hq : q i
    · rw [hq] at h2
      rw [if_neg (by decide), show nI i + 1 = nI (i + 1) from nI_1 i, show nI (fb_sm (fun k => if q k then dL x k else 0) i) + 0 = nI (fb_sm (fun k => if q k then dL x k else 0) i + 0) from nI_add _ 0]
      exact h2
    · rw [hq] at h2
      rw [if_pos rfl, show nI i + 1 = nI (i + 1) from nI_1 i, nI_add]
      exact h2
theorem X11_lossOf {w : TModel} {x : XD} (h : D2 (mA w) x) (hc : dC x ≤ 30) (q : Nat → Bool) : f_X11_lossOf w (bm q (dC x)) = some (nI (lossOf x q)) := loss4 h hc q (dC x) 0 FUEL (by omega) (by show _ < 10000; omega)
theorem m_loss {now : TState} {hist : THistory} {mo : TModel} (h : RR now hist mo) (out : Nat → Int64) : OKr now hist (f_L_loss now out) (f_X11_loss mo) := by
  obtain ⟨x, n, f, hn, h1, h2, hI, h3, h4, hf⟩ := id h
  have hp1 := h1.2.2.2.1
  have hp2 := h2.2.2.2.1
  have hx := X11_isPlanned hp2
  by_cases ht : x.2.2.2.1.1 = true
  · refine okr_d h (out := out) (v := nI (lossOf x.2.2.1 x.2.2.2.1.2.2)) ?_ ?_
    · unfold f_L_loss f_X10_loss
      simp only [br_T, br_F, gd_T, br_00, br_10, Option.bind_some, rx_0, rx_s, el_l, el_r, br_A_A, br_S_S, br_I_I, br_S_A, br_I_A, br_A_I, br_I_S, gd_o, goes_00, goes_01, goes_10, goes_11, zI_t, zI_f, ri_0, ri_1, gd_130, c_130, gd_131, c_131, gd_132, c_132, gd_317, c_317, gd_348, c_348, gd_349, c_349, gd_550, c_550, gd_551, c_551, gd_552, c_552, rp_y hp1 ht, (hp1.2 ht).2.2.2]
    · unfold f_X11_loss
      rw [zI_y ht] at hx
      simp only [br_T, br_F, gd_T, br_00, br_10, Option.bind_some, rx_0, rx_s, el_l, el_r, br_A_A, br_S_S, br_I_I, br_S_A, br_I_A, br_A_I, br_I_S, gd_o, goes_00, goes_01, goes_10, goes_11, zI_t, zI_f, ri_0, ri_1, gd_130, c_130, gd_131, c_131, gd_132, c_132, gd_317, c_317, gd_348, c_348, gd_349, c_349, gd_550, c_550, gd_551, c_551, gd_552, c_552, hx, show (sT mo 0).1 348 = bm x.2.2.2.1.2.2 (dC x.2.2.1) from (hp2.2 ht).2, X11_lossOf (w := sT mo 0) h2.2.2.1 hI.2.2.1.1]
  · refine okr_t h (out := out) (b := 0) (t := 1) ?_ ?_ (by decide)
    · unfold f_L_loss f_X10_loss
      simp only [br_T, br_F, gd_T, br_00, br_10, Option.bind_some, rx_0, rx_s, el_l, el_r, br_A_A, br_S_S, br_I_I, br_S_A, br_I_A, br_A_I, br_I_S, gd_o, goes_00, goes_01, goes_10, goes_11, zI_t, zI_f, ri_0, ri_1, gd_130, c_130, gd_131, c_131, gd_132, c_132, gd_317, c_317, gd_348, c_348, gd_349, c_349, gd_550, c_550, gd_551, c_551, gd_552, c_552, rp_n hp1 ht]
    · unfold f_X11_loss
      rw [zI_n ht] at hx
      simp only [br_T, br_F, gd_T, br_00, br_10, Option.bind_some, rx_0, rx_s, el_l, el_r, br_A_A, br_S_S, br_I_I, br_S_A, br_I_A, br_A_I, br_I_S, gd_o, goes_00, goes_01, goes_10, goes_11, zI_t, zI_f, ri_0, ri_1, gd_130, c_130, gd_131, c_131, gd_132, c_132, gd_317, c_317, gd_348, c_348, gd_349, c_349, gd_550, c_550, gd_551, c_551, gd_552, c_552, hx]
theorem first_is {p : Nat → Bool} {n i : Nat} (h1 : i ≤ n) (h2 : ∀ e, e < i → p e = false) (h3 : i < n → p i = true) : fa_first p n = i := by
  have a := fa_first_le p n
  rcases Nat.lt_trichotomy (fa_first p n) i with q | q | q
  · have := fa_first_yes p n (by omega)
    rw [h2 _ q] at this; cases this
  · exact q
  · have h4 := h3 (by omega)
    rw [fa_first_no p n i q] at h4; cases h4
/-- how long two rows agree, from s and t on -/
def mt (x y : XB) (s t : Nat) : Nat := fa_first (fun i => decide (x.1 (s + i) ≠ y.1 (t + i))) (min (x.2 - s) (y.2 - t))
theorem mt_is {x y : XB} {s t i : Nat} (h1 : i ≤ min (x.2 - s) (y.2 - t)) (h2 : ∀ e, e < i → x.1 (s + e) = y.1 (t + e)) (h3 : i < min (x.2 - s) (y.2 - t) → x.1 (s + i) ≠ y.1 (t + i)) : mt x y s t = i := first_is h1 (fun e q => decide_eq_false (fun z => z (h2 e q))) (fun q => decide_eq_true (h3 q))
theorem mt_le (x y : XB) (s t : Nat) : mt x y s t ≤ min (x.2 - s) (y.2 - t) := fa_first_le _ _
theorem common20 {n0 n2 : Nat} (hn0 : n0 < 1073741824) (hn2 : n2 < 1073741824) {w0 w2 : TBytes} {x y : XB} (h0 : B1 n0 w0 x) (h2 : B1 n2 w2 y) {s t : Nat} : ∀ d i k : Nat, i + d = min (x.2 - s) (y.2 - t) → d < k → (∀ e, e < i → x.1 (s + e) = y.1 (t + e)) → f_X0_common_L20 n0 n2 w0 w2 (nI s) (nI t) k (nI i) (nI (min (x.2 - s) (y.2 - t))) = some (nI (mt x y s t)) := by
  have a0 := h0.2.1
  have a2 := h2.2.1
  intro d
  induction d with
  | zero =>
    intro i k hi hk he
    obtain ⟨k, rfl⟩ : ∃ k', k = k' + 1 := ⟨k - 1, by omega⟩
    rw [f_X0_common_L20.eq_2, br_le_t (by omega) (by omega)]
    congr 2
    exact (mt_is (by omega) he (fun q => by omega)).symm
  | succ d ih =>
    intro i k hi hk he
    obtain ⟨k, rfl⟩ : ∃ k', k = k' + 1 := ⟨k - 1, by omega⟩
    rw [f_X0_common_L20.eq_2, br_le_f (by omega) (by omega), nI_add, nI_add, X0_at (by omega) h0 (by omega), X0_at (by omega) h2 (by omega), Option.bind_some, Option.bind_some]
    by_cases q : x.1 (s + i) = y.1 (t + i)
    · rw [br_eq q, show nI i + 1 = nI (i + 1) from nI_1 i]
      refine ih (i + 1) k (by omega) (by omega) (fun e he2 => ?_)
      by_cases z : e = i
      · rw [z]; exact q
      · exact he e (by omega)
    · rw [br_ne q]
      congr 2
      exact (mt_is (by omega) he (fun _ => q)).symm
theorem X0_common {n0 n2 : Nat} (hn0 : n0 < 1000) (hn2 : n2 < 1000) {w0 w2 : TBytes} {x y : XB} (h0 : B1 n0 w0 x) (h2 : B1 n2 w2 y) {s t : Nat} (hs : s ≤ x.2) (ht : t ≤ y.2) : f_X0_common n0 w0 n2 w2 (nI s) (nI t) = some (nI (mt x y s t)) := by
  have a0 := h0.2.1
  have a2 := h2.2.1
  unfold f_X0_common
  rw [nm_eq, h0.1, h2.1, nI_sb hs, nI_sb ht]
  have e : (if nI (y.2 - t) < nI (x.2 - s) then nI (y.2 - t) else nI (x.2 - s)) = nI (min (x.2 - s) (y.2 - t)) := by
    by_cases q : y.2 - t < x.2 - s
    · rw [if_pos (nI_lt q (by omega))]; congr 1; omega
    · rw [if_neg (nI_nlt (by omega) (by omega))]; congr 1; omega
  rw [e]
  exact common20 (by omega) (by omega) h0 h2 (min (x.2 - s) (y.2 - t)) 0 FUEL (by omega) (by show _ < 10000; omega) (fun e q => by omega)
theorem match2 {w : TModel} {x : XS} (h : S2 (mA w) x) {s t : Nat} (hs : s < 1000) (ht : t ≤ x.2.1.2) : ∀ d i k : Nat, i + d = min (x.1.2 - s) (x.2.1.2 - t) → d < k → (∀ e, e < i → x.1.1 (s + e) = x.2.1.1 (t + e)) → f_X11_matchLong_L2 w (nI s) (nI t) k (nI i) = some (nI (mt x.1 x.2.1 s t)) := by
  have a0 := h.1.2.1
  have a2 := h.2.1.2.1
  have l0 : f_X11_longOf w 0 = some (nI x.1.2) := (X11_longOf w (v := 0) (by omega)).trans (congrArg some h.1.1)
  have l1 : f_X11_longOf w 1 = some (nI x.2.1.2) := (X11_longOf w (v := 1) (by omega)).trans (congrArg some h.2.1.1)
  intro d
  induction d with
  | zero =>
    intro i k hi hk he
    obtain ⟨k, rfl⟩ : ∃ k', k = k' + 1 := ⟨k - 1, by omega⟩
    have e : some (nI i) = some (nI (mt x.1 x.2.1 s t)) := by
      congr 2
      exact (mt_is (by omega) he (fun q => by omega)).symm
    rw [f_X11_matchLong_L2.eq_2, l0, Option.bind_some, nI_add, nI_add, l1, Option.bind_some]
    by_cases q : x.1.2 ≤ s + i
    · rw [br_le_t q (by omega)]; exact e
    · rw [br_le_f (by omega) (by omega), br_le_t (by omega) (by omega)]; exact e
  | succ d ih =>
    intro i k hi hk he
    obtain ⟨k, rfl⟩ : ∃ k', k = k' + 1 := ⟨k - 1, by omega⟩
    have y0 : f_X11_byteAt w 0 (nI (s + i)) = some (x.1.1 (s + i)) := (X11_byteAt w (v := 0) (by omega) (by omega)).trans (congrArg some (h.1.2.2 (s + i) (by omega)))
    have y1 : f_X11_byteAt w 1 (nI (t + i)) = some (x.2.1.1 (t + i)) := (X11_byteAt w (v := 1) (by omega) (by omega)).trans (congrArg some (h.2.1.2.2 (t + i) (by omega)))
    rw [f_X11_matchLong_L2.eq_2, l0, Option.bind_some, nI_add, nI_add, l1, Option.bind_some, br_le_f (by omega) (by omega), br_le_f (by omega) (by omega), y0, y1, Option.bind_some, Option.bind_some]
    by_cases q : x.1.1 (s + i) = x.2.1.1 (t + i)
    · rw [br_eq q, show nI i + 1 = nI (i + 1) from nI_1 i]
      refine ih (i + 1) k (by omega) (by omega) (fun e he2 => ?_)
      by_cases z : e = i
      · rw [z]; exact q
      · exact he e (by omega)
    · rw [br_ne q]
      congr 2
      exact (mt_is (by omega) he (fun _ => q)).symm
theorem X11_match {w : TModel} {x : XS} (h : S2 (mA w) x) {s t : Nat} (hs : s < 1000) (ht : t ≤ x.2.1.2) : f_X11_matchLong w (nI s) (nI t) = some (nI (mt x.1 x.2.1 s t)) := by
  have a0 := h.1.2.1
  exact match2 h hs ht _ 0 FUEL (Nat.zero_add _) (by show _ < 10000; omega) (fun e q => by omega)
/-- what compare answers -/
def cmpR (x y : XB) : Int32 := if mt x y 0 0 = x.2 ∧ mt x y 0 0 = y.2 then -1 else nI (mt x y 0 0)
theorem cmp16 {w : TModel} {x : XS} (h : S2 (mA w) x) (ht : x.2.2.2.2.2.1 = true) : ∀ d i k : Nat, i + d = min x.2.2.2.2.2.2.2.2 x.2.1.2 → d < k → (∀ e, e < i → x.2.2.2.2.2.2.2.1 e = x.2.1.1 e) → f_X11_compare_L16 k w (nI i) = some (cmpR x.2.2.2.2.2.2.2 x.2.1, w) := by
  have hw := (h.2.2.2.2.2.2 ht).2
  have a0 := hw.2.1
  have a2 := h.2.1.2.1
  have l1 : f_X11_longOf w 1 = some (nI x.2.1.2) := (X11_longOf w (v := 1) (by omega)).trans (congrArg some h.2.1.1)
  have e552 : w.1 552 = nI x.2.2.2.2.2.2.2.2 := hw.1
  have fin : ∀ i, mt x.2.2.2.2.2.2.2 x.2.1 0 0 = i → f_X11_compare_J62 w (nI i) = some (cmpR x.2.2.2.2.2.2.2 x.2.1, w) := by
    intro i e
    have hle := mt_le x.2.2.2.2.2.2.2 x.2.1 0 0
    unfold f_X11_compare_J62 cmpR
    rw [gd_552, c_552, e552, l1, Option.bind_some, e]
    rw [e] at hle
    by_cases q1 : i = x.2.2.2.2.2.2.2.2
    · rw [br_eq (by rw [q1])]
      by_cases q2 : i = x.2.1.2
      · rw [br_eq (by rw [q2]), if_pos ⟨q1, q2⟩]
      · rw [br_eq_f q2 (by omega) (by omega), if_neg (fun z => q2 z.2)]
    · rw [br_eq_f q1 (by omega) (by omega), if_neg (fun z => q1 z.1)]
  intro d
  induction d with
  | zero =>
    intro i k hi hk he
    obtain ⟨k, rfl⟩ : ∃ k', k = k' + 1 := ⟨k - 1, by omega⟩
    have e : mt x.2.2.2.2.2.2.2 x.2.1 0 0 = i := mt_is (by omega) (fun e q => by rw [Nat.zero_add]; exact he e q) (fun q => by omega)
    rw [f_X11_compare_L16.eq_2, gd_552, c_552, e552, l1, Option.bind_some]
    by_cases q : x.2.2.2.2.2.2.2.2 ≤ i
    · rw [br_le_t q (by omega)]; exact fin i e
    · rw [br_le_f (by omega) (by omega), br_le_t (by omega) (by omega)]; exact fin i e
  | succ d ih =>
    intro i k hi hk he
    obtain ⟨k, rfl⟩ : ∃ k', k = k' + 1 := ⟨k - 1, by omega⟩
    have y1 : f_X11_byteAt w 1 (nI i) = some (x.2.1.1 i) := (X11_byteAt w (v := 1) (by omega) (by omega)).trans (congrArg some (h.2.1.2.2 i (by omega)))
    rw [f_X11_compare_L16.eq_2, gd_552, c_552, e552, l1, Option.bind_some, br_le_f (by omega) (by omega), br_le_f (by omega) (by omega), show (553 : Int32) + nI i = nI (553 + i) from nI_add 553 i, gd_in (by omega) (by omega), nI_clamp (by omega), y1, Option.bind_some, show w.1 (553 + i) = x.2.2.2.2.2.2.2.1 i from hw.2.2 i (by omega)]
    by_cases q : x.2.2.2.2.2.2.2.1 i = x.2.1.1 i
    · rw [br_eq q, show nI i + 1 = nI (i + 1) from nI_1 i]
      refine ih (i + 1) k (by omega) (by omega) (fun e he2 => ?_)
      by_cases z : e = i
      · rw [z]; exact q
      · exact he e (by omega)
    · rw [br_ne q]
      exact fin i (mt_is (by omega) (fun e q => by rw [Nat.zero_add]; exact he e q) (fun _ => by rw [Nat.zero_add]; exact q))
theorem m_compare {now : TState} {hist : THistory} {mo : TModel} (h : RR now hist mo) (out : Nat → Int64) : OKr now hist (f_L_compare now out) (f_X11_compare mo) := by
  obtain ⟨x, n, f, hn, h1, h2, hI, h3, h4, hf⟩ := id h
  have hw := h2.2.2.2.2.2
  have hw1 := h1.2.2.2.2.2
  have hx := X11_works hw
  by_cases ht : x.2.2.2.2.2.1 = true
  · rw [zI_y ht] at hx
    have a0 := hw1.2.1.2.1
    have a1 := h1.2.1.2.1
    refine okr_d h (out := out) (v := cmpR x.2.2.2.2.2.2.2 x.2.1) ?_ ?_
    · unfold f_L_compare f_X10_compare
      rw [rw_y hw1 ht, show f_X0_common 64 now.2.2.2.2.2.1 64 now.2.1 (0 : Int32) (0 : Int32) = _ from X0_common (s := 0) (t := 0) (by omega) (by omega) hw1.2.1 h1.2.1 (by omega) (by omega)]
      simp only [br_T, br_F, gd_T, br_00, br_10, Option.bind_some, rx_0, rx_s, el_l, el_r, br_A_A, br_S_S, br_I_I, br_S_A, br_I_A, br_A_I, br_I_S, gd_o, goes_00, goes_01, goes_10, goes_11, zI_t, zI_f, ri_0, ri_1, gd_130, c_130, gd_131, c_131, gd_132, c_132, gd_317, c_317, gd_348, c_348, gd_349, c_349, gd_550, c_550, gd_551, c_551, gd_552, c_552, hw1.2.1.1, h1.2.1.1]
      have hle := mt_le x.2.2.2.2.2.2.2 x.2.1 0 0
      unfold cmpR
      by_cases q1 : mt x.2.2.2.2.2.2.2 x.2.1 0 0 = x.2.2.2.2.2.2.2.2
      · rw [br_eq_t q1]
        by_cases q2 : mt x.2.2.2.2.2.2.2 x.2.1 0 0 = x.2.1.2
        · rw [br_eq_t q2, if_pos ⟨q1, q2⟩]; simp only [br_T, br_F, gd_T, br_00, br_10, Option.bind_some, rx_0, rx_s, el_l, el_r, br_A_A, br_S_S, br_I_I, br_S_A, br_I_A, br_A_I, br_I_S, gd_o, goes_00, goes_01, goes_10, goes_11, zI_t, zI_f, ri_0, ri_1, gd_130, c_130, gd_131, c_131, gd_132, c_132, gd_317, c_317, gd_348, c_348, gd_349, c_349, gd_550, c_550, gd_551, c_551, gd_552, c_552]
        · rw [br_eq_f q2 (by omega) (by omega), if_neg (fun z => q2 z.2)]; simp only [br_T, br_F, gd_T, br_00, br_10, Option.bind_some, rx_0, rx_s, el_l, el_r, br_A_A, br_S_S, br_I_I, br_S_A, br_I_A, br_A_I, br_I_S, gd_o, goes_00, goes_01, goes_10, goes_11, zI_t, zI_f, ri_0, ri_1, gd_130, c_130, gd_131, c_131, gd_132, c_132, gd_317, c_317, gd_348, c_348, gd_349, c_349, gd_550, c_550, gd_551, c_551, gd_552, c_552]
      · rw [br_eq_f q1 (by omega) (by omega), if_neg (fun z => q1 z.1)]; simp only [br_T, br_F, gd_T, br_00, br_10, Option.bind_some, rx_0, rx_s, el_l, el_r, br_A_A, br_S_S, br_I_I, br_S_A, br_I_A, br_A_I, br_I_S, gd_o, goes_00, goes_01, goes_10, goes_11, zI_t, zI_f, ri_0, ri_1, gd_130, c_130, gd_131, c_131, gd_132, c_132, gd_317, c_317, gd_348, c_348, gd_349, c_349, gd_550, c_550, gd_551, c_551, gd_552, c_552]
    · unfold f_X11_compare
      simp only [br_T, br_F, gd_T, br_00, br_10, Option.bind_some, rx_0, rx_s, el_l, el_r, br_A_A, br_S_S, br_I_I, br_S_A, br_I_A, br_A_I, br_I_S, gd_o, goes_00, goes_01, goes_10, goes_11, zI_t, zI_f, ri_0, ri_1, gd_130, c_130, gd_131, c_131, gd_132, c_132, gd_317, c_317, gd_348, c_348, gd_349, c_349, gd_550, c_550, gd_551, c_551, gd_552, c_552, hx]
      exact cmp16 (w := sT mo 0) h2 ht _ 0 FUEL (Nat.zero_add _) (by show _ < 10000; omega) (fun e q => by omega)
  · refine okr_t h (out := out) (b := 0) (t := 1) ?_ ?_ (by decide)
    · unfold f_L_compare f_X10_compare
      simp only [br_T, br_F, gd_T, br_00, br_10, Option.bind_some, rx_0, rx_s, el_l, el_r, br_A_A, br_S_S, br_I_I, br_S_A, br_I_A, br_A_I, br_I_S, gd_o, goes_00, goes_01, goes_10, goes_11, zI_t, zI_f, ri_0, ri_1, gd_130, c_130, gd_131, c_131, gd_132, c_132, gd_317, c_317, gd_348, c_348, gd_349, c_349, gd_550, c_550, gd_551, c_551, gd_552, c_552, rw_n hw1 ht]
    · unfold f_X11_compare
      rw [zI_n ht] at hx
      simp only [br_T, br_F, gd_T, br_00, br_10, Option.bind_some, rx_0, rx_s, el_l, el_r, br_A_A, br_S_S, br_I_I, br_S_A, br_I_A, br_A_I, br_I_S, gd_o, goes_00, goes_01, goes_10, goes_11, zI_t, zI_f, ri_0, ri_1, gd_130, c_130, gd_131, c_131, gd_132, c_132, gd_317, c_317, gd_348, c_348, gd_349, c_349, gd_550, c_550, gd_551, c_551, gd_552, c_552, hx]
