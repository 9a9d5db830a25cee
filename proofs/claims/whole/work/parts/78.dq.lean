/-! questions to a delta, on both sides -/
theorem X11_inC {c : Nat} (hc : c < 1073741824) (p : Int32) : f_X11_in p.toInt64 (0 : Int64) ((nI c - (1 : Int32)).toInt64) = some (zI (decide (¬ p < 0 ∧ p < nI c))) := by
  rw [X11_in]
  congr 2
  rw [show (0 : Int64) = (0 : Int32).toInt64 from by decide, ← Bool.decide_and]
  refine decide_eq_decide.mpr ?_
  rw [fa_wide_le, fa_wide_le, fa_le, fa_le, fa_lt, fa_lt, nI_toInt (by omega), show (nI c - 1).toInt = (c : Int) - 1 from pk_sub_toInt (b := 1) (by omega) (by omega), show (0 : Int32).toInt = 0 from by decide]
  omega
theorem X2_hasP (w : TDelta) (p : Int32) : f_X2_has w p = some (zI (decide (¬ p < 0 ∧ p < tC w))) := by
  unfold f_X2_has
  by_cases e : p < 0
  · rw [br_eq e, decide_eq_false (fun q => q.1 e)]; rfl
  · rw [br_ne e]
    by_cases e2 : p < tC w
    · rw [br_ne (Int32.not_le.mpr e2), decide_eq_true ⟨e, e2⟩]; rfl
    · rw [br_eq (Int32.not_lt.mp e2), decide_eq_false (fun q => e2 q.2)]; rfl
theorem X2_has {w : TDelta} {x : XD} (h : tC w = nI (dC x)) (hc : dC x ≤ 30) {j : Nat} (hj : j < 2147483648) : f_X2_has w (nI j) = some (zI (decide (j < dC x))) := by
  rw [X2_hasP, h]
  congr 2
  refine decide_eq_decide.mpr ⟨fun q => (nI_ltI hj (by omega)).mp q.2, fun q => ⟨nI_pos hj, nI_lt q (by omega)⟩⟩
theorem has_y {c j : Nat} (h : j < c) : zI (decide (j < c)) = 1 := by rw [decide_eq_true h]; rfl
theorem has_n {c j : Nat} (h : ¬ j < c) : zI (decide (j < c)) = 0 := by rw [decide_eq_false h]; rfl
section DQ
variable {w : TDelta} {x : XD} {j : Nat}
theorem X2_src (h : D1 w x) (hc : dC x ≤ 30) (hj : j < dC x) : f_X2_sourceOf w (nI j) = some (sI (dK x j) (dR x j)) := by
  unfold f_X2_sourceOf
  rw [X2_has h.2.2.1 hc (by omega), has_y hj, Option.bind_some, br_10, gd_in (by omega) (by omega), nI_clamp (by omega), ← (h.2.2.2.1 j hj).2.1]
theorem X2_tgt (h : D1 w x) (hc : dC x ≤ 30) (hj : j < dC x) : f_X2_targetOf w (nI j) = some (nI (dG x j)) := by
  unfold f_X2_targetOf
  rw [X2_has h.2.2.1 hc (by omega), has_y hj, Option.bind_some, br_10, gd_in (by omega) (by omega), nI_clamp (by omega), ← (h.2.2.2.1 j hj).2.2.1]
theorem X2_len (h : D1 w x) (hc : dC x ≤ 30) (hj : j < dC x) : f_X2_lengthOf w (nI j) = some (nI (dL x j)) := by
  unfold f_X2_lengthOf
  rw [X2_has h.2.2.1 hc (by omega), has_y hj, Option.bind_some, br_10, gd_in (by omega) (by omega), nI_clamp (by omega), ← (h.2.2.2.1 j hj).2.2.2]
theorem X2_pre (h : D1 w x) (hc : dC x ≤ 30) (hj : j < dC x) : f_X2_precedersOf w (nI j) = some (bm (fun i => Pr x i j) (dC x)) := by
  unfold f_X2_precedersOf
  rw [X2_has h.2.2.1 hc (by omega), has_y hj, Option.bind_some, br_10, gd_in (by omega) (by omega), nI_clamp (by omega), ← h.2.2.2.2.1 j hj]
theorem X10_isIn {p : Nat → Bool} {n : Nat} (hn : n ≤ 32) {j : Nat} (hj : j < 31) : f_X10_isIn (bm p n) (nI j) = some (zI (decide (j < n) && p j)) := by
  unfold f_X10_isIn
  rw [bm_in hn hj]
  by_cases e : j < n
  · cases hp : p j
    · rw [if_neg (by simp), br_eq (show nI 0 = 0 from rfl), decide_eq_true e]; rfl
    · rw [if_pos ⟨e, rfl⟩, br_ne (show ¬ nI 1 = 0 by decide), decide_eq_true e]; rfl
  · rw [if_neg (fun q => e q.1), br_eq (show nI 0 = 0 from rfl), decide_eq_false e]; rfl
theorem X2_isC (h : D1 w x) (hc : dC x ≤ 30) (hj : j < 31) : f_X2_isCopy w (nI j) = some (zI (decide (j < dC x) && dK x j)) := by
  unfold f_X2_isCopy
  rw [show w.2.2.2.2.2.2.2.2.2.1 = bm (dK x) (dC x) from h.2.2.2.2.2.1, X10_isIn (by omega) hj, Option.bind_some, gd_z]
theorem X2_isCy (h : D1 w x) (hc : dC x ≤ 30) (hj : j < dC x) : f_X2_isCopy w (nI j) = some (zI (dK x j)) := by
  rw [X2_isC h hc (by omega), decide_eq_true hj, Bool.true_and]
theorem X2_added (h : D1 w x) (hI : DI x) (hj : j < dC x) (hk : dK x j = false) {i : Nat} (hi : i < dL x j) : f_X2_addedAt w (nI (dG x j + i)) = some (dA x (dG x j + i)) := by
  have h3 := hI.2.2.1
  have h4 := (hI.2.2.2.1 j hj).2.1
  unfold f_X2_addedAt
  rw [br_ne (nI_pos (by omega)), br_ne (show ¬ (64 : Int32) ≤ nI (dG x j + i) from nI_ge (b := 64) (by omega) (by omega)), gd_in (by omega) (by omega), nI_clamp (by omega), ← h.2.2.2.2.2.2.1 j hj hk i hi]
/-- what describe says -/
def dsc (x : XD) (k q : Nat) : Int32 := if q = 0 then kI (dK x k) else if q = 1 then sI (dK x k) (dR x k) else if q = 2 then nI (dG x k) else nI (dL x k)
theorem X2_describe (h : D1 w x) (hc : dC x ≤ 30) (hj : j < dC x) {q : Nat} (hq : q < 4) : f_X2_describe w (nI j) (nI q) = some (dsc x j q) := by
  unfold f_X2_describe dsc
  rcases (by omega : q = 0 ∨ q = 1 ∨ q = 2 ∨ q = 3) with e | e | e | e
  · subst e
    rw [br_eq (show nI 0 = 0 from rfl), X2_has h.2.2.1 hc (by omega), has_y hj, Option.bind_some, br_10, gd_in (by omega) (by omega), nI_clamp (by omega), ← (h.2.2.2.1 j hj).1]; rfl
  · subst e
    rw [br_ne (show ¬ nI 1 = 0 by decide), br_eq (show nI 1 = 1 from rfl), X2_src h hc hj]; rfl
  · subst e
    rw [br_ne (show ¬ nI 2 = 0 by decide), br_ne (show ¬ nI 2 = 1 by decide), br_eq (show nI 2 = 2 from rfl), X2_tgt h hc hj]; rfl
  · subst e
    rw [br_ne (show ¬ nI 3 = 0 by decide), br_ne (show ¬ nI 3 = 1 by decide), br_ne (show ¬ nI 3 = 2 by decide), X2_len h hc hj]; rfl
end DQ
section DM
variable {w : TModel} {x : XD} {j i : Nat}
theorem X11_of (w : TModel) {k q : Nat} (hk : k < 30) (hq : q < 4) : f_X11_of w (nI k) (nI q) = some (mA w (133 + 4 * k + q)) := by
  unfold f_X11_of
  simp (disch := omega) only [br_T, br_F, gd_T, br_le_t, br_le_f, br_lt_t, br_lt_f, br_eq_t, br_eq_f, br_m1, br_rf, br_0m, gd_in, gd_01, nI_add, nI_sb, pk_mul, nI_clamp, nm_eq, Option.bind_some, l_0, l_1, l_2, l_3, l_4, l_5, l_12, l_30, l_64, l_73, l_130, l_131, l_132, l_133, l_200, l_251, l_253, l_255, l_317, l_318, l_348, l_349, l_350, l_550, l_551, l_552, l_553, l_617, l_1851]
theorem of_dsc (h : D2 (mA w) x) (hc : dC x ≤ 30) (hj : j < dC x) {q : Nat} (hq : q < 4) : f_X11_of w (nI j) (nI q) = some (dsc x j q) := by
  rw [X11_of w (by omega) hq]
  obtain ⟨h1, h2, h3, h4⟩ := h.2.2.2.1 j hj
  unfold dsc
  rcases (by omega : q = 0 ∨ q = 1 ∨ q = 2 ∨ q = 3) with e | e | e | e
  · subst e; exact congrArg some h1
  · subst e; exact congrArg some h2
  · subst e; exact congrArg some h3
  · subst e; exact congrArg some h4
theorem of_0 (h : D2 (mA w) x) (hc : dC x ≤ 30) (hj : j < dC x) : f_X11_of w (nI j) 0 = some (kI (dK x j)) := of_dsc (q := 0) h hc hj (by omega)
theorem of_1 (h : D2 (mA w) x) (hc : dC x ≤ 30) (hj : j < dC x) : f_X11_of w (nI j) 1 = some (sI (dK x j) (dR x j)) := of_dsc (q := 1) h hc hj (by omega)
theorem of_2 (h : D2 (mA w) x) (hc : dC x ≤ 30) (hj : j < dC x) : f_X11_of w (nI j) 2 = some (nI (dG x j)) := of_dsc (q := 2) h hc hj (by omega)
theorem of_3 (h : D2 (mA w) x) (hc : dC x ≤ 30) (hj : j < dC x) : f_X11_of w (nI j) 3 = some (nI (dL x j)) := of_dsc (q := 3) h hc hj (by omega)
theorem X11_isC (h : D2 (mA w) x) (hc : dC x ≤ 30) (hj : j < dC x) : f_X11_isCopy w (nI j) = some (zI (dK x j)) := by
  unfold f_X11_isCopy
  rw [of_0 h hc hj, Option.bind_some]
  cases dK x j
  · exact br_ne (show ¬ nI 2 = 1 by decide)
  · exact br_eq (show nI 1 = 1 from rfl)
theorem X11_precedes (h : D2 (mA w) x) (hI : DI x) (hi : i < dC x) (hj : j < dC x) : f_X11_precedes w (nI i) (nI j) = some (zI (Pr x i j)) := by
  have hc := hI.1
  have bi := hI.2.2.2.1 i hi
  have bj := hI.2.2.2.1 j hj
  have b2 := hI.2.1
  have b3 := hI.2.2.1
  unfold f_X11_precedes Pr
  by_cases e : i = j
  · subst e
    rw [br_eq rfl]; simp [zI]; rfl
  · rw [br_ne (fun q => e ((nI_eq (by omega) (by omega)).mp q)), X11_isC h hc hi, Option.bind_some, br_z0]
    have e2 : (i == j) = false := beq_eq_false_iff_ne.mpr e
    cases hki : dK x i
    · simp [zI]; rfl
    · rw [if_pos rfl, X11_isC h hc hj, Option.bind_some, br_z0]
      cases hkj : dK x j
      · simp [zI]; rfl
      · rw [if_pos rfl, of_1 h hc hi, of_2 h hc hj, of_3 h hc hj, of_3 h hc hi, hki]
        have bi2 := bi.2.2 hki
        have es : sI true (dR x i) = nI (dR x i) := rfl
        simp only [Option.bind_some, es, nI_add, e2]
        by_cases q1 : dR x i < dG x j + dL x j
        · rw [br_le_f (by omega) (by omega)]
          by_cases q2 : dG x j < dR x i + dL x i
          · rw [br_le_f (by omega) (by omega)]; simp [q1, q2, zI]; rfl
          · rw [br_le_t (by omega) (by omega)]; simp [q2, zI]; rfl
        · rw [br_le_t (by omega) (by omega)]; simp [q1, zI]; rfl
theorem X11_isCmd (h : D2 (mA w) x) (hc : dC x ≤ 30) (p : Int32) : f_X11_isCommand w p = some (zI (decide (¬ p < 0 ∧ p < nI (dC x)))) := by
  unfold f_X11_isCommand
  rw [gd_132, c_132, show w.1 132 = nI (dC x) from h.2.2.1, X11_inC (by omega), Option.bind_some, gd_z]
end DM
