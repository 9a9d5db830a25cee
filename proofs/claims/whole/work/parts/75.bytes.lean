/-! bytes; parts of the reference's array that a store leaves alone -/
theorem B2_cong {cap pl pb : Nat} {a b : Nat → Int32} {x : XB} (h0 : a pl = b pl) (h : ∀ k, pb ≤ k → k < pb + cap → a k = b k) (hs : B2 cap pl pb a x) : B2 cap pl pb b x :=
  ⟨h0 ▸ hs.1, hs.2.1, fun i hi => by rw [← h _ (by omega) (by have := hs.2.1; omega)]; exact hs.2.2 i hi⟩
theorem D2_cong {a b : Nat → Int32} {x : XD} (hI : DI x) (h : ∀ k, 130 ≤ k → k < 317 → a k = b k) (hs : D2 a x) : D2 b x := by
  obtain ⟨d1, d2, d3, d4, d5⟩ := hs
  obtain ⟨i1, i2, i3, i4, -⟩ := hI
  refine ⟨by rw [← h _ (by omega) (by omega)]; exact d1, by rw [← h _ (by omega) (by omega)]; exact d2, by rw [← h _ (by omega) (by omega)]; exact d3, fun k hk => ?_, fun k hk hc i hi => ?_⟩
  · obtain ⟨e1, e2, e3, e4⟩ := d4 k hk
    exact ⟨by rw [← h _ (by omega) (by omega)]; exact e1, by rw [← h _ (by omega) (by omega)]; exact e2, by rw [← h _ (by omega) (by omega)]; exact e3, by rw [← h _ (by omega) (by omega)]; exact e4⟩
  · have := i4 k hk
    rw [← h _ (by omega) (by omega)]; exact d5 k hk hc i hi
theorem P2_cong {a b : Nat → Int32} {x : XD} {y : XP} (hc : dC x ≤ 30) (h : ∀ k, 317 ≤ k → k < 349 → a k = b k) (hs : P2 a x y) : P2 b x y :=
  ⟨by rw [← h _ (by omega) (by omega)]; exact hs.1, fun ht => ⟨fun k hk => by rw [← h _ (by omega) (by omega)]; exact (hs.2 ht).1 k hk, by rw [← h _ (by omega) (by omega)]; exact (hs.2 ht).2⟩⟩
theorem W2_cong {a b : Nat → Int32} {y : XW} (h : ∀ k, 550 ≤ k → k < 617 → a k = b k) (hs : W2 a y) : W2 b y :=
  ⟨by rw [← h _ (by omega) (by omega)]; exact hs.1, fun ht => ⟨by rw [← h _ (by omega) (by omega)]; exact (hs.2 ht).1, B2_cong (h _ (by omega) (by omega)) (fun k h1 h2 => h k (by omega) (by omega)) (hs.2 ht).2⟩⟩
theorem X0_isFull {cap : Nat} (hc : cap < 2147483648) {w : TBytes} {x : XB} (h : B1 cap w x) : f_X0_isFull cap w = some (zI (decide (cap ≤ x.2))) := by
  unfold f_X0_isFull
  obtain ⟨h1, h2, -⟩ := h
  rw [h1]
  by_cases e : cap ≤ x.2
  · rw [br_ne (nI_nlt e (by omega)), decide_eq_true e]; rfl
  · rw [br_eq (nI_lt (by omega) hc), decide_eq_false e]; rfl
theorem X0_has (cap : Nat) (w : TBytes) (p : Int32) : f_X0_has cap w p = some (zI (decide (¬ p < 0 ∧ p < w.2))) := by
  unfold f_X0_has
  by_cases e : p < 0
  · rw [br_eq e, decide_eq_false (fun q => q.1 e)]; rfl
  · rw [br_ne e]
    by_cases e2 : p < w.2
    · rw [br_ne (Int32.not_le.mpr e2), decide_eq_true ⟨e, e2⟩]; rfl
    · rw [br_eq (Int32.not_lt.mp e2), decide_eq_false (fun q => e2 q.2)]; rfl
theorem X0_hasI {cap : Nat} (hc : cap < 2147483648) {w : TBytes} {x : XB} (h : B1 cap w x) {j : Nat} (hj : j < 2147483648) : f_X0_has cap w (nI j) = some (zI (decide (j < x.2))) := by
  rw [X0_has, h.1]
  have h2 := h.2.1
  congr 2
  refine decide_eq_decide.mpr ⟨fun q => (nI_ltI hj (by omega)).mp q.2, fun q => ⟨nI_pos hj, nI_lt q (by omega)⟩⟩
theorem X0_at {cap : Nat} (hc : cap < 2147483648) {w : TBytes} {x : XB} (h : B1 cap w x) {j : Nat} (hj : j < x.2) : f_X0_at cap w (nI j) = some (x.1 j) := by
  have h2 := h.2.1
  unfold f_X0_at
  rw [X0_hasI hc h (by omega), decide_eq_true hj, Option.bind_some, br_z0, if_pos rfl, gd_in (by omega) hc, nI_clamp (by omega), h.2.2 j hj]
theorem X0_no {cap : Nat} (hc : cap < 2147483648) {w : TBytes} {x : XB} (h : B1 cap w x) {j : Nat} (hj : x.2 ≤ j) (hj2 : j < 2147483648) : f_X0_at cap w (nI j) = some (-1) := by
  unfold f_X0_at
  rw [X0_hasI hc h hj2, decide_eq_false (by omega), Option.bind_some, br_z0, if_neg (by decide)]
theorem X0_push {cap : Nat} (hc : cap < 2147483648) {w : TBytes} {x : XB} (h : B1 cap w x) (hj : x.2 < cap) (v : Int32) : ∃ r, f_X0_push cap w v = some r ∧ B1 cap r (fun k => if k = x.2 then v else x.1 k, x.2 + 1) := by
  unfold f_X0_push
  refine ex_of (by rw [X0_isFull hc h, decide_eq_false (by omega), Option.bind_some, br_z0, if_neg (by decide), h.1, gd_in hj hc, nI_clamp (by omega), nI_1]) ?_
  refine ⟨rfl, by show x.2 + 1 ≤ cap; omega, fun i hi => ?_⟩
  show (if i = x.2 then v else w.1 i) = if i = x.2 then v else x.1 i
  by_cases e : i = x.2
  · rw [if_pos e, if_pos e]
  · rw [if_neg e, if_neg e]; exact h.2.2 i (by have : i < x.2 + 1 := hi; omega)
theorem X0_put {cap : Nat} (hc : cap < 2147483648) {w : TBytes} {x : XB} (h : B1 cap w x) {j : Nat} (hj : j < x.2) (v : Int32) : ∃ r, f_X0_put cap w (nI j) v = some r ∧ B1 cap r (fun k => if k = j then v else x.1 k, x.2) := by
  have h2 := h.2.1
  unfold f_X0_put
  refine ex_of (by rw [X0_hasI hc h (by omega), decide_eq_true hj, Option.bind_some, br_z0, if_pos rfl, gd_in (by omega) hc, nI_clamp (by omega)]) ?_
  refine ⟨h.1, h2, fun i hi => ?_⟩
  show (if i = j then v else w.1 i) = if i = j then v else x.1 i
  rw [h.2.2 i hi]
theorem X0_cut {cap : Nat} (hc : cap < 2147483648) {w : TBytes} {x : XB} (h : B1 cap w x) {m : Nat} (hm : m < 2147483648) : ∃ r, f_X0_cut cap w (nI m) = some r ∧ B1 cap r (x.1, min x.2 m) := by
  have h2 := h.2.1
  unfold f_X0_cut
  refine ⟨_, rfl, ?_, by show min x.2 m ≤ cap; omega, fun i hi => h.2.2 i (by have : i < min x.2 m := hi; omega)⟩
  show (if (0 : Int32) < (if nI m < w.2 then nI m else w.2) then (if nI m < w.2 then nI m else w.2) else (0 : Int32)) = nI (min x.2 m)
  have e : (if nI m < w.2 then nI m else w.2) = nI (min x.2 m) := by
    rw [h.1]
    by_cases q : m < x.2
    · rw [if_pos (nI_lt q (by omega))]; congr 1; omega
    · rw [if_neg (nI_nlt (by omega) hm)]; congr 1; omega
  rw [e]
  by_cases q : min x.2 m = 0
  · rw [q]; rfl
  · exact if_pos (show (0 : Int32) < nI (min x.2 m) from nI_lt (a := 0) (by omega) (by omega))
/-- the reference's version bytes -/
theorem X11_longOf (w : TModel) {v : Nat} (hv : v < 2) : f_X11_longOf w (nI v) = some (mA w v) := by
  unfold f_X11_longOf
  simp (disch := omega) only [br_T, br_F, gd_T, br_le_t, br_le_f, br_lt_t, br_lt_f, br_eq_t, br_eq_f, br_m1, br_rf, br_0m, gd_in, gd_01, nI_add, nI_sb, pk_mul, nI_clamp, nm_eq, Option.bind_some, l_0, l_1, l_2, l_3, l_4, l_5, l_12, l_30, l_64, l_73, l_130, l_131, l_132, l_133, l_200, l_251, l_253, l_255, l_317, l_318, l_348, l_349, l_350, l_550, l_551, l_552, l_553, l_617, l_1851]
  rw [Nat.zero_add]
theorem X11_byteAt (w : TModel) {v j : Nat} (hv : v < 2) (hj : j < 64) : f_X11_byteAt w (nI v) (nI j) = some (mA w (2 + 64 * v + j)) := by
  unfold f_X11_byteAt
  simp (disch := omega) only [br_T, br_F, gd_T, br_le_t, br_le_f, br_lt_t, br_lt_f, br_eq_t, br_eq_f, br_m1, br_rf, br_0m, gd_in, gd_01, nI_add, nI_sb, pk_mul, nI_clamp, nm_eq, Option.bind_some, l_0, l_1, l_2, l_3, l_4, l_5, l_12, l_30, l_64, l_73, l_130, l_131, l_132, l_133, l_200, l_251, l_253, l_255, l_317, l_318, l_348, l_349, l_350, l_550, l_551, l_552, l_553, l_617, l_1851]
def vB (x : XS) (v : Nat) : XB := if v = 0 then x.1 else x.2.1
theorem S2_v {a : Nat → Int32} {x : XS} (h : S2 a x) {v : Nat} (hv : v < 2) : B2 64 v (2 + 64 * v) a (vB x v) := by
  rcases (by omega : v = 0 ∨ v = 1) with e | e
  · subst e; exact h.1
  · subst e; exact h.2.1
theorem X11_hasByte {w : TModel} {x : XS} (h : S2 (mA w) x) {v : Nat} (hv : v < 2) (p : Int32) : f_X11_hasByte w (nI v) p = some (zI (decide (¬ p < 0 ∧ p < nI (vB x v).2))) := by
  obtain ⟨b1, b2, -⟩ := S2_v h hv
  have b1 : mA w v = nI (vB x v).2 := b1
  unfold f_X11_hasByte
  rw [X11_isVersion, decide_eq_true (by rcases (by omega : v = 0 ∨ v = 1) with e | e <;> (subst e; first | exact Or.inl rfl | exact Or.inr rfl)), Option.bind_some, br_z0, if_pos rfl, X11_longOf w hv, Option.bind_some, b1, X11_in, Option.bind_some, br_z0]
  have e : (decide ((0 : Int64) ≤ p.toInt64) && decide (p.toInt64 ≤ (nI (vB x v).2 - 1).toInt64)) = decide (¬ p < 0 ∧ p < nI (vB x v).2) := by
    rw [show (0 : Int64) = (0 : Int32).toInt64 from by decide, ← Bool.decide_and]
    refine decide_eq_decide.mpr ?_
    rw [fa_wide_le, fa_wide_le, fa_le, fa_le, fa_lt, fa_lt, nI_toInt (by omega), show (nI (vB x v).2 - 1).toInt = ((vB x v).2 : Int) - 1 from pk_sub_toInt (b := 1) (by omega) (by omega), show (0 : Int32).toInt = 0 from by decide]
    omega
  rw [e]
  cases decide (¬ p < 0 ∧ p < nI (vB x v).2)
  · rfl
  · rfl
