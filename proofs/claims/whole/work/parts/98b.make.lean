/-! make -/
/-- the first of the longest matches -/
def bst (x : XS) (p : Nat) : Nat → Nat → Nat → Nat
  | _, 0, b => b
  | i, d + 1, b => bst x p (i + 1) d (if mt x.1 x.2.1 b p < mt x.1 x.2.1 i p then i else b)
def best (x : XS) (p : Nat) : Nat := bst x p 1 (x.1.2 - 1) 0
theorem bst_lt {x : XS} {p : Nat} : ∀ (d i b : Nat), i + d ≤ x.1.2 → b < x.1.2 → bst x p i d b < x.1.2
  | 0, _, _, _, hb => hb
  | d + 1, i, b, hi, hb => bst_lt d (i + 1) _ (by omega) (by split <;> omega)
theorem best_ok {x : XS} {p : Nat} : best x p + mt x.1 x.2.1 (best x p) p ≤ x.1.2 ∧ p + mt x.1 x.2.1 (best x p) p ≤ max p x.2.1.2 := by
  have h := mt_le x.1 x.2.1 (best x p) p
  unfold best at h ⊢
  by_cases e : x.1.2 = 0
  · have : bst x p 1 (x.1.2 - 1) 0 = 0 := by rw [e]; rfl
    rw [this] at h ⊢
    omega
  · have := bst_lt (x := x) (p := p) (x.1.2 - 1) 1 0 (by omega) (by omega)
    omega
def lng (m : Nat) : Nat := if 4 ≤ m then m else 3
def fnd (b m : Nat) : Int32 := if 4 ≤ m then nI b else -1
theorem lm8 {o n : TBytes} {x : XS} (h0 : B1 64 o x.1) (h1 : B1 64 n x.2.1) {p : Nat} (hp : p ≤ x.2.1.2) : ∀ d i k b : Nat, i + d = x.1.2 → d < k → b < x.1.2 → f_X6_longestMatch_L8 64 64 o n (nI p) k (nI i) (nI (lng (mt x.1 x.2.1 b p))) (fnd b (mt x.1 x.2.1 b p)) = some (fnd (bst x p i d b) (mt x.1 x.2.1 (bst x p i d b) p)) := by
  have a0 := h0.2.1
  have a1 := h1.2.1
  intro d
  induction d with
  | zero =>
    intro i k b hi hk hb
    obtain ⟨k, rfl⟩ : ∃ k', k = k' + 1 := ⟨k - 1, by omega⟩
    rw [f_X6_longestMatch_L8.eq_2, h0.1, br_le_t (by omega) (by omega)]; rfl
  | succ d ih =>
    intro i k b hi hk hb
    obtain ⟨k, rfl⟩ : ∃ k', k = k' + 1 := ⟨k - 1, by omega⟩
    rw [f_X6_longestMatch_L8.eq_2, h0.1, br_le_f (by omega) (by omega), X0_common (by omega) (by omega) h0 h1 (by omega) hp, Option.bind_some]
    unfold f_X6_longestMatch_J41
    rw [nI_1]
    show _ = some (fnd (bst x p (i + 1) d (if mt x.1 x.2.1 b p < mt x.1 x.2.1 i p then i else b)) _)
    have m1 := mt_le x.1 x.2.1 b p
    have m2 := mt_le x.1 x.2.1 i p
    have keep : ∀ b', b' < x.1.2 → lng (mt x.1 x.2.1 b' p) = lng (mt x.1 x.2.1 b p) → fnd b' (mt x.1 x.2.1 b' p) = fnd b (mt x.1 x.2.1 b p) → f_X6_longestMatch_L8 64 64 o n (nI p) k (nI (i + 1)) (nI (lng (mt x.1 x.2.1 b p))) (fnd b (mt x.1 x.2.1 b p)) = some (fnd (bst x p (i + 1) d b') (mt x.1 x.2.1 (bst x p (i + 1) d b') p)) := fun b' h1 h2 h3 => by
      rw [← h2, ← h3]
      exact ih (i + 1) k b' (by omega) (by omega) h1
    by_cases q : mt x.1 x.2.1 i p ≤ lng (mt x.1 x.2.1 b p)
    · rw [br_le_t q (by unfold lng; split <;> omega)]
      by_cases e : mt x.1 x.2.1 b p < mt x.1 x.2.1 i p
      · have e2 : ∀ j, bst x p i (d + 1) j = bst x p (i + 1) d (if mt x.1 x.2.1 j p < mt x.1 x.2.1 i p then i else j) := fun _ => rfl
        rw [e2, if_pos e]
        have lt4 : ¬ 4 ≤ mt x.1 x.2.1 b p ∧ ¬ 4 ≤ mt x.1 x.2.1 i p := by
          unfold lng at q
          split at q <;> omega
        exact keep i (by omega) (by unfold lng; rw [if_neg lt4.1, if_neg lt4.2]) (by unfold fnd; rw [if_neg lt4.1, if_neg lt4.2])
      · have e2 : ∀ j, bst x p i (d + 1) j = bst x p (i + 1) d (if mt x.1 x.2.1 j p < mt x.1 x.2.1 i p then i else j) := fun _ => rfl
        rw [e2, if_neg e]
        exact keep b hb rfl rfl
    · rw [br_le_f (by omega) (by omega)]
      have e4 : 4 ≤ mt x.1 x.2.1 i p ∧ mt x.1 x.2.1 b p < mt x.1 x.2.1 i p := by
        unfold lng at q
        split at q <;> omega
      have e2 : ∀ j, bst x p i (d + 1) j = bst x p (i + 1) d (if mt x.1 x.2.1 j p < mt x.1 x.2.1 i p then i else j) := fun _ => rfl
      rw [e2, if_pos e4.2]
      have := ih (i + 1) k i (by omega) (by omega) (by omega)
      unfold lng fnd at this
      rw [if_pos e4.1, if_pos e4.1] at this
      exact this
theorem X6_longest {o n : TBytes} {x : XS} (h0 : B1 64 o x.1) (h1 : B1 64 n x.2.1) {p : Nat} (hp : p ≤ x.2.1.2) : f_X6_longestMatch 64 o 64 n (nI p) = some (fnd (best x p) (mt x.1 x.2.1 (best x p) p)) := by
  have a0 := h0.2.1
  have a1 := h1.2.1
  unfold f_X6_longestMatch best
  rw [show FUEL = 9999 + 1 from rfl, f_X6_longestMatch_L8.eq_2, h0.1]
  by_cases e : x.1.2 = 0
  · rw [br_eq (show nI x.1.2 ≤ 0 by rw [e]; decide)]
    have : bst x p 1 (x.1.2 - 1) 0 = 0 := by rw [e]; rfl
    rw [this]
    have := mt_le x.1 x.2.1 0 p
    unfold fnd
    rw [if_neg (by omega)]
  · rw [br_ne (nI_nle (by omega) (by omega)), show f_X0_common 64 o 64 n (0 : Int32) (nI p) = _ from X0_common (s := 0) (by omega) (by omega) h0 h1 (by omega) hp, Option.bind_some]
    unfold f_X6_longestMatch_J41
    have m1 := mt_le x.1 x.2.1 0 p
    have go := lm8 h0 h1 hp (x.1.2 - 1) 1 9999 0 (by omega) (by omega) (by omega)
    by_cases q : 4 ≤ mt x.1 x.2.1 0 p
    · rw [show lng (mt x.1 x.2.1 0 p) = mt x.1 x.2.1 0 p from if_pos q, show fnd 0 (mt x.1 x.2.1 0 p) = nI 0 from if_pos q] at go
      rw [br_ne (show ¬ nI (mt x.1 x.2.1 0 p) ≤ (3 : Int32) from nI_ge (a := 3) (by omega) (by omega))]
      exact go
    · rw [show lng (mt x.1 x.2.1 0 p) = 3 from if_neg q, show fnd 0 (mt x.1 x.2.1 0 p) = -1 from if_neg q] at go
      rw [br_eq (show nI (mt x.1 x.2.1 0 p) ≤ (3 : Int32) from nI_le (b := 3) (by omega) (by omega))]
      exact go
def pend (D : XD) (s p : Nat) : XD := if s < p then dP D false 0 s (p - s) else D
def mkS (x : XS) : Nat → Nat → Nat → XD → XD
  | 0, p, s, D => pend D s p
  | fu + 1, p, s, D => if x.2.1.2 ≤ p then pend D s p else if fb_ct (dK D) (dC D) < 12 ∧ 4 ≤ mt x.1 x.2.1 (best x p) p then mkS x fu (p + mt x.1 x.2.1 (best x p) p) (p + mt x.1 x.2.1 (best x p) p) (dP (pend D s p) true (best x p) p (mt x.1 x.2.1 (best x p) p)) else mkS x fu (p + 1) s D
/-- what holds on the way -/
def MI (x : XS) (D : XD) (s p : Nat) : Prop := DJ D ∧ dS D = x.1.2 ∧ dT D = x.2.1.2 ∧ dA D = x.2.1.1 ∧ s ≤ p ∧ p ≤ x.2.1.2 ∧ fb_ct (dK D) (dC D) ≤ 12 ∧ dC D ≤ 2 * fb_ct (dK D) (dC D)
theorem pend_c (D : XD) (s p : Nat) : dC (pend D s p) ≤ dC D + 1 ∧ fb_ct (dK (pend D s p)) (dC (pend D s p)) = fb_ct (dK D) (dC D) ∧ dS (pend D s p) = dS D ∧ dT (pend D s p) = dT D ∧ dA (pend D s p) = dA D := by
  unfold pend
  split
  · exact ⟨Nat.le_refl _, (dP_ct (k := false)).trans (Nat.add_zero _), rfl, rfl, rfl⟩
  · exact ⟨Nat.le_succ _, rfl, rfl, rfl, rfl⟩
theorem pend_J {x : XS} {D : XD} {s p : Nat} (h : MI x D s p) : DJ (pend D s p) := by
  obtain ⟨h1, h2, h3, h4, h5, h6, h7, h8⟩ := h
  unfold pend
  by_cases e : s < p
  · rw [if_pos e]
    exact dP_J h1 (by omega) (by omega) (by omega) (fun z => by cases z)
  · rw [if_neg e]; exact h1
theorem MI_copy {x : XS} {D : XD} {s p : Nat} (h : MI x D s p) (hp : p < x.2.1.2) (hct : fb_ct (dK D) (dC D) < 12) (hm : 4 ≤ mt x.1 x.2.1 (best x p) p) : MI x (dP (pend D s p) true (best x p) p (mt x.1 x.2.1 (best x p) p)) (p + mt x.1 x.2.1 (best x p) p) (p + mt x.1 x.2.1 (best x p) p) := by
  have hj := pend_J h
  obtain ⟨c1, c2, c3, c4, c5⟩ := pend_c D s p
  obtain ⟨h1, h2, h3, h4, h5, h6, h7, h8⟩ := h
  obtain ⟨b1, b2⟩ := best_ok (x := x) (p := p)
  have e : fb_ct (dK (dP (pend D s p) true (best x p) p (mt x.1 x.2.1 (best x p) p))) (dC (pend D s p) + 1) = fb_ct (dK D) (dC D) + 1 := by rw [dP_ct, c2]; rfl
  refine ⟨dP_J hj (by omega) (by omega) (by rw [c4]; omega) (fun _ => by rw [c3]; omega), c3.trans h2, c4.trans h3, c5.trans h4, Nat.le_refl _, by omega, ?_, ?_⟩
  · show fb_ct _ (dC (pend D s p) + 1) ≤ 12
    omega
  · show dC (pend D s p) + 1 ≤ 2 * fb_ct _ (dC (pend D s p) + 1)
    omega
/-- the added bytes that stand, in the class, in the reference -/
def AD (t : Nat → Int32) (D : XD) : Prop := ∀ k, k < dC D → dK D k = false → ∀ i, i < dL D k → t (dG D k + i) = dA D (dG D k + i)
theorem pend18 {n : TBytes} {y : XB} (h1 : B1 64 n y) {s e : Nat} (he : e ≤ y.2) (p2 : Int32) : ∀ (d i k : Nat) (w : TDelta), i + d = e → d < k → ∃ t, f_X6_pushPending_L18 64 n p2 (nI e) k w (nI i) = some (w.1, w.2.1, w.2.2.1, w.2.2.2.1, w.2.2.2.2.1, t, w.2.2.2.2.2.2) ∧ (∀ j, (j < i ∨ e ≤ j) → t j = tA w j) ∧ ∀ j, i ≤ j → j < e → t j = y.1 j := by
  have a1 := h1.2.1
  intro d
  induction d with
  | zero =>
    intro i k w hi hk
    obtain ⟨k, rfl⟩ : ∃ k', k = k' + 1 := ⟨k - 1, by omega⟩
    refine ⟨tA w, ?_, fun _ _ => rfl, fun j h1 h2 => by omega⟩
    rw [f_X6_pushPending_L18.eq_2, br_le_t (by omega) (by omega)]
  | succ d ih =>
    intro i k w hi hk
    obtain ⟨k, rfl⟩ : ∃ k', k = k' + 1 := ⟨k - 1, by omega⟩
    have ep : f_X2_putAdded w (nI i) (y.1 i) = some (w.1, w.2.1, w.2.2.1, w.2.2.2.1, w.2.2.2.2.1, upd (tA w) i (y.1 i), w.2.2.2.2.2.2) := by
      unfold f_X2_putAdded
      rw [br_ne (nI_pos (by omega)), br_ne (show ¬ (64 : Int32) ≤ nI i from nI_ge (b := 64) (by omega) (by omega)), gd_in (by omega) (by omega), nI_clamp (by omega)]
    obtain ⟨t, e1, t1, t2⟩ := ih (i + 1) k (w.1, w.2.1, w.2.2.1, w.2.2.2.1, w.2.2.2.2.1, upd (tA w) i (y.1 i), w.2.2.2.2.2.2) (by omega) (by omega)
    refine ⟨t, ?_, fun j hj => ?_, fun j hj1 hj2 => ?_⟩
    · rw [f_X6_pushPending_L18.eq_2, br_le_f (by omega) (by omega), X0_at (by omega) h1 (by omega), Option.bind_some, ep, Option.bind_some, nI_1]
      exact e1
    · rw [t1 j (by omega)]; exact upd_ne _ _ (by omega)
    · by_cases q : j = i
      · rw [q, t1 i (by omega)]; exact upd_at _ _ _
      · exact t2 j (by omega) hj2
theorem X6_pend {x : XS} {n : TBytes} (h1 : B1 64 n x.2.1) {D : XD} {s p : Nat} (hM : MI x D s p) {w : TDelta} (hw : DE w D) (ha : AD (tA w) D) (hdis : ∀ k, k < dC D → dG D k + dL D k ≤ s) : ∃ w', f_X6_pushPending w 64 n (nI s) (nI p) = some w' ∧ DE w' (pend D s p) ∧ AD (tA w') (pend D s p) ∧ tM w' = tM w := by
  have a1 := h1.2.1
  obtain ⟨j1, j2, j3, j4, j5, j6, j7, j8⟩ := id hM
  unfold f_X6_pushPending pend
  by_cases e : s < p
  · obtain ⟨w1, e1, d1, t1, m1⟩ := X2_push hw j1 (by omega) false (r := 0) (g := s) (l := p - s) (fun z => by cases z) (by omega)
    obtain ⟨t, e2, b1, b2⟩ := pend18 h1 (e := p) (s := s) j6 (nI s) (p - s) s FUEL w1 (by omega) (by show _ < 10000; omega)
    rw [br_le_f e (by omega), if_pos e, nI_sb (by omega), show f_X2_push w (2 : Int32) (-1 : Int32) (nI s) (nI (p - s)) = some w1 from e1, Option.bind_some]
    refine ⟨_, e2, ⟨d1.1, d1.2.1, d1.2.2.1, d1.2.2.2.1, d1.2.2.2.2.1, d1.2.2.2.2.2⟩, fun k hk hK i hi => ?_, m1⟩
    show t (dG (dP D false 0 s (p - s)) k + i) = dA D (dG (dP D false 0 s (p - s)) k + i)
    have hk : k < dC D + 1 := hk
    by_cases q : k = dC D
    · subst q
      obtain ⟨g1, g2, g3, g4⟩ := dP_c (x := D) (k := false) (r := 0) (g := s) (l := p - s)
      rw [g4] at hi
      rw [g3, b2 _ (by omega) (by omega), j4]
    · obtain ⟨g1, g2, g3, g4⟩ := dP_K (x := D) (k := false) (r := 0) (g := s) (l := p - s) (show k < dC D by omega)
      rw [g1] at hK
      rw [g4] at hi
      have hd := hdis k (by omega)
      rw [g3, b1 _ (by omega), t1]
      exact ha k (by omega) hK i hi
  · rw [br_le_t (by omega) (by omega), if_neg e]
    exact ⟨w, rfl, hw, ha, rfl⟩
/-- all targets lie below s -/
def BL (D : XD) (s : Nat) : Prop := ∀ k, k < dC D → dG D k + dL D k ≤ s
theorem pend_BL {D : XD} {s p : Nat} (h : BL D s) (hs : s ≤ p) : BL (pend D s p) p := by
  unfold pend
  by_cases e : s < p
  · rw [if_pos e]
    intro k hk
    have hk : k < dC D + 1 := hk
    by_cases q : k = dC D
    · subst q
      obtain ⟨g1, g2, g3, g4⟩ := dP_c (x := D) (k := false) (r := 0) (g := s) (l := p - s)
      rw [g3, g4]; omega
    · obtain ⟨g1, g2, g3, g4⟩ := dP_K (x := D) (k := false) (r := 0) (g := s) (l := p - s) (show k < dC D by omega)
      have := h k (by omega)
      rw [g3, g4]; omega
  · rw [if_neg e]
    intro k hk
    have := h k hk
    omega
theorem dP_BL {D : XD} {p r l : Nat} (h : BL D p) : BL (dP D true r p l) (p + l) := by
  intro k hk
  have hk : k < dC D + 1 := hk
  by_cases q : k = dC D
  · subst q
    obtain ⟨g1, g2, g3, g4⟩ := dP_c (x := D) (k := true) (r := r) (g := p) (l := l)
    rw [g3, g4]; omega
  · obtain ⟨g1, g2, g3, g4⟩ := dP_K (x := D) (k := true) (r := r) (g := p) (l := l) (show k < dC D by omega)
    have := h k (by omega)
    rw [g3, g4]; omega
theorem AD_copy {t : Nat → Int32} {D : XD} {r p l : Nat} (h : AD t D) : AD t (dP D true r p l) := by
  intro k hk hK i hi
  have hk : k < dC D + 1 := hk
  by_cases q : k = dC D
  · subst q
    rw [(dP_c (x := D) (k := true) (r := r) (g := p) (l := l)).1] at hK; cases hK
  · obtain ⟨g1, g2, g3, g4⟩ := dP_K (x := D) (k := true) (r := r) (g := p) (l := l) (show k < dC D by omega)
    rw [g1] at hK
    rw [g4] at hi
    rw [g3]
    exact h k (by omega) hK i hi
theorem fill17 {x : XS} {o n : TBytes} (h0 : B1 64 o x.1) (h1 : B1 64 n x.2.1) : ∀ (fu p s k : Nat) (D : XD) (w : TDelta), x.2.1.2 - p ≤ fu → fu < k → MI x D s p → BL D s → DE w D → AD (tA w) D → ∃ w', f_X6_fill_L17 64 64 o n k w (nI p) (nI s) = some w' ∧ DE w' (mkS x fu p s D) ∧ AD (tA w') (mkS x fu p s D) ∧ tM w' = tM w := by
  have a0 := h0.2.1
  have a1 := h1.2.1
  have done : ∀ (p s k : Nat) (D : XD) (w : TDelta), x.2.1.2 ≤ p → MI x D s p → BL D s → DE w D → AD (tA w) D → ∃ w', f_X6_fill_L17 64 64 o n (k + 1) w (nI p) (nI s) = some w' ∧ DE w' (pend D s p) ∧ AD (tA w') (pend D s p) ∧ tM w' = tM w := by
    intro p s k D w hp hM hB hw ha
    obtain ⟨j1, j2, j3, j4, j5, j6, j7, j8⟩ := id hM
    obtain ⟨w1, e1, d1, t1, m1⟩ := X6_pend h1 hM hw ha hB
    refine ⟨w1, ?_, d1, t1, m1⟩
    rw [f_X6_fill_L17.eq_2, h1.1, br_le_t hp (by omega), show x.2.1.2 = p by omega, e1, Option.bind_some]
  intro fu
  induction fu with
  | zero =>
    intro p s k D w hf hk hM hB hw ha
    obtain ⟨k, rfl⟩ : ∃ k', k = k' + 1 := ⟨k - 1, by omega⟩
    obtain ⟨j1, j2, j3, j4, j5, j6, j7, j8⟩ := id hM
    exact done p s k D w (by omega) hM hB hw ha
  | succ fu ih =>
    intro p s k D w hf hk hM hB hw ha
    obtain ⟨k, rfl⟩ : ∃ k', k = k' + 1 := ⟨k - 1, by omega⟩
    obtain ⟨j1, j2, j3, j4, j5, j6, j7, j8⟩ := id hM
    unfold mkS
    by_cases e : x.2.1.2 ≤ p
    · rw [if_pos e]
      exact done p s k D w e hM hB hw ha
    · rw [if_neg e, f_X6_fill_L17.eq_2, h1.1, br_le_f (by omega) (by omega)]
      have hmay : f_X2_mayCopy w = some (zI (decide (fb_ct (dK D) (dC D) < 12))) := by
        unfold f_X2_mayCopy
        rw [show w.2.2.2.2.2.2.2.2.2.1 = bm (dK D) (dC D) from hw.2.2.2.2.2, bitC_bm j1.1, Option.bind_some]
        by_cases q : fb_ct (dK D) (dC D) < 12
        · rw [br_ne (show ¬ (12 : Int32) ≤ nI (fb_ct (dK D) (dC D)) from nI_ge (b := 12) q (by omega)), decide_eq_true q]; rfl
        · rw [br_eq (show (12 : Int32) ≤ nI (fb_ct (dK D) (dC D)) from nI_le (a := 12) (by omega) (by omega)), decide_eq_false q]; rfl
      rw [hmay, Option.bind_some, br_z0, X6_longest h0 h1 j6, Option.bind_some]
      unfold f_X6_fill_J44 f_X6_fill_J102
      have skip : ∃ w', f_X6_fill_L17 64 64 o n k w (nI p + 1) (nI s) = some w' ∧ DE w' (mkS x fu (p + 1) s D) ∧ AD (tA w') (mkS x fu (p + 1) s D) ∧ tM w' = tM w := by
        rw [nI_1]
        exact ih (p + 1) s k D w (by omega) (by omega) ⟨j1, j2, j3, j4, by omega, by omega, j7, j8⟩ hB hw ha
      by_cases q : fb_ct (dK D) (dC D) < 12
      · rw [decide_eq_true q, if_pos rfl]
        by_cases m4 : 4 ≤ mt x.1 x.2.1 (best x p) p
        · rw [if_pos ⟨q, m4⟩]
          have ef : fnd (best x p) (mt x.1 x.2.1 (best x p) p) = nI (best x p) := if_pos m4
          obtain ⟨b1, b2⟩ := best_ok (x := x) (p := p)
          obtain ⟨w1, e1, d1, t1, m1⟩ := X6_pend h1 hM hw ha hB
          obtain ⟨c1, c2, c3, c4, c5⟩ := pend_c D s p
          obtain ⟨w2, e2, d2, t2, m2⟩ := X2_push d1 (pend_J hM) (by omega) true (r := best x p) (g := p) (l := mt x.1 x.2.1 (best x p) p) (fun _ => by omega) (by omega)
          rw [ef, br_m1 (by omega), X0_common (by omega) (by omega) h0 h1 (by omega) j6, Option.bind_some, e1, Option.bind_some, show f_X2_push w1 (1 : Int32) (nI (best x p)) (nI p) (nI (mt x.1 x.2.1 (best x p) p)) = some w2 from e2, Option.bind_some, if_pos (show (1 : Int32) < nI (mt x.1 x.2.1 (best x p) p) from nI_lt (a := 1) (by omega) (by omega)), nm_eq, nI_add]
          obtain ⟨w3, e3, d3, t3, m3⟩ := ih (p + mt x.1 x.2.1 (best x p) p) (p + mt x.1 x.2.1 (best x p) p) k _ w2 (by omega) (by omega) (MI_copy hM (by omega) q m4) (dP_BL (pend_BL hB j5)) d2 (by rw [t2]; exact AD_copy t1)
          exact ⟨w3, e3, d3, t3, m3.trans (m2.trans m1)⟩
        · rw [if_neg (fun z => m4 z.2)]
          have ef : fnd (best x p) (mt x.1 x.2.1 (best x p) p) = -1 := if_neg m4
          rw [ef, br_eq rfl]
          exact skip
      · rw [decide_eq_false q, if_neg (by decide), if_neg (fun z => q z.1), br_eq rfl]
        exact skip
def d0 (x : XS) : XD := (x.1.2, x.2.1.2, 0, fun _ => false, fun _ => 0, fun _ => 0, fun _ => 0, x.2.1.1)
def mkD (x : XS) : XD := mkS x 64 0 0 (d0 x)
theorem d0_M {x : XS} (h0 : x.1.2 ≤ 64) (h1 : x.2.1.2 ≤ 64) : MI x (d0 x) 0 0 := ⟨⟨by show 0 ≤ 30; omega, h0, h1, fun k hk => absurd hk (Nat.not_lt_zero k)⟩, rfl, rfl, rfl, Nat.le_refl _, Nat.zero_le _, by show 0 ≤ 12; omega, Nat.le_refl _⟩
theorem mkS_I {x : XS} (hI : BI x.2.1) : ∀ (fu p s : Nat) (D : XD), x.2.1.2 - p ≤ fu → MI x D s p → (∃ p' s', s' ≤ p' ∧ p' ≤ x.2.1.2 ∧ DJ (mkS x fu p s D) ∧ dT (mkS x fu p s D) = x.2.1.2 ∧ dA (mkS x fu p s D) = x.2.1.1 ∧ fb_ct (dK (mkS x fu p s D)) (dC (mkS x fu p s D)) ≤ 12) := by
  have done : ∀ (p s : Nat) (D : XD), MI x D s p → (∃ p' s', s' ≤ p' ∧ p' ≤ x.2.1.2 ∧ DJ (pend D s p) ∧ dT (pend D s p) = x.2.1.2 ∧ dA (pend D s p) = x.2.1.1 ∧ fb_ct (dK (pend D s p)) (dC (pend D s p)) ≤ 12) := by
    intro p s D hM
    obtain ⟨c1, c2, c3, c4, c5⟩ := pend_c D s p
    exact ⟨p, s, hM.2.2.2.2.1, hM.2.2.2.2.2.1, pend_J hM, c4.trans hM.2.2.1, c5.trans hM.2.2.2.1, by rw [c2]; exact hM.2.2.2.2.2.2.1⟩
  intro fu
  induction fu with
  | zero => intro p s D hf hM; exact done p s D hM
  | succ fu ih =>
    intro p s D hf hM
    obtain ⟨j1, j2, j3, j4, j5, j6, j7, j8⟩ := id hM
    unfold mkS
    by_cases e : x.2.1.2 ≤ p
    · rw [if_pos e]; exact done p s D hM
    · rw [if_neg e]
      by_cases q : fb_ct (dK D) (dC D) < 12 ∧ 4 ≤ mt x.1 x.2.1 (best x p) p
      · rw [if_pos q]
        exact ih _ _ _ (by omega) (MI_copy hM (by omega) q.1 q.2)
      · rw [if_neg q]
        exact ih (p + 1) s D (by omega) ⟨j1, j2, j3, j4, by omega, by omega, j7, j8⟩
theorem mkD_I {x : XS} (h0 : x.1.2 ≤ 64) (h1 : x.2.1.2 ≤ 64) (hI : BI x.2.1) : DI (mkD x) := by
  obtain ⟨p', s', -, -, a1, a2, a3, a4⟩ := mkS_I hI 64 0 0 (d0 x) (by omega) (d0_M h0 h1)
  refine ⟨a1.1, a1.2.1, a1.2.2.1, a1.2.2.2, a4, fun k hk hK i hi => ?_⟩
  have a3 : dA (mkD x) = x.2.1.1 := a3
  have a2 : dT (mkD x) = x.2.1.2 := a2
  rw [a3]
  have := (a1.2.2.2 k hk).2.1
  have this : dG (mkD x) k + dL (mkD x) k ≤ dT (mkD x) := this
  exact hI _ (by omega)
theorem X6_fill {x : XS} {o n : TBytes} (h0 : B1 64 o x.1) (h1 : B1 64 n x.2.1) (w : TDelta) : ∃ w', f_X6_fill w 64 o 64 n = some w' ∧ D1 w' (mkD x) := by
  have a0 := h0.2.1
  have a1 := h1.2.1
  have hd : DE (w.1, w.2.1, w.2.2.1, w.2.2.2.1, w.2.2.2.2.1, w.2.2.2.2.2.1, o.2, n.2, (0 : Int32), (0 : Int32), (-1 : Int32)) (d0 x) := ⟨h0.1, h1.1, rfl, fun k hk => absurd hk (Nat.not_lt_zero k), fun k hk => absurd hk (Nat.not_lt_zero k), rfl⟩
  obtain ⟨w1, e1, d1, t1, m1⟩ := fill17 h0 h1 64 0 0 FUEL (d0 x) _ (by omega) (by decide) (d0_M a0 a1) (fun k hk => absurd hk (Nat.not_lt_zero k)) hd (fun k hk => absurd hk (Nat.not_lt_zero k))
  refine ⟨w1, ?_, d1.1, d1.2.1, d1.2.2.1, d1.2.2.2.1, d1.2.2.2.2.1, d1.2.2.2.2.2, t1, Or.inl m1⟩
  unfold f_X6_fill f_X2_reset
  rw [Option.bind_some]
  exact e1
