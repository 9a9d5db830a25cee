/-! the reference reads a code -/
abbrev mT (w : TModel) := w.2.2.2.2.2.2.2.1
abbrev mF (w : TModel) := w.2.2.2.2.2.2.2.2.1
abbrev mQ (w : TModel) := w.2.2.2.2.2.2.2.2.2.1
abbrev mB (w : TModel) := w.2.2.2.2.2.2.2.2.2.2.1
abbrev mZ (w : TModel) := w.2.2.2.2.2.2.2.2.2.2.2.1
abbrev mC (w : TModel) := w.2.2.2.2.2.2.2.2.2.2.2.2.1
def SQ (w w' : TModel) : Prop := SM w w' ∧ mQ w' = mQ w ∧ mB w' = mB w ∧ mZ w' = mZ w ∧ mC w' = mC w
theorem SQ.r (w : TModel) : SQ w w := ⟨⟨rfl, rfl, rfl, rfl⟩, rfl, rfl, rfl, rfl⟩
theorem SQ.t {a b c : TModel} (h : SQ a b) (g : SQ b c) : SQ a c := ⟨h.1.t g.1, g.2.1.trans h.2.1, g.2.2.1.trans h.2.2.1, g.2.2.2.1.trans h.2.2.2.1, g.2.2.2.2.trans h.2.2.2.2⟩
/-- something was wrong -/
def DM (w : TModel) (f : Nat) : Prop := f ≤ 300 ∧ mF w = nI f ∧ ∃ t, t ≤ 200 ∧ mT w = nI t
theorem DM_m1 {w : TModel} {f : Nat} (h : DM w f) : ¬ w.2.2.2.2.2.2.2.2.1 = (-1 : Int32) := by
  have e : w.2.2.2.2.2.2.2.2.1 = nI f := h.2.1
  rw [e]; exact nI_ne_m1 (by have := h.1; omega)
section MD
variable {y : XB} {w : TModel} {p f : Nat}
theorem mnext_d (h : DM w f) : f_X11_next w = some (0, w) := by
  unfold f_X11_next
  rw [br_ne (DM_m1 h)]
theorem mmust_d (h : DM w f) (a b : Int32) : f_X11_mustBe w a b = some w := by
  unfold f_X11_mustBe
  rw [br_ne (DM_m1 h)]
  rfl
theorem mmust_1 (h : mF w = -1) (b : Int32) : f_X11_mustBe w 1 b = some w := by
  unfold f_X11_mustBe
  rw [br_eq h, br_10]
  rfl
theorem mmust_0 (h : mF w = -1) {t : Nat} (ht : t ≤ 200) (hT : mT w = nI t) (hf : f ≤ 300) : ∃ w', f_X11_mustBe w 0 (nI f) = some w' ∧ SQ w w' ∧ DM w' f := by
  unfold f_X11_mustBe
  rw [br_eq h, br_00]
  exact ⟨_, rfl, ⟨⟨rfl, rfl, rfl, rfl⟩, rfl, rfl, rfl, rfl⟩, hf, rfl, t, ht, hT⟩
theorem mnext_r (hc : B2 200 349 350 (mA w) y) (h1 : mT w = nI p) (h2 : mF w = -1) (hp : p < y.2) : ∃ w', f_X11_next w = some (y.1 p, w') ∧ SQ w w' ∧ mT w' = nI (p + 1) ∧ mF w' = -1 := by
  have hn := hc.2.1
  unfold f_X11_next
  rw [br_eq h2, gd_349, c_349, show w.1 349 = nI y.2 from hc.1, br_ne (show ¬ w.2.2.2.2.2.2.2.1 = nI y.2 by rw [show w.2.2.2.2.2.2.2.1 = nI p from h1]; exact fun z => by have := (nI_eq (by omega) (by omega)).mp z; omega), show w.2.2.2.2.2.2.2.1 = nI p from h1, nI_1, show (350 : Int32) + nI (p + 1) = nI (350 + (p + 1)) from nI_add 350 _, show nI (350 + (p + 1)) - 1 = nI (350 + p) from nI_pred (350 + p), gd_in (by omega) (by omega), nI_clamp (by omega), show w.1 (350 + p) = y.1 p from hc.2.2 p hp]
  exact ⟨_, rfl, ⟨⟨rfl, rfl, rfl, rfl⟩, rfl, rfl, rfl, rfl⟩, rfl, h2⟩
theorem mnext_e (hc : B2 200 349 350 (mA w) y) (h1 : mT w = nI y.2) (h2 : mF w = -1) : ∃ w', f_X11_next w = some (0, w') ∧ SQ w w' ∧ DM w' y.2 := by
  have hn := hc.2.1
  unfold f_X11_next
  rw [br_eq h2, gd_349, c_349, show w.1 349 = nI y.2 from hc.1, br_eq (show w.2.2.2.2.2.2.2.1 = nI y.2 from h1)]
  exact ⟨_, rfl, ⟨⟨rfl, rfl, rfl, rfl⟩, rfl, rfl, rfl, rfl⟩, by omega, h1, y.2, hn, h1⟩
theorem mnum_d (h : DM w f) (a b : Int32) : f_X11_number w a b = some (0, w) := by
  unfold f_X11_number
  rw [mnext_d h, Option.bind_some, X11_in, Option.bind_some, mmust_d h, Option.bind_some]
theorem in_nI {a b c : Nat} (ha : a < 1000) (hb : b < 1000) (hc : c < 1000) : f_X11_in (nI a).toInt64 (nI b).toInt64 (nI c).toInt64 = some (zI (decide (b ≤ a ∧ a ≤ c))) := by
  rw [X11_in]
  congr 2
  rw [← Bool.decide_and]
  refine decide_eq_decide.mpr ?_
  rw [fa_wide_le, fa_wide_le, nI_leI (by omega) (by omega), nI_leI (by omega) (by omega)]
theorem mnum_r (hc : B2 200 349 350 (mA w) y) (hI : BI y) (h1 : mT w = nI p) (h2 : mF w = -1) {lo hi v : Nat} (hlo : lo < 1000) (hhi : hi < 1000) (h : num y lo hi p = .inr v) : ∃ w', f_X11_number w (nI lo) (nI hi) = some (nI v, w') ∧ SQ w w' ∧ mT w' = nI (p + 1) ∧ mF w' = -1 := by
  obtain ⟨a, b, c, d⟩ := num_r h
  obtain ⟨w1, e1, s1, t1, f1⟩ := mnext_r hc h1 h2 a
  obtain ⟨q1, q2⟩ := cm_is hI a
  unfold f_X11_number
  rw [e1, Option.bind_some, q1, ← b, in_nI (by omega) hlo hhi, decide_eq_true ⟨c, d⟩, Option.bind_some, zI_t, mmust_1 f1, Option.bind_some]
  exact ⟨w1, rfl, s1, t1, f1⟩
theorem mnum_l (hc : B2 200 349 350 (mA w) y) (hI : BI y) (h1 : mT w = nI p) (h2 : mF w = -1) (hp : p ≤ y.2) {lo hi : Nat} (hlo : lo < 1000) (hhi : hi < 1000) (h : num y lo hi p = .inl f) : ∃ v w', f_X11_number w (nI lo) (nI hi) = some (v, w') ∧ SQ w w' ∧ DM w' f := by
  have hn := hc.2.1
  unfold f_X11_number
  rcases num_l h with ⟨a, b⟩ | ⟨a, b, c⟩
  · obtain ⟨w1, e1, s1, d1⟩ := mnext_e hc (by rw [h1]; congr 1; omega) h2
    rw [e1, Option.bind_some, X11_in, Option.bind_some, mmust_d d1, Option.bind_some]
    exact ⟨_, w1, rfl, s1, by rw [b]; exact d1⟩
  · obtain ⟨w1, e1, s1, t1, f1⟩ := mnext_r hc h1 h2 a
    obtain ⟨q1, q2⟩ := cm_is hI a
    obtain ⟨w2, e2, s2, d2⟩ := mmust_0 (f := f) f1 (t := p + 1) (by omega) t1 (by omega)
    rw [e1, Option.bind_some, q1, in_nI (by omega) hlo hhi, decide_eq_false c, Option.bind_some, zI_f, show w1.2.2.2.2.2.2.2.1 - (1 : Int32) = nI f by rw [show w1.2.2.2.2.2.2.2.1 = nI (p + 1) from t1, b]; exact nI_pred p, e2, Option.bind_some]
    exact ⟨_, w2, rfl, s1.t s2, d2⟩
end MD
/-- everything but the reader's own rows stays, and the fault -/
def KD (w0 w : TModel) (f : Nat) : Prop := SM w0 w ∧ DM w f
section DD
variable {w0 w : TModel} {f k : Nat} {p2 p3 : Int32}
theorem d296 (hk : k < 30) (h : KD w0 w f) (a b c d : Int32) : ∃ w', f_X11_readsCommand_J296 (nI k) p2 p3 w a b c d = some w' ∧ KD w0 w' f := by
  unfold f_X11_readsCommand_J296
  rw [show (4 : Int32) * nI k = nI (4 * k) from pk_mul 4 k, show nI (4 * k) + (1 : Int32) = nI (4 * k + 1) from nI_add _ 1, show nI (4 * k) + (2 : Int32) = nI (4 * k + 2) from nI_add _ 2, show nI (4 * k) + (3 : Int32) = nI (4 * k + 3) from nI_add _ 3, gd_in (by omega) (by omega), gd_in (by omega) (by omega), gd_in (by omega) (by omega), gd_in (by omega) (by omega)]
  exact ⟨_, rfl, h.1, h.2⟩
theorem d255 (hk : k < 30) (h : KD w0 w f) (n : Nat) (i a b c d : Int32) : ∃ w', f_X11_readsCommand_L255 (nI k) p2 p3 (n + 1) w i a b c d = some w' ∧ KD w0 w' f := by
  obtain ⟨w', e, h2⟩ := d296 (p2 := p2) (p3 := p3) hk h a b c d
  refine ⟨w', ?_, h2⟩
  rw [f_X11_readsCommand_L255.eq_2, br_ne (DM_m1 h.2)]
  by_cases q : a ≤ i
  · rw [br_eq q]; exact e
  · rw [br_ne q]
    by_cases q2 : d = 2
    · rw [br_eq q2]; exact e
    · rw [br_ne q2]; exact e
theorem d220 (hk : k < 30) (h : KD w0 w f) (n : Nat) (i a b c d : Int32) : ∃ w', f_X11_readsCommand_L220 (nI k) p2 p3 (n + 1) w i a b c d = some w' ∧ KD w0 w' f := by
  obtain ⟨w', e, h2⟩ := d255 (p2 := p2) (p3 := p3) hk h 9999 0 a b c d
  refine ⟨w', ?_, h2⟩
  rw [f_X11_readsCommand_L220.eq_2, br_ne (DM_m1 h.2)]
  by_cases q : a ≤ i
  · rw [br_eq q]; exact e
  · rw [br_ne q]; exact e
theorem d172 (hk : k < 30) (h : KD w0 w f) (n : Nat) (i a b c d g : Int32) : ∃ w', f_X11_readsCommand_L172 (nI k) p2 p3 (n + 1) w i a b c d g = some w' ∧ KD w0 w' f := by
  obtain ⟨w', e, h2⟩ := d220 (p2 := p2) (p3 := p3) hk h 9999 0 a c d g
  refine ⟨w', ?_, h2⟩
  rw [f_X11_readsCommand_L172.eq_2, br_ne (DM_m1 h.2)]
  by_cases q : a ≤ i
  · rw [br_eq q]; exact e
  · rw [br_ne q]; exact e
theorem d160 (hk : k < 30) (h : KD w0 w f) (a b c d g s : Int32) : ∃ w', f_X11_readsCommand_J160 (nI k) p2 p3 w a b c d g s = some w' ∧ KD w0 w' f := by
  unfold f_X11_readsCommand_J160
  rw [mmust_d h.2, Option.bind_some]
  exact d172 hk h 9999 0 a b c d g
theorem d136 (hk : k < 30) (h : KD w0 w f) (a b c d g s : Int32) : ∃ w', f_X11_readsCommand_J136 (nI k) p2 p3 w a b c d g s = some w' ∧ KD w0 w' f := by
  unfold f_X11_readsCommand_J136
  rw [mmust_d h.2, Option.bind_some]
  by_cases q : p3 < c + a
  · rw [br_eq q]; exact d160 hk h _ _ _ _ _ _
  · rw [br_ne q]; exact d160 hk h _ _ _ _ _ _
theorem d87b (hk : k < 30) (h : KD w0 w f) (v4 s0 a b c : Int32) : ∃ w', br (v4 = (1 : Int32)) (br (p2 < (s0 + a)) (f_X11_readsCommand_J136 (nI k) p2 p3 w a b c s0 v4 (0 : Int32)) (f_X11_readsCommand_J131 (nI k) p2 p3 w a b c s0 v4)) (f_X11_readsCommand_J131 (nI k) p2 p3 w a b c s0 v4) = some w' ∧ KD w0 w' f := by
  unfold f_X11_readsCommand_J131
  by_cases q : v4 = 1
  · rw [br_eq q]
    by_cases q2 : p2 < s0 + a
    · rw [br_eq q2]; exact d136 hk h _ _ _ _ _ _
    · rw [br_ne q2]; exact d136 hk h _ _ _ _ _ _
  · rw [br_ne q]; exact d136 hk h _ _ _ _ _ _
theorem d87 (hk : k < 30) (h : KD w0 w f) (v4 s0 : Int32) : ∃ w', f_X11_readsCommand_J87 (nI k) p2 p3 w v4 s0 = some w' ∧ KD w0 w' f := by
  unfold f_X11_readsCommand_J87
  rw [mnum_d h.2, Option.bind_some, mnum_d h.2, Option.bind_some]
  exact d87b hk h _ _ _ _ _
theorem d58 (hk : k < 30) (h : KD w0 w f) (v4 s0 s1 : Int32) : ∃ w', f_X11_readsCommand_J58 (nI k) p2 p3 w v4 s0 s1 = some w' ∧ KD w0 w' f := by
  unfold f_X11_readsCommand_J58 f_X11_readsCommand_J86
  rw [br_ne (DM_m1 h.2)]
  have e := d87 (w0 := w0) (p2 := p2) (p3 := p3) (f := f) (w := (w.1, w.2.1, w.2.2.1, w.2.2.2.1, w.2.2.2.2.1, w.2.2.2.2.2.1, w.2.2.2.2.2.2.1, w.2.2.2.2.2.2.2.1, w.2.2.2.2.2.2.2.2.1, w.2.2.2.2.2.2.2.2.2.1, w.2.2.2.2.2.2.2.2.2.2.1, w.2.2.2.2.2.2.2.2.2.2.2.1, (s1 + s0), w.2.2.2.2.2.2.2.2.2.2.2.2.2)) hk h v4 (-1)
  by_cases q : v4 = 1
  · rw [br_eq q]; exact e
  · rw [br_ne q]; exact e
theorem d33 (hk : k < 30) (h : KD w0 w f) (v4 s0 : Int32) : ∃ w', f_X11_readsCommand_J33 (nI k) p2 p3 w v4 s0 = some w' ∧ KD w0 w' f := by
  unfold f_X11_readsCommand_J33
  rw [mmust_d h.2, Option.bind_some]
  by_cases q : v4 = 1
  · rw [br_eq q]; exact d58 hk h _ _ _
  · rw [br_ne q]; exact d58 hk h _ _ _
end DD
/-- position j is written by a command so far -/
def cov (D : XD) (j : Nat) : Bool := decide (0 < fb_ct (fun k => decide (dG D k ≤ j) && decide (j < dG D k + dL D k)) (dC D))
theorem cov_y {D : XD} {j : Nat} : cov D j = true ↔ ∃ k, k < dC D ∧ dG D k ≤ j ∧ j < dG D k + dL D k := by
  unfold cov
  rw [decide_eq_true_iff, fb_ct_pos]
  constructor
  · rintro ⟨k, h1, h2⟩
    rw [Bool.and_eq_true, decide_eq_true_iff, decide_eq_true_iff] at h2
    exact ⟨k, h1, h2⟩
  · rintro ⟨k, h1, h2⟩
    refine ⟨k, h1, ?_⟩
    rw [Bool.and_eq_true, decide_eq_true_iff, decide_eq_true_iff]
    exact h2
theorem clB_cov {D : XD} (hJ : DJ D) {g l : Nat} (hl : 1 ≤ l) : clB D g l = true ↔ ∃ i, i < l ∧ cov D (g + i) = true := by
  rw [clB_y]
  constructor
  · rintro ⟨k, h1, h2, h3⟩
    have b := (hJ.2.2.2 k h1).1
    by_cases q : g ≤ dG D k
    · exact ⟨dG D k - g, by omega, cov_y.mpr ⟨k, h1, by omega, by omega⟩⟩
    · exact ⟨0, by omega, cov_y.mpr ⟨k, h1, by omega, by omega⟩⟩
  · rintro ⟨i, h1, h2⟩
    obtain ⟨k, k1, k2, k3⟩ := cov_y.mp h2
    exact ⟨k, k1, by omega, by omega⟩
theorem cov_new {D : XD} {k : Bool} {r g l j : Nat} : cov (dP D k r g l) j = (cov D j || (decide (g ≤ j) && decide (j < g + l))) := by
  have h : cov (dP D k r g l) j = true ↔ (cov D j || (decide (g ≤ j) && decide (j < g + l))) = true := by
    rw [Bool.or_eq_true, Bool.and_eq_true, decide_eq_true_iff, decide_eq_true_iff, cov_y, cov_y]
    constructor
    · rintro ⟨i, h1, h2, h3⟩
      have h1 : i < dC D + 1 := h1
      by_cases e : i = dC D
      · subst e
        obtain ⟨g1, g2, g3, g4⟩ := dP_c (x := D) (k := k) (r := r) (g := g) (l := l)
        rw [g3] at h2 h3
        rw [g4] at h3
        exact Or.inr ⟨h2, h3⟩
      · obtain ⟨g1, g2, g3, g4⟩ := dP_K (x := D) (k := k) (r := r) (g := g) (l := l) (show i < dC D by omega)
        rw [g3] at h2 h3
        rw [g4] at h3
        exact Or.inl ⟨i, by omega, h2, h3⟩
    · rintro (⟨i, h1, h2, h3⟩ | h)
      · obtain ⟨g1, g2, g3, g4⟩ := dP_K (x := D) (k := k) (r := r) (g := g) (l := l) h1
        exact ⟨i, by show i < dC D + 1; omega, by rw [g3]; exact h2, by rw [g3, g4]; exact h3⟩
      · obtain ⟨g1, g2, g3, g4⟩ := dP_c (x := D) (k := k) (r := r) (g := g) (l := l)
        exact ⟨dC D, by show dC D < dC D + 1; omega, by rw [g3]; exact h.1, by rw [g3, g4]; exact h.2⟩
  cases e : cov (dP D k r g l) j
  · cases e2 : (cov D j || (decide (g ≤ j) && decide (j < g + l)))
    · rfl
    · rw [h.mpr e2] at e; cases e
  · exact (h.mp e).symm
/-- reading goes on at p, with ct copies noted -/
def LMx (w0 w : TModel) (y : XB) (p : Nat) (D : XD) (ct : Nat) : Prop := SM w0 w ∧ mT w = nI p ∧ mF w = -1 ∧ p ≤ y.2 ∧ mC w = nI ct ∧ (∀ k, k < dC D → mQ w (4 * k) = kI (dK D k) ∧ mQ w (4 * k + 1) = sI (dK D k) (dR D k) ∧ mQ w (4 * k + 2) = nI (dG D k) ∧ mQ w (4 * k + 3) = nI (dL D k)) ∧ AD (mB w) D ∧ ∀ j, j < 64 → mZ w j = zI (cov D j)
theorem LMx_SQ {w0 w w' : TModel} {y : XB} {p p' : Nat} {D : XD} {ct : Nat} (h : LMx w0 w y p D ct) (s : SQ w w') (ht : mT w' = nI p') (hf : mF w' = -1) (hp : p' ≤ y.2) : LMx w0 w' y p' D ct := by
  obtain ⟨h1, h2, h3, h4, h5, h6, h7, h8⟩ := h
  exact ⟨h1.t s.1, ht, hf, hp, by rw [s.2.2.2.2]; exact h5, by rw [s.2.1]; exact h6, by rw [s.2.2.1]; exact h7, by rw [s.2.2.2.1]; exact h8⟩
theorem LMx_B {w0 w : TModel} {y : XB} {p : Nat} {D : XD} {ct : Nat} (h : LMx w0 w y p D ct) (hc : B2 200 349 350 (mA w0) y) : B2 200 349 350 (mA w) y := by rw [h.1.1]; exact hc
/-- the reader's end of a command -/
theorem l296 {w0 w : TModel} {y : XB} {p : Nat} {D : XD} {ct : Nat} (h : SM w0 w ∧ mT w = nI p ∧ mF w = -1 ∧ p ≤ y.2 ∧ mC w = nI ct) (hQ : ∀ k, k < dC D → mQ w (4 * k) = kI (dK D k) ∧ mQ w (4 * k + 1) = sI (dK D k) (dR D k) ∧ mQ w (4 * k + 2) = nI (dG D k) ∧ mQ w (4 * k + 3) = nI (dL D k)) (hc : dC D < 30) (k : Bool) (r g l : Nat) (p2 p3 : Int32) {D' : XD} (hD : dC D' = dC D + 1 ∧ dK D' = dK (dP D k r g l) ∧ dR D' = dR (dP D k r g l) ∧ dG D' = dG (dP D k r g l) ∧ dL D' = dL (dP D k r g l)) (hB : AD (mB w) D') (hZ : ∀ j, j < 64 → mZ w j = zI (cov (dP D k r g l) j)) : ∃ w', f_X11_readsCommand_J296 (nI (dC D)) p2 p3 w (nI l) (nI g) (sI k r) (kI k) = some w' ∧ LMx w0 w' y p D' ct := by
  obtain ⟨e0, e1, e2, e3, e4⟩ := hD
  unfold f_X11_readsCommand_J296
  rw [show (4 : Int32) * nI (dC D) = nI (4 * dC D) from pk_mul 4 _, show nI (4 * dC D) + (1 : Int32) = nI (4 * dC D + 1) from nI_add _ 1, show nI (4 * dC D) + (2 : Int32) = nI (4 * dC D + 2) from nI_add _ 2, show nI (4 * dC D) + (3 : Int32) = nI (4 * dC D + 3) from nI_add _ 3, gd_in (by omega) (by omega), gd_in (by omega) (by omega), gd_in (by omega) (by omega), gd_in (by omega) (by omega), nI_clamp (by omega), nI_clamp (by omega), nI_clamp (by omega), nI_clamp (by omega)]
  refine ⟨_, rfl, h.1, h.2.1, h.2.2.1, h.2.2.2.1, h.2.2.2.2, fun i hi => ?_, hB, fun j hj => ?_⟩
  · rw [e0] at hi
    rw [e1, e2, e3, e4]
    show upd (upd (upd (upd (mQ w) (4 * dC D) (kI k)) (4 * dC D + 1) (sI k r)) (4 * dC D + 2) (nI g)) (4 * dC D + 3) (nI l) (4 * i) = _ ∧ upd (upd (upd (upd (mQ w) (4 * dC D) (kI k)) (4 * dC D + 1) (sI k r)) (4 * dC D + 2) (nI g)) (4 * dC D + 3) (nI l) (4 * i + 1) = _ ∧ upd (upd (upd (upd (mQ w) (4 * dC D) (kI k)) (4 * dC D + 1) (sI k r)) (4 * dC D + 2) (nI g)) (4 * dC D + 3) (nI l) (4 * i + 2) = _ ∧ upd (upd (upd (upd (mQ w) (4 * dC D) (kI k)) (4 * dC D + 1) (sI k r)) (4 * dC D + 2) (nI g)) (4 * dC D + 3) (nI l) (4 * i + 3) = _
    by_cases q : i = dC D
    · subst q
      obtain ⟨b1, b2, b3, b4⟩ := dP_c (x := D) (k := k) (r := r) (g := g) (l := l)
      rw [b1, b2, b3, b4]
      exact ⟨by rw [upd_ne _ _ (by omega), upd_ne _ _ (by omega), upd_ne _ _ (by omega), upd_at], by rw [upd_ne _ _ (by omega), upd_ne _ _ (by omega), upd_at], by rw [upd_ne _ _ (by omega), upd_at], by rw [upd_at]⟩
    · obtain ⟨a1, a2, a3, a4⟩ := dP_K (x := D) (k := k) (r := r) (g := g) (l := l) (show i < dC D by omega)
      rw [a1, a2, a3, a4]
      have z := hQ i (by omega)
      exact ⟨by rw [upd_ne _ _ (by omega), upd_ne _ _ (by omega), upd_ne _ _ (by omega), upd_ne _ _ (by omega)]; exact z.1, by rw [upd_ne _ _ (by omega), upd_ne _ _ (by omega), upd_ne _ _ (by omega), upd_ne _ _ (by omega)]; exact z.2.1, by rw [upd_ne _ _ (by omega), upd_ne _ _ (by omega), upd_ne _ _ (by omega), upd_ne _ _ (by omega)]; exact z.2.2.1, by rw [upd_ne _ _ (by omega), upd_ne _ _ (by omega), upd_ne _ _ (by omega), upd_ne _ _ (by omega)]; exact z.2.2.2⟩
  · rw [show cov D' j = cov (dP D k r g l) j by unfold cov; rw [e0, e3, e4]; rfl]
    exact hZ j hj
theorem l220 {g l : Nat} (hg : g + l ≤ 64) (p1 p2 p3 v5 v4 : Int32) : ∀ (d i n : Nat) (w : TModel), i + d = l → d < n → mF w = -1 → ∃ w', f_X11_readsCommand_L220 p1 p2 p3 n w (nI i) (nI l) (nI g) v5 v4 = f_X11_readsCommand_J252 p1 p2 p3 w' (nI l) (nI g) v5 v4 ∧ SM w w' ∧ mT w' = mT w ∧ mF w' = -1 ∧ mC w' = mC w ∧ mQ w' = mQ w ∧ mB w' = mB w ∧ (∀ j, (j < g + i ∨ g + l ≤ j) → mZ w' j = mZ w j) ∧ ∀ e, i ≤ e → e < l → mZ w' (g + e) = 1 := by
  intro d
  induction d with
  | zero =>
    intro i n w hi hn hf
    obtain ⟨n, rfl⟩ : ∃ k', n = k' + 1 := ⟨n - 1, by omega⟩
    refine ⟨w, ?_, ⟨rfl, rfl, rfl, rfl⟩, rfl, hf, rfl, rfl, rfl, fun _ _ => rfl, fun e h1 h2 => by omega⟩
    rw [f_X11_readsCommand_L220.eq_2, br_le_t (by omega) (by omega)]
  | succ d ih =>
    intro i n w hi hn hf
    obtain ⟨n, rfl⟩ : ∃ k', n = k' + 1 := ⟨n - 1, by omega⟩
    rw [f_X11_readsCommand_L220.eq_2, br_le_f (by omega) (by omega), br_eq hf, nI_add, gd_in (by omega) (by omega), nI_clamp (by omega), nI_1]
    obtain ⟨w', e, s1, s2, s3, s4, s5, s6, s7, s8⟩ := ih (i + 1) n (w.1, w.2.1, w.2.2.1, w.2.2.2.1, w.2.2.2.2.1, w.2.2.2.2.2.1, w.2.2.2.2.2.2.1, w.2.2.2.2.2.2.2.1, w.2.2.2.2.2.2.2.2.1, w.2.2.2.2.2.2.2.2.2.1, w.2.2.2.2.2.2.2.2.2.2.1, (upd w.2.2.2.2.2.2.2.2.2.2.2.1 (g + i) (vp_nar .boolean (1 : Int32))), w.2.2.2.2.2.2.2.2.2.2.2.2.1, w.2.2.2.2.2.2.2.2.2.2.2.2.2) (by omega) (by omega) hf
    refine ⟨w', e, s1, s2, s3, s4, s5, s6, fun j hj => ?_, fun j hj1 hj2 => ?_⟩
    · rw [s7 j (by omega)]; exact upd_ne _ _ (by omega)
    · by_cases q : j = i
      · rw [q, s7 (g + i) (by omega)]
        exact upd_at _ _ _
      · exact s8 j (by omega) hj2
theorem l255 {w0 : TModel} {y : XB} (hc0 : B2 200 349 350 (mA w0) y) {g l q k : Nat} (hk : k < 30) (hg : g + l ≤ 64) (p2 p3 v5 : Int32) : ∀ (d i n : Nat) (w : TModel), SM w0 w → i + d = l → d < n → mT w = nI (q + i) → mF w = -1 → q + i ≤ y.2 → (q + l ≤ y.2 → ∃ w', f_X11_readsCommand_L255 (nI k) p2 p3 n w (nI i) (nI l) (nI g) v5 (2 : Int32) = f_X11_readsCommand_J296 (nI k) p2 p3 w' (nI l) (nI g) v5 (2 : Int32) ∧ SM w0 w' ∧ mT w' = nI (q + l) ∧ mF w' = -1 ∧ mC w' = mC w ∧ mQ w' = mQ w ∧ mZ w' = mZ w ∧ (∀ j, (j < g + i ∨ g + l ≤ j) → mB w' j = mB w j) ∧ ∀ e, i ≤ e → e < l → mB w' (g + e) = y.1 (q + e)) ∧ (y.2 < q + l → ∃ w', f_X11_readsCommand_L255 (nI k) p2 p3 n w (nI i) (nI l) (nI g) v5 (2 : Int32) = some w' ∧ KD w0 w' y.2) := by
  have hn0 := hc0.2.1
  intro d
  induction d with
  | zero =>
    intro i n w hs hi hn ht hf hq
    obtain ⟨n, rfl⟩ : ∃ k', n = k' + 1 := ⟨n - 1, by omega⟩
    have hil : i = l := by omega
    subst hil
    refine ⟨fun _ => ⟨w, ?_, hs, ht, hf, rfl, rfl, rfl, fun _ _ => rfl, fun e h1 h2 => by omega⟩, fun z => by omega⟩
    rw [f_X11_readsCommand_L255.eq_2, br_le_t (by omega) (by omega)]
  | succ d ih =>
    intro i n w hs hi hn ht hf hq
    obtain ⟨n, rfl⟩ : ∃ k', n = k' + 1 := ⟨n - 1, by omega⟩
    have hc : B2 200 349 350 (mA w) y := by rw [hs.1]; exact hc0
    rw [f_X11_readsCommand_L255.eq_2, br_le_f (by omega) (by omega), br_eq rfl, br_eq hf]
    by_cases e : q + i < y.2
    · obtain ⟨w1, e1, s1, t1, f1⟩ := mnext_r hc ht hf e
      rw [e1, Option.bind_some, nI_add, gd_in (by omega) (by omega), nI_clamp (by omega), nI_1]
      obtain ⟨a1, a2⟩ := ih (i + 1) n (w1.1, w1.2.1, w1.2.2.1, w1.2.2.2.1, w1.2.2.2.2.1, w1.2.2.2.2.2.1, w1.2.2.2.2.2.2.1, w1.2.2.2.2.2.2.2.1, w1.2.2.2.2.2.2.2.2.1, w1.2.2.2.2.2.2.2.2.2.1, (upd w1.2.2.2.2.2.2.2.2.2.2.1 (g + i) (y.1 (q + i))), w1.2.2.2.2.2.2.2.2.2.2.2.1, w1.2.2.2.2.2.2.2.2.2.2.2.2.1, w1.2.2.2.2.2.2.2.2.2.2.2.2.2) (hs.t s1.1) (by omega) (by omega) t1 f1 (by omega)
      refine ⟨fun z => ?_, fun z => a2 z⟩
      obtain ⟨w', e2, b1, b2, b3, b4, b5, b6, b7, b8⟩ := a1 z
      refine ⟨w', e2, b1, b2, b3, b4.trans s1.2.2.2.2, b5.trans s1.2.1, b6.trans s1.2.2.2.1, fun j hj => ?_, fun j hj1 hj2 => ?_⟩
      · rw [b7 j (by omega), ← s1.2.2.1]; exact upd_ne _ _ (by omega)
      · by_cases z2 : j = i
        · rw [z2, b7 (g + i) (by omega)]; exact upd_at _ _ _
        · exact b8 j (by omega) hj2
    · refine ⟨fun z => by omega, fun _ => ?_⟩
      obtain ⟨w1, e1, s1, d1⟩ := mnext_e hc (by rw [ht]; congr 1; omega) hf
      rw [e1, Option.bind_some, nI_add, gd_in (by omega) (by omega), nI_clamp (by omega), nI_1]
      obtain ⟨n, rfl⟩ : ∃ k', n = k' + 1 := ⟨n - 1, by omega⟩
      exact d255 hk (by exact ⟨hs.t s1.1, d1⟩) n _ _ _ _ _
