/-! versions: append, patch, clear, byteOf -/
theorem mA_sA (w : TModel) (a : Nat → Int32) : mA (sA w a) = a := rfl
theorem br_00 {α : Type} {x y : Option α} : br ((0 : Int32) = 0) x y = x := br_eq rfl
theorem br_10 {α : Type} {x y : Option α} : br ((1 : Int32) = 0) x y = y := br_ne (by decide)
theorem goes_00 (w : TModel) : f_X11_goes w 0 0 = some (0, sT w 1) := X11_goes w false false
theorem goes_01 (w : TModel) : f_X11_goes w 0 1 = some (0, sT w 1) := X11_goes w false true
theorem goes_10 (w : TModel) : f_X11_goes w 1 0 = some (0, sT w 2) := X11_goes w true false
theorem goes_11 (w : TModel) : f_X11_goes w 1 1 = some (1, sT w 0) := X11_goes w true true
theorem zI_t : zI true = 1 := rfl
theorem zI_f : zI false = 0 := rfl
abbrev isV (v : Int32) : Prop := v = 0 ∨ v = 1
theorem isV_yes {v : Int32} (h : isV v) : f_X11_isVersion v = some 1 := by rw [X11_isVersion, decide_eq_true h]; rfl
theorem isV_no {v : Int32} (h : ¬ isV v) : f_X11_isVersion v = some 0 := by rw [X11_isVersion, decide_eq_false h]; rfl
theorem isB_iff {v : Int32} : isB v ↔ 0 ≤ v ∧ v ≤ 255 := by
  constructor
  · rintro ⟨m, hm, rfl⟩
    exact ⟨nI_pos' (by omega), nI_le (b := 255) (by omega) (by omega)⟩
  · rintro ⟨h1, h2⟩
    obtain ⟨j, hj, e⟩ := nI_of2 (M := 255) (n := 255) (by decide) (Int32.not_lt.mpr h1) h2
    exact ⟨j, by omega, e⟩
theorem isB_yes {v : Int32} (h : isB v) : f_X11_isByte v = some 1 := by rw [X11_isByte, decide_eq_true (isB_iff.mp h)]; rfl
theorem isB_no {v : Int32} (h : ¬ isB v) : f_X11_isByte v = some 0 := by rw [X11_isByte, decide_eq_false (fun q => h (isB_iff.mpr q))]; rfl
theorem rv_yes {v : Int32} (h : isV v) : f_X10_requireVersion v = some none := by
  unfold f_X10_requireVersion
  rcases h with h | h
  · exact br_eq h
  · rw [br_ne (by rw [h]; decide), br_eq h]
theorem rv_no {v : Int32} (h : ¬ isV v) : f_X10_requireVersion v = some (some "java/lang/IllegalArgumentException") := by
  unfold f_X10_requireVersion
  rw [br_ne (fun q => h (Or.inl q)), br_ne (fun q => h (Or.inr q))]
theorem rb_yes {v : Int32} (h : isB v) : f_X10_requireByte v = some none := by
  unfold f_X10_requireByte
  have h2 := isB_iff.mp h
  rw [br_ne (Int32.not_lt.mpr h2.1), br_eq h2.2]
theorem rb_no {v : Int32} (h : ¬ isB v) : f_X10_requireByte v = some (some "java/lang/IllegalArgumentException") := by
  unfold f_X10_requireByte
  by_cases e : v < 0
  · exact br_eq e
  · rw [br_ne e, br_ne (fun q => h (isB_iff.mpr ⟨Int32.not_lt.mp e, q⟩))]
theorem ri_0 : f_X10_requireIndex 0 = some (some "java/lang/IndexOutOfBoundsException") := br_eq rfl
theorem ri_1 : f_X10_requireIndex 1 = some none := br_ne (by decide)
theorem rx_s {β : Type} (E : String) (k : Option (String ⊕ β)) : rx (some E) k = some (.inl E) := rfl
theorem rx_0 {β : Type} (k : Option (String ⊕ β)) : rx none k = k := rfl
theorem el_r {α β γ : Type} (f : α → Option γ) (g : β → Option γ) (a : β) : Sum.elim f g (.inr a) = g a := rfl
theorem el_l {α β γ : Type} (f : α → Option γ) (g : β → Option γ) (a : α) : Sum.elim f g (.inl a) = f a := rfl
theorem br_A_A {α : Type} {x y : Option α} : br ("java/lang/IllegalArgumentException" = "java/lang/IllegalArgumentException") x y = x := br_eq rfl
theorem br_S_S {α : Type} {x y : Option α} : br ("java/lang/IllegalStateException" = "java/lang/IllegalStateException") x y = x := br_eq rfl
theorem br_I_I {α : Type} {x y : Option α} : br ("java/lang/IndexOutOfBoundsException" = "java/lang/IndexOutOfBoundsException") x y = x := br_eq rfl
theorem br_S_A {α : Type} {x y : Option α} : br ("java/lang/IllegalStateException" = "java/lang/IllegalArgumentException") x y = y := br_ne (by decide)
theorem br_I_A {α : Type} {x y : Option α} : br ("java/lang/IndexOutOfBoundsException" = "java/lang/IllegalArgumentException") x y = y := br_ne (by decide)
theorem br_A_I {α : Type} {x y : Option α} : br ("java/lang/IllegalArgumentException" = "java/lang/IndexOutOfBoundsException") x y = y := br_ne (by decide)
theorem br_I_S {α : Type} {x y : Option α} : br ("java/lang/IndexOutOfBoundsException" = "java/lang/IllegalStateException") x y = y := br_ne (by decide)
theorem gd_o {α : Type} {x : Option α} : gd (vp_in (0 : Int32) 1) x = x := gd_eq (nI_in (c := 0) (by omega) (by omega))
theorem out0 (out : Nat → Int64) (v : Int64) : vp_updL out (0 : Int32).toNatClampNeg v 0 = v := by
  rw [show (0 : Int32).toNatClampNeg = 0 by decide]; exact pk_uLs
/-- class and reference answer alike, and hold the same behind it -/
def OKw (A : Option (Int32 × TState × THistory × (Nat → Int64))) (B : Option (Int32 × TModel)) : Prop := ∃ k now' hist' out' b mo', A = some (k, now', hist', out') ∧ B = some (b, mo') ∧ mH mo' = k ∧ (k = 0 → out' 0 = b.toInt64) ∧ RR now' hist' mo'
def OKr (now : TState) (hist : THistory) (A : Option (Int32 × (Nat → Int64))) (B : Option (Int32 × TModel)) : Prop := ∃ k out' b mo', A = some (k, out') ∧ B = some (b, mo') ∧ mH mo' = k ∧ (k = 0 → out' 0 = b.toInt64) ∧ RR now hist mo'
theorem RR_T {now : TState} {hist : THistory} {mo : TModel} (h : RR now hist mo) (t : Int32) : RR now hist (sT mo t) := h
theorem okw_t {now : TState} {hist : THistory} {mo : TModel} {out : Nat → Int64} {A : Option (Int32 × TState × THistory × (Nat → Int64))} {B : Option (Int32 × TModel)} {b t : Int32} (h : RR now hist mo) (hA : A = some (t, now, hist, out)) (hB : B = some (b, sT mo t)) (ht : t ≠ 0) : OKw A B :=
  ⟨t, now, hist, out, b, sT mo t, hA, hB, rfl, fun q => absurd q ht, RR_T h t⟩
theorem okr_t {now : TState} {hist : THistory} {mo : TModel} {out : Nat → Int64} {A : Option (Int32 × (Nat → Int64))} {B : Option (Int32 × TModel)} {b t : Int32} (h : RR now hist mo) (hA : A = some (t, out)) (hB : B = some (b, sT mo t)) (ht : t ≠ 0) : OKr now hist A B :=
  ⟨t, out, b, sT mo t, hA, hB, rfl, fun q => absurd q ht, RR_T h t⟩
theorem okr_d {now : TState} {hist : THistory} {mo : TModel} {out : Nat → Int64} {A : Option (Int32 × (Nat → Int64))} {B : Option (Int32 × TModel)} {v : Int32} (h : RR now hist mo) (hA : A = some (0, vp_updL out (0 : Int32).toNatClampNeg v.toInt64)) (hB : B = some (v, sT mo 0)) : OKr now hist A B :=
  ⟨0, _, v, sT mo 0, hA, hB, rfl, fun _ => out0 _ _, RR_T h 0⟩
/-- a state without plan and work -/
def xdrop (x : XS) : XS := (x.1, x.2.1, x.2.2.1, (false, x.2.2.2.1.2), x.2.2.2.2.1, (false, x.2.2.2.2.2.2))
theorem drop1 {w : TState} {x : XS} (h : S1 w x) : ∃ r, f_X8_dropPlan w = some r ∧ S1 r (xdrop x) := by
  obtain ⟨h1, h2, h3, h4, h5, h6⟩ := h
  exact ⟨_, rfl, h1, h2, h3, ⟨rfl, (fun q => by cases q)⟩, h5, rfl, h6.2.1, (fun q => by cases q)⟩
theorem dropI {x : XS} (h : SI x) : SI (xdrop x) := ⟨h.1, h.2.1, h.2.2.1, (fun q => by cases q), h.2.2.2.2.1, (fun q => by cases q)⟩
def aD (a : Nat → Int32) : Nat → Int32 := upd (upd a 317 0) 550 0
theorem aD_ne {a : Nat → Int32} {k : Nat} (h : k ≠ 317) (h2 : k ≠ 550) : aD a k = a k := by
  unfold aD
  rw [upd_ne _ _ h2, upd_ne _ _ h]
theorem drop2 (w : TModel) : f_X11_dropsPlan w = some (sA w (aD (mA w))) := by
  unfold f_X11_dropsPlan
  simp (disch := omega) only [br_T, br_F, gd_T, br_le_t, br_le_f, br_lt_t, br_lt_f, br_eq_t, br_eq_f, br_m1, br_rf, br_0m, gd_in, gd_01, nI_add, nI_sb, pk_mul, nI_clamp, nm_eq, Option.bind_some, l_0, l_1, l_2, l_3, l_4, l_5, l_12, l_30, l_64, l_73, l_130, l_131, l_132, l_133, l_200, l_251, l_253, l_255, l_317, l_318, l_348, l_349, l_350, l_550, l_551, l_552, l_553, l_617, l_1851]
  rfl
theorem dropS {a : Nat → Int32} {x : XS} (hI : SI x) (h : S2 a x) : S2 (aD a) (xdrop x) := by
  obtain ⟨h1, h2, h3, h4, h5, h6⟩ := h
  have e : ∀ k, k ≠ 317 → k ≠ 550 → a k = aD a k := fun k q1 q2 => (aD_ne q1 q2).symm
  exact ⟨B2_cong (e _ (by omega) (by omega)) (fun k _ _ => e k (by omega) (by omega)) h1, B2_cong (e _ (by omega) (by omega)) (fun k _ _ => e k (by omega) (by omega)) h2, D2_cong hI.2.2.1 (fun k _ _ => e k (by omega) (by omega)) h3, ⟨by unfold aD; rw [upd_ne _ _ (by omega), upd_at]; rfl, (fun q => by cases q)⟩, B2_cong (e _ (by omega) (by omega)) (fun k _ _ => e k (by omega) (by omega)) h5, ⟨by unfold aD; rw [upd_at]; rfl, (fun q => by cases q)⟩⟩
/-- a version put in the place of the old one -/
def xset (x : XS) (v : Nat) (y : XB) : XS := if v = 0 then (y, x.2) else (x.1, y, x.2.2)
theorem setI {x : XS} {v : Nat} {y : XB} (h : SI x) (hp : x.2.2.2.1.1 = false) (hy : BI y) : SI (xset x v y) := by
  unfold xset
  split
  · exact ⟨hy, h.2.1, h.2.2.1, (fun q => by rw [hp] at q; cases q), h.2.2.2.2.1, h.2.2.2.2.2⟩
  · exact ⟨h.1, hy, h.2.2.1, h.2.2.2.1, h.2.2.2.2.1, h.2.2.2.2.2⟩
theorem set2 {a b : Nat → Int32} {x : XS} {v : Nat} (hv : v < 2) {y : XB} (hI : SI x) (h : S2 a x) (hb : B2 64 v (2 + 64 * v) b y) (he : ∀ k, k ≠ v → (k < 2 + 64 * v ∨ 2 + 64 * v + 64 ≤ k) → a k = b k) : S2 b (xset x v y) := by
  obtain ⟨h1, h2, h3, h4, h5, h6⟩ := h
  unfold xset
  rcases (by omega : v = 0 ∨ v = 1) with e | e
  · subst e
    rw [if_pos rfl]
    exact ⟨hb, B2_cong (he _ (by omega) (by omega)) (fun k _ _ => he k (by omega) (by omega)) h2, D2_cong hI.2.2.1 (fun k _ _ => he k (by omega) (by omega)) h3, P2_cong hI.2.2.1.1 (fun k _ _ => he k (by omega) (by omega)) h4, B2_cong (he _ (by omega) (by omega)) (fun k _ _ => he k (by omega) (by omega)) h5, W2_cong (fun k _ _ => he k (by omega) (by omega)) h6⟩
  · subst e
    rw [if_neg (by omega)]
    exact ⟨B2_cong (he _ (by omega) (by omega)) (fun k _ _ => he k (by omega) (by omega)) h1, hb, D2_cong hI.2.2.1 (fun k _ _ => he k (by omega) (by omega)) h3, P2_cong hI.2.2.1.1 (fun k _ _ => he k (by omega) (by omega)) h4, B2_cong (he _ (by omega) (by omega)) (fun k _ _ => he k (by omega) (by omega)) h5, W2_cong (fun k _ _ => he k (by omega) (by omega)) h6⟩
theorem isV_n {p : Int32} (h : isV p) : ∃ v, v < 2 ∧ p = nI v := by
  rcases h with h | h
  · exact ⟨0, by omega, h⟩
  · exact ⟨1, by omega, h⟩
theorem isV_nI {v : Nat} (h : v < 2) : isV (nI v) := by
  rcases (by omega : v = 0 ∨ v = 1) with e | e
  · subst e; exact Or.inl rfl
  · subst e; exact Or.inr rfl
