/-! sets that can be put into an order -/
def stuck (x : XD) (q : Nat → Bool) : Prop := ∀ j, j < dC x → q j = true → ∃ i, i < dC x ∧ q i = true ∧ Pr x i j = true
/-- q is the greatest part of p in which each has one before it -/
def GS (x : XD) (p q : Nat → Bool) : Prop := (∀ k, k < dC x → q k = true → p k = true) ∧ stuck x q ∧ ∀ t : Nat → Bool, stuck x t → (∀ k, k < dC x → t k = true → p k = true) → ∀ k, k < dC x → t k = true → q k = true
theorem GS_ord {x : XD} {p q : Nat → Bool} (h : GS x p q) : orderly x p ↔ ∀ k, k < dC x → q k = false := by
  constructor
  · intro ho
    exact ho q h.1 h.2.1
  · intro hq t h1 h2 k hk
    cases e : t k
    · rfl
    · have := h.2.2 t h2 h1 k hk e
      rw [hq k hk] at this; cases this
theorem ord_sub {x : XD} {p q : Nat → Bool} (h : orderly x p) (hs : ∀ k, k < dC x → q k = true → p k = true) : orderly x q := fun t h1 h2 => h t (fun k hk e => hs k hk (h1 k hk e)) h2
theorem ord_0 {x : XD} {p : Nat → Bool} (h : ∀ k, k < dC x → p k = false) : orderly x p := fun t h1 _ k hk => by
  cases e : t k
  · rfl
  · have := h1 k hk e
    rw [h k hk] at this; cases this
/-- j is in p, and none of p must come before it -/
def fre (x : XD) (p : Nat → Bool) (j : Nat) : Bool := p j && decide (∀ i, i < dC x → (Pr x i j && p i) = false)
theorem fre_y {x : XD} {p : Nat → Bool} {j : Nat} : fre x p j = true ↔ p j = true ∧ ∀ i, i < dC x → (Pr x i j && p i) = false := by
  unfold fre
  rw [Bool.and_eq_true, decide_eq_true_iff]
theorem fre_out {x : XD} {p t : Nat → Bool} {j : Nat} (h : ∀ i, i < dC x → (Pr x i j && p i) = false) (hj : j < dC x) (ht : stuck x t) (hs : ∀ k, k < dC x → t k = true → p k = true) : t j = false := by
  cases e : t j
  · rfl
  · obtain ⟨i, hi, e1, e2⟩ := ht j hj e
    have := h i hi
    rw [e2, hs i hi e1] at this; cases this
theorem fre_none {x : XD} {p : Nat → Bool} (h : ∀ j, j < dC x → fre x p j = false) : stuck x p := by
  intro j hj e
  refine Classical.byContradiction fun hn => ?_
  have h1 : fre x p j = true := fre_y.mpr ⟨e, fun i hi => by
    cases e1 : Pr x i j
    · rfl
    · cases e2 : p i
      · rfl
      · exact absurd ⟨i, hi, e2, e1⟩ hn⟩
  rw [h j hj] at h1; cases h1
def ffI (p : Nat → Bool) (c : Nat) : Int32 := if fa_first p c < c then nI (fa_first p c) else -1
theorem free2 {w : TDelta} {x : XD} (h : D1 w x) (hc : dC x ≤ 30) (p : Nat → Bool) : ∀ d i k : Nat, i + d = dC x → d < k → (∀ e, e < i → fre x p e = false) → f_X2_firstFree_L2 w (bm p (dC x)) k (nI i) = some (ffI (fre x p) (dC x)) := by
  have eC : w.2.2.2.2.2.2.2.2.1 = nI (dC x) := h.2.2.1
  intro d
  induction d with
  | zero =>
    intro i k hi hk he
    obtain ⟨k, rfl⟩ : ∃ k', k = k' + 1 := ⟨k - 1, by omega⟩
    rw [f_X2_firstFree_L2.eq_2, eC, br_le_t (by omega) (by omega)]
    unfold ffI
    rw [if_neg]
    rw [first_is (i := i) (by omega) he (fun q => by omega)]
    omega
  | succ d ih =>
    intro i k hi hk he
    obtain ⟨k, rfl⟩ : ∃ k', k = k' + 1 := ⟨k - 1, by omega⟩
    have nx : fre x p i = false → f_X2_firstFree_L2 w (bm p (dC x)) k (nI i + 1) = some (ffI (fre x p) (dC x)) := fun q => by
      rw [nI_1]
      refine ih (i + 1) k (by omega) (by omega) (fun e he2 => ?_)
      by_cases z : e = i
      · rw [z]; exact q
      · exact he e (by omega)
    rw [f_X2_firstFree_L2.eq_2, eC, br_le_f (by omega) (by omega), X10_isIn (by omega) (by omega), Option.bind_some, br_z0, decide_eq_true (show i < dC x by omega), Bool.true_and, X2_pre h hc (by omega), Option.bind_some, bm_and (by omega)]
    unfold f_X2_firstFree_J30
    cases hp : p i
    · rw [if_neg (by decide)]
      exact nx (by unfold fre; rw [hp]; rfl)
    · rw [if_pos rfl]
      by_cases q : ∀ e, e < dC x → (Pr x e i && p e) = false
      · rw [br_eq ((bm_0 (by omega)).mpr q)]
        unfold ffI
        have e1 : fa_first (fre x p) (dC x) = i := first_is (by omega) he (fun _ => fre_y.mpr ⟨hp, q⟩)
        rw [e1, if_pos (by omega)]
      · rw [br_ne (fun z => q ((bm_0 (by omega)).mp z))]
        refine nx ?_
        cases e : fre x p i
        · rfl
        · exact absurd (fre_y.mp e).2 q
theorem X2_firstFree {w : TDelta} {x : XD} (h : D1 w x) (hc : dC x ≤ 30) (p : Nat → Bool) : f_X2_firstFree w (bm p (dC x)) = some (ffI (fre x p) (dC x)) := free2 h hc p (dC x) 0 FUEL (Nat.zero_add _) (by show _ < 10000; omega) (fun e q => by omega)
theorem ct_minus {p : Nat → Bool} {j c : Nat} (hj : j < c) (hp : p j = true) : fb_ct (fun k => p k && !(k == j)) c + 1 = fb_ct p c := by
  have h := fb_ct_upd p false hj
  rw [hp] at h
  have e : (fun k => p k && !(k == j)) = (fun k => if k = j then false else p k) := by
    funext k
    by_cases q : k = j
    · simp [q]
    · have : (k == j) = false := beq_eq_false_iff_ne.mpr q
      simp [q, this]
  rw [e]
  simpa using h
theorem cyc4 {w : TDelta} {x : XD} (h : D1 w x) (hc : dC x ≤ 30) (p0 : Int32) (p : Nat → Bool) : ∀ (d i k : Nat) (q : Nat → Bool), i + d = 30 → d < k → (∀ k, k < dC x → q k = true → p k = true) → (∀ t : Nat → Bool, stuck x t → (∀ k, k < dC x → t k = true → p k = true) → ∀ k, k < dC x → t k = true → q k = true) → fb_ct q (dC x) + i ≤ 30 → ∃ r, f_X5_cyclicPart_L4 w p0 k (nI i) (bm q (dC x)) = some (bm r (dC x)) ∧ GS x p r := by
  intro d
  induction d with
  | zero =>
    intro i k q hi hk h1 h2 h3
    obtain ⟨k, rfl⟩ : ∃ k', k = k' + 1 := ⟨k - 1, by omega⟩
    refine ⟨q, ?_, h1, fun j hj e => ?_, h2⟩
    · rw [f_X5_cyclicPart_L4.eq_2, br_eq (show (30 : Int32) ≤ nI i from nI_le (a := 30) (by omega) (by omega))]
    · have := fb_ct_zero.mp (show fb_ct q (dC x) = 0 by omega) j hj
      rw [this] at e; cases e
  | succ d ih =>
    intro i k q hi hk h1 h2 h3
    obtain ⟨k, rfl⟩ : ∃ k', k = k' + 1 := ⟨k - 1, by omega⟩
    rw [f_X5_cyclicPart_L4.eq_2, br_ne (show ¬ (30 : Int32) ≤ nI i from nI_ge (b := 30) (by omega) (by omega)), X2_firstFree h hc, Option.bind_some]
    unfold ffI
    by_cases e : fa_first (fre x q) (dC x) < dC x
    · rw [if_pos e]
      have hf := fre_y.mp (fa_first_yes (fre x q) (dC x) e)
      generalize fa_first (fre x q) (dC x) = j at e hf
      rw [br_m1 (by omega)]
      unfold f_X10_without
      rw [Option.bind_some, bm_wo (by omega) (by omega), show nI i + 1 = nI (i + 1) from nI_1 i]
      have hct := ct_minus e hf.1
      refine ih (i + 1) k _ (by omega) (by omega) (fun k hk e1 => ?_) (fun t ht hs k hk e1 => ?_) (by omega)
      · have e1 : (q k && !(k == j)) = true := e1
        rw [Bool.and_eq_true] at e1
        exact h1 k hk e1.1
      · have hq := h2 t ht hs
        have ho := fre_out hf.2 e ht hq
        show (q k && !(k == j)) = true
        rw [hq k hk e1]
        by_cases z : k = j
        · rw [z, ho] at e1; cases e1
        · have : (k == j) = false := beq_eq_false_iff_ne.mpr z
          rw [this]; rfl
    · rw [if_neg e, br_eq rfl]
      refine ⟨q, rfl, h1, fre_none (fun j hj => ?_), h2⟩
      have hle := fa_first_le (fre x q) (dC x)
      exact fa_first_no (fre x q) (dC x) j (by omega)
theorem X5_cyc {w : TDelta} {x : XD} (h : D1 w x) (hc : dC x ≤ 30) (p : Nat → Bool) : ∃ r, f_X5_cyclicPart w (bm p (dC x)) = some (bm r (dC x)) ∧ GS x p r := by
  have := fb_ct_le p (dC x)
  exact cyc4 h hc (bm p (dC x)) p 30 0 FUEL p rfl (by decide) (fun _ _ e => e) (fun _ _ hs => hs) (by omega)
