/-! the reference's least loss -/
abbrev mW (w : TModel) := w.2.2.2.2.1
def sH (w : TModel) (h : Nat → Int32) : TModel := (w.1, w.2.1, w.2.2.1, w.2.2.2.1, h, w.2.2.2.2.2)
theorem or_z (a : Int32) : a ||| 0 = a := b_ext fun i hi => by rw [b_or, b_0, Bool.or_false]
theorem and_m1 (a : Int32) : a &&& (-1) = a := b_ext fun i hi => by rw [b_and, b_m1 i hi, Bool.and_true]
theorem copies4 {w : TModel} {x : XD} (h : D2 (mA w) x) (hc : dC x ≤ 30) : ∀ d i k : Nat, i + d = dC x → d < k → f_X11_copies_L4 w k (nI i) (bm (dK x) i) = some (bm (dK x) (dC x)) := by
  intro d
  induction d with
  | zero =>
    intro i k hi hk
    obtain ⟨k, rfl⟩ : ∃ k', k = k' + 1 := ⟨k - 1, by omega⟩
    rw [f_X11_copies_L4.eq_2, gd_132, c_132, show w.1 132 = nI (dC x) from h.2.2.1, br_le_t (by omega) (by omega), show i = dC x by omega]
  | succ d ih =>
    intro i k hi hk
    obtain ⟨k, rfl⟩ : ∃ k', k = k' + 1 := ⟨k - 1, by omega⟩
    have h2 := ih (i + 1) k (by omega) (by omega)
    rw [f_X11_copies_L4.eq_2, gd_132, c_132, show w.1 132 = nI (dC x) from h.2.2.1, br_le_f (by omega) (by omega), X11_isC h hc (by omega), Option.bind_some, br_z0]
    unfold f_X11_copies_J32
    rw [show nI i + 1 = nI (i + 1) from nI_1 i, or_z]
    have e : bm (dK x) (i + 1) = if dK x i then bm (dK x) i ||| ((1 : Int32) <<< (nI i &&& 31)) else bm (dK x) i := rfl
    rw [e] at h2
    cases hk : dK x i
    · rw [hk] at h2; exact h2
    · rw [hk] at h2; exact h2
theorem X11_copies {w : TModel} {x : XD} (h : D2 (mA w) x) (hc : dC x ≤ 30) : f_X11_copies w = some (bm (dK x) (dC x)) := copies4 h hc (dC x) 0 FUEL (Nat.zero_add _) (by show _ < 10000; omega)
theorem ll23 {x : XD} (hI : DI x) (rec2 : TModel → Int32 → Option (Int32 × TModel)) {j : Nat} (hj : j < dC x) : ∀ (d i k : Nat) (w : TModel), D2 (mA w) x → mW w j = bm (fun e => Pr x e j) i → i + d = dC x → d < k → ∃ h, f_X11_leastLossOf_L23 rec2 k w (nI i) (nI j) = rec2 (sH w h) (nI (j + 1)) ∧ h j = bm (fun e => Pr x e j) (dC x) ∧ ∀ e, e ≠ j → h e = mW w e := by
  have hc := hI.1
  intro d
  induction d with
  | zero =>
    intro i k w h hw hi hk
    obtain ⟨k, rfl⟩ : ∃ k', k = k' + 1 := ⟨k - 1, by omega⟩
    refine ⟨mW w, ?_, by rw [hw, show i = dC x by omega], fun _ _ => rfl⟩
    rw [f_X11_leastLossOf_L23.eq_2, gd_132, c_132, show w.1 132 = nI (dC x) from h.2.2.1, br_le_t (by omega) (by omega), nI_1]
    rfl
  | succ d ih =>
    intro i k w h hw hi hk
    obtain ⟨k, rfl⟩ : ∃ k', k = k' + 1 := ⟨k - 1, by omega⟩
    have step : f_X11_leastLossOf_L23 rec2 (k + 1) w (nI i) (nI j) = f_X11_leastLossOf_L23 rec2 k (sH w (upd (mW w) j (bm (fun e => Pr x e j) (i + 1)))) (nI (i + 1)) (nI j) := by
      rw [f_X11_leastLossOf_L23.eq_2, gd_132, c_132, show w.1 132 = nI (dC x) from h.2.2.1, br_le_f (by omega) (by omega), gd_in (by omega) (by omega), X11_precedes h hI (by omega) hj, Option.bind_some, br_z0, nI_clamp (by omega), show w.2.2.2.2.1 j = bm (fun e => Pr x e j) i from hw]
      unfold f_X11_leastLossOf_J58
      have e : bm (fun e => Pr x e j) (i + 1) = if Pr x i j then bm (fun e => Pr x e j) i ||| ((1 : Int32) <<< (nI i &&& 31)) else bm (fun e => Pr x e j) i := rfl
      rw [e]
      cases Pr x i j
      · rw [if_neg (by decide), if_neg (by decide), gd_in (by omega) (by omega), nI_clamp (by omega), or_z, nI_1]; rfl
      · rw [if_pos rfl, if_pos rfl, gd_in (by omega) (by omega), nI_clamp (by omega), nI_1]; rfl
    obtain ⟨hh, e, h1, h2⟩ := ih (i + 1) k (sH w (upd (mW w) j (bm (fun e => Pr x e j) (i + 1)))) h (upd_at _ _ _) (by omega) (by omega)
    refine ⟨hh, step.trans e, h1, fun e he => ?_⟩
    rw [h2 e he]; exact upd_ne _ _ he
/-- the rows of predecessors stand in the reference -/
def AH (w : TModel) (x : XD) : Prop := ∀ j, j < dC x → mW w j = bm (fun e => Pr x e j) (dC x)
theorem ll2 {x : XD} (hI : DI x) : ∀ (d j k : Nat) (w : TModel), D2 (mA w) x → (∀ e, e < j → mW w e = bm (fun i => Pr x i e) (dC x)) → j + d = dC x → d < k → ∃ h, f_X11_leastLossOf_L2 k w (nI j) = f_X11_leastLossOf_L85 FUEL (sH w h) (bm (dK x) (dC x)) (nI (lossOf x (dK x))) (bm (dK x) (dC x)) ∧ AH (sH w h) x := by
  have hc := hI.1
  intro d
  induction d with
  | zero =>
    intro j k w h hw hi hk
    obtain ⟨k, rfl⟩ : ∃ k', k = k' + 1 := ⟨k - 1, by omega⟩
    refine ⟨mW w, ?_, fun e he => hw e (by omega)⟩
    rw [f_X11_leastLossOf_L2.eq_2, gd_132, c_132, show w.1 132 = nI (dC x) from h.2.2.1, br_le_t (by omega) (by omega), X11_copies h hc, Option.bind_some, X11_lossOf h hc, Option.bind_some]
    rfl
  | succ d ih =>
    intro j k w h hw hi hk
    obtain ⟨k, rfl⟩ : ∃ k', k = k' + 1 := ⟨k - 1, by omega⟩
    obtain ⟨h1, e1, a1, a2⟩ := ll23 hI (f_X11_leastLossOf_L2 k) (show j < dC x by omega) (dC x) 0 FUEL (sH w (upd (mW w) j 0)) h (upd_at _ _ _) (Nat.zero_add _) (by show _ < 10000; omega)
    obtain ⟨h2, e2, b2⟩ := ih (j + 1) k (sH w h1) h (fun e he => by
      by_cases z : e = j
      · rw [z]; exact a1
      · show h1 e = _
        rw [a2 e z]
        show upd (mW w) j 0 e = _
        rw [upd_ne _ _ z]; exact hw e (by omega)) (by omega) (by omega)
    refine ⟨h2, ?_, b2⟩
    rw [f_X11_leastLossOf_L2.eq_2, gd_132, c_132, show w.1 132 = nI (dC x) from h.2.2.1, br_le_f (by omega) (by omega), gd_in (by omega) (by omega), nI_clamp (by omega)]
    exact e1.trans e2
/-- one pass over a set -/
theorem ord14 {w : TModel} {x : XD} (h : D2 (mA w) x) (hc : dC x ≤ 30) (ha : AH w x) (p0 had : Int32) (rec4 : Int32 → Int32 → Option Int32) : ∀ (d i k : Nat) (q : Nat → Bool), i + d = dC x → d < k → ∃ r, f_X11_isOrderly_L14 w p0 rec4 k (nI i) had (bm q (dC x)) = rec4 had (bm r (dC x)) ∧ (∀ k, k < dC x → r k = true → q k = true) ∧ (∀ t : Nat → Bool, stuck x t → (∀ k, k < dC x → t k = true → q k = true) → ∀ k, k < dC x → t k = true → r k = true) ∧ (fb_ct r (dC x) < fb_ct q (dC x) ∨ ((∀ k, k < dC x → r k = q k) ∧ ∀ k, i ≤ k → k < dC x → q k = true → ∃ e, e < dC x ∧ q e = true ∧ Pr x e k = true)) := by
  intro d
  induction d with
  | zero =>
    intro i k q hi hk
    obtain ⟨k, rfl⟩ : ∃ k', k = k' + 1 := ⟨k - 1, by omega⟩
    refine ⟨q, ?_, fun _ _ e => e, fun _ _ hs => hs, Or.inr ⟨fun _ _ => rfl, fun k h1 h2 => by omega⟩⟩
    rw [f_X11_isOrderly_L14.eq_2, gd_132, c_132, show w.1 132 = nI (dC x) from h.2.2.1, br_le_t (by omega) (by omega)]
  | succ d ih =>
    intro i k q hi hk
    obtain ⟨k, rfl⟩ : ∃ k', k = k' + 1 := ⟨k - 1, by omega⟩
    rw [f_X11_isOrderly_L14.eq_2, gd_132, c_132, show w.1 132 = nI (dC x) from h.2.2.1, br_le_f (by omega) (by omega), gd_in (by omega) (by omega), nI_clamp (by omega), show w.2.2.2.2.1 i = bm (fun e => Pr x e i) (dC x) from ha i (by omega), bm_and (by omega)]
    unfold f_X11_isOrderly_J50
    rw [nI_1, and_m1, bm_wo (by omega) (by omega)]
    by_cases e : ∀ e, e < dC x → (Pr x e i && q e) = false
    · rw [br_eq ((bm_0 (by omega)).mpr e)]
      obtain ⟨r, er, r1, r2, r3⟩ := ih (i + 1) k (fun k => q k && !(k == i)) (by omega) (by omega)
      refine ⟨r, er, fun k hk hr => ?_, fun t ht hs => r2 t ht (fun k hk hr => ?_), ?_⟩
      · have := r1 k hk hr
        rw [Bool.and_eq_true] at this
        exact this.1
      · show (q k && !(k == i)) = true
        rw [hs k hk hr]
        by_cases z : k = i
        · rw [z, fre_out e (by omega) ht hs] at hr; cases hr
        · have : (k == i) = false := beq_eq_false_iff_ne.mpr z
          rw [this]; rfl
      · have hle : fb_ct r (dC x) ≤ fb_ct (fun k => q k && !(k == i)) (dC x) := by
          rcases r3 with r3 | r3
          · omega
          · exact Nat.le_of_eq (fb_ct_cong r3.1)
        cases hq : q i
        · have same : ∀ k, k < dC x → (q k && !(k == i)) = q k := fun k hk => by
            by_cases z : k = i
            · rw [z, hq]; rfl
            · have : (k == i) = false := beq_eq_false_iff_ne.mpr z
              rw [this]; simp
          rcases r3 with r3 | ⟨r3, r4⟩
          · left
            rw [fb_ct_cong same] at r3
            exact r3
          · right
            refine ⟨fun k hk => (r3 k hk).trans (same k hk), fun k k1 k2 k3 => ?_⟩
            have z : k ≠ i := fun z => by rw [z, hq] at k3; cases k3
            obtain ⟨e, e1, e2, e3⟩ := r4 k (by omega) k2 (by show (q k && !(k == i)) = true; rw [same k k2]; exact k3)
            exact ⟨e, e1, (same e e1) ▸ e2, e3⟩
        · left
          have := ct_minus (show i < dC x by omega) hq
          omega
    · rw [br_ne (fun z => e ((bm_0 (by omega)).mp z))]
      obtain ⟨r, er, r1, r2, r3⟩ := ih (i + 1) k q (by omega) (by omega)
      refine ⟨r, er, r1, r2, ?_⟩
      rcases r3 with r3 | ⟨r3, r4⟩
      · exact Or.inl r3
      · refine Or.inr ⟨r3, fun k k1 k2 k3 => ?_⟩
        by_cases z : k = i
        · subst z
          refine Classical.byContradiction fun hn => e (fun f hf => ?_)
          cases e1 : Pr x f k
          · rfl
          · cases e2 : q f
            · rfl
            · exact absurd ⟨f, hf, e2, e1⟩ hn
        · exact r4 k (by omega) k2 k3
theorem ord4 {w : TModel} {x : XD} (h : D2 (mA w) x) (hc : dC x ≤ 30) (ha : AH w x) (p0 : Int32) (p : Nat → Bool) : ∀ (m k : Nat) (q : Nat → Bool) (had : Int32), fb_ct q (dC x) ≤ m → m + 2 ≤ k → (∀ k, k < dC x → q k = true → p k = true) → (∀ t : Nat → Bool, stuck x t → (∀ k, k < dC x → t k = true → p k = true) → ∀ k, k < dC x → t k = true → q k = true) → (bm q (dC x) = had → stuck x q) → ∃ b : Bool, f_X11_isOrderly_L4 w p0 k had (bm q (dC x)) = some (zI b) ∧ (b = true ↔ orderly x p) := by
  have fin : ∀ (k : Nat) (q : Nat → Bool), stuck x q → (∀ k, k < dC x → q k = true → p k = true) → (∀ t : Nat → Bool, stuck x t → (∀ k, k < dC x → t k = true → p k = true) → ∀ k, k < dC x → t k = true → q k = true) → ∃ b : Bool, f_X11_isOrderly_L4 w p0 (k + 1) (bm q (dC x)) (bm q (dC x)) = some (zI b) ∧ (b = true ↔ orderly x p) := by
    intro k q h1 h2 h3
    have hg : GS x p q := ⟨h2, h1, h3⟩
    rw [f_X11_isOrderly_L4.eq_2, br_eq rfl]
    by_cases e : ∀ k, k < dC x → q k = false
    · exact ⟨true, br_eq ((bm_0 (by omega)).mpr e), fun _ => (GS_ord hg).mpr e, fun _ => rfl⟩
    · exact ⟨false, br_ne (fun z => e ((bm_0 (by omega)).mp z)), (fun z => by cases z), fun z => absurd ((GS_ord hg).mp z) e⟩
  intro m
  induction m with
  | zero =>
    intro k q had hm hk h1 h2 h3
    obtain ⟨k, rfl⟩ : ∃ k', k = k' + 2 := ⟨k - 2, by omega⟩
    by_cases e : bm q (dC x) = had
    · subst e; exact fin (k + 1) q (h3 rfl) h1 h2
    · have hz := fb_ct_zero.mp (show fb_ct q (dC x) = 0 by omega)
      obtain ⟨r, er, r1, r2, r3⟩ := ord14 h hc ha p0 (bm q (dC x)) (f_X11_isOrderly_L4 w p0 (k + 1)) (dC x) 0 FUEL q (Nat.zero_add _) (by show _ < 10000; omega)
      have e9 : bm r (dC x) = bm q (dC x) := bm_cong (by omega) (fun i hi => by
        rw [hz i hi]
        cases e5 : r i
        · rfl
        · have := r1 i hi e5
          rw [hz i hi] at this; cases this)
      rw [e9] at er
      have hs : stuck x q := fun j hj e5 => by rw [hz j hj] at e5; cases e5
      obtain ⟨b, b1, b2⟩ := fin k q hs h1 h2
      refine ⟨b, ?_, b2⟩
      rw [f_X11_isOrderly_L4.eq_2, br_ne e]
      exact er.trans b1
  | succ m ih =>
    intro k q had hm hk h1 h2 h3
    obtain ⟨k, rfl⟩ : ∃ k', k = k' + 2 := ⟨k - 2, by omega⟩
    by_cases e : bm q (dC x) = had
    · subst e; exact fin (k + 1) q (h3 rfl) h1 h2
    · obtain ⟨r, er, r1, r2, r3⟩ := ord14 h hc ha p0 (bm q (dC x)) (f_X11_isOrderly_L4 w p0 (k + 1)) (dC x) 0 FUEL q (Nat.zero_add _) (by show _ < 10000; omega)
      have step : f_X11_isOrderly_L4 w p0 (k + 2) had (bm q (dC x)) = f_X11_isOrderly_L4 w p0 (k + 1) (bm q (dC x)) (bm r (dC x)) := by
        rw [f_X11_isOrderly_L4.eq_2, br_ne e]
        exact er
      rw [step]
      rcases r3 with r3 | ⟨r3, r4⟩
      · refine ih (k + 1) r (bm q (dC x)) (by omega) (by omega) (fun k hk e => h1 k hk (r1 k hk e)) (fun t ht hs => r2 t ht (h2 t ht hs)) (fun z => ?_)
        exfalso
        have : ∀ i, i < dC x → r i = q i := fun i hi => by
          have a := bm_bt r (show dC x ≤ 32 by omega) (show i < 32 by omega)
          have b := bm_bt q (show dC x ≤ 32 by omega) (show i < 32 by omega)
          rw [z] at a
          rw [a] at b
          rw [decide_eq_true hi, Bool.true_and, Bool.true_and] at b
          exact b
        rw [fb_ct_cong this] at r3
        omega
      · rw [bm_cong (by omega) r3]
        exact fin k q (fun j hj e => r4 j (Nat.zero_le j) hj e) h1 h2
theorem X11_isOrderly {w : TModel} {x : XD} (h : D2 (mA w) x) (hc : dC x ≤ 30) (ha : AH w x) (p : Nat → Bool) : ∃ b : Bool, f_X11_isOrderly w (bm p (dC x)) = some (zI b) ∧ (b = true ↔ orderly x p) := by
  have := fb_ct_le p (dC x)
  refine ord4 h hc ha (bm p (dC x)) p 30 FUEL p 0 (by omega) (by decide) (fun _ _ e => e) (fun _ _ hs => hs) (fun z j hj e => ?_)
  have := (bm_0 (by omega)).mp z j hj
  rw [this] at e; cases e
