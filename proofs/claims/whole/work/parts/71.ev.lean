/-! evaluating the pure programs: branches and bounds over small numbers -/
theorem br_le_t {α : Type} {a b : Nat} {x y : Option α} (h : a ≤ b) (hb : b < 2147483648) : br (nI a ≤ nI b) x y = x := br_eq (nI_le h hb)
theorem br_le_f {α : Type} {a b : Nat} {x y : Option α} (h : b < a) (ha : a < 2147483648) : br (nI a ≤ nI b) x y = y := br_ne (nI_ge h ha)
theorem br_lt_t {α : Type} {a b : Nat} {x y : Option α} (h : a < b) (hb : b < 2147483648) : br (nI a < nI b) x y = x := br_eq (nI_lt h hb)
theorem br_lt_f {α : Type} {a b : Nat} {x y : Option α} (h : b ≤ a) (ha : a < 2147483648) : br (nI a < nI b) x y = y := br_ne (nI_nlt h ha)
theorem br_eq_t {α : Type} {a b : Nat} {x y : Option α} (h : a = b) : br (nI a = nI b) x y = x := br_eq (by rw [h])
theorem br_eq_f {α : Type} {a b : Nat} {x y : Option α} (h : a ≠ b) (ha : a < 2147483648) (hb : b < 2147483648) : br (nI a = nI b) x y = y := br_ne (fun e => h ((nI_eq ha hb).mp e))
theorem nI_ne_m1 {a : Nat} (ha : a < 2147483648) : ¬ nI a = (-1 : Int32) := by
  intro e
  have h := congrArg Int32.toInt e
  rw [nI_toInt ha, show (-1 : Int32).toInt = -1 from by decide] at h
  omega
theorem br_m1 {α : Type} {a : Nat} {x y : Option α} (ha : a < 2147483648) : br (nI a = (-1 : Int32)) x y = y := br_ne (nI_ne_m1 ha)
theorem br_0m {α : Type} {a : Nat} {x y : Option α} (ha : a < 2147483648) : br ((-1 : Int32) = nI a) x y = y := br_ne (fun e => nI_ne_m1 ha e.symm)
theorem br_rf {α β : Type} {z : β} {x y : Option α} : br (z = z) x y = x := br_eq rfl
theorem br_T {α : Type} {x y : Option α} : br True x y = x := br_eq trivial
theorem br_F {α : Type} {x y : Option α} : br False x y = y := br_ne (fun h => h)
theorem gd_T {α : Type} {x : Option α} : gd True x = x := gd_eq trivial
theorem gd_in {α : Type} {a N : Nat} {x : Option α} (h : a < N) (hN : N < 2147483648) : gd (vp_in (nI a) N) x = x := gd_eq (nI_in h hN)
theorem gd_01 {α : Type} {a : Nat} {x : Option α} (h : a < 2) : gd (nI a = nI 0 ∨ nI a = nI 1) x = x := gd_eq (by rcases (by omega : a = 0 ∨ a = 1) with e | e <;> (rw [e]; first | exact Or.inl rfl | exact Or.inr rfl))
theorem nI_sb {a b : Nat} (h : b ≤ a) : nI a - nI b = nI (a - b) := pk_sub h
theorem l_0 : (0 : Int32) = nI 0 := rfl
theorem l_1 : (1 : Int32) = nI 1 := rfl
theorem l_2 : (2 : Int32) = nI 2 := rfl
theorem l_3 : (3 : Int32) = nI 3 := rfl
theorem l_4 : (4 : Int32) = nI 4 := rfl
theorem l_5 : (5 : Int32) = nI 5 := rfl
theorem l_12 : (12 : Int32) = nI 12 := rfl
theorem l_30 : (30 : Int32) = nI 30 := rfl
theorem l_64 : (64 : Int32) = nI 64 := rfl
theorem l_73 : (73 : Int32) = nI 73 := rfl
theorem l_130 : (130 : Int32) = nI 130 := rfl
theorem l_131 : (131 : Int32) = nI 131 := rfl
theorem l_132 : (132 : Int32) = nI 132 := rfl
theorem l_133 : (133 : Int32) = nI 133 := rfl
theorem l_200 : (200 : Int32) = nI 200 := rfl
theorem l_251 : (251 : Int32) = nI 251 := rfl
theorem l_253 : (253 : Int32) = nI 253 := rfl
theorem l_255 : (255 : Int32) = nI 255 := rfl
theorem l_317 : (317 : Int32) = nI 317 := rfl
theorem l_318 : (318 : Int32) = nI 318 := rfl
theorem l_348 : (348 : Int32) = nI 348 := rfl
theorem l_349 : (349 : Int32) = nI 349 := rfl
theorem l_350 : (350 : Int32) = nI 350 := rfl
theorem l_550 : (550 : Int32) = nI 550 := rfl
theorem l_551 : (551 : Int32) = nI 551 := rfl
theorem l_552 : (552 : Int32) = nI 552 := rfl
theorem l_553 : (553 : Int32) = nI 553 := rfl
theorem l_617 : (617 : Int32) = nI 617 := rfl
theorem l_1851 : (1851 : Int32) = nI 1851 := rfl
theorem upd_at (f : Nat → Int32) (k : Nat) (x : Int32) : upd f k x k = x := if_pos rfl
theorem upd_ne (f : Nat → Int32) {k j : Nat} (x : Int32) (h : j ≠ k) : upd f k x j = f j := if_neg h
/-- a set of numbers below n as bits -/
noncomputable def bm (p : Nat → Bool) : Nat → Int32
  | 0 => 0
  | n + 1 => if p n then bm p n ||| ((1 : Int32) <<< (nI n &&& 31)) else bm p n
theorem b_one {n i : Nat} (hn : n < 32) (hi : i < 32) : bt ((1 : Int32) <<< (nI n &&& 31)) i = decide (i = n) := by
  rw [b_shl n hn 1 hi]
  have h1 : ∀ j, j < 32 → bt 1 j = decide (j = 0) := by decide +kernel
  by_cases h : n ≤ i
  · rw [h1 (i - n) (by omega), decide_eq_true h, Bool.true_and]
    by_cases e : i = n
    · rw [decide_eq_true (by omega), decide_eq_true e]
    · rw [decide_eq_false (by omega), decide_eq_false e]
  · rw [decide_eq_false h, decide_eq_false (by omega), Bool.false_and]
theorem bm_bt (p : Nat → Bool) : ∀ {n : Nat}, n ≤ 32 → ∀ {i : Nat}, i < 32 → bt (bm p n) i = (decide (i < n) && p i)
  | 0, _, i, hi => by
    show bt 0 i = _
    rw [b_0]; simp
  | n + 1, hn, i, hi => by
    have ih := bm_bt p (n := n) (by omega) hi
    show bt (if p n then bm p n ||| ((1 : Int32) <<< (nI n &&& 31)) else bm p n) i = _
    by_cases e : i = n
    · subst e
      rw [decide_eq_false (Nat.lt_irrefl i), Bool.false_and] at ih
      rw [decide_eq_true (Nat.lt_succ_self i), Bool.true_and]
      cases hp : p i
      · simp [ih]
      · simp [b_or, b_one hi hi]
    · have e2 : decide (i < n) = decide (i < n + 1) := by
        by_cases h : i < n
        · rw [decide_eq_true h, decide_eq_true (by omega)]
        · rw [decide_eq_false h, decide_eq_false (by omega)]
      cases hp : p n
      · simp [ih, e2]
      · simp [b_or, b_one (show n < 32 by omega) hi, e, ih, e2]
theorem bm_cong {p q : Nat → Bool} {n : Nat} (hn : n ≤ 32) (h : ∀ i, i < n → p i = q i) : bm p n = bm q n := by
  refine b_ext fun i hi => ?_
  rw [bm_bt p hn hi, bm_bt q hn hi]
  by_cases e : i < n
  · rw [h i e]
  · simp [e]
theorem bm_in {p : Nat → Bool} {n j : Nat} (hn : n ≤ 32) (hj : j < 31) : ((bm p n >>> (nI j &&& 31)) &&& (1 : Int32)) = (if j < n ∧ p j = true then nI 1 else nI 0) := by
  have h1 : ∀ j, j < 32 → bt 1 j = decide (j = 0) := by decide +kernel
  have h2 : ∀ (b : Bool) i, i < 32 → bt (if b then nI 1 else nI 0) i = (decide (i = 0) && b) := by decide +kernel
  have h3 : (if j < n ∧ p j = true then nI 1 else nI 0) = (if (decide (j < n) && p j) then nI 1 else nI 0) := by
    by_cases e : j < n <;> cases hp : p j <;> simp [e]
  rw [h3]
  refine b_ext fun i hi => ?_
  rw [b_and, h1 i hi, h2 _ i hi, b_sshr j (by omega) _ hi]
  by_cases e : i = 0
  · subst e
    rw [if_pos (by omega), bm_bt p hn (by omega)]
    simp
  · simp [e]
theorem bm_wo {p : Nat → Bool} {n j : Nat} (hn : n ≤ 32) (hj : j < 32) : (bm p n &&& (((1 : Int32) <<< (nI j &&& 31)) ^^^ (-1 : Int32))) = bm (fun k => p k && !(k == j)) n := by
  refine b_ext fun i hi => ?_
  rw [b_and, b_xor, b_m1 i hi, b_one hj hi, bm_bt p hn hi, bm_bt _ hn hi]
  by_cases e : i = j
  · simp [e]
  · have e2 : (i == j) = false := beq_eq_false_iff_ne.mpr e
    simp [e, e2]
theorem bm_or {p : Nat → Bool} {n j : Nat} (hn : n ≤ 32) (hj : j < n) : (bm p n ||| ((1 : Int32) <<< (nI j &&& 31))) = bm (fun k => p k || (k == j)) n := by
  refine b_ext fun i hi => ?_
  rw [b_or, b_one (show j < 32 by omega) hi, bm_bt p hn hi, bm_bt _ hn hi]
  by_cases e : i = j
  · simp [e, hj]
  · have e2 : (i == j) = false := beq_eq_false_iff_ne.mpr e
    simp [e, e2]
theorem bm_and {p q : Nat → Bool} {n : Nat} (hn : n ≤ 32) : (bm p n &&& bm q n) = bm (fun k => p k && q k) n := by
  refine b_ext fun i hi => ?_
  rw [b_and, bm_bt p hn hi, bm_bt q hn hi, bm_bt _ hn hi]
  by_cases e : i < n <;> simp [e]
theorem bm_0 {p : Nat → Bool} {n : Nat} (hn : n ≤ 32) : bm p n = 0 ↔ ∀ k, k < n → p k = false := by
  constructor
  · intro h k hk
    have h2 := bm_bt p hn (show k < 32 by omega)
    rw [h, b_0, decide_eq_true hk, Bool.true_and] at h2
    exact h2.symm
  · intro h
    refine b_ext fun i hi => ?_
    rw [bm_bt p hn hi, b_0]
    by_cases e : i < n
    · rw [h i e]; simp
    · simp [e]
theorem bm_z (n : Nat) (hn : n ≤ 32) : (0 : Int32) = bm (fun _ => false) n := ((bm_0 hn).mpr fun _ _ => rfl).symm
/-- a set over fewer numbers, taken as one over more -/
theorem bm_up {p : Nat → Bool} {n m : Nat} (h : n ≤ m) (hm : m ≤ 32) : bm p n = bm (fun k => decide (k < n) && p k) m := by
  refine b_ext fun i hi => ?_
  rw [bm_bt p (by omega) hi, bm_bt _ hm hi]
  by_cases e : i < n
  · simp [e, show i < m by omega]
  · simp [e]
theorem gd_130 {α : Type} {x : Option α} : gd (vp_in (130 : Int32) 617) x = x := gd_eq (nI_in (c := 130) (by omega) (by omega))
theorem c_130 : (130 : Int32).toNatClampNeg = 130 := by decide
theorem gd_131 {α : Type} {x : Option α} : gd (vp_in (131 : Int32) 617) x = x := gd_eq (nI_in (c := 131) (by omega) (by omega))
theorem c_131 : (131 : Int32).toNatClampNeg = 131 := by decide
theorem gd_132 {α : Type} {x : Option α} : gd (vp_in (132 : Int32) 617) x = x := gd_eq (nI_in (c := 132) (by omega) (by omega))
theorem c_132 : (132 : Int32).toNatClampNeg = 132 := by decide
theorem gd_317 {α : Type} {x : Option α} : gd (vp_in (317 : Int32) 617) x = x := gd_eq (nI_in (c := 317) (by omega) (by omega))
theorem c_317 : (317 : Int32).toNatClampNeg = 317 := by decide
theorem gd_348 {α : Type} {x : Option α} : gd (vp_in (348 : Int32) 617) x = x := gd_eq (nI_in (c := 348) (by omega) (by omega))
theorem c_348 : (348 : Int32).toNatClampNeg = 348 := by decide
theorem gd_349 {α : Type} {x : Option α} : gd (vp_in (349 : Int32) 617) x = x := gd_eq (nI_in (c := 349) (by omega) (by omega))
theorem c_349 : (349 : Int32).toNatClampNeg = 349 := by decide
theorem gd_550 {α : Type} {x : Option α} : gd (vp_in (550 : Int32) 617) x = x := gd_eq (nI_in (c := 550) (by omega) (by omega))
theorem c_550 : (550 : Int32).toNatClampNeg = 550 := by decide
theorem gd_551 {α : Type} {x : Option α} : gd (vp_in (551 : Int32) 617) x = x := gd_eq (nI_in (c := 551) (by omega) (by omega))
theorem c_551 : (551 : Int32).toNatClampNeg = 551 := by decide
theorem gd_552 {α : Type} {x : Option α} : gd (vp_in (552 : Int32) 617) x = x := gd_eq (nI_in (c := 552) (by omega) (by omega))
theorem c_552 : (552 : Int32).toNatClampNeg = 552 := by decide
