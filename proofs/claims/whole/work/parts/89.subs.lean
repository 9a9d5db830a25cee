/-! all parts of a set, as numbers -/
theorem nand (a b : Nat) : nI a &&& nI b = nI (a &&& b) := by
  apply Int32.toBitVec_inj.1
  show BitVec.ofNat 32 a &&& BitVec.ofNat 32 b = BitVec.ofNat 32 (a &&& b)
  apply BitVec.eq_of_getLsbD_eq
  intro i hi
  simp [hi]
theorem bt_nI (s : Nat) {i : Nat} (hi : i < 32) : bt (nI s) i = s.testBit i := by
  show (BitVec.ofNat 32 s).getLsbD i = _
  rw [BitVec.getLsbD_ofNat, decide_eq_true hi, Bool.true_and]
theorem bm_nI {s n : Nat} (hn : n ≤ 32) (hs : s < 2 ^ n) : nI s = bm (fun i => s.testBit i) n := by
  refine b_ext fun i hi => ?_
  rw [bt_nI s hi, bm_bt _ hn hi]
  by_cases e : i < n
  · rw [decide_eq_true e, Bool.true_and]
  · rw [decide_eq_false e, Bool.false_and]
    exact Nat.testBit_lt_two_pow (Nat.lt_of_lt_of_le hs (Nat.pow_le_pow_right (by omega) (by omega)))
/-- a set as a number -/
def bn (p : Nat → Bool) : Nat → Nat
  | 0 => 0
  | n + 1 => bn p n + (if p n then 2 ^ n else 0)
theorem bn_lt (p : Nat → Bool) : ∀ n, bn p n < 2 ^ n
  | 0 => by show 0 < 1; omega
  | n + 1 => by
    have := bn_lt p n
    show bn p n + (if p n then 2 ^ n else 0) < 2 ^ (n + 1)
    rw [Nat.pow_succ]
    split <;> omega
theorem bn_bit (p : Nat → Bool) : ∀ n i, (bn p n).testBit i = (decide (i < n) && p i)
  | 0, i => by show (0 : Nat).testBit i = _; simp
  | n + 1, i => by
    have ih := bn_bit p n i
    have hl := bn_lt p n
    show (bn p n + (if p n then 2 ^ n else 0)).testBit i = _
    by_cases e : i = n
    · subst e
      rw [decide_eq_true (Nat.lt_succ_self i), Bool.true_and]
      cases hp : p i
      · rw [if_neg (by decide), Nat.add_zero]
        exact Nat.testBit_lt_two_pow hl
      · rw [if_pos rfl, Nat.add_comm, Nat.testBit_two_pow_add_eq]
        rw [Nat.testBit_lt_two_pow hl]; rfl
    · have e2 : decide (i < n + 1) = decide (i < n) := by
        by_cases q : i < n
        · rw [decide_eq_true q, decide_eq_true (by omega)]
        · rw [decide_eq_false q, decide_eq_false (by omega)]
      rw [e2]
      cases hp : p n
      · rw [if_neg (by decide), Nat.add_zero]; exact ih
      · rw [if_pos rfl, Nat.add_comm]
        rcases Nat.lt_or_ge i n with q | q
        · rw [Nat.testBit_two_pow_add_gt q]; exact ih
        · rw [decide_eq_false (by omega), Bool.false_and]
          refine Nat.testBit_lt_two_pow (Nat.lt_of_lt_of_le (show 2 ^ n + bn p n < 2 ^ (n + 1) by rw [Nat.pow_succ]; omega) (Nat.pow_le_pow_right (by omega) (by omega)))
theorem bn_bm (p : Nat → Bool) {n : Nat} (hn : n ≤ 32) : nI (bn p n) = bm p n := by
  rw [bm_nI hn (bn_lt p n)]
  refine bm_cong hn fun i hi => ?_
  rw [bn_bit, decide_eq_true hi, Bool.true_and]
theorem and_div2 (a b : Nat) : (a &&& b) / 2 = a / 2 &&& b / 2 := by
  apply Nat.eq_of_testBit_eq
  intro i
  rw [Nat.testBit_and, ← Nat.testBit_succ, ← Nat.testBit_succ, ← Nat.testBit_succ, Nat.testBit_and]
theorem and_mod2 (a b : Nat) : (a &&& b) % 2 = 1 ↔ a % 2 = 1 ∧ b % 2 = 1 := by
  have h := Nat.testBit_and a b 0
  rw [Nat.testBit_zero, Nat.testBit_zero, Nat.testBit_zero, ← Bool.decide_and] at h
  exact decide_eq_decide.mp h
/-- the place of s among the parts of C -/
def rk : Nat → Nat → Nat → Nat
  | 0, _, _ => 0
  | n + 1, C, s => if C % 2 = 1 then 2 * rk n (C / 2) (s / 2) + s % 2 else rk n (C / 2) (s / 2)
theorem sub_half {C s : Nat} (h : s &&& C = s) : s / 2 &&& C / 2 = s / 2 := by rw [← and_div2, h]
theorem sub_low {C s : Nat} (h : s &&& C = s) (hs : s % 2 = 1) : C % 2 = 1 := by
  rw [← h] at hs
  exact ((and_mod2 s C).mp hs).2
theorem sub_next {C s : Nat} : ((s - 1) &&& C) &&& C = (s - 1) &&& C := by rw [Nat.and_assoc, Nat.and_self]
/-- the next part below s -/
theorem dec_half {C s : Nat} (h : s &&& C = s) (hs : 0 < s) : ((s - 1 &&& C) / 2 = if s % 2 = 1 then s / 2 else (s / 2 - 1) &&& C / 2) ∧ (s - 1 &&& C) % 2 = (if s % 2 = 1 then 0 else C % 2) := by
  constructor
  · rw [and_div2]
    by_cases e : s % 2 = 1
    · rw [if_pos e, show (s - 1) / 2 = s / 2 by omega]; exact sub_half h
    · rw [if_neg e, show (s - 1) / 2 = s / 2 - 1 by omega]
  · have h2 := and_mod2 (s - 1) C
    have l1 : (s - 1 &&& C) % 2 < 2 := Nat.mod_lt _ (by omega)
    by_cases e : s % 2 = 1
    · rw [if_pos e]
      have : ¬ ((s - 1) % 2 = 1 ∧ C % 2 = 1) := by omega
      rw [← h2] at this
      omega
    · rw [if_neg e]
      by_cases q : C % 2 = 1
      · have := h2.mpr ⟨by omega, q⟩
        omega
      · have : ¬ ((s - 1) % 2 = 1 ∧ C % 2 = 1) := by omega
        rw [← h2] at this
        omega
theorem sub_max : ∀ (n C s T : Nat), s < 2 ^ n → s &&& C = s → T &&& C = T → T < s → T ≤ (s - 1) &&& C := by
  intro n
  induction n with
  | zero => intro C s T h1 h2 h3 h4; rw [Nat.pow_zero] at h1; omega
  | succ n ih =>
    intro C s T h1 h2 h3 h4
    rw [Nat.pow_succ] at h1
    obtain ⟨d1, d2⟩ := dec_half h2 (by omega)
    by_cases e : s % 2 = 1
    · rw [if_pos e] at d1 d2
      omega
    · rw [if_neg e] at d1 d2
      have h5 := ih (C / 2) (s / 2) (T / 2) (by omega) (sub_half h2) (sub_half h3) (by omega)
      have h6 : T % 2 = 1 → C % 2 = 1 := sub_low h3
      omega
theorem rk_next : ∀ (n C s : Nat), s < 2 ^ n → s &&& C = s → 0 < s → rk n C ((s - 1) &&& C) + 1 = rk n C s := by
  intro n
  induction n with
  | zero => intro C s h1 h2 h3; rw [Nat.pow_zero] at h1; omega
  | succ n ih =>
    intro C s h1 h2 h3
    rw [Nat.pow_succ] at h1
    obtain ⟨d1, d2⟩ := dec_half h2 h3
    show (if C % 2 = 1 then 2 * rk n (C / 2) (((s - 1) &&& C) / 2) + ((s - 1) &&& C) % 2 else rk n (C / 2) (((s - 1) &&& C) / 2)) + 1 = (if C % 2 = 1 then 2 * rk n (C / 2) (s / 2) + s % 2 else rk n (C / 2) (s / 2))
    rw [d1, d2]
    by_cases e : s % 2 = 1
    · rw [if_pos e, if_pos e, if_pos (sub_low h2 e), if_pos (sub_low h2 e)]
      omega
    · rw [if_neg e, if_neg e]
      have h5 := ih (C / 2) (s / 2) (by omega) (sub_half h2) (by omega)
      by_cases q : C % 2 = 1
      · rw [if_pos q, if_pos q]; omega
      · rw [if_neg q, if_neg q]; omega
theorem rk_lt : ∀ (n C s : Nat), rk n C s < 2 ^ (fb_ct (fun i => C.testBit i) n) := by
  intro n
  induction n with
  | zero => intro C s; show 0 < 2 ^ 0; omega
  | succ n ih =>
    intro C s
    have h := ih (C / 2) (s / 2)
    have e : fb_ct (fun i => C.testBit i) (n + 1) = (if C % 2 = 1 then 1 else 0) + fb_ct (fun i => (C / 2).testBit i) n := by
      rw [Nat.add_comm n 1, fb_ct_split]
      congr 1
      · show 0 + (if C.testBit 0 = true then 1 else 0) = _
        rw [Nat.testBit_zero]
        by_cases q : C % 2 = 1
        · simp [q]
        · simp [q]
      · refine fb_ct_cong fun k hk => ?_
        rw [Nat.add_comm 1 k]; exact Nat.testBit_succ C k
    show (if C % 2 = 1 then 2 * rk n (C / 2) (s / 2) + s % 2 else rk n (C / 2) (s / 2)) < _
    rw [e]
    have l1 : s % 2 < 2 := Nat.mod_lt _ (by omega)
    by_cases q : C % 2 = 1
    · rw [if_pos q, if_pos q, Nat.add_comm 1, Nat.pow_succ]; omega
    · rw [if_neg q, if_neg q, Nat.zero_add]; exact h
