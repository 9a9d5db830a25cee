/-! the class's search of the least loss -/
theorem next2 {P : Nat → Bool} {c : Nat} (hc : c ≤ 30) (p1 : Int32) : ∀ d i k : Nat, i + d = 30 → d < k → ∃ m, f_X5_nextOf_L2 (bm P c) p1 k (nI i) = some (nI m) ∧ i ≤ m ∧ m ≤ 30 ∧ (∀ k, i ≤ k → k < m → k < c → P k = false) ∧ (m < 30 → m < c ∧ P m = true) := by
  intro d
  induction d with
  | zero =>
    intro i k hi hk
    obtain ⟨k, rfl⟩ : ∃ k', k = k' + 1 := ⟨k - 1, by omega⟩
    refine ⟨30, ?_, by omega, by omega, fun k h1 h2 => by omega, fun q => by omega⟩
    rw [f_X5_nextOf_L2.eq_2, br_eq (show (30 : Int32) ≤ nI i from nI_le (a := 30) (by omega) (by omega))]; rfl
  | succ d ih =>
    intro i k hi hk
    obtain ⟨k, rfl⟩ : ∃ k', k = k' + 1 := ⟨k - 1, by omega⟩
    rw [f_X5_nextOf_L2.eq_2, br_ne (show ¬ (30 : Int32) ≤ nI i from nI_ge (b := 30) (by omega) (by omega)), X10_isIn (by omega) (by omega), Option.bind_some, br_z0]
    cases hq : (decide (i < c) && P i)
    · rw [if_neg (by decide), show nI i + 1 = nI (i + 1) from nI_1 i]
      obtain ⟨m, e, h1, h2, h3, h4⟩ := ih (i + 1) k (by omega) (by omega)
      refine ⟨m, e, by omega, h2, fun k k1 k2 k3 => ?_, h4⟩
      by_cases z : k = i
      · subst z
        rw [decide_eq_true k3, Bool.true_and] at hq
        exact hq
      · exact h3 k (by omega) k2 k3
    · rw [if_pos rfl]
      rw [Bool.and_eq_true, decide_eq_true_iff] at hq
      exact ⟨i, rfl, Nat.le_refl _, by omega, fun k h1 h2 => by omega, fun _ => hq⟩
theorem X5_nextOf {P : Nat → Bool} {c a : Nat} (hc : c ≤ 30) (ha : a ≤ 30) : ∃ m, f_X5_nextOf (bm P c) (nI a) = some (nI m) ∧ a ≤ m ∧ m ≤ 30 ∧ (∀ k, a ≤ k → k < m → k < c → P k = false) ∧ (m < 30 → m < c ∧ P m = true) :=
  next2 hc (nI a) (30 - a) a FUEL (by omega) (by show _ < 10000; omega)
/-- what is lost of P from n on, with Q kept -/
def TS (x : XD) (P Q : Nat → Bool) (n : Nat) : Nat := fb_sm (fun k => if decide (n ≤ k) && (P k && !Q k) then dL x k else 0) (dC x)
theorem sm_one {a c v : Nat} (h : a < c) : fb_sm (fun k => if k = a then v else 0) c = v := by
  have h1 := fb_sm_upd (fun _ => 0) v h
  have h2 := fb_sm_const 0 c
  simp only [Nat.add_zero, Nat.mul_zero] at h1 h2
  rw [h2, Nat.zero_add] at h1
  exact h1
theorem TS_step {x : XD} {P Q : Nat → Bool} {n m : Nat} (hn : n < dC x) (hP : P n = true) (hm : n < m) (hno : ∀ k, n + 1 ≤ k → k < m → k < dC x → P k = false) : TS x P Q n = (if Q n then 0 else dL x n) + TS x P Q m := by
  unfold TS
  rw [← sm_one (v := if Q n then 0 else dL x n) hn, ← fb_sm_add]
  refine fb_sm_cong fun k hk => ?_
  by_cases e : k = n
  · subst e
    rw [if_pos rfl, decide_eq_true (Nat.le_refl k), hP, decide_eq_false (by omega : ¬ m ≤ k)]
    cases Q k <;> simp
  · rw [if_neg e, Nat.zero_add]
    by_cases e1 : n ≤ k
    · by_cases e2 : m ≤ k
      · rw [decide_eq_true e1, decide_eq_true e2]
      · rw [hno k (by omega) (by omega) hk]; simp
    · rw [decide_eq_false e1, decide_eq_false (by omega : ¬ m ≤ k)]
theorem TS_cong {x : XD} {P Q R : Nat → Bool} {n : Nat} (h : ∀ k, k < dC x → n ≤ k → Q k = R k) : TS x P Q n = TS x P R n := by
  unfold TS
  refine fb_sm_cong fun k hk => ?_
  by_cases e : n ≤ k
  · rw [h k hk e]
  · rw [decide_eq_false e]; rfl
theorem TS_30 {x : XD} {P Q : Nat → Bool} {n : Nat} (h : dC x ≤ n) : TS x P Q n = 0 := by
  unfold TS
  have h2 := fb_sm_const 0 (dC x)
  rw [Nat.mul_zero] at h2
  refine (fb_sm_cong (g := fun _ => 0) fun k hk => ?_).trans h2
  rw [decide_eq_false (by omega)]; rfl
def un (p q : Nat → Bool) : Nat → Bool := fun k => p k || q k
theorem search_ok {w : TDelta} {x : XD} (h : D1 w x) (hc : dC x ≤ 30) {P : Nat → Bool} : ∀ (fu n : Nat) (K : Nat → Bool) (loss best : Nat), 30 - n < fu → n ≤ 30 → (n < 30 → n < dC x ∧ P n = true) → orderly x K → loss + TS x P (fun _ => false) n < 1000000 → best < 1000000 →
    ∃ r, f_X5_search fu w (nI n) (bm P (dC x)) (bm K (dC x)) (nI loss) (nI best) = some (nI r) ∧ r ≤ best ∧ (r = best ∨ ∃ Q : Nat → Bool, (∀ k, k < dC x → Q k = true → P k = true ∧ n ≤ k) ∧ orderly x (un K Q) ∧ r = loss + TS x P Q n) ∧ ∀ Q : Nat → Bool, (∀ k, k < dC x → Q k = true → P k = true ∧ n ≤ k) → orderly x (un K Q) → r ≤ loss + TS x P Q n := by
  intro fu
  induction fu with
  | zero => intro n K loss best hf; omega
  | succ fu ih =>
    intro n K loss best hf hn hnP hK hb1 hb2
    rw [f_X5_search.eq_2]
    by_cases e1 : loss < best
    · rw [br_lt_t e1 (by omega)]
      by_cases e2 : n < 30
      · obtain ⟨hnc, hPn⟩ := hnP e2
        obtain ⟨m, em, m1, m2, m3, m4⟩ := X5_nextOf (P := P) hc (a := n + 1) (by omega)
        have hstep : ∀ Q : Nat → Bool, TS x P Q n = (if Q n then 0 else dL x n) + TS x P Q m := fun Q => TS_step hnc hPn (by omega) m3
        have hst0 := hstep (fun _ => false)
        rw [if_neg (by decide)] at hst0
        obtain ⟨r0, er0, hr0⟩ := X5_cyc h hc (fun k => K k || (k == n))
        rw [br_eq (show nI n < (30 : Int32) from nI_lt (b := 30) e2 (by omega)), show nI n + 1 = nI (n + 1) from nI_1 n, em, Option.bind_some, bm_or (by omega) hnc, er0, Option.bind_some, X2_len h hc hnc, Option.bind_some]
        -- the way without n
        have without : ∀ b, b ≤ best → ∃ r, f_X5_search fu w (nI m) (bm P (dC x)) (bm K (dC x)) (nI loss + nI (dL x n)) (nI b) = some (nI r) ∧ r ≤ b ∧ (r = b ∨ ∃ Q : Nat → Bool, (∀ k, k < dC x → Q k = true → P k = true ∧ n ≤ k) ∧ orderly x (un K Q) ∧ r = loss + TS x P Q n) ∧ ∀ Q : Nat → Bool, Q n = false → (∀ k, k < dC x → Q k = true → P k = true ∧ n ≤ k) → orderly x (un K Q) → r ≤ loss + TS x P Q n := by
          intro b hb
          obtain ⟨r, er, r1, r2, r3⟩ := ih m K (loss + dL x n) b (by omega) m2 m4 hK (by omega) (by omega)
          refine ⟨r, by rw [nI_add]; exact er, r1, ?_, fun Q q0 q1 q2 => ?_⟩
          · rcases r2 with r2 | ⟨Q, q1, q2, q3⟩
            · exact Or.inl r2
            · refine Or.inr ⟨Q, fun k hk e => ⟨(q1 k hk e).1, by have := (q1 k hk e).2; omega⟩, q2, ?_⟩
              have q0 : Q n = false := by
                cases e : Q n
                · rfl
                · have := (q1 n hnc e).2; omega
              rw [hstep Q, q0, if_neg (by decide)]
              omega
          · rw [hstep Q, q0, if_neg (by decide)]
            have := r3 Q (fun k hk e => ⟨(q1 k hk e).1, by
              have a1 := (q1 k hk e).2
              rcases Nat.lt_or_ge k m with z | z
              · by_cases z2 : k = n
                · rw [z2, q0] at e; cases e
                · have := m3 k (by omega) z hk
                  rw [(q1 k hk e).1] at this; cases this
              · exact z⟩) q2
            omega
        by_cases e3 : orderly x (fun k => K k || (k == n))
        · rw [br_eq ((bm_0 (by omega)).mpr ((GS_ord hr0).mp e3))]
          obtain ⟨r1, er1, a1, a2, a3⟩ := ih m (fun k => K k || (k == n)) loss best (by omega) m2 m4 e3 (by omega) hb2
          obtain ⟨r2, er2, b1, b2, b3⟩ := without r1 a1
          refine ⟨r2, by rw [er1, Option.bind_some, Option.bind_some, er2, Option.bind_some], by omega, ?_, fun Q q1 q2 => ?_⟩
          · rcases b2 with b2 | b2
            · rcases a2 with a2 | ⟨Q, q1, q2, q3⟩
              · exact Or.inl (by omega)
              · refine Or.inr ⟨fun k => Q k || (k == n), fun k hk e => ?_, ord_sub q2 (fun k hk e => ?_), ?_⟩
                · have e : (Q k || (k == n)) = true := e
                  rw [Bool.or_eq_true, beq_iff_eq] at e
                  rcases e with e | e
                  · exact ⟨(q1 k hk e).1, by have := (q1 k hk e).2; omega⟩
                  · rw [e]; exact ⟨hPn, Nat.le_refl _⟩
                · unfold un at e ⊢
                  simp only [Bool.or_eq_true] at e ⊢
                  rcases e with e | e | e
                  · exact Or.inl (Or.inl e)
                  · exact Or.inr e
                  · exact Or.inl (Or.inr e)
                · rw [hstep, if_pos (by simp), Nat.zero_add, b2, q3]
                  rw [TS_cong (Q := Q) (R := fun k => Q k || (k == n))]
                  intro k hk hkm
                  have : (k == n) = false := beq_eq_false_iff_ne.mpr (by omega)
                  rw [this, Bool.or_false]
            · exact Or.inr b2
          · cases q0 : Q n
            · exact b3 Q q0 q1 q2
            · have := a3 (fun k => Q k && !(k == n)) (fun k hk e => by
                have e : (Q k && !(k == n)) = true := e
                rw [Bool.and_eq_true] at e
                have c1 := q1 k hk e.1
                refine ⟨c1.1, ?_⟩
                rcases Nat.lt_or_ge k m with z | z
                · by_cases z2 : k = n
                  · rw [z2] at e; simp at e
                  · have := m3 k (by omega) z hk
                    rw [c1.1] at this; cases this
                · exact z) (ord_sub q2 (fun k hk e => by
                unfold un at e ⊢
                simp only [Bool.or_eq_true, Bool.and_eq_true, beq_iff_eq] at e ⊢
                rcases e with (e | e) | e
                · exact Or.inl e
                · rw [e]; exact Or.inr q0
                · exact Or.inr e.1))
              rw [hstep Q, q0, if_pos rfl, Nat.zero_add, TS_cong (Q := Q) (R := fun k => Q k && !(k == n))]
              · omega
              · intro k hk hkm
                have : (k == n) = false := beq_eq_false_iff_ne.mpr (by omega)
                rw [this]; simp
        · rw [br_ne (fun z => e3 ((GS_ord hr0).mpr ((bm_0 (by omega)).mp z)))]
          obtain ⟨r2, er2, b1, b2, b3⟩ := without best (Nat.le_refl _)
          refine ⟨r2, by rw [er2, Option.bind_some], b1, b2, fun Q q1 q2 => ?_⟩
          cases q0 : Q n
          · exact b3 Q q0 q1 q2
          · refine absurd (ord_sub q2 (fun k hk e => ?_)) e3
            unfold un
            simp only [Bool.or_eq_true, beq_iff_eq] at e ⊢
            rcases e with e | e
            · exact Or.inl e
            · rw [e]; exact Or.inr q0
      · rw [br_ne (show ¬ nI n < (30 : Int32) from nI_nlt (b := 30) (by omega) (by omega))]
        refine ⟨loss, rfl, by omega, Or.inr ⟨fun _ => false, fun k hk e => (by cases e), ord_sub hK (fun k hk e => ?_), by rw [TS_30 (by omega)]; rfl⟩, fun Q q1 q2 => Nat.le_add_right _ _⟩
        unfold un at e
        rw [Bool.or_false] at e
        exact e
    · rw [br_lt_f (by omega) (by omega)]
      exact ⟨best, rfl, Nat.le_refl _, Or.inl rfl, fun Q q1 q2 => by omega⟩
theorem of13 {w : TDelta} {x : XD} (h : D1 w x) (hI : DI x) {P : Nat → Bool} (hg : GS x (dK x) P) : ∀ d i k : Nat, i + d = dC x → d < k → ∃ v, v < 1000000 ∧ f_X5_of_L13 w k (nI i) (nI (fb_sm (fun k => if P k then dL x k else 0) i)) (bm P (dC x)) = some (nI v) ∧ isLL x v := by
  have hc := hI.1
  have eC : w.2.2.2.2.2.2.2.2.1 = nI (dC x) := h.2.2.1
  intro d
  induction d with
  | zero =>
    intro i k hi hk
    obtain ⟨k, rfl⟩ : ∃ k', k = k' + 1 := ⟨k - 1, by omega⟩
    have hi : i = dC x := by omega
    subst hi
    have ball : fb_sm (fun k => if P k then dL x k else 0) (dC x) ≤ dC x * 64 := fb_sm_bound (fun k hk => by
      have := (hI.2.2.2.1 k hk).2.1
      have := hI.2.2.1
      split <;> omega)
    have hTS0 : ∀ Q : Nat → Bool, TS x P Q 0 = fb_sm (fun k => if P k && !Q k then dL x k else 0) (dC x) := fun Q => fb_sm_cong (fun k hk => by rw [decide_eq_true (Nat.zero_le k), Bool.true_and])
    obtain ⟨m, em, m1, m2, m3, m4⟩ := X5_nextOf (P := P) hc (a := 0) (by omega)
    have hTSm : ∀ Q : Nat → Bool, TS x P Q 0 = TS x P Q m := by
      intro Q
      unfold TS
      refine fb_sm_cong fun k hk => ?_
      rw [decide_eq_true (Nat.zero_le k)]
      by_cases e : m ≤ k
      · rw [decide_eq_true e]
      · rw [m3 k (Nat.zero_le k) (by omega) hk]; simp
    have hall : TS x P (fun _ => false) m = fb_sm (fun k => if P k then dL x k else 0) (dC x) := by
      rw [← hTSm, hTS0]
      exact fb_sm_cong (fun k hk => by simp)
    obtain ⟨r, er, r1, r2, r3⟩ := search_ok h hc (P := P) 40 m (fun _ => false) 0 (fb_sm (fun k => if P k then dL x k else 0) (dC x)) (by omega) m2 m4 (ord_0 (fun _ _ => rfl)) (by omega) (by omega)
    have hr2 : ∃ Q : Nat → Bool, (∀ k, k < dC x → Q k = true → P k = true) ∧ orderly x Q ∧ r = TS x P Q 0 := by
      rcases r2 with e | ⟨Q, q1, q2, q3⟩
      · exact ⟨fun _ => false, fun k hk e => (by cases e), ord_0 (fun _ _ => rfl), by rw [hTSm, hall, e]⟩
      · refine ⟨Q, fun k hk e => (q1 k hk e).1, ord_sub q2 (fun k hk e => by unfold un; rw [e]; rfl), by rw [hTSm]; omega⟩
    refine ⟨r, by omega, ?_, ?_, fun p p1 p2 => ?_⟩
    · rw [f_X5_of_L13.eq_2, eC, br_le_t (by omega) (by omega), show f_X5_nextOf (bm P (dC x)) (0 : Int32) = some (nI m) from em, Option.bind_some, bm_z (dC x) (by omega)]
      have er : f_X5_search DEPTH w (nI m) (bm P (dC x)) (bm (fun _ => false) (dC x)) (nI 0) (nI (fb_sm (fun k => if P k then dL x k else 0) (dC x))) = some (nI r) := er
      rw [show bm (fun _ => false) (dC x) = nI 0 from (bm_z (dC x) (by omega)).symm] at er ⊢
      rw [show f_X5_search DEPTH w (nI m) (bm P (dC x)) (nI 0) (nI 0) (nI (fb_sm (fun k => if P k then dL x k else 0) (dC x))) = some (nI r) from er, Option.bind_some]
    · obtain ⟨Q, q1, q2, q3⟩ := hr2
      refine ⟨fun k => P k && !Q k, fun k hk e => ?_, fun t t1 t2 k hk => ?_, ?_⟩
      · have e : (P k && !Q k) = true := e
        rw [Bool.and_eq_true] at e
        exact hg.1 k hk e.1
      · have tP := hg.2.2 t t2 (fun k hk e => by
          have := t1 k hk e
          rw [Bool.and_eq_true] at this
          exact this.1)
        refine q2 t (fun k hk e => ?_) t2 k hk
        have e1 : (dK x k && !(P k && !Q k)) = true := t1 k hk e
        have e2 := tP k hk e
        rw [Bool.and_eq_true, e2] at e1
        cases hz : Q k
        · rw [hz] at e1; simp at e1
        · rfl
      · rw [q3, hTS0]; rfl
    · have := r3 (fun k => P k && !p k) (fun k hk e => ?_) (ord_sub p2 (fun k hk e => ?_))
      · rw [Nat.zero_add, ← hTSm, hTS0] at this
        refine Nat.le_trans this (fb_sm_le fun k hk => ?_)
        cases P k <;> cases p k <;> simp
      · have e : (P k && !p k) = true := e
        rw [Bool.and_eq_true] at e
        refine ⟨e.1, ?_⟩
        rcases Nat.lt_or_ge k m with z | z
        · rw [m3 k (Nat.zero_le k) z hk] at e; cases e.1
        · exact z
      · unfold un at e
        simp only [Bool.false_or, Bool.and_eq_true] at e ⊢
        exact ⟨hg.1 k hk e.1, e.2⟩
  | succ d ih =>
    intro i k hi hk
    obtain ⟨k, rfl⟩ : ∃ k', k = k' + 1 := ⟨k - 1, by omega⟩
    obtain ⟨v, v1, v2, v3⟩ := ih (i + 1) k (by omega) (by omega)
    refine ⟨v, v1, ?_, v3⟩
    rw [f_X5_of_L13.eq_2, eC, br_le_f (by omega) (by omega), X10_isIn (by omega) (by omega), Option.bind_some, br_z0, decide_eq_true (show i < dC x by omega), Bool.true_and, X2_len h hc (by omega), Option.bind_some]
    unfold f_X5_of_J39
    rw [fb_sm_succ] at v2
    cases hp : P i
    · rw [hp] at v2
      rw [if_neg (by decide), show nI i + 1 = nI (i + 1) from nI_1 i, show nI (fb_sm (fun k => if P k then dL x k else 0) i) + 0 = nI (fb_sm (fun k => if P k then dL x k else 0) i + 0) from nI_add _ 0]
      exact v2
    · rw [hp] at v2
      rw [if_pos rfl, show nI i + 1 = nI (i + 1) from nI_1 i, nI_add]
      exact v2
theorem X5_of {w : TDelta} {x : XD} (h : D1 w x) (hI : DI x) : ∃ v, v < 1000000 ∧ f_X5_of w = some (nI v) ∧ isLL x v := by
  have hc := hI.1
  obtain ⟨P, eP, hP⟩ := X5_cyc h hc (dK x)
  obtain ⟨v, v1, v2, v3⟩ := of13 h hI hP (dC x) 0 FUEL (Nat.zero_add _) (by show _ < 10000; omega)
  refine ⟨v, v1, ?_, v3⟩
  unfold f_X5_of
  rw [show w.2.2.2.2.2.2.2.2.2.1 = bm (dK x) (dC x) from h.2.2.2.2.2.1, eP, Option.bind_some]
  exact v2
theorem X2_least {w : TDelta} {x : XD} (h : D1 w x) (hI : DI x) : ∃ v w', v < 2147483648 ∧ f_X2_least w = some (nI v, w') ∧ isLL x v ∧ D1 w' x := by
  unfold f_X2_least
  rcases h.2.2.2.2.2.2.2 with e | ⟨v, v1, e, hv⟩
  · obtain ⟨v, v1, v2, v3⟩ := X5_of h hI
    rw [br_eq (show w.2.2.2.2.2.2.2.2.2.2 = -1 from e), v2, Option.bind_some]
    exact ⟨v, _, by omega, rfl, v3, h.1, h.2.1, h.2.2.1, h.2.2.2.1, h.2.2.2.2.1, h.2.2.2.2.2.1, h.2.2.2.2.2.2.1, Or.inr ⟨v, by omega, rfl, v3⟩⟩
  · rw [show w.2.2.2.2.2.2.2.2.2.2 = nI v from e, br_m1 v1]
    exact ⟨v, w, v1, rfl, hv, h⟩
