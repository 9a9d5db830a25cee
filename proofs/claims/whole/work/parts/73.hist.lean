/-! taking a state; the history -/
theorem zI_01 (b : Bool) : zI b = 0 ∨ zI b = 1 := by cases b; exact Or.inl rfl; exact Or.inr rfl
theorem gd_z {α : Type} {b : Bool} {x : Option α} : gd (zI b = 0 ∨ zI b = 1) x = x := gd_eq (zI_01 b)
theorem br_z0 {α : Type} {b : Bool} {x y : Option α} : br (zI b = 0) x y = if b then y else x := by
  cases b
  · exact br_eq rfl
  · exact br_ne (show ¬ nI 1 = 0 by decide)
theorem br_z1 {α : Type} {b : Bool} {x y : Option α} : br (zI b = 1) x y = if b then x else y := by
  cases b
  · exact br_ne (show ¬ nI 0 = 1 by decide)
  · exact br_eq rfl
theorem ex_of {α : Type} {f : Option α} {r : α} {P : α → Prop} (e : f = some r) (h : P r) : ∃ r, f = some r ∧ P r := ⟨r, e, h⟩
theorem X0_take {n : Nat} (hn : n < 2147483648) {w0 w1 : TBytes} {x : XB} (h : B1 n w1 x) : ∃ r, f_X0_take n w0 n w1 = some r ∧ B1 n r x := by
  obtain ⟨h1, h2, h3⟩ := h
  have e : (if (nI n) < w1.2 then (nI n) else w1.2) = nI x.2 := by rw [h1, if_neg (nI_nlt h2 hn)]
  have e0 : (0 : Int32).toNatClampNeg = 0 := by decide
  have e1 : (nI x.2).toNatClampNeg = x.2 := nI_clamp (by omega)
  refine ex_of (by unfold f_X0_take; rw [e]; exact gd_eq ⟨by decide, by decide, nI_pos (by omega), by rw [e0, e1]; omega, by rw [e0, e1]; omega⟩) ?_
  refine ⟨rfl, h2, fun i hi => ?_⟩
  show va_cpy w1.1 w0.1 (0 : Int32).toNatClampNeg (0 : Int32).toNatClampNeg (nI x.2).toNatClampNeg i = _
  rw [e0, e1, pk_cpy_in (Nat.zero_le i) (by omega), ← h3 i hi, Nat.zero_add, Nat.sub_zero]
theorem cpy30 {f g : Nat → Int32} {k : Nat} (hk : k < 30) : va_cpy f g (0 : Int32).toNatClampNeg (0 : Int32).toNatClampNeg (30 : Int32).toNatClampNeg k = f k := by
  rw [show (0 : Int32).toNatClampNeg = 0 by decide, show (30 : Int32).toNatClampNeg = 30 by decide, pk_cpy_in (Nat.zero_le k) (by omega), Nat.zero_add, Nat.sub_zero]
theorem cpy64 {f g : Nat → Int32} {k : Nat} (hk : k < 64) : va_cpy f g (0 : Int32).toNatClampNeg (0 : Int32).toNatClampNeg (64 : Int32).toNatClampNeg k = f k := by
  rw [show (0 : Int32).toNatClampNeg = 0 by decide, show (64 : Int32).toNatClampNeg = 64 by decide, pk_cpy_in (Nat.zero_le k) (by omega), Nat.zero_add, Nat.sub_zero]
theorem X2_take {w0 w1 : TDelta} {x : XD} (hI : DI x) (h : D1 w1 x) : ∃ r, f_X2_take w0 w1 = some r ∧ D1 r x := by
  obtain ⟨i1, i2, i3, i4, -⟩ := hI
  obtain ⟨h1, h2, h3, h4, h5, h6, h7, h8⟩ := h
  refine ex_of (by unfold f_X2_take; rw [gd_eq (by decide), gd_eq (by decide), gd_eq (by decide), gd_eq (by decide), gd_eq (by decide), gd_eq (by decide)]) ?_
  refine ⟨h1, h2, h3, fun k hk => ?_, fun k hk => ?_, h6, fun k hk hc i hi => ?_, h8⟩
  · have hk2 : k < 30 := by omega
    obtain ⟨e1, e2, e3, e4⟩ := h4 k hk
    exact ⟨(cpy30 hk2).trans e1, (cpy30 hk2).trans e2, (cpy30 hk2).trans e3, (cpy30 hk2).trans e4⟩
  · exact (cpy30 (by omega)).trans (h5 k hk)
  · have := i4 k hk
    exact (cpy64 (by omega)).trans (h7 k hk hc i hi)
theorem X7_take {w0 w1 : TPlan} {x : XD} {y : XP} (hc : dC x ≤ 30) (h : P1 w1 x y) : ∃ r, f_X7_take w0 w1 = some r ∧ P1 r x y := by
  obtain ⟨h1, h2⟩ := h
  refine ex_of (by unfold f_X7_take; rw [h1, gd_z, gd_eq (by decide)]) ?_
  refine ⟨rfl, fun ht => ?_⟩
  obtain ⟨e1, e2, e3, e4⟩ := h2 ht
  exact ⟨e1, fun k hk => (cpy30 (by omega)).trans (e2 k hk), e3, e4⟩
theorem X9_take {w0 w1 : TWork} {y : XW} (h : W1 w1 y) : ∃ r, f_X9_take w0 w1 = some r ∧ W1 r y := by
  obtain ⟨h1, h2, h3⟩ := h
  obtain ⟨r, e, hr⟩ := X0_take (w0 := w0.1) (by decide) h2
  refine ex_of (by unfold f_X9_take; rw [h1, gd_z, e, Option.bind_some]) ?_
  exact ⟨rfl, hr, h3⟩
theorem X8_take {w0 w1 : TState} {x : XS} (hI : SI x) (h : S1 w1 x) : ∃ r, f_X8_take w0 w1 = some r ∧ S1 r x := by
  obtain ⟨h1, h2, h3, h4, h5, h6⟩ := h
  obtain ⟨r1, e1, k1⟩ := X0_take (w0 := w0.1) (by decide) h1
  obtain ⟨r2, e2, k2⟩ := X0_take (w0 := w0.2.1) (by decide) h2
  obtain ⟨r3, e3, k3⟩ := X2_take (w0 := w0.2.2.1) hI.2.2.1 h3
  obtain ⟨r4, e4, k4⟩ := X7_take (w0 := w0.2.2.2.1) hI.2.2.1.1 h4
  obtain ⟨r5, e5, k5⟩ := X0_take (w0 := w0.2.2.2.2.1) (by decide) h5
  obtain ⟨r6, e6, k6⟩ := X9_take (w0 := w0.2.2.2.2.2) h6
  exact ⟨(r1, r2, r3, r4, r5, r6), by unfold f_X8_take; rw [e1, Option.bind_some, e2, Option.bind_some, e3, Option.bind_some, e4, Option.bind_some, e5, Option.bind_some, e6, Option.bind_some], k1, k2, k3, k4, k5, k6⟩
/-- the saved states behind one more -/
def fS (n : Nat) (f : Nat → XS) (x : XS) : Nat → XS := fun j => if n = 4 then (if j < 3 then f (j + 1) else x) else (if j = n then x else f j)
def nS (n : Nat) : Nat := if n = 4 then 4 else n + 1
theorem nS_le {n : Nat} (h : n ≤ 4) : nS n ≤ 4 := by unfold nS; split <;> omega
theorem fS_I {n : Nat} {f : Nat → XS} {x : XS} (hn : n ≤ 4) (hx : SI x) (hf : ∀ j, j < n → SI (f j)) : ∀ j, j < nS n → SI (fS n f x j) := by
  intro j hj
  unfold nS at hj
  unfold fS
  split
  · rename_i h; rw [if_pos h] at hj; split
    · exact hf _ (by omega)
    · exact hx
  · rename_i h; rw [if_neg h] at hj; split
    · exact hx
    · exact hf _ (by omega)
theorem X4_save {h : THistory} {n : Nat} {f : Nat → XS} {w : TState} {x : XS} (hn : n ≤ 4) (hI : SI x) (hh : H1 h n f) (hw : S1 w x) : ∃ r, f_X4_save h w = some r ∧ H1 r (nS n) (fS n f x) := by
  obtain ⟨h1, p, hp, h2, h3⟩ := hh
  have key : ∀ r1 : TSaved, (∀ i, i < 4 → i ≠ p → ring r1 i = ring h.1 i) → S1 (ring r1 p) x → H1 (r1, ((h.2.1 + (1 : Int32)) - (h.2.1 + (1 : Int32)) / (4 : Int32) * (4 : Int32)), (if (4 : Int32) < (h.2.2 + (1 : Int32)) then (4 : Int32) else (h.2.2 + (1 : Int32)))) (nS n) (fS n f x) := by
    intro r1 hr1 hr2
    refine ⟨?_, (p + 1) % 4, Nat.mod_lt _ (by omega), ?_, fun j hj => ?_⟩
    · show (if (4 : Int32) < (h.2.2 + (1 : Int32)) then (4 : Int32) else (h.2.2 + (1 : Int32))) = _
      rw [h1, nI_1]
      unfold nS
      show (if nI 4 < nI (n + 1) then nI 4 else nI (n + 1)) = _
      by_cases e : n = 4
      · rw [if_pos (show nI 4 < nI (n + 1) from nI_lt (by omega) (by omega)), if_pos e]
      · rw [if_neg (show ¬ nI 4 < nI (n + 1) from nI_nlt (by omega) (by omega)), if_neg e]
    · show ((h.2.1 + (1 : Int32)) - (h.2.1 + (1 : Int32)) / (4 : Int32) * (4 : Int32)) = _
      rw [h2, nI_1]
      exact pk_rem (d := 4) (by omega) (by omega) (by omega)
    · show S1 (ring r1 _) _
      unfold nS at hj ⊢
      unfold fS
      by_cases e : n = 4
      · rw [if_pos e] at hj ⊢
        rw [if_pos e]
        by_cases e2 : j < 3
        · rw [if_pos e2, show ((p + 1) % 4 + 4 - 4 + j) % 4 = (p + 4 - n + (j + 1)) % 4 by omega, hr1 _ (Nat.mod_lt _ (by omega)) (by omega)]
          exact h3 (j + 1) (by omega)
        · rw [if_neg e2, show ((p + 1) % 4 + 4 - 4 + j) % 4 = p by omega]
          exact hr2
      · rw [if_neg e] at hj ⊢
        rw [if_neg e]
        by_cases e2 : j = n
        · rw [if_pos e2, show ((p + 1) % 4 + 4 - (n + 1) + j) % 4 = p by omega]
          exact hr2
        · rw [if_neg e2, show ((p + 1) % 4 + 4 - (n + 1) + j) % 4 = (p + 4 - n + j) % 4 by omega, hr1 _ (Nat.mod_lt _ (by omega)) (by omega)]
          exact h3 j (by omega)
  unfold f_X4_save
  rcases (by omega : p = 0 ∨ p = 1 ∨ p = 2 ∨ p = 3) with e | e | e | e
  · subst e
    obtain ⟨r, er, hr⟩ := X8_take (w0 := h.1.1) hI hw
    exact ex_of (by rw [br_eq (by rw [h2]; rfl), er, Option.bind_some]) (key (r, h.1.2.1, h.1.2.2.1, h.1.2.2.2) (fun i h4 hi => by unfold ring; rw [if_neg hi, if_neg hi]) hr)
  · subst e
    obtain ⟨r, er, hr⟩ := X8_take (w0 := h.1.2.1) hI hw
    exact ex_of (by rw [br_ne (by rw [h2]; decide), br_eq (by rw [h2]; rfl), er, Option.bind_some]) (key (h.1.1, r, h.1.2.2.1, h.1.2.2.2) (fun i h4 hi => by unfold ring; rw [if_neg hi, if_neg hi]) hr)
  · subst e
    obtain ⟨r, er, hr⟩ := X8_take (w0 := h.1.2.2.1) hI hw
    exact ex_of (by rw [br_ne (by rw [h2]; decide), br_ne (by rw [h2]; decide), br_eq (by rw [h2]; rfl), er, Option.bind_some]) (key (h.1.1, h.1.2.1, r, h.1.2.2.2) (fun i h4 hi => by unfold ring; rw [if_neg hi, if_neg hi]) hr)
  · subst e
    obtain ⟨r, er, hr⟩ := X8_take (w0 := h.1.2.2.2) hI hw
    exact ex_of (by rw [br_ne (by rw [h2]; decide), br_ne (by rw [h2]; decide), br_ne (by rw [h2]; decide), gd_eq (by rw [h2]; rfl), er, Option.bind_some]) (key (h.1.1, h.1.2.1, h.1.2.2.1, r) (fun i h4 hi => by unfold ring; rcases (by omega : i = 0 ∨ i = 1 ∨ i = 2) with e | e | e <;> (subst e; rfl)) hr)
theorem X4_restore {h : THistory} {n : Nat} {f : Nat → XS} {w : TState} (hn : n < 4) (hI : SI (f n)) (hh : H1 h (n + 1) f) : ∃ r, f_X4_restore h w = some r ∧ H1 r.1 n f ∧ S1 r.2 (f n) := by
  obtain ⟨h1, p, hp, h2, h3⟩ := hh
  have e9 : (((h.2.1 + (4 : Int32)) - (1 : Int32)) - ((h.2.1 + (4 : Int32)) - (1 : Int32)) / (4 : Int32) * (4 : Int32)) = nI ((p + 3) % 4) := by
    rw [h2, show nI p + 4 = nI (p + 4) from nI_add p 4, show nI (p + 4) - 1 = nI (p + 3) from nI_pred (p + 3)]
    exact pk_rem (d := 4) (by omega) (by omega) (by omega)
  have e8 : h.2.2 - 1 = nI n := by rw [h1]; exact nI_pred n
  have hl := h3 n (by omega)
  rw [show (p + 4 - (n + 1) + n) % 4 = (p + 3) % 4 by omega] at hl
  unfold f_X4_restore
  rw [e9, e8]
  have key : H1 (h.1, nI ((p + 3) % 4), nI n) n f := by
    refine ⟨rfl, (p + 3) % 4, Nat.mod_lt _ (by omega), rfl, fun j hj => ?_⟩
    rw [show ((p + 3) % 4 + 4 - n + j) % 4 = (p + 4 - (n + 1) + j) % 4 by omega]
    exact h3 j (by omega)
  have hq := Nat.mod_lt (p + 3) (show 0 < 4 by omega)
  generalize (p + 3) % 4 = q at *
  rcases (by omega : q = 0 ∨ q = 1 ∨ q = 2 ∨ q = 3) with e | e | e | e
  · subst e
    obtain ⟨r, er, hr⟩ := X8_take (w0 := w) (w1 := h.1.1) hI hl
    exact ex_of (r := ((h.1, nI 0, nI n), r)) (by rw [br_eq (show nI 0 = 0 from rfl), er, Option.bind_some]) ⟨key, hr⟩
  · subst e
    obtain ⟨r, er, hr⟩ := X8_take (w0 := w) (w1 := h.1.2.1) hI hl
    exact ex_of (r := ((h.1, nI 1, nI n), r)) (by rw [br_ne (by decide), br_eq (show nI 1 = 1 from rfl), er, Option.bind_some]) ⟨key, hr⟩
  · subst e
    obtain ⟨r, er, hr⟩ := X8_take (w0 := w) (w1 := h.1.2.2.1) hI hl
    exact ex_of (r := ((h.1, nI 2, nI n), r)) (by rw [br_ne (by decide), br_ne (by decide), br_eq (show nI 2 = 2 from rfl), er, Option.bind_some]) ⟨key, hr⟩
  · subst e
    obtain ⟨r, er, hr⟩ := X8_take (w0 := w) (w1 := h.1.2.2.2) hI hl
    exact ex_of (r := ((h.1, nI 3, nI n), r)) (by rw [br_ne (by decide), br_ne (by decide), br_ne (by decide), gd_eq (show nI 3 = 3 from rfl), er, Option.bind_some]) ⟨key, hr⟩
