/-! the state as a reader sees it, and how the class and the reference hold it -/
abbrev XB : Type := (Nat → Int32) × Nat
/-- source length, target length, commands; which are copies; source, target, length of each; the added bytes by place -/
abbrev XD : Type := Nat × Nat × Nat × (Nat → Bool) × (Nat → Nat) × (Nat → Nat) × (Nat → Nat) × (Nat → Int32)
abbrev dS (x : XD) : Nat := x.1
abbrev dT (x : XD) : Nat := x.2.1
abbrev dC (x : XD) : Nat := x.2.2.1
abbrev dK (x : XD) : Nat → Bool := x.2.2.2.1
abbrev dR (x : XD) : Nat → Nat := x.2.2.2.2.1
abbrev dG (x : XD) : Nat → Nat := x.2.2.2.2.2.1
abbrev dL (x : XD) : Nat → Nat := x.2.2.2.2.2.2.1
abbrev dA (x : XD) : Nat → Int32 := x.2.2.2.2.2.2.2
/-- there, order, converted -/
abbrev XP : Type := Bool × (Nat → Nat) × (Nat → Bool)
/-- there, left, bytes -/
abbrev XW : Type := Bool × Nat × XB
abbrev XS : Type := XB × XB × XD × XP × XB × XW
def zI (b : Bool) : Int32 := if b then nI 1 else nI 0
def kI (b : Bool) : Int32 := if b then nI 1 else nI 2
def sI (b : Bool) (n : Nat) : Int32 := if b then nI n else (-1 : Int32)
def isB (v : Int32) : Prop := ∃ m, m < 256 ∧ v = nI m
/-- command i must come before command j -/
def Pr (x : XD) (i j : Nat) : Bool := !(i == j) && (dK x i && (dK x j && (decide (dR x i < dG x j + dL x j) && decide (dG x j < dR x i + dL x i))))
def lossOf (x : XD) (p : Nat → Bool) : Nat := fb_sm (fun k => if p k then dL x k else 0) (dC x)
/-- a set of copies that can be put into an order: none but the empty part of it has a predecessor within it for each of its members -/
def orderly (x : XD) (p : Nat → Bool) : Prop := ∀ q : Nat → Bool, (∀ k, k < dC x → q k = true → p k = true) → (∀ j, j < dC x → q j = true → ∃ i, i < dC x ∧ q i = true ∧ Pr x i j = true) → ∀ k, k < dC x → q k = false
/-- v is the least loss -/
def isLL (x : XD) (v : Nat) : Prop := (∃ p : Nat → Bool, (∀ k, k < dC x → p k = true → dK x k = true) ∧ orderly x (fun k => dK x k && !p k) ∧ lossOf x p = v) ∧ ∀ p : Nat → Bool, (∀ k, k < dC x → p k = true → dK x k = true) → orderly x (fun k => dK x k && !p k) → v ≤ lossOf x p
theorem isLL_one {x : XD} {v w : Nat} (h : isLL x v) (h2 : isLL x w) : v = w := by
  obtain ⟨⟨p, p1, p2, p3⟩, p4⟩ := h
  obtain ⟨⟨q, q1, q2, q3⟩, q4⟩ := h2
  have a := p4 q q1 q2
  have b := q4 p p1 p2
  omega
/-- bytes, as the class holds them, and as the reference does -/
def B1 (cap : Nat) (w : TBytes) (x : XB) : Prop := w.2 = nI x.2 ∧ x.2 ≤ cap ∧ ∀ i, i < x.2 → w.1 i = x.1 i
def B2 (cap pl pb : Nat) (a : Nat → Int32) (x : XB) : Prop := a pl = nI x.2 ∧ x.2 ≤ cap ∧ ∀ i, i < x.2 → a (pb + i) = x.1 i
def BI (x : XB) : Prop := ∀ i, i < x.2 → isB (x.1 i)
abbrev tK (w : TDelta) := w.1
abbrev tR (w : TDelta) := w.2.1
abbrev tG (w : TDelta) := w.2.2.1
abbrev tL (w : TDelta) := w.2.2.2.1
abbrev tP (w : TDelta) := w.2.2.2.2.1
abbrev tA (w : TDelta) := w.2.2.2.2.2.1
abbrev tS (w : TDelta) := w.2.2.2.2.2.2.1
abbrev tT (w : TDelta) := w.2.2.2.2.2.2.2.1
abbrev tC (w : TDelta) := w.2.2.2.2.2.2.2.2.1
abbrev tY (w : TDelta) := w.2.2.2.2.2.2.2.2.2.1
abbrev tM (w : TDelta) := w.2.2.2.2.2.2.2.2.2.2
def D1 (w : TDelta) (x : XD) : Prop := tS w = nI (dS x) ∧ tT w = nI (dT x) ∧ tC w = nI (dC x) ∧ (∀ k, k < dC x → tK w k = kI (dK x k) ∧ tR w k = sI (dK x k) (dR x k) ∧ tG w k = nI (dG x k) ∧ tL w k = nI (dL x k))
  ∧ (∀ k, k < dC x → tP w k = bm (fun i => Pr x i k) (dC x)) ∧ tY w = bm (dK x) (dC x) ∧ (∀ k, k < dC x → dK x k = false → ∀ i, i < dL x k → tA w (dG x k + i) = dA x (dG x k + i)) ∧ (tM w = -1 ∨ ∃ v, v < 2147483648 ∧ tM w = nI v ∧ isLL x v)
def D2 (a : Nat → Int32) (x : XD) : Prop := a 130 = nI (dS x) ∧ a 131 = nI (dT x) ∧ a 132 = nI (dC x) ∧ (∀ k, k < dC x → a (133 + 4 * k) = kI (dK x k) ∧ a (133 + 4 * k + 1) = sI (dK x k) (dR x k) ∧ a (133 + 4 * k + 2) = nI (dG x k) ∧ a (133 + 4 * k + 3) = nI (dL x k))
  ∧ (∀ k, k < dC x → dK x k = false → ∀ i, i < dL x k → a (253 + (dG x k + i)) = dA x (dG x k + i))
def DI (x : XD) : Prop := dC x ≤ 30 ∧ dS x ≤ 64 ∧ dT x ≤ 64 ∧ (∀ k, k < dC x → 1 ≤ dL x k ∧ dG x k + dL x k ≤ dT x ∧ (dK x k = true → dR x k + dL x k ≤ dS x)) ∧ fb_ct (dK x) (dC x) ≤ 12 ∧ (∀ k, k < dC x → dK x k = false → ∀ i, i < dL x k → isB (dA x (dG x k + i)))
def P1 (w : TPlan) (x : XD) (y : XP) : Prop := w.2.1 = zI y.1 ∧ (y.1 = true → w.2.2.1 = nI (dC x) ∧ (∀ k, k < dC x → w.1 k = nI (y.2.1 k)) ∧ w.2.2.2.1 = bm y.2.2 (dC x) ∧ w.2.2.2.2 = nI (lossOf x y.2.2))
def P2 (a : Nat → Int32) (x : XD) (y : XP) : Prop := a 317 = zI y.1 ∧ (y.1 = true → (∀ k, k < dC x → a (318 + k) = nI (y.2.1 k)) ∧ a 348 = bm y.2.2 (dC x))
def PI (n : Nat) (x : XD) (y : XP) : Prop := y.1 = true → n = dS x ∧ (∀ k, k < dC x → y.2.1 k < dC x) ∧ (∀ k, k < dC x → y.2.2 k = true → dK x k = true) ∧ ∀ g : Nat → Nat, fb_sm (fun k => g (y.2.1 k)) (dC x) = fb_sm g (dC x)
def W1 (w : TWork) (y : XW) : Prop := w.2.1 = zI y.1 ∧ B1 64 w.1 y.2.2 ∧ (y.1 = true → w.2.2 = nI y.2.1)
def W2 (a : Nat → Int32) (y : XW) : Prop := a 550 = zI y.1 ∧ (y.1 = true → a 551 = nI y.2.1 ∧ B2 64 552 553 a y.2.2)
def WI (x : XD) (p : XP) (y : XW) : Prop := y.1 = true → p.1 = true ∧ y.2.1 ≤ dC x ∧ (0 < y.2.1 → dS x ≤ y.2.2.2 ∧ dT x ≤ y.2.2.2)
def S1 (w : TState) (x : XS) : Prop := B1 64 w.1 x.1 ∧ B1 64 w.2.1 x.2.1 ∧ D1 w.2.2.1 x.2.2.1 ∧ P1 w.2.2.2.1 x.2.2.1 x.2.2.2.1 ∧ B1 200 w.2.2.2.2.1 x.2.2.2.2.1 ∧ W1 w.2.2.2.2.2 x.2.2.2.2.2
def S2 (a : Nat → Int32) (x : XS) : Prop := B2 64 0 2 a x.1 ∧ B2 64 1 66 a x.2.1 ∧ D2 a x.2.2.1 ∧ P2 a x.2.2.1 x.2.2.2.1 ∧ B2 200 349 350 a x.2.2.2.2.1 ∧ W2 a x.2.2.2.2.2
def SI (x : XS) : Prop := BI x.1 ∧ BI x.2.1 ∧ DI x.2.2.1 ∧ PI x.1.2 x.2.2.1 x.2.2.2.1 ∧ BI x.2.2.2.2.1 ∧ WI x.2.2.1 x.2.2.2.1 x.2.2.2.2.2
abbrev mA (w : TModel) := w.1
abbrev mS (w : TModel) := w.2.1
abbrev mN (w : TModel) := w.2.2.1
abbrev mH (w : TModel) := w.2.2.2.1
/-- the saved states: n of them, oldest first -/
def ring (w : TSaved) (i : Nat) : TState := if i = 0 then w.1 else if i = 1 then w.2.1 else if i = 2 then w.2.2.1 else w.2.2.2
def H1 (h : THistory) (n : Nat) (f : Nat → XS) : Prop := h.2.2 = nI n ∧ ∃ x, x < 4 ∧ h.2.1 = nI x ∧ ∀ j, j < n → S1 (ring h.1 ((x + 4 - n + j) % 4)) (f j)
def H2 (w : TModel) (n : Nat) (f : Nat → XS) : Prop := mN w = nI n ∧ ∀ j, j < n → S2 (fun k => mS w (617 * j + k)) (f j)
/-- class and reference hold the same -/
def RR (now : TState) (hist : THistory) (mo : TModel) : Prop := ∃ (x : XS) (n : Nat) (f : Nat → XS), n ≤ 4 ∧ S1 now x ∧ S2 (mA mo) x ∧ SI x ∧ H1 hist n f ∧ H2 mo n f ∧ ∀ j, j < n → SI (f j)
theorem S2_cong {a b : Nat → Int32} {x : XS} (hI : SI x) (h : ∀ k, k < 617 → a k = b k) (hs : S2 a x) : S2 b x := by
  obtain ⟨⟨a1, a2, a3⟩, ⟨b1, b2, b3⟩, ⟨d1, d2, d3, d4, d5⟩, ⟨p1, p2⟩, ⟨c1, c2, c3⟩, ⟨w1, w2⟩⟩ := hs
  obtain ⟨-, -, ⟨i1, i2, i3, i4, -⟩, -, -, -⟩ := hI
  refine ⟨⟨by rw [← h _ (by omega)]; exact a1, a2, fun i hi => by rw [← h _ (by omega)]; exact a3 i hi⟩, ⟨by rw [← h _ (by omega)]; exact b1, b2, fun i hi => by rw [← h _ (by omega)]; exact b3 i hi⟩, ⟨by rw [← h _ (by omega)]; exact d1, by rw [← h _ (by omega)]; exact d2, by rw [← h _ (by omega)]; exact d3, fun k hk => ?_, fun k hk hc i hi => ?_⟩, ⟨by rw [← h _ (by omega)]; exact p1, fun ht => ⟨fun k hk => ?_, ?_⟩⟩, ⟨by rw [← h _ (by omega)]; exact c1, c2, fun i hi => by rw [← h _ (by omega)]; exact c3 i hi⟩, ⟨by rw [← h _ (by omega)]; exact w1, fun ht => ⟨?_, ?_, ?_, fun i hi => ?_⟩⟩⟩
  · obtain ⟨e1, e2, e3, e4⟩ := d4 k hk
    exact ⟨by rw [← h _ (by omega)]; exact e1, by rw [← h _ (by omega)]; exact e2, by rw [← h _ (by omega)]; exact e3, by rw [← h _ (by omega)]; exact e4⟩
  · have := i4 k hk
    rw [← h _ (by omega)]; exact d5 k hk hc i hi
  · rw [← h _ (by omega)]; exact (p2 ht).1 k hk
  · rw [← h _ (by omega)]; exact (p2 ht).2
  · rw [← h _ (by omega)]; exact (w2 ht).1
  · rw [← h _ (by omega)]; exact (w2 ht).2.1
  · exact (w2 ht).2.2.1
  · have h9 := (w2 ht).2.2.1
    rw [← h _ (by omega)]; exact (w2 ht).2.2.2 i hi
