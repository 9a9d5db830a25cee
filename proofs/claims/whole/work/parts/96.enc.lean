/-! encode: what is written -/
def psh (y : XB) (v : Int32) : XB := (fun k => if k = y.2 then v else y.1 k, y.2 + 1)
def psB (x : XS) (k : Nat) : Nat → Nat → XB → XB
  | _, 0, y => y
  | i, d + 1, y => psB x k (i + 1) d (psh y (bF x k i))
def cE (x : XS) (k : Nat) (y : XB) : XB := if whl x k then psh (psh (psh (psh y (nI 1)) (nI (dR x.2.2.1 k))) (nI (dG x.2.2.1 k))) (nI (dL x.2.2.1 k)) else psB x k 0 (dL x.2.2.1 k) (psh (psh (psh y (nI 2)) (nI (dG x.2.2.1 k))) (nI (dL x.2.2.1 k)))
def cost (x : XS) (k : Nat) : Nat := if whl x k then 4 else 3 + dL x.2.2.1 k
def eA (x : XS) : Nat → Nat → XB → XB
  | _, 0, y => y
  | n, d + 1, y => eA x (n + 1) d (cE x (x.2.2.2.1.2.1 n) y)
def e0 (x : XS) : XB := psh (psh (psh (psh (fun _ => 0, 0) (nI 73)) (nI (dS x.2.2.1))) (nI (dT x.2.2.1))) (nI (dC x.2.2.1))
def sumI (f : Nat → Int32) : Nat → Nat → Int32 → Int32
  | _, 0, a => a
  | i, d + 1, a => sumI f (i + 1) d (a + f i)
def rem251 (a : Int32) : Int32 := a - a / (251 : Int32) * (251 : Int32)
def eF (y : XB) : XB := psh y (rem251 (sumI y.1 0 y.2 0))
def encR (x : XS) : XB := eF (eA x 0 (dC x.2.2.1) (e0 x))
theorem psB_2 (x : XS) (k : Nat) : ∀ (d i : Nat) (y : XB), (psB x k i d y).2 = y.2 + d
  | 0, _, _ => rfl
  | d + 1, i, y => by
    show (psB x k (i + 1) d (psh y (bF x k i))).2 = _
    rw [psB_2 x k d (i + 1)]
    show y.2 + 1 + d = _
    omega
theorem cE_2 (x : XS) (k : Nat) (y : XB) : (cE x k y).2 = y.2 + cost x k := by
  unfold cE cost
  split
  · rfl
  · rw [psB_2]
    show y.2 + 1 + 1 + 1 + _ = _
    omega
def costs (x : XS) (n d : Nat) : Nat := fb_sm (fun e => cost x (x.2.2.2.1.2.1 (n + e))) d
theorem costs_s (x : XS) (n d : Nat) : costs x n (d + 1) = cost x (x.2.2.2.1.2.1 n) + costs x (n + 1) d := by
  unfold costs
  rw [Nat.add_comm d 1, fb_sm_split]
  congr 1
  · show 0 + cost x (x.2.2.2.1.2.1 (n + 0)) = _
    rw [Nat.zero_add, Nat.add_zero]
  · refine fb_sm_cong fun e _ => ?_
    rw [show n + (1 + e) = n + 1 + e by omega]
theorem eA_2 (x : XS) : ∀ (d n : Nat) (y : XB), (eA x n d y).2 = y.2 + costs x n d
  | 0, _, _ => rfl
  | d + 1, n, y => by
    show (eA x (n + 1) d (cE x (x.2.2.2.1.2.1 n) y)).2 = _
    rw [eA_2 x d (n + 1), cE_2, costs_s]
    omega
theorem psh_I {y : XB} {v : Int32} (h : BI y) (hv : isB v) : BI (psh y v) := by
  intro i hi
  have hi : i < y.2 + 1 := hi
  show isB (if i = y.2 then v else y.1 i)
  split
  · exact hv
  · exact h i (by omega)
theorem isB_n {n : Nat} (h : n < 256) : isB (nI n) := ⟨n, h, rfl⟩
theorem bF_I {x : XS} (hI : SI x) (hS : x.1.2 = dS x.2.2.1) {k i : Nat} (hk : k < dC x.2.2.1) (hi : i < dL x.2.2.1 k) : isB (bF x k i) := by
  unfold bF
  have b := hI.2.2.1.2.2.2.1 k hk
  cases hK : dK x.2.2.1 k
  · rw [if_neg (by decide)]
    exact hI.2.2.1.2.2.2.2.2 k hk hK i hi
  · rw [if_pos rfl]
    have := b.2.2 hK
    exact hI.1 _ (by omega)
theorem psB_I {x : XS} (hI : SI x) (hS : x.1.2 = dS x.2.2.1) {k : Nat} (hk : k < dC x.2.2.1) : ∀ (d i : Nat) (y : XB), i + d = dL x.2.2.1 k → BI y → BI (psB x k i d y)
  | 0, _, _, _, h => h
  | d + 1, i, y, hi, h => psB_I hI hS hk d (i + 1) _ (by omega) (psh_I h (bF_I hI hS hk (by omega)))
theorem cE_I {x : XS} (hI : SI x) (hS : x.1.2 = dS x.2.2.1) {k : Nat} (hk : k < dC x.2.2.1) {y : XB} (h : BI y) : BI (cE x k y) := by
  have b := hI.2.2.1.2.2.2.1 k hk
  have i2 := hI.2.2.1.2.1
  have i3 := hI.2.2.1.2.2.1
  unfold cE
  cases hW : whl x k
  · rw [if_neg (by decide)]
    exact psB_I hI hS hk _ 0 _ (Nat.zero_add _) (psh_I (psh_I (psh_I h (isB_n (by omega))) (isB_n (by omega))) (isB_n (by omega)))
  · have hK : dK x.2.2.1 k = true := by
      unfold whl at hW
      cases hz : dK x.2.2.1 k
      · rw [hz] at hW; cases hW
      · rfl
    have := b.2.2 hK
    rw [if_pos rfl]
    exact psh_I (psh_I (psh_I (psh_I h (isB_n (by omega))) (isB_n (by omega))) (isB_n (by omega))) (isB_n (by omega))
theorem eA_I {x : XS} (hI : SI x) (ht : x.2.2.2.1.1 = true) : ∀ (d n : Nat) (y : XB), n + d = dC x.2.2.1 → BI y → BI (eA x n d y)
  | 0, _, _, _, h => h
  | d + 1, n, y, hn, h => eA_I hI ht d (n + 1) _ (by omega) (cE_I hI (hI.2.2.2.1 ht).1 ((hI.2.2.2.1 ht).2.1 n (by omega)) h)
theorem sumI_n {f : Nat → Int32} {n : Nat} (h : ∀ i, i < n → isB (f i)) : ∀ (d i a : Nat), i + d = n → ∃ s, sumI f i d (nI a) = nI s ∧ s ≤ a + 255 * d
  | 0, _, a, _ => ⟨a, rfl, by omega⟩
  | d + 1, i, a, hi => by
    obtain ⟨m, hm, e⟩ := h i (by omega)
    obtain ⟨s, e1, e2⟩ := sumI_n h d (i + 1) (a + m) (by omega)
    refine ⟨s, ?_, by omega⟩
    show sumI f (i + 1) d (nI a + f i) = _
    rw [e, nI_add]; exact e1
theorem eF_I {y : XB} (h : BI y) (hn : y.2 < 1000000) : BI (eF y) := by
  refine psh_I h ?_
  obtain ⟨s, e, hs⟩ := sumI_n h y.2 0 0 (Nat.zero_add _)
  have e : sumI y.1 0 y.2 0 = nI s := e
  rw [e]
  unfold rem251
  have := pk_rem (a := s) (d := 251) (by omega) (by omega) (by omega)
  exact ⟨s % 251, by have := Nat.mod_lt s (show 0 < 251 by omega); omega, this⟩
theorem e0_I {x : XS} (hI : SI x) : BI (e0 x) := by
  have i1 := hI.2.2.1.1
  have i2 := hI.2.2.1.2.1
  have i3 := hI.2.2.1.2.2.1
  exact psh_I (psh_I (psh_I (psh_I (fun i hi => absurd hi (Nat.not_lt_zero i)) (isB_n (by omega))) (isB_n (by omega))) (isB_n (by omega))) (isB_n (by omega))
theorem encR_2 {x : XS} (hI : SI x) (ht : x.2.2.2.1.1 = true) : (encR x).2 = 5 + fb_sm (cost x) (dC x.2.2.1) := by
  have e := (hI.2.2.2.1 ht).2.2.2 (cost x)
  show (eA x 0 (dC x.2.2.1) (e0 x)).2 + 1 = _
  rw [eA_2]
  show 4 + costs x 0 (dC x.2.2.1) + 1 = _
  unfold costs
  rw [← e]
  have : fb_sm (fun e => cost x (x.2.2.2.1.2.1 (0 + e))) (dC x.2.2.1) = fb_sm (fun e => cost x (x.2.2.2.1.2.1 e)) (dC x.2.2.1) := fb_sm_cong (fun e _ => by rw [Nat.zero_add])
  omega
theorem encR_I {x : XS} (hI : SI x) (ht : x.2.2.2.1.1 = true) : BI (encR x) := by
  refine eF_I (eA_I hI ht _ 0 _ (Nat.zero_add _) (e0_I hI)) ?_
  have e := encR_2 hI ht
  have e : (eA x 0 (dC x.2.2.1) (e0 x)).2 + 1 = 5 + fb_sm (cost x) (dC x.2.2.1) := e
  have : fb_sm (cost x) (dC x.2.2.1) ≤ dC x.2.2.1 * 67 := fb_sm_bound (fun k hk => by
    have b := (hI.2.2.1.2.2.2.1 k hk).2.1
    have := hI.2.2.1.2.2.1
    unfold cost
    split <;> omega)
  have := hI.2.2.1.1
  omega
/-! the class writes it -/
abbrev stc (st : TState) (b : TBytes) : TState := (st.1, st.2.1, st.2.2.1, st.2.2.2.1, b, st.2.2.2.2.2)
theorem pushB {b : TBytes} {y : XB} {cap : Nat} (hc : cap < 2147483648) (h : B1 cap b y) (hy : y.2 < cap) (v : Int32) : ∃ r, f_X0_push cap b v = some r ∧ B1 cap r (psh y v) := X0_push hc h hy v
theorem pc95 {st : TState} {x : XS} (h : S1 st x) (hI : SI x) (hS : x.1.2 = dS x.2.2.1) {k : Nat} (hk : k < dC x.2.2.1) : ∀ (d i fu : Nat) (b : TBytes) (y : XB), i + d = dL x.2.2.1 k → d < fu → B1 200 b y → y.2 + d ≤ 200 → ∃ r, f_X3_pushCommand_L95 (nI k) fu (stc st b) (nI i) = some (stc st r) ∧ B1 200 r (psB x k i d y) := by
  have i1 := hI.2.2.1.1
  have b3 := hI.2.2.1.2.2.1
  have bk := hI.2.2.1.2.2.2.1 k hk
  intro d
  induction d with
  | zero =>
    intro i fu b y hi hf hb hy
    obtain ⟨fu, rfl⟩ : ∃ k', fu = k' + 1 := ⟨fu - 1, by omega⟩
    refine ⟨b, ?_, hb⟩
    rw [f_X3_pushCommand_L95.eq_2, X2_len h.2.2.1 i1 hk, Option.bind_some, br_le_t (by omega) (by omega)]
  | succ d ih =>
    intro i fu b y hi hf hb hy
    obtain ⟨fu, rfl⟩ : ∃ k', fu = k' + 1 := ⟨fu - 1, by omega⟩
    obtain ⟨r, er, hr⟩ := pushB (by decide) hb (by omega) (bF x k i)
    obtain ⟨r2, er2, hr2⟩ := ih (i + 1) fu r (psh y (bF x k i)) (by omega) (by omega) hr (by show y.2 + 1 + d ≤ 200; omega)
    refine ⟨r2, ?_, hr2⟩
    rw [f_X3_pushCommand_L95.eq_2, X2_len h.2.2.1 i1 hk, Option.bind_some, br_le_f (by omega) (by omega), show f_X8_byteToAdd (stc st b) (nI k) (nI i) = some (bF x k i) from X8_byteToAdd h hI hS hk (by omega), Option.bind_some, er, Option.bind_some, nI_1]
    exact er2
theorem X3_cmd {st : TState} {x : XS} (h : S1 st x) (hI : SI x) (ht : x.2.2.2.1.1 = true) {k : Nat} (hk : k < dC x.2.2.1) {b : TBytes} {y : XB} (hb : B1 200 b y) (hy : y.2 + cost x k ≤ 200) : ∃ r, f_X3_pushCommand (stc st b) (nI k) = some (stc st r) ∧ B1 200 r (cE x k y) := by
  have i1 := hI.2.2.1.1
  have i3 := hI.2.2.1.2.2.1
  have bk := hI.2.2.1.2.2.2.1 k hk
  have hS := (hI.2.2.2.1 ht).1
  unfold f_X3_pushCommand
  rw [show f_X7_isCopied (stc st b).2.2.2.1 (stc st b).2.2.1 (nI k) = _ from X7_isCopied h hI ht hk, Option.bind_some, br_z0]
  unfold cost at hy
  unfold cE
  cases hW : whl x k
  · rw [hW, if_neg (by decide)] at hy
    obtain ⟨r1, e1, g1⟩ := pushB (by decide) hb (by omega) (nI 2)
    obtain ⟨r2, e2, g2⟩ := pushB (by decide) g1 (by show y.2 + 1 < 200; omega) (nI (dG x.2.2.1 k))
    obtain ⟨r3, e3, g3⟩ := pushB (by decide) g2 (by show y.2 + 1 + 1 < 200; omega) (nI (dL x.2.2.1 k))
    obtain ⟨r4, e4, g4⟩ := pc95 h hI hS hk (dL x.2.2.1 k) 0 FUEL r3 _ (Nat.zero_add _) (by show _ < 10000; omega) g3 (by show y.2 + 1 + 1 + 1 + _ ≤ 200; omega)
    rw [if_neg (by decide), if_neg (by decide)]
    refine ⟨r4, ?_, g4⟩
    rw [show f_X0_push 200 (stc st b).2.2.2.2.1 (2 : Int32) = some r1 from e1, Option.bind_some, X2_tgt h.2.2.1 i1 hk, Option.bind_some, e2, Option.bind_some, X2_len h.2.2.1 i1 hk, Option.bind_some, e3, Option.bind_some]
    exact e4
  · have hK : dK x.2.2.1 k = true := by
      unfold whl at hW
      cases hz : dK x.2.2.1 k
      · rw [hz] at hW; cases hW
      · rfl
    rw [hW, if_pos rfl] at hy
    obtain ⟨r1, e1, g1⟩ := pushB (by decide) hb (by omega) (nI 1)
    obtain ⟨r2, e2, g2⟩ := pushB (by decide) g1 (by show y.2 + 1 < 200; omega) (nI (dR x.2.2.1 k))
    obtain ⟨r3, e3, g3⟩ := pushB (by decide) g2 (by show y.2 + 1 + 1 < 200; omega) (nI (dG x.2.2.1 k))
    obtain ⟨r4, e4, g4⟩ := pushB (by decide) g3 (by show y.2 + 1 + 1 + 1 < 200; omega) (nI (dL x.2.2.1 k))
    rw [if_pos rfl, if_pos rfl]
    refine ⟨r4, ?_, g4⟩
    rw [show f_X0_push 200 (stc st b).2.2.2.2.1 (1 : Int32) = some r1 from e1, Option.bind_some, X2_src h.2.2.1 i1 hk, Option.bind_some, hK, show sI true (dR x.2.2.1 k) = nI (dR x.2.2.1 k) from rfl, e2, Option.bind_some, X2_tgt h.2.2.1 i1 hk, Option.bind_some, e3, Option.bind_some, X2_len h.2.2.1 i1 hk, Option.bind_some, e4, Option.bind_some]
theorem sum4 {cap : Nat} (hc : cap < 10000) {b : TBytes} {y : XB} (h : B1 cap b y) : ∀ (d i k : Nat) (a : Int32), i + d = y.2 → d < k → f_X0_sum_L4 cap b k (nI i) a = some (sumI y.1 i d a) := by
  have hy := h.2.1
  intro d
  induction d with
  | zero =>
    intro i k a hi hk
    obtain ⟨k, rfl⟩ : ∃ k', k = k' + 1 := ⟨k - 1, by omega⟩
    rw [f_X0_sum_L4.eq_2, h.1, br_le_t (by omega) (by omega)]; rfl
  | succ d ih =>
    intro i k a hi hk
    obtain ⟨k, rfl⟩ : ∃ k', k = k' + 1 := ⟨k - 1, by omega⟩
    rw [f_X0_sum_L4.eq_2, h.1, br_le_f (by omega) (by omega), X0_at (by omega) h (by omega), Option.bind_some, nI_1, ih (i + 1) k _ (by omega) (by omega)]; rfl
theorem X0_sum {cap : Nat} (hc : cap < 10000) {b : TBytes} {y : XB} (h : B1 cap b y) : f_X0_sum cap b = some (sumI y.1 0 y.2 0) := by
  have hy := h.2.1
  exact sum4 hc h y.2 0 FUEL 0 (Nat.zero_add _) (by show _ < 10000; omega)
theorem fill51 {st : TState} {x : XS} (h : S1 st x) (hI : SI x) (ht : x.2.2.2.1.1 = true) : ∀ (d n fu : Nat) (b : TBytes) (y : XB), n + d = dC x.2.2.1 → d < fu → B1 200 b y → y.2 + costs x n d + 1 ≤ 200 → ∃ r, f_X3_fill_L51 fu (stc st b) (nI n) = some (stc st r) ∧ B1 200 r (eF (eA x n d y)) := by
  have i1 := hI.2.2.1.1
  obtain ⟨q1, q2, q3, q4⟩ := h.2.2.2.1.2 ht
  have hpi := hI.2.2.2.1 ht
  intro d
  induction d with
  | zero =>
    intro n fu b y hn hf hb hy
    obtain ⟨fu, rfl⟩ : ∃ k', fu = k' + 1 := ⟨fu - 1, by omega⟩
    obtain ⟨r, er, hr⟩ := pushB (by decide) hb (by omega) (rem251 (sumI y.1 0 y.2 0))
    refine ⟨r, ?_, hr⟩
    rw [f_X3_fill_L51.eq_2, q1, br_le_t (by omega) (by omega), X0_sum (by omega) hb, Option.bind_some]
    exact (congrArg (fun z => Option.bind z _) er).trans rfl
  | succ d ih =>
    intro n fu b y hn hf hb hy
    obtain ⟨fu, rfl⟩ : ∃ k', fu = k' + 1 := ⟨fu - 1, by omega⟩
    rw [costs_s] at hy
    obtain ⟨r, er, hr⟩ := X3_cmd h hI ht (hpi.2.1 n (by omega)) hb (by omega)
    obtain ⟨r2, er2, hr2⟩ := ih (n + 1) fu r (cE x (x.2.2.2.1.2.1 n) y) (by omega) (by omega) hr (by rw [cE_2]; omega)
    refine ⟨r2, ?_, hr2⟩
    rw [f_X3_fill_L51.eq_2, q1, br_le_f (by omega) (by omega), X7_at q1 i1 (by omega), Option.bind_some, q2 n (by omega), er, Option.bind_some, nI_1]
    exact er2
theorem X3_fill {st : TState} {x : XS} (h : S1 st x) (hI : SI x) (ht : x.2.2.2.1.1 = true) (hl : (encR x).2 ≤ 200) : ∃ r, f_X3_fill st = some (stc st r) ∧ B1 200 r (encR x) := by
  have i1 := hI.2.2.1.1
  obtain ⟨r0, f0, g0⟩ := X0_cut (by decide) h.2.2.2.2.1 (m := 0) (by decide)
  have g0 : B1 200 r0 (fun _ => 0, 0) := ⟨by rw [g0.1]; show nI (min _ 0) = nI 0; rw [Nat.min_zero], by show 0 ≤ 200; omega, fun i hi => absurd hi (Nat.not_lt_zero i)⟩
  have e2 : (encR x).2 = 4 + costs x 0 (dC x.2.2.1) + 1 := by
    show (eA x 0 (dC x.2.2.1) (e0 x)).2 + 1 = _
    rw [eA_2]; rfl
  obtain ⟨r1, f1, g1⟩ := pushB (by decide) g0 (by show 0 < 200; omega) (nI 73)
  obtain ⟨r2, f2, g2⟩ := pushB (by decide) g1 (by show 0 + 1 < 200; omega) (nI (dS x.2.2.1))
  obtain ⟨r3, f3, g3⟩ := pushB (by decide) g2 (by show 0 + 1 + 1 < 200; omega) (nI (dT x.2.2.1))
  obtain ⟨r4, f4, g4⟩ := pushB (by decide) g3 (by show 0 + 1 + 1 + 1 < 200; omega) (nI (dC x.2.2.1))
  obtain ⟨r5, f5, g5⟩ := fill51 h hI ht (dC x.2.2.1) 0 FUEL r4 (e0 x) (Nat.zero_add _) (by show _ < 10000; omega) g4 (by show 4 + _ + 1 ≤ 200; omega)
  refine ⟨r5, ?_, g5⟩
  unfold f_X3_fill
  rw [show f_X0_cut 200 st.2.2.2.2.1 (0 : Int32) = some r0 from f0, Option.bind_some, show f_X0_push 200 r0 (73 : Int32) = some r1 from f1, Option.bind_some, show st.2.2.1.2.2.2.2.2.2.1 = nI (dS x.2.2.1) from h.2.2.1.1, f2, Option.bind_some, show st.2.2.1.2.2.2.2.2.2.2.1 = nI (dT x.2.2.1) from h.2.2.1.2.1, f3, Option.bind_some, show st.2.2.1.2.2.2.2.2.2.2.2.1 = nI (dC x.2.2.1) from h.2.2.1.2.2.1, f4, Option.bind_some]
  exact f5
theorem len4 {st : TState} {x : XS} (h : S1 st x) (hI : SI x) (ht : x.2.2.2.1.1 = true) : ∀ d i k : Nat, i + d = dC x.2.2.1 → d < k → f_X3_lengthOf_L4 st k (nI i) (nI (5 + fb_sm (cost x) i)) = some (nI (5 + fb_sm (cost x) (dC x.2.2.1))) := by
  have i1 := hI.2.2.1.1
  have eC : st.2.2.1.2.2.2.2.2.2.2.2.1 = nI (dC x.2.2.1) := h.2.2.1.2.2.1
  intro d
  induction d with
  | zero =>
    intro i k hi hk
    obtain ⟨k, rfl⟩ : ∃ k', k = k' + 1 := ⟨k - 1, by omega⟩
    rw [f_X3_lengthOf_L4.eq_2, eC, br_le_t (by omega) (by omega), show i = dC x.2.2.1 by omega]
  | succ d ih =>
    intro i k hi hk
    obtain ⟨k, rfl⟩ : ∃ k', k = k' + 1 := ⟨k - 1, by omega⟩
    have ih2 := ih (i + 1) k (by omega) (by omega)
    rw [fb_sm_succ] at ih2
    rw [f_X3_lengthOf_L4.eq_2, eC, br_le_f (by omega) (by omega), X7_isCopied h hI ht (by omega), Option.bind_some, br_z0, X2_len h.2.2.1 i1 (by omega), Option.bind_some]
    unfold f_X3_lengthOf_J45
    unfold cost at ih2
    rw [nI_1]
    cases hW : whl x i
    · rw [hW, if_neg (by decide)] at ih2
      rw [if_neg (by decide), show (3 : Int32) + nI (dL x.2.2.1 i) = nI (3 + dL x.2.2.1 i) from nI_add 3 _, nI_add, Nat.add_assoc]
      exact ih2
    · rw [hW, if_pos rfl] at ih2
      rw [if_pos rfl, show nI (5 + fb_sm (cost x) i) + (4 : Int32) = nI (5 + fb_sm (cost x) i + 4) from nI_add _ 4, Nat.add_assoc]
      exact ih2
theorem X3_lengthOf {st : TState} {x : XS} (h : S1 st x) (hI : SI x) (ht : x.2.2.2.1.1 = true) : f_X3_lengthOf st = some (nI (encR x).2) := by
  have i1 := hI.2.2.1.1
  rw [encR_2 hI ht]
  exact len4 h hI ht (dC x.2.2.1) 0 FUEL (Nat.zero_add _) (by show _ < 10000; omega)
