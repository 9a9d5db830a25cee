/-! plan: which copy is converted, and the order -/
def cf (x : XD) (q : Nat → Bool) (k : Nat) : Nat := fb_ct (fun i => q i && (Pr x i k || Pr x k i)) (dC x)
/-- a is to be converted rather than b -/
def better (x : XD) (pol : Nat) (q : Nat → Bool) (a b : Nat) : Bool := if pol = 0 then false else if pol = 1 then decide (dL x a < dL x b) else decide (cf x q b < cf x q a)
def vpick (x : XD) (pol : Nat) (q : Nat → Bool) (i : Nat) (b : Option Nat) : Option Nat := if q i then (match b with | none => some i | some e => if better x pol q i e then some i else some e) else b
def vsp (x : XD) (pol : Nat) (q : Nat → Bool) : Nat → Nat → Option Nat → Option Nat
  | _, 0, b => b
  | i, d + 1, b => vsp x pol q (i + 1) d (vpick x pol q i b)
def oI : Option Nat → Int32
  | none => -1
  | some b => nI b
def inQ (x : XD) (q : Nat → Bool) (b : Option Nat) : Prop := ∀ e, b = some e → e < dC x ∧ q e = true
theorem vpick_in {x : XD} {pol : Nat} {q : Nat → Bool} {i : Nat} {b : Option Nat} (hi : i < dC x) (hb : inQ x q b) : inQ x q (vpick x pol q i b) := by
  intro e he
  unfold vpick at he
  cases hq : q i
  · rw [hq, if_neg (by decide)] at he
    exact hb e he
  · rw [hq, if_pos rfl] at he
    cases b with
    | none => cases he; exact ⟨hi, hq⟩
    | some f =>
      dsimp only at he
      split at he
      · cases he; exact ⟨hi, hq⟩
      · exact hb e he
theorem vsp_in {x : XD} {pol : Nat} {q : Nat → Bool} : ∀ (d i : Nat) (b : Option Nat), i + d = dC x → inQ x q b → inQ x q (vsp x pol q i d b)
  | 0, _, _, _, hb => hb
  | d + 1, i, b, hi, hb => vsp_in d (i + 1) _ (by omega) (vpick_in (by omega) hb)
theorem vpick_some {x : XD} {pol : Nat} {q : Nat → Bool} {i : Nat} {b : Option Nat} (h : b ≠ none) : vpick x pol q i b ≠ none := by
  unfold vpick
  cases b with
  | none => exact absurd rfl h
  | some f =>
    split
    · dsimp only; split
      · exact fun z => by cases z
      · exact fun z => by cases z
    · exact h
theorem vsp_some {x : XD} {pol : Nat} {q : Nat → Bool} : ∀ (d i : Nat) (b : Option Nat), i + d = dC x → (b ≠ none ∨ ∃ k, i ≤ k ∧ k < dC x ∧ q k = true) → vsp x pol q i d b ≠ none
  | 0, i, b, hi, hb => by
    rcases hb with hb | ⟨k, h1, h2, -⟩
    · exact hb
    · omega
  | d + 1, i, b, hi, hb => by
    refine vsp_some d (i + 1) _ (by omega) ?_
    rcases hb with hb | ⟨k, h1, h2, h3⟩
    · exact Or.inl (vpick_some hb)
    · by_cases e : k = i
      · subst e
        left
        unfold vpick
        rw [h3, if_pos rfl]
        cases b with
        | none => exact fun z => by cases z
        | some f =>
          dsimp only; split
          · exact fun z => by cases z
          · exact fun z => by cases z
      · exact Or.inr ⟨k, by omega, h2, h3⟩
/-- the copy that is converted -/
def vict (x : XD) (pol : Nat) (q : Nat → Bool) : Nat := (vsp x pol q 0 (dC x) none).getD 0
theorem vict_is {x : XD} {pol : Nat} {q : Nat → Bool} (h : ∃ k, k < dC x ∧ q k = true) : vsp x pol q 0 (dC x) none = some (vict x pol q) ∧ vict x pol q < dC x ∧ q (vict x pol q) = true := by
  obtain ⟨k, h1, h2⟩ := h
  have hs := vsp_some (pol := pol) (dC x) 0 none (Nat.zero_add _) (Or.inr ⟨k, Nat.zero_le k, h1, h2⟩)
  have hi := vsp_in (pol := pol) (q := q) (dC x) 0 none (Nat.zero_add _) (fun e he => by cases he)
  unfold vict
  cases e : vsp x pol q 0 (dC x) none with
  | none => exact absurd e hs
  | some j => exact ⟨rfl, hi j e⟩
def wI (x : XD) (pol : Nat) (q : Nat → Bool) (k : Nat) : Int32 := if pol = 1 then -(nI (dL x k)) else if pol = 2 then nI (cf x q k) else 0
theorem neg_toInt {a : Nat} (ha : a < 1073741824) : (-(nI a)).toInt = -(a : Int) := by
  have e : -(nI a) = nI 0 - nI a := by
    apply Int32.toBitVec_inj.1
    show -(nI a).toBitVec = (nI 0).toBitVec - (nI a).toBitVec
    show -(nI a).toBitVec = 0#32 - (nI a).toBitVec
    rw [BitVec.zero_sub]
  rw [e, pk_sub_toInt (by omega) ha]
  omega
theorem neg_le {a b : Nat} (ha : a < 1073741824) (hb : b < 1073741824) : -(nI a) ≤ -(nI b) ↔ b ≤ a := by
  rw [fa_le, neg_toInt ha, neg_toInt hb]
  omega
theorem confl11 {w : TDelta} {x : XD} (h : D1 w x) (hc : dC x ≤ 30) (q : Nat → Bool) {k : Nat} (hk : k < dC x) : ∀ d i fu : Nat, i + d = dC x → d < fu → f_X7_conflicts_L11 w (bm q (dC x)) (nI k) fu (nI i) (bm (fun e => (Pr x e k && q e) || (decide (e < i) && (q e && Pr x k e))) (dC x)) = some (nI (cf x q k)) := by
  have eC : w.2.2.2.2.2.2.2.2.1 = nI (dC x) := h.2.2.1
  intro d
  induction d with
  | zero =>
    intro i fu hi hf
    obtain ⟨fu, rfl⟩ : ∃ k', fu = k' + 1 := ⟨fu - 1, by omega⟩
    rw [f_X7_conflicts_L11.eq_2, eC, br_le_t (by omega) (by omega), bitC_bm hc, Option.bind_some]
    unfold cf
    congr 2
    refine fb_ct_cong fun e he => ?_
    rw [decide_eq_true (show e < i by omega)]
    cases q e <;> cases Pr x e k <;> cases Pr x k e <;> rfl
  | succ d ih =>
    intro i fu hi hf
    obtain ⟨fu, rfl⟩ : ∃ k', fu = k' + 1 := ⟨fu - 1, by omega⟩
    rw [f_X7_conflicts_L11.eq_2, eC, br_le_f (by omega) (by omega), X10_isIn (by omega) (by omega), Option.bind_some, br_z0, decide_eq_true (show i < dC x by omega), Bool.true_and, X2_pre h hc (by omega), Option.bind_some, X10_isIn (by omega) (by omega), Option.bind_some, br_z0, decide_eq_true hk, Bool.true_and, bm_or (by omega) (by omega)]
    unfold f_X7_conflicts_J49
    rw [nI_1]
    have same : q i = false ∨ Pr x k i = false → ∀ e, e < dC x → ((Pr x e k && q e) || (decide (e < i) && (q e && Pr x k e))) = ((Pr x e k && q e) || (decide (e < i + 1) && (q e && Pr x k e))) := fun z e he => by
      by_cases y : e = i
      · subst y
        rcases z with z | z <;> rw [z] <;> simp
      · have : decide (e < i + 1) = decide (e < i) := by
          by_cases q : e < i
          · rw [decide_eq_true q, decide_eq_true (by omega)]
          · rw [decide_eq_false q, decide_eq_false (by omega)]
        rw [this]
    have ih2 := ih (i + 1) fu (by omega) (by omega)
    cases hq : q i
    · rw [if_neg (by decide), bm_cong (by omega) (same (Or.inl hq))]; exact ih2
    · rw [if_pos rfl]
      cases hp : Pr x k i
      · rw [if_neg (by decide), bm_cong (by omega) (same (Or.inr hp))]; exact ih2
      · rw [if_pos rfl]
        have e9 : bm (fun e => ((Pr x e k && q e) || (decide (e < i) && (q e && Pr x k e))) || (e == i)) (dC x) = bm (fun e => (Pr x e k && q e) || (decide (e < i + 1) && (q e && Pr x k e))) (dC x) := bm_cong (by omega) (fun e he => by
          by_cases y : e = i
          · subst y
            rw [hq, hp, decide_eq_true (Nat.lt_succ_self e)]; simp
          · have y2 : (e == i) = false := beq_eq_false_iff_ne.mpr y
            have : decide (e < i + 1) = decide (e < i) := by
              by_cases q : e < i
              · rw [decide_eq_true q, decide_eq_true (by omega)]
              · rw [decide_eq_false q, decide_eq_false (by omega)]
            rw [this, y2, Bool.or_false])
        exact (congrArg (fun z => f_X7_conflicts_L11 w (bm q (dC x)) (nI k) fu (nI (i + 1)) z) e9).trans ih2
theorem X7_conflicts {w : TDelta} {x : XD} (h : D1 w x) (hc : dC x ≤ 30) (q : Nat → Bool) {k : Nat} (hk : k < dC x) : f_X7_conflicts w (bm q (dC x)) (nI k) = some (nI (cf x q k)) := by
  unfold f_X7_conflicts
  rw [X2_pre h hc hk, Option.bind_some, bm_and (by omega)]
  have e9 : bm (fun e => Pr x e k && q e) (dC x) = bm (fun e => (Pr x e k && q e) || (decide (e < 0) && (q e && Pr x k e))) (dC x) := bm_cong (by omega) (fun e he => by rw [decide_eq_false (Nat.not_lt_zero e)]; simp)
  refine (congrArg (fun z => f_X7_conflicts_L11 w (bm q (dC x)) (nI k) FUEL (0 : Int32) z) e9).trans ?_
  exact confl11 h hc q hk (dC x) 0 FUEL (Nat.zero_add _) (by show _ < 10000; omega)
theorem X7_worth {w : TDelta} {x : XD} (h : D1 w x) (hc : dC x ≤ 30) (q : Nat → Bool) {pol : Nat} (hp : pol < 3) {k : Nat} (hk : k < dC x) : f_X7_worth w (bm q (dC x)) (nI pol) (nI k) = some (wI x pol q k) := by
  unfold f_X7_worth wI
  rcases (by omega : pol = 0 ∨ pol = 1 ∨ pol = 2) with e | e | e
  · subst e; rw [br_ne (show ¬ nI 0 = 1 by decide), br_ne (show ¬ nI 0 = 2 by decide)]; rfl
  · subst e; rw [br_eq (show nI 1 = 1 from rfl), X2_len h hc hk, Option.bind_some]; rfl
  · subst e; rw [br_ne (show ¬ nI 2 = 1 by decide), br_eq (show nI 2 = 2 from rfl), X7_conflicts h hc q hk, Option.bind_some]; rfl
theorem wI_le {x : XD} (hI : DI x) {pol : Nat} (hp : pol < 3) (q : Nat → Bool) {a b : Nat} (ha : a < dC x) (hb : b < dC x) : wI x pol q a ≤ wI x pol q b ↔ better x pol q a b = false := by
  have h1 := hI.2.2.2.1 a ha
  have h2 := hI.2.2.2.1 b hb
  have h3 := hI.2.2.1
  have c1 : cf x q a ≤ dC x := fb_ct_le _ _
  have c2 : cf x q b ≤ dC x := fb_ct_le _ _
  have hc := hI.1
  unfold wI better
  rcases (by omega : pol = 0 ∨ pol = 1 ∨ pol = 2) with e | e | e
  · subst e; exact ⟨fun _ => rfl, fun _ => (by show (0 : Int32) ≤ 0; decide)⟩
  · subst e
    show -(nI (dL x a)) ≤ -(nI (dL x b)) ↔ decide (dL x a < dL x b) = false
    rw [neg_le (by omega) (by omega), decide_eq_false_iff_not]
    omega
  · subst e
    show nI (cf x q a) ≤ nI (cf x q b) ↔ decide (cf x q b < cf x q a) = false
    rw [nI_leI (by omega) (by omega), decide_eq_false_iff_not]
    omega
theorem oI_m1 {x : XD} {q : Nat → Bool} {b : Option Nat} (hc : dC x ≤ 30) (h : inQ x q b) : oI b = -1 ↔ b = none := by
  cases b with
  | none => exact ⟨fun _ => rfl, fun _ => rfl⟩
  | some e =>
    have := (h e rfl).1
    exact ⟨fun z => absurd z (nI_ne_m1 (by omega)), fun z => by cases z⟩
theorem choose8 {w : TDelta} {x : XD} (h : D1 w x) (hI : DI x) (q : Nat → Bool) {pol : Nat} (hp : pol < 3) : ∀ (d i fu : Nat) (g : Int32) (b : Option Nat), i + d = dC x → d < fu → inQ x q b → (∀ e, b = some e → g = wI x pol q e) → f_X7_choose_L8 w (bm q (dC x)) (nI pol) fu (nI i) g (oI b) = some (oI (vsp x pol q i d b)) := by
  have hc := hI.1
  have eC : w.2.2.2.2.2.2.2.2.1 = nI (dC x) := h.2.2.1
  intro d
  induction d with
  | zero =>
    intro i fu g b hi hf hb hg
    obtain ⟨fu, rfl⟩ : ∃ k', fu = k' + 1 := ⟨fu - 1, by omega⟩
    rw [f_X7_choose_L8.eq_2, eC, br_le_t (by omega) (by omega)]; rfl
  | succ d ih =>
    intro i fu g b hi hf hb hg
    obtain ⟨fu, rfl⟩ : ∃ k', fu = k' + 1 := ⟨fu - 1, by omega⟩
    rw [f_X7_choose_L8.eq_2, eC, br_le_f (by omega) (by omega), X10_isIn (by omega) (by omega), Option.bind_some, br_z0, decide_eq_true (show i < dC x by omega), Bool.true_and, X7_worth h hc q hp (by omega), Option.bind_some]
    unfold f_X7_choose_J48 f_X7_choose_J55
    rw [nI_1]
    show _ = some (oI (vsp x pol q (i + 1) d (vpick x pol q i b)))
    have hin := vpick_in (pol := pol) (show i < dC x by omega) hb
    unfold vpick at hin ⊢
    cases hq : q i
    · rw [if_neg (by decide), if_neg (by decide)]
      exact ih (i + 1) fu g b (by omega) (by omega) hb hg
    · rw [hq, if_pos rfl] at hin
      rw [if_pos rfl, if_pos rfl]
      cases b with
      | none =>
        rw [br_eq (show oI none = -1 from rfl)]
        exact ih (i + 1) fu (wI x pol q i) (some i) (by omega) (by omega) hin (fun e he => by cases he; rfl)
      | some e =>
        have hbe := hb e rfl
        rw [br_ne (show ¬ oI (some e) = -1 from nI_ne_m1 (by omega)), hg e rfl]
        dsimp only at hin ⊢
        cases hB : better x pol q i e
        · rw [br_eq ((wI_le hI hp q (by omega) hbe.1).mpr hB), if_neg (by decide)]
          exact ih (i + 1) fu _ (some e) (by omega) (by omega) hb (fun e2 he => by cases he; rfl)
        · rw [br_ne (fun z => by rw [(wI_le hI hp q (by omega) hbe.1).mp z] at hB; cases hB), if_pos rfl]
          rw [hB, if_pos rfl] at hin
          exact ih (i + 1) fu (wI x pol q i) (some i) (by omega) (by omega) hin (fun e he => by cases he; rfl)
theorem X7_choose {w : TDelta} {x : XD} (h : D1 w x) (hI : DI x) {q : Nat → Bool} {pol : Nat} (hp : pol < 3) (hq : ∃ k, k < dC x ∧ q k = true) : f_X7_choose w (bm q (dC x)) (nI pol) = some (nI (vict x pol q)) := by
  have hc := hI.1
  have e := choose8 h hI q hp (dC x) 0 FUEL 0 none (Nat.zero_add _) (by show _ < 10000; omega) (fun e he => by cases he) (fun e he => by cases he)
  rw [(vict_is hq).1] at e
  exact e
/-- the copies, one after the other -/
def wo (q : Nat → Bool) (j : Nat) : Nat → Bool := fun k => q k && !(k == j)
def wi (v : Nat → Bool) (j : Nat) : Nat → Bool := fun k => v k || (k == j)
abbrev PS : Type := (Nat → Nat) × Nat × (Nat → Bool)
def updN (f : Nat → Nat) (k x : Nat) : Nat → Nat := fun j => if j = k then x else f j
def nxt (x : XD) (q : Nat → Bool) : Nat := fa_first (fre x q) (dC x)
def plS (x : XD) (pol : Nat) : Nat → (Nat → Bool) → PS → PS
  | 0, _, s => s
  | m + 1, q, s => if fb_ct q (dC x) = 0 then s else if nxt x q < dC x then plS x pol m (wo q (nxt x q)) (updN s.1 s.2.1 (nxt x q), s.2.1 + 1, s.2.2) else plS x pol m (wo q (vict x pol q)) (s.1, s.2.1, wi s.2.2 (vict x pol q))
/-- then those that are no copies any more -/
def plA (x : XD) (v : Nat → Bool) : Nat → Nat → PS → PS
  | _, 0, s => s
  | i, d + 1, s => if dK x i && !v i then plA x v (i + 1) d s else plA x v (i + 1) d (updN s.1 s.2.1 i, s.2.1 + 1, s.2.2)
def p0 : PS := (fun _ => 0, 0, fun _ => false)
def plan1 (x : XD) (pol : Nat) : PS := plS x pol 30 (dK x) p0
def planR (x : XD) (pol : Nat) : PS := plA x (plan1 x pol).2.2 0 (dC x) (plan1 x pol)
/-- what holds on the way: placed, left and converted are the copies -/
def PV (x : XD) (q : Nat → Bool) (s : PS) : Prop := (∀ k, k < dC x → q k = true → dK x k = true) ∧ (∀ k, k < dC x → s.2.2 k = true → dK x k = true) ∧ (∀ e, e < s.2.1 → s.1 e < dC x) ∧ (∀ k, k < dC x → q k = true → s.2.2 k = false) ∧ ∀ g : Nat → Nat, fb_sm (fun e => g (s.1 e)) s.2.1 + fb_sm (fun k => if q k then g k else 0) (dC x) + fb_sm (fun k => if s.2.2 k then g k else 0) (dC x) = fb_sm (fun k => if dK x k then g k else 0) (dC x)
theorem sm_wo {c : Nat} {q : Nat → Bool} {j : Nat} (hj : j < c) (hq : q j = true) (g : Nat → Nat) : fb_sm (fun k => if q k then g k else 0) c = fb_sm (fun k => if wo q j k then g k else 0) c + g j := by
  rw [← sm_one (v := g j) hj, ← fb_sm_add]
  refine fb_sm_cong fun k hk => ?_
  unfold wo
  by_cases e : k = j
  · subst e; rw [hq]; simp
  · have e2 : (k == j) = false := beq_eq_false_iff_ne.mpr e
    rw [e2, if_neg e]; simp
theorem sm_wi {c : Nat} {v : Nat → Bool} {j : Nat} (hj : j < c) (hv : v j = false) (g : Nat → Nat) : fb_sm (fun k => if wi v j k then g k else 0) c = fb_sm (fun k => if v k then g k else 0) c + g j := by
  rw [← sm_one (v := g j) hj, ← fb_sm_add]
  refine fb_sm_cong fun k hk => ?_
  unfold wi
  by_cases e : k = j
  · subst e; rw [hv]; simp
  · have e2 : (k == j) = false := beq_eq_false_iff_ne.mpr e
    rw [e2, if_neg e]; simp
theorem sm_updN {s : Nat → Nat} {n j : Nat} (g : Nat → Nat) : fb_sm (fun e => g (updN s n j e)) (n + 1) = fb_sm (fun e => g (s e)) n + g j := by
  rw [fb_sm_succ]
  congr 1
  · refine fb_sm_cong fun e he => ?_
    unfold updN
    rw [if_neg (by omega)]
  · unfold updN
    rw [if_pos rfl]
theorem PV_place {x : XD} {q : Nat → Bool} {s : PS} (h : PV x q s) {j : Nat} (hj : j < dC x) (hq : q j = true) : PV x (wo q j) (updN s.1 s.2.1 j, s.2.1 + 1, s.2.2) := by
  obtain ⟨h1, h2, h3, h4, h5⟩ := h
  have hw : ∀ k, wo q j k = true → q k = true := fun k e => by
    unfold wo at e
    rw [Bool.and_eq_true] at e
    exact e.1
  refine ⟨fun k hk e => h1 k hk (hw k e), h2, fun e he => ?_, fun k hk e => h4 k hk (hw k e), fun g => ?_⟩
  · have he : e < s.2.1 + 1 := he
    show updN s.1 s.2.1 j e < dC x
    unfold updN
    split
    · exact hj
    · exact h3 e (by omega)
  · have := h5 g
    rw [sm_wo hj hq g] at this
    show fb_sm (fun e => g (updN s.1 s.2.1 j e)) (s.2.1 + 1) + fb_sm (fun k => if wo q j k then g k else 0) (dC x) + fb_sm (fun k => if s.2.2 k then g k else 0) (dC x) = fb_sm (fun k => if dK x k then g k else 0) (dC x)
    rw [sm_updN]
    omega
theorem PV_conv {x : XD} {q : Nat → Bool} {s : PS} (h : PV x q s) {j : Nat} (hj : j < dC x) (hq : q j = true) : PV x (wo q j) (s.1, s.2.1, wi s.2.2 j) := by
  obtain ⟨h1, h2, h3, h4, h5⟩ := h
  have hw : ∀ k, wo q j k = true → q k = true ∧ k ≠ j := fun k e => by
    unfold wo at e
    rw [Bool.and_eq_true] at e
    exact ⟨e.1, fun z => by rw [z] at e; simp at e⟩
  refine ⟨fun k hk e => h1 k hk (hw k e).1, fun k hk e => ?_, h3, fun k hk e => ?_, fun g => ?_⟩
  · have e : (s.2.2 k || (k == j)) = true := e
    rw [Bool.or_eq_true, beq_iff_eq] at e
    rcases e with e | e
    · exact h2 k hk e
    · rw [e]; exact h1 j hj hq
  · show (s.2.2 k || (k == j)) = false
    rw [h4 k hk (hw k e).1, beq_eq_false_iff_ne.mpr (hw k e).2]; rfl
  · have := h5 g
    rw [sm_wo hj hq g] at this
    show fb_sm (fun e => g (s.1 e)) s.2.1 + fb_sm (fun k => if wo q j k then g k else 0) (dC x) + fb_sm (fun k => if wi s.2.2 j k then g k else 0) (dC x) = fb_sm (fun k => if dK x k then g k else 0) (dC x)
    rw [sm_wi hj (h4 j hj hq)]
    omega
theorem nxt_is {x : XD} {q : Nat → Bool} (h : nxt x q < dC x) : q (nxt x q) = true := (fre_y.mp (fa_first_yes (fre x q) (dC x) h)).1
theorem ct_ex {q : Nat → Bool} {c : Nat} (h : ¬ fb_ct q c = 0) : ∃ k, k < c ∧ q k = true := fb_ct_pos.mp (by omega)
theorem plS_V {x : XD} {pol : Nat} : ∀ (m : Nat) (q : Nat → Bool) (s : PS), fb_ct q (dC x) ≤ m → PV x q s → ∃ q', fb_ct q' (dC x) = 0 ∧ PV x q' (plS x pol m q s)
  | 0, q, s, hm, h => ⟨q, by omega, h⟩
  | m + 1, q, s, hm, h => by
    unfold plS
    by_cases e : fb_ct q (dC x) = 0
    · rw [if_pos e]; exact ⟨q, e, h⟩
    · rw [if_neg e]
      by_cases e2 : nxt x q < dC x
      · rw [if_pos e2]
        have := ct_minus e2 (nxt_is e2)
        exact plS_V m _ _ (by show fb_ct (wo q (nxt x q)) (dC x) ≤ m; unfold wo; omega) (PV_place h e2 (nxt_is e2))
      · rw [if_neg e2]
        have hv := (vict_is (pol := pol) (ct_ex e)).2
        have := ct_minus hv.1 hv.2
        exact plS_V m _ _ (by show fb_ct (wo q (vict x pol q)) (dC x) ≤ m; unfold wo; omega) (PV_conv h hv.1 hv.2)
theorem plan1_V {x : XD} (hc : dC x ≤ 30) (pol : Nat) : (∀ k, k < dC x → (plan1 x pol).2.2 k = true → dK x k = true) ∧ (∀ e, e < (plan1 x pol).2.1 → (plan1 x pol).1 e < dC x) ∧ ∀ g : Nat → Nat, fb_sm (fun e => g ((plan1 x pol).1 e)) (plan1 x pol).2.1 + fb_sm (fun k => if (plan1 x pol).2.2 k then g k else 0) (dC x) = fb_sm (fun k => if dK x k then g k else 0) (dC x) := by
  have hle := fb_ct_le (dK x) (dC x)
  have h0 : PV x (dK x) p0 := ⟨fun _ _ e => e, fun _ _ e => (by cases e), fun e he => absurd he (Nat.not_lt_zero e), fun _ _ _ => rfl, fun g => by
    have z : fb_sm (fun k => if p0.2.2 k then g k else 0) (dC x) = 0 := (fb_sm_cong (g := fun _ => 0) (fun k hk => rfl)).trans ((fb_sm_const 0 (dC x)).trans (Nat.mul_zero _))
    rw [z]
    show 0 + _ + 0 = _
    omega⟩
  obtain ⟨q', hq, h1, h2, h3, h4, h5⟩ := plS_V (pol := pol) 30 (dK x) p0 (by omega) h0
  refine ⟨h2, h3, fun g => ?_⟩
  have := h5 g
  have z : fb_sm (fun k => if q' k then g k else 0) (dC x) = 0 := (fb_sm_cong (g := fun _ => 0) (fun k hk => by rw [fb_ct_zero.mp hq k hk]; rfl)).trans ((fb_sm_const 0 (dC x)).trans (Nat.mul_zero _))
  rw [z] at this
  exact this
theorem plA_V {x : XD} {v : Nat → Bool} : ∀ (d i : Nat) (s : PS), i + d = dC x → (∀ e, e < s.2.1 → s.1 e < dC x) → ((plA x v i d s).2.2 = s.2.2 ∧ (∀ e, e < (plA x v i d s).2.1 → (plA x v i d s).1 e < dC x) ∧ ∀ g : Nat → Nat, fb_sm (fun e => g ((plA x v i d s).1 e)) (plA x v i d s).2.1 + fb_sm (fun k => if dK x k && !v k then 0 else g k) i = fb_sm (fun e => g (s.1 e)) s.2.1 + fb_sm (fun k => if dK x k && !v k then 0 else g k) (dC x))
  | 0, i, s, hi, h => ⟨rfl, h, fun g => by rw [show i = dC x by omega]; rfl⟩
  | d + 1, i, s, hi, h => by
    unfold plA
    cases e : (dK x i && !v i)
    · rw [if_neg (by decide)]
      obtain ⟨a1, a2, a3⟩ := plA_V (x := x) (v := v) d (i + 1) (updN s.1 s.2.1 i, s.2.1 + 1, s.2.2) (by omega) (fun e he => by
        have he : e < s.2.1 + 1 := he
        show updN s.1 s.2.1 i e < dC x
        unfold updN
        split
        · omega
        · exact h e (by omega))
      refine ⟨a1, a2, fun g => ?_⟩
      have := a3 g
      have this : fb_sm (fun e => g ((plA x v (i + 1) d (updN s.1 s.2.1 i, s.2.1 + 1, s.2.2)).1 e)) (plA x v (i + 1) d (updN s.1 s.2.1 i, s.2.1 + 1, s.2.2)).2.1 + fb_sm (fun k => if dK x k && !v k then 0 else g k) (i + 1) = fb_sm (fun e => g (updN s.1 s.2.1 i e)) (s.2.1 + 1) + fb_sm (fun k => if dK x k && !v k then 0 else g k) (dC x) := this
      rw [sm_updN, fb_sm_succ, e, if_neg (by decide)] at this
      omega
    · rw [if_pos rfl]
      obtain ⟨a1, a2, a3⟩ := plA_V (x := x) (v := v) d (i + 1) s (by omega) h
      refine ⟨a1, a2, fun g => ?_⟩
      have := a3 g
      rw [fb_sm_succ, e, if_pos rfl] at this
      omega
theorem planR_ok {x : XD} (hc : dC x ≤ 30) (pol : Nat) : (planR x pol).2.1 = dC x ∧ (planR x pol).2.2 = (plan1 x pol).2.2 ∧ (∀ e, e < dC x → (planR x pol).1 e < dC x) ∧ (∀ k, k < dC x → (planR x pol).2.2 k = true → dK x k = true) ∧ ∀ g : Nat → Nat, fb_sm (fun e => g ((planR x pol).1 e)) (dC x) = fb_sm g (dC x) := by
  obtain ⟨p1, p2, p3⟩ := plan1_V hc pol
  obtain ⟨a1, a2, a3⟩ := plA_V (x := x) (v := (plan1 x pol).2.2) (dC x) 0 (plan1 x pol) (Nat.zero_add _) p2
  have key : ∀ g : Nat → Nat, fb_sm (fun e => g ((planR x pol).1 e)) (planR x pol).2.1 = fb_sm g (dC x) := fun g => by
    have e1 := a3 g
    have e2 := p3 g
    have e3 : fb_sm (fun k => if dK x k then g k else 0) (dC x) + fb_sm (fun k => if dK x k && !(plan1 x pol).2.2 k then 0 else g k) (dC x) = fb_sm g (dC x) + fb_sm (fun k => if (plan1 x pol).2.2 k then g k else 0) (dC x) := by
      rw [← fb_sm_add, ← fb_sm_add]
      refine fb_sm_cong fun k hk => ?_
      cases hv : (plan1 x pol).2.2 k
      · cases dK x k <;> simp
      · rw [p1 k hk hv]; simp
    have e4 : fb_sm (fun k => if dK x k && !(plan1 x pol).2.2 k then 0 else g k) 0 = 0 := rfl
    show fb_sm (fun e => g ((plA x (plan1 x pol).2.2 0 (dC x) (plan1 x pol)).1 e)) (plA x (plan1 x pol).2.2 0 (dC x) (plan1 x pol)).2.1 = fb_sm g (dC x)
    omega
  have hn : (planR x pol).2.1 = dC x := by
    have := key (fun _ => 1)
    rw [fb_sm_const, fb_sm_const] at this
    omega
  refine ⟨hn, a1, fun e he => a2 e (by show e < (planR x pol).2.1; omega), fun k hk e => p1 k hk ?_, fun g => by have := key g; rw [hn] at this; exact this⟩
  rw [← a1]; exact e
