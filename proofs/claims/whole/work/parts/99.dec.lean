/-! decode: what a code says -/
def cm (y : XB) (i : Nat) : Nat := (y.1 i).toNatClampNeg
theorem cm_is {y : XB} (h : BI y) {i : Nat} (hi : i < y.2) : y.1 i = nI (cm y i) ∧ cm y i < 256 := by
  obtain ⟨m, hm, e⟩ := h i hi
  have : cm y i = m := by unfold cm; rw [e]; exact nI_clamp (by omega)
  rw [this]
  exact ⟨e, hm⟩
def num (y : XB) (lo hi p : Nat) : Nat ⊕ Nat := if y.2 ≤ p then .inl y.2 else if lo ≤ cm y p ∧ cm y p ≤ hi then .inr (cm y p) else .inl p
theorem num_r {y : XB} {lo hi p v : Nat} (h : num y lo hi p = .inr v) : p < y.2 ∧ v = cm y p ∧ lo ≤ v ∧ v ≤ hi := by
  unfold num at h
  split at h
  · cases h
  · rename_i h1
    split at h
    · rename_i h2
      cases h
      exact ⟨by omega, rfl, h2.1, h2.2⟩
    · cases h
theorem num_l {y : XB} {lo hi p f : Nat} (h : num y lo hi p = .inl f) : (y.2 ≤ p ∧ f = y.2) ∨ (p < y.2 ∧ f = p ∧ ¬ (lo ≤ cm y p ∧ cm y p ≤ hi)) := by
  unfold num at h
  split at h
  · rename_i h1
    cases h
    exact Or.inl ⟨h1, rfl⟩
  · rename_i h1
    split at h
    · cases h
    · rename_i h2
      cases h
      exact Or.inr ⟨by omega, rfl, h2⟩
def clB (D : XD) (g l : Nat) : Bool := decide (0 < fb_ct (fun k => decide (dG D k < g + l) && decide (g < dG D k + dL D k)) (dC D))
theorem clB_y {D : XD} {g l : Nat} : clB D g l = true ↔ ∃ k, k < dC D ∧ dG D k < g + l ∧ g < dG D k + dL D k := by
  unfold clB
  rw [decide_eq_true_iff, fb_ct_pos]
  constructor
  · rintro ⟨k, h1, h2⟩
    rw [Bool.and_eq_true, decide_eq_true_iff, decide_eq_true_iff] at h2
    exact ⟨k, h1, h2⟩
  · rintro ⟨k, h1, h2⟩
    refine ⟨k, h1, ?_⟩
    rw [Bool.and_eq_true, decide_eq_true_iff, decide_eq_true_iff]
    exact h2
/-- an ADD with the bytes that lie in the code from q on -/
def dQ (y : XB) (D : XD) (g l q : Nat) : XD := (dS D, dT D, dC D + 1, (fun i => if i = dC D then false else dK D i), updN (dR D) (dC D) 0, updN (dG D) (dC D) g, updN (dL D) (dC D) l, fb_put (dA D) (fun e => y.1 (q + e)) g l)
def tlP (y : XB) (p : Nat) (D : XD) (k : Bool) (r : Nat) : Nat ⊕ (Nat × XD) :=
  match num y 0 64 p with
  | .inl f => .inl f
  | .inr g => match num y 1 64 (p + 1) with
    | .inl f => .inl f
    | .inr l => if k = true ∧ dS D < r + l then .inl (p + 1) else if dT D < g + l then .inl (p + 1) else if clB D g l then .inl p else if k then .inr (p + 2, dP D true r g l) else if p + 2 + l ≤ y.2 then .inr (p + 2 + l, dQ y D g l (p + 2)) else .inl y.2
def lk (D : XD) : Nat := if fb_ct (dK D) (dC D) < 12 then 1 else 2
def cmP (y : XB) (p : Nat) (D : XD) : Nat ⊕ (Nat × XD) :=
  match num y (lk D) 2 p with
  | .inl f => .inl f
  | .inr k => if k = 1 then (match num y 0 64 (p + 1) with
    | .inl f => .inl f
    | .inr r => tlP y (p + 2) D true r) else tlP y (p + 1) D false 0
def csP (y : XB) : Nat → Nat → XD → Nat ⊕ (Nat × XD)
  | 0, p, D => .inr (p, D)
  | d + 1, p, D => match cmP y p D with
    | .inl f => .inl f
    | .inr z => csP y d z.1 z.2
def sC (y : XB) (p : Nat) : Nat := fb_sm (cm y) p
theorem sC_le {y : XB} (h : BI y) {p : Nat} (hp : p ≤ y.2) : sC y p ≤ p * 255 := fb_sm_bound (fun k hk => by have := (cm_is h (show k < y.2 by omega)).2; omega)
def ckP (y : XB) (z : Nat × XD) : Nat ⊕ XD :=
  match num y (sC y z.1 % 251) (sC y z.1 % 251) z.1 with
  | .inl f => .inl f
  | .inr _ => if z.1 + 1 = y.2 then .inr z.2 else .inl (z.1 + 1)
def D00 (S T : Nat) : XD := (S, T, 0, fun _ => false, fun _ => 0, fun _ => 0, fun _ => 0, fun _ => 0)
/-- what holds of a delta that is being read -/
def PJ (D : XD) : Prop := DJ D ∧ fb_ct (dK D) (dC D) ≤ 12 ∧ ∀ k, k < dC D → dK D k = false → ∀ i, i < dL D k → isB (dA D (dG D k + i))
theorem dQ_J {y : XB} (hI : BI y) {D : XD} (h : PJ D) (hc : dC D < 30) {g l q : Nat} (h1 : 1 ≤ l) (h2 : g + l ≤ dT D) (hq : q + l ≤ y.2) (hcl : clB D g l = false) : PJ (dQ y D g l q) := by
  obtain ⟨j1, j2, j3⟩ := h
  have hj : DJ (dP D false 0 g l) := dP_J j1 hc h1 h2 (fun z => by cases z)
  refine ⟨hj, ?_, fun k hk hK i hi => ?_⟩
  · show fb_ct (dK (dP D false 0 g l)) (dC D + 1) ≤ 12
    rw [dP_ct]; exact j2
  · have hk : k < dC D + 1 := hk
    show isB (fb_put (dA D) (fun e => y.1 (q + e)) g l (dG (dP D false 0 g l) k + i))
    have hK : dK (dP D false 0 g l) k = false := hK
    have hi : i < dL (dP D false 0 g l) k := hi
    by_cases e : k = dC D
    · subst e
      obtain ⟨g1, g2, g3, g4⟩ := dP_c (x := D) (k := false) (r := 0) (g := g) (l := l)
      rw [g4] at hi
      rw [g3, fb_put_in (by omega) (by omega)]
      exact hI _ (by omega)
    · obtain ⟨g1, g2, g3, g4⟩ := dP_K (x := D) (k := false) (r := 0) (g := g) (l := l) (show k < dC D by omega)
      rw [g1] at hK
      rw [g4] at hi
      have hno : ¬ (dG D k < g + l ∧ g < dG D k + dL D k) := fun z => by rw [clB_y.mpr ⟨k, by omega, z⟩] at hcl; cases hcl
      rw [g3, fb_put_out (by omega)]
      exact j3 k (by omega) hK i hi
theorem dP_PJ {D : XD} (h : PJ D) (hc : dC D < 30) (hct : fb_ct (dK D) (dC D) < 12) {r g l : Nat} (h1 : 1 ≤ l) (h2 : g + l ≤ dT D) (h3 : r + l ≤ dS D) : PJ (dP D true r g l) := by
  obtain ⟨j1, j2, j3⟩ := h
  refine ⟨dP_J j1 hc h1 h2 (fun _ => h3), ?_, fun k hk hK i hi => ?_⟩
  · show fb_ct (dK (dP D true r g l)) (dC D + 1) ≤ 12
    rw [dP_ct, if_pos rfl]; omega
  · have hk : k < dC D + 1 := hk
    by_cases e : k = dC D
    · subst e
      rw [(dP_c (x := D) (k := true) (r := r) (g := g) (l := l)).1] at hK; cases hK
    · obtain ⟨g1, g2, g3, g4⟩ := dP_K (x := D) (k := true) (r := r) (g := g) (l := l) (show k < dC D by omega)
      rw [g1] at hK
      rw [g4] at hi
      show isB (dA D (dG (dP D true r g l) k + i))
      rw [g3]
      exact j3 k (by omega) hK i hi
/-! the class reads it -/
/-- reading goes on at p; nothing was wrong so far -/
def LV (y : XB) (w : TDecoder) (p : Nat) (D : XD) : Prop := DE w.1 D ∧ AD (tA w.1) D ∧ tM w.1 = -1 ∧ w.2.1 = nI p ∧ w.2.2.1 = nI (sC y p) ∧ w.2.2.2 = -1 ∧ p ≤ y.2
section DC
variable {y : XB} {code : TBytes} {w : TDecoder} {p s lo hi : Nat}
theorem next_r (hb : B1 200 code y) (hI : BI y) (h1 : w.2.1 = nI p) (h2 : w.2.2.1 = nI s) (h3 : w.2.2.2 = -1) (hlo : lo < 1000) (hhi : hi < 1000) {v : Nat} (h : num y lo hi p = .inr v) : f_X1_next w 200 code (nI lo) (nI hi) = some (nI v, (w.1, nI (p + 1), nI (s + v), -1)) := by
  have hn := hb.2.1
  obtain ⟨a, b, c, d⟩ := num_r h
  have e := (cm_is hI a).1
  unfold f_X1_next
  rw [br_eq h3, h1, X0_hasI (by decide) hb (by omega), decide_eq_true a, Option.bind_some, zI_t, br_10, X0_at (by decide) hb a, Option.bind_some, e, ← b, br_lt_f c (by omega), br_le_t d (by omega), nI_1, h2, nI_add, h3]
theorem next_l (hb : B1 200 code y) (hI : BI y) (h1 : w.2.1 = nI p) (h3 : w.2.2.2 = -1) (hlo : lo < 1000) (hhi : hi < 1000) (hp : p ≤ y.2) {f : Nat} (h : num y lo hi p = .inl f) : ∃ w', f_X1_next w 200 code (nI lo) (nI hi) = some (nI lo, w') ∧ w'.1 = w.1 ∧ w'.2.2.2 = nI f := by
  have hn := hb.2.1
  unfold f_X1_next f_X1_next_J53
  rcases num_l h with ⟨a, b⟩ | ⟨a, b, c⟩
  · rw [br_eq h3, h1, X0_hasI (by decide) hb (by omega), decide_eq_false (by omega), Option.bind_some, zI_f, br_00, hb.1]
    exact ⟨_, rfl, rfl, by rw [b]⟩
  · obtain ⟨e, e2⟩ := cm_is hI a
    rw [br_eq h3, h1, X0_hasI (by decide) hb (by omega), decide_eq_true a, Option.bind_some, zI_t, br_10, X0_at (by decide) hb a, Option.bind_some, e]
    by_cases q : cm y p < lo
    · rw [br_lt_t q (by omega)]
      exact ⟨_, rfl, rfl, by rw [b]⟩
    · rw [br_lt_f (by omega) (by omega), br_le_f (by omega) (by omega)]
      exact ⟨_, rfl, rfl, by rw [b]⟩
theorem next_d {f : Nat} (hf : f < 2147483648) (h : w.2.2.2 = nI f) (a b : Int32) : f_X1_next w 200 code a b = some (a, w) := by
  unfold f_X1_next
  rw [h, br_m1 hf]
end DC
theorem writes2 {w : TDelta} {D : XD} (h : DE w D) (hJ : DJ D) {g l : Nat} (hg : g + l < 1000) : ∀ d i k : Nat, i + d = dC D → d < k → (∀ e, e < i → ¬ (dG D e < g + l ∧ g < dG D e + dL D e)) → f_X2_writesAnyOf_L2 w (nI g) (nI l) k (nI i) = some (zI (clB D g l)) := by
  have eC : w.2.2.2.2.2.2.2.2.1 = nI (dC D) := h.2.2.1
  have hc := hJ.1
  intro d
  induction d with
  | zero =>
    intro i k hi hk he
    obtain ⟨k, rfl⟩ : ∃ k', k = k' + 1 := ⟨k - 1, by omega⟩
    have : clB D g l = false := by
      cases e : clB D g l
      · rfl
      · obtain ⟨j, j1, j2⟩ := clB_y.mp e
        exact absurd j2 (he j (by omega))
    rw [f_X2_writesAnyOf_L2.eq_2, eC, br_le_t (by omega) (by omega), this]; rfl
  | succ d ih =>
    intro i k hi hk he
    obtain ⟨k, rfl⟩ : ∃ k', k = k' + 1 := ⟨k - 1, by omega⟩
    have fi := h.2.2.2.1 i (by omega)
    have bi := hJ.2.2.2 i (by omega)
    have b3 := hJ.2.2.1
    rw [f_X2_writesAnyOf_L2.eq_2, eC, br_le_f (by omega) (by omega), g_tgt h.2.2.1 hc (by omega), Option.bind_some, g_len h.2.2.1 hc (by omega), Option.bind_some, fi.2.2.1, fi.2.2.2]
    unfold f_X10_overlap
    rw [nI_add, nI_add]
    have no : ¬ (dG D i < g + l ∧ g < dG D i + dL D i) → f_X2_writesAnyOf_L2 w (nI g) (nI l) k (nI i + 1) = some (zI (clB D g l)) := fun z => by
      rw [nI_1]
      refine ih (i + 1) k (by omega) (by omega) (fun e he2 => ?_)
      by_cases q : e = i
      · rw [q]; exact z
      · exact he e (by omega)
    by_cases q1 : dG D i < g + l
    · rw [br_le_f (by omega) (by omega)]
      by_cases q2 : g < dG D i + dL D i
      · rw [br_le_f (by omega) (by omega), Option.bind_some, br_10, clB_y.mpr ⟨i, by omega, q1, q2⟩]; rfl
      · rw [br_le_t (by omega) (by omega), Option.bind_some, br_00]
        exact no (fun z => q2 z.2)
    · rw [br_le_t (by omega) (by omega), Option.bind_some, br_00]
      exact no (fun z => q1 z.1)
theorem X2_writesAny {w : TDelta} {D : XD} (h : DE w D) (hJ : DJ D) {g l : Nat} (hg : g + l < 1000) : f_X2_writesAnyOf w (nI g) (nI l) = some (zI (clB D g l)) := by
  have hc := hJ.1
  exact writes2 h hJ hg (dC D) 0 FUEL (Nat.zero_add _) (by show _ < 10000; omega) (fun e q => by omega)
theorem putAdded {w : TDelta} {j : Nat} (hj : j < 64) (v : Int32) : f_X2_putAdded w (nI j) v = some (w.1, w.2.1, w.2.2.1, w.2.2.2.1, w.2.2.2.2.1, upd (tA w) j v, w.2.2.2.2.2.2) := by
  unfold f_X2_putAdded
  rw [br_ne (nI_pos (by omega)), br_ne (show ¬ (64 : Int32) ≤ nI j from nI_ge (b := 64) (by omega) (by omega)), gd_in hj (by omega), nI_clamp (by omega)]
/-- the bytes of an ADD: behind a fault the loop runs on and changes no fault -/
theorem rc112d {code : TBytes} {g l f : Nat} (hg : g + l ≤ 64) (hf : f < 2147483648) : ∀ (d i k : Nat) (w : TDecoder), i + d = l → d < k → w.2.2.2 = nI f → ∃ w', f_X1_readCommand_L112 200 code k w (nI i) (nI l) (nI g) = some w' ∧ w'.2.2.2 = nI f := by
  intro d
  induction d with
  | zero =>
    intro i k w hi hk hw
    obtain ⟨k, rfl⟩ : ∃ k', k = k' + 1 := ⟨k - 1, by omega⟩
    refine ⟨w, ?_, hw⟩
    rw [f_X1_readCommand_L112.eq_2, br_le_t (by omega) (by omega)]
  | succ d ih =>
    intro i k w hi hk hw
    obtain ⟨k, rfl⟩ : ∃ k', k = k' + 1 := ⟨k - 1, by omega⟩
    rw [f_X1_readCommand_L112.eq_2, br_le_f (by omega) (by omega), next_d hf hw, Option.bind_some, nI_add, putAdded (by omega), Option.bind_some, nI_1]
    exact ih (i + 1) k _ (by omega) (by omega) hw
theorem rc112 {y : XB} {code : TBytes} (hb : B1 200 code y) (hI : BI y) {g l q : Nat} (hg : g + l ≤ 64) : ∀ (d i k : Nat) (w : TDecoder), i + d = l → d < k → w.2.1 = nI (q + i) → w.2.2.1 = nI (sC y (q + i)) → w.2.2.2 = -1 → q + i ≤ y.2 → (q + l ≤ y.2 → ∃ t, f_X1_readCommand_L112 200 code k w (nI i) (nI l) (nI g) = some ((w.1.1, w.1.2.1, w.1.2.2.1, w.1.2.2.2.1, w.1.2.2.2.2.1, t, w.1.2.2.2.2.2.2), nI (q + l), nI (sC y (q + l)), -1) ∧ (∀ j, (j < g + i ∨ g + l ≤ j) → t j = tA w.1 j) ∧ ∀ e, i ≤ e → e < l → t (g + e) = y.1 (q + e)) ∧ (y.2 < q + l → ∃ w', f_X1_readCommand_L112 200 code k w (nI i) (nI l) (nI g) = some w' ∧ w'.2.2.2 = nI y.2) := by
  have hn := hb.2.1
  intro d
  induction d with
  | zero =>
    intro i k w hi hk h1 h2 h3 hq
    obtain ⟨k, rfl⟩ : ∃ k', k = k' + 1 := ⟨k - 1, by omega⟩
    have hil : i = l := by omega
    subst hil
    refine ⟨fun _ => ⟨tA w.1, ?_, fun _ _ => rfl, fun e h1 h2 => by omega⟩, fun z => by omega⟩
    rw [f_X1_readCommand_L112.eq_2, br_le_t (by omega) (by omega), ← h1, ← h2, ← h3]
  | succ d ih =>
    intro i k w hi hk h1 h2 h3 hq
    obtain ⟨k, rfl⟩ : ∃ k', k = k' + 1 := ⟨k - 1, by omega⟩
    rw [f_X1_readCommand_L112.eq_2, br_le_f (by omega) (by omega)]
    by_cases e : q + i < y.2
    · obtain ⟨c1, c2⟩ := cm_is hI e
      have hnum : num y 0 255 (q + i) = .inr (cm y (q + i)) := by
        unfold num
        rw [if_neg (by omega), if_pos ⟨by omega, by omega⟩]
      have hs : sC y (q + (i + 1)) = sC y (q + i) + cm y (q + i) := rfl
      rw [show f_X1_next w 200 code (0 : Int32) (255 : Int32) = _ from next_r (lo := 0) (hi := 255) hb hI h1 h2 h3 (by omega) (by omega) hnum, Option.bind_some, nI_add, putAdded (by omega), Option.bind_some, nI_1]
      obtain ⟨a1, a2⟩ := ih (i + 1) k ((w.1.1, w.1.2.1, w.1.2.2.1, w.1.2.2.2.1, w.1.2.2.2.2.1, upd (tA w.1) (g + i) (nI (cm y (q + i))), w.1.2.2.2.2.2.2), nI (q + i + 1), nI (sC y (q + i) + cm y (q + i)), -1) (by omega) (by omega) rfl (by rw [hs]) rfl (by omega)
      refine ⟨fun z => ?_, fun z => a2 z⟩
      obtain ⟨t, e1, t1, t2⟩ := a1 z
      refine ⟨t, e1, fun j hj => ?_, fun j hj1 hj2 => ?_⟩
      · rw [t1 j (by omega)]; exact upd_ne _ _ (by omega)
      · by_cases z2 : j = i
        · rw [z2, t1 (g + i) (by omega), c1]; exact upd_at _ _ _
        · exact t2 j (by omega) hj2
    · refine ⟨fun z => by omega, fun _ => ?_⟩
      have hnum : num y 0 255 (q + i) = .inl y.2 := by
        unfold num
        rw [if_pos (by omega)]
      obtain ⟨w1, e1, -, f1⟩ := next_l (lo := 0) (hi := 255) hb hI h1 h3 (by omega) (by omega) hq hnum
      rw [show f_X1_next w 200 code (0 : Int32) (255 : Int32) = some (nI 0, w1) from e1, Option.bind_some, nI_add, putAdded (by omega), Option.bind_some, nI_1]
      exact rc112d hg (by omega) d (i + 1) k _ (by omega) (by omega) f1
/-- how the class stands behind a part of the code -/
def OC (y : XB) (z : Nat ⊕ (Nat × XD)) (w : TDecoder) : Prop := match z with
  | .inl f => f ≤ 300 ∧ w.2.2.2 = nI f
  | .inr q => LV y w q.1 q.2 ∧ PJ q.2
theorem rc82d {code : TBytes} {w : TDecoder} {f : Nat} (hf : f < 2147483648) (h : w.2.2.2 = nI f) (a b c d : Int32) : f_X1_readCommand_J82 200 code w a b c d = some w := by
  unfold f_X1_readCommand_J82
  rw [h, br_m1 hf]
theorem rc39d {code : TBytes} {w : TDecoder} {f : Nat} (hf : f < 2147483648) (h : w.2.2.2 = nI f) (a b : Int32) : f_X1_readCommand_J39 200 code w a b = some w := by
  unfold f_X1_readCommand_J39
  rw [next_d hf h, Option.bind_some, next_d hf h, Option.bind_some, h, br_m1 hf]
  exact rc82d hf h _ _ _ _
theorem tail1 {y : XB} {code : TBytes} (hb : B1 200 code y) (hI : BI y) {p : Nat} {D : XD} (hJ : PJ D) (hc : dC D < 30) {w : TDecoder} (hw : LV y w p D) {k : Bool} {r : Nat} (hr : r ≤ 64) (hr0 : k = false → r = 0) (hk : k = true → fb_ct (dK D) (dC D) < 12) : ∃ w', f_X1_readCommand_J39 200 code w (kI k) (sI k r) = some w' ∧ OC y (tlP y p D k r) w' := by
  have hn := hb.2.1
  obtain ⟨v1, v2, v3, v4, v5, v6, v7⟩ := hw
  obtain ⟨j1, j2, j3⟩ := hJ
  have b2 := j1.2.1
  have b3 := j1.2.2.1
  unfold f_X1_readCommand_J39 tlP
  cases h1 : num y 0 64 p with
  | inl f =>
    obtain ⟨w1, e1, -, f1⟩ := next_l (lo := 0) (hi := 64) hb hI v4 v6 (by omega) (by omega) v7 h1
    have hf : f ≤ 300 := by rcases num_l h1 with q | q <;> omega
    rw [show f_X1_next w 200 code (0 : Int32) (64 : Int32) = some (nI 0, w1) from e1, Option.bind_some, next_d (f := f) (by omega) f1, Option.bind_some, f1, br_m1 (by omega)]
    exact ⟨w1, rc82d (by omega) f1 _ _ _ _, hf, f1⟩
  | inr g =>
    obtain ⟨g1, g2, g3, g4⟩ := num_r h1
    rw [show f_X1_next w 200 code (0 : Int32) (64 : Int32) = _ from next_r (lo := 0) (hi := 64) hb hI v4 v5 v6 (by omega) (by omega) h1, Option.bind_some]
    dsimp only
    cases h2 : num y 1 64 (p + 1) with
    | inl f =>
      obtain ⟨w1, e1, -, f1⟩ := next_l (w := (w.1, nI (p + 1), nI (sC y p + g), -1)) (lo := 1) (hi := 64) hb hI rfl rfl (by omega) (by omega) (by omega) h2
      have hf : f ≤ 300 := by rcases num_l h2 with q | q <;> omega
      rw [show f_X1_next (w.1, nI (p + 1), nI (sC y p + g), -1) 200 code (1 : Int32) (64 : Int32) = some (nI 1, w1) from e1, Option.bind_some, f1, br_m1 (by omega)]
      exact ⟨w1, rc82d (by omega) f1 _ _ _ _, hf, f1⟩
    | inr l =>
      obtain ⟨l1, l2, l3, l4⟩ := num_r h2
      have hs : sC y p + g + l = sC y (p + 2) := by
        show _ = fb_sm (cm y) p + cm y p + cm y (p + 1)
        rw [g2, l2]; rfl
      rw [show f_X1_next (w.1, nI (p + 1), nI (sC y p + g), -1) 200 code (1 : Int32) (64 : Int32) = _ from next_r (w := (w.1, nI (p + 1), nI (sC y p + g), -1)) (lo := 1) (hi := 64) hb hI rfl rfl rfl (by omega) (by omega) h2, Option.bind_some, br_eq rfl]
      dsimp only
      rw [hs]
      have rf : f_X1_rangeFault (w.1, nI (p + 1 + 1), nI (sC y (p + 2)), -1) (kI k) (sI k r) (nI g) (nI l) = some (if k = true ∧ dS D < r + l then nI (p + 1) else if dT D < g + l then nI (p + 1) else if clB D g l then nI p else -1) := by
        have j30 : f_X1_rangeFault_J30 (w.1, nI (p + 1 + 1), nI (sC y (p + 2)), -1) (kI k) (sI k r) (nI g) (nI l) (nI (p + 1)) = some (if dT D < g + l then nI (p + 1) else if clB D g l then nI p else -1) := by
          unfold f_X1_rangeFault_J30
          rw [nI_add, show w.1.2.2.2.2.2.2.2.1 = nI (dT D) from v1.2.1]
          by_cases q : dT D < g + l
          · rw [br_le_f q (by omega), if_pos q]
          · rw [br_le_t (by omega) (by omega), if_neg q, X2_writesAny v1 j1 (by omega), Option.bind_some, br_z0]
            cases clB D g l
            · rfl
            · rw [if_pos rfl, if_pos rfl, show nI (p + 1) - 1 = nI p from nI_pred p]
        unfold f_X1_rangeFault
        rw [show nI (p + 1 + 1) - 1 = nI (p + 1) from nI_pred (p + 1), j30]
        cases k
        · rw [br_ne (show ¬ kI false = 1 by decide), if_neg (show ¬ (false = true ∧ dS D < r + l) from fun z => by cases z.1)]
        · rw [br_eq (show kI true = 1 from rfl), show sI true r = nI r from rfl, nI_add, show w.1.2.2.2.2.2.2.1 = nI (dS D) from v1.1]
          by_cases q : dS D < r + l
          · rw [br_le_f q (by omega), if_pos ⟨rfl, q⟩]
          · rw [br_le_t (by omega) (by omega), if_neg (show ¬ (true = true ∧ dS D < r + l) from fun z => q z.2)]
      rw [rf, Option.bind_some]
      by_cases q1 : k = true ∧ dS D < r + l
      · rw [if_pos q1, if_pos q1]
        exact ⟨_, rc82d (f := p + 1) (by omega) rfl _ _ _ _, by omega, rfl⟩
      · rw [if_neg q1, if_neg q1]
        by_cases q2 : dT D < g + l
        · rw [if_pos q2, if_pos q2]
          exact ⟨_, rc82d (f := p + 1) (by omega) rfl _ _ _ _, by omega, rfl⟩
        · rw [if_neg q2, if_neg q2]
          cases q3 : clB D g l
          · rw [if_neg (by decide), if_neg (by decide)]
            unfold f_X1_readCommand_J82
            rw [br_eq rfl]
            dsimp only
            obtain ⟨w1, e1, d1, t1, m1⟩ := X2_push v1 j1 hc k (r := r) (g := g) (l := l) (fun z => by have := Nat.not_lt.mp (fun z2 => q1 ⟨z, z2⟩); omega) (by omega)
            rw [e1, Option.bind_some]
            cases k
            · have h00 := hr0 rfl
              subst h00
              rw [br_eq (show kI false = 2 from rfl), if_neg (by decide)]
              obtain ⟨a1, a2⟩ := rc112 hb hI (g := g) (l := l) (q := p + 2) (by omega) l 0 FUEL (w1, nI (p + 1 + 1), nI (sC y (p + 2)), -1) (Nat.zero_add _) (by show _ < 10000; omega) rfl rfl rfl (by omega)
              by_cases q4 : p + 2 + l ≤ y.2
              · rw [if_pos q4]
                obtain ⟨t, e2, u1, u2⟩ := a1 q4
                refine ⟨_, e2, ⟨⟨d1.1, d1.2.1, d1.2.2.1, d1.2.2.2.1, d1.2.2.2.2.1, d1.2.2.2.2.2⟩, fun i hi hK j hj => ?_, m1.trans v3, rfl, rfl, rfl, q4⟩, dQ_J hI ⟨j1, j2, j3⟩ hc l3 (by omega) q4 q3⟩
                show t (dG (dP D false 0 g l) i + j) = fb_put (dA D) (fun e => y.1 (p + 2 + e)) g l (dG (dP D false 0 g l) i + j)
                have hi : i < dC D + 1 := hi
                have hK : dK (dP D false 0 g l) i = false := hK
                have hj : j < dL (dP D false 0 g l) i := hj
                by_cases z : i = dC D
                · subst z
                  obtain ⟨g1', g2', g3', g4'⟩ := dP_c (x := D) (k := false) (r := 0) (g := g) (l := l)
                  rw [g4'] at hj
                  rw [g3', fb_put_in (by omega) (by omega), u2 j (by omega) hj, show g + j - g = j by omega]
                · obtain ⟨g1', g2', g3', g4'⟩ := dP_K (x := D) (k := false) (r := 0) (g := g) (l := l) (show i < dC D by omega)
                  rw [g1'] at hK
                  rw [g4'] at hj
                  have hno : ¬ (dG D i < g + l ∧ g < dG D i + dL D i) := fun z => by rw [clB_y.mpr ⟨i, by omega, z⟩] at q3; cases q3
                  rw [g3', u1 _ (by omega), fb_put_out (by omega), show tA (w1, nI (p + 1 + 1), nI (sC y (p + 2)), (-1 : Int32)).1 = tA w1 from rfl, t1]
                  exact v2 i (by omega) hK j hj
              · rw [if_neg q4]
                obtain ⟨w2, e2, u1⟩ := a2 (by omega)
                exact ⟨w2, e2, by omega, u1⟩
            · rw [br_ne (show ¬ kI true = 2 by decide), if_pos rfl]
              have hrl : r + l ≤ dS D := Nat.not_lt.mp (fun z2 => q1 ⟨rfl, z2⟩)
              exact ⟨_, rfl, ⟨d1, by rw [show tA (w1, nI (p + 1 + 1), nI (sC y (p + 2)), (-1 : Int32)).1 = tA w1 from rfl, t1]; exact AD_copy v2, m1.trans v3, rfl, rfl, rfl, by show p + 2 ≤ y.2; omega⟩, dP_PJ ⟨j1, j2, j3⟩ hc (hk rfl) l3 (by omega) hrl⟩
          · rw [if_pos rfl, if_pos rfl]
            exact ⟨_, rc82d (f := p) (by omega) rfl _ _ _ _, by omega, rfl⟩
theorem cmd1 {y : XB} {code : TBytes} (hb : B1 200 code y) (hI : BI y) {p : Nat} {D : XD} (hJ : PJ D) (hc : dC D < 30) {w : TDecoder} (hw : LV y w p D) : ∃ w', f_X1_readCommand w 200 code = some w' ∧ OC y (cmP y p D) w' := by
  have hn := hb.2.1
  obtain ⟨v1, v2, v3, v4, v5, v6, v7⟩ := id hw
  obtain ⟨j1, j2, j3⟩ := id hJ
  have hmay : f_X1_readCommand w 200 code = f_X1_readCommand_J17 200 code w (nI (lk D)) := by
    unfold f_X1_readCommand f_X2_mayCopy lk
    rw [show w.1.2.2.2.2.2.2.2.2.2.1 = bm (dK D) (dC D) from v1.2.2.2.2.2, bitC_bm j1.1, Option.bind_some]
    by_cases q : fb_ct (dK D) (dC D) < 12
    · rw [br_ne (show ¬ (12 : Int32) ≤ nI (fb_ct (dK D) (dC D)) from nI_ge (b := 12) q (by omega)), Option.bind_some, br_10, if_pos q]; rfl
    · rw [br_eq (show (12 : Int32) ≤ nI (fb_ct (dK D) (dC D)) from nI_le (a := 12) (by omega) (by omega)), Option.bind_some, br_00, if_neg q]; rfl
  have hlk : lk D = 1 ∨ lk D = 2 := by unfold lk; split <;> omega
  have hlk2 : lk D = 1 → fb_ct (dK D) (dC D) < 12 := by
    unfold lk
    split
    · intro _; assumption
    · intro z; omega
  rw [hmay]
  unfold f_X1_readCommand_J17 cmP
  cases h1 : num y (lk D) 2 p with
  | inl f =>
    obtain ⟨w1, e1, -, f1⟩ := next_l (hi := 2) hb hI v4 v6 (by omega) (by omega) v7 h1
    have hf : f ≤ 300 := by rcases num_l h1 with q | q <;> omega
    rw [show f_X1_next w 200 code (nI (lk D)) (2 : Int32) = some (nI (lk D), w1) from e1, Option.bind_some]
    by_cases q : nI (lk D) = 1
    · rw [br_eq q, next_d (f := f) (by omega) f1, Option.bind_some]
      exact ⟨w1, rc39d (by omega) f1 _ _, hf, f1⟩
    · rw [br_ne q]
      exact ⟨w1, rc39d (by omega) f1 _ _, hf, f1⟩
  | inr k =>
    obtain ⟨k1, k2, k3, k4⟩ := num_r h1
    have hs1 : sC y p + k = sC y (p + 1) := by
      show _ = fb_sm (cm y) p + cm y p
      rw [k2]; rfl
    rw [show f_X1_next w 200 code (nI (lk D)) (2 : Int32) = _ from next_r (hi := 2) hb hI v4 v5 v6 (by omega) (by omega) h1, Option.bind_some, hs1]
    dsimp only
    by_cases q : k = 1
    · rw [if_pos q, br_eq (show nI k = 1 by rw [q]; rfl)]
      have hct := hlk2 (by omega)
      cases h2 : num y 0 64 (p + 1) with
      | inl f =>
        obtain ⟨w1, e1, -, f1⟩ := next_l (w := (w.1, nI (p + 1), nI (sC y (p + 1)), -1)) (lo := 0) (hi := 64) hb hI rfl rfl (by omega) (by omega) (by omega) h2
        have hf : f ≤ 300 := by rcases num_l h2 with q | q <;> omega
        rw [show f_X1_next (w.1, nI (p + 1), nI (sC y (p + 1)), -1) 200 code (0 : Int32) (64 : Int32) = some (nI 0, w1) from e1, Option.bind_some]
        exact ⟨w1, rc39d (by omega) f1 _ _, hf, f1⟩
      | inr r =>
        obtain ⟨r1, r2, r3, r4⟩ := num_r h2
        have hs2 : sC y (p + 1) + r = sC y (p + 2) := by
          show _ = fb_sm (cm y) (p + 1) + cm y (p + 1)
          rw [r2]; rfl
        rw [show f_X1_next (w.1, nI (p + 1), nI (sC y (p + 1)), -1) 200 code (0 : Int32) (64 : Int32) = _ from next_r (w := (w.1, nI (p + 1), nI (sC y (p + 1)), -1)) (lo := 0) (hi := 64) hb hI rfl rfl rfl (by omega) (by omega) h2, Option.bind_some, hs2, q]
        exact tail1 hb hI hJ hc (w := (w.1, nI (p + 1 + 1), nI (sC y (p + 2)), -1)) ⟨v1, v2, v3, rfl, rfl, rfl, by omega⟩ (k := true) r4 (fun z => by cases z) (fun _ => hct)
    · rw [if_neg q, br_ne (show ¬ nI k = 1 from fun z => q ((nI_eq (b := 1) (by omega) (by omega)).mp z)), show k = 2 by omega]
      exact tail1 hb hI hJ hc (w := (w.1, nI (p + 1), nI (sC y (p + 1)), -1)) ⟨v1, v2, v3, rfl, rfl, rfl, by omega⟩ (k := false) (r := 0) (by omega) (fun _ => rfl) (fun z => by cases z)
/-- what the class's read answers, and how it stands then -/
def OR (z : Nat ⊕ XD) (r : Int32 × TDecoder) : Prop := match z with
  | .inl f => f ≤ 300 ∧ r.1 = nI f
  | .inr D => r.1 = -1 ∧ D1 r.2.1 D ∧ PJ D
theorem read91d {code : TBytes} {w : TDecoder} {f : Nat} (hf : f ≤ 300) (h : w.2.2.2 = nI f) : f_X1_read_J91 200 code w = some (nI f, w) := by
  unfold f_X1_read_J91
  rw [nm_eq, next_d (f := f) (by omega) h, Option.bind_some, h, br_m1 (by omega)]
theorem read91 {y : XB} {code : TBytes} (hb : B1 200 code y) (hI : BI y) {p : Nat} {D : XD} (hJ : PJ D) {w : TDecoder} (hw : LV y w p D) : ∃ r, f_X1_read_J91 200 code w = some r ∧ OR (ckP y (p, D)) r := by
  have hn := hb.2.1
  obtain ⟨v1, v2, v3, v4, v5, v6, v7⟩ := id hw
  have hs := sC_le hI v7
  have e251 : (nI (sC y p) - nI (sC y p) / (251 : Int32) * (251 : Int32)) = nI (sC y p % 251) := pk_rem (d := 251) (by omega) (by omega) (by omega)
  have h251 := Nat.mod_lt (sC y p) (show 0 < 251 by omega)
  unfold f_X1_read_J91 ckP
  rw [nm_eq, v5, e251]
  dsimp only
  cases h1 : num y (sC y p % 251) (sC y p % 251) p with
  | inl f =>
    obtain ⟨w1, e1, -, f1⟩ := next_l hb hI v4 v6 (by omega) (by omega) v7 h1
    have hf : f ≤ 300 := by rcases num_l h1 with q | q <;> omega
    rw [e1, Option.bind_some]
    dsimp only
    rw [f1, br_m1 (by omega)]
    exact ⟨_, rfl, hf, rfl⟩
  | inr v =>
    obtain ⟨k1, k2, k3, k4⟩ := num_r h1
    rw [next_r hb hI v4 v5 v6 (by omega) (by omega) h1, Option.bind_some]
    dsimp only
    rw [br_eq rfl, X0_hasI (by decide) hb (by omega), Option.bind_some, br_z0]
    by_cases q : p + 1 = y.2
    · rw [decide_eq_false (by omega), if_neg (by decide), if_pos q]
      exact ⟨_, rfl, rfl, ⟨v1.1, v1.2.1, v1.2.2.1, v1.2.2.2.1, v1.2.2.2.2.1, v1.2.2.2.2.2, v2, Or.inl v3⟩, hJ⟩
    · rw [decide_eq_true (by omega), if_pos rfl, if_neg q]
      exact ⟨_, rfl, by omega, rfl⟩
theorem cmP_C {y : XB} {p : Nat} {D : XD} {z : Nat × XD} (h : cmP y p D = .inr z) : dC z.2 = dC D + 1 := by
  have tl : ∀ (p : Nat) (k : Bool) (r : Nat), tlP y p D k r = .inr z → dC z.2 = dC D + 1 := by
    intro p k r ht
    unfold tlP at ht
    cases h1 : num y 0 64 p with
    | inl f => rw [h1] at ht; cases ht
    | inr g =>
      rw [h1] at ht
      dsimp only at ht
      cases h2 : num y 1 64 (p + 1) with
      | inl f => rw [h2] at ht; cases ht
      | inr l =>
        rw [h2] at ht
        dsimp only at ht
        split at ht
        · cases ht
        · split at ht
          · cases ht
          · split at ht
            · cases ht
            · split at ht
              · cases ht; rfl
              · split at ht
                · cases ht; rfl
                · cases ht
  unfold cmP at h
  cases h1 : num y (lk D) 2 p with
  | inl f => rw [h1] at h; cases h
  | inr k =>
    rw [h1] at h
    dsimp only at h
    split at h
    · cases h2 : num y 0 64 (p + 1) with
      | inl f => rw [h2] at h; cases h
      | inr r => rw [h2] at h; exact tl _ _ _ h
    · exact tl _ _ _ h
def csR (y : XB) (d p : Nat) (D : XD) : Nat ⊕ XD := match csP y d p D with
  | .inl f => .inl f
  | .inr z => ckP y z
theorem read65 {y : XB} {code : TBytes} (hb : B1 200 code y) (hI : BI y) {c : Nat} (hc : c ≤ 30) : ∀ (d i k p : Nat) (D : XD) (w : TDecoder), i + d = c → d < k → dC D = i → PJ D → LV y w p D → ∃ r, f_X1_read_L65 200 code k w (nI i) (nI c) = some r ∧ OR (csR y d p D) r := by
  intro d
  induction d with
  | zero =>
    intro i k p D w hi hk hD hJ hw
    obtain ⟨k, rfl⟩ : ∃ k', k = k' + 1 := ⟨k - 1, by omega⟩
    rw [f_X1_read_L65.eq_2, br_le_t (by omega) (by omega)]
    exact read91 hb hI hJ hw
  | succ d ih =>
    intro i k p D w hi hk hD hJ hw
    obtain ⟨k, rfl⟩ : ∃ k', k = k' + 1 := ⟨k - 1, by omega⟩
    obtain ⟨w1, e1, o1⟩ := cmd1 hb hI hJ (by omega) hw
    rw [f_X1_read_L65.eq_2, br_le_f (by omega) (by omega), br_eq hw.2.2.2.2.2.1, e1, Option.bind_some, nI_1]
    unfold csR csP
    cases h1 : cmP y p D with
    | inl f =>
      rw [h1] at o1
      obtain ⟨hf, f1⟩ := o1
      obtain ⟨k, rfl⟩ : ∃ k', k = k' + 1 := ⟨k - 1, by omega⟩
      rw [f_X1_read_L65.eq_2, f1, br_m1 (by omega)]
      refine ⟨(nI f, w1), ?_, hf, rfl⟩
      by_cases q : c ≤ i + 1
      · rw [br_le_t q (by omega)]; exact read91d hf f1
      · rw [br_le_f (by omega) (by omega)]; exact read91d hf f1
    | inr z =>
      rw [h1] at o1
      obtain ⟨o1, o2⟩ := o1
      exact ih (i + 1) k z.1 z.2 w1 (by omega) (by omega) (by rw [cmP_C h1]; omega) o2 o1
def prs (y : XB) : Nat ⊕ XD := match num y 73 73 0 with
  | .inl f => .inl f
  | .inr _ => match num y 0 64 1 with
    | .inl f => .inl f
    | .inr S => match num y 0 64 2 with
      | .inl f => .inl f
      | .inr T => match num y 0 30 3 with
        | .inl f => .inl f
        | .inr c => csR y c 4 (D00 S T)
theorem read65d {code : TBytes} {w : TDecoder} {f : Nat} (hf : f ≤ 300) (h : w.2.2.2 = nI f) (c : Int32) : f_X1_read_L65 200 code FUEL w (0 : Int32) c = some (nI f, w) := by
  rw [show FUEL = 9999 + 1 from rfl, f_X1_read_L65.eq_2, h, br_m1 (by omega), read91d hf h]
  by_cases q : c ≤ (0 : Int32)
  · rw [br_eq q]
  · rw [br_ne q]
theorem read_dead {code : TBytes} {w : TDecoder} {f : Nat} (hf : f ≤ 300) (h : w.2.2.2 = nI f) (c : Int32) : ∃ r, f_X1_read_L65 200 code FUEL w (0 : Int32) c = some r ∧ OR (.inl f) r := ⟨_, read65d hf h c, hf, rfl⟩
theorem X1_read {y : XB} {code : TBytes} (hb : B1 200 code y) (hI : BI y) (dec : TDecoder) : ∃ r, f_X1_read dec 200 code = some r ∧ OR (prs y) r := by
  have hn := hb.2.1
  unfold f_X1_read prs
  cases h1 : num y 73 73 0 with
  | inl f =>
    obtain ⟨w1, e1, -, f1⟩ := next_l (w := (dec.1, (0 : Int32), (0 : Int32), (-1 : Int32))) (p := 0) (lo := 73) (hi := 73) hb hI rfl rfl (by omega) (by omega) (by omega) h1
    have hf : f ≤ 300 := by rcases num_l h1 with q | q <;> omega
    rw [show f_X1_next (dec.1, (0 : Int32), (0 : Int32), (-1 : Int32)) 200 code (73 : Int32) (73 : Int32) = some (nI 73, w1) from e1, Option.bind_some, next_d (f := f) (by omega) f1, Option.bind_some, next_d (f := f) (by omega) f1, Option.bind_some, next_d (f := f) (by omega) f1, Option.bind_some]
    unfold f_X2_reset
    rw [Option.bind_some]
    dsimp only
    exact read_dead hf (by exact f1) _
  | inr v =>
    obtain ⟨a1, a2, a3, a4⟩ := num_r h1
    have s1 : 0 + v = sC y 1 := by
      show _ = 0 + cm y 0
      rw [a2]
    rw [show f_X1_next (dec.1, (0 : Int32), (0 : Int32), (-1 : Int32)) 200 code (73 : Int32) (73 : Int32) = _ from next_r (w := (dec.1, (0 : Int32), (0 : Int32), (-1 : Int32))) (p := 0) (s := 0) (lo := 73) (hi := 73) hb hI rfl rfl rfl (by omega) (by omega) h1, Option.bind_some, s1]
    dsimp only
    cases h2 : num y 0 64 1 with
    | inl f =>
      obtain ⟨w1, e1, -, f1⟩ := next_l (w := (dec.1, nI (0 + 1), nI (sC y 1), -1)) (p := 1) (lo := 0) (hi := 64) hb hI rfl rfl (by omega) (by omega) (by omega) h2
      have hf : f ≤ 300 := by rcases num_l h2 with q | q <;> omega
      rw [show f_X1_next (dec.1, nI (0 + 1), nI (sC y 1), -1) 200 code (0 : Int32) (64 : Int32) = some (nI 0, w1) from e1, Option.bind_some, next_d (f := f) (by omega) f1, Option.bind_some, next_d (f := f) (by omega) f1, Option.bind_some]
      unfold f_X2_reset
      rw [Option.bind_some]
      dsimp only
      exact read_dead hf (by exact f1) _
    | inr S =>
      obtain ⟨b1, b2, b3, b4⟩ := num_r h2
      have s2 : sC y 1 + S = sC y 2 := by
        show _ = sC y 1 + cm y 1
        rw [b2]
      rw [show f_X1_next (dec.1, nI (0 + 1), nI (sC y 1), -1) 200 code (0 : Int32) (64 : Int32) = _ from next_r (w := (dec.1, nI (0 + 1), nI (sC y 1), -1)) (p := 1) (lo := 0) (hi := 64) hb hI rfl rfl rfl (by omega) (by omega) h2, Option.bind_some, s2]
      dsimp only
      cases h3 : num y 0 64 2 with
      | inl f =>
        obtain ⟨w1, e1, -, f1⟩ := next_l (w := (dec.1, nI (1 + 1), nI (sC y 2), -1)) (p := 2) (lo := 0) (hi := 64) hb hI rfl rfl (by omega) (by omega) (by omega) h3
        have hf : f ≤ 300 := by rcases num_l h3 with q | q <;> omega
        rw [show f_X1_next (dec.1, nI (1 + 1), nI (sC y 2), -1) 200 code (0 : Int32) (64 : Int32) = some (nI 0, w1) from e1, Option.bind_some, next_d (f := f) (by omega) f1, Option.bind_some]
        unfold f_X2_reset
        rw [Option.bind_some]
        dsimp only
        exact read_dead hf (by exact f1) _
      | inr T =>
        obtain ⟨c1, c2, c3, c4⟩ := num_r h3
        have s3 : sC y 2 + T = sC y 3 := by
          show _ = sC y 2 + cm y 2
          rw [c2]
        rw [show f_X1_next (dec.1, nI (1 + 1), nI (sC y 2), -1) 200 code (0 : Int32) (64 : Int32) = _ from next_r (w := (dec.1, nI (1 + 1), nI (sC y 2), -1)) (p := 2) (lo := 0) (hi := 64) hb hI rfl rfl rfl (by omega) (by omega) h3, Option.bind_some, s3]
        dsimp only
        cases h4 : num y 0 30 3 with
        | inl f =>
          obtain ⟨w1, e1, -, f1⟩ := next_l (w := (dec.1, nI (2 + 1), nI (sC y 3), -1)) (p := 3) (lo := 0) (hi := 30) hb hI rfl rfl (by omega) (by omega) (by omega) h4
          have hf : f ≤ 300 := by rcases num_l h4 with q | q <;> omega
          rw [show f_X1_next (dec.1, nI (2 + 1), nI (sC y 3), -1) 200 code (0 : Int32) (30 : Int32) = some (nI 0, w1) from e1, Option.bind_some]
          unfold f_X2_reset
          rw [Option.bind_some]
          dsimp only
          exact read_dead hf (by exact f1) _
        | inr c =>
          obtain ⟨d1, d2, d3, d4⟩ := num_r h4
          have s4 : sC y 3 + c = sC y 4 := by
            show _ = sC y 3 + cm y 3
            rw [d2]
          rw [show f_X1_next (dec.1, nI (2 + 1), nI (sC y 3), -1) 200 code (0 : Int32) (30 : Int32) = _ from next_r (w := (dec.1, nI (2 + 1), nI (sC y 3), -1)) (p := 3) (lo := 0) (hi := 30) hb hI rfl rfl rfl (by omega) (by omega) h4, Option.bind_some, s4]
          unfold f_X2_reset
          rw [Option.bind_some]
          refine read65 hb hI d4 c 0 FUEL 4 (D00 S T) _ (Nat.zero_add _) (by show _ < 10000; omega) rfl ⟨⟨by show 0 ≤ 30; omega, b4, c4, fun k hk => absurd hk (Nat.not_lt_zero k)⟩, by show 0 ≤ 12; omega, fun k hk => absurd hk (Nat.not_lt_zero k)⟩ ⟨⟨rfl, rfl, rfl, fun k hk => absurd hk (Nat.not_lt_zero k), fun k hk => absurd hk (Nat.not_lt_zero k), rfl⟩, fun k hk => absurd hk (Nat.not_lt_zero k), rfl, rfl, rfl, rfl, by omega⟩
