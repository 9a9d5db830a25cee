/-! the class's plan -/
theorem X7_place {w : TPlan} {n j : Nat} (hn : n < 30) (h : w.2.2.1 = nI n) : f_X7_place w (nI j) = some (upd w.1 n (nI j), w.2.1, nI (n + 1), w.2.2.2.1, w.2.2.2.2) := by
  unfold f_X7_place
  rw [h, br_ne (show ¬ (30 : Int32) ≤ nI n from nI_ge (b := 30) (by omega) (by omega)), gd_in hn (by omega), nI_clamp (by omega), nI_1]
/-- a plan under way, in the class -/
def Q1 (w : TPlan) (x : XD) (s : PS) : Prop := w.2.1 = 1 ∧ w.2.2.1 = nI s.2.1 ∧ (∀ e, e < s.2.1 → w.1 e = nI (s.1 e)) ∧ w.2.2.2.1 = bm s.2.2 (dC x) ∧ w.2.2.2.2 = nI (lossOf x s.2.2)
theorem Q1_place {w : TPlan} {x : XD} {s : PS} (h : Q1 w x s) {j : Nat} (hn : s.2.1 < 30) : ∃ r, f_X7_place w (nI j) = some r ∧ Q1 r x (updN s.1 s.2.1 j, s.2.1 + 1, s.2.2) := by
  obtain ⟨h1, h2, h3, h4, h5⟩ := h
  refine ⟨_, X7_place hn h2, h1, rfl, fun e he => ?_, h4, h5⟩
  have he : e < s.2.1 + 1 := he
  show upd w.1 s.2.1 (nI j) e = nI (updN s.1 s.2.1 j e)
  unfold updN upd
  split
  · rfl
  · exact h3 e (by omega)
theorem PV_n {x : XD} {q : Nat → Bool} {s : PS} (hc : dC x ≤ 30) (h : PV x q s) (hq : ¬ fb_ct q (dC x) = 0) : s.2.1 < 30 := by
  obtain ⟨-, -, -, -, h5⟩ := h
  have := h5 (fun _ => 1)
  rw [fb_sm_const, Nat.mul_one] at this
  have e : fb_sm (fun k => if dK x k then 1 else 0) (dC x) ≤ dC x * 1 := fb_sm_bound (fun k hk => by split <;> omega)
  obtain ⟨k, hk, hqk⟩ := ct_ex hq
  have e2 := fb_sm_part (fun k => if q k then 1 else 0) hk
  rw [hqk, if_pos rfl] at e2
  have e3 : 0 ≤ fb_sm (fun k => if q k then 1 else 0) k := Nat.zero_le _
  have e4 : fb_sm (fun k => if q k = true then 1 else 0) k + 1 ≤ fb_sm (fun k => if q k = true then 1 else 0) (dC x) := e2
  omega
theorem place8 {w1 : TDelta} {x : XD} (h : D1 w1 x) (hI : DI x) {pol : Nat} (hp : pol < 3) : ∀ (d i k : Nat) (q : Nat → Bool) (s : PS) (w : TPlan), i + d = 30 → d < k → fb_ct q (dC x) ≤ d → PV x q s → Q1 w x s → ∃ r, f_X7_placeCopies_L8 w1 (nI pol) k w (nI i) (bm q (dC x)) = some r ∧ Q1 r x (plS x pol d q s) := by
  have hc := hI.1
  intro d
  induction d with
  | zero =>
    intro i k q s w hi hk hct hv hq
    obtain ⟨k, rfl⟩ : ∃ k', k = k' + 1 := ⟨k - 1, by omega⟩
    refine ⟨w, ?_, hq⟩
    rw [f_X7_placeCopies_L8.eq_2, br_eq (show (30 : Int32) ≤ nI i from nI_le (a := 30) (by omega) (by omega))]
  | succ d ih =>
    intro i k q s w hi hk hct hv hq
    obtain ⟨k, rfl⟩ : ∃ k', k = k' + 1 := ⟨k - 1, by omega⟩
    rw [f_X7_placeCopies_L8.eq_2, br_ne (show ¬ (30 : Int32) ≤ nI i from nI_ge (b := 30) (by omega) (by omega))]
    unfold plS
    by_cases e : fb_ct q (dC x) = 0
    · rw [br_eq ((bm_0 (by omega)).mpr (fb_ct_zero.mp e)), if_pos e]
      exact ⟨w, rfl, hq⟩
    · rw [br_ne (fun z => e (fb_ct_zero.mpr ((bm_0 (by omega)).mp z))), if_neg e, X2_firstFree h hc, Option.bind_some]
      have hn := PV_n hc hv e
      unfold f_X7_placeCopies_J77 f_X10_without
      by_cases e2 : nxt x q < dC x
      · have ej : ffI (fre x q) (dC x) = nI (nxt x q) := if_pos e2
        rw [ej, br_m1 (by omega), if_pos e2]
        obtain ⟨r, er, hr⟩ := Q1_place hq (j := nxt x q) hn
        have hct2 := ct_minus e2 (nxt_is e2)
        obtain ⟨r2, er2, hr2⟩ := ih (i + 1) k (wo q (nxt x q)) _ r (by omega) (by omega) (by unfold wo; omega) (PV_place hv e2 (nxt_is e2)) hr
        refine ⟨r2, ?_, hr2⟩
        rw [er, Option.bind_some, Option.bind_some, bm_wo (by omega) (by omega), nI_1]
        exact er2
      · have ej : ffI (fre x q) (dC x) = -1 := if_neg e2
        have hx := ct_ex e
        obtain ⟨-, v1, v2⟩ := vict_is (pol := pol) hx
        rw [ej, br_eq rfl, if_neg e2, X7_choose h hI hp hx, Option.bind_some, X2_len h hc v1, Option.bind_some, Option.bind_some, bm_wo (by omega) (by omega), nI_1]
        have hct2 := ct_minus v1 v2
        refine ih (i + 1) k (wo q (vict x pol q)) (s.1, s.2.1, wi s.2.2 (vict x pol q)) _ (by omega) (by omega) (by unfold wo; omega) (PV_conv hv v1 v2) ?_
        obtain ⟨h1, h2, h3, h4, h5⟩ := hq
        refine ⟨h1, h2, h3, ?_, ?_⟩
        · show w.2.2.2.1 ||| _ = _
          rw [h4, bm_or (by omega) v1]; rfl
        · show w.2.2.2.2 + _ = _
          rw [h5, nI_add]
          congr 1
          exact (sm_wi v1 (hv.2.2.2.1 _ v1 v2) (dL x)).symm
theorem build28 {w1 : TDelta} {x : XD} (h : D1 w1 x) (hI : DI x) {v : Nat → Bool} (p2 : Int32) : ∀ (d i k : Nat) (s : PS) (w : TPlan), i + d = dC x → d < k → s.2.1 + d ≤ 30 ∨ (plA x v i d s).2.1 ≤ 30 → s.2.2 = v → Q1 w x s → ∃ r, f_X7_build_L28 w1 p2 k w (nI i) = some r ∧ Q1 r x (plA x v i d s) := by
  have hc := hI.1
  have eC : w1.2.2.2.2.2.2.2.2.1 = nI (dC x) := h.2.2.1
  have grow : ∀ (d i : Nat) (s : PS), s.2.1 ≤ (plA x v i d s).2.1 := by
    intro d
    induction d with
    | zero => intro i s; exact Nat.le_refl _
    | succ d ih =>
      intro i s
      unfold plA
      split
      · exact ih _ _
      · exact Nat.le_trans (Nat.le_succ _) (ih (i + 1) (updN s.1 s.2.1 i, s.2.1 + 1, s.2.2))
  intro d
  induction d with
  | zero =>
    intro i k s w hi hk hb hs hq
    obtain ⟨k, rfl⟩ : ∃ k', k = k' + 1 := ⟨k - 1, by omega⟩
    refine ⟨w, ?_, hq⟩
    rw [f_X7_build_L28.eq_2, eC, br_le_t (by omega) (by omega)]
  | succ d ih =>
    intro i k s w hi hk hb hs hq
    obtain ⟨k, rfl⟩ : ∃ k', k = k' + 1 := ⟨k - 1, by omega⟩
    have hcp : f_X7_isCopied w w1 (nI i) = some (zI (dK x i && !v i)) := by
      unfold f_X7_isCopied
      rw [X2_isCy h hc (by omega), Option.bind_some, br_z0, hq.2.2.2.1, X10_isIn (by omega) (by omega), Option.bind_some, br_z0, decide_eq_true (show i < dC x by omega), Bool.true_and, hs]
      cases dK x i <;> cases v i <;> rfl
    rw [f_X7_build_L28.eq_2, eC, br_le_f (by omega) (by omega), hcp, Option.bind_some, br_z0]
    unfold f_X7_build_J50
    rw [nI_1]
    unfold plA at hb ⊢
    cases e : (dK x i && !v i)
    · rw [e, if_neg (by decide)] at hb
      rw [if_neg (by decide), if_neg (by decide)]
      have hn : s.2.1 < 30 := by
        rcases hb with hb | hb
        · omega
        · have := grow d (i + 1) (updN s.1 s.2.1 i, s.2.1 + 1, s.2.2)
          have this : s.2.1 + 1 ≤ (plA x v (i + 1) d (updN s.1 s.2.1 i, s.2.1 + 1, s.2.2)).2.1 := this
          omega
      obtain ⟨r, er, hr⟩ := Q1_place hq (j := i) hn
      rw [er, Option.bind_some]
      refine ih (i + 1) k _ r (by omega) (by omega) ?_ hs hr
      rcases hb with hb | hb
      · exact Or.inl (by show s.2.1 + 1 + d ≤ 30; omega)
      · exact Or.inr hb
    · rw [e, if_pos rfl] at hb
      rw [if_pos rfl, if_pos rfl]
      refine ih (i + 1) k s w (by omega) (by omega) ?_ hs hq
      rcases hb with hb | hb
      · exact Or.inl (by omega)
      · exact Or.inr hb
/-- the plan as the reader sees it -/
def xpl (x : XD) (pol : Nat) : XP := (true, (planR x pol).1, (planR x pol).2.2)
theorem X7_build {w1 : TDelta} {x : XD} (h : D1 w1 x) (hI : DI x) {pol : Nat} (hp : pol < 3) (w : TPlan) : ∃ r, f_X7_build w w1 (nI pol) = some r ∧ P1 r x (xpl x pol) := by
  have hc := hI.1
  have hle := fb_ct_le (dK x) (dC x)
  have hq0 : Q1 (w.1, (1 : Int32), (0 : Int32), (0 : Int32), (0 : Int32)) x p0 := by
    refine ⟨rfl, rfl, fun e he => absurd he (Nat.not_lt_zero e), ?_, ?_⟩
    · exact bm_z (dC x) (by omega)
    · have : lossOf x p0.2.2 = 0 := (fb_sm_cong (g := fun _ => 0) (fun k hk => rfl)).trans ((fb_sm_const 0 (dC x)).trans (Nat.mul_zero _))
      rw [this]; rfl
  have h0 : PV x (dK x) p0 := ⟨fun _ _ e => e, fun _ _ e => (by cases e), fun e he => absurd he (Nat.not_lt_zero e), fun _ _ _ => rfl, fun g => by
    have z : fb_sm (fun k => if p0.2.2 k then g k else 0) (dC x) = 0 := (fb_sm_cong (g := fun _ => 0) (fun k hk => rfl)).trans ((fb_sm_const 0 (dC x)).trans (Nat.mul_zero _))
    rw [z]
    show 0 + _ + 0 = _
    omega⟩
  obtain ⟨r1, er1, hr1⟩ := place8 h hI hp 30 0 FUEL (dK x) p0 _ rfl (by decide) (by omega) h0 hq0
  obtain ⟨n1, n2, n3, n4, n5⟩ := planR_ok hc pol
  obtain ⟨r2, er2, hr2⟩ := build28 h hI (v := (plan1 x pol).2.2) (nI pol) (dC x) 0 FUEL (plan1 x pol) r1 (Nat.zero_add _) (by show _ < 10000; omega) (Or.inr (by show (planR x pol).2.1 ≤ 30; omega)) rfl hr1
  refine ⟨r2, ?_, ?_⟩
  · unfold f_X7_build f_X7_placeCopies
    rw [show w1.2.2.2.2.2.2.2.2.2.1 = bm (dK x) (dC x) from h.2.2.2.2.2.1, show f_X7_placeCopies_L8 w1 (nI pol) FUEL (w.1, (1 : Int32), (0 : Int32), (0 : Int32), (0 : Int32)) (0 : Int32) (bm (dK x) (dC x)) = some r1 from er1, Option.bind_some]
    exact er2
  · obtain ⟨g1, g2, g3, g4, g5⟩ := hr2
    have g2 : r2.2.2.1 = nI (planR x pol).2.1 := g2
    rw [n1] at g2
    refine ⟨g1, fun _ => ⟨g2, fun k hk => g3 k (by show k < (planR x pol).2.1; omega), g4, g5⟩⟩
