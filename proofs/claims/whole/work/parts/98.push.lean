/-! a command more -/
theorem hasN {w : TDelta} {n : Nat} (hC : tC w = nI n) (hn : n ≤ 30) {a : Nat} (ha : a < n) : f_X2_has w (nI a) = some 1 := by
  rw [X2_hasP, hC, decide_eq_true ⟨nI_pos (by omega), nI_lt ha (by omega)⟩]; rfl
section GN
variable {w : TDelta} {n a : Nat}
theorem g_src (hC : tC w = nI n) (hn : n ≤ 30) (ha : a < n) : f_X2_sourceOf w (nI a) = some (tR w a) := by
  unfold f_X2_sourceOf
  rw [hasN hC hn ha, Option.bind_some, br_10, gd_in (by omega) (by omega), nI_clamp (by omega)]
theorem g_tgt (hC : tC w = nI n) (hn : n ≤ 30) (ha : a < n) : f_X2_targetOf w (nI a) = some (tG w a) := by
  unfold f_X2_targetOf
  rw [hasN hC hn ha, Option.bind_some, br_10, gd_in (by omega) (by omega), nI_clamp (by omega)]
theorem g_len (hC : tC w = nI n) (hn : n ≤ 30) (ha : a < n) : f_X2_lengthOf w (nI a) = some (tL w a) := by
  unfold f_X2_lengthOf
  rw [hasN hC hn ha, Option.bind_some, br_10, gd_in (by omega) (by omega), nI_clamp (by omega)]
end GN
def sP (w : TDelta) (p : Nat → Int32) : TDelta := (w.1, w.2.1, w.2.2.1, w.2.2.2.1, p, w.2.2.2.2.2)
theorem link_pair {w : TDelta} {n a b ra la gb lb : Nat} (hC : tC w = nI n) (hn : n ≤ 30) (ha : a < n) (hb : b < n) (h1 : tR w a = nI ra) (h2 : tL w a = nI la) (h3 : tG w b = nI gb) (h4 : tL w b = nI lb) (k1 : ra + la < 1000) (k2 : gb + lb < 1000) : f_X2_linkPair w (nI a) (nI b) = some (sP w (if ra < gb + lb ∧ gb < ra + la then upd (tP w) b (tP w b ||| ((1 : Int32) <<< (nI a &&& 31))) else tP w)) := by
  unfold f_X2_linkPair f_X10_overlap
  rw [g_src hC hn ha, Option.bind_some, g_len hC hn ha, Option.bind_some, g_tgt hC hn hb, Option.bind_some, g_len hC hn hb, Option.bind_some, h1, h2, h3, h4, nI_add, nI_add]
  by_cases q1 : ra < gb + lb
  · rw [br_le_f (by omega) (by omega)]
    by_cases q2 : gb < ra + la
    · rw [br_le_f (by omega) (by omega), Option.bind_some, br_10, hasN hC hn hb, Option.bind_some, br_10, gd_in (by omega) (by omega), gd_in (by omega) (by omega), nI_clamp (by omega), if_pos ⟨q1, q2⟩]; rfl
    · rw [br_le_t (by omega) (by omega), Option.bind_some, br_00, if_neg (fun z => q2 z.2)]; rfl
  · rw [br_le_t (by omega) (by omega), Option.bind_some, br_00, if_neg (fun z => q1 z.1)]; rfl
/-- a delta with a command more -/
def dP (x : XD) (k : Bool) (r g l : Nat) : XD := (dS x, dT x, dC x + 1, (fun i => if i = dC x then k else dK x i), updN (dR x) (dC x) r, updN (dG x) (dC x) g, updN (dL x) (dC x) l, dA x)
/-- all but the added bytes and the known least loss -/
def DE (w : TDelta) (x : XD) : Prop := tS w = nI (dS x) ∧ tT w = nI (dT x) ∧ tC w = nI (dC x) ∧ (∀ k, k < dC x → tK w k = kI (dK x k) ∧ tR w k = sI (dK x k) (dR x k) ∧ tG w k = nI (dG x k) ∧ tL w k = nI (dL x k)) ∧ (∀ k, k < dC x → tP w k = bm (fun i => Pr x i k) (dC x)) ∧ tY w = bm (dK x) (dC x)
def DJ (x : XD) : Prop := dC x ≤ 30 ∧ dS x ≤ 64 ∧ dT x ≤ 64 ∧ ∀ k, k < dC x → 1 ≤ dL x k ∧ dG x k + dL x k ≤ dT x ∧ (dK x k = true → dR x k + dL x k ≤ dS x)
theorem dP_K {x : XD} {k : Bool} {r g l i : Nat} (h : i < dC x) : dK (dP x k r g l) i = dK x i ∧ dR (dP x k r g l) i = dR x i ∧ dG (dP x k r g l) i = dG x i ∧ dL (dP x k r g l) i = dL x i :=
  ⟨if_neg (by omega), if_neg (by omega), if_neg (by omega), if_neg (by omega)⟩
theorem dP_c {x : XD} {k : Bool} {r g l : Nat} : dK (dP x k r g l) (dC x) = k ∧ dR (dP x k r g l) (dC x) = r ∧ dG (dP x k r g l) (dC x) = g ∧ dL (dP x k r g l) (dC x) = l :=
  ⟨if_pos rfl, if_pos rfl, if_pos rfl, if_pos rfl⟩
theorem Pr_old {x : XD} {k : Bool} {r g l i j : Nat} (hi : i < dC x) (hj : j < dC x) : Pr (dP x k r g l) i j = Pr x i j := by
  obtain ⟨a1, a2, a3, a4⟩ := dP_K (k := k) (r := r) (g := g) (l := l) hi
  obtain ⟨b1, b2, b3, b4⟩ := dP_K (k := k) (r := r) (g := g) (l := l) hj
  unfold Pr
  rw [a1, a2, a4, b1, b3, b4]
theorem Pr_add1 {x : XD} {r g l i : Nat} : Pr (dP x false r g l) i (dC x) = false := by
  unfold Pr
  rw [(dP_c (x := x) (k := false) (r := r) (g := g) (l := l)).1]; simp
theorem Pr_add2 {x : XD} {r g l j : Nat} : Pr (dP x false r g l) (dC x) j = false := by
  unfold Pr
  rw [(dP_c (x := x) (k := false) (r := r) (g := g) (l := l)).1]; simp
theorem Pr_self (x : XD) (i : Nat) : Pr x i i = false := by unfold Pr; simp
theorem bm_s {p : Nat → Bool} {n : Nat} (h : p n = false) : bm p (n + 1) = bm p n := by
  show (if p n then _ else bm p n) = _
  rw [h]; rfl
/-- the new command's row, before the links -/
def raw (w : TDelta) (x : XD) (k : Bool) (r g l : Nat) : TDelta := (upd (tK w) (dC x) (kI k), upd (tR w) (dC x) (sI k r), upd (tG w) (dC x) (nI g), upd (tL w) (dC x) (nI l), upd (tP w) (dC x) 0, tA w, tS w, tT w, nI (dC x + 1), tY w, tM w)
theorem raw_f {w : TDelta} {x : XD} (h : DE w x) {k : Bool} {r g l : Nat} : ∀ i, i < dC x + 1 → tK (raw w x k r g l) i = kI (dK (dP x k r g l) i) ∧ tR (raw w x k r g l) i = sI (dK (dP x k r g l) i) (dR (dP x k r g l) i) ∧ tG (raw w x k r g l) i = nI (dG (dP x k r g l) i) ∧ tL (raw w x k r g l) i = nI (dL (dP x k r g l) i) := by
  intro i hi
  by_cases e : i = dC x
  · subst e
    obtain ⟨b1, b2, b3, b4⟩ := dP_c (x := x) (k := k) (r := r) (g := g) (l := l)
    rw [b1, b2, b3, b4]
    exact ⟨upd_at _ _ _, upd_at _ _ _, upd_at _ _ _, upd_at _ _ _⟩
  · obtain ⟨a1, a2, a3, a4⟩ := dP_K (k := k) (r := r) (g := g) (l := l) (show i < dC x by omega)
    obtain ⟨c1, c2, c3, c4⟩ := h.2.2.2.1 i (by omega)
    rw [a1, a2, a3, a4]
    exact ⟨(upd_ne _ _ e).trans c1, (upd_ne _ _ e).trans c2, (upd_ne _ _ e).trans c3, (upd_ne _ _ e).trans c4⟩
/-- preceders while the links up to i are laid -/
noncomputable def PL (x : XD) (r g l i k : Nat) : Int32 := if k = dC x then bm (fun e => decide (e < i) && Pr (dP x true r g l) e (dC x)) (dC x + 1) else if k < i then bm (fun e => Pr (dP x true r g l) e k) (dC x + 1) else bm (fun e => Pr x e k) (dC x)
theorem link2 {w0 : TDelta} {x : XD} (h : DE w0 x) (hJ : DJ x) (hc : dC x < 30) {r g l : Nat} (hr : r + l ≤ 64) (hg : g + l ≤ 64) : ∀ (d i fu : Nat) (p : Nat → Int32), i + d = dC x → d < fu → (∀ k, k < dC x + 1 → p k = PL x r g l i k) → ∃ p', f_X2_linkCopy_L2 (nI (dC x)) fu (sP (raw w0 x true r g l) p) (nI i) = some (tK (raw w0 x true r g l), tR (raw w0 x true r g l), tG (raw w0 x true r g l), tL (raw w0 x true r g l), p', tA w0, tS w0, tT w0, nI (dC x + 1), bm (dK (dP x true r g l)) (dC x + 1), tM w0) ∧ ∀ k, k < dC x + 1 → p' k = bm (fun e => Pr (dP x true r g l) e k) (dC x + 1) := by
  have hf := raw_f h (k := true) (r := r) (g := g) (l := l)
  obtain ⟨c1, c2, c3, c4⟩ := dP_c (x := x) (k := true) (r := r) (g := g) (l := l)
  intro d
  induction d with
  | zero =>
    intro i fu p hi hk hp
    obtain ⟨fu, rfl⟩ : ∃ k', fu = k' + 1 := ⟨fu - 1, by omega⟩
    refine ⟨p, ?_, fun k hk => ?_⟩
    · rw [f_X2_linkCopy_L2.eq_2, br_le_t (by omega) (by omega)]
      have e : (tY w0 ||| ((1 : Int32) <<< (nI (dC x) &&& 31))) = bm (dK (dP x true r g l)) (dC x + 1) := by
        rw [h.2.2.2.2.2]
        show _ = if dK (dP x true r g l) (dC x) then bm (dK (dP x true r g l)) (dC x) ||| _ else _
        rw [c1, if_pos rfl, bm_cong (p := dK (dP x true r g l)) (q := dK x) (by omega) (fun i hi => (dP_K hi).1)]
      rw [← e]
      rfl
    · rw [hp k hk]
      unfold PL
      by_cases e : k = dC x
      · rw [if_pos e, e]
        refine bm_cong (by omega) (fun j hj => ?_)
        by_cases z : j = dC x
        · rw [z, Pr_self, Bool.and_false]
        · rw [decide_eq_true (show j < i by omega), Bool.true_and]
      · rw [if_neg e, if_pos (by omega)]
  | succ d ih =>
    intro i fu p hi hk hp
    obtain ⟨fu, rfl⟩ : ∃ k', fu = k' + 1 := ⟨fu - 1, by omega⟩
    have hcp : f_X2_isCopy (sP (raw w0 x true r g l) p) (nI i) = some (zI (dK x i)) := by
      unfold f_X2_isCopy
      rw [show (sP (raw w0 x true r g l) p).2.2.2.2.2.2.2.2.2.1 = bm (dK x) (dC x) from h.2.2.2.2.2, X10_isIn (by omega) (by omega), Option.bind_some, gd_z, decide_eq_true (show i < dC x by omega), Bool.true_and]
    rw [f_X2_linkCopy_L2.eq_2, br_le_f (by omega) (by omega), hcp, Option.bind_some, br_z0]
    unfold f_X2_linkCopy_J27
    obtain ⟨a1, a2, a3, a4⟩ := dP_K (k := true) (r := r) (g := g) (l := l) (show i < dC x by omega)
    have bi := hJ.2.2.2 i (by omega)
    have b2 := hJ.2.1
    have b3 := hJ.2.2.1
    cases hK : dK x i
    · rw [if_neg (by decide), nI_1]
      refine ih (i + 1) fu p (by omega) (by omega) (fun k hk => ?_)
      have n1 : Pr (dP x true r g l) i (dC x) = false := by unfold Pr; rw [a1, hK]; simp
      have n2 : ∀ e, Pr (dP x true r g l) e i = false := fun e => by unfold Pr; rw [a1, hK]; simp
      have n3 : ∀ e, Pr x e i = false := fun e => by unfold Pr; rw [hK]; simp
      rw [hp k hk]
      unfold PL
      by_cases e : k = dC x
      · rw [if_pos e, if_pos e]
        refine bm_cong (by omega) (fun j hj => ?_)
        by_cases z : j = i
        · rw [z, n1, Bool.and_false, Bool.and_false]
        · have : decide (j < i + 1) = decide (j < i) := by
            by_cases q : j < i
            · rw [decide_eq_true q, decide_eq_true (by omega)]
            · rw [decide_eq_false q, decide_eq_false (by omega)]
          rw [this]
      · rw [if_neg e, if_neg e]
        by_cases z : k = i
        · subst z
          rw [if_neg (Nat.lt_irrefl k), if_pos (Nat.lt_succ_self k)]
          rw [show (fun e => Pr x e k) = (fun _ => false) from funext n3, show (fun e => Pr (dP x true r g l) e k) = (fun _ => false) from funext n2, ← bm_z _ (by omega), ← bm_z _ (by omega)]
        · by_cases y : k < i
          · rw [if_pos y, if_pos (by omega)]
          · rw [if_neg y, if_neg (by omega)]
    · have bk := bi.2.2 hK
      rw [if_pos rfl]
      have fi := hf i (by omega)
      have fc := hf (dC x) (by omega)
      rw [a1, a2, a3, a4, hK] at fi
      rw [c1, c2, c3, c4] at fc
      have l1 := link_pair (w := sP (raw w0 x true r g l) p) (n := dC x + 1) (a := i) (b := dC x) rfl (by omega) (by omega) (by omega) fi.2.1 fi.2.2.2 fc.2.2.1 fc.2.2.2 (by omega) (by omega)
      rw [l1, Option.bind_some]
      generalize hq : (if dR x i < g + l ∧ g < dR x i + dL x i then upd (tP (sP (raw w0 x true r g l) p)) (dC x) (tP (sP (raw w0 x true r g l) p) (dC x) ||| ((1 : Int32) <<< (nI i &&& 31))) else tP (sP (raw w0 x true r g l) p)) = p1
      have l2 := link_pair (w := sP (raw w0 x true r g l) p1) (n := dC x + 1) (a := dC x) (b := i) rfl (by omega) (by omega) (by omega) fc.2.1 fc.2.2.2 fi.2.2.1 fi.2.2.2 (by omega) (by omega)
      have l2' : f_X2_linkPair (sP (sP (raw w0 x true r g l) p) p1) (nI (dC x)) (nI i) = _ := l2
      rw [l2', Option.bind_some, nI_1]
      refine ih (i + 1) fu _ (by omega) (by omega) (fun k hk => ?_)
      have q1 : ∀ k, p1 k = if k = dC x then (if dR x i < g + l ∧ g < dR x i + dL x i then p (dC x) ||| ((1 : Int32) <<< (nI i &&& 31)) else p (dC x)) else p k := by
        intro k
        rw [← hq]
        by_cases e : k = dC x
        · subst e
          rw [if_pos rfl]
          split
          · exact upd_at _ _ _
          · rfl
        · rw [if_neg e]
          split
          · exact upd_ne _ _ e
          · rfl
      have q2 : ∀ (P : Prop) (inst : Decidable P), (if P then upd p1 i (p1 i ||| ((1 : Int32) <<< (nI (dC x) &&& 31))) else p1) k = if k = i then (if P then p i ||| ((1 : Int32) <<< (nI (dC x) &&& 31)) else p i) else p1 k := by
        intro P inst
        have e9 : p1 i = p i := by rw [q1, if_neg (by omega)]
        by_cases e : k = i
        · subst e
          rw [if_pos rfl, e9]
          split
          · exact upd_at _ _ _
          · exact e9
        · rw [if_neg e]
          split
          · exact upd_ne _ _ e
          · rfl
      have P1 : Pr (dP x true r g l) i (dC x) = (decide (dR x i < g + l) && decide (g < dR x i + dL x i)) := by
        unfold Pr
        rw [a1, a2, a4, c1, c3, c4, hK, show (i == dC x) = false from beq_eq_false_iff_ne.mpr (by omega)]; simp
      have P2 : Pr (dP x true r g l) (dC x) i = (decide (r < dG x i + dL x i) && decide (dG x i < r + l)) := by
        unfold Pr
        rw [a1, a3, a4, c1, c2, c4, hK, show (dC x == i) = false from beq_eq_false_iff_ne.mpr (by omega)]; simp
      show (if r < dG x i + dL x i ∧ dG x i < r + l then upd p1 i (p1 i ||| ((1 : Int32) <<< (nI (dC x) &&& 31))) else p1) k = _
      rw [q2]
      unfold PL
      by_cases e : k = dC x
      · rw [if_neg (by omega), q1, if_pos e, if_pos e, hp (dC x) (by omega)]
        unfold PL
        rw [if_pos rfl]
        by_cases z : dR x i < g + l ∧ g < dR x i + dL x i
        · rw [if_pos z, bm_or (by omega) (by omega)]
          refine bm_cong (by omega) (fun j hj => ?_)
          by_cases y : j = i
          · subst y
            rw [P1, decide_eq_true z.1, decide_eq_true z.2]; simp
          · have : decide (j < i + 1) = decide (j < i) := by
              by_cases q : j < i
              · rw [decide_eq_true q, decide_eq_true (by omega)]
              · rw [decide_eq_false q, decide_eq_false (by omega)]
            rw [this, show (j == i) = false from beq_eq_false_iff_ne.mpr y, Bool.or_false]
        · rw [if_neg z]
          refine bm_cong (by omega) (fun j hj => ?_)
          by_cases y : j = i
          · subst y
            have : (decide (dR x j < g + l) && decide (g < dR x j + dL x j)) = false := by
              rw [← Bool.decide_and]; exact decide_eq_false z
            rw [P1, this]; simp
          · have : decide (j < i + 1) = decide (j < i) := by
              by_cases q : j < i
              · rw [decide_eq_true q, decide_eq_true (by omega)]
              · rw [decide_eq_false q, decide_eq_false (by omega)]
            rw [this]
      · rw [if_neg e]
        by_cases z : k = i
        · subst z
          rw [if_pos rfl, if_pos (Nat.lt_succ_self k), hp k hk]
          unfold PL
          rw [if_neg e, if_neg (Nat.lt_irrefl k)]
          have eb : bm (fun e => Pr x e k) (dC x) = bm (fun e => Pr (dP x true r g l) e k) (dC x) := bm_cong (by omega) (fun j hj => (Pr_old hj (by omega)).symm)
          rw [eb]
          show _ = if Pr (dP x true r g l) (dC x) k then bm (fun e => Pr (dP x true r g l) e k) (dC x) ||| _ else bm (fun e => Pr (dP x true r g l) e k) (dC x)
          by_cases y : r < dG x k + dL x k ∧ dG x k < r + l
          · rw [if_pos y, P2, decide_eq_true y.1, decide_eq_true y.2]; rfl
          · have : (decide (r < dG x k + dL x k) && decide (dG x k < r + l)) = false := by
              rw [← Bool.decide_and]; exact decide_eq_false y
            rw [if_neg y, P2, this]; rfl
        · rw [if_neg z, q1, if_neg e, hp k hk]
          unfold PL
          rw [if_neg e]
          by_cases y : k < i
          · rw [if_pos y, if_pos (by omega)]
          · rw [if_neg y, if_neg (by omega)]
theorem X2_push {w : TDelta} {x : XD} (h : DE w x) (hJ : DJ x) (hc : dC x < 30) (k : Bool) {r g l : Nat} (hr : k = true → r + l ≤ 64) (hg : g + l ≤ 64) : ∃ w', f_X2_push w (kI k) (sI k r) (nI g) (nI l) = some w' ∧ DE w' (dP x k r g l) ∧ tA w' = tA w ∧ tM w' = tM w := by
  obtain ⟨h1, h2, h3, h4, h5, h6⟩ := id h
  have hf := raw_f h (k := k) (r := r) (g := g) (l := l)
  have start : f_X2_push w (kI k) (sI k r) (nI g) (nI l) = br (kI k = (1 : Int32)) ((f_X2_linkCopy (raw w x k r g l) (nI (dC x))).bind (fun x1 => some x1)) (some (raw w x k r g l)) := by
    unfold f_X2_push
    rw [show w.2.2.2.2.2.2.2.2.1 = nI (dC x) from h3, br_ne (show ¬ (30 : Int32) ≤ nI (dC x) from nI_ge (b := 30) hc (by omega)), gd_in hc (by omega), gd_in hc (by omega), gd_in hc (by omega), gd_in hc (by omega), gd_in hc (by omega), nI_clamp (by omega), nI_1, show nI (dC x + 1) - 1 = nI (dC x) from nI_pred _]
    rfl
  rw [start]
  cases k
  · rw [br_ne (show ¬ kI false = 1 by decide)]
    refine ⟨raw w x false r g l, rfl, ⟨h1, h2, rfl, hf, fun i hi => ?_, ?_⟩, rfl, rfl⟩
    · have hi : i < dC x + 1 := hi
      show upd (tP w) (dC x) 0 i = bm (fun e => Pr (dP x false r g l) e i) (dC x + 1)
      rw [bm_s (p := fun e => Pr (dP x false r g l) e i) (n := dC x) Pr_add2]
      by_cases e : i = dC x
      · subst e
        rw [upd_at, bm_z (dC x) (by omega)]
        exact bm_cong (by omega) (fun _ _ => Pr_add1.symm)
      · rw [upd_ne _ _ e, h5 i (by omega)]
        exact bm_cong (by omega) (fun j hj => (Pr_old hj (by omega)).symm)
    · show tY w = bm (dK (dP x false r g l)) (dC x + 1)
      rw [bm_s (dP_c (x := x) (k := false) (r := r) (g := g) (l := l)).1, h6]
      exact bm_cong (by omega) (fun j hj => (dP_K hj).1.symm)
  · rw [br_eq (show kI true = 1 from rfl)]
    obtain ⟨p', e, hp'⟩ := link2 h hJ hc (hr rfl) hg (dC x) 0 FUEL (tP (raw w x true r g l)) (Nat.zero_add _) (by show _ < 10000; omega) (fun k hk => by
      unfold PL
      by_cases e : k = dC x
      · rw [if_pos e, e]
        show upd (tP w) (dC x) 0 (dC x) = _
        rw [upd_at, bm_z (dC x + 1) (by omega)]
        exact bm_cong (by omega) (fun j _ => by rw [decide_eq_false (Nat.not_lt_zero j)]; rfl)
      · rw [if_neg e, if_neg (Nat.not_lt_zero k)]
        show upd (tP w) (dC x) 0 k = _
        rw [upd_ne _ _ e]
        exact h5 k (by omega))
    have e : f_X2_linkCopy_L2 (nI (dC x)) FUEL (raw w x true r g l) (0 : Int32) = _ := e
    unfold f_X2_linkCopy
    rw [e, Option.bind_some]
    exact ⟨_, rfl, ⟨h1, h2, rfl, hf, hp', rfl⟩, rfl, rfl⟩
/-- the reference, all but the added bytes -/
def DN (a : Nat → Int32) (x : XD) : Prop := a 130 = nI (dS x) ∧ a 131 = nI (dT x) ∧ a 132 = nI (dC x) ∧ ∀ k, k < dC x → a (133 + 4 * k) = kI (dK x k) ∧ a (133 + 4 * k + 1) = sI (dK x k) (dR x k) ∧ a (133 + 4 * k + 2) = nI (dG x k) ∧ a (133 + 4 * k + 3) = nI (dL x k)
theorem X11_appends {w : TModel} {x : XD} (h : DN (mA w) x) (hc : dC x < 30) (k : Bool) {r g l : Nat} : ∃ a', f_X11_appends w (kI k) (sI k r) (nI g) (nI l) = some (sA w a') ∧ DN a' (dP x k r g l) ∧ ∀ j, (j < 132 ∨ 133 + 4 * dC x + 4 ≤ j) → a' j = mA w j := by
  obtain ⟨h1, h2, h3, h4⟩ := h
  refine ⟨upd (upd (upd (upd (upd (mA w) (133 + 4 * dC x) (kI k)) (133 + 4 * dC x + 1) (sI k r)) (133 + 4 * dC x + 2) (nI g)) (133 + 4 * dC x + 3) (nI l)) 132 (nI (dC x + 1)), ?_, ⟨?_, ?_, upd_at _ _ _, fun i hi => ?_⟩, fun j hj => ?_⟩
  · unfold f_X11_appends
    rw [gd_132, c_132, nm_eq, show w.1 132 = nI (dC x) from h3, show (133 : Int32) + (4 : Int32) * nI (dC x) = nI (133 + 4 * dC x) by rw [show (4 : Int32) * nI (dC x) = nI (4 * dC x) from pk_mul 4 _]; exact nI_add 133 _, show ∀ z, nI z + (1 : Int32) = nI (z + 1) from fun z => nI_add z 1, show ∀ z, nI z + (2 : Int32) = nI (z + 2) from fun z => nI_add z 2, show ∀ z, nI z + (3 : Int32) = nI (z + 3) from fun z => nI_add z 3, gd_in (by omega) (by omega), gd_in (by omega) (by omega), gd_in (by omega) (by omega), gd_in (by omega) (by omega), gd_132, gd_132, nI_clamp (by omega), nI_clamp (by omega), nI_clamp (by omega), nI_clamp (by omega), upd_ne _ _ (show 132 ≠ 133 + 4 * dC x + 3 by omega), upd_ne _ _ (show 132 ≠ 133 + 4 * dC x + 2 by omega), upd_ne _ _ (show 132 ≠ 133 + 4 * dC x + 1 by omega), upd_ne _ _ (show 132 ≠ 133 + 4 * dC x by omega), show w.1 132 = nI (dC x) from h3, nI_1]
    rfl
  · rw [upd_ne _ _ (by omega), upd_ne _ _ (by omega), upd_ne _ _ (by omega), upd_ne _ _ (by omega), upd_ne _ _ (by omega)]; exact h1
  · rw [upd_ne _ _ (by omega), upd_ne _ _ (by omega), upd_ne _ _ (by omega), upd_ne _ _ (by omega), upd_ne _ _ (by omega)]; exact h2
  · have hi : i < dC x + 1 := hi
    by_cases e : i = dC x
    · subst e
      obtain ⟨b1, b2, b3, b4⟩ := dP_c (x := x) (k := k) (r := r) (g := g) (l := l)
      rw [b1, b2, b3, b4]
      refine ⟨?_, ?_, ?_, ?_⟩
      · rw [upd_ne _ _ (by omega), upd_ne _ _ (by omega), upd_ne _ _ (by omega), upd_ne _ _ (by omega), upd_at]
      · rw [upd_ne _ _ (by omega), upd_ne _ _ (by omega), upd_ne _ _ (by omega), upd_at]
      · rw [upd_ne _ _ (by omega), upd_ne _ _ (by omega), upd_at]
      · rw [upd_ne _ _ (by omega), upd_at]
    · obtain ⟨a1, a2, a3, a4⟩ := dP_K (k := k) (r := r) (g := g) (l := l) (show i < dC x by omega)
      rw [a1, a2, a3, a4]
      have z := h4 i (by omega)
      refine ⟨?_, ?_, ?_, ?_⟩
      · rw [upd_ne _ _ (by omega), upd_ne _ _ (by omega), upd_ne _ _ (by omega), upd_ne _ _ (by omega), upd_ne _ _ (by omega)]; exact z.1
      · rw [upd_ne _ _ (by omega), upd_ne _ _ (by omega), upd_ne _ _ (by omega), upd_ne _ _ (by omega), upd_ne _ _ (by omega)]; exact z.2.1
      · rw [upd_ne _ _ (by omega), upd_ne _ _ (by omega), upd_ne _ _ (by omega), upd_ne _ _ (by omega), upd_ne _ _ (by omega)]; exact z.2.2.1
      · rw [upd_ne _ _ (by omega), upd_ne _ _ (by omega), upd_ne _ _ (by omega), upd_ne _ _ (by omega), upd_ne _ _ (by omega)]; exact z.2.2.2
  · rw [upd_ne _ _ (by omega), upd_ne _ _ (by omega), upd_ne _ _ (by omega), upd_ne _ _ (by omega), upd_ne _ _ (by omega)]
theorem dP_J {x : XD} (h : DJ x) (hc : dC x < 30) {k : Bool} {r g l : Nat} (h1 : 1 ≤ l) (h2 : g + l ≤ dT x) (h3 : k = true → r + l ≤ dS x) : DJ (dP x k r g l) := by
  refine ⟨by show dC x + 1 ≤ 30; omega, h.2.1, h.2.2.1, fun i hi => ?_⟩
  have hi : i < dC x + 1 := hi
  by_cases e : i = dC x
  · subst e
    obtain ⟨b1, b2, b3, b4⟩ := dP_c (x := x) (k := k) (r := r) (g := g) (l := l)
    rw [b1, b2, b3, b4]
    exact ⟨h1, h2, h3⟩
  · obtain ⟨a1, a2, a3, a4⟩ := dP_K (k := k) (r := r) (g := g) (l := l) (show i < dC x by omega)
    rw [a1, a2, a3, a4]
    exact h.2.2.2 i (by omega)
theorem dP_ct {x : XD} {k : Bool} {r g l : Nat} : fb_ct (dK (dP x k r g l)) (dC x + 1) = fb_ct (dK x) (dC x) + if k then 1 else 0 := by
  rw [fb_ct_succ, (dP_c (x := x) (k := k) (r := r) (g := g) (l := l)).1, fb_ct_cong (fun i hi => (dP_K hi).1)]
