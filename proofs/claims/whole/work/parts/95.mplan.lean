/-! the reference's plan -/
theorem br_iff {α : Type} {c c2 : Prop} {x y : Option α} (h : c ↔ c2) : br c x y = br c2 x y := by rw [propext h]
theorem free32 {w : TModel} {x : XD} (h : D2 (mA w) x) (hI : DI x) (p : Nat → Bool) (rec2 : Int32 → Option Int32) {j : Nat} (hj : j < dC x) : ∀ (d i k : Nat) (b : Bool), i + d = dC x → d < k → f_X11_freeOf_L32 w (bm p (dC x)) rec2 k (nI i) (zI b) (nI j) = br (b = true ∧ ∀ e, i ≤ e → e < dC x → (Pr x e j && p e) = false) (some (nI j)) (rec2 (nI (j + 1))) := by
  have hc := hI.1
  have fin : ∀ b, f_X11_freeOf_J80 w (bm p (dC x)) rec2 (zI b) (nI j) = if b = true then some (nI j) else rec2 (nI (j + 1)) := by
    intro b
    unfold f_X11_freeOf_J80
    rw [br_z0, nI_1]
  intro d
  induction d with
  | zero =>
    intro i k b hi hk
    obtain ⟨k, rfl⟩ : ∃ k', k = k' + 1 := ⟨k - 1, by omega⟩
    rw [f_X11_freeOf_L32.eq_2, gd_132, c_132, show w.1 132 = nI (dC x) from h.2.2.1, br_le_t (by omega) (by omega), fin]
    by_cases e : b = true
    · rw [if_pos e, br_eq ⟨e, fun e h1 h2 => by omega⟩]
    · rw [if_neg e, br_ne (fun z => e z.1)]
  | succ d ih =>
    intro i k b hi hk
    obtain ⟨k, rfl⟩ : ∃ k', k = k' + 1 := ⟨k - 1, by omega⟩
    rw [f_X11_freeOf_L32.eq_2, gd_132, c_132, show w.1 132 = nI (dC x) from h.2.2.1, br_le_f (by omega) (by omega), br_z0, fin, bm_z1 hc (by omega), br_z0, X11_precedes h hI (by omega) hj, Option.bind_some, br_z0]
    unfold f_X11_freeOf_J68 f_X11_freeOf_J73
    rw [nI_1]
    have go : ∀ c : Bool, f_X11_freeOf_L32 w (bm p (dC x)) rec2 k (nI (i + 1)) (zI c) (nI j) = br (c = true ∧ ∀ e, i + 1 ≤ e → e < dC x → (Pr x e j && p e) = false) (some (nI j)) (rec2 (nI (j + 1))) := fun c => ih (i + 1) k c (by omega) (by omega)
    cases b
    · rw [if_neg (by decide), if_neg (by decide), br_ne (fun z => by cases z.1)]
    · rw [if_pos rfl]
      have cond : (∀ e, i ≤ e → e < dC x → (Pr x e j && p e) = false) ↔ ((Pr x i j && p i) = false ∧ ∀ e, i + 1 ≤ e → e < dC x → (Pr x e j && p e) = false) :=
        ⟨fun z => ⟨z i (Nat.le_refl i) (by omega), fun e h1 h2 => z e (by omega) h2⟩, fun z e h1 h2 => by
          by_cases y : e = i
          · rw [y]; exact z.1
          · exact z.2 e (by omega) h2⟩
      cases hp : p i
      · rw [if_neg (by decide)]
        refine (go true).trans ?_
        refine br_iff ?_
        rw [cond, hp]
        simp
      · rw [if_pos rfl]
        cases hP : Pr x i j
        · rw [if_neg (by decide)]
          refine (go true).trans ?_
          refine br_iff ?_
          rw [cond, hP]
          simp
        · rw [if_pos rfl]
          refine (go false).trans ?_
          rw [br_ne (fun z => by cases z.1), br_ne (fun z => by
            have := (cond.mp z.2).1
            rw [hP, hp] at this; cases this)]
theorem freeL2 {w : TModel} {x : XD} (h : D2 (mA w) x) (hI : DI x) (p : Nat → Bool) : ∀ (d i k : Nat), i + d = dC x → d < k → (∀ e, e < i → fre x p e = false) → f_X11_freeOf_L2 w (bm p (dC x)) k (nI i) = some (ffI (fre x p) (dC x)) := by
  have hc := hI.1
  intro d
  induction d with
  | zero =>
    intro i k hi hk he
    obtain ⟨k, rfl⟩ : ∃ k', k = k' + 1 := ⟨k - 1, by omega⟩
    rw [f_X11_freeOf_L2.eq_2, gd_132, c_132, show w.1 132 = nI (dC x) from h.2.2.1, br_le_t (by omega) (by omega)]
    unfold ffI
    rw [if_neg]
    rw [first_is (i := i) (by omega) he (fun q => by omega)]
    omega
  | succ d ih =>
    intro i k hi hk he
    obtain ⟨k, rfl⟩ : ∃ k', k = k' + 1 := ⟨k - 1, by omega⟩
    rw [f_X11_freeOf_L2.eq_2, gd_132, c_132, show w.1 132 = nI (dC x) from h.2.2.1, br_le_f (by omega) (by omega), bm_z1 hc (by omega), br_z1]
    unfold f_X11_freeOf_J28
    have e1 : (if p i = true then f_X11_freeOf_L32 w (bm p (dC x)) (f_X11_freeOf_L2 w (bm p (dC x)) k) FUEL 0 1 (nI i) else f_X11_freeOf_L32 w (bm p (dC x)) (f_X11_freeOf_L2 w (bm p (dC x)) k) FUEL 0 0 (nI i)) = f_X11_freeOf_L32 w (bm p (dC x)) (f_X11_freeOf_L2 w (bm p (dC x)) k) FUEL (nI 0) (zI (p i)) (nI i) := by
      cases p i <;> rfl
    rw [e1, free32 h hI p _ (show i < dC x by omega) (dC x) 0 FUEL (p i) (Nat.zero_add _) (by show _ < 10000; omega)]
    have cond : (p i = true ∧ ∀ e, 0 ≤ e → e < dC x → (Pr x e i && p e) = false) ↔ fre x p i = true := by
      rw [fre_y]
      exact ⟨fun z => ⟨z.1, fun e he => z.2 e (Nat.zero_le e) he⟩, fun z => ⟨z.1, fun e _ he => z.2 e he⟩⟩
    cases hf : fre x p i
    · rw [br_ne (fun z => by rw [cond.mp z] at hf; cases hf)]
      refine ih (i + 1) k (by omega) (by omega) (fun e he2 => ?_)
      by_cases z : e = i
      · rw [z]; exact hf
      · exact he e (by omega)
    · rw [br_eq (cond.mpr hf)]
      unfold ffI
      have e2 : fa_first (fre x p) (dC x) = i := first_is (by omega) he (fun _ => hf)
      rw [e2, if_pos (by omega)]
theorem X11_freeOf {w : TModel} {x : XD} (h : D2 (mA w) x) (hI : DI x) (p : Nat → Bool) : f_X11_freeOf w (bm p (dC x)) = some (ffI (fre x p) (dC x)) := by
  have hc := hI.1
  exact freeL2 h hI p (dC x) 0 FUEL (Nat.zero_add _) (by show _ < 10000; omega) (fun e q => by omega)
theorem others5 {w : TModel} {x : XD} (h : D2 (mA w) x) (hI : DI x) (q : Nat → Bool) {k : Nat} (hk : k < dC x) : ∀ (d i fu : Nat), i + d = dC x → d < fu → f_X11_others_L5 w (nI k) (bm q (dC x)) fu (nI i) (nI (fb_ct (fun i => q i && (Pr x i k || Pr x k i)) i)) = some (nI (cf x q k)) := by
  have hc := hI.1
  intro d
  induction d with
  | zero =>
    intro i fu hi hf
    obtain ⟨fu, rfl⟩ : ∃ k', fu = k' + 1 := ⟨fu - 1, by omega⟩
    rw [f_X11_others_L5.eq_2, gd_132, c_132, show w.1 132 = nI (dC x) from h.2.2.1, br_le_t (by omega) (by omega)]
    unfold cf
    rw [show i = dC x by omega]
  | succ d ih =>
    intro i fu hi hf
    obtain ⟨fu, rfl⟩ : ∃ k', fu = k' + 1 := ⟨fu - 1, by omega⟩
    have ih2 := ih (i + 1) fu (by omega) (by omega)
    rw [fb_ct_succ] at ih2
    rw [f_X11_others_L5.eq_2, gd_132, c_132, show w.1 132 = nI (dC x) from h.2.2.1, br_le_f (by omega) (by omega), bm_z1 hc (by omega), br_z1, X11_precedes h hI (by omega) hk, Option.bind_some, br_z0, X11_precedes h hI hk (by omega), Option.bind_some, br_z0]
    unfold f_X11_others_J53 f_X11_others_J49 f_X11_others_J54
    rw [nI_1]
    generalize hN : fb_ct (fun i => q i && (Pr x i k || Pr x k i)) i = N at ih2 ⊢
    have z0 : nI N + 0 = nI (N + 0) := nI_add N 0
    have z1 : nI N + 1 = nI (N + 1) := nI_add N 1
    rw [z0, z1]
    cases hq : q i
    · rw [hq] at ih2; exact ih2
    · rw [hq] at ih2
      cases h1 : Pr x i k
      · rw [h1] at ih2
        cases h2 : Pr x k i
        · rw [h2] at ih2; exact ih2
        · rw [h2] at ih2; exact ih2
      · rw [h1] at ih2; exact ih2
theorem X11_others {w : TModel} {x : XD} (h : D2 (mA w) x) (hI : DI x) (q : Nat → Bool) {k : Nat} (hk : k < dC x) : f_X11_others w (nI k) (bm q (dC x)) = some (nI (cf x q k)) := by
  have hc := hI.1
  exact others5 h hI q hk (dC x) 0 FUEL (Nat.zero_add _) (by show _ < 10000; omega)
/-- what the reference looks at -/
def vI (x : XD) (pol : Nat) (q : Nat → Bool) (k : Nat) : Int32 := if pol = 0 then 0 else if pol = 1 then nI (dL x k) else -(nI (cf x q k))
theorem vI_le {x : XD} (hI : DI x) {pol : Nat} (hp : pol < 3) (q : Nat → Bool) {a b : Nat} (ha : a < dC x) (hb : b < dC x) : vI x pol q b ≤ vI x pol q a ↔ better x pol q a b = false := by
  have h1 := hI.2.2.2.1 a ha
  have h2 := hI.2.2.2.1 b hb
  have h3 := hI.2.2.1
  have c1 : cf x q a ≤ dC x := fb_ct_le _ _
  have c2 : cf x q b ≤ dC x := fb_ct_le _ _
  have hc := hI.1
  unfold vI better
  rcases (by omega : pol = 0 ∨ pol = 1 ∨ pol = 2) with e | e | e
  · subst e; exact ⟨fun _ => rfl, fun _ => (by show (0 : Int32) ≤ 0; decide)⟩
  · subst e
    show nI (dL x b) ≤ nI (dL x a) ↔ decide (dL x a < dL x b) = false
    rw [nI_leI (by omega) (by omega), decide_eq_false_iff_not]
    omega
  · subst e
    show -(nI (cf x q b)) ≤ -(nI (cf x q a)) ↔ decide (cf x q b < cf x q a) = false
    rw [neg_le (by omega) (by omega), decide_eq_false_iff_not]
    omega
theorem victim8 {w : TModel} {x : XD} (h : D2 (mA w) x) (hI : DI x) (q : Nat → Bool) {pol : Nat} (hp : pol < 3) : ∀ (d i fu : Nat) (g : Int32) (b : Option Nat), i + d = dC x → d < fu → inQ x q b → (∀ e, b = some e → g = vI x pol q e) → f_X11_victim_L8 w (bm q (dC x)) (nI pol) fu (nI i) g (oI b) = some (oI (vsp x pol q i d b)) := by
  have hc := hI.1
  intro d
  induction d with
  | zero =>
    intro i fu g b hi hf hb hg
    obtain ⟨fu, rfl⟩ : ∃ k', fu = k' + 1 := ⟨fu - 1, by omega⟩
    rw [f_X11_victim_L8.eq_2, gd_132, c_132, show w.1 132 = nI (dC x) from h.2.2.1, br_le_t (by omega) (by omega)]; rfl
  | succ d ih =>
    intro i fu g b hi hf hb hg
    obtain ⟨fu, rfl⟩ : ∃ k', fu = k' + 1 := ⟨fu - 1, by omega⟩
    have e62 : (br (nI pol = 0) (f_X11_victim_J62 w (bm q (dC x)) (nI pol) (f_X11_victim_L8 w (bm q (dC x)) (nI pol) fu) (nI i) g (oI b) (0 : Int32)) (br (nI pol = (1 : Int32)) ((f_X11_of w (nI i) (3 : Int32)).bind (fun x2 => f_X11_victim_J62 w (bm q (dC x)) (nI pol) (f_X11_victim_L8 w (bm q (dC x)) (nI pol) fu) (nI i) g (oI b) x2)) ((f_X11_others w (nI i) (bm q (dC x))).bind (fun x1 => f_X11_victim_J62 w (bm q (dC x)) (nI pol) (f_X11_victim_L8 w (bm q (dC x)) (nI pol) fu) (nI i) g (oI b) (-x1))))) = f_X11_victim_J62 w (bm q (dC x)) (nI pol) (f_X11_victim_L8 w (bm q (dC x)) (nI pol) fu) (nI i) g (oI b) (vI x pol q i) := by
      unfold vI
      rcases (by omega : pol = 0 ∨ pol = 1 ∨ pol = 2) with e | e | e
      · subst e; rw [br_eq (show nI 0 = 0 from rfl)]; rfl
      · subst e; rw [br_ne (show ¬ nI 1 = 0 by decide), br_eq (show nI 1 = 1 from rfl), of_3 h hc (by omega), Option.bind_some]; rfl
      · subst e; rw [br_ne (show ¬ nI 2 = 0 by decide), br_ne (show ¬ nI 2 = 1 by decide), X11_others h hI q (by omega), Option.bind_some]; rfl
    rw [f_X11_victim_L8.eq_2, gd_132, c_132, show w.1 132 = nI (dC x) from h.2.2.1, br_le_f (by omega) (by omega), bm_z1 hc (by omega), br_z1, e62]
    unfold f_X11_victim_J62 f_X11_victim_J76 f_X11_victim_J83
    rw [nI_1]
    show _ = some (oI (vsp x pol q (i + 1) d (vpick x pol q i b)))
    have hin := vpick_in (pol := pol) (show i < dC x by omega) hb
    unfold vpick at hin ⊢
    cases hq : q i
    · rw [if_neg (by decide), if_neg (by decide)]
      exact ih (i + 1) fu g b (by omega) (by omega) hb hg
    · rw [hq, if_pos rfl] at hin
      rw [if_pos rfl, if_pos rfl]
      cases b with
      | none =>
        rw [br_eq (show oI none = -1 from rfl)]
        exact ih (i + 1) fu (vI x pol q i) (some i) (by omega) (by omega) hin (fun e he => by cases he; rfl)
      | some e =>
        have hbe := hb e rfl
        rw [br_ne (show ¬ oI (some e) = -1 from nI_ne_m1 (by omega)), hg e rfl]
        dsimp only at hin ⊢
        cases hB : better x pol q i e
        · rw [br_eq ((vI_le hI hp q (by omega) hbe.1).mpr hB), if_neg (by decide)]
          exact ih (i + 1) fu _ (some e) (by omega) (by omega) hb (fun e2 he => by cases he; rfl)
        · rw [br_ne (fun z => by rw [(vI_le hI hp q (by omega) hbe.1).mp z] at hB; cases hB), if_pos rfl]
          rw [hB, if_pos rfl] at hin
          exact ih (i + 1) fu (vI x pol q i) (some i) (by omega) (by omega) hin (fun e he => by cases he; rfl)
theorem X11_victim {w : TModel} {x : XD} (h : D2 (mA w) x) (hI : DI x) {q : Nat → Bool} {pol : Nat} (hp : pol < 3) (hq : ∃ k, k < dC x ∧ q k = true) : f_X11_victim w (bm q (dC x)) (nI pol) = some (nI (vict x pol q)) := by
  have hc := hI.1
  have e := victim8 h hI q hp (dC x) 0 FUEL 0 none (Nat.zero_add _) (by show _ < 10000; omega) (fun e he => by cases he) (fun e he => by cases he)
  rw [(vict_is hq).1] at e
  exact e
theorem ct_wi {c : Nat} {v : Nat → Bool} {j : Nat} (hj : j < c) (hv : v j = false) : fb_ct (wi v j) c = fb_ct v c + 1 := by
  have h := fb_ct_upd v true hj
  rw [hv] at h
  have e : wi v j = (fun k => if k = j then true else v k) := by
    funext k
    unfold wi
    by_cases q : k = j
    · simp [q]
    · have : (k == j) = false := beq_eq_false_iff_ne.mpr q
      simp [q, this]
  rw [e]
  simpa using h
theorem plan60 {x : XD} (hI : DI x) {pol : Nat} (hp : pol < 3) : ∀ (m k : Nat) (q : Nat → Bool) (s : PS) (w : TModel), fb_ct q (dC x) ≤ m → m < k → PV x q s → D2 (mA w) x → (∀ e, e < s.2.1 → mA w (318 + e) = nI (s.1 e)) → ∃ a', f_X11_plan_L60 (nI pol) k w (nI (fb_ct s.2.2 (dC x))) (bm s.2.2 (dC x)) (nI s.2.1) (bm q (dC x)) = f_X11_plan_L130 (nI pol) FUEL (sA w a') (0 : Int32) (nI (fb_ct (plS x pol m q s).2.2 (dC x))) (bm (plS x pol m q s).2.2 (dC x)) (nI (plS x pol m q s).2.1) ∧ (∀ j, (j < 318 ∨ 348 ≤ j) → a' j = mA w j) ∧ ∀ e, e < (plS x pol m q s).2.1 → a' (318 + e) = nI ((plS x pol m q s).1 e) := by
  have hc := hI.1
  intro m
  induction m with
  | zero =>
    intro k q s w hm hk hv hd ho
    obtain ⟨k, rfl⟩ : ∃ k', k = k' + 1 := ⟨k - 1, by omega⟩
    refine ⟨mA w, ?_, fun _ _ => rfl, ho⟩
    rw [f_X11_plan_L60.eq_2, br_eq ((bm_0 (by omega)).mpr (fb_ct_zero.mp (by omega)))]
    rfl
  | succ m ih =>
    intro k q s w hm hk hv hd ho
    obtain ⟨k, rfl⟩ : ∃ k', k = k' + 1 := ⟨k - 1, by omega⟩
    rw [f_X11_plan_L60.eq_2]
    unfold plS
    by_cases e : fb_ct q (dC x) = 0
    · rw [br_eq ((bm_0 (by omega)).mpr (fb_ct_zero.mp e)), if_pos e]
      exact ⟨mA w, rfl, fun _ _ => rfl, ho⟩
    · rw [br_ne (fun z => e (fb_ct_zero.mpr ((bm_0 (by omega)).mp z))), if_neg e, X11_freeOf hd hI, Option.bind_some]
      have hn := PV_n hc hv e
      unfold f_X11_plan_J115
      by_cases e2 : nxt x q < dC x
      · have ej : ffI (fre x q) (dC x) = nI (nxt x q) := if_pos e2
        have hct2 := ct_minus e2 (nxt_is e2)
        rw [ej, br_m1 (by omega), if_pos e2, show (318 : Int32) + nI s.2.1 = nI (318 + s.2.1) from nI_add 318 _, gd_in (by omega) (by omega), nI_clamp (by omega), nm_eq, bm_wo (by omega) (by omega), nI_1]
        obtain ⟨a', e1, b1, b2⟩ := ih k (wo q (nxt x q)) (updN s.1 s.2.1 (nxt x q), s.2.1 + 1, s.2.2) (sA w (upd (mA w) (318 + s.2.1) (nI (nxt x q)))) (by unfold wo; omega) (by omega) (PV_place hv e2 (nxt_is e2)) (by
          rw [mA_sA]
          obtain ⟨d1, d2, d3, d4, d5⟩ := hd
          refine ⟨by rw [upd_ne _ _ (by omega)]; exact d1, by rw [upd_ne _ _ (by omega)]; exact d2, by rw [upd_ne _ _ (by omega)]; exact d3, fun k hk => ?_, fun k hk hK i hi => ?_⟩
          · rw [upd_ne _ _ (by omega), upd_ne _ _ (by omega), upd_ne _ _ (by omega), upd_ne _ _ (by omega)]; exact d4 k hk
          · have := (hI.2.2.2.1 k hk).2.1
            have := hI.2.2.1
            rw [upd_ne _ _ (by omega)]; exact d5 k hk hK i hi) (fun e he => by
          have he : e < s.2.1 + 1 := he
          rw [mA_sA]
          show _ = nI (updN s.1 s.2.1 (nxt x q) e)
          unfold updN
          by_cases z : e = s.2.1
          · rw [z, if_pos rfl, upd_at]
          · rw [if_neg z, upd_ne _ _ (by omega)]; exact ho e (by omega))
        refine ⟨a', e1, fun j hj => ?_, b2⟩
        rw [b1 j hj, mA_sA, upd_ne _ _ (by omega)]
      · have ej : ffI (fre x q) (dC x) = -1 := if_neg e2
        have hx := ct_ex e
        obtain ⟨-, v1, v2⟩ := vict_is (pol := pol) hx
        have hct2 := ct_minus v1 v2
        have hvf := hv.2.2.2.1 _ v1 v2
        rw [ej, br_eq rfl, if_neg e2, X11_victim hd hI hp hx, Option.bind_some, nm_eq, bm_wo (by omega) (by omega), nI_1, bm_or (by omega) v1]
        have ih2 := ih k (wo q (vict x pol q)) (s.1, s.2.1, wi s.2.2 (vict x pol q)) w (by unfold wo; omega) (by omega) (PV_conv hv v1 v2) hd ho
        have ih2 : ∃ a', f_X11_plan_L60 (nI pol) k w (nI (fb_ct (wi s.2.2 (vict x pol q)) (dC x))) (bm (wi s.2.2 (vict x pol q)) (dC x)) (nI s.2.1) (bm (wo q (vict x pol q)) (dC x)) = _ ∧ _ := ih2
        rw [ct_wi v1 hvf] at ih2
        exact ih2
theorem plan130 {x : XD} (hI : DI x) {v : Nat → Bool} (p1 : Int32) (many : Int32) : ∀ (d i k : Nat) (s : PS) (w : TModel), i + d = dC x → d < k → (plA x v i d s).2.1 ≤ 30 → s.2.2 = v → D2 (mA w) x → (∀ e, e < s.2.1 → mA w (318 + e) = nI (s.1 e)) → ∃ a', f_X11_plan_L130 p1 k w (nI i) many (bm v (dC x)) (nI s.2.1) = some (many, sA w a') ∧ a' 317 = 1 ∧ a' 348 = bm v (dC x) ∧ (∀ j, (j < 317 ∨ 349 ≤ j) → a' j = mA w j) ∧ ∀ e, e < (plA x v i d s).2.1 → a' (318 + e) = nI ((plA x v i d s).1 e) := by
  have hc := hI.1
  have grow : ∀ (d i : Nat) (s : PS), s.2.1 ≤ (plA x v i d s).2.1 := by
    intro d
    induction d with
    | zero => intro i s; exact Nat.le_refl _
    | succ d ih =>
      intro i s
      unfold plA
      split
      · exact ih _ _
      · exact Nat.le_trans (Nat.le_succ _) (ih (i + 1) (updN s.1 s.2.1 i, s.2.1 + 1, s.2.2))
  intro d
  induction d with
  | zero =>
    intro i k s w hi hk hb hs hd ho
    obtain ⟨k, rfl⟩ : ∃ k', k = k' + 1 := ⟨k - 1, by omega⟩
    have hb : s.2.1 ≤ 30 := hb
    refine ⟨upd (upd (mA w) 348 (bm v (dC x))) 317 1, ?_, upd_at _ _ _, by rw [upd_ne _ _ (by omega), upd_at], fun j hj => by rw [upd_ne _ _ (by omega), upd_ne _ _ (by omega)], fun e he => ?_⟩
    · rw [f_X11_plan_L130.eq_2, gd_132, c_132, show w.1 132 = nI (dC x) from hd.2.2.1, br_le_t (by omega) (by omega), gd_348, gd_317, c_348, c_317]
      rfl
    · have he : e < s.2.1 := he
      rw [upd_ne _ _ (by omega), upd_ne _ _ (by omega)]; exact ho e he
  | succ d ih =>
    intro i k s w hi hk hb hs hd ho
    obtain ⟨k, rfl⟩ : ∃ k', k = k' + 1 := ⟨k - 1, by omega⟩
    have hd132 : w.1 132 = nI (dC x) := hd.2.2.1
    unfold plA at hb ⊢
    have step : f_X11_plan_L130 p1 (k + 1) w (nI i) many (bm v (dC x)) (nI s.2.1) = if (dK x i && !v i) = true then f_X11_plan_L130 p1 k w (nI (i + 1)) many (bm v (dC x)) (nI s.2.1) else gd (vp_in (nI (318 + s.2.1)) 617) (f_X11_plan_L130 p1 k (sA w (upd (mA w) (nI (318 + s.2.1)).toNatClampNeg (nI i))) (nI (i + 1)) many (bm v (dC x)) (nI (s.2.1 + 1))) := by
      rw [f_X11_plan_L130.eq_2, gd_132, c_132, hd132, br_le_f (by omega) (by omega), X11_isC hd hc (by omega), Option.bind_some, br_z0, bm_z1 hc (by omega), br_z1]
      unfold f_X11_plan_J163 f_X11_plan_J178
      rw [show (318 : Int32) + nI s.2.1 = nI (318 + s.2.1) from nI_add 318 _, nI_1, nI_1]
      cases dK x i <;> cases v i <;> rfl
    rw [step]
    cases e : (dK x i && !v i)
    · rw [e, if_neg (by decide)] at hb
      have := grow d (i + 1) (updN s.1 s.2.1 i, s.2.1 + 1, s.2.2)
      have this : s.2.1 + 1 ≤ (plA x v (i + 1) d (updN s.1 s.2.1 i, s.2.1 + 1, s.2.2)).2.1 := this
      rw [if_neg (by decide), if_neg (by decide), gd_in (by omega) (by omega), nI_clamp (by omega)]
      obtain ⟨a', e1, b1, b2, b3, b4⟩ := ih (i + 1) k (updN s.1 s.2.1 i, s.2.1 + 1, s.2.2) (sA w (upd (mA w) (318 + s.2.1) (nI i))) (by omega) (by omega) hb hs (by
        rw [mA_sA]
        obtain ⟨d1, d2, d3, d4, d5⟩ := hd
        refine ⟨by rw [upd_ne _ _ (by omega)]; exact d1, by rw [upd_ne _ _ (by omega)]; exact d2, by rw [upd_ne _ _ (by omega)]; exact d3, fun k hk => ?_, fun k hk hK i hi => ?_⟩
        · rw [upd_ne _ _ (by omega), upd_ne _ _ (by omega), upd_ne _ _ (by omega), upd_ne _ _ (by omega)]; exact d4 k hk
        · have := (hI.2.2.2.1 k hk).2.1
          have := hI.2.2.1
          rw [upd_ne _ _ (by omega)]; exact d5 k hk hK i hi) (fun e he => by
        have he : e < s.2.1 + 1 := he
        rw [mA_sA]
        show _ = nI (updN s.1 s.2.1 i e)
        unfold updN
        by_cases z : e = s.2.1
        · rw [z, if_pos rfl, upd_at]
        · rw [if_neg z, upd_ne _ _ (by omega)]; exact ho e (by omega))
      refine ⟨a', e1, b1, b2, fun j hj => ?_, b4⟩
      rw [b3 j hj, mA_sA, upd_ne _ _ (by omega)]
    · rw [e, if_pos rfl] at hb
      rw [if_pos rfl, if_pos rfl]
      exact ih (i + 1) k s w (by omega) (by omega) hb hs hd ho
theorem in02 (p : Int32) : f_X11_in p.toInt64 (0 : Int64) (2 : Int64) = some (zI (decide (¬ p < 0 ∧ p ≤ 2))) := by
  rw [X11_in]
  congr 2
  rw [show (0 : Int64) = (0 : Int32).toInt64 from by decide, show (2 : Int64) = (2 : Int32).toInt64 from by decide, ← Bool.decide_and]
  refine decide_eq_decide.mpr ?_
  rw [fa_wide_le, fa_wide_le, Int32.not_lt]
def xplan (x : XS) (pol : Nat) : XS := (x.1, x.2.1, x.2.2.1, xpl x.2.2.1 pol, x.2.2.2.2.1, (false, x.2.2.2.2.2.2))
theorem m_plan {now : TState} {hist : THistory} {mo : TModel} (h : RR now hist mo) (out : Nat → Int64) (p1 : Int32) : OKw (f_L_plan now hist out p1) (f_X11_plan mo p1) := by
  obtain ⟨x, n, f, hn, h1, h2, hI, h3, h4, hf⟩ := id h
  have lo : f_X11_longOf mo (0 : Int32) = some (nI x.1.2) := (X11_longOf mo (v := 0) (by omega)).trans (congrArg some h2.1.1)
  have a130 : mo.1 130 = nI (dS x.2.2.1) := h2.2.2.1.1
  have b130 : now.2.2.1.2.2.2.2.2.2.1 = nI (dS x.2.2.1) := h1.2.2.1.1
  have o64 := h2.1.2.1
  have i1 := hI.2.2.1.1
  have i2 := hI.2.2.1.2.1
  by_cases hp : ¬ p1 < 0 ∧ p1 ≤ 2
  · obtain ⟨pol, hp31, rfl⟩ := nI_of hp.1
    have hpol : pol ≤ 2 := (nI_leI hp31 (b := 2) (by omega)).mp hp.2
    by_cases hS : x.1.2 = dS x.2.2.1
    · obtain ⟨hs, es, hs1⟩ := X4_save hn hI h3 h1
      obtain ⟨d, ed, hd⟩ := drop1 h1
      obtain ⟨w', es2, ea, eh, hs2⟩ := X11_saveW (w := sT mo 0) hn hI hf h4 h2
      have ea : mA w' = mA mo := ea
      obtain ⟨r, er, hr⟩ := X7_build hd.2.2.1 hI.2.2.1 (pol := pol) (by omega) d.2.2.2.1
      have hD2 := dropS hI h2
      obtain ⟨n1, n2, n3, n4, n5⟩ := planR_ok i1 pol
      have h0 : PV x.2.2.1 (dK x.2.2.1) p0 := ⟨fun _ _ e => e, fun _ _ e => (by cases e), fun e he => absurd he (Nat.not_lt_zero e), fun _ _ _ => rfl, fun g => by
        have z : fb_sm (fun k => if p0.2.2 k then g k else 0) (dC x.2.2.1) = 0 := (fb_sm_cong (g := fun _ => 0) (fun k hk => rfl)).trans ((fb_sm_const 0 (dC x.2.2.1)).trans (Nat.mul_zero _))
        rw [z]
        show 0 + _ + 0 = _
        omega⟩
      have hle := fb_ct_le (dK x.2.2.1) (dC x.2.2.1)
      obtain ⟨a1, e60, f1, f2⟩ := plan60 hI.2.2.1 (pol := pol) (by omega) 30 FUEL (dK x.2.2.1) p0 (sA w' (aD (mA mo))) (by omega) (by decide) h0 hD2.2.2.1 (fun e he => absurd he (Nat.not_lt_zero e))
      have hD3 : D2 a1 x.2.2.1 := D2_cong hI.2.2.1 (fun k k1 k2 => (f1 k (by omega)).symm) hD2.2.2.1
      obtain ⟨a2, e130, g1, g2, g3, g4⟩ := plan130 hI.2.2.1 (v := (plan1 x.2.2.1 pol).2.2) (nI pol) (nI (fb_ct (plan1 x.2.2.1 pol).2.2 (dC x.2.2.1))) (dC x.2.2.1) 0 FUEL (plan1 x.2.2.1 pol) (sA (sA w' (aD (mA mo))) a1) (Nat.zero_add _) (by show _ < 10000; omega) (by show (planR x.2.2.1 pol).2.1 ≤ 30; omega) rfl hD3 f2
      have ct0 : fb_ct p0.2.2 (dC x.2.2.1) = 0 := fb_ct_zero.mpr (fun _ _ => rfl)
      have er3 : r.2.2.2.1 = bm (planR x.2.2.1 pol).2.2 (dC x.2.2.1) := (hr.2 rfl).2.2.1
      refine ⟨0, (d.1, d.2.1, d.2.2.1, r, d.2.2.2.2.1, d.2.2.2.2.2), hs, vp_updL out (0 : Int32).toNatClampNeg (nI (fb_ct (plan1 x.2.2.1 pol).2.2 (dC x.2.2.1))).toInt64, nI (fb_ct (plan1 x.2.2.1 pol).2.2 (dC x.2.2.1)), sA w' a2, ?_, ?_, eh, fun _ => ?_, ?_⟩
      · unfold f_L_plan f_X10_plan
        rw [br_ne hp.1, br_eq hp.2, h1.1.1, b130, br_eq_t hS, es, Option.bind_some, ed, Option.bind_some, er, Option.bind_some, er3, bitC_bm i1, n2]
        simp only [br_T, br_F, gd_T, br_00, br_10, Option.bind_some, rx_0, rx_s, el_l, el_r, br_A_A, br_S_S, br_I_I, br_S_A, br_I_A, br_A_I, br_I_S, gd_o, goes_00, goes_01, goes_10, goes_11, zI_t, zI_f, ri_0, ri_1, gd_130, c_130, gd_131, c_131, gd_132, c_132, gd_317, c_317, gd_348, c_348, gd_349, c_349, gd_550, c_550, gd_551, c_551, gd_552, c_552]
      · unfold f_X11_plan f_X11_plan_J31
        rw [in02, decide_eq_true hp, lo]
        simp only [br_T, br_F, gd_T, br_00, br_10, Option.bind_some, rx_0, rx_s, el_l, el_r, br_A_A, br_S_S, br_I_I, br_S_A, br_I_A, br_A_I, br_I_S, gd_o, goes_00, goes_01, goes_10, goes_11, zI_t, zI_f, ri_0, ri_1, gd_130, c_130, gd_131, c_131, gd_132, c_132, gd_317, c_317, gd_348, c_348, gd_349, c_349, gd_550, c_550, gd_551, c_551, gd_552, c_552, a130]
        rw [br_eq_t hS, es2]
        simp only [br_T, br_F, gd_T, br_00, br_10, Option.bind_some, rx_0, rx_s, el_l, el_r, br_A_A, br_S_S, br_I_I, br_S_A, br_I_A, br_A_I, br_I_S, gd_o, goes_00, goes_01, goes_10, goes_11, zI_t, zI_f, ri_0, ri_1, gd_130, c_130, gd_131, c_131, gd_132, c_132, gd_317, c_317, gd_348, c_348, gd_349, c_349, gd_550, c_550, gd_551, c_551, gd_552, c_552, drop2]
        rw [ea, X11_copies (w := sA w' (aD (mA mo))) hD2.2.2.1 i1, Option.bind_some]
        rw [ct0] at e60
        rw [show bm p0.2.2 (dC x.2.2.1) = 0 from (bm_z (dC x.2.2.1) (by omega)).symm] at e60
        exact e60.trans e130
      · rw [out0]
      · have hv : ∀ k, (k < 317 ∨ 349 ≤ k) → aD (mA mo) k = a2 k := fun k hk => by
          rw [g3 k hk]
          show _ = a1 k
          rw [f1 k (by omega), mA_sA]
        obtain ⟨q1, q2, q3, q4, q5, q6⟩ := hD2
        have hd' := hd
        refine ⟨xplan x pol, nS n, fS n f x, nS_le hn, ⟨hd.1, hd.2.1, hd.2.2.1, hr, hd.2.2.2.2.1, hd.2.2.2.2.2⟩, ⟨B2_cong (hv _ (by omega)) (fun k _ _ => hv k (by omega)) q1, B2_cong (hv _ (by omega)) (fun k _ _ => hv k (by omega)) q2, D2_cong hI.2.2.1 (fun k _ _ => hv k (by omega)) q3, ⟨g1, fun _ => ⟨fun k hk => g4 k (by have hk : k < dC x.2.2.1 := hk; show k < (planR x.2.2.1 pol).2.1; omega), by show a2 348 = bm (planR x.2.2.1 pol).2.2 (dC x.2.2.1); rw [n2]; exact g2⟩⟩, B2_cong (hv _ (by omega)) (fun k _ _ => hv k (by omega)) q5, W2_cong (fun k _ _ => hv k (by omega)) q6⟩, ⟨hI.1, hI.2.1, hI.2.2.1, fun _ => ⟨hS, n3, n4, n5⟩, hI.2.2.2.2.1, (fun q => by cases q)⟩, hs1, hs2, fS_I hn hI hf⟩
    · refine okw_t h (out := out) (b := 0) (t := 2) ?_ ?_ (by decide)
      · unfold f_L_plan f_X10_plan
        rw [br_ne hp.1, br_eq hp.2, h1.1.1, b130, br_eq_f hS (by omega) (by omega)]
        simp only [br_T, br_F, gd_T, br_00, br_10, Option.bind_some, rx_0, rx_s, el_l, el_r, br_A_A, br_S_S, br_I_I, br_S_A, br_I_A, br_A_I, br_I_S, gd_o, goes_00, goes_01, goes_10, goes_11, zI_t, zI_f, ri_0, ri_1, gd_130, c_130, gd_131, c_131, gd_132, c_132, gd_317, c_317, gd_348, c_348, gd_349, c_349, gd_550, c_550, gd_551, c_551, gd_552, c_552]
      · unfold f_X11_plan f_X11_plan_J31
        rw [in02, decide_eq_true hp, lo]
        simp only [br_T, br_F, gd_T, br_00, br_10, Option.bind_some, rx_0, rx_s, el_l, el_r, br_A_A, br_S_S, br_I_I, br_S_A, br_I_A, br_A_I, br_I_S, gd_o, goes_00, goes_01, goes_10, goes_11, zI_t, zI_f, ri_0, ri_1, gd_130, c_130, gd_131, c_131, gd_132, c_132, gd_317, c_317, gd_348, c_348, gd_349, c_349, gd_550, c_550, gd_551, c_551, gd_552, c_552, a130]
        rw [br_eq_f hS (by omega) (by omega)]
  · refine okw_t h (out := out) (b := 0) (t := 1) ?_ ?_ (by decide)
    · unfold f_L_plan f_X10_plan
      by_cases e : p1 < 0
      · rw [br_eq e]; simp only [br_T, br_F, gd_T, br_00, br_10, Option.bind_some, rx_0, rx_s, el_l, el_r, br_A_A, br_S_S, br_I_I, br_S_A, br_I_A, br_A_I, br_I_S, gd_o, goes_00, goes_01, goes_10, goes_11, zI_t, zI_f, ri_0, ri_1, gd_130, c_130, gd_131, c_131, gd_132, c_132, gd_317, c_317, gd_348, c_348, gd_349, c_349, gd_550, c_550, gd_551, c_551, gd_552, c_552]
      · rw [br_ne e, br_ne (fun z => hp ⟨e, z⟩)]; simp only [br_T, br_F, gd_T, br_00, br_10, Option.bind_some, rx_0, rx_s, el_l, el_r, br_A_A, br_S_S, br_I_I, br_S_A, br_I_A, br_A_I, br_I_S, gd_o, goes_00, goes_01, goes_10, goes_11, zI_t, zI_f, ri_0, ri_1, gd_130, c_130, gd_131, c_131, gd_132, c_132, gd_317, c_317, gd_348, c_348, gd_349, c_349, gd_550, c_550, gd_551, c_551, gd_552, c_552]
    · unfold f_X11_plan f_X11_plan_J31
      rw [in02, decide_eq_false hp, lo]
      simp only [br_T, br_F, gd_T, br_00, br_10, Option.bind_some, rx_0, rx_s, el_l, el_r, br_A_A, br_S_S, br_I_I, br_S_A, br_I_A, br_A_I, br_I_S, gd_o, goes_00, goes_01, goes_10, goes_11, zI_t, zI_f, ri_0, ri_1, gd_130, c_130, gd_131, c_131, gd_132, c_132, gd_317, c_317, gd_348, c_348, gd_349, c_349, gd_550, c_550, gd_551, c_551, gd_552, c_552, a130]
      by_cases q : nI x.1.2 = nI (dS x.2.2.1)
      · rw [br_eq q]
      · rw [br_ne q]
