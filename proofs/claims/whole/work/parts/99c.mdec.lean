theorem l172 {w0 : TModel} {D : XD} {g l p k : Nat} (hk : k < 30) (hg : g + l ≤ 64) (hp : p ≤ 200) (p2 p3 v5 v4 : Int32) : ∀ (d i n : Nat) (w : TModel), SM w0 w → i + d = l → d < n → mF w = -1 → (∃ t, t ≤ 200 ∧ mT w = nI t) → (∀ j, j < 64 → mZ w j = zI (cov D j)) → (∀ e, e < i → cov D (g + e) = false) → ((∀ e, e < l → cov D (g + e) = false) → f_X11_readsCommand_L172 (nI k) p2 p3 n w (nI i) (nI l) (nI p) (nI g) v5 v4 = f_X11_readsCommand_J217 (nI k) p2 p3 w (nI l) (nI g) v5 v4) ∧ (¬ (∀ e, e < l → cov D (g + e) = false) → ∃ w', f_X11_readsCommand_L172 (nI k) p2 p3 n w (nI i) (nI l) (nI p) (nI g) v5 v4 = some w' ∧ KD w0 w' p) := by
  intro d
  induction d with
  | zero =>
    intro i n w hs hi hn hf ht hz he
    obtain ⟨n, rfl⟩ : ∃ k', n = k' + 1 := ⟨n - 1, by omega⟩
    refine ⟨fun _ => ?_, fun z => absurd (fun e h1 => he e (by omega)) z⟩
    rw [f_X11_readsCommand_L172.eq_2, br_le_t (by omega) (by omega)]
  | succ d ih =>
    intro i n w hs hi hn hf ht hz he
    obtain ⟨n, rfl⟩ : ∃ k', n = k' + 1 := ⟨n - 1, by omega⟩
    rw [f_X11_readsCommand_L172.eq_2, br_le_f (by omega) (by omega), br_eq hf, nI_add, gd_in (by omega) (by omega), nI_clamp (by omega), show w.2.2.2.2.2.2.2.2.2.2.2.1 (g + i) = zI (cov D (g + i)) from hz (g + i) (by omega), br_z0]
    unfold f_X11_readsCommand_J206
    rw [nI_1]
    cases hcv : cov D (g + i)
    · rw [if_neg (by decide), mmust_1 hf, Option.bind_some]
      refine ih (i + 1) n w hs (by omega) (by omega) hf ht hz (fun e h1 => ?_)
      by_cases q : e = i
      · rw [q]; exact hcv
      · exact he e (by omega)
    · rw [if_pos rfl]
      refine ⟨(fun z => by rw [z i (by omega)] at hcv; cases hcv), fun _ => ?_⟩
      obtain ⟨t, t1, t2⟩ := ht
      obtain ⟨w1, e1, s1, d1⟩ := mmust_0 (f := p) hf t1 t2 (by omega)
      rw [e1, Option.bind_some]
      obtain ⟨n, rfl⟩ : ∃ k', n = k' + 1 := ⟨n - 1, by omega⟩
      exact d172 hk ⟨hs.t s1.1, d1⟩ n _ _ _ _ _ _
/-- how the reference stands behind a part of the code -/
def OM (w0 : TModel) (y : XB) (z : Nat ⊕ (Nat × XD)) (w : TModel) : Prop := match z with
  | .inl f => KD w0 w f
  | .inr q => LMx w0 w y q.1 q.2 (fb_ct (dK q.2) (dC q.2))
theorem tail2 {w0 : TModel} {y : XB} (hc0 : B2 200 349 350 (mA w0) y) (hI : BI y) {p : Nat} {D : XD} (hJ : PJ D) (hc : dC D < 30) {w : TModel} {k : Bool} (hw : LMx w0 w y p D (fb_ct (dK D) (dC D) + if k then 1 else 0)) {r : Nat} (hr : r ≤ 64) (hr0 : k = false → r = 0) : ∃ w', f_X11_readsCommand_J87 (nI (dC D)) (nI (dS D)) (nI (dT D)) w (kI k) (sI k r) = some w' ∧ OM w0 y (tlP y p D k r) w' := by
  have hn := hc0.2.1
  obtain ⟨j1, j2, j3⟩ := hJ
  have b2 := j1.2.1
  have b3 := j1.2.2.1
  have hcw := LMx_B hw hc0
  unfold f_X11_readsCommand_J87 tlP
  cases h1 : num y 0 64 p with
  | inl f =>
    obtain ⟨v, w1, e1, s1, d1⟩ := mnum_l hcw hI hw.2.1 hw.2.2.1 hw.2.2.2.1 (lo := 0) (hi := 64) (by omega) (by omega) h1
    rw [show f_X11_number w (0 : Int32) (64 : Int32) = some (v, w1) from e1, Option.bind_some, mnum_d d1, Option.bind_some]
    exact d87b hc ⟨hw.1.t s1.1, d1⟩ _ _ _ _ _
  | inr g =>
    obtain ⟨g1, g2, g3, g4⟩ := num_r h1
    obtain ⟨w1, e1, s1, t1, f1⟩ := mnum_r hcw hI hw.2.1 hw.2.2.1 (lo := 0) (hi := 64) (by omega) (by omega) h1
    have hw1 := LMx_SQ hw s1 t1 f1 (by omega)
    have hcw1 := LMx_B hw1 hc0
    rw [show f_X11_number w (0 : Int32) (64 : Int32) = some (nI g, w1) from e1, Option.bind_some]
    dsimp only
    cases h2 : num y 1 64 (p + 1) with
    | inl f =>
      obtain ⟨v, w2, e2, s2, d2⟩ := mnum_l hcw1 hI t1 f1 (by omega) (lo := 1) (hi := 64) (by omega) (by omega) h2
      rw [show f_X11_number w1 (1 : Int32) (64 : Int32) = some (v, w2) from e2, Option.bind_some]
      exact d87b hc ⟨hw1.1.t s2.1, d2⟩ _ _ _ _ _
    | inr l =>
      obtain ⟨l1, l2, l3, l4⟩ := num_r h2
      obtain ⟨w2, e2, s2, t2, f2⟩ := mnum_r hcw1 hI t1 f1 (lo := 1) (hi := 64) (by omega) (by omega) h2
      have hw2 := LMx_SQ hw1 s2 t2 f2 (by omega)
      rw [show f_X11_number w1 (1 : Int32) (64 : Int32) = some (nI l, w2) from e2, Option.bind_some]
      dsimp only
      rw [show w1.2.2.2.2.2.2.2.1 - (1 : Int32) = nI p by rw [show w1.2.2.2.2.2.2.2.1 = nI (p + 1) from t1]; exact nI_pred p]
      have em : w2.2.2.2.2.2.2.2.1 - (1 : Int32) = nI (p + 1) := by rw [show w2.2.2.2.2.2.2.2.1 = nI (p + 1 + 1) from t2]; exact nI_pred (p + 1)
      obtain ⟨wd, ed, sd, dd⟩ := mmust_0 (f := p + 1) f2 (t := p + 1 + 1) (by omega) t2 (by omega)
      -- the way on from the first check
      have go : ¬ (k = true ∧ dS D < r + l) → ∃ w', f_X11_readsCommand_J136 (nI (dC D)) (nI (dS D)) (nI (dT D)) w2 (nI l) (nI p) (nI g) (sI k r) (kI k) (1 : Int32) = some w' ∧ OM w0 y (if dT D < g + l then .inl (p + 1) else if clB D g l then .inl p else if k then .inr (p + 2, dP D true r g l) else if p + 2 + l ≤ y.2 then .inr (p + 2 + l, dQ y D g l (p + 2)) else .inl y.2) w' := by
        intro q1
        unfold f_X11_readsCommand_J136 f_X11_readsCommand_J160
        rw [em, mmust_1 f2, Option.bind_some, nI_add, em, mmust_1 f2, Option.bind_some]
        by_cases q2 : dT D < g + l
        · rw [br_lt_t q2 (by omega), if_pos q2, ed, Option.bind_some]
          exact d172 hc ⟨hw2.1.t sd.1, dd⟩ 9999 _ _ _ _ _ _
        · rw [br_lt_f (by omega) (by omega), if_neg q2]
          obtain ⟨a1, a2⟩ := l172 (w0 := w0) (D := D) (g := g) (l := l) (p := p) (k := dC D) hc (by omega) (by omega) (nI (dS D)) (nI (dT D)) (sI k r) (kI k) l 0 FUEL w2 hw2.1 (Nat.zero_add _) (by show _ < 10000; omega) f2 ⟨p + 1 + 1, by omega, t2⟩ hw2.2.2.2.2.2.2.2 (fun e h => by omega)
          cases q3 : clB D g l
          · rw [if_neg (by decide)]
            have hno : ∀ e, e < l → cov D (g + e) = false := fun e he => by
              cases z : cov D (g + e)
              · rfl
              · rw [(clB_cov j1 l3).mpr ⟨e, he, z⟩] at q3; cases q3
            have a1 := a1 hno
            unfold f_X11_readsCommand_J217 at a1
            obtain ⟨w3, e3, s31, s32, s33, s34, s35, s36, s37, s38⟩ := l220 (g := g) (l := l) (by omega) (nI (dC D)) (nI (dS D)) (nI (dT D)) (sI k r) (kI k) l 0 FUEL w2 (Nat.zero_add _) (by show _ < 10000; omega) f2
            unfold f_X11_readsCommand_J252 at e3
            have hZ3 : ∀ j, j < 64 → mZ w3 j = zI (cov (dP D k r g l) j) := fun j hj => by
              rw [cov_new]
              by_cases z : g ≤ j ∧ j < g + l
              · rw [show j = g + (j - g) by omega, s38 (j - g) (by omega) (by omega), ← show j = g + (j - g) by omega, decide_eq_true z.1, decide_eq_true z.2]
                simp; rfl
              · rw [s37 j (by omega), hw2.2.2.2.2.2.2.2 j hj]
                congr 1
                by_cases z1 : g ≤ j
                · rw [decide_eq_true z1, decide_eq_false (show ¬ j < g + l by omega)]; simp
                · rw [decide_eq_false z1]; simp
            have base : f_X11_readsCommand_L172 (nI (dC D)) (nI (dS D)) (nI (dT D)) FUEL w2 (0 : Int32) (nI l) (nI p) (nI g) (sI k r) (kI k) = f_X11_readsCommand_L255 (nI (dC D)) (nI (dS D)) (nI (dT D)) FUEL w3 (0 : Int32) (nI l) (nI g) (sI k r) (kI k) := a1.trans e3
            rw [base]
            have hC3 : mC w3 = nI (fb_ct (dK D) (dC D) + if k then 1 else 0) := s34.trans hw2.2.2.2.2.1
            have hQ3 : ∀ i, i < dC D → mQ w3 (4 * i) = kI (dK D i) ∧ mQ w3 (4 * i + 1) = sI (dK D i) (dR D i) ∧ mQ w3 (4 * i + 2) = nI (dG D i) ∧ mQ w3 (4 * i + 3) = nI (dL D i) := by rw [s35]; exact hw2.2.2.2.2.2.1
            have hB3 : AD (mB w3) D := by rw [s36]; exact hw2.2.2.2.2.2.2.1
            cases k
            · have h00 := hr0 rfl
              subst h00
              rw [if_neg (by decide)]
              obtain ⟨c1, c2⟩ := l255 hc0 (g := g) (l := l) (q := p + 2) (k := dC D) hc (by omega) (nI (dS D)) (nI (dT D)) (sI false 0) l 0 FUEL w3 (hw2.1.t s31) (Nat.zero_add _) (by show _ < 10000; omega) (s32.trans t2) s33 (by omega)
              by_cases q4 : p + 2 + l ≤ y.2
              · rw [if_pos q4]
                obtain ⟨w4, e4, u1, u2, u3, u4, u5, u6, u7, u8⟩ := c1 q4
                obtain ⟨w5, e5, h5⟩ := l296 (w0 := w0) (w := w4) (y := y) (p := p + 2 + l) (D := D) (ct := fb_ct (dK D) (dC D)) ⟨u1, u2, u3, q4, u4.trans hC3⟩ (by rw [u5]; exact hQ3) hc false 0 g l (nI (dS D)) (nI (dT D)) (D' := dQ y D g l (p + 2)) ⟨rfl, rfl, rfl, rfl, rfl⟩ (fun i hi hK j hj => by
                  show mB w4 (dG (dP D false 0 g l) i + j) = fb_put (dA D) (fun e => y.1 (p + 2 + e)) g l (dG (dP D false 0 g l) i + j)
                  have hi : i < dC D + 1 := hi
                  have hK : dK (dP D false 0 g l) i = false := hK
                  have hj : j < dL (dP D false 0 g l) i := hj
                  by_cases z : i = dC D
                  · subst z
                    obtain ⟨g1', g2', g3', g4'⟩ := dP_c (x := D) (k := false) (r := 0) (g := g) (l := l)
                    rw [g4'] at hj
                    rw [g3', fb_put_in (by omega) (by omega), u8 j (by omega) hj, show g + j - g = j by omega]
                  · obtain ⟨g1', g2', g3', g4'⟩ := dP_K (x := D) (k := false) (r := 0) (g := g) (l := l) (show i < dC D by omega)
                    rw [g1'] at hK
                    rw [g4'] at hj
                    have hno2 : ¬ (dG D i < g + l ∧ g < dG D i + dL D i) := fun z => by rw [clB_y.mpr ⟨i, by omega, z⟩] at q3; cases q3
                    rw [g3', u7 _ (by omega), fb_put_out (by omega)]
                    exact hB3 i (by omega) hK j hj) (by rw [u6]; exact hZ3)
                refine ⟨w5, e4.trans e5, ?_⟩
                show LMx w0 w5 y (p + 2 + l) (dQ y D g l (p + 2)) (fb_ct (dK (dP D false 0 g l)) (dC D + 1))
                rw [dP_ct]
                exact h5
              · rw [if_neg q4]
                exact c2 (by omega)
            · rw [if_pos rfl]
              obtain ⟨w5, e5, h5⟩ := l296 (w0 := w0) (w := w3) (y := y) (p := p + 2) (D := D) (ct := fb_ct (dK D) (dC D) + 1) ⟨hw2.1.t s31, s32.trans t2, s33, by omega, hC3⟩ hQ3 hc true r g l (nI (dS D)) (nI (dT D)) (D' := dP D true r g l) ⟨rfl, rfl, rfl, rfl, rfl⟩ (AD_copy hB3) hZ3
              refine ⟨w5, ?_, ?_⟩
              · rw [show FUEL = 9999 + 1 from rfl, f_X11_readsCommand_L255.eq_2, br_ne (show ¬ nI l ≤ 0 from nI_nle (by omega) (by omega)), br_ne (show ¬ kI true = 2 by decide)]
                exact e5
              · show LMx w0 w5 y (p + 2) (dP D true r g l) (fb_ct (dK (dP D true r g l)) (dC D + 1))
                rw [dP_ct]
                exact h5
          · rw [if_pos rfl]
            refine a2 (fun z => ?_)
            obtain ⟨i, i1, i2⟩ := (clB_cov j1 l3).mp q3
            rw [z i i1] at i2; cases i2
      by_cases q1 : k = true ∧ dS D < r + l
      · rw [if_pos q1, br_eq (show kI k = 1 by rw [q1.1]; rfl), show sI k r = nI r by rw [q1.1]; rfl, nI_add, br_lt_t q1.2 (by omega)]
        unfold f_X11_readsCommand_J136
        rw [em, ed, Option.bind_some]
        by_cases z : nI (dT D) < nI g + nI l
        · rw [br_eq z]; exact d160 hc ⟨hw2.1.t sd.1, dd⟩ _ _ _ _ _ _
        · rw [br_ne z]; exact d160 hc ⟨hw2.1.t sd.1, dd⟩ _ _ _ _ _ _
      · rw [if_neg q1]
        have go := go q1
        unfold f_X11_readsCommand_J131
        cases k
        · rw [br_ne (show ¬ kI false = 1 by decide)]
          exact go
        · rw [br_eq (show kI true = 1 from rfl), br_ne (show ¬ nI (dS D) < sI true r + nI l by
            show ¬ nI (dS D) < nI r + nI l
            rw [nI_add]
            exact nI_nlt (Nat.not_lt.mp (fun z => q1 ⟨rfl, z⟩)) (by omega))]
          exact go
def setC (w : TModel) (v : Int32) : TModel := (w.1, w.2.1, w.2.2.1, w.2.2.2.1, w.2.2.2.2.1, w.2.2.2.2.2.1, w.2.2.2.2.2.2.1, w.2.2.2.2.2.2.2.1, w.2.2.2.2.2.2.2.2.1, w.2.2.2.2.2.2.2.2.2.1, w.2.2.2.2.2.2.2.2.2.2.1, w.2.2.2.2.2.2.2.2.2.2.2.1, v, w.2.2.2.2.2.2.2.2.2.2.2.2.2)
theorem cmd2 {w0 : TModel} {y : XB} (hc0 : B2 200 349 350 (mA w0) y) (hI : BI y) {p : Nat} {D : XD} (hJ : PJ D) (hc : dC D < 30) {w : TModel} (hw : LMx w0 w y p D (fb_ct (dK D) (dC D))) : ∃ w', f_X11_readsCommand w (nI (dC D)) (nI (dS D)) (nI (dT D)) = some w' ∧ OM w0 y (cmP y p D) w' := by
  have hn := hc0.2.1
  obtain ⟨j1, j2, j3⟩ := id hJ
  have hcw := LMx_B hw hc0
  obtain ⟨v1, v2, v3, v4, v5, v6, v7, v8⟩ := id hw
  have hlk : lk D = 1 ∨ lk D = 2 := by unfold lk; split <;> omega
  have hlk1 : lk D = 1 ↔ fb_ct (dK D) (dC D) < 12 := by
    unfold lk
    split
    · exact ⟨fun _ => by assumption, fun _ => rfl⟩
    · exact ⟨fun z => by omega, fun z => by omega⟩
  have hup : ∀ (w' : TModel) (p' : Nat) (v : Nat), LMx w0 w' y p' D (fb_ct (dK D) (dC D)) → LMx w0 (setC w' (nI v)) y p' D v := fun w' p' v h => ⟨h.1, h.2.1, h.2.2.1, h.2.2.2.1, rfl, h.2.2.2.2.2.1, h.2.2.2.2.2.2.1, h.2.2.2.2.2.2.2⟩
  unfold f_X11_readsCommand f_X11_readsCommand_J28 f_X11_readsCommand_J32 cmP
  by_cases hp : p < y.2
  · obtain ⟨w1, e1, s1, t1, f1⟩ := mnext_r hcw v2 v3 hp
    have hw1 := LMx_SQ hw s1 t1 f1 (show p + 1 ≤ y.2 by omega)
    obtain ⟨q1, q2⟩ := cm_is hI hp
    have hcw1 := LMx_B hw1 hc0
    have em : w1.2.2.2.2.2.2.2.1 - (1 : Int32) = nI p := by rw [show w1.2.2.2.2.2.2.2.1 = nI (p + 1) from t1]; exact nI_pred p
    obtain ⟨wd, ed, sd, dd⟩ := mmust_0 (f := p) f1 (t := p + 1) (by omega) t1 (by omega)
    have bad : ∃ w', f_X11_readsCommand_J33 (nI (dC D)) (nI (dS D)) (nI (dT D)) w1 (nI (cm y p)) (0 : Int32) = some w' ∧ KD w0 w' p := by
      unfold f_X11_readsCommand_J33
      rw [em, ed, Option.bind_some]
      have hk : KD w0 wd p := ⟨hw1.1.t sd.1, dd⟩
      by_cases z : nI (cm y p) = 1
      · rw [br_eq z]; exact d58 hc hk _ _ _
      · rw [br_ne z]; exact d58 hc hk _ _ _
    rw [e1, Option.bind_some, q1]
    dsimp only
    rw [show w1.2.2.2.2.2.2.2.2.2.2.2.2.1 = nI (fb_ct (dK D) (dC D)) from hw1.2.2.2.2.1]
    by_cases k2 : cm y p = 2
    · have hnum : num y (lk D) 2 p = .inr 2 := by
        unfold num
        rw [if_neg (by omega), if_pos ⟨by omega, by omega⟩, k2]
      rw [hnum, k2, br_eq (show nI 2 = 2 from rfl)]
      dsimp only
      rw [if_neg (by omega)]
      unfold f_X11_readsCommand_J33 f_X11_readsCommand_J58 f_X11_readsCommand_J86
      rw [mmust_1 f1, Option.bind_some, br_ne (show ¬ nI 2 = 1 by decide), br_ne (show ¬ nI 2 = 1 by decide), show w1.2.2.2.2.2.2.2.2.2.2.2.2.1 = nI (fb_ct (dK D) (dC D)) from hw1.2.2.2.2.1, show nI (fb_ct (dK D) (dC D)) + 0 = nI (fb_ct (dK D) (dC D) + 0) from nI_add _ 0]
      exact tail2 hc0 hI hJ hc (w := setC w1 (nI (fb_ct (dK D) (dC D) + 0))) (k := false) (hup w1 (p + 1) _ hw1) (r := 0) (by omega) (fun _ => rfl)
    · rw [br_ne (show ¬ nI (cm y p) = 2 from fun z => k2 ((nI_eq (b := 2) (by omega) (by omega)).mp z))]
      by_cases k1 : cm y p = 1
      · rw [br_eq (show nI (cm y p) = 1 by rw [k1]; rfl)]
        by_cases hct : fb_ct (dK D) (dC D) < 12
        · have hnum : num y (lk D) 2 p = .inr 1 := by
            unfold num
            have := hlk1.mpr hct
            rw [if_neg (by omega), if_pos ⟨by omega, by omega⟩, k1]
          rw [hnum, k1, br_ne (show ¬ (12 : Int32) ≤ nI (fb_ct (dK D) (dC D)) from nI_ge (b := 12) hct (by omega))]
          dsimp only
          rw [if_pos rfl]
          unfold f_X11_readsCommand_J33 f_X11_readsCommand_J58
          rw [mmust_1 f1, Option.bind_some, br_eq (show nI 1 = 1 from rfl), br_eq (show nI 1 = 1 from rfl), br_eq f1, show w1.2.2.2.2.2.2.2.2.2.2.2.2.1 = nI (fb_ct (dK D) (dC D)) from hw1.2.2.2.2.1, nI_1]
          have hwc := hup w1 (p + 1) (fb_ct (dK D) (dC D) + 1) hw1
          cases h2 : num y 0 64 (p + 1) with
          | inl f =>
            obtain ⟨v, w2, e2, s2, d2⟩ := mnum_l (w := setC w1 (nI (fb_ct (dK D) (dC D) + 1))) hcw1 hI t1 f1 (by omega) (lo := 0) (hi := 64) (by omega) (by omega) h2
            have hd := d87 (w0 := w0) (p2 := nI (dS D)) (p3 := nI (dT D)) hc ⟨hw1.1.t s2.1, d2⟩ (nI 1) v
            refine Exists.imp (fun w' hh => ⟨?_, hh.2⟩) hd
            refine Eq.trans ?_ hh.1
            exact (congrArg (fun z => Option.bind z _) (show f_X11_number (setC w1 (nI (fb_ct (dK D) (dC D) + 1))) (0 : Int32) (64 : Int32) = some (v, w2) from e2)).trans rfl
          | inr r =>
            obtain ⟨r1, r2, r3, r4⟩ := num_r h2
            obtain ⟨w2, e2, s2, t2, f2⟩ := mnum_r (w := setC w1 (nI (fb_ct (dK D) (dC D) + 1))) hcw1 hI t1 f1 (lo := 0) (hi := 64) (by omega) (by omega) h2
            have hw2 := LMx_SQ hwc s2 t2 f2 (show p + 1 + 1 ≤ y.2 by omega)
            have hd := tail2 hc0 hI hJ hc (w := w2) (k := true) hw2 (r := r) r4 (fun z => by cases z)
            refine Exists.imp (fun w' hh => ⟨?_, hh.2⟩) hd
            refine Eq.trans ?_ hh.1
            exact (congrArg (fun z => Option.bind z _) (show f_X11_number (setC w1 (nI (fb_ct (dK D) (dC D) + 1))) (0 : Int32) (64 : Int32) = some (nI r, w2) from e2)).trans rfl
        · have hnum : num y (lk D) 2 p = .inl p := by
            unfold num
            have : lk D = 2 := by rcases hlk with z | z; exact absurd (hlk1.mp z) hct; exact z
            rw [if_neg (by omega), if_neg (fun z => by omega)]
          rw [hnum, br_eq (show (12 : Int32) ≤ nI (fb_ct (dK D) (dC D)) from nI_le (a := 12) (by omega) (by omega))]
          exact bad
      · have hnum : num y (lk D) 2 p = .inl p := by
          unfold num
          rw [if_neg (by omega), if_neg (fun z => by omega)]
        rw [hnum, br_ne (show ¬ nI (cm y p) = 1 from fun z => k1 ((nI_eq (b := 1) (by omega) (by omega)).mp z))]
        exact bad
  · have hnum : num y (lk D) 2 p = .inl y.2 := by
      unfold num
      rw [if_pos (by omega)]
    obtain ⟨w1, e1, s1, d1⟩ := mnext_e hcw (by rw [v2]; congr 1; omega) v3
    rw [hnum, e1, Option.bind_some, br_ne (show ¬ (0 : Int32) = 2 by decide), br_ne (show ¬ (0 : Int32) = 1 by decide)]
    exact d33 hc ⟨v1.t s1.1, d1⟩ _ _
