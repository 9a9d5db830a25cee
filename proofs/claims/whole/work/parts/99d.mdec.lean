theorem cmP_S {y : XB} {p : Nat} {D : XD} {z : Nat × XD} (h : cmP y p D = .inr z) : dS z.2 = dS D ∧ dT z.2 = dT D := by
  have tl : ∀ (p : Nat) (k : Bool) (r : Nat), tlP y p D k r = .inr z → dS z.2 = dS D ∧ dT z.2 = dT D := by
    intro p k r ht
    unfold tlP at ht
    cases h1 : num y 0 64 p with
    | inl f => rw [h1] at ht; cases ht
    | inr g =>
      rw [h1] at ht
      dsimp only at ht
      cases h2 : num y 1 64 (p + 1) with
      | inl f => rw [h2] at ht; cases ht
      | inr l =>
        rw [h2] at ht
        dsimp only at ht
        split at ht
        · cases ht
        · split at ht
          · cases ht
          · split at ht
            · cases ht
            · split at ht
              · cases ht; exact ⟨rfl, rfl⟩
              · split at ht
                · cases ht; exact ⟨rfl, rfl⟩
                · cases ht
  unfold cmP at h
  cases h1 : num y (lk D) 2 p with
  | inl f => rw [h1] at h; cases h
  | inr k =>
    rw [h1] at h
    dsimp only at h
    split at h
    · cases h2 : num y 0 64 (p + 1) with
      | inl f => rw [h2] at h; cases h
      | inr r => rw [h2] at h; exact tl _ _ _ h
    · exact tl _ _ _ h
/-- copying what was read -/
theorem c281 (c : Int32) : ∀ (d i k : Nat) (w : TModel), i + d = 64 → d < k → ∃ a', f_X11_decode_L281 k w (nI i) c = some (c, sA w a') ∧ (∀ j, (j < 253 + i ∨ 317 ≤ j) → a' j = mA w j) ∧ ∀ e, i ≤ e → e < 64 → a' (253 + e) = mB w e := by
  intro d
  induction d with
  | zero =>
    intro i k w hi hk
    obtain ⟨k, rfl⟩ : ∃ k', k = k' + 1 := ⟨k - 1, by omega⟩
    refine ⟨mA w, ?_, fun _ _ => rfl, fun e h1 h2 => by omega⟩
    rw [f_X11_decode_L281.eq_2, br_eq (show (64 : Int32) ≤ nI i from nI_le (a := 64) (by omega) (by omega))]
    rfl
  | succ d ih =>
    intro i k w hi hk
    obtain ⟨k, rfl⟩ : ∃ k', k = k' + 1 := ⟨k - 1, by omega⟩
    obtain ⟨a', e1, b1, b2⟩ := ih (i + 1) k (sA w (upd (mA w) (253 + i) (mB w i))) (by omega) (by omega)
    refine ⟨a', ?_, fun j hj => ?_, fun e h1 h2 => ?_⟩
    · have step : f_X11_decode_L281 (k + 1) w (nI i) c = f_X11_decode_L281 k (sA w (upd (mA w) (253 + i) (mB w i))) (nI (i + 1)) c := by
        rw [f_X11_decode_L281.eq_2, br_ne (show ¬ (64 : Int32) ≤ nI i from nI_ge (b := 64) (by omega) (by omega)), gd_in (by omega) (by omega), show (253 : Int32) + nI i = nI (253 + i) from nI_add 253 _, gd_in (by omega) (by omega), nI_clamp (by omega), nI_clamp (by omega), nI_1]
        rfl
      exact step.trans e1
    · rw [b1 j (by omega), mA_sA, upd_ne _ _ (by omega)]
    · by_cases q : e = i
      · rw [q, b1 _ (by omega), mA_sA, upd_at]
      · exact b2 e (by omega) h2
theorem c245 {c : Nat} (hc : c ≤ 30) : ∀ (d i k : Nat) (w : TModel), i + d = 4 * c → d < k → ∃ a', f_X11_decode_L245 k w (nI i) (nI c) = f_X11_decode_L281 FUEL (sA w a') (0 : Int32) (nI c) ∧ (∀ j, (j < 133 + i ∨ 133 + 4 * c ≤ j) → a' j = mA w j) ∧ ∀ e, i ≤ e → e < 4 * c → a' (133 + e) = mQ w e := by
  intro d
  induction d with
  | zero =>
    intro i k w hi hk
    obtain ⟨k, rfl⟩ : ∃ k', k = k' + 1 := ⟨k - 1, by omega⟩
    refine ⟨mA w, ?_, fun _ _ => rfl, fun e h1 h2 => by omega⟩
    rw [f_X11_decode_L245.eq_2, show (4 : Int32) * nI c = nI (4 * c) from pk_mul 4 c, br_le_t (by omega) (by omega)]
    rfl
  | succ d ih =>
    intro i k w hi hk
    obtain ⟨k, rfl⟩ : ∃ k', k = k' + 1 := ⟨k - 1, by omega⟩
    obtain ⟨a', e1, b1, b2⟩ := ih (i + 1) k (sA w (upd (mA w) (133 + i) (mQ w i))) (by omega) (by omega)
    refine ⟨a', ?_, fun j hj => ?_, fun e h1 h2 => ?_⟩
    · have step : f_X11_decode_L245 (k + 1) w (nI i) (nI c) = f_X11_decode_L245 k (sA w (upd (mA w) (133 + i) (mQ w i))) (nI (i + 1)) (nI c) := by
        rw [f_X11_decode_L245.eq_2, show (4 : Int32) * nI c = nI (4 * c) from pk_mul 4 c, br_le_f (by omega) (by omega), gd_in (by omega) (by omega), show (133 : Int32) + nI i = nI (133 + i) from nI_add 133 _, gd_in (by omega) (by omega), nI_clamp (by omega), nI_clamp (by omega), nI_1]
        rfl
      exact step.trans e1
    · rw [b1 j (by omega), mA_sA, upd_ne _ _ (by omega)]
    · by_cases q : e = i
      · rw [q, b1 _ (by omega), mA_sA, upd_at]
      · exact b2 e (by omega) h2
/-- what the reference's decode comes to -/
def OD (w0 : TModel) (x : XS) (n : Nat) (f : Nat → XS) (z : Nat ⊕ XD) (r : Int32 × TModel) : Prop := match z with
  | .inl e => r.1 = (-10 : Int32) - nI e ∧ SM w0 r.2
  | .inr D => r.1 = nI (dC D) ∧ S2 (mA r.2) (xm x D) ∧ H2 r.2 (nS n) (fS n f x)
theorem j183d {w0 w : TModel} {x : XS} {n : Nat} {f : Nat → XS} {e : Nat} (h : KD w0 w e) (a b c s : Int32) : ∃ r, f_X11_decode_J183 w a b c s = some r ∧ OD w0 x n f (.inl e) r := by
  unfold f_X11_decode_J183
  rw [mmust_d h.2, Option.bind_some, br_ne (DM_m1 h.2)]
  refine ⟨_, rfl, ?_, h.1⟩
  show (-10 : Int32) - w.2.2.2.2.2.2.2.2.1 = _
  rw [show w.2.2.2.2.2.2.2.2.1 = nI e from h.2.2.1]
theorem j183 {w0 w : TModel} {x : XS} {n : Nat} {f : Nat → XS} (hn : n ≤ 4) (hI : SI x) (hf : ∀ j, j < n → SI (f j)) (h4 : H2 w0 n f) (h2 : S2 (mA w0) x) {y : XB} {p ct : Nat} {D : XD} (hw : LMx w0 w y p D ct) (hJ : PJ D) : ∃ r, f_X11_decode_J183 w (nI (dC D)) (nI (dT D)) (nI (dS D)) (1 : Int32) = some r ∧ OD w0 x n f (.inr D) r := by
  obtain ⟨v1, v2, v3, v4, v5, v6, v7, v8⟩ := hw
  obtain ⟨j1, j2, j3⟩ := hJ
  have hc := j1.1
  have hS := v1.S h2
  have hH : H2 w n f := ⟨v1.2.2.1.trans h4.1, by rw [v1.2.1]; exact h4.2⟩
  obtain ⟨sv, es, hs⟩ := X11_save hn hI hf hH hS
  unfold f_X11_decode_J183
  rw [mmust_1 v3, Option.bind_some, br_eq v3, es, Option.bind_some, drop2, Option.bind_some, gd_130, gd_131, gd_132, c_130, c_131, c_132]
  obtain ⟨a1, e1, b1, b2⟩ := c245 hc (4 * dC D) 0 FUEL (sA (sSv w sv (nI (nS n))) (upd (upd (upd (aD (mA w)) 130 (nI (dS D))) 131 (nI (dT D))) 132 (nI (dC D)))) (Nat.zero_add _) (by show _ < 10000; omega)
  obtain ⟨a2, e2, b3, b4⟩ := c281 (nI (dC D)) 64 0 FUEL (sA (sSv w sv (nI (nS n))) a1) rfl (by decide)
  refine ⟨(nI (dC D), sA (sSv w sv (nI (nS n))) a2), ?_, rfl, ?_, hs⟩
  · exact e1.trans e2
  · rw [mA_sA] at b1 b3 ⊢
    have hv : ∀ j, (j < 130 ∨ 317 ≤ j) → aD (mA w) j = a2 j := fun j hj => by
      rw [b3 j (by omega), b1 j (by omega), upd_ne _ _ (by omega), upd_ne _ _ (by omega), upd_ne _ _ (by omega)]
    obtain ⟨g1, g2, g3, g4, g5, g6⟩ := dropS hI hS
    refine ⟨B2_cong (hv _ (by omega)) (fun k _ _ => hv k (by omega)) g1, B2_cong (hv _ (by omega)) (fun k _ _ => hv k (by omega)) g2, ⟨?_, ?_, ?_, fun k hk => ?_, fun k hk hK i hi => ?_⟩, ⟨by rw [← hv 317 (by omega)]; exact g4.1, (fun q => by cases q)⟩, B2_cong (hv _ (by omega)) (fun k _ _ => hv k (by omega)) g5, W2_cong (fun k _ _ => hv k (by omega)) g6⟩
    · rw [b3 _ (by omega), b1 _ (by omega), upd_ne _ _ (by omega), upd_ne _ _ (by omega), upd_at]; rfl
    · rw [b3 _ (by omega), b1 _ (by omega), upd_ne _ _ (by omega), upd_at]; rfl
    · rw [b3 _ (by omega), b1 _ (by omega), upd_at]; rfl
    · have hk : k < dC D := hk
      obtain ⟨z1, z2, z3, z4⟩ := v6 k hk
      refine ⟨?_, ?_, ?_, ?_⟩
      · rw [b3 _ (by omega), b2 (4 * k) (by omega) (by omega)]; exact z1
      · rw [show 133 + 4 * k + 1 = 133 + (4 * k + 1) by omega, b3 _ (by omega), b2 (4 * k + 1) (by omega) (by omega)]; exact z2
      · rw [show 133 + 4 * k + 2 = 133 + (4 * k + 2) by omega, b3 _ (by omega), b2 (4 * k + 2) (by omega) (by omega)]; exact z3
      · rw [show 133 + 4 * k + 3 = 133 + (4 * k + 3) by omega, b3 _ (by omega), b2 (4 * k + 3) (by omega) (by omega)]; exact z4
    · have hk : k < dC D := hk
      have hi : i < dL D k := hi
      have bk := (j1.2.2.2 k hk).2.1
      have b3' := j1.2.2.1
      show a2 (253 + (dG D k + i)) = dA D (dG D k + i)
      rw [b4 (dG D k + i) (by omega) (by omega)]
      exact v7 k hk hK i hi
theorem l113d {w0 w : TModel} {x : XS} {n : Nat} {f : Nat → XS} {e t : Nat} (ht : t ≤ 200) (hT : mT w = nI t) (h : KD w0 w e) (a b c : Int32) : ∀ (d i k : Nat) (s : Int32), i + d = t → d < k → ∃ r, f_X11_decode_L113 k w (nI i) s a b c = some r ∧ OD w0 x n f (.inl e) r := by
  intro d
  induction d with
  | zero =>
    intro i k s hi hk
    obtain ⟨k, rfl⟩ : ∃ k', k = k' + 1 := ⟨k - 1, by omega⟩
    rw [f_X11_decode_L113.eq_2, br_eq (show w.2.2.2.2.2.2.2.1 ≤ nI i by rw [show w.2.2.2.2.2.2.2.1 = nI t from hT]; exact nI_le (by omega) (by omega)), mnum_d h.2, Option.bind_some, gd_349, c_349]
    by_cases q : w.2.2.2.2.2.2.2.1 = w.1 349
    · rw [br_eq q]; exact j183d h _ _ _ _
    · rw [br_ne q]; exact j183d h _ _ _ _
  | succ d ih =>
    intro i k s hi hk
    obtain ⟨k, rfl⟩ : ∃ k', k = k' + 1 := ⟨k - 1, by omega⟩
    rw [f_X11_decode_L113.eq_2, br_ne (show ¬ w.2.2.2.2.2.2.2.1 ≤ nI i by rw [show w.2.2.2.2.2.2.2.1 = nI t from hT]; exact nI_ge (by omega) (by omega)), show (350 : Int32) + nI i = nI (350 + i) from nI_add 350 _, gd_in (by omega) (by omega), nm_eq, nI_1]
    exact ih (i + 1) k _ (by omega) (by omega)
theorem j107d {w0 w : TModel} {x : XS} {n : Nat} {f : Nat → XS} {e : Nat} (h : KD w0 w e) (a b c : Int32) : ∃ r, f_X11_decode_J107 w a b c = some r ∧ OD w0 x n f (.inl e) r := by
  obtain ⟨t, t1, t2⟩ := h.2.2.2
  exact l113d t1 t2 h a b c t 0 FUEL 0 (Nat.zero_add _) (by show _ < 10000; omega)
theorem l113 {w0 w : TModel} {x : XS} {n : Nat} {f : Nat → XS} (hn : n ≤ 4) (hI : SI x) (hf : ∀ j, j < n → SI (f j)) (h4 : H2 w0 n f) (h2 : S2 (mA w0) x) {p ct : Nat} {D : XD} (hw : LMx w0 w x.2.2.2.2.1 p D ct) (hJ : PJ D) : ∀ (d i k : Nat), i + d = p → d < k → ∃ r, f_X11_decode_L113 k w (nI i) (nI (sC x.2.2.2.2.1 i)) (nI (dC D)) (nI (dT D)) (nI (dS D)) = some r ∧ OD w0 x n f (ckP x.2.2.2.2.1 (p, D)) r := by
  have hc0 := h2.2.2.2.2.1
  have hcw := LMx_B hw hc0
  have hBI := hI.2.2.2.2.1
  obtain ⟨v1, v2, v3, v4, v5, v6, v7, v8⟩ := id hw
  have hn200 := hc0.2.1
  intro d
  induction d with
  | zero =>
    intro i k hi hk
    obtain ⟨k, rfl⟩ : ∃ k', k = k' + 1 := ⟨k - 1, by omega⟩
    have hip : i = p := by omega
    subst hip
    have hs := sC_le hBI v4
    have e251 : (nI (sC x.2.2.2.2.1 i) - nI (sC x.2.2.2.2.1 i) / (251 : Int32) * (251 : Int32)) = nI (sC x.2.2.2.2.1 i % 251) := pk_rem (d := 251) (by omega) (by omega) (by omega)
    have h251 := Nat.mod_lt (sC x.2.2.2.2.1 i) (show 0 < 251 by omega)
    rw [f_X11_decode_L113.eq_2, br_eq (show w.2.2.2.2.2.2.2.1 ≤ nI i by rw [show w.2.2.2.2.2.2.2.1 = nI i from v2]; exact nI_le (Nat.le_refl _) (by omega)), e251]
    unfold ckP
    dsimp only
    cases h1 : num x.2.2.2.2.1 (sC x.2.2.2.2.1 i % 251) (sC x.2.2.2.2.1 i % 251) i with
    | inl g =>
      obtain ⟨v, w1, e1, s1, d1⟩ := mnum_l hcw hBI v2 v3 v4 (by omega) (by omega) h1
      rw [e1, Option.bind_some, gd_349, c_349]
      have hk1 : KD w0 w1 g := ⟨v1.t s1.1, d1⟩
      dsimp only
      by_cases q : w1.2.2.2.2.2.2.2.1 = w1.1 349
      · rw [br_eq q]; exact j183d hk1 _ _ _ _
      · rw [br_ne q]; exact j183d hk1 _ _ _ _
    | inr v =>
      obtain ⟨a1, a2, a3, a4⟩ := num_r h1
      obtain ⟨w1, e1, s1, t1, f1⟩ := mnum_r hcw hBI v2 v3 (by omega) (by omega) h1
      have hw1 := LMx_SQ hw s1 t1 f1 (show i + 1 ≤ x.2.2.2.2.1.2 by omega)
      have hcw1 := LMx_B hw1 hc0
      rw [e1, Option.bind_some, gd_349, c_349]
      dsimp only
      rw [show w1.1 349 = nI x.2.2.2.2.1.2 from hcw1.1, show w1.2.2.2.2.2.2.2.1 = nI (i + 1) from t1]
      by_cases q : i + 1 = x.2.2.2.2.1.2
      · rw [br_eq_t q, if_pos q]
        exact j183 hn hI hf h4 h2 hw1 hJ
      · rw [br_eq_f q (by omega) (by omega), if_neg q]
        obtain ⟨w2, e2, s2, d2⟩ := mmust_0 (f := i + 1) f1 (t := i + 1) (by omega) t1 (by omega)
        have hk2 : KD w0 w2 (i + 1) := ⟨hw1.1.t s2.1, d2⟩
        unfold f_X11_decode_J183
        rw [show w1.2.2.2.2.2.2.2.1 = nI (i + 1) from t1, e2, Option.bind_some, br_ne (DM_m1 d2)]
        refine ⟨_, rfl, ?_, hk2.1⟩
        show (-10 : Int32) - w2.2.2.2.2.2.2.2.2.1 = _
        rw [show w2.2.2.2.2.2.2.2.2.1 = nI (i + 1) from d2.2.1]
  | succ d ih =>
    intro i k hi hk
    obtain ⟨k, rfl⟩ : ∃ k', k = k' + 1 := ⟨k - 1, by omega⟩
    rw [f_X11_decode_L113.eq_2, br_ne (show ¬ w.2.2.2.2.2.2.2.1 ≤ nI i by rw [show w.2.2.2.2.2.2.2.1 = nI p from v2]; exact nI_ge (by omega) (by omega)), show (350 : Int32) + nI i = nI (350 + i) from nI_add 350 _, gd_in (by omega) (by omega), nm_eq, nI_1, nI_clamp (by omega), show w.1 (350 + i) = x.2.2.2.2.1.1 i from hcw.2.2 i (by omega), (cm_is hBI (show i < x.2.2.2.2.1.2 by omega)).1, nI_add]
    exact ih (i + 1) k (by omega) (by omega)
theorem l78 {w0 : TModel} {x : XS} {n : Nat} {f : Nat → XS} (hn : n ≤ 4) (hI : SI x) (hf : ∀ j, j < n → SI (f j)) (h4 : H2 w0 n f) (h2 : S2 (mA w0) x) {c S T : Nat} (hc : c ≤ 30) : ∀ (d i k p : Nat) (D : XD) (w : TModel), i + d = c → d < k → dC D = i → dS D = S → dT D = T → PJ D → LMx w0 w x.2.2.2.2.1 p D (fb_ct (dK D) (dC D)) → ∃ r, f_X11_decode_L78 k w (nI i) (nI c) (nI T) (nI S) = some r ∧ OD w0 x n f (csR x.2.2.2.2.1 d p D) r := by
  have hc0 := h2.2.2.2.2.1
  have hn200 := hc0.2.1
  intro d
  induction d with
  | zero =>
    intro i k p D w hi hk hD hS hT hJ hw
    obtain ⟨k, rfl⟩ : ∃ k', k = k' + 1 := ⟨k - 1, by omega⟩
    have hp := hw.2.2.2.1
    rw [f_X11_decode_L78.eq_2, br_le_t (by omega) (by omega)]
    have := l113 hn hI hf h4 h2 hw hJ p 0 FUEL (Nat.zero_add _) (by show _ < 10000; omega)
    rw [hS, hT, show dC D = c by omega] at this
    exact this
  | succ d ih =>
    intro i k p D w hi hk hD hS hT hJ hw
    obtain ⟨k, rfl⟩ : ∃ k', k = k' + 1 := ⟨k - 1, by omega⟩
    obtain ⟨w1, e1, o1⟩ := cmd2 hc0 hI.2.2.2.2.1 hJ (by omega) hw
    rw [hD, hS, hT] at e1
    rw [f_X11_decode_L78.eq_2, br_le_f (by omega) (by omega), br_eq hw.2.2.1, e1, Option.bind_some, nI_1]
    unfold csR csP
    cases h1 : cmP x.2.2.2.2.1 p D with
    | inl g =>
      rw [h1] at o1
      have o1 : KD w0 w1 g := o1
      obtain ⟨k, rfl⟩ : ∃ k', k = k' + 1 := ⟨k - 1, by omega⟩
      rw [f_X11_decode_L78.eq_2, br_ne (DM_m1 o1.2)]
      by_cases q : nI c ≤ nI (i + 1)
      · rw [br_eq q]; exact j107d o1 _ _ _
      · rw [br_ne q]; exact j107d o1 _ _ _
    | inr z =>
      rw [h1] at o1
      have o1 : LMx w0 w1 x.2.2.2.2.1 z.1 z.2 (fb_ct (dK z.2) (dC z.2)) := o1
      have hz : PJ z.2 := by
        have := cmd1 (y := x.2.2.2.2.1) (code := (x.2.2.2.2.1.1, nI x.2.2.2.2.1.2)) ⟨rfl, hn200, fun _ _ => rfl⟩ hI.2.2.2.2.1 (p := p) hJ (by omega) (w := ((fun k => kI (dK D k), fun k => sI (dK D k) (dR D k), fun k => nI (dG D k), fun k => nI (dL D k), fun k => bm (fun i => Pr D i k) (dC D), dA D, nI (dS D), nI (dT D), nI (dC D), bm (dK D) (dC D), -1), nI p, nI (sC x.2.2.2.2.1 p), -1)) ⟨⟨rfl, rfl, rfl, fun k hk => ⟨rfl, rfl, rfl, rfl⟩, fun k hk => rfl, rfl⟩, fun k hk hK i hi => rfl, rfl, rfl, rfl, rfl, hw.2.2.2.1⟩
        obtain ⟨w', -, o⟩ := this
        rw [h1] at o
        exact o.2
      exact ih (i + 1) k z.1 z.2 w1 (by omega) (by omega) (by rw [cmP_C h1]; omega) ((cmP_S h1).1.trans hS) ((cmP_S h1).2.trans hT) hz o1
theorem l78d {w0 w : TModel} {x : XS} {n : Nat} {f : Nat → XS} {e : Nat} (h : KD w0 w e) (a b c : Int32) : ∃ r, f_X11_decode_L78 FUEL w (0 : Int32) a b c = some r ∧ OD w0 x n f (.inl e) r := by
  rw [show FUEL = 9999 + 1 from rfl, f_X11_decode_L78.eq_2, br_ne (DM_m1 h.2)]
  by_cases q : a ≤ (0 : Int32)
  · rw [br_eq q]; exact j107d h _ _ _
  · rw [br_ne q]; exact j107d h _ _ _
theorem l22 {w0 : TModel} {x : XS} {n : Nat} {f : Nat → XS} (hn : n ≤ 4) (hI : SI x) (hf : ∀ j, j < n → SI (f j)) (h4 : H2 w0 n f) (h2 : S2 (mA w0) x) : ∀ (d i k : Nat) (w : TModel), i + d = 64 → d < k → SM w0 w → mT w = nI 0 → mF w = -1 → mC w = nI 0 → (∀ j, j < i → mZ w j = 0) → ∃ r, f_X11_decode_L22 k w (nI i) = some r ∧ OD w0 x n f (prs x.2.2.2.2.1) r := by
  have hc0 := h2.2.2.2.2.1
  have hn200 := hc0.2.1
  have hBI := hI.2.2.2.2.1
  intro d
  induction d with
  | succ d ih =>
    intro i k w hi hk hs ht hf' hC hz
    obtain ⟨k, rfl⟩ : ∃ k', k = k' + 1 := ⟨k - 1, by omega⟩
    rw [f_X11_decode_L22.eq_2, br_ne (show ¬ (64 : Int32) ≤ nI i from nI_ge (b := 64) (by omega) (by omega)), gd_in (by omega) (by omega), nI_clamp (by omega), nI_1]
    refine ih (i + 1) k _ (by omega) (by omega) hs ht hf' hC (fun j hj => ?_)
    show upd (mZ w) i (vp_nar .boolean 0) j = 0
    by_cases q : j = i
    · rw [q, upd_at]; rfl
    · rw [upd_ne _ _ q]; exact hz j (by omega)
  | zero =>
    intro i k w hi hk hs ht hf' hC hz
    obtain ⟨k, rfl⟩ : ∃ k', k = k' + 1 := ⟨k - 1, by omega⟩
    have cB : ∀ w', SM w0 w' → B2 200 349 350 (mA w') x.2.2.2.2.1 := fun w' h => by rw [h.1]; exact hc0
    rw [f_X11_decode_L22.eq_2, br_eq (show (64 : Int32) ≤ nI i from nI_le (a := 64) (by omega) (by omega))]
    unfold prs
    cases h1 : num x.2.2.2.2.1 73 73 0 with
    | inl g =>
      obtain ⟨v, w1, e1, s1, d1⟩ := mnum_l (cB w hs) hBI ht hf' (by omega) (lo := 73) (hi := 73) (by omega) (by omega) h1
      rw [show f_X11_number w (73 : Int32) (73 : Int32) = some (v, w1) from e1, Option.bind_some, mnum_d d1, Option.bind_some, mnum_d d1, Option.bind_some, mnum_d d1, Option.bind_some]
      exact l78d ⟨hs.t s1.1, d1⟩ _ _ _
    | inr v =>
      obtain ⟨a1, a2, a3, a4⟩ := num_r h1
      obtain ⟨w1, e1, s1, t1, f1⟩ := mnum_r (cB w hs) hBI ht hf' (lo := 73) (hi := 73) (by omega) (by omega) h1
      have m1 := hs.t s1.1
      rw [show f_X11_number w (73 : Int32) (73 : Int32) = some (nI v, w1) from e1, Option.bind_some]
      dsimp only
      cases h2' : num x.2.2.2.2.1 0 64 1 with
      | inl g =>
        obtain ⟨v, w2, e2, s2, d2⟩ := mnum_l (cB w1 m1) hBI (p := 1) t1 f1 (by omega) (lo := 0) (hi := 64) (by omega) (by omega) h2'
        rw [show f_X11_number w1 (0 : Int32) (64 : Int32) = some (v, w2) from e2, Option.bind_some, mnum_d d2, Option.bind_some, mnum_d d2, Option.bind_some]
        exact l78d ⟨m1.t s2.1, d2⟩ _ _ _
      | inr S =>
        obtain ⟨b1, b2, b3, b4⟩ := num_r h2'
        obtain ⟨w2, e2, s2, t2, f2⟩ := mnum_r (cB w1 m1) hBI (p := 1) t1 f1 (lo := 0) (hi := 64) (by omega) (by omega) h2'
        have m2 := m1.t s2.1
        rw [show f_X11_number w1 (0 : Int32) (64 : Int32) = some (nI S, w2) from e2, Option.bind_some]
        dsimp only
        cases h3 : num x.2.2.2.2.1 0 64 2 with
        | inl g =>
          obtain ⟨v, w3, e3, s3, d3⟩ := mnum_l (cB w2 m2) hBI (p := 2) t2 f2 (by omega) (lo := 0) (hi := 64) (by omega) (by omega) h3
          rw [show f_X11_number w2 (0 : Int32) (64 : Int32) = some (v, w3) from e3, Option.bind_some, mnum_d d3, Option.bind_some]
          exact l78d ⟨m2.t s3.1, d3⟩ _ _ _
        | inr T =>
          obtain ⟨c1, c2, c3, c4⟩ := num_r h3
          obtain ⟨w3, e3, s3, t3, f3⟩ := mnum_r (cB w2 m2) hBI (p := 2) t2 f2 (lo := 0) (hi := 64) (by omega) (by omega) h3
          have m3 := m2.t s3.1
          rw [show f_X11_number w2 (0 : Int32) (64 : Int32) = some (nI T, w3) from e3, Option.bind_some]
          dsimp only
          cases h5 : num x.2.2.2.2.1 0 30 3 with
          | inl g =>
            obtain ⟨v, w4, e4, s4, d4⟩ := mnum_l (cB w3 m3) hBI (p := 3) t3 f3 (by omega) (lo := 0) (hi := 30) (by omega) (by omega) h5
            rw [show f_X11_number w3 (0 : Int32) (30 : Int32) = some (v, w4) from e4, Option.bind_some]
            exact l78d ⟨m3.t s4.1, d4⟩ _ _ _
          | inr c =>
            obtain ⟨d1, d2, d3, d4⟩ := num_r h5
            obtain ⟨w4, e4, s4, t4, f4⟩ := mnum_r (cB w3 m3) hBI (p := 3) t3 f3 (lo := 0) (hi := 30) (by omega) (by omega) h5
            rw [show f_X11_number w3 (0 : Int32) (30 : Int32) = some (nI c, w4) from e4, Option.bind_some]
            have sall := ((s1.t s2).t s3).t s4
            refine l78 hn hI hf h4 h2 d4 c 0 FUEL 4 (D00 S T) w4 (Nat.zero_add _) (by show _ < 10000; omega) rfl rfl rfl ⟨⟨by show 0 ≤ 30; omega, b4, c4, fun k hk => absurd hk (Nat.not_lt_zero k)⟩, by show 0 ≤ 12; omega, fun k hk => absurd hk (Nat.not_lt_zero k)⟩ ⟨m3.t s4.1, t4, f4, by omega, sall.2.2.2.2.trans hC, fun k hk => absurd hk (Nat.not_lt_zero k), fun k hk => absurd hk (Nat.not_lt_zero k), fun j hj => ?_⟩
            rw [sall.2.2.2.1, hz j (by omega)]
            have : cov (D00 S T) j = false := by
              cases e : cov (D00 S T) j
              · rfl
              · obtain ⟨k, hk, -⟩ := cov_y.mp e
                exact absurd hk (Nat.not_lt_zero k)
            rw [this]; rfl
theorem m_decode {now : TState} {hist : THistory} {mo : TModel} (h : RR now hist mo) (dec : TDecoder) : ∃ v now' hist' dec' mo', f_X10_decode now hist dec = some (v, now', hist', dec') ∧ f_X11_decode mo = some (v, mo') ∧ RR now' hist' mo' := by
  obtain ⟨x, n, f, hn, h1, h2, hI, h3, h4, hf⟩ := id h
  obtain ⟨r, er, hr⟩ := X1_read h1.2.2.2.2.1 hI.2.2.2.2.1 dec
  obtain ⟨u, eu, hu⟩ := l22 (w0 := sT mo 0) hn hI hf h4 h2 64 0 FUEL (mo.1, mo.2.1, mo.2.2.1, (0 : Int32), mo.2.2.2.2.1, mo.2.2.2.2.2.1, mo.2.2.2.2.2.2.1, (0 : Int32), (-1 : Int32), mo.2.2.2.2.2.2.2.2.2.1, mo.2.2.2.2.2.2.2.2.2.2.1, mo.2.2.2.2.2.2.2.2.2.2.2.1, (0 : Int32), mo.2.2.2.2.2.2.2.2.2.2.2.2.2) rfl (by decide) ⟨rfl, rfl, rfl, rfl⟩ rfl rfl rfl (fun j hj => by omega)
  have eu : f_X11_decode mo = some u := eu
  unfold f_X10_decode
  rw [er, Option.bind_some]
  cases hp : prs x.2.2.2.2.1 with
  | inl e =>
    rw [hp] at hr hu
    obtain ⟨hr1, hr2⟩ := hr
    obtain ⟨hu1, hu2⟩ := hu
    rw [br_ne (show ¬ r.1 = (-1 : Int32) by rw [hr2]; exact nI_ne_m1 (by omega))]
    refine ⟨(-10 : Int32) - nI e, now, hist, r.2, u.2, by rw [hr2], by rw [eu, ← hu1], ?_⟩
    have hu2 : SM (sT mo 0) u.2 := hu2
    exact ⟨x, n, f, hn, h1, hu2.S h2, hI, h3, ⟨hu2.2.2.1.trans h4.1, by rw [hu2.2.1]; exact h4.2⟩, hf⟩
  | inr D =>
    rw [hp] at hr hu
    obtain ⟨hr1, hr2, hJ⟩ := hr
    obtain ⟨hu1, hu2, hu3⟩ := hu
    have hD : DI D := ⟨hJ.1.1, hJ.1.2.1, hJ.1.2.2.1, hJ.1.2.2.2, hJ.2.1, hJ.2.2⟩
    obtain ⟨hs, es, hs1⟩ := X4_save hn hI h3 h1
    obtain ⟨d, ed, hd⟩ := drop1 h1
    obtain ⟨t, et, ht⟩ := X2_take (w0 := d.2.2.1) hD hr2
    rw [br_eq hr1, es, Option.bind_some, ed, Option.bind_some, et, Option.bind_some]
    refine ⟨nI (dC D), (d.1, d.2.1, t, d.2.2.2.1, d.2.2.2.2.1, d.2.2.2.2.2), hs, r.2, u.2, by rw [show t.2.2.2.2.2.2.2.2.1 = nI (dC D) from ht.2.2.1], by rw [eu, ← hu1], ?_⟩
    exact ⟨xm x D, nS n, fS n f x, nS_le hn, ⟨hd.1, hd.2.1, ht, ⟨hd.2.2.2.1.1, (fun q => by cases q)⟩, hd.2.2.2.2.1, hd.2.2.2.2.2⟩, hu2, ⟨hI.1, hI.2.1, hD, (fun q => by cases q), hI.2.2.2.2.1, (fun q => by cases q)⟩, hs1, hu3, fS_I hn hI hf⟩
