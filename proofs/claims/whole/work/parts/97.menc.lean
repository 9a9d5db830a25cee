/-! the reference's encode -/
abbrev mD (w : TModel) := w.2.2.2.2.2.1
abbrev mL (w : TModel) := w.2.2.2.2.2.2.1
def DB (w : TModel) (y : XB) : Prop := B1 4000 (mD w, mL w) y
def SM (w w' : TModel) : Prop := mA w' = mA w ∧ mS w' = mS w ∧ mN w' = mN w ∧ mH w' = mH w
theorem SM.t {a b c : TModel} (h1 : SM a b) (h2 : SM b c) : SM a c := ⟨h2.1.trans h1.1, h2.2.1.trans h1.2.1, h2.2.2.1.trans h1.2.2.1, h2.2.2.2.trans h1.2.2.2⟩
theorem SM.S {a b : TModel} {x : XS} (h : SM a b) (hs : S2 (mA a) x) : S2 (mA b) x := by rw [h.1]; exact hs
theorem X11_writes {w : TModel} {y : XB} (h : DB w y) (hy : y.2 < 4000) (v : Int32) : ∃ w', f_X11_writes w v = some w' ∧ DB w' (psh y v) ∧ SM w w' := by
  have e : w.2.2.2.2.2.2.1 = nI y.2 := h.1
  unfold f_X11_writes
  refine ex_of (by rw [e, gd_in hy (by omega), nI_clamp (by omega), nI_1]) ?_
  refine ⟨⟨rfl, by show y.2 + 1 ≤ 4000; omega, fun i hi => ?_⟩, rfl, rfl, rfl, rfl⟩
  have hi : i < y.2 + 1 := hi
  show upd (mD w) y.2 v i = if i = y.2 then v else y.1 i
  by_cases q : i = y.2
  · rw [if_pos q, q, upd_at]
  · rw [if_neg q, upd_ne _ _ q]; exact h.2.2 i (by show i < y.2; omega)
theorem enc151 {x : XS} (hI : SI x) (ht : x.2.2.2.1.1 = true) {k : Nat} (hk : k < dC x.2.2.1) (rec49 : TModel → Int32 → Option TModel) (v1 : Int32) : ∀ (d i fu : Nat) (w : TModel) (y : XB), S2 (mA w) x → i + d = dL x.2.2.1 k → d < fu → DB w y → y.2 + d < 4000 → ∃ w', f_X11_encodes_L151 rec49 fu w (nI i) (0 : Int32) (nI k) v1 = rec49 w' (v1 + 1) ∧ DB w' (psB x k i d y) ∧ SM w w' := by
  have i1 := hI.2.2.1.1
  have i3 := hI.2.2.1.2.2.1
  have bk := hI.2.2.1.2.2.2.1 k hk
  have hS := (hI.2.2.2.1 ht).1
  intro d
  induction d with
  | zero =>
    intro i fu w y h2 hi hf hb hy
    obtain ⟨fu, rfl⟩ : ∃ k', fu = k' + 1 := ⟨fu - 1, by omega⟩
    refine ⟨w, ?_, hb, rfl, rfl, rfl, rfl⟩
    rw [f_X11_encodes_L151.eq_2, of_3 h2.2.2.1 i1 hk, Option.bind_some, br_le_t (by omega) (by omega)]
    rfl
  | succ d ih =>
    intro i fu w y h2 hi hf hb hy
    obtain ⟨fu, rfl⟩ : ∃ k', fu = k' + 1 := ⟨fu - 1, by omega⟩
    obtain ⟨w1, e1, b1, s1⟩ := X11_writes hb (by omega) (bF x k i)
    obtain ⟨w2, e2, b2, s2⟩ := ih (i + 1) fu w1 (psh y (bF x k i)) (s1.S h2) (by omega) (by omega) b1 (by show y.2 + 1 + d < 4000; omega)
    refine ⟨w2, ?_, b2, s1.t s2⟩
    rw [f_X11_encodes_L151.eq_2, of_3 h2.2.2.1 i1 hk, Option.bind_some, br_le_f (by omega) (by omega), br_00, X11_byteFor h2 hI hS hk (by omega), Option.bind_some, e1, Option.bind_some, nI_1]
    exact e2
theorem enc_cmd {x : XS} (hI : SI x) (ht : x.2.2.2.1.1 = true) {k : Nat} (hk : k < dC x.2.2.1) (rec49 : TModel → Int32 → Option TModel) (v1 : Int32) {w : TModel} {y : XB} (h2 : S2 (mA w) x) (hb : DB w y) (hy : y.2 + cost x k < 4000) : ∃ w', f_X11_encodes_J100 rec49 w (nI k) v1 (zI (whl x k)) = rec49 w' (v1 + 1) ∧ DB w' (cE x k y) ∧ SM w w' := by
  have i1 := hI.2.2.1.1
  have i3 := hI.2.2.1.2.2.1
  have bk := hI.2.2.1.2.2.2.1 k hk
  unfold f_X11_encodes_J100
  rw [br_z0]
  unfold cost at hy
  unfold cE
  cases hW : whl x k
  · rw [hW, if_neg (by decide)] at hy
    rw [if_neg (by decide), if_neg (by decide)]
    obtain ⟨w1, e1, b1, s1⟩ := X11_writes hb (by omega) (nI 2)
    obtain ⟨w2, e2, b2, s2⟩ := X11_writes b1 (by show y.2 + 1 < 4000; omega) (nI (dG x.2.2.1 k))
    obtain ⟨w3, e3, b3, s3⟩ := X11_writes b2 (by show y.2 + 1 + 1 < 4000; omega) (nI (dL x.2.2.1 k))
    have h3 := ((s1.t s2).t s3).S h2
    obtain ⟨w4, e4, b4, s4⟩ := enc151 hI ht hk rec49 v1 (dL x.2.2.1 k) 0 FUEL w3 _ h3 (Nat.zero_add _) (by show _ < 10000; omega) b3 (by show y.2 + 1 + 1 + 1 + _ < 4000; omega)
    refine ⟨w4, ?_, b4, ((s1.t s2).t s3).t s4⟩
    unfold f_X11_encodes_J111
    rw [show f_X11_writes w (2 : Int32) = some w1 from e1, Option.bind_some, show br (zI false = 0) _ _ = _ from br_00]
    unfold f_X11_encodes_J128
    rw [of_2 (s1.S h2).2.2.1 i1 hk, Option.bind_some, e2, Option.bind_some, of_3 ((s1.t s2).S h2).2.2.1 i1 hk, Option.bind_some, e3, Option.bind_some]
    exact e4
  · have hK : dK x.2.2.1 k = true := by
      unfold whl at hW
      cases hz : dK x.2.2.1 k
      · rw [hz] at hW; cases hW
      · rfl
    rw [hW, if_pos rfl] at hy
    rw [if_pos rfl, if_pos rfl]
    obtain ⟨w1, e1, b1, s1⟩ := X11_writes hb (by omega) (nI 1)
    obtain ⟨w2, e2, b2, s2⟩ := X11_writes b1 (by show y.2 + 1 < 4000; omega) (nI (dR x.2.2.1 k))
    obtain ⟨w3, e3, b3, s3⟩ := X11_writes b2 (by show y.2 + 1 + 1 < 4000; omega) (nI (dG x.2.2.1 k))
    obtain ⟨w4, e4, b4, s4⟩ := X11_writes b3 (by show y.2 + 1 + 1 + 1 < 4000; omega) (nI (dL x.2.2.1 k))
    have h4 := (((s1.t s2).t s3).t s4).S h2
    refine ⟨w4, ?_, b4, ((s1.t s2).t s3).t s4⟩
    unfold f_X11_encodes_J111
    rw [show f_X11_writes w (1 : Int32) = some w1 from e1, Option.bind_some, show br (zI true = 0) _ _ = _ from br_10, of_1 (s1.S h2).2.2.1 i1 hk, Option.bind_some, hK, show sI true (dR x.2.2.1 k) = nI (dR x.2.2.1 k) from rfl, e2, Option.bind_some]
    unfold f_X11_encodes_J128
    rw [of_2 ((s1.t s2).S h2).2.2.1 i1 hk, Option.bind_some, e3, Option.bind_some, of_3 (((s1.t s2).t s3).S h2).2.2.1 i1 hk, Option.bind_some, e4, Option.bind_some, show FUEL = 9999 + 1 from rfl, f_X11_encodes_L151.eq_2, of_3 h4.2.2.1 i1 hk, Option.bind_some, br_ne (show ¬ nI (dL x.2.2.1 k) ≤ 0 from nI_nle (by omega) (by omega)), show br (zI true = 0) _ _ = _ from br_10]
    rfl
theorem enc49 {x : XS} (hI : SI x) (ht : x.2.2.2.1.1 = true) : ∀ (d n fu : Nat) (w : TModel) (y : XB), S2 (mA w) x → n + d = dC x.2.2.1 → d < fu → DB w y → y.2 + costs x n d < 3999 → ∃ w', f_X11_encodes_L49 fu w (nI n) = f_X11_encodes_L193 FUEL w' (0 : Int32) (0 : Int32) ∧ DB w' (eA x n d y) ∧ SM w w' := by
  have i1 := hI.2.2.1.1
  have hpi := hI.2.2.2.1 ht
  intro d
  induction d with
  | zero =>
    intro n fu w y h2 hn hf hb hy
    obtain ⟨fu, rfl⟩ : ∃ k', fu = k' + 1 := ⟨fu - 1, by omega⟩
    refine ⟨w, ?_, hb, rfl, rfl, rfl, rfl⟩
    rw [f_X11_encodes_L49.eq_2, gd_132, c_132, show w.1 132 = nI (dC x.2.2.1) from h2.2.2.1.2.2.1, br_le_t (by omega) (by omega)]
  | succ d ih =>
    intro n fu w y h2 hn hf hb hy
    obtain ⟨fu, rfl⟩ : ∃ k', fu = k' + 1 := ⟨fu - 1, by omega⟩
    rw [costs_s] at hy
    have hk := hpi.2.1 n (show n < dC x.2.2.1 by omega)
    obtain ⟨w1, e1, b1, s1⟩ := enc_cmd hI ht hk (f_X11_encodes_L49 fu) (nI n) h2 hb (by omega)
    obtain ⟨w2, e2, b2, s2⟩ := ih (n + 1) fu w1 (cE x (x.2.2.2.1.2.1 n) y) (s1.S h2) (by omega) (by omega) b1 (by rw [cE_2]; omega)
    refine ⟨w2, ?_, b2, s1.t s2⟩
    rw [f_X11_encodes_L49.eq_2, gd_132, c_132, show w.1 132 = nI (dC x.2.2.1) from h2.2.2.1.2.2.1, br_le_f (by omega) (by omega), show (318 : Int32) + nI n = nI (318 + n) from nI_add 318 _, gd_in (by omega) (by omega), nI_clamp (by omega), nm_eq, show w.1 (318 + n) = nI (x.2.2.2.1.2.1 n) from (h2.2.2.2.1.2 ht).1 n (by omega), X11_isC h2.2.2.1 i1 hk, Option.bind_some, br_z0, gd_348, c_348, show w.1 348 = bm x.2.2.2.1.2.2 (dC x.2.2.1) from (h2.2.2.2.1.2 ht).2, bm_z1 i1 hk, br_z0]
    rw [nI_1] at e1
    unfold f_X11_encodes_J99
    refine Eq.trans ?_ (e1.trans e2)
    unfold whl
    cases dK x.2.2.1 (x.2.2.2.1.2.1 n) <;> cases x.2.2.2.1.2.2 (x.2.2.2.1.2.1 n) <;> rfl
theorem enc193 {w : TModel} {y : XB} (hb : DB w y) (hy : y.2 < 4000) : ∀ (d i fu : Nat) (a : Int32), i + d = y.2 → d < fu → ∃ w', f_X11_encodes_L193 fu w (nI i) a = some w' ∧ DB w' (psh y (rem251 (sumI y.1 i d a))) ∧ SM w w' := by
  have e : w.2.2.2.2.2.2.1 = nI y.2 := hb.1
  intro d
  induction d with
  | zero =>
    intro i fu a hi hf
    obtain ⟨fu, rfl⟩ : ∃ k', fu = k' + 1 := ⟨fu - 1, by omega⟩
    obtain ⟨w1, e1, b1, s1⟩ := X11_writes hb hy (rem251 a)
    refine ⟨w1, ?_, b1, s1⟩
    rw [f_X11_encodes_L193.eq_2, e, br_le_t (by omega) (by omega)]
    exact (congrArg (fun z => Option.bind z _) e1).trans rfl
  | succ d ih =>
    intro i fu a hi hf
    obtain ⟨fu, rfl⟩ : ∃ k', fu = k' + 1 := ⟨fu - 1, by omega⟩
    obtain ⟨w1, e1, b1, s1⟩ := ih (i + 1) fu (a + y.1 i) (by omega) (by omega)
    refine ⟨w1, ?_, b1, s1⟩
    rw [f_X11_encodes_L193.eq_2, e, br_le_f (by omega) (by omega), gd_in (by omega) (by omega), nI_clamp (by omega), show w.2.2.2.2.2.1 i = y.1 i from hb.2.2 i (by omega), nI_1]
    exact e1
theorem X11_encodes {w : TModel} {x : XS} (h2 : S2 (mA w) x) (hI : SI x) (ht : x.2.2.2.1.1 = true) : ∃ w', f_X11_encodes w = some w' ∧ DB w' (encR x) ∧ SM w w' := by
  have i1 := hI.2.2.1.1
  have e5 := encR_2 hI ht
  have e6 : (encR x).2 = 4 + costs x 0 (dC x.2.2.1) + 1 := by
    show (eA x 0 (dC x.2.2.1) (e0 x)).2 + 1 = _
    rw [eA_2]; rfl
  have hle : fb_sm (cost x) (dC x.2.2.1) ≤ dC x.2.2.1 * 67 := fb_sm_bound (fun k hk => by
    have b := (hI.2.2.1.2.2.2.1 k hk).2.1
    have := hI.2.2.1.2.2.1
    unfold cost
    split <;> omega)
  have g0 : DB (w.1, w.2.1, w.2.2.1, w.2.2.2.1, w.2.2.2.2.1, w.2.2.2.2.2.1, (0 : Int32), w.2.2.2.2.2.2.2) (fun _ => 0, 0) := ⟨rfl, by show 0 ≤ 4000; omega, fun i hi => absurd hi (Nat.not_lt_zero i)⟩
  obtain ⟨w1, f1, b1, s1⟩ := X11_writes g0 (by show 0 < 4000; omega) (nI 73)
  obtain ⟨w2, f2, b2, s2⟩ := X11_writes b1 (by show 0 + 1 < 4000; omega) (nI (dS x.2.2.1))
  obtain ⟨w3, f3, b3, s3⟩ := X11_writes b2 (by show 0 + 1 + 1 < 4000; omega) (nI (dT x.2.2.1))
  obtain ⟨w4, f4, b4, s4⟩ := X11_writes b3 (by show 0 + 1 + 1 + 1 < 4000; omega) (nI (dC x.2.2.1))
  have t1 : SM w w1 := s1
  have h1 := t1.S h2
  have h22 := (t1.t s2).S h2
  have h3 := ((t1.t s2).t s3).S h2
  have h4 := (((t1.t s2).t s3).t s4).S h2
  obtain ⟨w5, f5, b5, s5⟩ := enc49 hI ht (dC x.2.2.1) 0 FUEL w4 (e0 x) h4 (Nat.zero_add _) (by show _ < 10000; omega) b4 (by show 4 + _ < 3999; omega)
  obtain ⟨w6, f6, b6, s6⟩ := enc193 b5 (by rw [eA_2]; show 4 + _ < 4000; omega) (eA x 0 (dC x.2.2.1) (e0 x)).2 0 FUEL 0 (Nat.zero_add _) (by rw [eA_2]; show 4 + _ < 10000; omega)
  refine ⟨w6, ?_, b6, ((((t1.t s2).t s3).t s4).t s5).t s6⟩
  unfold f_X11_encodes
  have f1' : f_X11_writes (w.1, w.2.1, w.2.2.1, w.2.2.2.1, w.2.2.2.2.1, w.2.2.2.2.2.1, (0 : Int32), w.2.2.2.2.2.2.2.1, w.2.2.2.2.2.2.2.2.1, w.2.2.2.2.2.2.2.2.2.1, w.2.2.2.2.2.2.2.2.2.2.1, w.2.2.2.2.2.2.2.2.2.2.2.1, w.2.2.2.2.2.2.2.2.2.2.2.2.1, w.2.2.2.2.2.2.2.2.2.2.2.2.2) (73 : Int32) = some w1 := f1
  rw [f1', Option.bind_some, gd_130, c_130, show w1.1 130 = nI (dS x.2.2.1) from h1.2.2.1.1, f2, Option.bind_some, gd_131, c_131, show w2.1 131 = nI (dT x.2.2.1) from h22.2.2.1.2.1, f3, Option.bind_some, gd_132, c_132, show w3.1 132 = nI (dC x.2.2.1) from h3.2.2.1.2.2.1, f4, Option.bind_some]
  exact f5.trans f6
theorem enc46 {y : XB} (hy : y.2 ≤ 200) : ∀ (d i fu : Nat) (w : TModel), DB w y → i + d = y.2 → d < fu → ∃ v, f_X11_encode_L46 fu w (nI i) = some (nI y.2, sA w v) ∧ v 349 = nI y.2 ∧ (∀ j, j ≠ 349 → (j < 350 + i ∨ 350 + y.2 ≤ j) → v j = mA w j) ∧ ∀ e, i ≤ e → e < y.2 → v (350 + e) = y.1 e := by
  intro d
  induction d with
  | zero =>
    intro i fu w hb hi hf
    obtain ⟨fu, rfl⟩ : ∃ k', fu = k' + 1 := ⟨fu - 1, by omega⟩
    have e : w.2.2.2.2.2.2.1 = nI y.2 := hb.1
    refine ⟨upd (mA w) 349 (nI y.2), ?_, upd_at _ _ _, fun j h1 h2 => upd_ne _ _ h1, fun e h1 h2 => by omega⟩
    rw [f_X11_encode_L46.eq_2, br_eq (show w.2.2.2.2.2.2.1 ≤ nI i by rw [e]; exact nI_le (by omega) (by omega)), gd_349, c_349]
    show some (mL w, sA w (upd (mA w) 349 (mL w))) = _
    rw [show mL w = nI y.2 from e]
  | succ d ih =>
    intro i fu w hb hi hf
    obtain ⟨fu, rfl⟩ : ∃ k', fu = k' + 1 := ⟨fu - 1, by omega⟩
    have e : w.2.2.2.2.2.2.1 = nI y.2 := hb.1
    obtain ⟨v, e1, v1, v2, v3⟩ := ih (i + 1) fu (sA w (upd (mA w) (350 + i) (y.1 i))) hb (by omega) (by omega)
    refine ⟨v, ?_, v1, fun j h1 h2 => ?_, fun e h1 h2 => ?_⟩
    · have step : f_X11_encode_L46 (fu + 1) w (nI i) = f_X11_encode_L46 fu (sA w (upd (mA w) (350 + i) (y.1 i))) (nI (i + 1)) := by
        rw [f_X11_encode_L46.eq_2, br_ne (show ¬ w.2.2.2.2.2.2.1 ≤ nI i by rw [e]; exact nI_ge (by omega) (by omega)), gd_in (by omega) (by omega), show (350 : Int32) + nI i = nI (350 + i) from nI_add 350 _, gd_in (by omega) (by omega), nI_clamp (by omega), nI_clamp (by omega), show w.2.2.2.2.2.1 i = y.1 i from hb.2.2 i (by omega), nI_1]
        rfl
      exact step.trans e1
    · rw [v2 j h1 (by omega), mA_sA, upd_ne _ _ (by omega)]
    · by_cases q : e = i
      · rw [q, v2 _ (by omega) (by omega), mA_sA, upd_at]
      · exact v3 e (by omega) h2
theorem m_encode {now : TState} {hist : THistory} {mo : TModel} (h : RR now hist mo) (out : Nat → Int64) : OKw (f_L_encode now hist out) (f_X11_encode mo) := by
  obtain ⟨x, n, f, hn, h1, h2, hI, h3, h4, hf⟩ := id h
  have hp1 := h1.2.2.2.1
  have hp2 := h2.2.2.2.1
  have hx := X11_isPlanned hp2
  by_cases ht : x.2.2.2.1.1 = true
  · rw [zI_y ht] at hx
    have hlen := X3_lengthOf h1 hI ht
    obtain ⟨w1, ew1, b1, s1⟩ := X11_encodes h2 hI ht
    have e5 := encR_2 hI ht
    have hle : fb_sm (cost x) (dC x.2.2.1) ≤ dC x.2.2.1 * 67 := fb_sm_bound (fun k hk => by
      have b := (hI.2.2.1.2.2.2.1 k hk).2.1
      have := hI.2.2.1.2.2.1
      unfold cost
      split <;> omega)
    have i1 := hI.2.2.1.1
    have eL : w1.2.2.2.2.2.2.1 = nI (encR x).2 := b1.1
    have h2' := s1.S h2
    have h4' : H2 w1 n f := ⟨s1.2.2.1.trans h4.1, by rw [show mS w1 = mS mo from s1.2.1]; exact h4.2⟩
    have hR1 : RR now hist w1 := ⟨x, n, f, hn, h1, h2', hI, h3, h4', hf⟩
    by_cases hF : (encR x).2 ≤ 200
    · obtain ⟨hs, es, hs1⟩ := X4_save hn hI h3 h1
      obtain ⟨r, er, hr⟩ := X3_fill h1 hI ht hF
      -- the draft stays over the saving
      obtain ⟨sv, es2, hs2⟩ := X11_save (w := sT w1 0) hn hI hf h4' h2'
      obtain ⟨v, ev, v1, v2, v3⟩ := enc46 hF (encR x).2 0 FUEL (sSv (sT w1 0) sv (nI (nS n))) b1 (Nat.zero_add _) (by show _ < 10000; omega)
      refine ⟨0, stc now r, hs, vp_updL out (0 : Int32).toNatClampNeg (nI (encR x).2).toInt64, nI (encR x).2, sA (sSv (sT w1 0) sv (nI (nS n))) v, ?_, ?_, rfl, fun _ => ?_, ?_⟩
      · unfold f_L_encode f_X10_encode
        rw [rp_y hp1 ht, hlen]
        simp only [br_T, br_F, gd_T, br_00, br_10, Option.bind_some, rx_0, rx_s, el_l, el_r, br_A_A, br_S_S, br_I_I, br_S_A, br_I_A, br_A_I, br_I_S, gd_o, goes_00, goes_01, goes_10, goes_11, zI_t, zI_f, ri_0, ri_1, gd_130, c_130, gd_131, c_131, gd_132, c_132, gd_317, c_317, gd_348, c_348, gd_349, c_349, gd_550, c_550, gd_551, c_551, gd_552, c_552]
        rw [br_eq (show nI (encR x).2 ≤ (200 : Int32) from nI_le (b := 200) hF (by omega)), es, Option.bind_some, er, Option.bind_some]
        simp only [br_T, br_F, gd_T, br_00, br_10, Option.bind_some, rx_0, rx_s, el_l, el_r, br_A_A, br_S_S, br_I_I, br_S_A, br_I_A, br_A_I, br_I_S, gd_o, goes_00, goes_01, goes_10, goes_11, zI_t, zI_f, ri_0, ri_1, gd_130, c_130, gd_131, c_131, gd_132, c_132, gd_317, c_317, gd_348, c_348, gd_349, c_349, gd_550, c_550, gd_551, c_551, gd_552, c_552, show r.2 = nI (encR x).2 from hr.1]
      · unfold f_X11_encode f_X11_encode_J28 f_X11_encode_J29
        rw [hx]
        simp only [br_T, br_F, gd_T, br_00, br_10, Option.bind_some, rx_0, rx_s, el_l, el_r, br_A_A, br_S_S, br_I_I, br_S_A, br_I_A, br_A_I, br_I_S, gd_o, goes_00, goes_01, goes_10, goes_11, zI_t, zI_f, ri_0, ri_1, gd_130, c_130, gd_131, c_131, gd_132, c_132, gd_317, c_317, gd_348, c_348, gd_349, c_349, gd_550, c_550, gd_551, c_551, gd_552, c_552, ew1]
        rw [eL, br_ne (show ¬ (200 : Int32) < nI (encR x).2 from nI_nlt (a := 200) hF (by omega)), es2, Option.bind_some]
        exact ev
      · rw [out0]
      · refine RR_code (mo := w1) hn hI hf h1 hr hs1 hs2 h2' (encR_I hI ht) (fun k hk => ?_) v1 (fun i hi => v3 i (Nat.zero_le i) hi)
        exact (v2 k (by omega) (by omega)).symm
    · refine okw_t hR1 (out := out) (b := 0) (t := 1) ?_ ?_ (by decide)
      · unfold f_L_encode f_X10_encode
        rw [rp_y hp1 ht, hlen]
        simp only [br_T, br_F, gd_T, br_00, br_10, Option.bind_some, rx_0, rx_s, el_l, el_r, br_A_A, br_S_S, br_I_I, br_S_A, br_I_A, br_A_I, br_I_S, gd_o, goes_00, goes_01, goes_10, goes_11, zI_t, zI_f, ri_0, ri_1, gd_130, c_130, gd_131, c_131, gd_132, c_132, gd_317, c_317, gd_348, c_348, gd_349, c_349, gd_550, c_550, gd_551, c_551, gd_552, c_552]
        rw [br_ne (show ¬ nI (encR x).2 ≤ (200 : Int32) from nI_ge (a := 200) (by omega) (by omega))]
        simp only [br_T, br_F, gd_T, br_00, br_10, Option.bind_some, rx_0, rx_s, el_l, el_r, br_A_A, br_S_S, br_I_I, br_S_A, br_I_A, br_A_I, br_I_S, gd_o, goes_00, goes_01, goes_10, goes_11, zI_t, zI_f, ri_0, ri_1, gd_130, c_130, gd_131, c_131, gd_132, c_132, gd_317, c_317, gd_348, c_348, gd_349, c_349, gd_550, c_550, gd_551, c_551, gd_552, c_552]
      · unfold f_X11_encode f_X11_encode_J28 f_X11_encode_J29
        rw [hx]
        simp only [br_T, br_F, gd_T, br_00, br_10, Option.bind_some, rx_0, rx_s, el_l, el_r, br_A_A, br_S_S, br_I_I, br_S_A, br_I_A, br_A_I, br_I_S, gd_o, goes_00, goes_01, goes_10, goes_11, zI_t, zI_f, ri_0, ri_1, gd_130, c_130, gd_131, c_131, gd_132, c_132, gd_317, c_317, gd_348, c_348, gd_349, c_349, gd_550, c_550, gd_551, c_551, gd_552, c_552, ew1]
        rw [eL, br_eq (show (200 : Int32) < nI (encR x).2 from nI_lt (a := 200) (by omega) (by omega))]
  · refine okw_t h (out := out) (b := 0) (t := 1) ?_ ?_ (by decide)
    · unfold f_L_encode f_X10_encode
      simp only [br_T, br_F, gd_T, br_00, br_10, Option.bind_some, rx_0, rx_s, el_l, el_r, br_A_A, br_S_S, br_I_I, br_S_A, br_I_A, br_A_I, br_I_S, gd_o, goes_00, goes_01, goes_10, goes_11, zI_t, zI_f, ri_0, ri_1, gd_130, c_130, gd_131, c_131, gd_132, c_132, gd_317, c_317, gd_348, c_348, gd_349, c_349, gd_550, c_550, gd_551, c_551, gd_552, c_552, rp_n hp1 ht]
    · unfold f_X11_encode f_X11_encode_J29
      rw [zI_n ht] at hx
      rw [hx]
      simp only [br_T, br_F, gd_T, br_00, br_10, Option.bind_some, rx_0, rx_s, el_l, el_r, br_A_A, br_S_S, br_I_I, br_S_A, br_I_A, br_A_I, br_I_S, gd_o, goes_00, goes_01, goes_10, goes_11, zI_t, zI_f, ri_0, ri_1, gd_130, c_130, gd_131, c_131, gd_132, c_132, gd_317, c_317, gd_348, c_348, gd_349, c_349, gd_550, c_550, gd_551, c_551, gd_552, c_552]
