/-! the reference's make -/
def xm (x : XS) (D : XD) : XS := (x.1, x.2.1, D, (false, x.2.2.2.1.2), x.2.2.2.2.1, (false, x.2.2.2.2.2.2))
theorem D2_of {a : Nat → Int32} {D : XD} (h : DN a D) (ha : AD (fun j => a (253 + j)) D) : D2 a D := ⟨h.1, h.2.1, h.2.2.1, h.2.2.2, fun k hk hK i hi => ha k hk hK i hi⟩
theorem D2_N {a : Nat → Int32} {D : XD} (h : D2 a D) : DN a D := ⟨h.1, h.2.1, h.2.2.1, h.2.2.2.1⟩
theorem D2_A {a : Nat → Int32} {D : XD} (h : D2 a D) : AD (fun j => a (253 + j)) D := fun k hk hK i hi => h.2.2.2.2 k hk hK i hi
theorem xm_app {w : TModel} {x : XS} {D : XD} (h : S2 (mA w) (xm x D)) (hJ : DJ D) (hc : dC D < 30) (k : Bool) {r g l : Nat} (hadd : k = false → ∀ i, i < l → mA w (253 + (g + i)) = dA D (g + i)) (hgl : g + l ≤ 64) : ∃ a', f_X11_appends w (kI k) (sI k r) (nI g) (nI l) = some (sA w a') ∧ S2 a' (xm x (dP D k r g l)) ∧ ∀ j, (j < 132 ∨ 253 ≤ j) → a' j = mA w j := by
  obtain ⟨a', e, dn, fr⟩ := X11_appends (x := D) (D2_N h.2.2.1) hc k (r := r) (g := g) (l := l)
  obtain ⟨h1, h2, h3, h4, h5, h6⟩ := h
  have hv : ∀ j, (j < 132 ∨ 253 ≤ j) → mA w j = a' j := fun j hj => (fr j (by omega)).symm
  refine ⟨a', e, ⟨B2_cong (hv _ (by omega)) (fun k _ _ => hv k (by omega)) h1, B2_cong (hv _ (by omega)) (fun k _ _ => hv k (by omega)) h2, D2_of dn (fun i hi hK j hj => ?_), ?_, B2_cong (hv _ (by omega)) (fun k _ _ => hv k (by omega)) h5, W2_cong (fun k _ _ => hv k (by omega)) h6⟩, fun j hj => fr j (by omega)⟩
  · show a' (253 + (dG (dP D k r g l) i + j)) = dA D (dG (dP D k r g l) i + j)
    rw [← hv _ (by omega)]
    have hi : i < dC D + 1 := hi
    have hK : dK (dP D k r g l) i = false := hK
    have hj : j < dL (dP D k r g l) i := hj
    by_cases q : i = dC D
    · subst q
      obtain ⟨g1, g2, g3, g4⟩ := dP_c (x := D) (k := k) (r := r) (g := g) (l := l)
      rw [g1] at hK
      rw [g4] at hj
      rw [g3]; exact hadd hK j hj
    · obtain ⟨g1, g2, g3, g4⟩ := dP_K (x := D) (k := k) (r := r) (g := g) (l := l) (show i < dC D by omega)
      rw [g1] at hK
      rw [g4] at hj
      rw [g3]; exact h3.2.2.2.2 i (show i < dC D by omega) hK j hj
  · exact ⟨by rw [← hv 317 (by omega)]; exact h4.1, (fun q => by cases q)⟩
theorem X11_adds {w : TModel} {x : XS} {D : XD} {s p : Nat} (hM : MI x D s p) (hT : x.2.1.2 ≤ 64) (h : S2 (mA w) (xm x D)) (hb : ∀ j, s ≤ j → j < p → mA w (253 + j) = x.2.1.1 j) : ∃ a', f_X11_adds w (nI s) (nI (p - s)) = some (sA w a') ∧ S2 a' (xm x (pend D s p)) ∧ ∀ j, (j < 132 ∨ 253 ≤ j) → a' j = mA w j := by
  obtain ⟨j1, j2, j3, j4, j5, j6, j7, j8⟩ := hM
  unfold f_X11_adds pend
  by_cases e : s < p
  · obtain ⟨a', e1, s1, f1⟩ := xm_app h j1 (by omega) false (r := 0) (g := s) (l := p - s) (fun _ i hi => by rw [j4]; exact hb _ (by omega) (by omega)) (by omega)
    rw [br_ne (nI_nle (by omega) (by omega)), if_pos e, show f_X11_appends w (2 : Int32) (-1 : Int32) (nI s) (nI (p - s)) = some (sA w a') from e1, Option.bind_some]
    exact ⟨a', rfl, s1, f1⟩
  · rw [br_eq (show nI (p - s) ≤ 0 by rw [show p - s = 0 by omega]; decide), if_neg e]
    exact ⟨mA w, rfl, h, fun _ _ => rfl⟩
theorem make69 {x : XS} {D : XD} (hT : x.2.1.2 ≤ 64) (hO : x.1.2 ≤ 64) {w : TModel} (h : S2 (mA w) (xm x D)) (rec54 : TModel → Int32 → Int32 → Int32 → Option (Int32 × TModel)) {p : Nat} (hp : p ≤ x.2.1.2) (v2 v1 : Int32) : ∀ d i k b : Nat, d = x.1.2 - i → (1 ≤ i ∧ i ≤ 65) → d < k → b < 1000 → f_X11_make_L69 rec54 k w (nI i) (nI b) (nI p) v2 v1 = br (nI (mt x.1 x.2.1 (bst x p i d b) p) < (4 : Int32)) (f_X11_make_J163 rec54 w (nI p) v2 v1) (br ((12 : Int32) ≤ v1) (f_X11_make_J163 rec54 w (nI p) v2 v1) ((f_X11_adds w (nI p - v2) v2).bind (fun x10 => (f_X11_appends x10 (1 : Int32) (nI (bst x p i d b)) (nI p) (nI (mt x.1 x.2.1 (bst x p i d b) p))).bind (fun x11 => f_X11_make_J185 rec54 x11 (nI p + nI (mt x.1 x.2.1 (bst x p i d b) p)) (0 : Int32) (v1 + (1 : Int32)))))) := by
  have l0 : f_X11_longOf w (0 : Int32) = some (nI x.1.2) := (X11_longOf w (v := 0) (by omega)).trans (congrArg some h.1.1)
  have mb : ∀ s, s < 1000 → f_X11_matchLong w (nI s) (nI p) = some (nI (mt x.1 x.2.1 s p)) := fun s hs => X11_match (x := xm x D) h hs hp
  intro d
  induction d with
  | zero =>
    intro i k b hd hi hk hb
    obtain ⟨k, rfl⟩ : ∃ k', k = k' + 1 := ⟨k - 1, by omega⟩
    rw [f_X11_make_L69.eq_2, l0, Option.bind_some, br_le_t (by omega) (by omega), mb b hb, Option.bind_some]
    rfl
  | succ d ih =>
    intro i k b hd hi hk hb
    obtain ⟨k, rfl⟩ : ∃ k', k = k' + 1 := ⟨k - 1, by omega⟩
    have m1 := mt_le x.1 x.2.1 b p
    have m2 := mt_le x.1 x.2.1 i p
    rw [f_X11_make_L69.eq_2, l0, Option.bind_some, br_le_f (by omega) (by omega), mb i (by omega), Option.bind_some, mb b hb, Option.bind_some]
    unfold f_X11_make_J103
    rw [nI_1]
    have e2 : bst x p i (d + 1) b = bst x p (i + 1) d (if mt x.1 x.2.1 b p < mt x.1 x.2.1 i p then i else b) := rfl
    rw [e2]
    by_cases q : mt x.1 x.2.1 b p < mt x.1 x.2.1 i p
    · rw [br_le_f q (by omega), if_pos q]
      exact ih (i + 1) k i (by omega) (by omega) (by omega) (by omega)
    · rw [br_le_t (by omega) (by omega), if_neg q]
      exact ih (i + 1) k b (by omega) (by omega) (by omega) hb
theorem make54 {x : XS} (hT : x.2.1.2 ≤ 64) (hO : x.1.2 ≤ 64) : ∀ (fu p s k : Nat) (D : XD) (w : TModel), x.2.1.2 - p ≤ fu → fu < k → MI x D s p → S2 (mA w) (xm x D) → (∀ j, s ≤ j → j < p → mA w (253 + j) = x.2.1.1 j) → ∃ a', f_X11_make_L54 k w (nI p) (nI (p - s)) (nI (fb_ct (dK D) (dC D))) = some (nI (dC (mkS x fu p s D)), sA w a') ∧ S2 a' (xm x (mkS x fu p s D)) := by
  have done : ∀ (p s k : Nat) (D : XD) (w : TModel), x.2.1.2 ≤ p → MI x D s p → S2 (mA w) (xm x D) → (∀ j, s ≤ j → j < p → mA w (253 + j) = x.2.1.1 j) → ∃ a', f_X11_make_L54 (k + 1) w (nI p) (nI (p - s)) (nI (fb_ct (dK D) (dC D))) = some (nI (dC (pend D s p)), sA w a') ∧ S2 a' (xm x (pend D s p)) := by
    intro p s k D w hp hM h hb
    obtain ⟨j1, j2, j3, j4, j5, j6, j7, j8⟩ := id hM
    have l1 : f_X11_longOf w (1 : Int32) = some (nI x.2.1.2) := (X11_longOf w (v := 1) (by omega)).trans (congrArg some h.2.1.1)
    obtain ⟨a', e1, s1, f1⟩ := X11_adds hM hT h hb
    refine ⟨a', ?_, s1⟩
    rw [f_X11_make_L54.eq_2, l1, Option.bind_some, br_le_t hp (by omega), nI_sb (by omega), show p - (p - s) = s by omega, e1, Option.bind_some, gd_132, c_132, show (sA w a').1 132 = nI (dC (pend D s p)) from s1.2.2.1.2.2.1]
  intro fu
  induction fu with
  | zero =>
    intro p s k D w hf hk hM h hb
    obtain ⟨k, rfl⟩ : ∃ k', k = k' + 1 := ⟨k - 1, by omega⟩
    obtain ⟨j1, j2, j3, j4, j5, j6, j7, j8⟩ := id hM
    exact done p s k D w (by omega) hM h hb
  | succ fu ih =>
    intro p s k D w hf hk hM h hb
    obtain ⟨k, rfl⟩ : ∃ k', k = k' + 1 := ⟨k - 1, by omega⟩
    obtain ⟨j1, j2, j3, j4, j5, j6, j7, j8⟩ := id hM
    unfold mkS
    by_cases e : x.2.1.2 ≤ p
    · rw [if_pos e]
      exact done p s k D w e hM h hb
    · have l1 : f_X11_longOf w (1 : Int32) = some (nI x.2.1.2) := (X11_longOf w (v := 1) (by omega)).trans (congrArg some h.2.1.1)
      rw [if_neg e, f_X11_make_L54.eq_2, l1, Option.bind_some, br_le_f (by omega) (by omega)]
      have e69 := make69 hT hO h (f_X11_make_L54 k) j6 (nI (p - s)) (nI (fb_ct (dK D) (dC D))) (x.1.2 - 1) 1 FUEL 0 rfl ⟨by omega, by omega⟩ (by show _ < 10000; omega) (by omega)
      have e69 : f_X11_make_L69 (f_X11_make_L54 k) FUEL w (1 : Int32) (0 : Int32) (nI p) (nI (p - s)) (nI (fb_ct (dK D) (dC D))) = br (nI (mt x.1 x.2.1 (best x p) p) < (4 : Int32)) _ (br _ _ ((f_X11_adds w _ _).bind (fun x10 => (f_X11_appends x10 (1 : Int32) (nI (best x p)) (nI p) (nI (mt x.1 x.2.1 (best x p) p))).bind (fun x11 => f_X11_make_J185 (f_X11_make_L54 k) x11 (nI p + nI (mt x.1 x.2.1 (best x p) p)) (0 : Int32) _)))) := e69
      rw [e69]
      obtain ⟨b1, b2⟩ := best_ok (x := x) (p := p)
      have m0 := mt_le x.1 x.2.1 (best x p) p
      have skip : ∃ a', f_X11_make_J163 (f_X11_make_L54 k) w (nI p) (nI (p - s)) (nI (fb_ct (dK D) (dC D))) = some (nI (dC (mkS x fu (p + 1) s D)), sA w a') ∧ S2 a' (xm x (mkS x fu (p + 1) s D)) := by
        unfold f_X11_make_J163 f_X11_make_J185
        have by1 : f_X11_byteAt w (1 : Int32) (nI p) = some (x.2.1.1 p) := (X11_byteAt w (v := 1) (by omega) (by omega)).trans (congrArg some (h.2.1.2.2 p (by show p < x.2.1.2; omega)))
        rw [by1, Option.bind_some, show (253 : Int32) + nI p = nI (253 + p) from nI_add 253 _, gd_in (by omega) (by omega), nI_clamp (by omega), nI_1, nI_1, show p - s + 1 = p + 1 - s by omega]
        have hv : ∀ j, j ≠ 253 + p → mA w j = upd (mA w) (253 + p) (x.2.1.1 p) j := fun j hj => (upd_ne _ _ hj).symm
        obtain ⟨g1, g2, g3, g4, g5, g6⟩ := h
        have hS : S2 (upd (mA w) (253 + p) (x.2.1.1 p)) (xm x D) := by
          refine ⟨B2_cong (hv _ (by omega)) (fun k _ _ => hv k (by omega)) g1, B2_cong (hv _ (by omega)) (fun k _ _ => hv k (by omega)) g2, ?_, ⟨by rw [← hv 317 (by omega)]; exact g4.1, (fun q => by cases q)⟩, B2_cong (hv _ (by omega)) (fun k _ _ => hv k (by omega)) g5, W2_cong (fun k _ _ => hv k (by omega)) g6⟩
          obtain ⟨d1, d2, d3, d4, d5⟩ := g3
          have hc : dC D ≤ 30 := j1.1
          refine ⟨by rw [← hv _ (by omega)]; exact d1, by rw [← hv _ (by omega)]; exact d2, by rw [← hv _ (by omega)]; exact d3, fun i hi => ?_, fun i hi hK j hj => ?_⟩
          · have hi : i < dC D := hi
            rw [← hv _ (by omega), ← hv _ (by omega), ← hv _ (by omega), ← hv _ (by omega)]; exact d4 i hi
          · by_cases q : dG D i + j = p
            · show upd (mA w) (253 + p) (x.2.1.1 p) (253 + (dG D i + j)) = dA D (dG D i + j)
              rw [q, upd_at, j4]
            · have q : ¬ 253 + (dG (xm x D).2.2.1 i + j) = 253 + p := fun z => q (by have z : 253 + (dG D i + j) = 253 + p := z; omega)
              rw [← hv _ q]; exact d5 i hi hK j hj
        obtain ⟨a', e1, s1⟩ := ih (p + 1) s k D (sA w (upd (mA w) (253 + p) (x.2.1.1 p))) (by omega) (by omega) ⟨j1, j2, j3, j4, by omega, by omega, j7, j8⟩ hS (fun j h1 h2 => by
          rw [mA_sA]
          by_cases q : j = p
          · rw [q, upd_at]
          · rw [upd_ne _ _ (by omega)]; exact hb j h1 (by omega))
        exact ⟨a', e1, s1⟩
      by_cases m4 : 4 ≤ mt x.1 x.2.1 (best x p) p
      · rw [br_ne (show ¬ nI (mt x.1 x.2.1 (best x p) p) < (4 : Int32) from nI_nlt (b := 4) m4 (by omega))]
        by_cases q : fb_ct (dK D) (dC D) < 12
        · rw [br_ne (show ¬ (12 : Int32) ≤ nI (fb_ct (dK D) (dC D)) from nI_ge (b := 12) q (by omega)), if_pos ⟨q, m4⟩]
          obtain ⟨a1, e1, s1, f1⟩ := X11_adds hM hT h hb
          obtain ⟨c1, c2, c3, c4, c5⟩ := pend_c D s p
          obtain ⟨a2, e2, s2, f2⟩ := xm_app (w := sA w a1) s1 (pend_J hM) (by omega) true (r := best x p) (g := p) (l := mt x.1 x.2.1 (best x p) p) (fun z => by cases z) (by omega)
          rw [nI_sb (by omega), show p - (p - s) = s by omega, e1, Option.bind_some, show f_X11_appends (sA w a1) (1 : Int32) (nI (best x p)) (nI p) (nI (mt x.1 x.2.1 (best x p) p)) = some (sA (sA w a1) a2) from e2, Option.bind_some, nI_add]
          unfold f_X11_make_J185
          obtain ⟨a', e3, s3⟩ := ih (p + mt x.1 x.2.1 (best x p) p) (p + mt x.1 x.2.1 (best x p) p) k _ (sA w a2) (by omega) (by omega) (MI_copy hM (by omega) q m4) s2 (fun j h1 h2 => by omega)
          refine ⟨a', ?_, s3⟩
          have ect : fb_ct (dK (dP (pend D s p) true (best x p) p (mt x.1 x.2.1 (best x p) p))) (dC (dP (pend D s p) true (best x p) p (mt x.1 x.2.1 (best x p) p))) = fb_ct (dK D) (dC D) + 1 := by
            show fb_ct _ (dC (pend D s p) + 1) = _
            rw [dP_ct, c2]; rfl
          rw [ect, Nat.sub_self] at e3
          rw [nI_1]
          exact e3
        · rw [br_eq (show (12 : Int32) ≤ nI (fb_ct (dK D) (dC D)) from nI_le (a := 12) (by omega) (by omega)), if_neg (fun z => q z.1)]
          exact skip
      · rw [br_eq (show nI (mt x.1 x.2.1 (best x p) p) < (4 : Int32) from nI_lt (b := 4) (by omega) (by omega)), if_neg (fun z => m4 z.2)]
        exact skip
theorem m_make {now : TState} {hist : THistory} {mo : TModel} (h : RR now hist mo) : OKp (f_X10_make now hist) (f_X11_make mo) := by
  obtain ⟨x, n, f, hn, h1, h2, hI, h3, h4, hf⟩ := id h
  have o64 := h2.1.2.1
  have n64 := h2.2.1.2.1
  obtain ⟨hs, es, hs1⟩ := X4_save hn hI h3 h1
  obtain ⟨d, ed, hd⟩ := drop1 h1
  obtain ⟨w', es2, ea, eh, hs2⟩ := X11_saveW (w := sT mo 0) hn hI hf h4 h2
  have ea : mA w' = mA mo := ea
  obtain ⟨r, er, hr⟩ := X6_fill (x := x) hd.1 hd.2.1 d.2.2.1
  have hD := mkD_I o64 n64 hI.2.1
  have hD2 := dropS hI h2
  have hv : ∀ j, j ≠ 132 → j ≠ 130 → j ≠ 131 → aD (mA mo) j = upd (upd (upd (aD (mA mo)) 132 0) 130 (nI x.1.2)) 131 (nI x.2.1.2) j := fun j a b c => by rw [upd_ne _ _ c, upd_ne _ _ b, upd_ne _ _ a]
  obtain ⟨g1, g2, g3, g4, g5, g6⟩ := hD2
  have hS0 : S2 (upd (upd (upd (aD (mA mo)) 132 0) 130 (nI x.1.2)) 131 (nI x.2.1.2)) (xm x (d0 x)) := by
    refine ⟨B2_cong (hv _ (by omega) (by omega) (by omega)) (fun k _ _ => hv k (by omega) (by omega) (by omega)) g1, B2_cong (hv _ (by omega) (by omega) (by omega)) (fun k _ _ => hv k (by omega) (by omega) (by omega)) g2, ⟨?_, ?_, ?_, fun k hk => absurd hk (Nat.not_lt_zero k), fun k hk => absurd hk (Nat.not_lt_zero k)⟩, ⟨by rw [← hv 317 (by omega) (by omega) (by omega)]; exact g4.1, (fun q => by cases q)⟩, B2_cong (hv _ (by omega) (by omega) (by omega)) (fun k _ _ => hv k (by omega) (by omega) (by omega)) g5, W2_cong (fun k _ _ => hv k (by omega) (by omega) (by omega)) g6⟩
    · rw [upd_ne _ _ (by omega), upd_at]; rfl
    · rw [upd_at]; rfl
    · rw [upd_ne _ _ (by omega), upd_ne _ _ (by omega), upd_at]; rfl
  obtain ⟨a', e54, s54⟩ := make54 (x := x) n64 o64 64 0 0 FUEL (d0 x) (sA w' (upd (upd (upd (aD (mA mo)) 132 0) 130 (nI x.1.2)) 131 (nI x.2.1.2))) (by omega) (by decide) (d0_M o64 n64) hS0 (fun j h1 h2 => by omega)
  refine ⟨nI (dC (mkD x)), (d.1, d.2.1, r, d.2.2.2.1, d.2.2.2.2.1, d.2.2.2.2.2), hs, sA w' a', ?_, ?_, ?_⟩
  · unfold f_X10_make
    rw [es, Option.bind_some, ed, Option.bind_some, er, Option.bind_some, show r.2.2.2.2.2.2.2.2.1 = nI (dC (mkD x)) from hr.2.2.1]
  · unfold f_X11_make
    rw [show f_X11_save (mo.1, mo.2.1, mo.2.2.1, (0 : Int32), mo.2.2.2.2.1, mo.2.2.2.2.2.1, mo.2.2.2.2.2.2.1, mo.2.2.2.2.2.2.2.1, mo.2.2.2.2.2.2.2.2.1, mo.2.2.2.2.2.2.2.2.2.1, mo.2.2.2.2.2.2.2.2.2.2.1, mo.2.2.2.2.2.2.2.2.2.2.2.1, mo.2.2.2.2.2.2.2.2.2.2.2.2.1, mo.2.2.2.2.2.2.2.2.2.2.2.2.2) = some w' from es2, Option.bind_some, drop2, Option.bind_some, ea]
    have q1 : f_X11_longOf (sA (sA w' (aD (mA mo))) (upd (aD (mA mo)) 132 0)) (0 : Int32) = some (nI x.1.2) := (X11_longOf _ (v := 0) (by omega)).trans (congrArg some (by rw [mA_sA, upd_ne _ _ (by omega)]; exact g1.1))
    have q2 : f_X11_longOf (sA (sA w' (aD (mA mo))) (upd (upd (aD (mA mo)) 132 0) 130 (nI x.1.2))) (1 : Int32) = some (nI x.2.1.2) := (X11_longOf _ (v := 1) (by omega)).trans (congrArg some (by rw [mA_sA, upd_ne _ _ (by omega), upd_ne _ _ (by omega)]; exact g2.1))
    rw [gd_132, c_132]
    refine (congrArg (fun z => Option.bind z _) q1).trans ?_
    rw [Option.bind_some, gd_130, c_130]
    refine (congrArg (fun z => Option.bind z _) q2).trans ?_
    rw [Option.bind_some, gd_131, c_131]
    exact e54
  · have hx : S1 (d.1, d.2.1, r, d.2.2.2.1, d.2.2.2.2.1, d.2.2.2.2.2) (xm x (mkD x)) := ⟨hd.1, hd.2.1, hr, ⟨hd.2.2.2.1.1, (fun q => by cases q)⟩, hd.2.2.2.2.1, hd.2.2.2.2.2⟩
    exact ⟨xm x (mkD x), nS n, fS n f x, nS_le hn, hx, s54, ⟨hI.1, hI.2.1, hD, (fun q => by cases q), hI.2.2.2.2.1, (fun q => by cases q)⟩, hs1, hs2, fS_I hn hI hf⟩
