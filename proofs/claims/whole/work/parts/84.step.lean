/-! step -/
/-- byte i of what an ADD, or a converted COPY, writes -/
def bF (x : XS) (k i : Nat) : Int32 := if dK x.2.2.1 k then x.1.1 (dR x.2.2.1 k + i) else dA x.2.2.1 (dG x.2.2.1 k + i)
def whl (x : XS) (k : Nat) : Bool := dK x.2.2.1 k && !x.2.2.2.1.2.2 k
theorem X8_byteToAdd {st : TState} {x : XS} (h : S1 st x) (hI : SI x) (hS : x.1.2 = dS x.2.2.1) {k i : Nat} (hk : k < dC x.2.2.1) (hi : i < dL x.2.2.1 k) : f_X8_byteToAdd st (nI k) (nI i) = some (bF x k i) := by
  have i1 := hI.2.2.1.1
  have d1 := h.2.2.1
  have b := hI.2.2.1.2.2.2.1 k hk
  unfold f_X8_byteToAdd bF
  rw [X2_isCy d1 i1 hk, Option.bind_some, br_z0]
  cases hK : dK x.2.2.1 k
  · rw [if_neg (by decide), if_neg (by decide), X2_tgt d1 i1 hk, Option.bind_some, nI_add, X2_added d1 hI.2.2.1 hk hK hi, Option.bind_some]
  · have b2 := b.2.2 hK
    rw [if_pos rfl, if_pos rfl, X2_src d1 i1 hk, Option.bind_some, hK, show sI true (dR x.2.2.1 k) = nI (dR x.2.2.1 k) from rfl, nI_add, X0_at (by decide) h.1 (by omega), Option.bind_some]
theorem X11_byteFor {w : TModel} {x : XS} (h : S2 (mA w) x) (hI : SI x) (hS : x.1.2 = dS x.2.2.1) {k i : Nat} (hk : k < dC x.2.2.1) (hi : i < dL x.2.2.1 k) : f_X11_byteFor w (nI k) (nI i) = some (bF x k i) := by
  have i1 := hI.2.2.1.1
  have i2 := hI.2.2.1.2.1
  have i3 := hI.2.2.1.2.2.1
  have d2 := h.2.2.1
  have b := hI.2.2.1.2.2.2.1 k hk
  unfold f_X11_byteFor bF
  rw [X11_isC d2 i1 hk, Option.bind_some, br_z0]
  cases hK : dK x.2.2.1 k
  · rw [if_neg (by decide), if_neg (by decide), of_2 d2 i1 hk, Option.bind_some, show (253 : Int32) + nI (dG x.2.2.1 k) = nI (253 + dG x.2.2.1 k) from nI_add 253 _, nI_add, gd_in (by omega) (by omega), nI_clamp (by omega), ← d2.2.2.2.2 k hk hK i hi, Nat.add_assoc]
  · have b2 := b.2.2 hK
    rw [if_pos rfl, if_pos rfl, of_1 d2 i1 hk, Option.bind_some, hK, show sI true (dR x.2.2.1 k) = nI (dR x.2.2.1 k) from rfl, nI_add, show f_X11_byteAt w 0 (nI (dR x.2.2.1 k + i)) = some (x.1.1 (dR x.2.2.1 k + i)) from (X11_byteAt w (v := 0) (by omega) (by omega)).trans (congrArg some (h.1.2.2 _ (by omega))), Option.bind_some]
theorem X7_isCopied {st : TState} {x : XS} (h : S1 st x) (hI : SI x) (ht : x.2.2.2.1.1 = true) {k : Nat} (hk : k < dC x.2.2.1) : f_X7_isCopied st.2.2.2.1 st.2.2.1 (nI k) = some (zI (whl x k)) := by
  have i1 := hI.2.2.1.1
  unfold f_X7_isCopied whl
  rw [X2_isCy h.2.2.1 i1 hk, Option.bind_some, br_z0, show st.2.2.2.1.2.2.2.1 = bm x.2.2.2.1.2.2 (dC x.2.2.1) from (h.2.2.2.1.2 ht).2.2.1, X10_isIn (by omega) (by omega), Option.bind_some, br_z0, decide_eq_true hk, Bool.true_and]
  cases dK x.2.2.1 k <;> cases x.2.2.2.1.2.2 k <;> rfl
/-- what a step writes, byte by byte -/
def stW (x : XS) (k i : Nat) : Int32 := if whl x k then x.2.2.2.2.2.2.2.1 (dR x.2.2.1 k + i) else bF x k i
def stK (x : XS) : Nat := x.2.2.2.1.2.1 (dC x.2.2.1 - x.2.2.2.2.2.2.1)
def stB (x : XS) : XB := (fb_put x.2.2.2.2.2.2.2.1 (stW x (stK x)) (dG x.2.2.1 (stK x)) (dL x.2.2.1 (stK x)), if x.2.2.2.2.2.2.1 = 1 then dT x.2.2.1 else x.2.2.2.2.2.2.2.2)
def xstep (x : XS) : XS := (x.1, x.2.1, x.2.2.1, x.2.2.2.1, x.2.2.2.2.1, (true, x.2.2.2.2.2.2.1 - 1, stB x))
theorem put_ext {f g : Nat → Int32} {a n : Nat} : (fun k => if k = a + n then g n else fb_put f g a n k) = fb_put f g a (n + 1) := by
  rw [← fb_put_succ]; rfl
theorem fin109 {st : TState} {x : XS} (h : S1 st x) (hI : SI x) (ht : x.2.2.2.2.2.1 = true) (hl : 0 < x.2.2.2.2.2.2.1) {b : TBytes} {g : Nat → Int32} (hb : B1 64 b (g, x.2.2.2.2.2.2.2.2)) : ∃ r, f_X9_carryOutNext_J109 (st.1, st.2.1, st.2.2.1, st.2.2.2.1, st.2.2.2.2.1, (b, st.2.2.2.2.2.2.1, st.2.2.2.2.2.2.2)) = some (st.1, st.2.1, st.2.2.1, st.2.2.2.1, st.2.2.2.2.1, (r, (1 : Int32), nI (x.2.2.2.2.2.2.1 - 1))) ∧ B1 64 r (g, if x.2.2.2.2.2.2.1 = 1 then dT x.2.2.1 else x.2.2.2.2.2.2.2.2) := by
  have hw := h.2.2.2.2.2
  have hwi := hI.2.2.2.2.2 ht
  have i1 := hI.2.2.1.1
  have i3 := hI.2.2.1.2.2.1
  have hT : st.2.2.1.2.2.2.2.2.2.2.1 = nI (dT x.2.2.1) := h.2.2.1.2.1
  unfold f_X9_carryOutNext_J109 f_X9_cutIfFinished
  rw [hT, show st.2.2.2.2.2.2.2 = nI x.2.2.2.2.2.2.1 from hw.2.2 ht, show st.2.2.2.2.2.2.1 = 1 from W1_there hw ht, show nI x.2.2.2.2.2.2.1 - 1 = nI (x.2.2.2.2.2.2.1 - 1) from nI_sb (b := 1) hl]
  by_cases e : x.2.2.2.2.2.2.1 = 1
  · obtain ⟨r, er, hr⟩ := X0_cut (by decide) hb (m := dT x.2.2.1) (by omega)
    refine ⟨r, ?_, ?_⟩
    · rw [br_eq (show nI (x.2.2.2.2.2.2.1 - 1) = 0 by rw [e]; rfl), er]; rfl
    · rw [if_pos e]
      have e2 : min x.2.2.2.2.2.2.2.2 (dT x.2.2.1) = dT x.2.2.1 := by
        have := (hwi.2.2 hl).2
        omega
      have hr2 : B1 64 r (g, min x.2.2.2.2.2.2.2.2 (dT x.2.2.1)) := hr
      rw [e2] at hr2
      exact hr2
  · refine ⟨b, ?_, ?_⟩
    · rw [br_ne (show ¬ nI (x.2.2.2.2.2.2.1 - 1) = 0 from nI_ne0 (by omega) (by omega))]; rfl
    · rw [if_neg e]; exact hb
theorem carry78 {st : TState} {x : XS} (h : S1 st x) (hI : SI x) (ht : x.2.2.2.2.2.1 = true) (hl : 0 < x.2.2.2.2.2.2.1) {k : Nat} (hk : k < dC x.2.2.1) (hS : x.1.2 = dS x.2.2.1) : ∀ (d i fu : Nat) (b : TBytes), i + d = dL x.2.2.1 k → d < fu → B1 64 b (fb_put x.2.2.2.2.2.2.2.1 (bF x k) (dG x.2.2.1 k) i, x.2.2.2.2.2.2.2.2) → ∃ r, f_X9_carryOutNext_L78 fu (st.1, st.2.1, st.2.2.1, st.2.2.2.1, st.2.2.2.2.1, (b, st.2.2.2.2.2.2.1, st.2.2.2.2.2.2.2)) (nI i) (nI (dL x.2.2.1 k)) (nI (dG x.2.2.1 k)) (nI k) = some (st.1, st.2.1, st.2.2.1, st.2.2.2.1, st.2.2.2.2.1, (r, (1 : Int32), nI (x.2.2.2.2.2.2.1 - 1))) ∧ B1 64 r (fb_put x.2.2.2.2.2.2.2.1 (bF x k) (dG x.2.2.1 k) (dL x.2.2.1 k), if x.2.2.2.2.2.2.1 = 1 then dT x.2.2.1 else x.2.2.2.2.2.2.2.2) := by
  have bk := hI.2.2.1.2.2.2.1 k hk
  have i3 := hI.2.2.1.2.2.1
  have hwi := hI.2.2.2.2.2 ht
  have hn := (hwi.2.2 hl).2
  intro d
  induction d with
  | zero =>
    intro i fu b hi hf hb
    obtain ⟨fu, rfl⟩ : ∃ k', fu = k' + 1 := ⟨fu - 1, by omega⟩
    rw [f_X9_carryOutNext_L78.eq_2, br_le_t (by omega) (by omega)]
    rw [show i = dL x.2.2.1 k by omega] at hb
    exact fin109 h hI ht hl hb
  | succ d ih =>
    intro i fu b hi hf hb
    obtain ⟨fu, rfl⟩ : ∃ k', fu = k' + 1 := ⟨fu - 1, by omega⟩
    obtain ⟨r, er, hr⟩ := X0_put (by decide) hb (j := dG x.2.2.1 k + i) (show dG x.2.2.1 k + i < x.2.2.2.2.2.2.2.2 by omega) (bF x k i)
    have e9 : f_X8_byteToAdd (st.1, st.2.1, st.2.2.1, st.2.2.2.1, st.2.2.2.2.1, (b, st.2.2.2.2.2.2.1, st.2.2.2.2.2.2.2)) (nI k) (nI i) = some (bF x k i) := X8_byteToAdd h hI hS hk (by omega)
    rw [f_X9_carryOutNext_L78.eq_2, br_le_f (by omega) (by omega), e9, Option.bind_some, nI_add, er, Option.bind_some, show nI i + 1 = nI (i + 1) from nI_1 i]
    refine ih (i + 1) fu r (by omega) (by omega) ?_
    have hr2 : B1 64 r (fun e => if e = dG x.2.2.1 k + i then bF x k i else fb_put x.2.2.2.2.2.2.2.1 (bF x k) (dG x.2.2.1 k) i e, x.2.2.2.2.2.2.2.2) := hr
    rw [put_ext] at hr2
    exact hr2
theorem X9_carry {st : TState} {x : XS} (h : S1 st x) (hI : SI x) (ht : x.2.2.2.2.2.1 = true) (hl : 0 < x.2.2.2.2.2.2.1) : ∃ r, f_X9_carryOutNext st = some r ∧ S1 r (xstep x) ∧ r.2.2.2.2.2.2.2 = nI (x.2.2.2.2.2.2.1 - 1) := by
  have hw := h.2.2.2.2.2
  have hwi := hI.2.2.2.2.2 ht
  have hpi := hI.2.2.2.1 hwi.1
  have i1 := hI.2.2.1.1
  have i2 := hI.2.2.1.2.1
  have i3 := hI.2.2.1.2.2.1
  obtain ⟨q1, q2, q3, q4⟩ := h.2.2.2.1.2 hwi.1
  have hlc := hwi.2.1
  have hkc : stK x < dC x.2.2.1 := hpi.2.1 _ (by omega)
  have bk := hI.2.2.1.2.2.2.1 _ hkc
  have hn := hwi.2.2 hl
  have e1 : f_X7_at st.2.2.2.1 (st.2.2.2.1.2.2.1 - st.2.2.2.2.2.2.2) = some (nI (stK x)) := by
    rw [q1, show st.2.2.2.2.2.2.2 = nI x.2.2.2.2.2.2.1 from hw.2.2 ht, nI_sb hlc, X7_at q1 i1 (by omega), q2 _ (by omega)]; rfl
  have done : ∀ r0, f_X9_carryOutNext st = some (st.1, st.2.1, st.2.2.1, st.2.2.2.1, st.2.2.2.2.1, (r0, (1 : Int32), nI (x.2.2.2.2.2.2.1 - 1))) → B1 64 r0 (stB x) → ∃ r, f_X9_carryOutNext st = some r ∧ S1 r (xstep x) ∧ r.2.2.2.2.2.2.2 = nI (x.2.2.2.2.2.2.1 - 1) :=
    fun r0 e hr => ⟨_, e, ⟨h.1, h.2.1, h.2.2.1, h.2.2.2.1, h.2.2.2.2.1, rfl, hr, fun _ => rfl⟩, rfl⟩
  cases hW : whl x (stK x)
  · obtain ⟨r, er, hr⟩ := carry78 h hI ht hl hkc hpi.1 (dL x.2.2.1 (stK x)) 0 FUEL st.2.2.2.2.2.1 (Nat.zero_add _) (by show _ < 10000; omega) (by rw [fb_put_0]; exact hw.2.1)
    refine done r ?_ ?_
    · unfold f_X9_carryOutNext
      rw [e1, Option.bind_some, X2_tgt h.2.2.1 i1 hkc, Option.bind_some, X2_len h.2.2.1 i1 hkc, Option.bind_some, X7_isCopied h hI hwi.1 hkc, Option.bind_some, hW, zI_f, br_00]
      exact er
    · unfold stB
      have e : stW x (stK x) = bF x (stK x) := by
        funext i; unfold stW; rw [hW]; rfl
      rw [e]; exact hr
  · have hK : dK x.2.2.1 (stK x) = true := by
      unfold whl at hW
      cases hz : dK x.2.2.1 (stK x)
      · rw [hz] at hW; cases hW
      · rfl
    have b2 := bk.2.2 hK
    have hb0 := hw.2.1
    have hb64 := hb0.2.1
    have hmv : ∃ b, f_X0_move 64 st.2.2.2.2.2.1 (nI (dR x.2.2.1 (stK x))) (nI (dG x.2.2.1 (stK x))) (nI (dL x.2.2.1 (stK x))) = some b ∧ B1 64 b (fb_put x.2.2.2.2.2.2.2.1 (stW x (stK x)) (dG x.2.2.1 (stK x)) (dL x.2.2.1 (stK x)), x.2.2.2.2.2.2.2.2) := by
      unfold f_X0_move
      refine ex_of (by rw [br_ne (nI_pos (by omega)), br_ne (nI_pos (by omega)), br_ne (nI_pos (by omega)), hb0.1, nI_add, nI_add, br_lt_f (by omega) (by omega), br_lt_f (by omega) (by omega), nI_clamp (by omega), nI_clamp (by omega), nI_clamp (by omega), gd_eq ⟨nI_pos (by omega), nI_pos (by omega), nI_pos (by omega), by omega, by omega⟩]) ?_
      refine ⟨rfl, hb64, fun i hi => ?_⟩
      show va_cpy st.2.2.2.2.2.1.1 st.2.2.2.2.2.1.1 _ _ _ i = fb_put x.2.2.2.2.2.2.2.1 (stW x (stK x)) (dG x.2.2.1 (stK x)) (dL x.2.2.1 (stK x)) i
      by_cases q : dG x.2.2.1 (stK x) ≤ i ∧ i < dG x.2.2.1 (stK x) + dL x.2.2.1 (stK x)
      · rw [pk_cpy_in q.1 q.2, fb_put_in q.1 q.2]
        unfold stW
        rw [hW, if_pos rfl]
        exact hb0.2.2 _ (by omega)
      · rw [pk_cpy_out (by omega), fb_put_out (by omega)]
        exact hb0.2.2 i hi
    obtain ⟨b, eb, hb⟩ := hmv
    obtain ⟨r, er, hr⟩ := fin109 h hI ht hl hb
    refine done r ?_ hr
    unfold f_X9_carryOutNext
    rw [e1, Option.bind_some, X2_tgt h.2.2.1 i1 hkc, Option.bind_some, X2_len h.2.2.1 i1 hkc, Option.bind_some, X7_isCopied h hI hwi.1 hkc, Option.bind_some, hW, zI_t, br_10, X2_src h.2.2.1 i1 hkc, Option.bind_some, hK, show sI true (dR x.2.2.1 (stK x)) = nI (dR x.2.2.1 (stK x)) from rfl, eb, Option.bind_some]
    exact er
