theorem loss_le {x : XD} (hI : DI x) (p : Nat → Bool) : lossOf x p ≤ 1920 := by
  have h1 : lossOf x p ≤ dC x * 64 := fb_sm_bound (fun k hk => by
    have := (hI.2.2.2.1 k hk).2.1
    have := hI.2.2.1
    split <;> omega)
  have := hI.1
  omega
theorem loss_cong {x : XD} {p q : Nat → Bool} (h : ∀ k, k < dC x → p k = q k) : lossOf x p = lossOf x q := fb_sm_cong (fun k hk => by rw [h k hk])
theorem ord_cong {x : XD} {p q : Nat → Bool} (h : ∀ k, k < dC x → p k = q k) (ho : orderly x p) : orderly x q := ord_sub ho (fun k hk e => by rw [h k hk]; exact e)
def okT (x : XD) (T : Nat) : Prop := orderly x (fun k => dK x k && !T.testBit k)
theorem minus_bm {p : Nat → Bool} {n s : Nat} (hn : n ≤ 32) : (bm p n &&& (nI s ^^^ (-1 : Int32))) = bm (fun k => p k && !s.testBit k) n := by
  refine b_ext fun i hi => ?_
  rw [b_and, b_xor, b_m1 i hi, bt_nI s hi, bm_bt p hn hi, bm_bt _ hn hi]
  cases decide (i < n) <;> cases p i <;> cases s.testBit i <;> rfl
theorem ll85 {w : TModel} {x : XD} (h : D2 (mA w) x) (hI : DI x) (ha : AH w x) : ∀ (fu s v : Nat), s &&& bn (dK x) (dC x) = s → rk (dC x) (bn (dK x) (dC x)) s < fu → v ≤ 1920 → (∃ T, T &&& bn (dK x) (dC x) = T ∧ okT x T ∧ lossOf x (fun k => T.testBit k) = v) → (∀ T, T &&& bn (dK x) (dC x) = T → s ≤ T → okT x T → v ≤ lossOf x (fun k => T.testBit k)) → ∃ r, f_X11_leastLossOf_L85 fu w (nI s) (nI v) (bm (dK x) (dC x)) = some (nI r, w) ∧ r ≤ 1920 ∧ isLL x r := by
  have hc := hI.1
  have hC := bn_lt (dK x) (dC x)
  have h30 : 2 ^ dC x ≤ 2 ^ 30 := Nat.pow_le_pow_right (by omega) hc
  have sub_lt : ∀ T, T &&& bn (dK x) (dC x) = T → T < 2 ^ dC x := fun T hT => by
    have : T ≤ bn (dK x) (dC x) := by rw [← hT]; exact Nat.and_le_right
    omega
  intro fu
  induction fu with
  | zero => intro s v h1 h2; omega
  | succ fu ih =>
    intro s v h1 h2 hv hA hB
    have hs := sub_lt s h1
    rw [f_X11_leastLossOf_L85.eq_2]
    by_cases e : s = 0
    · subst e
      rw [br_eq (show nI 0 = 0 from rfl)]
      refine ⟨v, rfl, hv, ?_, fun p p1 p2 => ?_⟩
      · obtain ⟨T, t1, t2, t3⟩ := hA
        refine ⟨fun k => T.testBit k, fun k hk e => ?_, t2, t3⟩
        have e : T.testBit k = true := e
        rw [← t1, Nat.testBit_and, Bool.and_eq_true, bn_bit, Bool.and_eq_true] at e
        exact e.2.2
      · have hb : ∀ k, k < dC x → (bn p (dC x)).testBit k = p k := fun k hk => by rw [bn_bit, decide_eq_true hk, Bool.true_and]
        have := hB (bn p (dC x)) (by
          apply Nat.eq_of_testBit_eq
          intro i
          rw [Nat.testBit_and, bn_bit, bn_bit]
          by_cases q : i < dC x
          · rw [decide_eq_true q, Bool.true_and, Bool.true_and]
            cases hp : p i
            · rfl
            · rw [p1 i q hp]; rfl
          · rw [decide_eq_false q]; rfl) (Nat.zero_le _) (ord_cong (fun k hk => by rw [hb k hk]) p2)
        rw [loss_cong hb] at this
        exact this
    · have e9 : (nI s - (1 : Int32)) &&& bm (dK x) (dC x) = nI ((s - 1) &&& bn (dK x) (dC x)) := by
        rw [show nI s - 1 = nI (s - 1) from nI_sb (b := 1) (by omega), ← bn_bm (dK x) (by omega), nand]
      rw [br_ne (nI_ne0 (by omega) (by omega)), e9]
      have n1 : ((s - 1) &&& bn (dK x) (dC x)) &&& bn (dK x) (dC x) = (s - 1) &&& bn (dK x) (dC x) := sub_next
      have n2 := rk_next (dC x) (bn (dK x) (dC x)) s hs h1 (by omega)
      have n3 := sub_lt _ n1
      have n4 := fun T => sub_max (dC x) (bn (dK x) (dC x)) s T hs h1
      generalize (s - 1) &&& bn (dK x) (dC x) = s' at n1 n2 n3 n4
      have hl : f_X11_lossOf w (nI s') = some (nI (lossOf x (fun k => s'.testBit k))) := by
        rw [bm_nI (by omega) n3]; exact X11_lossOf h hc _
      have hl2 := loss_le hI (fun k => s'.testBit k)
      rw [hl, Option.bind_some]
      unfold f_X11_leastLossOf_J124 f_X11_leastLossOf_J125
      have keep : (okT x s' → v ≤ lossOf x (fun k => s'.testBit k)) → ∃ r, f_X11_leastLossOf_L85 fu w (nI s') (nI v) (bm (dK x) (dC x)) = some (nI r, w) ∧ r ≤ 1920 ∧ isLL x r := fun q => by
        refine ih s' v n1 (by omega) hv hA (fun T t1 t2 t3 => ?_)
        rcases Nat.lt_or_ge T s with z | z
        · have := n4 T t1 z
          have e : T = s' := by omega
          subst e; exact q t3
        · exact hB T t1 z t3
      by_cases q : v ≤ lossOf x (fun k => s'.testBit k)
      · rw [br_le_t q (by omega)]
        exact keep (fun _ => q)
      · rw [br_le_f (by omega) (by omega), minus_bm (by omega)]
        obtain ⟨b, b1, b2⟩ := X11_isOrderly h hc ha (fun k => dK x k && !s'.testBit k)
        rw [b1, Option.bind_some, br_z0]
        cases hb : b
        · rw [if_neg (by decide)]
          exact keep (fun z => by rw [b2.mpr z] at hb; cases hb)
        · rw [if_pos rfl, Option.bind_some]
          have ho : okT x s' := b2.mp hb
          refine ih s' _ n1 (by omega) hl2 ⟨s', n1, ho, rfl⟩ (fun T t1 t2 t3 => ?_)
          rcases Nat.lt_or_ge T s with z | z
          · have := n4 T t1 z
            have e : T = s' := by omega
            subst e; exact Nat.le_refl _
          · have := hB T t1 z t3
            omega
theorem X11_leastLossOf {w : TModel} {x : XD} (h : D2 (mA w) x) (hI : DI x) : ∃ v hh, f_X11_leastLossOf w = some (nI v, sH w hh) ∧ isLL x v := by
  have hc := hI.1
  obtain ⟨hh, e1, ha⟩ := ll2 hI (dC x) 0 FUEL w h (fun e q => by omega) (Nat.zero_add _) (by show _ < 10000; omega)
  have hb : ∀ k, k < dC x → dK x k = (bn (dK x) (dC x)).testBit k := fun k hk => by rw [bn_bit, decide_eq_true hk, Bool.true_and]
  have hr := rk_lt (dC x) (bn (dK x) (dC x)) (bn (dK x) (dC x))
  rw [← fb_ct_cong hb] at hr
  have h12 : 2 ^ fb_ct (dK x) (dC x) ≤ 2 ^ 12 := Nat.pow_le_pow_right (by omega) hI.2.2.2.2.1
  obtain ⟨r, er, r1, r2⟩ := ll85 (w := sH w hh) h hI ha FUEL (bn (dK x) (dC x)) (lossOf x (dK x)) (Nat.and_self _) (by show _ < 10000; omega) (loss_le hI _) ⟨bn (dK x) (dC x), Nat.and_self _, ord_0 (fun k hk => by rw [← hb k hk]; cases dK x k <;> rfl), (loss_cong hb).symm⟩ (fun T t1 t2 t3 => by
    have : T ≤ bn (dK x) (dC x) := by rw [← t1]; exact Nat.and_le_right
    have e : T = bn (dK x) (dC x) := by omega
    subst e
    exact Nat.le_of_eq (loss_cong hb))
  refine ⟨r, hh, ?_, r2⟩
  unfold f_X11_leastLossOf
  rw [bn_bm _ (by omega)] at er
  exact e1.trans er
theorem m_leastLoss {now : TState} {hist : THistory} {mo : TModel} (h : RR now hist mo) : ∃ v now' mo', f_X10_leastLoss now = some (v, now') ∧ f_X11_leastLoss mo = some (v, mo') ∧ RR now' hist mo' := by
  obtain ⟨x, n, f, hn, h1, h2, hI, h3, h4, hf⟩ := id h
  obtain ⟨v, d', v1, v2, v3, v4⟩ := X2_least h1.2.2.1 hI.2.2.1
  obtain ⟨u, hh, u1, u2⟩ := X11_leastLossOf (w := sT mo 0) h2.2.2.1 hI.2.2.1
  have e := isLL_one v3 u2
  subst e
  refine ⟨nI v, (now.1, now.2.1, d', now.2.2.2.1, now.2.2.2.2.1, now.2.2.2.2.2), sH (sT mo 0) hh, ?_, ?_, ?_⟩
  · unfold f_X10_leastLoss
    rw [v2, Option.bind_some]
  · unfold f_X11_leastLoss
    exact (congrArg (fun z => Option.bind z _) u1).trans rfl
  · exact ⟨x, n, f, hn, ⟨h1.1, h1.2.1, v4, h1.2.2.2.1, h1.2.2.2.2.1, h1.2.2.2.2.2⟩, h2, hI, h3, h4, hf⟩
