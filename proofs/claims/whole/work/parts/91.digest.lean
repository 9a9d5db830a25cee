/-! digest -/
def mixs (f : Nat → Int32) : Nat → Nat → Int64 → Int64
  | _, 0, h => h
  | i, d + 1, h => mixs f (i + 1) d ((31 : Int64) * h + (f i).toInt64)
theorem mixs_0 (f : Nat → Int32) (i : Nat) (h : Int64) : mixs f i 0 h = h := rfl
theorem mixs_s (f : Nat → Int32) (i d : Nat) (h : Int64) : mixs f i (d + 1) h = mixs f (i + 1) d ((31 : Int64) * h + (f i).toInt64) := rfl
theorem mixs_cong {f g : Nat → Int32} : ∀ {d i j : Nat} {h : Int64}, (∀ e, e < d → f (i + e) = g (j + e)) → mixs f i d h = mixs g j d h
  | 0, _, _, _, _ => rfl
  | d + 1, i, j, h, hh => by
    have h0 := hh 0 (by omega)
    rw [Nat.add_zero, Nat.add_zero] at h0
    rw [mixs_s, mixs_s, h0]
    exact mixs_cong (fun e he => by
      have := hh (e + 1) (by omega)
      rw [show i + 1 + e = i + (e + 1) by omega, show j + 1 + e = j + (e + 1) by omega]
      exact this)
theorem mix13 {cap : Nat} (hc : cap < 10000) {w : TBytes} {x : XB} (h : B1 cap w x) (p1 : Int64) : ∀ (d i k : Nat) (v : Int64), i + d = x.2 → d < k → f_X0_mixInto_L13 cap w p1 k (nI i) v = some (mixs x.1 i d v) := by
  have hx := h.2.1
  intro d
  induction d with
  | zero =>
    intro i k v hi hk
    obtain ⟨k, rfl⟩ : ∃ k', k = k' + 1 := ⟨k - 1, by omega⟩
    rw [f_X0_mixInto_L13.eq_2, h.1, br_le_t (by omega) (by omega)]; rfl
  | succ d ih =>
    intro i k v hi hk
    obtain ⟨k, rfl⟩ : ∃ k', k = k' + 1 := ⟨k - 1, by omega⟩
    rw [f_X0_mixInto_L13.eq_2, h.1, br_le_f (by omega) (by omega), X0_at (by omega) h (by omega), Option.bind_some]
    unfold f_X10_mix
    rw [Option.bind_some, nI_1, ih (i + 1) k _ (by omega) (by omega)]; rfl
theorem X0_mixInto {cap : Nat} (hc : cap < 10000) {w : TBytes} {x : XB} (h : B1 cap w x) (v : Int64) : f_X0_mixInto cap w v = some (mixs x.1 0 x.2 ((31 : Int64) * v + (nI x.2).toInt64)) := by
  have hx := h.2.1
  unfold f_X0_mixInto f_X10_mix
  rw [Option.bind_some, h.1]
  exact mix13 hc h v x.2 0 FUEL _ (Nat.zero_add _) (by show _ < 10000; omega)
theorem sums6 {w : TModel} {a m : Nat} (ha : a + m ≤ 617) (p1 : Int64) : ∀ (d i k : Nat) (v : Int64), i + d = m → d < k → f_X11_sums_L6 w p1 (nI a) (nI m) k (nI i) v = some (mixs (fun e => mA w (a + e)) i d v) := by
  intro d
  induction d with
  | zero =>
    intro i k v hi hk
    obtain ⟨k, rfl⟩ : ∃ k', k = k' + 1 := ⟨k - 1, by omega⟩
    rw [f_X11_sums_L6.eq_2, br_le_t (by omega) (by omega)]; rfl
  | succ d ih =>
    intro i k v hi hk
    obtain ⟨k, rfl⟩ : ∃ k', k = k' + 1 := ⟨k - 1, by omega⟩
    rw [f_X11_sums_L6.eq_2, br_le_f (by omega) (by omega), nI_add, gd_in (by omega) (by omega), nI_clamp (by omega), nm_eq, nI_1, ih (i + 1) k _ (by omega) (by omega)]; rfl
theorem X11_sums {w : TModel} {a m : Nat} (ha : a + m ≤ 617) (v : Int64) : f_X11_sums w v (nI a) (nI m) = some (mixs (fun e => mA w (a + e)) 0 m v) := sums6 ha v m 0 FUEL v (Nat.zero_add _) (by show _ < 10000; omega)
/-- a command, and all commands -/
def cmix (x : XD) (k : Nat) (h : Int64) : Int64 := if dK x k then mixs (dsc x k) 0 4 h else mixs (dA x) (dG x k) (dL x k) (mixs (dsc x k) 0 4 h)
def dmix (x : XD) : Nat → Nat → Int64 → Int64
  | _, 0, h => h
  | i, d + 1, h => dmix x (i + 1) d (cmix x i h)
theorem cmd44 {w : TDelta} {x : XD} (h : D1 w x) (hI : DI x) (p1 : Int64) {k : Nat} (hk : k < dC x) (hK : dK x k = false) : ∀ (d i fu : Nat) (v : Int64), i + d = dL x k → d < fu → f_X2_mixCommandInto_L44 w p1 (nI k) fu (nI i) v = some (mixs (dA x) (dG x k + i) d v) := by
  have hc := hI.1
  have b := hI.2.2.2.1 k hk
  have b3 := hI.2.2.1
  intro d
  induction d with
  | zero =>
    intro i fu v hi hf
    obtain ⟨fu, rfl⟩ : ∃ k', fu = k' + 1 := ⟨fu - 1, by omega⟩
    rw [f_X2_mixCommandInto_L44.eq_2, X2_len h hc hk, Option.bind_some, br_le_t (by omega) (by omega)]; rfl
  | succ d ih =>
    intro i fu v hi hf
    obtain ⟨fu, rfl⟩ : ∃ k', fu = k' + 1 := ⟨fu - 1, by omega⟩
    rw [f_X2_mixCommandInto_L44.eq_2, X2_len h hc hk, Option.bind_some, br_le_f (by omega) (by omega), X2_tgt h hc hk, Option.bind_some, nI_add, X2_added h hI hk hK (by omega), Option.bind_some]
    unfold f_X10_mix
    rw [Option.bind_some, nI_1, ih (i + 1) fu _ (by omega) (by omega)]; rfl
theorem cmd6 {w : TDelta} {x : XD} (h : D1 w x) (hI : DI x) (p1 : Int64) {k : Nat} (hk : k < dC x) : ∀ (d i fu : Nat) (v : Int64), i + d = 4 → d < fu → f_X2_mixCommandInto_L6 w p1 (nI k) fu (nI i) v = some (if dK x k then mixs (dsc x k) i d v else mixs (dA x) (dG x k) (dL x k) (mixs (dsc x k) i d v)) := by
  have hc := hI.1
  have b := hI.2.2.2.1 k hk
  have b3 := hI.2.2.1
  intro d
  induction d with
  | zero =>
    intro i fu v hi hf
    obtain ⟨fu, rfl⟩ : ∃ k', fu = k' + 1 := ⟨fu - 1, by omega⟩
    rw [f_X2_mixCommandInto_L6.eq_2, br_eq (show (3 : Int32) < nI i from nI_lt (a := 3) (by omega) (by omega)), X2_isCy h hc hk, Option.bind_some, br_z0]
    cases hK : dK x k
    · rw [if_neg (by decide), if_neg (by decide)]
      exact cmd44 h hI p1 hk hK (dL x k) 0 FUEL v (Nat.zero_add _) (by show _ < 10000; omega)
    · rfl
  | succ d ih =>
    intro i fu v hi hf
    obtain ⟨fu, rfl⟩ : ∃ k', fu = k' + 1 := ⟨fu - 1, by omega⟩
    rw [f_X2_mixCommandInto_L6.eq_2, br_ne (show ¬ (3 : Int32) < nI i from nI_nlt (a := 3) (by omega) (by omega)), X2_describe h hc hk (by omega), Option.bind_some]
    unfold f_X10_mix
    rw [Option.bind_some, nI_1, ih (i + 1) fu _ (by omega) (by omega)]; rfl
theorem X2_cmd {w : TDelta} {x : XD} (h : D1 w x) (hI : DI x) (v : Int64) {k : Nat} (hk : k < dC x) : f_X2_mixCommandInto w v (nI k) = some (cmix x k v) := cmd6 h hI v hk 4 0 FUEL v rfl (by decide)
theorem dmix33 {w : TDelta} {x : XD} (h : D1 w x) (hI : DI x) (p1 : Int64) : ∀ (d i fu : Nat) (v : Int64), i + d = dC x → d < fu → f_X2_mixInto_L33 w p1 fu (nI i) v = some (dmix x i d v) := by
  have hc := hI.1
  have eC : w.2.2.2.2.2.2.2.2.1 = nI (dC x) := h.2.2.1
  intro d
  induction d with
  | zero =>
    intro i fu v hi hf
    obtain ⟨fu, rfl⟩ : ∃ k', fu = k' + 1 := ⟨fu - 1, by omega⟩
    rw [f_X2_mixInto_L33.eq_2, eC, br_le_t (by omega) (by omega)]; rfl
  | succ d ih =>
    intro i fu v hi hf
    obtain ⟨fu, rfl⟩ : ∃ k', fu = k' + 1 := ⟨fu - 1, by omega⟩
    rw [f_X2_mixInto_L33.eq_2, eC, br_le_f (by omega) (by omega), X2_cmd h hI v (by omega), Option.bind_some, nI_1, ih (i + 1) fu _ (by omega) (by omega)]; rfl
/-- source length, target length, number of commands -/
def hd3 (x : XD) (v : Int64) : Int64 := (31 : Int64) * ((31 : Int64) * ((31 : Int64) * v + (nI (dS x)).toInt64) + (nI (dT x)).toInt64) + (nI (dC x)).toInt64
theorem X2_mixInto {w : TDelta} {x : XD} (h : D1 w x) (hI : DI x) (v : Int64) : f_X2_mixInto w v = some (dmix x 0 (dC x) (hd3 x v)) := by
  have hc := hI.1
  unfold f_X2_mixInto f_X10_mix
  rw [Option.bind_some, Option.bind_some, Option.bind_some, show w.2.2.2.2.2.2.1 = nI (dS x) from h.1, show w.2.2.2.2.2.2.2.1 = nI (dT x) from h.2.1, show w.2.2.2.2.2.2.2.2.1 = nI (dC x) from h.2.2.1]
  exact dmix33 h hI v (dC x) 0 FUEL _ (Nat.zero_add _) (by show _ < 10000; omega)
noncomputable def pmix (x : XD) (y : XP) (v : Int64) : Int64 := if y.1 then (31 : Int64) * mixs (fun k => nI (y.2.1 k)) 0 (dC x) ((31 : Int64) * v + 1) + (bm y.2.2 (dC x)).toInt64 else (31 : Int64) * v + 0
theorem pmix22 {w : TPlan} {x : XD} {y : XP} (hc : dC x ≤ 30) (h1 : w.2.2.1 = nI (dC x)) (h2 : ∀ k, k < dC x → w.1 k = nI (y.2.1 k)) (h3 : w.2.2.2.1 = bm y.2.2 (dC x)) (p1 : Int64) : ∀ (d i fu : Nat) (v : Int64), i + d = dC x → d < fu → f_X7_mixInto_L22 w p1 fu (nI i) v = some ((31 : Int64) * mixs (fun k => nI (y.2.1 k)) i d v + (bm y.2.2 (dC x)).toInt64) := by
  intro d
  induction d with
  | zero =>
    intro i fu v hi hf
    obtain ⟨fu, rfl⟩ : ∃ k', fu = k' + 1 := ⟨fu - 1, by omega⟩
    rw [f_X7_mixInto_L22.eq_2, h1, br_le_t (by omega) (by omega), h3]; rfl
  | succ d ih =>
    intro i fu v hi hf
    obtain ⟨fu, rfl⟩ : ∃ k', fu = k' + 1 := ⟨fu - 1, by omega⟩
    rw [f_X7_mixInto_L22.eq_2, h1, br_le_f (by omega) (by omega), X7_at h1 hc (by omega), Option.bind_some, h2 i (by omega)]
    unfold f_X10_mix
    rw [Option.bind_some, nI_1, ih (i + 1) fu _ (by omega) (by omega)]; rfl
theorem X7_mixInto {w : TPlan} {x : XD} {y : XP} (h : P1 w x y) (hc : dC x ≤ 30) (v : Int64) : f_X7_mixInto w v = some (pmix x y v) := by
  unfold f_X7_mixInto pmix f_X10_mix
  rw [h.1, br_z0, Option.bind_some, Option.bind_some]
  cases ht : y.1
  · rfl
  · obtain ⟨q1, q2, q3, -⟩ := h.2 ht
    rw [if_pos rfl, if_pos rfl]
    exact pmix22 hc q1 q2 q3 v (dC x) 0 FUEL _ (Nat.zero_add _) (by show _ < 10000; omega)
def wmix (y : XW) (v : Int64) : Int64 := if y.1 then mixs y.2.2.1 0 y.2.2.2 ((31 : Int64) * ((31 : Int64) * ((31 : Int64) * v + 1) + (nI y.2.1).toInt64) + (nI y.2.2.2).toInt64) else (31 : Int64) * v + 0
theorem X9_mixInto {w : TWork} {y : XW} (h : W1 w y) (v : Int64) : f_X9_mixInto w v = some (wmix y v) := by
  unfold f_X9_mixInto wmix f_X10_mix
  rw [h.1, br_z0]
  cases ht : y.1
  · rfl
  · rw [if_pos rfl, if_pos rfl, Option.bind_some, Option.bind_some, h.2.2 ht, X0_mixInto (by omega) h.2.1, Option.bind_some]
/-- the digest of a state with n saved ones, its least loss being l -/
noncomputable def dgst (x : XS) (n l : Nat) : Int64 :=
  let h1 := mixs x.1.1 0 x.1.2 ((31 : Int64) * 2777 + (nI x.1.2).toInt64)
  let h2 := mixs x.2.1.1 0 x.2.1.2 ((31 : Int64) * h1 + (nI x.2.1.2).toInt64)
  let h3 := dmix x.2.2.1 0 (dC x.2.2.1) (hd3 x.2.2.1 h2)
  let h4 := pmix x.2.2.1 x.2.2.2.1 ((31 : Int64) * h3 + (nI l).toInt64)
  let h5 := mixs x.2.2.2.2.1.1 0 x.2.2.2.2.1.2 ((31 : Int64) * h4 + (nI x.2.2.2.2.1.2).toInt64)
  (31 : Int64) * wmix x.2.2.2.2.2 h5 + (nI n).toInt64
theorem dg192 {w : TModel} {x : XS} (h : S2 (mA w) x) {n : Nat} (hn : mN w = nI n) (v : Int64) : f_X11_digest_J192 w v = some ((31 : Int64) * wmix x.2.2.2.2.2 (mixs x.2.2.2.2.1.1 0 x.2.2.2.2.1.2 ((31 : Int64) * v + (nI x.2.2.2.2.1.2).toInt64)) + (nI n).toInt64, w) := by
  have hc := h.2.2.2.2.1
  have hw := h.2.2.2.2.2
  have h200 := hc.2.1
  unfold f_X11_digest_J192 f_X11_digest_J291
  rw [gd_349, gd_349, c_349, show w.1 349 = nI x.2.2.2.2.1.2 from hc.1, show f_X11_sums w ((31 : Int64) * v + (nI x.2.2.2.2.1.2).toInt64) (350 : Int32) (nI x.2.2.2.2.1.2) = _ from X11_sums (a := 350) (by omega) _, Option.bind_some, mixs_cong (g := x.2.2.2.2.1.1) (j := 0) (fun e he => by rw [Nat.zero_add]; exact hc.2.2 e he), gd_550, c_550, nm_eq, show w.1 550 = zI x.2.2.2.2.2.1 from hw.1, X11_works hw, Option.bind_some, br_z0, show w.2.2.1 = nI n from hn]
  unfold wmix
  cases ht : x.2.2.2.2.2.1
  · rfl
  · obtain ⟨a551, a552⟩ := hw.2 ht
    have h64 := a552.2.1
    rw [if_pos rfl, if_pos rfl, gd_551, gd_552, gd_552, c_551, c_552, show w.1 551 = nI x.2.2.2.2.2.2.1 from a551, show w.1 552 = nI x.2.2.2.2.2.2.2.2 from a552.1]
    rw [show ∀ z, f_X11_sums w z (553 : Int32) (nI x.2.2.2.2.2.2.2.2) = _ from fun z => X11_sums (a := 553) (by omega) z, Option.bind_some, mixs_cong (g := x.2.2.2.2.2.2.2.1) (j := 0) (fun e he => by rw [Nat.zero_add]; exact a552.2.2 e he)]
    rfl
theorem dg62 {x : XS} (hI : SI x) {l n : Nat} (hl : isLL x.2.2.1 l) : ∀ (d i k : Nat) (w : TModel) (v : Int64), S2 (mA w) x → mN w = nI n → i + d = dC x.2.2.1 → d < k → ∃ hh, f_X11_digest_L62 k w (nI i) v = some ((31 : Int64) * wmix x.2.2.2.2.2 (mixs x.2.2.2.2.1.1 0 x.2.2.2.2.1.2 ((31 : Int64) * pmix x.2.2.1 x.2.2.2.1 ((31 : Int64) * dmix x.2.2.1 i d v + (nI l).toInt64) + (nI x.2.2.2.2.1.2).toInt64)) + (nI n).toInt64, sH w hh) := by
  have hc := hI.2.2.1.1
  have i3 := hI.2.2.1.2.2.1
  intro d
  induction d with
  | zero =>
    intro i k w v h hn hi hk
    obtain ⟨k, rfl⟩ : ∃ k', k = k' + 1 := ⟨k - 1, by omega⟩
    obtain ⟨u, hh, u1, u2⟩ := X11_leastLossOf h.2.2.1 hI.2.2.1
    have e := isLL_one hl u2
    subst e
    refine ⟨hh, ?_⟩
    have hp := h.2.2.2.1
    rw [f_X11_digest_L62.eq_2, gd_132, c_132, show w.1 132 = nI (dC x.2.2.1) from h.2.2.1.2.2.1, br_le_t (by omega) (by omega), u1, Option.bind_some, gd_317, c_317, nm_eq, X11_isPlanned (w := sH w hh) hp, Option.bind_some, br_z0, show (sH w hh).1 317 = zI x.2.2.2.1.1 from hp.1]
    show _ = some (_ * wmix _ (mixs _ _ _ (_ * pmix _ _ (_ * v + _) + _)) + _, _)
    unfold pmix
    dsimp only
    cases ht : x.2.2.2.1.1
    · rw [if_neg (by decide), if_neg (by decide)]
      exact dg192 (w := sH w hh) h hn _
    · obtain ⟨q1, q2⟩ := hp.2 ht
      rw [if_pos rfl, if_pos rfl, gd_132, show (sH w hh).1 132 = nI (dC x.2.2.1) from h.2.2.1.2.2.1, show ∀ z, f_X11_sums (sH w hh) z (318 : Int32) (nI (dC x.2.2.1)) = _ from fun z => X11_sums (a := 318) (by omega) z, Option.bind_some, gd_348, c_348, nm_eq, show (sH w hh).1 348 = bm x.2.2.2.1.2.2 (dC x.2.2.1) from q2, mixs_cong (g := fun k => nI (x.2.2.2.1.2.1 k)) (j := 0) (fun e he => by rw [Nat.zero_add]; exact q1 e he)]
      exact dg192 (w := sH w hh) h hn _
  | succ d ih =>
    intro i k w v h hn hi hk
    obtain ⟨k, rfl⟩ : ∃ k', k = k' + 1 := ⟨k - 1, by omega⟩
    have b := hI.2.2.1.2.2.2.1 i (by omega)
    obtain ⟨hh, e⟩ := ih (i + 1) k w (cmix x.2.2.1 i v) h hn (by omega) (by omega)
    refine ⟨hh, ?_⟩
    rw [f_X11_digest_L62.eq_2, gd_132, c_132, show w.1 132 = nI (dC x.2.2.1) from h.2.2.1.2.2.1, br_le_f (by omega) (by omega), show (133 : Int32) + (4 : Int32) * nI i = nI (133 + 4 * i) by rw [show (4 : Int32) * nI i = nI (4 * i) from pk_mul 4 i]; exact nI_add 133 _, show f_X11_sums w v (nI (133 + 4 * i)) (4 : Int32) = _ from X11_sums (m := 4) (by omega) v, Option.bind_some, X11_isC h.2.2.1 hc (by omega), Option.bind_some, br_z0]
    have e4 : mixs (fun e => mA w (133 + 4 * i + e)) 0 4 v = mixs (dsc x.2.2.1 i) 0 4 v := mixs_cong (fun e he => by
      rw [Nat.zero_add]
      have z := of_dsc (w := w) h.2.2.1 hc (show i < dC x.2.2.1 by omega) he
      rw [X11_of w (by omega) he] at z
      exact Option.some.inj z)
    rw [e4]
    unfold f_X11_digest_J121
    rw [nI_1]
    unfold cmix at e
    cases hK : dK x.2.2.1 i
    · rw [hK, if_neg (by decide)] at e
      rw [if_neg (by decide), of_2 h.2.2.1 hc (by omega), Option.bind_some, of_3 h.2.2.1 hc (by omega), Option.bind_some, show (253 : Int32) + nI (dG x.2.2.1 i) = nI (253 + dG x.2.2.1 i) from nI_add 253 _, X11_sums (by omega), Option.bind_some, mixs_cong (g := dA x.2.2.1) (j := dG x.2.2.1 i) (fun e he => by rw [Nat.zero_add, Nat.add_assoc]; exact h.2.2.1.2.2.2.2 i (by omega) hK e he)]
      refine e.trans ?_
      show _ = some (_ * wmix _ (mixs _ _ _ (_ * pmix _ _ (_ * dmix _ _ _ (cmix _ _ _) + _) + _)) + _, _)
      unfold cmix
      rw [hK, if_neg (by decide)]
    · rw [hK, if_pos rfl] at e
      rw [if_pos rfl]
      refine e.trans ?_
      show _ = some (_ * wmix _ (mixs _ _ _ (_ * pmix _ _ (_ * dmix _ _ _ (cmix _ _ _) + _) + _)) + _, _)
      unfold cmix
      rw [hK, if_pos rfl]
theorem m_digest {now : TState} {hist : THistory} {mo : TModel} (h : RR now hist mo) : ∃ v now' mo', f_X10_digest now hist = some (v, now') ∧ f_X11_digest mo = some (v, mo') ∧ RR now' hist mo' := by
  obtain ⟨x, n, f, hn, h1, h2, hI, h3, h4, hf⟩ := id h
  obtain ⟨v, d', v1, v2, v3, v4⟩ := X2_least h1.2.2.1 hI.2.2.1
  have hc := hI.2.2.1.1
  have o64 := h2.1.2.1
  have n64 := h2.2.1.2.1
  obtain ⟨hh, e⟩ := dg62 hI v3 (n := n) (dC x.2.2.1) 0 FUEL (sT mo 0) (hd3 x.2.2.1 (mixs x.2.1.1 0 x.2.1.2 ((31 : Int64) * (mixs x.1.1 0 x.1.2 ((31 : Int64) * 2777 + (nI x.1.2).toInt64)) + (nI x.2.1.2).toInt64))) h2 h4.1 (Nat.zero_add _) (by show _ < 10000; omega)
  refine ⟨dgst x n v, (now.1, now.2.1, d', now.2.2.2.1, now.2.2.2.2.1, now.2.2.2.2.2), sH (sT mo 0) hh, ?_, ?_, ?_⟩
  · unfold f_X10_digest
    rw [X0_mixInto (by omega) h1.1, Option.bind_some, X0_mixInto (by omega) h1.2.1, Option.bind_some, X2_mixInto h1.2.2.1 hI.2.2.1, Option.bind_some, v2, Option.bind_some]
    unfold f_X10_mix
    rw [Option.bind_some, X7_mixInto h1.2.2.2.1 hc, Option.bind_some, X0_mixInto (by omega) h1.2.2.2.2.1, Option.bind_some, X9_mixInto h1.2.2.2.2.2, Option.bind_some, Option.bind_some, h3.1]
    rfl
  · unfold f_X11_digest
    have lo : f_X11_longOf (sT mo 0) (0 : Int32) = some (nI x.1.2) := (X11_longOf (sT mo 0) (v := 0) (by omega)).trans (congrArg some h2.1.1)
    have ln : f_X11_longOf (sT mo 0) (1 : Int32) = some (nI x.2.1.2) := (X11_longOf (sT mo 0) (v := 1) (by omega)).trans (congrArg some h2.2.1.1)
    have s0 : f_X11_digest_L11 FUEL (sT mo 0) (0 : Int32) (2777 : Int64) = f_X11_digest_L11 9999 (sT mo 0) (1 : Int32) (mixs x.1.1 0 x.1.2 ((31 : Int64) * 2777 + (nI x.1.2).toInt64)) := by
      rw [show FUEL = 9999 + 1 from rfl, f_X11_digest_L11.eq_2, br_ne (by decide), lo, Option.bind_some, Option.bind_some, show ∀ z, f_X11_sums (sT mo 0) z ((2 : Int32) + (64 : Int32) * (0 : Int32)) (nI x.1.2) = _ from fun z => X11_sums (a := 2) (by omega) z, Option.bind_some, mixs_cong (g := x.1.1) (j := 0) (fun e he => by rw [Nat.zero_add]; exact h2.1.2.2 e he)]
      rfl
    have s1 : ∀ v, f_X11_digest_L11 9999 (sT mo 0) (1 : Int32) v = f_X11_digest_L11 9998 (sT mo 0) (2 : Int32) (mixs x.2.1.1 0 x.2.1.2 ((31 : Int64) * v + (nI x.2.1.2).toInt64)) := by
      intro v
      rw [show (9999 : Nat) = 9998 + 1 from rfl, f_X11_digest_L11.eq_2, br_ne (by decide), ln, Option.bind_some, Option.bind_some, show ∀ z, f_X11_sums (sT mo 0) z ((2 : Int32) + (64 : Int32) * (1 : Int32)) (nI x.2.1.2) = _ from fun z => X11_sums (a := 66) (by omega) z, Option.bind_some, mixs_cong (g := x.2.1.1) (j := 0) (fun e he => by rw [Nat.zero_add]; exact h2.2.1.2.2 e he)]
      rfl
    have s2 : ∀ v, f_X11_digest_L11 9998 (sT mo 0) (2 : Int32) v = f_X11_digest_L62 FUEL (sT mo 0) (0 : Int32) (hd3 x.2.2.1 v) := by
      intro v
      rw [show (9998 : Nat) = 9997 + 1 from rfl, f_X11_digest_L11.eq_2, br_eq (by decide), show f_X11_sums (sT mo 0) v (130 : Int32) (3 : Int32) = _ from X11_sums (a := 130) (m := 3) (by omega) v, Option.bind_some, mixs_s, mixs_s, mixs_s, mixs_0, show mA (sT mo 0) (130 + 0) = nI (dS x.2.2.1) from h2.2.2.1.1, show mA (sT mo 0) (130 + (0 + 1)) = nI (dT x.2.2.1) from h2.2.2.1.2.1, show mA (sT mo 0) (130 + (0 + 1 + 1)) = nI (dC x.2.2.1) from h2.2.2.1.2.2.1]
      rfl
    exact (s0.trans ((s1 _).trans (s2 _))).trans e
  · exact ⟨x, n, f, hn, ⟨h1.1, h1.2.1, v4, h1.2.2.2.1, h1.2.2.2.2.1, h1.2.2.2.2.2⟩, h2, hI, h3, h4, hf⟩
