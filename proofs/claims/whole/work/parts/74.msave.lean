/-! the reference: its small questions, saving and undoing -/
def sT (w : TModel) (t : Int32) : TModel := (w.1, w.2.1, w.2.2.1, t, w.2.2.2.2)
def sA (w : TModel) (a : Nat → Int32) : TModel := (a, w.2)
def sSv (w : TModel) (v : Nat → Int32) (n : Int32) : TModel := (w.1, v, n, w.2.2.2)
theorem X11_in (a b c : Int64) : f_X11_in a b c = some (zI (decide (b ≤ a) && decide (a ≤ c))) := by
  unfold f_X11_in
  by_cases h1 : b ≤ a
  · rw [br_ne (by rw [lg_cmp_lt]; exact Int64.not_lt.mpr h1)]
    by_cases h2 : a ≤ c
    · rw [br_ne (by rw [lg_cmp_gt]; exact Int64.not_lt.mpr h2)]
      simp [h1, h2, zI]; rfl
    · rw [br_eq (by rw [lg_cmp_gt]; exact Int64.not_le.mp h2)]
      simp [h1, h2, zI]; rfl
  · rw [br_eq (by rw [lg_cmp_lt]; exact Int64.not_le.mp h1)]
    simp [h1, zI]; rfl
theorem X11_isVersion (v : Int32) : f_X11_isVersion v = some (zI (decide (v = 0 ∨ v = 1))) := by
  unfold f_X11_isVersion
  rw [X11_in, Option.bind_some, gd_z]
  congr 2
  rw [show (0 : Int64) = (0 : Int32).toInt64 from by decide, show (1 : Int64) = (1 : Int32).toInt64 from by decide, ← Bool.decide_and]
  refine decide_eq_decide.mpr ?_
  rw [fa_wide_le, fa_wide_le, fa_le, fa_le, fa_eq, fa_eq, show (0 : Int32).toInt = 0 from by decide, show (1 : Int32).toInt = 1 from by decide]
  omega
theorem X11_isByte (v : Int32) : f_X11_isByte v = some (zI (decide (0 ≤ v ∧ v ≤ 255))) := by
  unfold f_X11_isByte
  rw [X11_in, Option.bind_some, gd_z]
  congr 2
  rw [show (0 : Int64) = (0 : Int32).toInt64 from by decide, show (255 : Int64) = (255 : Int32).toInt64 from by decide, ← Bool.decide_and]
  refine decide_eq_decide.mpr ?_
  rw [fa_wide_le, fa_wide_le]
theorem X11_goes (w : TModel) (p q : Bool) : f_X11_goes w (zI p) (zI q) = some (zI (p && q), sT w (if p then (if q then nI 0 else nI 2) else nI 1)) := by
  unfold f_X11_goes
  rw [br_z0, br_z0]
  cases p
  · rw [if_neg (by decide)]
    unfold f_X11_goes_J18
    rw [br_ne (by decide)]; rfl
  · rw [if_pos rfl]
    cases q
    · rw [if_neg (by decide)]
      unfold f_X11_goes_J18
      rw [br_ne (by decide)]; rfl
    · rw [if_pos rfl]
      unfold f_X11_goes_J18
      rw [br_eq (by decide)]; rfl
theorem X11_thrown (w : TModel) : f_X11_thrown w = some (mH w) := rfl
/-- a part of the array moved down by one row of 617 -/
theorem save10 : ∀ (d i k : Nat) (w : TModel), i + d = 1851 → d < k → ∃ v, f_X11_save_L10 k w (nI i) = f_X11_save_J49 (sSv w v (mN w - 1)) ∧ (∀ j, j < i → v j = mS w j) ∧ (∀ j, i ≤ j → j < 1851 → v j = mS w (j + 617)) := by
  intro d
  induction d with
  | zero =>
    intro i k w hi hk
    obtain ⟨k, rfl⟩ : ∃ k', k = k' + 1 := ⟨k - 1, by omega⟩
    refine ⟨mS w, ?_, fun j hj => rfl, fun j h1 h2 => by omega⟩
    rw [f_X11_save_L10.eq_2, br_eq (show (1851 : Int32) ≤ nI i from nI_le (a := 1851) (by omega) (by omega))]
    rfl
  | succ d ih =>
    intro i k w hi hk
    obtain ⟨k, rfl⟩ : ∃ k', k = k' + 1 := ⟨k - 1, by omega⟩
    rw [f_X11_save_L10.eq_2]
    simp (disch := omega) only [br_T, br_F, gd_T, br_le_t, br_le_f, br_lt_t, br_lt_f, br_eq_t, br_eq_f, br_m1, br_rf, br_0m, gd_in, gd_01, nI_add, nI_sb, pk_mul, nI_clamp, nm_eq, Option.bind_some, l_0, l_1, l_2, l_3, l_4, l_5, l_12, l_30, l_64, l_73, l_130, l_131, l_132, l_133, l_200, l_251, l_253, l_255, l_317, l_318, l_348, l_349, l_350, l_550, l_551, l_552, l_553, l_617, l_1851]
    obtain ⟨v, e, h1, h2⟩ := ih (i + 1) k (sSv w (upd (mS w) i (mS w (i + 617))) (mN w)) (by omega) (by omega)
    refine ⟨v, ?_, fun j hj => ?_, fun j hj1 hj2 => ?_⟩
    · exact e
    · rw [h1 j (by omega)]; exact upd_ne _ _ (by omega)
    · by_cases ej : j = i
      · subst ej
        rw [h1 j (by omega)]; exact upd_at _ _ _
      · rw [h2 j (by omega) hj2]; exact upd_ne _ _ (by omega)
theorem save51 {n : Nat} (hn : n < 4) : ∀ (d i k : Nat) (w : TModel), mN w = nI n → i + d = 617 → d < k → ∃ v, f_X11_save_L51 k w (nI i) = some (sSv w v (nI (n + 1))) ∧ (∀ j, j < 617 * n + i → v j = mS w j) ∧ (∀ j, i ≤ j → j < 617 → v (617 * n + j) = mA w j) := by
  intro d
  induction d with
  | zero =>
    intro i k w hw hi hk
    obtain ⟨k, rfl⟩ : ∃ k', k = k' + 1 := ⟨k - 1, by omega⟩
    refine ⟨mS w, ?_, fun j hj => rfl, fun j h1 h2 => by omega⟩
    rw [f_X11_save_L51.eq_2, br_eq (show (617 : Int32) ≤ nI i from nI_le (a := 617) (by omega) (by omega)), show w.2.2.1 = nI n from hw, nI_1]
    rfl
  | succ d ih =>
    intro i k w hw hi hk
    obtain ⟨k, rfl⟩ : ∃ k', k = k' + 1 := ⟨k - 1, by omega⟩
    rw [f_X11_save_L51.eq_2]
    rw [show w.2.2.1 = nI n from hw]
    simp (disch := omega) only [br_T, br_F, gd_T, br_le_t, br_le_f, br_lt_t, br_lt_f, br_eq_t, br_eq_f, br_m1, br_rf, br_0m, gd_in, gd_01, nI_add, nI_sb, pk_mul, nI_clamp, nm_eq, Option.bind_some, l_0, l_1, l_2, l_3, l_4, l_5, l_12, l_30, l_64, l_73, l_130, l_131, l_132, l_133, l_200, l_251, l_253, l_255, l_317, l_318, l_348, l_349, l_350, l_550, l_551, l_552, l_553, l_617, l_1851]
    obtain ⟨v, e, h1, h2⟩ := ih (i + 1) k (sSv w (upd (mS w) (617 * n + i) (mA w i)) (nI n)) rfl (by omega) (by omega)
    refine ⟨v, ?_, fun j hj => ?_, fun j hj1 hj2 => ?_⟩
    · exact e
    · rw [h1 j (by omega)]; exact upd_ne _ _ (by omega)
    · by_cases ej : j = i
      · subst ej
        rw [h1 _ (by omega)]; exact upd_at _ _ _
      · exact h2 j (by omega) hj2
theorem X11_save {w : TModel} {n : Nat} {f : Nat → XS} {x : XS} (hn : n ≤ 4) (hI : SI x) (hf : ∀ j, j < n → SI (f j)) (hh : H2 w n f) (hx : S2 (mA w) x) : ∃ v, f_X11_save w = some (sSv w v (nI (nS n))) ∧ H2 (sSv w v (nI (nS n))) (nS n) (fS n f x) := by
  obtain ⟨h1, h2⟩ := hh
  unfold f_X11_save
  by_cases e : n = 4
  · subst e
    obtain ⟨v, e1, a1, a2⟩ := save10 1851 0 FUEL w rfl (by decide)
    obtain ⟨u, e2, b1, b2⟩ := save51 (n := 3) (by omega) 617 0 FUEL (sSv w v (mN w - 1)) (by show w.2.2.1 - 1 = nI 3; rw [show w.2.2.1 = nI 4 from h1]; exact nI_pred 3) rfl (by decide)
    refine ⟨u, ?_, rfl, fun j hj => ?_⟩
    · rw [br_eq (show w.2.2.1 = 4 from h1), show (0 : Int32) = nI 0 from rfl, e1]
      unfold f_X11_save_J49
      exact e2
    · show S2 (fun k => u (617 * j + k)) _
      unfold fS
      rw [if_pos rfl]
      have hj4 : j < 4 := hj
      by_cases e3 : j < 3
      · rw [if_pos e3]
        refine S2_cong (hf (j + 1) (by omega)) (fun k hk => ?_) (h2 (j + 1) (by omega))
        rw [b1 _ (by omega)]
        show _ = v (617 * j + k)
        rw [a2 _ (by omega) (by omega)]
        congr 1; omega
      · rw [if_neg e3]
        refine S2_cong hI (fun k hk => ?_) hx
        rw [show j = 3 by omega, b2 k (by omega) hk]; rfl
  · obtain ⟨u, e2, b1, b2⟩ := save51 (n := n) (by omega) 617 0 FUEL w h1 rfl (by decide)
    have e5 : nS n = n + 1 := if_neg e
    refine ⟨u, ?_, rfl, fun j hj => ?_⟩
    · rw [br_ne (show ¬ w.2.2.1 = 4 by rw [show w.2.2.1 = nI n from h1]; exact fun q => e ((nI_eq (by omega) (by omega)).mp q))]
      unfold f_X11_save_J49
      rw [e5]
      exact e2
    · show S2 (fun k => u (617 * j + k)) _
      rw [e5] at hj
      unfold fS
      rw [if_neg e]
      by_cases e3 : j = n
      · rw [if_pos e3]
        refine S2_cong hI (fun k hk => ?_) hx
        rw [e3, b2 k (by omega) hk]
      · rw [if_neg e3]
        refine S2_cong (hf j (by omega)) (fun k hk => ?_) (h2 j (by omega))
        rw [b1 _ (by omega)]
theorem X11_saveW {w : TModel} {n : Nat} {f : Nat → XS} {x : XS} (hn : n ≤ 4) (hI : SI x) (hf : ∀ j, j < n → SI (f j)) (hh : H2 w n f) (hx : S2 (mA w) x) : ∃ w', f_X11_save w = some w' ∧ mA w' = mA w ∧ mH w' = mH w ∧ H2 w' (nS n) (fS n f x) := by
  obtain ⟨v, e, h⟩ := X11_save hn hI hf hh hx
  exact ⟨_, e, rfl, rfl, h⟩
theorem undo34 {n : Nat} (hn : n < 4) : ∀ (d i k : Nat) (w : TModel), mN w = nI n → i + d = 617 → d < k → ∃ v, f_X11_undo_L34 k w (nI i) = some (nI n, sA w v) ∧ (∀ j, j < i → v j = mA w j) ∧ (∀ j, i ≤ j → j < 617 → v j = mS w (617 * n + j)) := by
  intro d
  induction d with
  | zero =>
    intro i k w hw hi hk
    obtain ⟨k, rfl⟩ : ∃ k', k = k' + 1 := ⟨k - 1, by omega⟩
    refine ⟨mA w, ?_, fun j hj => rfl, fun j h1 h2 => by omega⟩
    rw [f_X11_undo_L34.eq_2, br_eq (show (617 : Int32) ≤ nI i from nI_le (a := 617) (by omega) (by omega)), show w.2.2.1 = nI n from hw]
    rfl
  | succ d ih =>
    intro i k w hw hi hk
    obtain ⟨k, rfl⟩ : ∃ k', k = k' + 1 := ⟨k - 1, by omega⟩
    rw [f_X11_undo_L34.eq_2]
    rw [show w.2.2.1 = nI n from hw]
    simp (disch := omega) only [br_T, br_F, gd_T, br_le_t, br_le_f, br_lt_t, br_lt_f, br_eq_t, br_eq_f, br_m1, br_rf, br_0m, gd_in, gd_01, nI_add, nI_sb, pk_mul, nI_clamp, nm_eq, Option.bind_some, l_0, l_1, l_2, l_3, l_4, l_5, l_12, l_30, l_64, l_73, l_130, l_131, l_132, l_133, l_200, l_251, l_253, l_255, l_317, l_318, l_348, l_349, l_350, l_550, l_551, l_552, l_553, l_617, l_1851]
    obtain ⟨v, e, h1, h2⟩ := ih (i + 1) k (sA w (upd (mA w) i (mS w (617 * n + i)))) hw (by omega) (by omega)
    rw [← hw]
    refine ⟨v, ?_, fun j hj => ?_, fun j hj1 hj2 => ?_⟩
    · rw [hw]; rw [← hw] at e ⊢; exact e
    · rw [h1 j (by omega)]; exact upd_ne _ _ (by omega)
    · by_cases ej : j = i
      · subst ej
        rw [h1 _ (by omega)]; exact upd_at _ _ _
      · exact h2 j (by omega) hj2
