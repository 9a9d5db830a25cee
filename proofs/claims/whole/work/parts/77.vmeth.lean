def vT (w : TState) (v : Nat) : TBytes := if v = 0 then w.1 else w.2.1
def vset (w : TState) (v : Nat) (y : TBytes) : TState := if v = 0 then (y, w.2) else (w.1, y, w.2.2)
theorem S1_v {w : TState} {x : XS} (h : S1 w x) {v : Nat} : B1 64 (vT w v) (vB x v) := by
  unfold vT vB
  split
  · exact h.1
  · exact h.2.1
theorem set1 {w : TState} {x : XS} (h : S1 w x) {v : Nat} {y' : TBytes} {y : XB} (hy : B1 64 y' y) : S1 (vset w v y') (xset x v y) := by
  unfold vset xset
  split
  · exact ⟨hy, h.2⟩
  · exact ⟨h.1, hy, h.2.2⟩
theorem vB_drop (x : XS) (v : Nat) : vB (xdrop x) v = vB x v := rfl
theorem vB_I {x : XS} (h : SI x) (v : Nat) : BI (vB x v) := by
  unfold vB
  split
  · exact h.1
  · exact h.2.1
theorem append_v {now : TState} {hist : THistory} {v : Nat} (hv : v < 2) {p2 : Int32} (hb : isB p2) : f_X10_append now hist (nI v) p2 = (f_X0_isFull 64 (vT now v)).bind (fun x3 => br (x3 = 0) ((f_X4_save hist now).bind (fun x4 => (f_X8_dropPlan now).bind (fun x5 => (f_X0_push 64 (vT x5 v) p2).bind (fun x6 => some (.inr (x6.2, vset x5 v x6, x4)))))) (some (.inl "java/lang/IllegalStateException"))) := by
  unfold f_X10_append
  simp only [rv_yes (isV_nI hv), Option.bind_some, rx_0, rb_yes hb]
  rcases (by omega : v = 0 ∨ v = 1) with e | e
  · subst e; rw [br_eq (show nI 0 = 0 from rfl)]; rfl
  · subst e; rw [br_ne (show ¬ nI 1 = 0 by decide)]; rfl
theorem patch_v {now : TState} {hist : THistory} {v : Nat} (hv : v < 2) {p2 p3 : Int32} (hb : isB p3) : f_X10_patch now hist (nI v) p2 p3 = (f_X0_has 64 (vT now v) p2).bind (fun x3 => (f_X10_requireIndex x3).bind (fun x4 => rx x4 ((f_X4_save hist now).bind (fun x5 => (f_X8_dropPlan now).bind (fun x6 => (f_X0_at 64 (vT x6 v) p2).bind (fun x7 => (f_X0_put 64 (vT x6 v) p2 p3).bind (fun x8 => some (.inr (x7, vset x6 v x8, x5))))))))) := by
  unfold f_X10_patch
  simp only [rv_yes (isV_nI hv), Option.bind_some, rx_0, rb_yes hb]
  rcases (by omega : v = 0 ∨ v = 1) with e | e
  · subst e; rw [br_eq (show nI 0 = 0 from rfl)]; rfl
  · subst e; rw [br_ne (show ¬ nI 1 = 0 by decide)]; rfl
theorem clear_v {now : TState} {hist : THistory} {v : Nat} (hv : v < 2) : f_X10_clear now hist (nI v) = (f_X4_save hist now).bind (fun x2 => (f_X8_dropPlan now).bind (fun x3 => (f_X0_cut 64 (vT x3 v) (0 : Int32)).bind (fun x4 => some (.inr ((vT x3 v).2, vset x3 v x4, x2))))) := by
  unfold f_X10_clear
  simp only [rv_yes (isV_nI hv), Option.bind_some, rx_0]
  rcases (by omega : v = 0 ∨ v = 1) with e | e
  · subst e; rw [br_eq (show nI 0 = 0 from rfl)]; rfl
  · subst e; rw [br_ne (show ¬ nI 1 = 0 by decide)]; rfl
theorem byteOf_v {now : TState} {v : Nat} (hv : v < 2) {p2 : Int32} : f_X10_byteOf now (nI v) p2 = (f_X0_has 64 (vT now v) p2).bind (fun x2 => (f_X10_requireIndex x2).bind (fun x3 => rx x3 ((f_X0_at 64 (vT now v) p2).bind (fun x4 => some (.inr x4))))) := by
  unfold f_X10_byteOf
  simp only [rv_yes (isV_nI hv), Option.bind_some, rx_0]
  rcases (by omega : v = 0 ∨ v = 1) with e | e
  · subst e; rw [br_eq (show nI 0 = 0 from rfl)]; rfl
  · subst e; rw [br_ne (show ¬ nI 1 = 0 by decide)]; rfl
theorem RR_ver {x : XS} {n : Nat} {f : Nat → XS} {hs : THistory} {d : TState} {r : TBytes} {v : Nat} {y : XB} {mo w : TModel} {a' : Nat → Int32} (hn : n ≤ 4) (hI : SI x) (hf : ∀ j, j < n → SI (f j)) (hv : v < 2) (hd : S1 d (xdrop x)) (hr : B1 64 r y) (hs1 : H1 hs (nS n) (fS n f x)) (hs2 : H2 w (nS n) (fS n f x)) (h2 : S2 (mA mo) x) (hy : BI y) (ha : ∀ k, k ≠ v → (k < 2 + 64 * v ∨ 2 + 64 * v + 64 ≤ k) → a' k = mA mo k) (hb : a' v = nI y.2) (hi : ∀ i, i < y.2 → a' (2 + 64 * v + i) = y.1 i) : RR (vset d v r) hs (sA w (aD a')) := by
  have h64 := hr.2.1
  refine ⟨xset (xdrop x) v y, nS n, fS n f x, nS_le hn, set1 hd hr, ?_, setI (dropI hI) rfl hy, hs1, hs2, fS_I hn hI hf⟩
  refine set2 hv (a := aD (mA mo)) (dropI hI) (dropS hI h2) ⟨?_, h64, fun i hi2 => ?_⟩ (fun k hk1 hk2 => ?_)
  · show aD _ v = _
    rw [aD_ne (by omega) (by omega), hb]
  · show aD _ (2 + 64 * v + i) = _
    rw [aD_ne (by omega) (by omega), hi i hi2]
  · show aD _ k = aD _ k
    by_cases e1 : k = 550
    · subst e1; rfl
    · by_cases e2 : k = 317
      · subst e2; rfl
      · rw [aD_ne e2 e1, aD_ne e2 e1, ha k hk1 hk2]
theorem m_append {now : TState} {hist : THistory} {mo : TModel} (h : RR now hist mo) (out : Nat → Int64) (p1 p2 : Int32) : OKw (f_L_append now hist out p1 p2) (f_X11_append mo p1 p2) := by
  by_cases hv : isV p1
  · obtain ⟨v, hv2, rfl⟩ := isV_n hv
    have hlo := X11_longOf mo hv2
    by_cases hb : isB p2
    · obtain ⟨x, n, f, hn, h1, h2, hI, h3, h4, hf⟩ := id h
      have b1 := S1_v h1 (v := v)
      have b2 := S2_v h2 hv2
      have b20 : mA mo v = nI (vB x v).2 := b2.1
      have b64 := b2.2.1
      have hc : (64 : Int32) = nI 64 := rfl
      by_cases hF : 64 ≤ (vB x v).2
      · refine okw_t h (out := out) (b := 0) (t := 2) ?_ ?_ (by decide)
        · unfold f_L_append
          rw [append_v hv2 hb, X0_isFull (by decide) b1, decide_eq_true hF]
          simp only [br_T, br_F, gd_T, br_00, br_10, Option.bind_some, rx_0, rx_s, el_l, el_r, br_A_A, br_S_S, br_I_I, br_S_A, br_I_A, br_A_I, br_I_S, gd_o, goes_00, goes_01, goes_10, goes_11, zI_t, zI_f, ri_0, ri_1, gd_130, c_130, gd_131, c_131, gd_132, c_132, gd_317, c_317, gd_348, c_348, gd_349, c_349, gd_550, c_550, gd_551, c_551, gd_552, c_552]
        · unfold f_X11_append f_X11_append_J20 f_X11_append_J42
          simp only [br_T, br_F, gd_T, br_00, br_10, Option.bind_some, rx_0, rx_s, el_l, el_r, br_A_A, br_S_S, br_I_I, br_S_A, br_I_A, br_A_I, br_I_S, gd_o, goes_00, goes_01, goes_10, goes_11, zI_t, zI_f, ri_0, ri_1, gd_130, c_130, gd_131, c_131, gd_132, c_132, gd_317, c_317, gd_348, c_348, gd_349, c_349, gd_550, c_550, gd_551, c_551, gd_552, c_552, isV_yes hv, isB_yes hb, hlo, b20]
          rw [br_eq (show (64 : Int32) ≤ nI (vB x v).2 from nI_le (a := 64) hF (by omega))]
      · obtain ⟨hs, es, hs1⟩ := X4_save hn hI h3 h1
        obtain ⟨d, ed, hd⟩ := drop1 h1
        have bd := S1_v hd (v := v)
        obtain ⟨r, er, hr⟩ := X0_push (by decide) bd (show (vB x v).2 < 64 by omega) p2
        obtain ⟨w', es2, ea, eh, hs2⟩ := X11_saveW (w := sT mo 0) hn hI hf h4 h2
        have ea : mA w' = mA mo := ea
        have hD2 := dropS hI h2
        refine ⟨0, vset d v r, hs, vp_updL out (0 : Int32).toNatClampNeg r.2.toInt64, nI ((vB x v).2 + 1), sA w' (aD (upd (upd (mA mo) (2 + 64 * v + (vB x v).2) p2) v (nI ((vB x v).2 + 1)))), ?_, ?_, eh, fun _ => ?_, ?_⟩
        · unfold f_L_append
          rw [append_v hv2 hb, X0_isFull (by decide) b1, decide_eq_false hF]
          simp only [br_T, br_F, gd_T, br_00, br_10, Option.bind_some, rx_0, rx_s, el_l, el_r, br_A_A, br_S_S, br_I_I, br_S_A, br_I_A, br_A_I, br_I_S, gd_o, goes_00, goes_01, goes_10, goes_11, zI_t, zI_f, ri_0, ri_1, gd_130, c_130, gd_131, c_131, gd_132, c_132, gd_317, c_317, gd_348, c_348, gd_349, c_349, gd_550, c_550, gd_551, c_551, gd_552, c_552, es, ed, er]
        · unfold f_X11_append f_X11_append_J20 f_X11_append_J37 f_X11_append_J42
          simp only [br_T, br_F, gd_T, br_00, br_10, Option.bind_some, rx_0, rx_s, el_l, el_r, br_A_A, br_S_S, br_I_I, br_S_A, br_I_A, br_A_I, br_I_S, gd_o, goes_00, goes_01, goes_10, goes_11, zI_t, zI_f, ri_0, ri_1, gd_130, c_130, gd_131, c_131, gd_132, c_132, gd_317, c_317, gd_348, c_348, gd_349, c_349, gd_550, c_550, gd_551, c_551, gd_552, c_552, isV_yes hv, isB_yes hb, hlo, b20]
          rw [br_ne (show ¬ (64 : Int32) ≤ nI (vB x v).2 from nI_ge (b := 64) (by omega) (by omega))]
          have e1 : mA w' v = nI (vB x v).2 := by rw [ea]; exact b20
          have e9 : 2 + 64 * v + (vB x v).2 ≠ v := by omega
          simp only [br_T, br_F, gd_T, br_00, br_10, Option.bind_some, rx_0, rx_s, el_l, el_r, br_A_A, br_S_S, br_I_I, br_S_A, br_I_A, br_A_I, br_I_S, gd_o, goes_00, goes_01, goes_10, goes_11, zI_t, zI_f, ri_0, ri_1, gd_130, c_130, gd_131, c_131, gd_132, c_132, gd_317, c_317, gd_348, c_348, gd_349, c_349, gd_550, c_550, gd_551, c_551, gd_552, c_552, es2, X11_longOf w' hv2, e1]
          simp (disch := omega) only [br_T, br_F, gd_T, br_le_t, br_le_f, br_lt_t, br_lt_f, br_eq_t, br_eq_f, br_m1, br_rf, br_0m, gd_in, gd_01, nI_add, nI_sb, pk_mul, nI_clamp, nm_eq, Option.bind_some, l_0, l_1, l_2, l_3, l_4, l_5, l_12, l_30, l_64, l_73, l_130, l_131, l_132, l_133, l_200, l_251, l_253, l_255, l_317, l_318, l_348, l_349, l_350, l_550, l_551, l_552, l_553, l_617, l_1851, drop2]
          rw [Nat.zero_add]
          rw [show w'.1 = mA mo from ea, upd_ne _ _ (show v ≠ 2 + 64 * v + (vB x v).2 by omega), b20, nI_add]
          have e6 : f_X11_longOf (sA w' (aD (upd (upd (mA mo) (2 + 64 * v + (vB x v).2) p2) v (nI ((vB x v).2 + 1))))) (nI v) = some (nI ((vB x v).2 + 1)) := by
            rw [X11_longOf _ hv2]
            show some (aD _ v) = _
            rw [aD_ne (by omega) (by omega), upd_at]
          exact (congrArg (fun z => Option.bind z _) e6).trans rfl
        · rw [out0, hr.1]; rfl
        · refine RR_ver hn hI hf hv2 hd hr hs1 hs2 h2 (fun i hi => ?_) (fun k hk1 hk2 => ?_) ?_ (fun i hi => ?_)
          · show isB (if i = (vB x v).2 then p2 else (vB x v).1 i)
            have hi : i < (vB x v).2 + 1 := hi
            split
            · exact hb
            · exact vB_I hI v i (by omega)
          · rw [upd_ne _ _ hk1, upd_ne _ _ (by omega)]
          · exact upd_at _ _ _
          · have hi : i < (vB x v).2 + 1 := hi
            show _ = if i = (vB x v).2 then p2 else (vB x v).1 i
            rw [upd_ne _ _ (by omega)]
            by_cases e : i = (vB x v).2
            · rw [if_pos e, e, upd_at]
            · rw [if_neg e, upd_ne _ _ (by omega)]; exact b2.2.2 i (by omega)
    · refine okw_t h (out := out) (b := 0) (t := 1) ?_ ?_ (by decide)
      · unfold f_L_append f_X10_append
        simp only [br_T, br_F, gd_T, br_00, br_10, Option.bind_some, rx_0, rx_s, el_l, el_r, br_A_A, br_S_S, br_I_I, br_S_A, br_I_A, br_A_I, br_I_S, gd_o, goes_00, goes_01, goes_10, goes_11, zI_t, zI_f, ri_0, ri_1, gd_130, c_130, gd_131, c_131, gd_132, c_132, gd_317, c_317, gd_348, c_348, gd_349, c_349, gd_550, c_550, gd_551, c_551, gd_552, c_552, rv_yes hv, rb_no hb]
      · unfold f_X11_append f_X11_append_J19 f_X11_append_J20 f_X11_append_J37 f_X11_append_J42
        simp only [br_T, br_F, gd_T, br_00, br_10, Option.bind_some, rx_0, rx_s, el_l, el_r, br_A_A, br_S_S, br_I_I, br_S_A, br_I_A, br_A_I, br_I_S, gd_o, goes_00, goes_01, goes_10, goes_11, zI_t, zI_f, ri_0, ri_1, gd_130, c_130, gd_131, c_131, gd_132, c_132, gd_317, c_317, gd_348, c_348, gd_349, c_349, gd_550, c_550, gd_551, c_551, gd_552, c_552, isV_yes hv, isB_no hb, hlo]
        by_cases q : (64 : Int32) ≤ mA mo v
        · rw [br_eq q]
        · rw [br_ne q]
  · refine okw_t h (out := out) (b := 0) (t := 1) ?_ ?_ (by decide)
    · unfold f_L_append f_X10_append
      simp only [br_T, br_F, gd_T, br_00, br_10, Option.bind_some, rx_0, rx_s, el_l, el_r, br_A_A, br_S_S, br_I_I, br_S_A, br_I_A, br_A_I, br_I_S, gd_o, goes_00, goes_01, goes_10, goes_11, zI_t, zI_f, ri_0, ri_1, gd_130, c_130, gd_131, c_131, gd_132, c_132, gd_317, c_317, gd_348, c_348, gd_349, c_349, gd_550, c_550, gd_551, c_551, gd_552, c_552, rv_no hv]
    · unfold f_X11_append f_X11_append_J19 f_X11_append_J20 f_X11_append_J37 f_X11_append_J42
      simp only [br_T, br_F, gd_T, br_00, br_10, Option.bind_some, rx_0, rx_s, el_l, el_r, br_A_A, br_S_S, br_I_I, br_S_A, br_I_A, br_A_I, br_I_S, gd_o, goes_00, goes_01, goes_10, goes_11, zI_t, zI_f, ri_0, ri_1, gd_130, c_130, gd_131, c_131, gd_132, c_132, gd_317, c_317, gd_348, c_348, gd_349, c_349, gd_550, c_550, gd_551, c_551, gd_552, c_552, isV_no hv]
theorem m_patch {now : TState} {hist : THistory} {mo : TModel} (h : RR now hist mo) (out : Nat → Int64) (p1 p2 p3 : Int32) : OKw (f_L_patch now hist out p1 p2 p3) (f_X11_patch mo p1 p2 p3) := by
  by_cases hv : isV p1
  · obtain ⟨v, hv2, rfl⟩ := isV_n hv
    obtain ⟨x, n, f, hn, h1, h2, hI, h3, h4, hf⟩ := id h
    have hhb := X11_hasByte h2 hv2 p2
    by_cases hb : isB p3
    · have b1 := S1_v h1 (v := v)
      have b2 := S2_v h2 hv2
      have b64 := b2.2.1
      by_cases hF : ¬ p2 < 0 ∧ p2 < nI (vB x v).2
      · obtain ⟨j, hj31, rfl⟩ := nI_of hF.1
        have hj : j < (vB x v).2 := (nI_ltI hj31 (by omega)).mp hF.2
        obtain ⟨hs, es, hs1⟩ := X4_save hn hI h3 h1
        obtain ⟨d, ed, hd⟩ := drop1 h1
        have bd := S1_v hd (v := v)
        obtain ⟨r, er, hr⟩ := X0_put (by decide) bd hj p3
        obtain ⟨w', es2, ea, eh, hs2⟩ := X11_saveW (w := sT mo 0) hn hI hf h4 h2
        have ea : mA w' = mA mo := ea
        refine ⟨0, vset d v r, hs, vp_updL out (0 : Int32).toNatClampNeg ((vB x v).1 j).toInt64, (vB x v).1 j, sA w' (aD (upd (mA mo) (2 + 64 * v + j) p3)), ?_, ?_, eh, fun _ => ?_, ?_⟩
        · unfold f_L_patch
          rw [patch_v hv2 hb, X0_has, b1.1, decide_eq_true hF]
          simp only [br_T, br_F, gd_T, br_00, br_10, Option.bind_some, rx_0, rx_s, el_l, el_r, br_A_A, br_S_S, br_I_I, br_S_A, br_I_A, br_A_I, br_I_S, gd_o, goes_00, goes_01, goes_10, goes_11, zI_t, zI_f, ri_0, ri_1, gd_130, c_130, gd_131, c_131, gd_132, c_132, gd_317, c_317, gd_348, c_348, gd_349, c_349, gd_550, c_550, gd_551, c_551, gd_552, c_552, es, ed, er, X0_at (by decide) bd hj, vB_drop]
        · unfold f_X11_patch f_X11_patch_J20
          rw [hhb, decide_eq_true hF]
          simp only [br_T, br_F, gd_T, br_00, br_10, Option.bind_some, rx_0, rx_s, el_l, el_r, br_A_A, br_S_S, br_I_I, br_S_A, br_I_A, br_A_I, br_I_S, gd_o, goes_00, goes_01, goes_10, goes_11, zI_t, zI_f, ri_0, ri_1, gd_130, c_130, gd_131, c_131, gd_132, c_132, gd_317, c_317, gd_348, c_348, gd_349, c_349, gd_550, c_550, gd_551, c_551, gd_552, c_552, isV_yes hv, isB_yes hb, es2, X11_byteAt w' hv2 (show j < 64 by omega)]
          simp (disch := omega) only [br_T, br_F, gd_T, br_le_t, br_le_f, br_lt_t, br_lt_f, br_eq_t, br_eq_f, br_m1, br_rf, br_0m, gd_in, gd_01, nI_add, nI_sb, pk_mul, nI_clamp, nm_eq, Option.bind_some, l_0, l_1, l_2, l_3, l_4, l_5, l_12, l_30, l_64, l_73, l_130, l_131, l_132, l_133, l_200, l_251, l_253, l_255, l_317, l_318, l_348, l_349, l_350, l_550, l_551, l_552, l_553, l_617, l_1851, drop2]
          have e5 : mA w' (2 + 64 * v + j) = (vB x v).1 j := by rw [ea]; exact b2.2.2 j hj
          rw [e5, show w'.1 = mA mo from ea]
          rfl
        · rw [out0]
        · refine RR_ver hn hI hf hv2 hd hr hs1 hs2 h2 (fun i hi => ?_) (fun k hk1 hk2 => ?_) ?_ (fun i hi => ?_)
          · show isB (if i = j then p3 else (vB x v).1 i)
            split
            · exact hb
            · exact vB_I hI v i hi
          · rw [upd_ne _ _ (by omega)]
          · rw [upd_ne _ _ (by omega)]; exact b2.1
          · show _ = if i = j then p3 else (vB x v).1 i
            by_cases e : i = j
            · rw [if_pos e, e, upd_at]
            · rw [if_neg e, upd_ne _ _ (by omega)]; exact b2.2.2 i hi
      · refine okw_t h (out := out) (b := 0) (t := 2) ?_ ?_ (by decide)
        · unfold f_L_patch
          rw [patch_v hv2 hb, X0_has, b1.1, decide_eq_false hF]
          simp only [br_T, br_F, gd_T, br_00, br_10, Option.bind_some, rx_0, rx_s, el_l, el_r, br_A_A, br_S_S, br_I_I, br_S_A, br_I_A, br_A_I, br_I_S, gd_o, goes_00, goes_01, goes_10, goes_11, zI_t, zI_f, ri_0, ri_1, gd_130, c_130, gd_131, c_131, gd_132, c_132, gd_317, c_317, gd_348, c_348, gd_349, c_349, gd_550, c_550, gd_551, c_551, gd_552, c_552]
        · unfold f_X11_patch f_X11_patch_J20
          rw [hhb, decide_eq_false hF]
          simp only [br_T, br_F, gd_T, br_00, br_10, Option.bind_some, rx_0, rx_s, el_l, el_r, br_A_A, br_S_S, br_I_I, br_S_A, br_I_A, br_A_I, br_I_S, gd_o, goes_00, goes_01, goes_10, goes_11, zI_t, zI_f, ri_0, ri_1, gd_130, c_130, gd_131, c_131, gd_132, c_132, gd_317, c_317, gd_348, c_348, gd_349, c_349, gd_550, c_550, gd_551, c_551, gd_552, c_552, isV_yes hv, isB_yes hb]
    · refine okw_t h (out := out) (b := 0) (t := 1) ?_ ?_ (by decide)
      · unfold f_L_patch f_X10_patch
        simp only [br_T, br_F, gd_T, br_00, br_10, Option.bind_some, rx_0, rx_s, el_l, el_r, br_A_A, br_S_S, br_I_I, br_S_A, br_I_A, br_A_I, br_I_S, gd_o, goes_00, goes_01, goes_10, goes_11, zI_t, zI_f, ri_0, ri_1, gd_130, c_130, gd_131, c_131, gd_132, c_132, gd_317, c_317, gd_348, c_348, gd_349, c_349, gd_550, c_550, gd_551, c_551, gd_552, c_552, rv_yes hv, rb_no hb]
      · unfold f_X11_patch f_X11_patch_J19 f_X11_patch_J20
        rw [hhb]
        simp only [br_T, br_F, gd_T, br_00, br_10, Option.bind_some, rx_0, rx_s, el_l, el_r, br_A_A, br_S_S, br_I_I, br_S_A, br_I_A, br_A_I, br_I_S, gd_o, goes_00, goes_01, goes_10, goes_11, zI_t, zI_f, ri_0, ri_1, gd_130, c_130, gd_131, c_131, gd_132, c_132, gd_317, c_317, gd_348, c_348, gd_349, c_349, gd_550, c_550, gd_551, c_551, gd_552, c_552, isV_yes hv, isB_no hb]
        cases decide (¬ p2 < 0 ∧ p2 < nI (vB x v).2)
        · simp only [br_T, br_F, gd_T, br_00, br_10, Option.bind_some, rx_0, rx_s, el_l, el_r, br_A_A, br_S_S, br_I_I, br_S_A, br_I_A, br_A_I, br_I_S, gd_o, goes_00, goes_01, goes_10, goes_11, zI_t, zI_f, ri_0, ri_1, gd_130, c_130, gd_131, c_131, gd_132, c_132, gd_317, c_317, gd_348, c_348, gd_349, c_349, gd_550, c_550, gd_551, c_551, gd_552, c_552]
        · simp only [br_T, br_F, gd_T, br_00, br_10, Option.bind_some, rx_0, rx_s, el_l, el_r, br_A_A, br_S_S, br_I_I, br_S_A, br_I_A, br_A_I, br_I_S, gd_o, goes_00, goes_01, goes_10, goes_11, zI_t, zI_f, ri_0, ri_1, gd_130, c_130, gd_131, c_131, gd_132, c_132, gd_317, c_317, gd_348, c_348, gd_349, c_349, gd_550, c_550, gd_551, c_551, gd_552, c_552]
  · refine okw_t h (out := out) (b := 0) (t := 1) ?_ ?_ (by decide)
    · unfold f_L_patch f_X10_patch
      simp only [br_T, br_F, gd_T, br_00, br_10, Option.bind_some, rx_0, rx_s, el_l, el_r, br_A_A, br_S_S, br_I_I, br_S_A, br_I_A, br_A_I, br_I_S, gd_o, goes_00, goes_01, goes_10, goes_11, zI_t, zI_f, ri_0, ri_1, gd_130, c_130, gd_131, c_131, gd_132, c_132, gd_317, c_317, gd_348, c_348, gd_349, c_349, gd_550, c_550, gd_551, c_551, gd_552, c_552, rv_no hv]
    · unfold f_X11_patch f_X11_patch_J19 f_X11_patch_J20 f_X11_hasByte f_X11_hasByte_J24
      simp only [br_T, br_F, gd_T, br_00, br_10, Option.bind_some, rx_0, rx_s, el_l, el_r, br_A_A, br_S_S, br_I_I, br_S_A, br_I_A, br_A_I, br_I_S, gd_o, goes_00, goes_01, goes_10, goes_11, zI_t, zI_f, ri_0, ri_1, gd_130, c_130, gd_131, c_131, gd_132, c_132, gd_317, c_317, gd_348, c_348, gd_349, c_349, gd_550, c_550, gd_551, c_551, gd_552, c_552, isV_no hv]
theorem m_clear {now : TState} {hist : THistory} {mo : TModel} (h : RR now hist mo) (out : Nat → Int64) (p1 : Int32) : OKw (f_L_clear now hist out p1) (f_X11_clear mo p1) := by
  by_cases hv : isV p1
  · obtain ⟨v, hv2, rfl⟩ := isV_n hv
    obtain ⟨x, n, f, hn, h1, h2, hI, h3, h4, hf⟩ := id h
    have b2 := S2_v h2 hv2
    obtain ⟨hs, es, hs1⟩ := X4_save hn hI h3 h1
    obtain ⟨d, ed, hd⟩ := drop1 h1
    have bd := S1_v hd (v := v)
    obtain ⟨r, er, hr⟩ := X0_cut (by decide) bd (m := 0) (by decide)
    have er : f_X0_cut 64 (vT d v) 0 = some r := er
    obtain ⟨w', es2, ea, eh, hs2⟩ := X11_saveW (w := sT mo 0) hn hI hf h4 h2
    have ea : mA w' = mA mo := ea
    refine ⟨0, vset d v r, hs, vp_updL out (0 : Int32).toNatClampNeg (nI (vB x v).2).toInt64, nI (vB x v).2, sA w' (aD (upd (mA mo) v 0)), ?_, ?_, eh, fun _ => ?_, ?_⟩
    · unfold f_L_clear
      rw [clear_v hv2]
      simp only [br_T, br_F, gd_T, br_00, br_10, Option.bind_some, rx_0, rx_s, el_l, el_r, br_A_A, br_S_S, br_I_I, br_S_A, br_I_A, br_A_I, br_I_S, gd_o, goes_00, goes_01, goes_10, goes_11, zI_t, zI_f, ri_0, ri_1, gd_130, c_130, gd_131, c_131, gd_132, c_132, gd_317, c_317, gd_348, c_348, gd_349, c_349, gd_550, c_550, gd_551, c_551, gd_552, c_552, es, ed, er, bd.1, vB_drop]
    · unfold f_X11_clear
      simp only [br_T, br_F, gd_T, br_00, br_10, Option.bind_some, rx_0, rx_s, el_l, el_r, br_A_A, br_S_S, br_I_I, br_S_A, br_I_A, br_A_I, br_I_S, gd_o, goes_00, goes_01, goes_10, goes_11, zI_t, zI_f, ri_0, ri_1, gd_130, c_130, gd_131, c_131, gd_132, c_132, gd_317, c_317, gd_348, c_348, gd_349, c_349, gd_550, c_550, gd_551, c_551, gd_552, c_552, isV_yes hv, es2, X11_longOf w' hv2]
      simp (disch := omega) only [br_T, br_F, gd_T, br_le_t, br_le_f, br_lt_t, br_lt_f, br_eq_t, br_eq_f, br_m1, br_rf, br_0m, gd_in, gd_01, nI_add, nI_sb, pk_mul, nI_clamp, nm_eq, Option.bind_some, l_0, l_1, l_2, l_3, l_4, l_5, l_12, l_30, l_64, l_73, l_130, l_131, l_132, l_133, l_200, l_251, l_253, l_255, l_317, l_318, l_348, l_349, l_350, l_550, l_551, l_552, l_553, l_617, l_1851, drop2]
      rw [Nat.zero_add]
      have e5 : mA w' v = nI (vB x v).2 := by rw [ea]; exact b2.1
      rw [e5, show w'.1 = mA mo from ea]
      rfl
    · rw [out0]
    · refine RR_ver hn hI hf hv2 hd hr hs1 hs2 h2 (fun i hi => ?_) (fun k hk1 hk2 => ?_) ?_ (fun i hi => ?_)
      · have hi : i < min (vB x v).2 0 := hi
        omega
      · rw [upd_ne _ _ hk1]
      · rw [upd_at]
        show (0 : Int32) = nI (min (vB x v).2 0)
        rw [Nat.min_zero]; rfl
      · have hi : i < min (vB x v).2 0 := hi
        omega
  · refine okw_t h (out := out) (b := 0) (t := 1) ?_ ?_ (by decide)
    · unfold f_L_clear f_X10_clear
      simp only [br_T, br_F, gd_T, br_00, br_10, Option.bind_some, rx_0, rx_s, el_l, el_r, br_A_A, br_S_S, br_I_I, br_S_A, br_I_A, br_A_I, br_I_S, gd_o, goes_00, goes_01, goes_10, goes_11, zI_t, zI_f, ri_0, ri_1, gd_130, c_130, gd_131, c_131, gd_132, c_132, gd_317, c_317, gd_348, c_348, gd_349, c_349, gd_550, c_550, gd_551, c_551, gd_552, c_552, rv_no hv]
    · unfold f_X11_clear
      simp only [br_T, br_F, gd_T, br_00, br_10, Option.bind_some, rx_0, rx_s, el_l, el_r, br_A_A, br_S_S, br_I_I, br_S_A, br_I_A, br_A_I, br_I_S, gd_o, goes_00, goes_01, goes_10, goes_11, zI_t, zI_f, ri_0, ri_1, gd_130, c_130, gd_131, c_131, gd_132, c_132, gd_317, c_317, gd_348, c_348, gd_349, c_349, gd_550, c_550, gd_551, c_551, gd_552, c_552, isV_no hv]
theorem m_byteOf {now : TState} {hist : THistory} {mo : TModel} (h : RR now hist mo) (out : Nat → Int64) (p1 p2 : Int32) : OKr now hist (f_L_byteOf now out p1 p2) (f_X11_byteOf mo p1 p2) := by
  by_cases hv : isV p1
  · obtain ⟨v, hv2, rfl⟩ := isV_n hv
    obtain ⟨x, n, f, hn, h1, h2, hI, h3, h4, hf⟩ := id h
    have hhb := X11_hasByte h2 hv2 p2
    have b1 := S1_v h1 (v := v)
    have b2 := S2_v h2 hv2
    have b64 := b2.2.1
    by_cases hF : ¬ p2 < 0 ∧ p2 < nI (vB x v).2
    · obtain ⟨j, hj31, rfl⟩ := nI_of hF.1
      have hj : j < (vB x v).2 := (nI_ltI hj31 (by omega)).mp hF.2
      refine okr_d h (out := out) (v := (vB x v).1 j) ?_ ?_
      · unfold f_L_byteOf
        rw [byteOf_v hv2, X0_has, b1.1, decide_eq_true hF]
        simp only [br_T, br_F, gd_T, br_00, br_10, Option.bind_some, rx_0, rx_s, el_l, el_r, br_A_A, br_S_S, br_I_I, br_S_A, br_I_A, br_A_I, br_I_S, gd_o, goes_00, goes_01, goes_10, goes_11, zI_t, zI_f, ri_0, ri_1, gd_130, c_130, gd_131, c_131, gd_132, c_132, gd_317, c_317, gd_348, c_348, gd_349, c_349, gd_550, c_550, gd_551, c_551, gd_552, c_552, X0_at (by decide) b1 hj]
      · unfold f_X11_byteOf
        rw [hhb, decide_eq_true hF]
        simp only [br_T, br_F, gd_T, br_00, br_10, Option.bind_some, rx_0, rx_s, el_l, el_r, br_A_A, br_S_S, br_I_I, br_S_A, br_I_A, br_A_I, br_I_S, gd_o, goes_00, goes_01, goes_10, goes_11, zI_t, zI_f, ri_0, ri_1, gd_130, c_130, gd_131, c_131, gd_132, c_132, gd_317, c_317, gd_348, c_348, gd_349, c_349, gd_550, c_550, gd_551, c_551, gd_552, c_552, isV_yes hv, X11_byteAt (sT mo 0) hv2 (show j < 64 by omega)]
        have e5 : mA (sT mo 0) (2 + 64 * v + j) = (vB x v).1 j := b2.2.2 j hj
        rw [e5]
    · refine okr_t h (out := out) (b := 0) (t := 2) ?_ ?_ (by decide)
      · unfold f_L_byteOf
        rw [byteOf_v hv2, X0_has, b1.1, decide_eq_false hF]
        simp only [br_T, br_F, gd_T, br_00, br_10, Option.bind_some, rx_0, rx_s, el_l, el_r, br_A_A, br_S_S, br_I_I, br_S_A, br_I_A, br_A_I, br_I_S, gd_o, goes_00, goes_01, goes_10, goes_11, zI_t, zI_f, ri_0, ri_1, gd_130, c_130, gd_131, c_131, gd_132, c_132, gd_317, c_317, gd_348, c_348, gd_349, c_349, gd_550, c_550, gd_551, c_551, gd_552, c_552]
      · unfold f_X11_byteOf
        rw [hhb, decide_eq_false hF]
        simp only [br_T, br_F, gd_T, br_00, br_10, Option.bind_some, rx_0, rx_s, el_l, el_r, br_A_A, br_S_S, br_I_I, br_S_A, br_I_A, br_A_I, br_I_S, gd_o, goes_00, goes_01, goes_10, goes_11, zI_t, zI_f, ri_0, ri_1, gd_130, c_130, gd_131, c_131, gd_132, c_132, gd_317, c_317, gd_348, c_348, gd_349, c_349, gd_550, c_550, gd_551, c_551, gd_552, c_552, isV_yes hv]
  · refine okr_t h (out := out) (b := 0) (t := 1) ?_ ?_ (by decide)
    · unfold f_L_byteOf f_X10_byteOf
      simp only [br_T, br_F, gd_T, br_00, br_10, Option.bind_some, rx_0, rx_s, el_l, el_r, br_A_A, br_S_S, br_I_I, br_S_A, br_I_A, br_A_I, br_I_S, gd_o, goes_00, goes_01, goes_10, goes_11, zI_t, zI_f, ri_0, ri_1, gd_130, c_130, gd_131, c_131, gd_132, c_132, gd_317, c_317, gd_348, c_348, gd_349, c_349, gd_550, c_550, gd_551, c_551, gd_552, c_552, rv_no hv]
    · unfold f_X11_byteOf f_X11_hasByte f_X11_hasByte_J24
      simp only [br_T, br_F, gd_T, br_00, br_10, Option.bind_some, rx_0, rx_s, el_l, el_r, br_A_A, br_S_S, br_I_I, br_S_A, br_I_A, br_A_I, br_I_S, gd_o, goes_00, goes_01, goes_10, goes_11, zI_t, zI_f, ri_0, ri_1, gd_130, c_130, gd_131, c_131, gd_132, c_132, gd_317, c_317, gd_348, c_348, gd_349, c_349, gd_550, c_550, gd_551, c_551, gd_552, c_552, isV_no hv]
