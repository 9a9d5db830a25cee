/-! begin and step -/
theorem W1_there {w : TWork} {y : XW} (h : W1 w y) (e : y.1 = true) : w.2.1 = 1 := by rw [h.1, zI_y e]
/-- the bytes that begin lays out -/
def bgB (x : XS) : XB := (fun i => if i < dS x.2.2.1 then x.1.1 i else 0, if dC x.2.2.1 = 0 then dT x.2.2.1 else max (dS x.2.2.1) (dT x.2.2.1))
def xbegin (x : XS) : XS := (x.1, x.2.1, x.2.2.1, x.2.2.2.1, x.2.2.2.2.1, (true, dC x.2.2.1, bgB x))
theorem start35 {st : TState} {x : XS} (h : S1 st x) (hI : SI x) (hS : x.1.2 = dS x.2.2.1) : ∀ (d i k : Nat) (b : TBytes), i + d = max (dS x.2.2.1) (dT x.2.2.1) → dS x.2.2.1 ≤ i → d < k → B1 64 b (fun e => if e < dS x.2.2.1 then x.1.1 e else 0, i) → ∃ r, f_X9_start_L35 k (st.1, st.2.1, st.2.2.1, st.2.2.2.1, st.2.2.2.2.1, (b, (1 : Int32), nI (dC x.2.2.1))) (nI i) = some (st.1, st.2.1, st.2.2.1, st.2.2.2.1, st.2.2.2.2.1, (r, (1 : Int32), nI (dC x.2.2.1))) ∧ B1 64 r (bgB x) := by
  have hT : st.2.2.1.2.2.2.2.2.2.2.1 = nI (dT x.2.2.1) := h.2.2.1.2.1
  have i2 := hI.2.2.1.2.1
  have i3 := hI.2.2.1.2.2.1
  have i1 := hI.2.2.1.1
  intro d
  induction d with
  | zero =>
    intro i k b hi hs hk hb
    obtain ⟨k, rfl⟩ : ∃ k', k = k' + 1 := ⟨k - 1, by omega⟩
    rw [f_X9_start_L35.eq_2, hT, br_le_t (by omega) (by omega)]
    unfold f_X9_cutIfFinished
    by_cases e : dC x.2.2.1 = 0
    · obtain ⟨r, er, hr⟩ := X0_cut (by decide) hb (m := dT x.2.2.1) (by omega)
      refine ⟨r, ?_, ?_⟩
      · rw [br_eq (show nI (dC x.2.2.1) = 0 by rw [e]; rfl), hT, er]; rfl
      · unfold bgB
        rw [if_pos e]
        have e2 : min i (dT x.2.2.1) = dT x.2.2.1 := by omega
        have hr2 : B1 64 r (fun e => if e < dS x.2.2.1 then x.1.1 e else 0, min i (dT x.2.2.1)) := hr
        rw [e2] at hr2
        exact hr2
    · refine ⟨b, ?_, ?_⟩
      · rw [br_ne (show ¬ nI (dC x.2.2.1) = 0 from nI_ne0 (by omega) (by omega))]; rfl
      · unfold bgB
        rw [if_neg e, ← hi]
        exact hb
  | succ d ih =>
    intro i k b hi hs hk hb
    obtain ⟨k, rfl⟩ : ∃ k', k = k' + 1 := ⟨k - 1, by omega⟩
    obtain ⟨r, er, hr⟩ := X0_push (by decide) hb (show i < 64 by omega) 0
    rw [f_X9_start_L35.eq_2, hT, br_le_f (by omega) (by omega), er, Option.bind_some, show nI i + 1 = nI (i + 1) from nI_1 i]
    refine ih (i + 1) k r (by omega) (by omega) (by omega) ?_
    have e : (fun k => if k = i then (0 : Int32) else if k < dS x.2.2.1 then x.1.1 k else 0) = (fun e => if e < dS x.2.2.1 then x.1.1 e else 0) := by
      funext k
      by_cases q : k = i
      · rw [if_pos q, if_neg (by omega)]
      · rw [if_neg q]
    have hr2 : B1 64 r (fun k => if k = i then (0 : Int32) else if k < dS x.2.2.1 then x.1.1 k else 0, i + 1) := hr
    rw [e] at hr2
    exact hr2
theorem X9_start {st : TState} {x : XS} (h : S1 st x) (hI : SI x) (ht : x.2.2.2.1.1 = true) : ∃ r, f_X9_start st = some r ∧ S1 r (xbegin x) ∧ r.2.2.2.2.2.2.2 = nI (dC x.2.2.1) := by
  have hS : x.1.2 = dS x.2.2.1 := (hI.2.2.2.1 ht).1
  have i2 := hI.2.2.1.2.1
  have i3 := hI.2.2.1.2.2.1
  obtain ⟨b, eb, hb⟩ := X0_take (w0 := st.2.2.2.2.2.1) (by decide) h.1
  have hb2 : B1 64 b (fun e => if e < dS x.2.2.1 then x.1.1 e else 0, dS x.2.2.1) := ⟨by rw [hb.1, hS], by show dS x.2.2.1 ≤ 64; omega, fun i hi => by
    have hi : i < dS x.2.2.1 := hi
    show b.1 i = if i < dS x.2.2.1 then x.1.1 i else 0
    rw [if_pos hi]; exact hb.2.2 i (by omega)⟩
  obtain ⟨r, er, hr⟩ := start35 h hI hS (max (dS x.2.2.1) (dT x.2.2.1) - dS x.2.2.1) (dS x.2.2.1) FUEL b (by omega) (by omega) (by show _ < 10000; omega) hb2
  refine ⟨(st.1, st.2.1, st.2.2.1, st.2.2.2.1, st.2.2.2.2.1, (r, (1 : Int32), nI (dC x.2.2.1))), ?_, ⟨h.1, h.2.1, h.2.2.1, h.2.2.2.1, h.2.2.2.2.1, rfl, hr, fun _ => rfl⟩, rfl⟩
  unfold f_X9_start
  rw [eb, Option.bind_some, show st.2.2.2.1.2.2.1 = nI (dC x.2.2.1) from (h.2.2.2.1.2 ht).1, hb.1, hS]
  exact er
theorem cutsW {w : TModel} {l t : Nat} (h1 : mA w 551 = nI l) (h2 : mA w 131 = nI t) (hl : l < 2147483648) : f_X11_cutsWork w = some (sA w (if l = 0 then upd (mA w) 552 (nI t) else mA w)) := by
  unfold f_X11_cutsWork
  rw [gd_551, c_551, show w.1 551 = nI l from h1]
  by_cases e : l = 0
  · rw [br_eq (show nI l = 0 by rw [e]; rfl), gd_131, gd_552, c_131, c_552, if_pos e, show w.1 131 = nI t from h2]; rfl
  · rw [br_ne (nI_ne0 (by omega) hl), if_neg e]; rfl
theorem begin91 {S T c : Nat} {o : Nat → Int32} (hS : S ≤ 64) (hc : c ≤ 30) : ∀ (d i k : Nat) (w : TModel), i + d = 64 → d < k → mA w 130 = nI S → mA w 131 = nI T → mA w 551 = nI c → (∀ e, e < S → mA w (2 + e) = o e) → ∃ v, f_X11_begin_L91 k w (nI i) = some (nI c, sA w v) ∧ (∀ j, j < 553 + i → j ≠ 552 → v j = mA w j) ∧ v 552 = (if c = 0 then nI T else mA w 552) ∧ (∀ e, i ≤ e → e < 64 → v (553 + e) = if e < S then o e else 0) := by
  intro d
  induction d with
  | zero =>
    intro i k w hi hk a130 a131 a551 ao
    obtain ⟨k, rfl⟩ : ∃ k', k = k' + 1 := ⟨k - 1, by omega⟩
    refine ⟨if c = 0 then upd (mA w) 552 (nI T) else mA w, ?_, fun j h1 h2 => ?_, ?_, fun e h1 h2 => by omega⟩
    · rw [f_X11_begin_L91.eq_2, br_eq (show (64 : Int32) ≤ nI i from nI_le (a := 64) (by omega) (by omega)), cutsW a551 a131 (by omega), Option.bind_some, gd_551, c_551]
      have e : (sA w (if c = 0 then upd (mA w) 552 (nI T) else mA w)).1 551 = nI c := by
        show (if c = 0 then upd (mA w) 552 (nI T) else mA w) 551 = nI c
        split
        · rw [upd_ne _ _ (by omega)]; exact a551
        · exact a551
      rw [e]
    · split
      · rw [upd_ne _ _ h2]
      · rfl
    · split
      · rw [upd_at]
      · rfl
  | succ d ih =>
    intro i k w hi hk a130 a131 a551 ao
    obtain ⟨k, rfl⟩ : ∃ k', k = k' + 1 := ⟨k - 1, by omega⟩
    have step : f_X11_begin_L91 (k + 1) w (nI i) = f_X11_begin_L91 k (sA w (upd (mA w) (553 + i) (if i < S then o i else 0))) (nI (i + 1)) := by
      rw [f_X11_begin_L91.eq_2, br_ne (show ¬ (64 : Int32) ≤ nI i from nI_ge (b := 64) (by omega) (by omega)), gd_130, c_130, show w.1 130 = nI S from a130, show (553 : Int32) + nI i = nI (553 + i) from nI_add 553 i]
      unfold f_X11_begin_J128
      by_cases q : i < S
      · rw [br_le_f (by omega) (by omega), show f_X11_byteAt w 0 (nI i) = some (o i) from (X11_byteAt w (v := 0) (by omega) (by omega)).trans (congrArg some (ao i q)), Option.bind_some, if_pos q, gd_in (by omega) (by omega), nI_clamp (by omega), show nI i + 1 = nI (i + 1) from nI_1 i]; rfl
      · rw [br_le_t (by omega) (by omega), if_neg q, gd_in (by omega) (by omega), nI_clamp (by omega), show nI i + 1 = nI (i + 1) from nI_1 i]; rfl
    obtain ⟨v, e, v1, v2, v3⟩ := ih (i + 1) k (sA w (upd (mA w) (553 + i) (if i < S then o i else 0))) (by omega) (by omega) (by rw [mA_sA, upd_ne _ _ (by omega)]; exact a130) (by rw [mA_sA, upd_ne _ _ (by omega)]; exact a131) (by rw [mA_sA, upd_ne _ _ (by omega)]; exact a551) (fun e he => by rw [mA_sA, upd_ne _ _ (by omega)]; exact ao e he)
    refine ⟨v, step.trans e, fun j h1 h2 => ?_, ?_, fun e h1 h2 => ?_⟩
    · rw [v1 j (by omega) h2]; exact upd_ne _ _ (by omega)
    · rw [v2]
      split
      · rfl
      · exact upd_ne _ _ (by omega)
    · by_cases q : e = i
      · rw [q, v1 _ (by omega) (by omega)]; exact upd_at _ _ _
      · exact v3 e (by omega) h2
theorem m_begin {now : TState} {hist : THistory} {mo : TModel} (h : RR now hist mo) (out : Nat → Int64) : OKw (f_L_begin now hist out) (f_X11_begin mo) := by
  obtain ⟨x, n, f, hn, h1, h2, hI, h3, h4, hf⟩ := id h
  have hp1 := h1.2.2.2.1
  have hp2 := h2.2.2.2.1
  have hx := X11_isPlanned hp2
  by_cases ht : x.2.2.2.1.1 = true
  · rw [zI_y ht] at hx
    have i1 := hI.2.2.1.1
    have i2 := hI.2.2.1.2.1
    have i3 := hI.2.2.1.2.2.1
    have hS : x.1.2 = dS x.2.2.1 := (hI.2.2.2.1 ht).1
    obtain ⟨hs, es, hs1⟩ := X4_save hn hI h3 h1
    obtain ⟨r, er, hr, hr2⟩ := X9_start h1 hI ht
    obtain ⟨w', es2, ea, eh, hs2⟩ := X11_saveW (w := sT mo 0) hn hI hf h4 h2
    have ea : mA w' = mA mo := ea
    have a130 : mA mo 130 = nI (dS x.2.2.1) := h2.2.2.1.1
    have a131 : mA mo 131 = nI (dT x.2.2.1) := h2.2.2.1.2.1
    have a132 : mA mo 132 = nI (dC x.2.2.1) := h2.2.2.1.2.2.1
    obtain ⟨v, ev, v1, v2, v3⟩ := begin91 (S := dS x.2.2.1) (T := dT x.2.2.1) (c := dC x.2.2.1) (o := x.1.1) i2 i1 64 0 FUEL (sA w' (upd (upd (upd (mA mo) 550 1) 551 (nI (dC x.2.2.1))) 552 (nI (max (dS x.2.2.1) (dT x.2.2.1))))) rfl (by decide) (by rw [mA_sA, upd_ne _ _ (by omega), upd_ne _ _ (by omega), upd_ne _ _ (by omega)]; exact a130) (by rw [mA_sA, upd_ne _ _ (by omega), upd_ne _ _ (by omega), upd_ne _ _ (by omega)]; exact a131) (by rw [mA_sA, upd_ne _ _ (by omega), upd_at]) (fun e he => by rw [mA_sA, upd_ne _ _ (by omega), upd_ne _ _ (by omega), upd_ne _ _ (by omega)]; exact h2.1.2.2 e (by omega))
    refine ⟨0, r, hs, vp_updL out (0 : Int32).toNatClampNeg (nI (dC x.2.2.1)).toInt64, nI (dC x.2.2.1), sA w' v, ?_, ?_, eh, fun _ => ?_, ?_⟩
    · unfold f_L_begin f_X10_begin
      simp only [br_T, br_F, gd_T, br_00, br_10, Option.bind_some, rx_0, rx_s, el_l, el_r, br_A_A, br_S_S, br_I_I, br_S_A, br_I_A, br_A_I, br_I_S, gd_o, goes_00, goes_01, goes_10, goes_11, zI_t, zI_f, ri_0, ri_1, gd_130, c_130, gd_131, c_131, gd_132, c_132, gd_317, c_317, gd_348, c_348, gd_349, c_349, gd_550, c_550, gd_551, c_551, gd_552, c_552, rp_y hp1 ht, es, er, hr2]
    · unfold f_X11_begin f_X11_begin_J88
      simp only [br_T, br_F, gd_T, br_00, br_10, Option.bind_some, rx_0, rx_s, el_l, el_r, br_A_A, br_S_S, br_I_I, br_S_A, br_I_A, br_A_I, br_I_S, gd_o, goes_00, goes_01, goes_10, goes_11, zI_t, zI_f, ri_0, ri_1, gd_130, c_130, gd_131, c_131, gd_132, c_132, gd_317, c_317, gd_348, c_348, gd_349, c_349, gd_550, c_550, gd_551, c_551, gd_552, c_552, hx, es2, show w'.1 = mA mo from ea]
      rw [upd_ne _ _ (show 132 ≠ 550 by omega), upd_ne _ _ (show 130 ≠ 551 by omega), upd_ne _ _ (show 130 ≠ 550 by omega), upd_ne _ _ (show 131 ≠ 551 by omega), upd_ne _ _ (show 131 ≠ 550 by omega), a130, a131, a132]
      by_cases q : dS x.2.2.1 ≤ dT x.2.2.1
      · rw [br_le_t q (by omega)]
        rw [show max (dS x.2.2.1) (dT x.2.2.1) = dT x.2.2.1 by omega] at ev
        exact ev
      · rw [br_le_f (by omega) (by omega)]
        rw [show max (dS x.2.2.1) (dT x.2.2.1) = dS x.2.2.1 by omega] at ev
        exact ev
    · rw [out0]
    · have hv : ∀ k, k < 550 → mA mo k = v k := fun k hk => by
        rw [v1 k (by omega) (by omega)]
        rw [mA_sA, upd_ne _ _ (by omega), upd_ne _ _ (by omega), upd_ne _ _ (by omega)]
      obtain ⟨g1, g2, g3, g4, g5, g6⟩ := h2
      refine ⟨xbegin x, nS n, fS n f x, nS_le hn, hr, ⟨B2_cong (hv _ (by omega)) (fun k _ _ => hv k (by omega)) g1, B2_cong (hv _ (by omega)) (fun k _ _ => hv k (by omega)) g2, D2_cong hI.2.2.1 (fun k _ _ => hv k (by omega)) g3, P2_cong hI.2.2.1.1 (fun k _ _ => hv k (by omega)) g4, B2_cong (hv _ (by omega)) (fun k _ _ => hv k (by omega)) g5, ⟨?_, fun _ => ⟨?_, ?_, ?_, fun i hi => ?_⟩⟩⟩, ⟨hI.1, hI.2.1, hI.2.2.1, hI.2.2.2.1, hI.2.2.2.2.1, fun _ => ⟨ht, Nat.le_refl _, fun q => ?_⟩⟩, hs1, hs2, fS_I hn hI hf⟩
      · show v 550 = _
        rw [v1 550 (by omega) (by omega)]
        rw [mA_sA, upd_ne _ _ (by omega), upd_ne _ _ (by omega), upd_at]; rfl
      · show v 551 = _
        rw [v1 551 (by omega) (by omega)]
        rw [mA_sA, upd_ne _ _ (by omega), upd_at]; rfl
      · show v 552 = nI (if dC x.2.2.1 = 0 then dT x.2.2.1 else max (dS x.2.2.1) (dT x.2.2.1))
        rw [v2]
        split
        · rfl
        · rw [mA_sA, upd_at]
      · show (if dC x.2.2.1 = 0 then dT x.2.2.1 else max (dS x.2.2.1) (dT x.2.2.1)) ≤ 64
        split <;> omega
      · have hi : i < (if dC x.2.2.1 = 0 then dT x.2.2.1 else max (dS x.2.2.1) (dT x.2.2.1)) := hi
        have hi2 : i < 64 := by split at hi <;> omega
        exact v3 i (by omega) hi2
      · have q : 0 < dC x.2.2.1 := q
        show dS x.2.2.1 ≤ (if dC x.2.2.1 = 0 then dT x.2.2.1 else max (dS x.2.2.1) (dT x.2.2.1)) ∧ dT x.2.2.1 ≤ (if dC x.2.2.1 = 0 then dT x.2.2.1 else max (dS x.2.2.1) (dT x.2.2.1))
        rw [if_neg (by omega)]
        omega
  · refine okw_t h (out := out) (b := 0) (t := 1) ?_ ?_ (by decide)
    · unfold f_L_begin f_X10_begin
      simp only [br_T, br_F, gd_T, br_00, br_10, Option.bind_some, rx_0, rx_s, el_l, el_r, br_A_A, br_S_S, br_I_I, br_S_A, br_I_A, br_A_I, br_I_S, gd_o, goes_00, goes_01, goes_10, goes_11, zI_t, zI_f, ri_0, ri_1, gd_130, c_130, gd_131, c_131, gd_132, c_132, gd_317, c_317, gd_348, c_348, gd_349, c_349, gd_550, c_550, gd_551, c_551, gd_552, c_552, rp_n hp1 ht]
    · unfold f_X11_begin
      rw [zI_n ht] at hx
      simp only [br_T, br_F, gd_T, br_00, br_10, Option.bind_some, rx_0, rx_s, el_l, el_r, br_A_A, br_S_S, br_I_I, br_S_A, br_I_A, br_A_I, br_I_S, gd_o, goes_00, goes_01, goes_10, goes_11, zI_t, zI_f, ri_0, ri_1, gd_130, c_130, gd_131, c_131, gd_132, c_132, gd_317, c_317, gd_348, c_348, gd_349, c_349, gd_550, c_550, gd_551, c_551, gd_552, c_552, hx]
