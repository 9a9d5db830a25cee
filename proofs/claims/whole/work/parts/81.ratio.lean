theorem ratio_ok : ∀ c : Fin 201, ∀ n : Fin 64, (FP.ddiv (FP.i2d (nI c.val)) (FP.i2d (nI (n.val + 1)))) &&& 0x7fffffffffffffff ≤ 0x7ff0000000000000 := by decide +kernel
theorem m_ratio {now : TState} {hist : THistory} {mo : TModel} (h : RR now hist mo) : ∃ v mo', f_X10_ratio now = some v ∧ f_X11_ratio mo = some (v, mo') ∧ RR now hist mo' := by
  obtain ⟨x, n, f, hn, h1, h2, hI, h3, h4, hf⟩ := id h
  have a1 : now.2.1.2 = nI x.2.1.2 := h1.2.1.1
  have a2 : now.2.2.2.2.1.2 = nI x.2.2.2.2.1.2 := h1.2.2.2.2.1.1
  have c1 : mA mo 1 = nI x.2.1.2 := h2.2.1.1
  have c2 : mA mo 349 = nI x.2.2.2.2.1.2 := h2.2.2.2.2.1.1
  have l1 := h1.2.1.2.1
  have l2 := h1.2.2.2.2.1.2.1
  unfold f_X10_ratio f_X11_ratio
  rw [a1, a2, gd_349, c_349, show f_X11_longOf (mo.1, mo.2.1, mo.2.2.1, (0 : Int32), mo.2.2.2.2.1, mo.2.2.2.2.2.1, mo.2.2.2.2.2.2.1, mo.2.2.2.2.2.2.2.1, mo.2.2.2.2.2.2.2.2.1, mo.2.2.2.2.2.2.2.2.2.1, mo.2.2.2.2.2.2.2.2.2.2.1, mo.2.2.2.2.2.2.2.2.2.2.2.1, mo.2.2.2.2.2.2.2.2.2.2.2.2.1, mo.2.2.2.2.2.2.2.2.2.2.2.2.2) (1 : Int32) = some (nI x.2.1.2) from (X11_longOf (sT mo 0) (v := 1) (by omega)).trans (congrArg some c1), show mo.1 349 = nI x.2.2.2.2.1.2 from c2, Option.bind_some, Option.bind_some]
  by_cases e : x.2.1.2 = 0
  · rw [e, br_eq (show nI 0 = 0 from rfl), br_eq (show nI 0 = 0 from rfl)]
    exact ⟨_, _, rfl, rfl, RR_T h 0⟩
  · have hr : vf_n64 (FP.ddiv (FP.i2d (nI x.2.2.2.2.1.2)) (FP.i2d (nI x.2.1.2))) := by
      have h9 := ratio_ok ⟨x.2.2.2.2.1.2, by omega⟩ ⟨x.2.1.2 - 1, by omega⟩
      rw [show x.2.1.2 - 1 + 1 = x.2.1.2 by omega] at h9
      exact h9
    rw [br_ne (nI_ne0 (by omega) (by omega)), br_ne (nI_ne0 (by omega) (by omega)), gd_eq hr, gd_eq hr]
    exact ⟨_, _, rfl, rfl, RR_T h 0⟩
