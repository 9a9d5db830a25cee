/-! the words that the three throws rest on -/
theorem nX : ∀ n ∈ xRE, Bundle.fit n = true := by decide +kernel
theorem at1_IAE : ∀ w ∈ (vx_atS RX10 112 xIAE xRE).filter goodWord, w ∈ lw_g := fun w hw => List.mem_filter.mpr ⟨(by decide +kernel : ∀ w ∈ (vx_atS RX10 112 xIAE xRE).filter goodWord, w ∈ lw_tbl) w hw, (List.mem_filter.mp hw).2⟩
theorem at1_ISE : ∀ w ∈ (vx_atS RX10 51 xISE xRE).filter goodWord, w ∈ lw_g := fun w hw => List.mem_filter.mpr ⟨(by decide +kernel : ∀ w ∈ (vx_atS RX10 51 xISE xRE).filter goodWord, w ∈ lw_tbl) w hw, (List.mem_filter.mp hw).2⟩
theorem at1_IOB : ∀ w ∈ (vx_atS RX10 245 xIOB xRE).filter goodWord, w ∈ lw_g := fun w hw => List.mem_filter.mpr ⟨(by decide +kernel : ∀ w ∈ (vx_atS RX10 245 xIOB xRE).filter goodWord, w ∈ lw_tbl) w hw, (List.mem_filter.mp hw).2⟩
theorem at2_IAE : ∀ w ∈ (vx_atS RX10 112 xIAE xRE).filter (fun w => !goodWord w), w ∈ nsW := by decide +kernel
theorem at2_ISE : ∀ w ∈ (vx_atS RX10 51 xISE xRE).filter (fun w => !goodWord w), w ∈ nsW := by decide +kernel
theorem at2_IOB : ∀ w ∈ (vx_atS RX10 245 xIOB xRE).filter (fun w => !goodWord w), w ∈ nsW := by decide +kernel
theorem at3_IAE : ∀ w ∈ Cond.classLink RX10 108 xIAE :: Cond.initialized xIAE :: vx_atS RX10 112 xIAE xRE, vx_ot w = true := by decide +kernel
theorem at3_ISE : ∀ w ∈ Cond.classLink RX10 47 xISE :: Cond.initialized xISE :: vx_atS RX10 51 xISE xRE, vx_ot w = true := by decide +kernel
theorem at3_IOB : ∀ w ∈ Cond.classLink RX10 241 xIOB :: Cond.initialized xIOB :: vx_atS RX10 245 xIOB xRE, vx_ot w = true := by decide +kernel
