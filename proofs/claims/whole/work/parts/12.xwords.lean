/-! the words that the three throws rest on -/
theorem nX : ∀ n ∈ xRE, Bundle.fit n = true := by decide +kernel
theorem at1_IAE : ∀ w ∈ (vx_atS RX10 112 xIAE xRE).filter goodWord, w ∈ lw_g := fun w hw => List.mem_filter.mpr ⟨(by decide +kernel : ∀ w ∈ (vx_atS RX10 112 xIAE xRE).filter goodWord, w ∈ lw_tbl) w hw, (List.mem_filter.mp hw).2⟩
theorem at1_ISE : ∀ w ∈ (vx_atS RX10 51 xISE xRE).filter goodWord, w ∈ lw_g := fun w hw => List.mem_filter.mpr ⟨(by decide +kernel : ∀ w ∈ (vx_atS RX10 51 xISE xRE).filter goodWord, w ∈ lw_tbl) w hw, (List.mem_filter.mp hw).2⟩
theorem at1_IOB : ∀ w ∈ (vx_atS RX10 245 xIOB xRE).filter goodWord, w ∈ lw_g := fun w hw => List.mem_filter.mpr ⟨(by decide +kernel : ∀ w ∈ (vx_atS RX10 245 xIOB xRE).filter goodWord, w ∈ lw_tbl) w hw, (List.mem_filter.mp hw).2⟩
theorem at2_IAE : ∀ w ∈ (vx_atS RX10 112 xIAE xRE).filter (fun w => !goodWord w), w ∈ nsW := by decide +kernel
theorem at2_ISE : ∀ w ∈ (vx_atS RX10 51 xISE xRE).filter (fun w => !goodWord w), w ∈ nsW := by decide +kernel
theorem at2_IOB : ∀ w ∈ (vx_atS RX10 245 xIOB xRE).filter (fun w => !goodWord w), w ∈ nsW := by decide +kernel
theorem at3_IAE : ∀ w ∈ Cond.classLink RX10 108 xIAE :: Cond.initialized xIAE :: vx_atS RX10 112 xIAE xRE, vx_ot w = true := by decide +kernel
theorem at3_ISE : ∀ w ∈ Cond.classLink RX10 47 xISE :: Cond.initialized xISE :: vx_atS RX10 51 xISE xRE, vx_ot w = true := by decide +kernel
theorem at3_IOB : ∀ w ∈ Cond.classLink RX10 241 xIOB :: Cond.initialized xIOB :: vx_atS RX10 245 xIOB xRE, vx_ot w = true := by decide +kernel
theorem sr_237 : Cond.stringRef RX10 237 "there is no such version" ∈ tables_1 := wt3 (List.mem_of_getElem? (i := 66) rfl)
theorem sr_239 : Cond.stringRef RX10 239 "the value is no byte" ∈ tables_1 := wt3 (List.mem_of_getElem? (i := 96) rfl)
theorem sr_49 : Cond.stringRef RX10 49 "the version is full" ∈ tables_1 := wt3 (List.mem_of_getElem? (i := 114) rfl)
theorem sr_243 : Cond.stringRef RX10 243 "there is nothing at this index" ∈ tables_1 := wt3 (List.mem_of_getElem? (i := 147) rfl)
theorem sr_110 : Cond.stringRef RX10 110 "what is out of range" ∈ tables_1 := wt3 (List.mem_of_getElem? (i := 181) rfl)
theorem sr_124 : Cond.stringRef RX10 124 "the policy is out of range" ∈ tables_1 := wt3 (List.mem_of_getElem? (i := 199) rfl)
theorem sr_129 : Cond.stringRef RX10 129 "the old version has not the source length of the delta" ∈ tables_1 := wt3 (List.mem_of_getElem? (i := 200) rfl)
theorem sr_252 : Cond.stringRef RX10 252 "there is no plan" ∈ tables_1 := wt4 (List.mem_of_getElem? (i := 5) rfl)
theorem sr_167 : Cond.stringRef RX10 167 "the code would be too long" ∈ tables_1 := wt4 (List.mem_of_getElem? (i := 34) rfl)
theorem sr_174 : Cond.stringRef RX10 174 "the code is full" ∈ tables_1 := wt4 (List.mem_of_getElem? (i := 66) rfl)
theorem sr_246 : Cond.stringRef RX10 246 "the index is less than -1" ∈ tables_1 := wt4 (List.mem_of_getElem? (i := 77) rfl)
theorem sr_255 : Cond.stringRef RX10 255 "there is no work" ∈ tables_1 := wt4 (List.mem_of_getElem? (i := 110) rfl)
theorem sr_206 : Cond.stringRef RX10 206 "no command is left" ∈ tables_1 := wt4 (List.mem_of_getElem? (i := 111) rfl)
theorem sr_219 : Cond.stringRef RX10 219 "there is no saved state" ∈ tables_1 := wt4 (List.mem_of_getElem? (i := 149) rfl)
