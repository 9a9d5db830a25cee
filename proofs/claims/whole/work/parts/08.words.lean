/-! the good words of the tables, one list for every method -/
def lw_g : List Cond := lw_tbl.filter goodWord
theorem wg_mem {w : Cond} (h : w ∈ tables_1) (hg : goodWord w = true) : w ∈ lw_g := List.mem_filter.mpr ⟨List.mem_append_right _ h, hg⟩
theorem wg_sel {w : Cond} (h : w ∈ k2_sels lw_privs) (hg : goodWord w = true) : w ∈ lw_g := List.mem_filter.mpr ⟨List.mem_append_left _ h, hg⟩
theorem wg_good {w : Cond} (h : w ∈ lw_g) : (w.onTables && w.keeps) = true ∨ ∃ ty, w = .arrayClass ty := good_of_word (List.mem_filter.mp h).2
theorem wg_in {a b : Cond} (h : b ∈ lw_g) : GoodIn (a :: lw_g) (b :: lw_g) := by
  intro w hw
  have h9 : w ∈ lw_g := by
    rcases List.mem_cons.mp hw with e | e
    · rw [e]; exact h
    · exact e
  exact ⟨List.mem_cons_of_mem _ h9, wg_good h9⟩
theorem wg_at {l : List Cond} {w : Cond} (pre : List Cond) (i : Nat) (h : l[i]? = some w) : w ∈ l := List.mem_of_getElem? h
theorem wt1 {w : Cond} (h : w ∈ tables_1_1) : w ∈ tables_1 := List.mem_append_left _ h
theorem wt2 {w : Cond} (h : w ∈ tables_1_2) : w ∈ tables_1 := List.mem_append_right _ (List.mem_append_left _ h)
theorem wt3 {w : Cond} (h : w ∈ tables_1_3) : w ∈ tables_1 := List.mem_append_right _ (List.mem_append_right _ (List.mem_append_left _ h))
theorem wt4 {w : Cond} (h : w ∈ tables_1_4) : w ∈ tables_1 := List.mem_append_right _ (List.mem_append_right _ (List.mem_append_right _ (List.mem_append_left _ h)))
theorem wt5 {w : Cond} (h : w ∈ tables_1_5) : w ∈ tables_1 := List.mem_append_right _ (List.mem_append_right _ (List.mem_append_right _ (List.mem_append_right _ h)))
theorem wd_0 : Cond.initialized RL ∈ lw_g := wg_mem (wt1 (List.mem_of_getElem? (i := 0) rfl)) rfl
theorem wd_1 : Cond.initialized RX10 ∈ lw_g := wg_mem (wt1 (List.mem_of_getElem? (i := 1) rfl)) rfl
theorem wd_2 : Cond.initialized RX8 ∈ lw_g := wg_mem (wt1 (List.mem_of_getElem? (i := 2) rfl)) rfl
theorem wd_3 : Cond.initialized RX0 ∈ lw_g := wg_mem (wt1 (List.mem_of_getElem? (i := 3) rfl)) rfl
theorem wd_4 : Cond.initialized "java/lang/Math" ∈ lw_g := wg_mem (wt1 (List.mem_of_getElem? (i := 4) rfl)) rfl
theorem wd_5 : Cond.initialized RX2 ∈ lw_g := wg_mem (wt1 (List.mem_of_getElem? (i := 5) rfl)) rfl
theorem wd_6 : Cond.initialized RX7 ∈ lw_g := wg_mem (wt1 (List.mem_of_getElem? (i := 6) rfl)) rfl
theorem wd_7 : Cond.initialized RX9 ∈ lw_g := wg_mem (wt1 (List.mem_of_getElem? (i := 7) rfl)) rfl
theorem wd_8 : Cond.initialized RX4 ∈ lw_g := wg_mem (wt1 (List.mem_of_getElem? (i := 8) rfl)) rfl
theorem wd_9 : Cond.initialized RX1 ∈ lw_g := wg_mem (wt1 (List.mem_of_getElem? (i := 9) rfl)) rfl
theorem wd_10 : Cond.initialized RX11 ∈ lw_g := wg_mem (wt1 (List.mem_of_getElem? (i := 10) rfl)) rfl
theorem wd_11 : Cond.initialized "java/lang/Throwable" ∈ lw_g := wg_mem (wt1 (List.mem_of_getElem? (i := 11) rfl)) rfl
theorem wd_12 : Cond.initialized "java/lang/Exception" ∈ lw_g := wg_mem (wt1 (List.mem_of_getElem? (i := 12) rfl)) rfl
theorem wd_13 : Cond.initialized "java/lang/RuntimeException" ∈ lw_g := wg_mem (wt1 (List.mem_of_getElem? (i := 13) rfl)) rfl
theorem wd_14 : Cond.initialized "java/lang/IllegalArgumentException" ∈ lw_g := wg_mem (wt1 (List.mem_of_getElem? (i := 14) rfl)) rfl
theorem wd_15 : Cond.initialized "java/lang/IllegalStateException" ∈ lw_g := wg_mem (wt1 (List.mem_of_getElem? (i := 15) rfl)) rfl
theorem wd_16 : Cond.initialized "java/lang/System" ∈ lw_g := wg_mem (wt1 (List.mem_of_getElem? (i := 16) rfl)) rfl
theorem wd_17 : Cond.initialized "java/lang/IndexOutOfBoundsException" ∈ lw_g := wg_mem (wt1 (List.mem_of_getElem? (i := 17) rfl)) rfl
theorem wd_18 : Cond.initialized RX6 ∈ lw_g := wg_mem (wt1 (List.mem_of_getElem? (i := 18) rfl)) rfl
theorem wd_19 : Cond.initialized RJ6 ∈ lw_g := wg_mem (wt1 (List.mem_of_getElem? (i := 19) rfl)) rfl
theorem wd_20 : Cond.initialized RX5 ∈ lw_g := wg_mem (wt1 (List.mem_of_getElem? (i := 20) rfl)) rfl
theorem wd_21 : Cond.initialized RX3 ∈ lw_g := wg_mem (wt1 (List.mem_of_getElem? (i := 21) rfl)) rfl
theorem wd_22 : Cond.classLink RL 8 RX10 ∈ lw_g := wg_mem (wt1 (List.mem_of_getElem? (i := 22) rfl)) rfl
theorem wd_23 : Cond.instantiable RX10 3 ∈ lw_g := wg_mem (wt1 (List.mem_of_getElem? (i := 23) rfl)) rfl
theorem wd_24 : Cond.methodLink RL 74 yX10_init ∈ lw_g := wg_mem (wt1 (List.mem_of_getElem? (i := 24) rfl)) rfl
theorem wd_25 : Cond.instanceMethod yX10_init ∈ lw_g := wg_mem (wt1 (List.mem_of_getElem? (i := 25) rfl)) rfl
theorem wd_26 : Cond.code yX10_init prog_1_method_1_code 1 none ∈ lw_g := wg_mem (wt1 (List.mem_of_getElem? (i := 26) rfl)) rfl
theorem wd_27 : Cond.methodLink RX10 1 objectInit ∈ lw_g := wg_mem (wt1 (List.mem_of_getElem? (i := 27) rfl)) rfl
theorem wd_28 : Cond.instanceMethod objectInit ∈ lw_g := wg_mem (wt1 (List.mem_of_getElem? (i := 28) rfl)) rfl
theorem wd_29 : Cond.code objectInit object_method_1_code 1 none ∈ lw_g := wg_mem (wt1 (List.mem_of_getElem? (i := 29) rfl)) rfl
theorem wd_30 : Cond.classLink RX10 7 RX8 ∈ lw_g := wg_mem (wt1 (List.mem_of_getElem? (i := 30) rfl)) rfl
theorem wd_31 : Cond.instantiable RX8 6 ∈ lw_g := wg_mem (wt1 (List.mem_of_getElem? (i := 31) rfl)) rfl
theorem wd_32 : Cond.methodLink RX10 9 yX8_init ∈ lw_g := wg_mem (wt1 (List.mem_of_getElem? (i := 32) rfl)) rfl
theorem wd_33 : Cond.instanceMethod yX8_init ∈ lw_g := wg_mem (wt1 (List.mem_of_getElem? (i := 33) rfl)) rfl
theorem wd_34 : Cond.code yX8_init prog_10_method_1_code 1 none ∈ lw_g := wg_mem (wt1 (List.mem_of_getElem? (i := 34) rfl)) rfl
theorem wd_35 : Cond.methodLink RX8 3 objectInit ∈ lw_g := wg_mem (wt1 (List.mem_of_getElem? (i := 35) rfl)) rfl
theorem wd_36 : Cond.classLink RX8 9 RX0 ∈ lw_g := wg_mem (wt1 (List.mem_of_getElem? (i := 36) rfl)) rfl
theorem wd_37 : Cond.instantiable RX0 2 ∈ lw_g := wg_mem (wt1 (List.mem_of_getElem? (i := 37) rfl)) rfl
theorem wd_38 : Cond.methodLink RX8 11 yX0_init ∈ lw_g := wg_mem (wt1 (List.mem_of_getElem? (i := 38) rfl)) rfl
theorem wd_39 : Cond.instanceMethod yX0_init ∈ lw_g := wg_mem (wt1 (List.mem_of_getElem? (i := 39) rfl)) rfl
theorem wd_40 : Cond.code yX0_init prog_2_method_1_code 2 none ∈ lw_g := wg_mem (wt1 (List.mem_of_getElem? (i := 40) rfl)) rfl
theorem wd_41 : Cond.methodLink RX0 3 objectInit ∈ lw_g := wg_mem (wt1 (List.mem_of_getElem? (i := 41) rfl)) rfl
theorem wd_42 : Cond.methodLink RX0 9 Lib.Math.max.name ∈ lw_g := wg_mem (wt1 (List.mem_of_getElem? (i := 42) rfl)) rfl
theorem wd_43 : Cond.static Lib.Math.max.name ∈ lw_g := wg_mem (wt1 (List.mem_of_getElem? (i := 43) rfl)) rfl
theorem wd_44 : Cond.code Lib.Math.max.name prog_19_method_65_code 2 (some FieldType.int) ∈ lw_g := wg_mem (wt1 (List.mem_of_getElem? (i := 44) rfl)) rfl
theorem wd_45 : Cond.fieldLink RX0 15 "InPlaceDelta$Bytes" "values" "[I" ∈ lw_g := wg_mem (wt1 (List.mem_of_getElem? (i := 45) rfl)) rfl
theorem wd_46 : Cond.fieldLink RX0 21 "InPlaceDelta$Bytes" "count" "I" ∈ lw_g := wg_mem (wt1 (List.mem_of_getElem? (i := 46) rfl)) rfl
theorem wd_56 : Cond.arrayClass FieldType.int ∈ lw_g := wg_mem (wt1 (List.mem_of_getElem? (i := 56) rfl)) rfl
theorem wd_57 : Cond.classLink RX8 23 RX2 ∈ lw_g := wg_mem (wt1 (List.mem_of_getElem? (i := 57) rfl)) rfl
theorem wd_58 : Cond.instantiable RX2 11 ∈ lw_g := wg_mem (wt1 (List.mem_of_getElem? (i := 58) rfl)) rfl
theorem wd_59 : Cond.methodLink RX8 25 yX2_init ∈ lw_g := wg_mem (wt1 (List.mem_of_getElem? (i := 59) rfl)) rfl
theorem wd_60 : Cond.instanceMethod yX2_init ∈ lw_g := wg_mem (wt1 (List.mem_of_getElem? (i := 60) rfl)) rfl
theorem wd_61 : Cond.code yX2_init prog_4_method_1_code 1 none ∈ lw_g := wg_mem (wt1 (List.mem_of_getElem? (i := 61) rfl)) rfl
theorem wd_62 : Cond.methodLink RX2 3 objectInit ∈ lw_g := wg_mem (wt1 (List.mem_of_getElem? (i := 62) rfl)) rfl
theorem wd_63 : Cond.fieldLink RX2 9 "InPlaceDelta$Delta" "kind" "[I" ∈ lw_g := wg_mem (wt1 (List.mem_of_getElem? (i := 63) rfl)) rfl
theorem wd_64 : Cond.fieldLink RX2 15 "InPlaceDelta$Delta" "source" "[I" ∈ lw_g := wg_mem (wt1 (List.mem_of_getElem? (i := 64) rfl)) rfl
theorem wd_65 : Cond.fieldLink RX2 18 "InPlaceDelta$Delta" "target" "[I" ∈ lw_g := wg_mem (wt1 (List.mem_of_getElem? (i := 65) rfl)) rfl
theorem wd_66 : Cond.fieldLink RX2 21 "InPlaceDelta$Delta" "length" "[I" ∈ lw_g := wg_mem (wt1 (List.mem_of_getElem? (i := 66) rfl)) rfl
theorem wd_67 : Cond.fieldLink RX2 24 "InPlaceDelta$Delta" "preceders" "[I" ∈ lw_g := wg_mem (wt1 (List.mem_of_getElem? (i := 67) rfl)) rfl
theorem wd_68 : Cond.fieldLink RX2 27 "InPlaceDelta$Delta" "added" "[I" ∈ lw_g := wg_mem (wt1 (List.mem_of_getElem? (i := 68) rfl)) rfl
theorem wd_72 : Cond.fieldLink RX2 63 "InPlaceDelta$Delta" "sourceLength" "I" ∈ lw_g := wg_mem (wt1 (List.mem_of_getElem? (i := 72) rfl)) rfl
theorem wd_76 : Cond.fieldLink RX2 66 "InPlaceDelta$Delta" "targetLength" "I" ∈ lw_g := wg_mem (wt1 (List.mem_of_getElem? (i := 76) rfl)) rfl
theorem wd_77 : Cond.fieldLink RX2 34 "InPlaceDelta$Delta" "count" "I" ∈ lw_g := wg_mem (wt1 (List.mem_of_getElem? (i := 77) rfl)) rfl
theorem wd_83 : Cond.fieldLink RX2 37 "InPlaceDelta$Delta" "copySet" "I" ∈ lw_g := wg_mem (wt1 (List.mem_of_getElem? (i := 83) rfl)) rfl
theorem wd_85 : Cond.fieldLink RX2 30 "InPlaceDelta$Delta" "knownLeast" "I" ∈ lw_g := wg_mem (wt1 (List.mem_of_getElem? (i := 85) rfl)) rfl
theorem wd_109 : Cond.classLink RX8 30 RX7 ∈ lw_g := wg_mem (wt1 (List.mem_of_getElem? (i := 109) rfl)) rfl
theorem wd_110 : Cond.instantiable RX7 5 ∈ lw_g := wg_mem (wt1 (List.mem_of_getElem? (i := 110) rfl)) rfl
theorem wd_111 : Cond.methodLink RX8 32 yX7_init ∈ lw_g := wg_mem (wt1 (List.mem_of_getElem? (i := 111) rfl)) rfl
theorem wd_112 : Cond.instanceMethod yX7_init ∈ lw_g := wg_mem (wt1 (List.mem_of_getElem? (i := 112) rfl)) rfl
theorem wd_113 : Cond.code yX7_init prog_9_method_1_code 1 none ∈ lw_g := wg_mem (wt1 (List.mem_of_getElem? (i := 113) rfl)) rfl
theorem wd_114 : Cond.methodLink RX7 3 objectInit ∈ lw_g := wg_mem (wt1 (List.mem_of_getElem? (i := 114) rfl)) rfl
theorem wd_115 : Cond.fieldLink RX7 9 "InPlaceDelta$Plan" "order" "[I" ∈ lw_g := wg_mem (wt1 (List.mem_of_getElem? (i := 115) rfl)) rfl
theorem wd_117 : Cond.fieldLink RX7 35 "InPlaceDelta$Plan" "there" "Z" ∈ lw_g := wg_mem (wt1 (List.mem_of_getElem? (i := 117) rfl)) rfl
theorem wd_119 : Cond.fieldLink RX7 15 "InPlaceDelta$Plan" "count" "I" ∈ lw_g := wg_mem (wt1 (List.mem_of_getElem? (i := 119) rfl)) rfl
theorem wd_122 : Cond.fieldLink RX7 28 "InPlaceDelta$Plan" "convertedSet" "I" ∈ lw_g := wg_mem (wt1 (List.mem_of_getElem? (i := 122) rfl)) rfl
theorem wd_124 : Cond.fieldLink RX7 39 "InPlaceDelta$Plan" "lostLength" "I" ∈ lw_g := wg_mem (wt1 (List.mem_of_getElem? (i := 124) rfl)) rfl
theorem wd_137 : Cond.classLink RX8 40 RX9 ∈ lw_g := wg_mem (wt1 (List.mem_of_getElem? (i := 137) rfl)) rfl
theorem wd_138 : Cond.instantiable RX9 3 ∈ lw_g := wg_mem (wt1 (List.mem_of_getElem? (i := 138) rfl)) rfl
theorem wd_139 : Cond.methodLink RX8 42 yX9_init ∈ lw_g := wg_mem (wt1 (List.mem_of_getElem? (i := 139) rfl)) rfl
theorem wd_140 : Cond.instanceMethod yX9_init ∈ lw_g := wg_mem (wt1 (List.mem_of_getElem? (i := 140) rfl)) rfl
theorem wd_141 : Cond.code yX9_init prog_11_method_1_code 1 none ∈ lw_g := wg_mem (wt1 (List.mem_of_getElem? (i := 141) rfl)) rfl
theorem wd_142 : Cond.methodLink RX9 3 objectInit ∈ lw_g := wg_mem (wt1 (List.mem_of_getElem? (i := 142) rfl)) rfl
theorem wd_143 : Cond.classLink RX9 9 RX0 ∈ lw_g := wg_mem (wt1 (List.mem_of_getElem? (i := 143) rfl)) rfl
theorem wd_144 : Cond.methodLink RX9 11 yX0_init ∈ lw_g := wg_mem (wt1 (List.mem_of_getElem? (i := 144) rfl)) rfl
theorem wd_145 : Cond.fieldLink RX9 14 "InPlaceDelta$Work" "bytes" "LInPlaceDelta$Bytes;" ∈ lw_g := wg_mem (wt1 (List.mem_of_getElem? (i := 145) rfl)) rfl
theorem wd_147 : Cond.fieldLink RX9 20 "InPlaceDelta$Work" "there" "Z" ∈ lw_g := wg_mem (wt1 (List.mem_of_getElem? (i := 147) rfl)) rfl
theorem wd_150 : Cond.fieldLink RX9 36 "InPlaceDelta$Work" "left" "I" ∈ lw_g := wg_mem (wt1 (List.mem_of_getElem? (i := 150) rfl)) rfl
theorem wd_159 : Cond.fieldLink RX8 14 "InPlaceDelta$State" "oldVersion" "LInPlaceDelta$Bytes;" ∈ lw_g := wg_mem (wt1 (List.mem_of_getElem? (i := 159) rfl)) rfl
theorem wd_162 : Cond.fieldLink RX8 20 "InPlaceDelta$State" "newVersion" "LInPlaceDelta$Bytes;" ∈ lw_g := wg_mem (wt1 (List.mem_of_getElem? (i := 162) rfl)) rfl
theorem wd_164 : Cond.fieldLink RX8 26 "InPlaceDelta$State" "delta" "LInPlaceDelta$Delta;" ∈ lw_g := wg_mem (wt1 (List.mem_of_getElem? (i := 164) rfl)) rfl
theorem wd_168 : Cond.fieldLink RX8 33 "InPlaceDelta$State" "plan" "LInPlaceDelta$Plan;" ∈ lw_g := wg_mem (wt1 (List.mem_of_getElem? (i := 168) rfl)) rfl
theorem wd_172 : Cond.fieldLink RX8 37 "InPlaceDelta$State" "code" "LInPlaceDelta$Bytes;" ∈ lw_g := wg_mem (wt1 (List.mem_of_getElem? (i := 172) rfl)) rfl
theorem wd_175 : Cond.fieldLink RX8 43 "InPlaceDelta$State" "work" "LInPlaceDelta$Work;" ∈ lw_g := wg_mem (wt1 (List.mem_of_getElem? (i := 175) rfl)) rfl
theorem wd_190 : Cond.classLink RX10 16 RX4 ∈ lw_g := wg_mem (wt1 (List.mem_of_getElem? (i := 190) rfl)) rfl
theorem wd_191 : Cond.instantiable RX4 3 ∈ lw_g := wg_mem (wt1 (List.mem_of_getElem? (i := 191) rfl)) rfl
theorem wd_192 : Cond.methodLink RX10 18 yX4_init ∈ lw_g := wg_mem (wt1 (List.mem_of_getElem? (i := 192) rfl)) rfl
theorem wd_193 : Cond.instanceMethod yX4_init ∈ lw_g := wg_mem (wt1 (List.mem_of_getElem? (i := 193) rfl)) rfl
theorem wd_194 : Cond.code yX4_init prog_6_method_1_code 2 none ∈ lw_g := wg_mem (wt1 (List.mem_of_getElem? (i := 194) rfl)) rfl
theorem wd_195 : Cond.methodLink RX4 3 objectInit ∈ lw_g := wg_mem (wt1 (List.mem_of_getElem? (i := 195) rfl)) rfl
theorem wd_196 : Cond.classLink RX4 9 RX8 ∈ lw_g := wg_mem (wt1 (List.mem_of_getElem? (i := 196) rfl)) rfl
theorem wd_198 : Cond.methodLink RX4 17 yX8_init ∈ lw_g := wg_mem (wt1 (List.mem_of_getElem? (i := 198) rfl)) rfl
theorem wd_199 : Cond.fieldLink RX4 11 "InPlaceDelta$History" "saved" "[LInPlaceDelta$State;" ∈ lw_g := wg_mem (wt1 (List.mem_of_getElem? (i := 199) rfl)) rfl
theorem wd_200 : Cond.fieldLink RX4 18 "InPlaceDelta$History" "next" "I" ∈ lw_g := wg_mem (wt1 (List.mem_of_getElem? (i := 200) rfl)) rfl
theorem wd_201 : Cond.fieldLink RX4 26 "InPlaceDelta$History" "count" "I" ∈ lw_g := wg_mem (wt1 (List.mem_of_getElem? (i := 201) rfl)) rfl
theorem wd_210 : Cond.classLink RX10 23 RX1 ∈ lw_g := wg_mem (wt1 (List.mem_of_getElem? (i := 210) rfl)) rfl
theorem wd_211 : Cond.instantiable RX1 4 ∈ lw_g := wg_mem (wt1 (List.mem_of_getElem? (i := 211) rfl)) rfl
theorem wd_212 : Cond.methodLink RX10 25 yX1_init ∈ lw_g := wg_mem (wt1 (List.mem_of_getElem? (i := 212) rfl)) rfl
theorem wd_213 : Cond.instanceMethod yX1_init ∈ lw_g := wg_mem (wt1 (List.mem_of_getElem? (i := 213) rfl)) rfl
theorem wd_214 : Cond.code yX1_init prog_3_method_1_code 1 none ∈ lw_g := wg_mem (wt1 (List.mem_of_getElem? (i := 214) rfl)) rfl
theorem wd_215 : Cond.methodLink RX1 3 objectInit ∈ lw_g := wg_mem (wt1 (List.mem_of_getElem? (i := 215) rfl)) rfl
theorem wd_216 : Cond.classLink RX1 9 RX2 ∈ lw_g := wg_mem (wt1 (List.mem_of_getElem? (i := 216) rfl)) rfl
theorem wd_217 : Cond.methodLink RX1 11 yX2_init ∈ lw_g := wg_mem (wt1 (List.mem_of_getElem? (i := 217) rfl)) rfl
theorem wd_218 : Cond.fieldLink RX1 12 "InPlaceDelta$Decoder" "delta" "LInPlaceDelta$Delta;" ∈ lw_g := wg_mem (wt1 (List.mem_of_getElem? (i := 218) rfl)) rfl
theorem wd_220 : Cond.fieldLink RX1 18 "InPlaceDelta$Decoder" "cursor" "I" ∈ lw_g := wg_mem (wt1 (List.mem_of_getElem? (i := 220) rfl)) rfl
theorem wd_221 : Cond.fieldLink RX1 22 "InPlaceDelta$Decoder" "sum" "I" ∈ lw_g := wg_mem (wt1 (List.mem_of_getElem? (i := 221) rfl)) rfl
theorem wd_222 : Cond.fieldLink RX1 25 "InPlaceDelta$Decoder" "fault" "I" ∈ lw_g := wg_mem (wt1 (List.mem_of_getElem? (i := 222) rfl)) rfl
theorem wd_232 : Cond.fieldLink RX10 10 "InPlaceDelta" "now" "LInPlaceDelta$State;" ∈ lw_g := wg_mem (wt1 (List.mem_of_getElem? (i := 232) rfl)) rfl
theorem wd_233 : Cond.fieldLink RX10 19 "InPlaceDelta" "history" "LInPlaceDelta$History;" ∈ lw_g := wg_mem (wt1 (List.mem_of_getElem? (i := 233) rfl)) rfl
theorem wd_234 : Cond.fieldLink RX10 26 "InPlaceDelta" "decoder" "LInPlaceDelta$Decoder;" ∈ lw_g := wg_mem (wt1 (List.mem_of_getElem? (i := 234) rfl)) rfl
theorem wd_242 : Cond.methodLink RL 98 yX10_make ∈ lw_g := wg_mem (wt2 (List.mem_of_getElem? (i := 2) rfl)) rfl
theorem wd_243 : Cond.instanceMethod yX10_make ∈ lw_g := wg_mem (wt2 (List.mem_of_getElem? (i := 3) rfl)) rfl
theorem wd_244 : Cond.selects RX10 yX10_make yX10_make ∈ lw_g := wg_mem (wt2 (List.mem_of_getElem? (i := 4) rfl)) rfl
theorem wd_245 : Cond.code yX10_make prog_1_method_6_code 1 (some FieldType.int) ∈ lw_g := wg_mem (wt2 (List.mem_of_getElem? (i := 5) rfl)) rfl
theorem wd_246 : Cond.methodLink RX10 54 yX4_save ∈ lw_g := wg_mem (wt2 (List.mem_of_getElem? (i := 6) rfl)) rfl
theorem wd_247 : Cond.instanceMethod yX4_save ∈ lw_g := wg_mem (wt2 (List.mem_of_getElem? (i := 7) rfl)) rfl
theorem wd_248 : Cond.selects RX4 yX4_save yX4_save ∈ lw_g := wg_mem (wt2 (List.mem_of_getElem? (i := 8) rfl)) rfl
theorem wd_249 : Cond.code yX4_save prog_6_method_2_code 2 none ∈ lw_g := wg_mem (wt2 (List.mem_of_getElem? (i := 9) rfl)) rfl
theorem wd_250 : Cond.methodLink RX4 22 yX8_take ∈ lw_g := wg_mem (wt2 (List.mem_of_getElem? (i := 10) rfl)) rfl
theorem wd_251 : Cond.instanceMethod yX8_take ∈ lw_g := wg_mem (wt2 (List.mem_of_getElem? (i := 11) rfl)) rfl
theorem wd_252 : Cond.selects RX8 yX8_take yX8_take ∈ lw_g := wg_mem (wt2 (List.mem_of_getElem? (i := 12) rfl)) rfl
theorem wd_253 : Cond.code yX8_take prog_10_method_5_code 2 none ∈ lw_g := wg_mem (wt2 (List.mem_of_getElem? (i := 13) rfl)) rfl
theorem wd_254 : Cond.methodLink RX8 69 yX0_take ∈ lw_g := wg_mem (wt2 (List.mem_of_getElem? (i := 14) rfl)) rfl
theorem wd_255 : Cond.instanceMethod yX0_take ∈ lw_g := wg_mem (wt2 (List.mem_of_getElem? (i := 15) rfl)) rfl
theorem wd_256 : Cond.selects RX0 yX0_take yX0_take ∈ lw_g := wg_mem (wt2 (List.mem_of_getElem? (i := 16) rfl)) rfl
theorem wd_257 : Cond.code yX0_take prog_2_method_10_code 2 none ∈ lw_g := wg_mem (wt2 (List.mem_of_getElem? (i := 17) rfl)) rfl
theorem wd_258 : Cond.methodLink RX0 37 Lib.Math.min.name ∈ lw_g := wg_mem (wt2 (List.mem_of_getElem? (i := 18) rfl)) rfl
theorem wd_259 : Cond.static Lib.Math.min.name ∈ lw_g := wg_mem (wt2 (List.mem_of_getElem? (i := 19) rfl)) rfl
theorem wd_260 : Cond.code Lib.Math.min.name prog_19_method_69_code 2 (some FieldType.int) ∈ lw_g := wg_mem (wt2 (List.mem_of_getElem? (i := 20) rfl)) rfl
theorem wd_261 : Cond.methodLink RX0 40 arraycopyName ∈ lw_g := wg_mem (wt2 (List.mem_of_getElem? (i := 21) rfl)) rfl
theorem wd_262 : Cond.static arraycopyName ∈ lw_g := wg_mem (wt2 (List.mem_of_getElem? (i := 22) rfl)) rfl
theorem wd_263 : Cond.native arraycopyName ∈ lw_g := wg_mem (wt2 (List.mem_of_getElem? (i := 23) rfl)) rfl
theorem wd_264 : Cond.methodLink RX8 73 yX2_take ∈ lw_g := wg_mem (wt2 (List.mem_of_getElem? (i := 24) rfl)) rfl
theorem wd_265 : Cond.instanceMethod yX2_take ∈ lw_g := wg_mem (wt2 (List.mem_of_getElem? (i := 25) rfl)) rfl
theorem wd_266 : Cond.selects RX2 yX2_take yX2_take ∈ lw_g := wg_mem (wt2 (List.mem_of_getElem? (i := 26) rfl)) rfl
theorem wd_267 : Cond.code yX2_take prog_4_method_19_code 2 none ∈ lw_g := wg_mem (wt2 (List.mem_of_getElem? (i := 27) rfl)) rfl
theorem wd_268 : Cond.methodLink RX2 93 arraycopyName ∈ lw_g := wg_mem (wt2 (List.mem_of_getElem? (i := 28) rfl)) rfl
theorem wd_269 : Cond.methodLink RX8 76 yX7_take ∈ lw_g := wg_mem (wt2 (List.mem_of_getElem? (i := 29) rfl)) rfl
theorem wd_270 : Cond.instanceMethod yX7_take ∈ lw_g := wg_mem (wt2 (List.mem_of_getElem? (i := 30) rfl)) rfl
theorem wd_271 : Cond.selects RX7 yX7_take yX7_take ∈ lw_g := wg_mem (wt2 (List.mem_of_getElem? (i := 31) rfl)) rfl
theorem wd_272 : Cond.code yX7_take prog_9_method_11_code 2 none ∈ lw_g := wg_mem (wt2 (List.mem_of_getElem? (i := 32) rfl)) rfl
theorem wd_273 : Cond.methodLink RX7 88 arraycopyName ∈ lw_g := wg_mem (wt2 (List.mem_of_getElem? (i := 33) rfl)) rfl
theorem wd_274 : Cond.methodLink RX8 79 yX9_take ∈ lw_g := wg_mem (wt2 (List.mem_of_getElem? (i := 34) rfl)) rfl
theorem wd_275 : Cond.instanceMethod yX9_take ∈ lw_g := wg_mem (wt2 (List.mem_of_getElem? (i := 35) rfl)) rfl
theorem wd_276 : Cond.selects RX9 yX9_take yX9_take ∈ lw_g := wg_mem (wt2 (List.mem_of_getElem? (i := 36) rfl)) rfl
theorem wd_277 : Cond.code yX9_take prog_11_method_5_code 2 none ∈ lw_g := wg_mem (wt2 (List.mem_of_getElem? (i := 37) rfl)) rfl
theorem wd_278 : Cond.methodLink RX9 42 yX0_take ∈ lw_g := wg_mem (wt2 (List.mem_of_getElem? (i := 38) rfl)) rfl
theorem wd_279 : Cond.methodLink RX4 29 Lib.Math.min.name ∈ lw_g := wg_mem (wt2 (List.mem_of_getElem? (i := 39) rfl)) rfl
theorem wd_280 : Cond.methodLink RX10 58 yX8_dropPlan ∈ lw_g := wg_mem (wt2 (List.mem_of_getElem? (i := 40) rfl)) rfl
theorem wd_281 : Cond.instanceMethod yX8_dropPlan ∈ lw_g := wg_mem (wt2 (List.mem_of_getElem? (i := 41) rfl)) rfl
theorem wd_282 : Cond.selects RX8 yX8_dropPlan yX8_dropPlan ∈ lw_g := wg_mem (wt2 (List.mem_of_getElem? (i := 42) rfl)) rfl
theorem wd_283 : Cond.code yX8_dropPlan prog_10_method_3_code 1 none ∈ lw_g := wg_mem (wt2 (List.mem_of_getElem? (i := 43) rfl)) rfl
theorem wd_284 : Cond.methodLink RX10 98 yX6_fill ∈ lw_g := wg_mem (wt2 (List.mem_of_getElem? (i := 44) rfl)) rfl
theorem wd_285 : Cond.static yX6_fill ∈ lw_g := wg_mem (wt2 (List.mem_of_getElem? (i := 45) rfl)) rfl
theorem wd_286 : Cond.code yX6_fill prog_8_method_2_code 7 none ∈ lw_g := wg_mem (wt2 (List.mem_of_getElem? (i := 46) rfl)) rfl
theorem wd_287 : Cond.methodLink RX6 15 yX2_reset ∈ lw_g := wg_mem (wt2 (List.mem_of_getElem? (i := 47) rfl)) rfl
theorem wd_288 : Cond.instanceMethod yX2_reset ∈ lw_g := wg_mem (wt2 (List.mem_of_getElem? (i := 48) rfl)) rfl
theorem wd_289 : Cond.selects RX2 yX2_reset yX2_reset ∈ lw_g := wg_mem (wt2 (List.mem_of_getElem? (i := 49) rfl)) rfl
theorem wd_290 : Cond.code yX2_reset prog_4_method_11_code 3 none ∈ lw_g := wg_mem (wt2 (List.mem_of_getElem? (i := 50) rfl)) rfl
theorem wd_291 : Cond.methodLink RX6 21 yX2_mayCopy ∈ lw_g := wg_mem (wt2 (List.mem_of_getElem? (i := 51) rfl)) rfl
theorem wd_292 : Cond.instanceMethod yX2_mayCopy ∈ lw_g := wg_mem (wt2 (List.mem_of_getElem? (i := 52) rfl)) rfl
theorem wd_293 : Cond.selects RX2 yX2_mayCopy yX2_mayCopy ∈ lw_g := wg_mem (wt2 (List.mem_of_getElem? (i := 53) rfl)) rfl
theorem wd_294 : Cond.code yX2_mayCopy prog_4_method_4_code 1 (some FieldType.boolean) ∈ lw_g := wg_mem (wt2 (List.mem_of_getElem? (i := 54) rfl)) rfl
theorem wd_295 : Cond.methodLink RX2 44 yJ6_bitCount_0f7a4 ∈ lw_g := wg_mem (wt2 (List.mem_of_getElem? (i := 55) rfl)) rfl
theorem wd_296 : Cond.static yJ6_bitCount_0f7a4 ∈ lw_g := wg_mem (wt2 (List.mem_of_getElem? (i := 56) rfl)) rfl
theorem wd_297 : Cond.code yJ6_bitCount_0f7a4 prog_18_method_49_code 1 (some FieldType.int) ∈ lw_g := wg_mem (wt2 (List.mem_of_getElem? (i := 57) rfl)) rfl
theorem wd_298 : Cond.constant RJ6 265 (1431655765) ∈ lw_g := wg_mem (wt2 (List.mem_of_getElem? (i := 58) rfl)) rfl
theorem wd_299 : Cond.constant RJ6 266 (858993459) ∈ lw_g := wg_mem (wt2 (List.mem_of_getElem? (i := 59) rfl)) rfl
theorem wd_300 : Cond.constant RJ6 267 (252645135) ∈ lw_g := wg_mem (wt2 (List.mem_of_getElem? (i := 60) rfl)) rfl
theorem wd_301 : Cond.methodLink RX6 25 yX6_longestMatch ∈ lw_g := wg_mem (wt2 (List.mem_of_getElem? (i := 61) rfl)) rfl
theorem wd_302 : Cond.static yX6_longestMatch ∈ lw_g := wg_mem (wt2 (List.mem_of_getElem? (i := 62) rfl)) rfl
theorem wd_303 : Cond.code yX6_longestMatch prog_8_method_3_code 7 (some FieldType.int) ∈ lw_g := wg_mem (wt2 (List.mem_of_getElem? (i := 63) rfl)) rfl
theorem wd_304 : Cond.methodLink RX6 31 yX0_common ∈ lw_g := wg_mem (wt2 (List.mem_of_getElem? (i := 64) rfl)) rfl
theorem wd_305 : Cond.instanceMethod yX0_common ∈ lw_g := wg_mem (wt2 (List.mem_of_getElem? (i := 65) rfl)) rfl
theorem wd_306 : Cond.selects RX0 yX0_common yX0_common ∈ lw_g := wg_mem (wt2 (List.mem_of_getElem? (i := 66) rfl)) rfl
theorem wd_307 : Cond.code yX0_common prog_2_method_11_code 6 (some FieldType.int) ∈ lw_g := wg_mem (wt2 (List.mem_of_getElem? (i := 67) rfl)) rfl
theorem wd_308 : Cond.methodLink RX0 29 yX0_at ∈ lw_g := wg_mem (wt2 (List.mem_of_getElem? (i := 68) rfl)) rfl
theorem wd_309 : Cond.instanceMethod yX0_at ∈ lw_g := wg_mem (wt2 (List.mem_of_getElem? (i := 69) rfl)) rfl
theorem wd_310 : Cond.selects RX0 yX0_at yX0_at ∈ lw_g := wg_mem (wt2 (List.mem_of_getElem? (i := 70) rfl)) rfl
theorem wd_311 : Cond.code yX0_at prog_2_method_4_code 2 (some FieldType.int) ∈ lw_g := wg_mem (wt2 (List.mem_of_getElem? (i := 71) rfl)) rfl
theorem wd_312 : Cond.methodLink RX0 25 yX0_has ∈ lw_g := wg_mem (wt2 (List.mem_of_getElem? (i := 72) rfl)) rfl
theorem wd_313 : Cond.instanceMethod yX0_has ∈ lw_g := wg_mem (wt2 (List.mem_of_getElem? (i := 73) rfl)) rfl
theorem wd_314 : Cond.selects RX0 yX0_has yX0_has ∈ lw_g := wg_mem (wt2 (List.mem_of_getElem? (i := 74) rfl)) rfl
theorem wd_315 : Cond.code yX0_has prog_2_method_3_code 2 (some FieldType.boolean) ∈ lw_g := wg_mem (wt2 (List.mem_of_getElem? (i := 75) rfl)) rfl
theorem wd_316 : Cond.methodLink RX6 35 yX6_pushPending ∈ lw_g := wg_mem (wt2 (List.mem_of_getElem? (i := 76) rfl)) rfl
theorem wd_317 : Cond.static yX6_pushPending ∈ lw_g := wg_mem (wt2 (List.mem_of_getElem? (i := 77) rfl)) rfl
theorem wd_318 : Cond.code yX6_pushPending prog_8_method_4_code 5 none ∈ lw_g := wg_mem (wt2 (List.mem_of_getElem? (i := 78) rfl)) rfl
theorem wd_319 : Cond.methodLink RX6 39 yX2_push ∈ lw_g := wg_mem (wt2 (List.mem_of_getElem? (i := 79) rfl)) rfl
theorem wd_320 : Cond.instanceMethod yX2_push ∈ lw_g := wg_mem (wt2 (List.mem_of_getElem? (i := 80) rfl)) rfl
theorem wd_321 : Cond.selects RX2 yX2_push yX2_push ∈ lw_g := wg_mem (wt2 (List.mem_of_getElem? (i := 81) rfl)) rfl
theorem wd_322 : Cond.code yX2_push prog_4_method_12_code 5 none ∈ lw_g := wg_mem (wt2 (List.mem_of_getElem? (i := 82) rfl)) rfl
theorem wd_323 : Cond.methodLink RX2 69 yX2_linkCopy ∈ lw_g := wg_mem (wt2 (List.mem_of_getElem? (i := 83) rfl)) rfl
theorem wd_325 : Cond.instanceMethod yX2_linkCopy ∈ lw_g := wg_mem (wt2 (List.mem_of_getElem? (i := 85) rfl)) rfl
theorem wd_326 : Cond.code yX2_linkCopy prog_4_method_13_code 3 none ∈ lw_g := wg_mem (wt2 (List.mem_of_getElem? (i := 86) rfl)) rfl
theorem wd_327 : Cond.methodLink RX2 73 yX2_isCopy ∈ lw_g := wg_mem (wt2 (List.mem_of_getElem? (i := 87) rfl)) rfl
theorem wd_328 : Cond.instanceMethod yX2_isCopy ∈ lw_g := wg_mem (wt2 (List.mem_of_getElem? (i := 88) rfl)) rfl
theorem wd_329 : Cond.selects RX2 yX2_isCopy yX2_isCopy ∈ lw_g := wg_mem (wt2 (List.mem_of_getElem? (i := 89) rfl)) rfl
theorem wd_330 : Cond.code yX2_isCopy prog_4_method_3_code 2 (some FieldType.boolean) ∈ lw_g := wg_mem (wt2 (List.mem_of_getElem? (i := 90) rfl)) rfl
theorem wd_332 : Cond.static yX10_isIn ∈ lw_g := wg_mem (wt2 (List.mem_of_getElem? (i := 92) rfl)) rfl
theorem wd_333 : Cond.code yX10_isIn prog_1_method_35_code 2 (some FieldType.boolean) ∈ lw_g := wg_mem (wt2 (List.mem_of_getElem? (i := 93) rfl)) rfl
theorem wd_334 : Cond.methodLink RX2 76 yX2_linkPair ∈ lw_g := wg_mem (wt2 (List.mem_of_getElem? (i := 94) rfl)) rfl
theorem wd_336 : Cond.instanceMethod yX2_linkPair ∈ lw_g := wg_mem (wt2 (List.mem_of_getElem? (i := 96) rfl)) rfl
theorem wd_337 : Cond.code yX2_linkPair prog_4_method_14_code 3 none ∈ lw_g := wg_mem (wt2 (List.mem_of_getElem? (i := 97) rfl)) rfl
theorem wd_338 : Cond.methodLink RX2 54 yX2_sourceOf ∈ lw_g := wg_mem (wt2 (List.mem_of_getElem? (i := 98) rfl)) rfl
theorem wd_339 : Cond.instanceMethod yX2_sourceOf ∈ lw_g := wg_mem (wt2 (List.mem_of_getElem? (i := 99) rfl)) rfl
theorem wd_340 : Cond.selects RX2 yX2_sourceOf yX2_sourceOf ∈ lw_g := wg_mem (wt2 (List.mem_of_getElem? (i := 100) rfl)) rfl
theorem wd_341 : Cond.code yX2_sourceOf prog_4_method_5_code 2 (some FieldType.int) ∈ lw_g := wg_mem (wt2 (List.mem_of_getElem? (i := 101) rfl)) rfl
theorem wd_342 : Cond.methodLink RX2 50 yX2_has ∈ lw_g := wg_mem (wt2 (List.mem_of_getElem? (i := 102) rfl)) rfl
theorem wd_343 : Cond.instanceMethod yX2_has ∈ lw_g := wg_mem (wt2 (List.mem_of_getElem? (i := 103) rfl)) rfl
theorem wd_344 : Cond.selects RX2 yX2_has yX2_has ∈ lw_g := wg_mem (wt2 (List.mem_of_getElem? (i := 104) rfl)) rfl
theorem wd_345 : Cond.code yX2_has prog_4_method_2_code 2 (some FieldType.boolean) ∈ lw_g := wg_mem (wt2 (List.mem_of_getElem? (i := 105) rfl)) rfl
theorem wd_346 : Cond.methodLink RX2 60 yX2_lengthOf ∈ lw_g := wg_mem (wt2 (List.mem_of_getElem? (i := 106) rfl)) rfl
theorem wd_347 : Cond.instanceMethod yX2_lengthOf ∈ lw_g := wg_mem (wt2 (List.mem_of_getElem? (i := 107) rfl)) rfl
theorem wd_348 : Cond.selects RX2 yX2_lengthOf yX2_lengthOf ∈ lw_g := wg_mem (wt2 (List.mem_of_getElem? (i := 108) rfl)) rfl
theorem wd_349 : Cond.code yX2_lengthOf prog_4_method_7_code 2 (some FieldType.int) ∈ lw_g := wg_mem (wt2 (List.mem_of_getElem? (i := 109) rfl)) rfl
theorem wd_350 : Cond.methodLink RX2 57 yX2_targetOf ∈ lw_g := wg_mem (wt2 (List.mem_of_getElem? (i := 110) rfl)) rfl
theorem wd_351 : Cond.instanceMethod yX2_targetOf ∈ lw_g := wg_mem (wt2 (List.mem_of_getElem? (i := 111) rfl)) rfl
theorem wd_352 : Cond.selects RX2 yX2_targetOf yX2_targetOf ∈ lw_g := wg_mem (wt2 (List.mem_of_getElem? (i := 112) rfl)) rfl
theorem wd_353 : Cond.code yX2_targetOf prog_4_method_6_code 2 (some FieldType.int) ∈ lw_g := wg_mem (wt2 (List.mem_of_getElem? (i := 113) rfl)) rfl
theorem wd_355 : Cond.static yX10_overlap ∈ lw_g := wg_mem (wt2 (List.mem_of_getElem? (i := 115) rfl)) rfl
theorem wd_356 : Cond.code yX10_overlap prog_1_method_34_code 4 (some FieldType.boolean) ∈ lw_g := wg_mem (wt2 (List.mem_of_getElem? (i := 116) rfl)) rfl
theorem wd_357 : Cond.methodLink RX6 49 yX0_at ∈ lw_g := wg_mem (wt2 (List.mem_of_getElem? (i := 117) rfl)) rfl
theorem wd_358 : Cond.methodLink RX6 53 yX2_putAdded ∈ lw_g := wg_mem (wt2 (List.mem_of_getElem? (i := 118) rfl)) rfl
theorem wd_359 : Cond.instanceMethod yX2_putAdded ∈ lw_g := wg_mem (wt2 (List.mem_of_getElem? (i := 119) rfl)) rfl
theorem wd_360 : Cond.selects RX2 yX2_putAdded yX2_putAdded ∈ lw_g := wg_mem (wt2 (List.mem_of_getElem? (i := 120) rfl)) rfl
theorem wd_361 : Cond.code yX2_putAdded prog_4_method_15_code 3 none ∈ lw_g := wg_mem (wt2 (List.mem_of_getElem? (i := 121) rfl)) rfl
theorem wd_362 : Cond.methodLink RX6 43 Lib.Math.max.name ∈ lw_g := wg_mem (wt2 (List.mem_of_getElem? (i := 122) rfl)) rfl
theorem wd_363 : Cond.methodLink RL 102 yX10_commands ∈ lw_g := wg_mem (wt2 (List.mem_of_getElem? (i := 123) rfl)) rfl
theorem wd_364 : Cond.instanceMethod yX10_commands ∈ lw_g := wg_mem (wt2 (List.mem_of_getElem? (i := 124) rfl)) rfl
theorem wd_365 : Cond.selects RX10 yX10_commands yX10_commands ∈ lw_g := wg_mem (wt2 (List.mem_of_getElem? (i := 125) rfl)) rfl
theorem wd_366 : Cond.code yX10_commands prog_1_method_7_code 1 (some FieldType.int) ∈ lw_g := wg_mem (wt2 (List.mem_of_getElem? (i := 126) rfl)) rfl
theorem wd_367 : Cond.methodLink RL 125 yX10_leastLoss ∈ lw_g := wg_mem (wt2 (List.mem_of_getElem? (i := 127) rfl)) rfl
theorem wd_368 : Cond.instanceMethod yX10_leastLoss ∈ lw_g := wg_mem (wt2 (List.mem_of_getElem? (i := 128) rfl)) rfl
theorem wd_369 : Cond.selects RX10 yX10_leastLoss yX10_leastLoss ∈ lw_g := wg_mem (wt2 (List.mem_of_getElem? (i := 129) rfl)) rfl
theorem wd_370 : Cond.code yX10_leastLoss prog_1_method_14_code 1 (some FieldType.int) ∈ lw_g := wg_mem (wt2 (List.mem_of_getElem? (i := 130) rfl)) rfl
theorem wd_371 : Cond.methodLink RX10 157 yX2_least ∈ lw_g := wg_mem (wt2 (List.mem_of_getElem? (i := 131) rfl)) rfl
theorem wd_372 : Cond.instanceMethod yX2_least ∈ lw_g := wg_mem (wt2 (List.mem_of_getElem? (i := 132) rfl)) rfl
theorem wd_373 : Cond.selects RX2 yX2_least yX2_least ∈ lw_g := wg_mem (wt2 (List.mem_of_getElem? (i := 133) rfl)) rfl
theorem wd_374 : Cond.code yX2_least prog_4_method_18_code 1 (some FieldType.int) ∈ lw_g := wg_mem (wt2 (List.mem_of_getElem? (i := 134) rfl)) rfl
theorem wd_375 : Cond.methodLink RX2 87 yX5_of ∈ lw_g := wg_mem (wt2 (List.mem_of_getElem? (i := 135) rfl)) rfl
theorem wd_376 : Cond.static yX5_of ∈ lw_g := wg_mem (wt2 (List.mem_of_getElem? (i := 136) rfl)) rfl
theorem wd_377 : Cond.code yX5_of prog_7_method_2_code 4 (some FieldType.int) ∈ lw_g := wg_mem (wt2 (List.mem_of_getElem? (i := 137) rfl)) rfl
theorem wd_378 : Cond.methodLink RX5 15 yX5_cyclicPart ∈ lw_g := wg_mem (wt2 (List.mem_of_getElem? (i := 138) rfl)) rfl
theorem wd_379 : Cond.static yX5_cyclicPart ∈ lw_g := wg_mem (wt2 (List.mem_of_getElem? (i := 139) rfl)) rfl
theorem wd_380 : Cond.code yX5_cyclicPart prog_7_method_3_code 5 (some FieldType.int) ∈ lw_g := wg_mem (wt2 (List.mem_of_getElem? (i := 140) rfl)) rfl
theorem wd_381 : Cond.methodLink RX5 40 yX2_firstFree ∈ lw_g := wg_mem (wt2 (List.mem_of_getElem? (i := 141) rfl)) rfl
theorem wd_382 : Cond.instanceMethod yX2_firstFree ∈ lw_g := wg_mem (wt2 (List.mem_of_getElem? (i := 142) rfl)) rfl
theorem wd_383 : Cond.selects RX2 yX2_firstFree yX2_firstFree ∈ lw_g := wg_mem (wt2 (List.mem_of_getElem? (i := 143) rfl)) rfl
theorem wd_384 : Cond.code yX2_firstFree prog_4_method_17_code 3 (some FieldType.int) ∈ lw_g := wg_mem (wt2 (List.mem_of_getElem? (i := 144) rfl)) rfl
theorem wd_385 : Cond.methodLink RX2 84 yX2_precedersOf ∈ lw_g := wg_mem (wt2 (List.mem_of_getElem? (i := 145) rfl)) rfl
theorem wd_386 : Cond.instanceMethod yX2_precedersOf ∈ lw_g := wg_mem (wt2 (List.mem_of_getElem? (i := 146) rfl)) rfl
theorem wd_387 : Cond.selects RX2 yX2_precedersOf yX2_precedersOf ∈ lw_g := wg_mem (wt2 (List.mem_of_getElem? (i := 147) rfl)) rfl
theorem wd_388 : Cond.code yX2_precedersOf prog_4_method_8_code 2 (some FieldType.int) ∈ lw_g := wg_mem (wt2 (List.mem_of_getElem? (i := 148) rfl)) rfl
theorem wd_390 : Cond.static yX10_without ∈ lw_g := wg_mem (wt2 (List.mem_of_getElem? (i := 150) rfl)) rfl
theorem wd_391 : Cond.code yX10_without prog_1_method_36_code 2 (some FieldType.int) ∈ lw_g := wg_mem (wt2 (List.mem_of_getElem? (i := 151) rfl)) rfl
theorem wd_393 : Cond.methodLink RX5 28 yX2_lengthOf ∈ lw_g := wg_mem (wt2 (List.mem_of_getElem? (i := 153) rfl)) rfl
theorem wd_394 : Cond.methodLink RX5 32 yX5_nextOf ∈ lw_g := wg_mem (wt2 (List.mem_of_getElem? (i := 154) rfl)) rfl
theorem wd_395 : Cond.static yX5_nextOf ∈ lw_g := wg_mem (wt2 (List.mem_of_getElem? (i := 155) rfl)) rfl
theorem wd_396 : Cond.code yX5_nextOf prog_7_method_4_code 3 (some FieldType.int) ∈ lw_g := wg_mem (wt2 (List.mem_of_getElem? (i := 156) rfl)) rfl
theorem wd_397 : Cond.methodLink RX5 36 yX5_search ∈ lw_g := wg_mem (wt2 (List.mem_of_getElem? (i := 157) rfl)) rfl
theorem wd_398 : Cond.static yX5_search ∈ lw_g := wg_mem (wt2 (List.mem_of_getElem? (i := 158) rfl)) rfl
theorem wd_399 : Cond.code yX5_search prog_7_method_5_code 9 (some FieldType.int) ∈ lw_g := wg_mem (wt2 (List.mem_of_getElem? (i := 159) rfl)) rfl
theorem wd_400 : Cond.methodLink RL 135 yX10_clearCode ∈ lw_g := wg_mem (wt2 (List.mem_of_getElem? (i := 160) rfl)) rfl
theorem wd_401 : Cond.instanceMethod yX10_clearCode ∈ lw_g := wg_mem (wt2 (List.mem_of_getElem? (i := 161) rfl)) rfl
theorem wd_402 : Cond.selects RX10 yX10_clearCode yX10_clearCode ∈ lw_g := wg_mem (wt2 (List.mem_of_getElem? (i := 162) rfl)) rfl
theorem wd_403 : Cond.code yX10_clearCode prog_1_method_17_code 2 (some FieldType.int) ∈ lw_g := wg_mem (wt2 (List.mem_of_getElem? (i := 163) rfl)) rfl
theorem wd_404 : Cond.methodLink RX10 84 yX0_cut ∈ lw_g := wg_mem (wt2 (List.mem_of_getElem? (i := 164) rfl)) rfl
theorem wd_405 : Cond.instanceMethod yX0_cut ∈ lw_g := wg_mem (wt2 (List.mem_of_getElem? (i := 165) rfl)) rfl
theorem wd_406 : Cond.selects RX0 yX0_cut yX0_cut ∈ lw_g := wg_mem (wt2 (List.mem_of_getElem? (i := 166) rfl)) rfl
theorem wd_407 : Cond.code yX0_cut prog_2_method_8_code 2 none ∈ lw_g := wg_mem (wt2 (List.mem_of_getElem? (i := 167) rfl)) rfl
theorem wd_408 : Cond.methodLink RL 142 yX10_decode ∈ lw_g := wg_mem (wt2 (List.mem_of_getElem? (i := 168) rfl)) rfl
theorem wd_409 : Cond.instanceMethod yX10_decode ∈ lw_g := wg_mem (wt2 (List.mem_of_getElem? (i := 169) rfl)) rfl
theorem wd_410 : Cond.selects RX10 yX10_decode yX10_decode ∈ lw_g := wg_mem (wt2 (List.mem_of_getElem? (i := 170) rfl)) rfl
theorem wd_411 : Cond.code yX10_decode prog_1_method_19_code 2 (some FieldType.int) ∈ lw_g := wg_mem (wt2 (List.mem_of_getElem? (i := 171) rfl)) rfl
theorem wd_412 : Cond.methodLink RX10 182 yX1_read ∈ lw_g := wg_mem (wt2 (List.mem_of_getElem? (i := 172) rfl)) rfl
theorem wd_413 : Cond.instanceMethod yX1_read ∈ lw_g := wg_mem (wt2 (List.mem_of_getElem? (i := 173) rfl)) rfl
theorem wd_414 : Cond.selects RX1 yX1_read yX1_read ∈ lw_g := wg_mem (wt2 (List.mem_of_getElem? (i := 174) rfl)) rfl
theorem wd_415 : Cond.code yX1_read prog_3_method_2_code 6 (some FieldType.int) ∈ lw_g := wg_mem (wt2 (List.mem_of_getElem? (i := 175) rfl)) rfl
theorem wd_416 : Cond.methodLink RX1 28 yX1_next ∈ lw_g := wg_mem (wt2 (List.mem_of_getElem? (i := 176) rfl)) rfl
theorem wd_418 : Cond.instanceMethod yX1_next ∈ lw_g := wg_mem (wt2 (List.mem_of_getElem? (i := 178) rfl)) rfl
theorem wd_419 : Cond.code yX1_next prog_3_method_3_code 5 (some FieldType.int) ∈ lw_g := wg_mem (wt2 (List.mem_of_getElem? (i := 179) rfl)) rfl
theorem wd_420 : Cond.methodLink RX1 40 yX0_has ∈ lw_g := wg_mem (wt2 (List.mem_of_getElem? (i := 180) rfl)) rfl
theorem wd_421 : Cond.methodLink RX1 49 yX0_at ∈ lw_g := wg_mem (wt2 (List.mem_of_getElem? (i := 181) rfl)) rfl
theorem wd_422 : Cond.methodLink RX1 32 yX2_reset ∈ lw_g := wg_mem (wt2 (List.mem_of_getElem? (i := 182) rfl)) rfl
theorem wd_423 : Cond.methodLink RX1 36 yX1_readCommand ∈ lw_g := wg_mem (wt2 (List.mem_of_getElem? (i := 183) rfl)) rfl
theorem wd_425 : Cond.instanceMethod yX1_readCommand ∈ lw_g := wg_mem (wt2 (List.mem_of_getElem? (i := 185) rfl)) rfl
theorem wd_426 : Cond.code yX1_readCommand prog_3_method_4_code 7 none ∈ lw_g := wg_mem (wt2 (List.mem_of_getElem? (i := 186) rfl)) rfl
theorem wd_427 : Cond.methodLink RX1 53 yX2_mayCopy ∈ lw_g := wg_mem (wt2 (List.mem_of_getElem? (i := 187) rfl)) rfl
theorem wd_428 : Cond.methodLink RX1 57 yX1_rangeFault ∈ lw_g := wg_mem (wt2 (List.mem_of_getElem? (i := 188) rfl)) rfl
theorem wd_430 : Cond.instanceMethod yX1_rangeFault ∈ lw_g := wg_mem (wt2 (List.mem_of_getElem? (i := 190) rfl)) rfl
theorem wd_431 : Cond.code yX1_rangeFault prog_3_method_5_code 6 (some FieldType.int) ∈ lw_g := wg_mem (wt2 (List.mem_of_getElem? (i := 191) rfl)) rfl
theorem wd_432 : Cond.methodLink RX1 74 yX2_writesAnyOf ∈ lw_g := wg_mem (wt2 (List.mem_of_getElem? (i := 192) rfl)) rfl
theorem wd_433 : Cond.instanceMethod yX2_writesAnyOf ∈ lw_g := wg_mem (wt2 (List.mem_of_getElem? (i := 193) rfl)) rfl
theorem wd_434 : Cond.selects RX2 yX2_writesAnyOf yX2_writesAnyOf ∈ lw_g := wg_mem (wt2 (List.mem_of_getElem? (i := 194) rfl)) rfl
theorem wd_435 : Cond.code yX2_writesAnyOf prog_4_method_16_code 4 (some FieldType.boolean) ∈ lw_g := wg_mem (wt2 (List.mem_of_getElem? (i := 195) rfl)) rfl
theorem wd_436 : Cond.methodLink RX1 61 yX2_push ∈ lw_g := wg_mem (wt2 (List.mem_of_getElem? (i := 196) rfl)) rfl
theorem wd_437 : Cond.methodLink RX1 65 yX2_putAdded ∈ lw_g := wg_mem (wt2 (List.mem_of_getElem? (i := 197) rfl)) rfl
theorem wd_438 : Cond.methodLink RX10 187 yX2_take ∈ lw_g := wg_mem (wt2 (List.mem_of_getElem? (i := 198) rfl)) rfl
theorem wd_439 : Cond.methodLink RL 158 yX10_ratio ∈ lw_g := wg_mem (wt2 (List.mem_of_getElem? (i := 199) rfl)) rfl
theorem wd_440 : Cond.instanceMethod yX10_ratio ∈ lw_g := wg_mem (wt2 (List.mem_of_getElem? (i := 200) rfl)) rfl
theorem wd_441 : Cond.selects RX10 yX10_ratio yX10_ratio ∈ lw_g := wg_mem (wt2 (List.mem_of_getElem? (i := 201) rfl)) rfl
theorem wd_442 : Cond.code yX10_ratio prog_1_method_24_code 1 (some FieldType.double) ∈ lw_g := wg_mem (wt2 (List.mem_of_getElem? (i := 202) rfl)) rfl
theorem wd_443 : Cond.methodLink RL 166 yX10_digest ∈ lw_g := wg_mem (wt2 (List.mem_of_getElem? (i := 203) rfl)) rfl
theorem wd_444 : Cond.instanceMethod yX10_digest ∈ lw_g := wg_mem (wt2 (List.mem_of_getElem? (i := 204) rfl)) rfl
theorem wd_445 : Cond.selects RX10 yX10_digest yX10_digest ∈ lw_g := wg_mem (wt2 (List.mem_of_getElem? (i := 205) rfl)) rfl
theorem wd_446 : Cond.code yX10_digest prog_1_method_26_code 3 (some FieldType.long) ∈ lw_g := wg_mem (wt2 (List.mem_of_getElem? (i := 206) rfl)) rfl
theorem wd_447 : Cond.constantLong RX10 224 (2777) ∈ lw_g := wg_mem (wt2 (List.mem_of_getElem? (i := 207) rfl)) rfl
theorem wd_448 : Cond.methodLink RX10 226 yX0_mixInto ∈ lw_g := wg_mem (wt2 (List.mem_of_getElem? (i := 208) rfl)) rfl
theorem wd_449 : Cond.instanceMethod yX0_mixInto ∈ lw_g := wg_mem (wt2 (List.mem_of_getElem? (i := 209) rfl)) rfl
theorem wd_450 : Cond.selects RX0 yX0_mixInto yX0_mixInto ∈ lw_g := wg_mem (wt2 (List.mem_of_getElem? (i := 210) rfl)) rfl
theorem wd_451 : Cond.code yX0_mixInto prog_2_method_13_code 6 (some FieldType.long) ∈ lw_g := wg_mem (wt2 (List.mem_of_getElem? (i := 211) rfl)) rfl
theorem wd_453 : Cond.static yX10_mix ∈ lw_g := wg_mem (wt2 (List.mem_of_getElem? (i := 213) rfl)) rfl
theorem wd_454 : Cond.code yX10_mix prog_1_method_33_code 4 (some FieldType.long) ∈ lw_g := wg_mem (wt2 (List.mem_of_getElem? (i := 214) rfl)) rfl
theorem wd_455 : Cond.constantLong RX10 257 (31) ∈ lw_g := wg_mem (wt2 (List.mem_of_getElem? (i := 215) rfl)) rfl
theorem wd_456 : Cond.methodLink RX10 230 yX2_mixInto ∈ lw_g := wg_mem (wt2 (List.mem_of_getElem? (i := 216) rfl)) rfl
theorem wd_457 : Cond.instanceMethod yX2_mixInto ∈ lw_g := wg_mem (wt2 (List.mem_of_getElem? (i := 217) rfl)) rfl
theorem wd_458 : Cond.selects RX2 yX2_mixInto yX2_mixInto ∈ lw_g := wg_mem (wt2 (List.mem_of_getElem? (i := 218) rfl)) rfl
theorem wd_459 : Cond.code yX2_mixInto prog_4_method_20_code 6 (some FieldType.long) ∈ lw_g := wg_mem (wt2 (List.mem_of_getElem? (i := 219) rfl)) rfl
theorem wd_461 : Cond.methodLink RX2 103 yX2_mixCommandInto ∈ lw_g := wg_mem (wt2 (List.mem_of_getElem? (i := 221) rfl)) rfl
theorem wd_463 : Cond.instanceMethod yX2_mixCommandInto ∈ lw_g := wg_mem (wt2 (List.mem_of_getElem? (i := 223) rfl)) rfl
theorem wd_464 : Cond.code yX2_mixCommandInto prog_4_method_21_code 7 (some FieldType.long) ∈ lw_g := wg_mem (wt2 (List.mem_of_getElem? (i := 224) rfl)) rfl
theorem wd_465 : Cond.methodLink RX2 107 yX2_describe ∈ lw_g := wg_mem (wt2 (List.mem_of_getElem? (i := 225) rfl)) rfl
theorem wd_466 : Cond.instanceMethod yX2_describe ∈ lw_g := wg_mem (wt2 (List.mem_of_getElem? (i := 226) rfl)) rfl
theorem wd_467 : Cond.selects RX2 yX2_describe yX2_describe ∈ lw_g := wg_mem (wt2 (List.mem_of_getElem? (i := 227) rfl)) rfl
theorem wd_468 : Cond.code yX2_describe prog_4_method_10_code 3 (some FieldType.int) ∈ lw_g := wg_mem (wt2 (List.mem_of_getElem? (i := 228) rfl)) rfl
theorem wd_469 : Cond.methodLink RX2 111 yX2_addedAt ∈ lw_g := wg_mem (wt2 (List.mem_of_getElem? (i := 229) rfl)) rfl
theorem wd_470 : Cond.instanceMethod yX2_addedAt ∈ lw_g := wg_mem (wt2 (List.mem_of_getElem? (i := 230) rfl)) rfl
theorem wd_471 : Cond.selects RX2 yX2_addedAt yX2_addedAt ∈ lw_g := wg_mem (wt2 (List.mem_of_getElem? (i := 231) rfl)) rfl
theorem wd_472 : Cond.code yX2_addedAt prog_4_method_9_code 2 (some FieldType.int) ∈ lw_g := wg_mem (wt2 (List.mem_of_getElem? (i := 232) rfl)) rfl
theorem wd_473 : Cond.methodLink RX10 231 yX10_mix ∈ lw_g := wg_mem (wt2 (List.mem_of_getElem? (i := 233) rfl)) rfl
theorem wd_474 : Cond.methodLink RX10 235 yX7_mixInto ∈ lw_g := wg_mem (wt2 (List.mem_of_getElem? (i := 234) rfl)) rfl
theorem wd_475 : Cond.instanceMethod yX7_mixInto ∈ lw_g := wg_mem (wt2 (List.mem_of_getElem? (i := 235) rfl)) rfl
theorem wd_476 : Cond.selects RX7 yX7_mixInto yX7_mixInto ∈ lw_g := wg_mem (wt2 (List.mem_of_getElem? (i := 236) rfl)) rfl
theorem wd_477 : Cond.code yX7_mixInto prog_9_method_12_code 6 (some FieldType.long) ∈ lw_g := wg_mem (wt2 (List.mem_of_getElem? (i := 237) rfl)) rfl
theorem wd_479 : Cond.methodLink RX7 98 yX7_at ∈ lw_g := wg_mem (wt2 (List.mem_of_getElem? (i := 239) rfl)) rfl
theorem wd_480 : Cond.instanceMethod yX7_at ∈ lw_g := wg_mem (wt3 (List.mem_of_getElem? (i := 0) rfl)) rfl
theorem wd_481 : Cond.selects RX7 yX7_at yX7_at ∈ lw_g := wg_mem (wt3 (List.mem_of_getElem? (i := 1) rfl)) rfl
theorem wd_482 : Cond.code yX7_at prog_9_method_3_code 2 (some FieldType.int) ∈ lw_g := wg_mem (wt3 (List.mem_of_getElem? (i := 2) rfl)) rfl
theorem wd_483 : Cond.methodLink RX7 19 yX7_has ∈ lw_g := wg_mem (wt3 (List.mem_of_getElem? (i := 3) rfl)) rfl
theorem wd_484 : Cond.instanceMethod yX7_has ∈ lw_g := wg_mem (wt3 (List.mem_of_getElem? (i := 4) rfl)) rfl
theorem wd_485 : Cond.selects RX7 yX7_has yX7_has ∈ lw_g := wg_mem (wt3 (List.mem_of_getElem? (i := 5) rfl)) rfl
theorem wd_486 : Cond.code yX7_has prog_9_method_2_code 2 (some FieldType.boolean) ∈ lw_g := wg_mem (wt3 (List.mem_of_getElem? (i := 6) rfl)) rfl
theorem wd_487 : Cond.methodLink RX10 236 yX9_mixInto ∈ lw_g := wg_mem (wt3 (List.mem_of_getElem? (i := 7) rfl)) rfl
theorem wd_488 : Cond.instanceMethod yX9_mixInto ∈ lw_g := wg_mem (wt3 (List.mem_of_getElem? (i := 8) rfl)) rfl
theorem wd_489 : Cond.selects RX9 yX9_mixInto yX9_mixInto ∈ lw_g := wg_mem (wt3 (List.mem_of_getElem? (i := 9) rfl)) rfl
theorem wd_490 : Cond.code yX9_mixInto prog_11_method_6_code 3 (some FieldType.long) ∈ lw_g := wg_mem (wt3 (List.mem_of_getElem? (i := 10) rfl)) rfl
theorem wd_492 : Cond.methodLink RX9 99 yX0_mixInto ∈ lw_g := wg_mem (wt3 (List.mem_of_getElem? (i := 12) rfl)) rfl
theorem wd_493 : Cond.methodLink RL 78 yL_append ∈ lw_g := wg_mem (wt3 (List.mem_of_getElem? (i := 13) rfl)) rfl
theorem wd_494 : Cond.static yL_append ∈ lw_g := wg_mem (wt3 (List.mem_of_getElem? (i := 14) rfl)) rfl
theorem wd_495 : Cond.codeWith yL_append method_3_code 5 (some FieldType.int) [((0 : Nat), (10 : Nat), (13 : Nat), (13 : Nat)), ((0 : Nat), (10 : Nat), (17 : Nat), (15 : Nat))] ∈ lw_g := wg_mem (wt3 (List.mem_of_getElem? (i := 15) rfl)) rfl
theorem wd_496 : Cond.classLink RL 13 "java/lang/IllegalArgumentException" ∈ lw_g := wg_mem (wt3 (List.mem_of_getElem? (i := 16) rfl)) rfl
theorem wd_497 : Cond.classLink RL 15 "java/lang/IllegalStateException" ∈ lw_g := wg_mem (wt3 (List.mem_of_getElem? (i := 17) rfl)) rfl
theorem wd_498 : Cond.methodLink RL 7 yX10_append ∈ lw_g := wg_mem (wt3 (List.mem_of_getElem? (i := 18) rfl)) rfl
theorem wd_499 : Cond.instanceMethod yX10_append ∈ lw_g := wg_mem (wt3 (List.mem_of_getElem? (i := 19) rfl)) rfl
theorem wd_500 : Cond.selects RX10 yX10_append yX10_append ∈ lw_g := wg_mem (wt3 (List.mem_of_getElem? (i := 20) rfl)) rfl
theorem wd_501 : Cond.code yX10_append prog_1_method_2_code 4 (some FieldType.int) ∈ lw_g := wg_mem (wt3 (List.mem_of_getElem? (i := 21) rfl)) rfl
theorem wd_502 : Cond.methodLink RX10 30 yX10_requireVersion ∈ lw_g := wg_mem (wt3 (List.mem_of_getElem? (i := 22) rfl)) rfl
theorem wd_503 : Cond.static yX10_requireVersion ∈ lw_g := wg_mem (wt3 (List.mem_of_getElem? (i := 23) rfl)) rfl
theorem wd_504 : Cond.code yX10_requireVersion prog_1_method_27_code 1 none ∈ lw_g := wg_mem (wt3 (List.mem_of_getElem? (i := 24) rfl)) rfl
theorem wd_505 : Cond.classLink RX10 108 "java/lang/IllegalArgumentException" ∈ lw_g := wg_mem (wt3 (List.mem_of_getElem? (i := 25) rfl)) rfl
theorem wd_506 : Cond.instantiable "java/lang/IllegalArgumentException" 6 ∈ lw_g := wg_mem (wt3 (List.mem_of_getElem? (i := 26) rfl)) rfl
theorem wd_514 : Cond.selects "java/lang/IllegalArgumentException" ⟨"java/lang/Throwable", "fillInStackTrace", "(I)Ljava/lang/Throwable;"⟩ ⟨"java/lang/Throwable", "fillInStackTrace", "(I)Ljava/lang/Throwable;"⟩ ∈ lw_g := wg_mem (wt3 (List.mem_of_getElem? (i := 34) rfl)) rfl
theorem wd_515 : Cond.selects "java/lang/IllegalArgumentException" ⟨"java/lang/Throwable", "fillInStackTrace", "()Ljava/lang/Throwable;"⟩ ⟨"java/lang/Throwable", "fillInStackTrace", "()Ljava/lang/Throwable;"⟩ ∈ lw_g := wg_mem (wt3 (List.mem_of_getElem? (i := 35) rfl)) rfl
theorem wd_526 : Cond.fieldLink "java/lang/Throwable" 198 "java/lang/Throwable" "backtrace" "Ljava/lang/Object;" ∈ lw_g := wg_mem (wt3 (List.mem_of_getElem? (i := 46) rfl)) rfl
theorem wd_528 : Cond.instanceMethod ⟨"java/lang/Throwable", "<init>", "()V"⟩ ∈ lw_g := wg_mem (wt3 (List.mem_of_getElem? (i := 48) rfl)) rfl
theorem wd_529 : Cond.code ⟨"java/lang/Throwable", "<init>", "()V"⟩ prog_23_method_1_code 1 none ∈ lw_g := wg_mem (wt3 (List.mem_of_getElem? (i := 49) rfl)) rfl
theorem wd_530 : Cond.methodLink "java/lang/Throwable" 1 objectInit ∈ lw_g := wg_mem (wt3 (List.mem_of_getElem? (i := 50) rfl)) rfl
theorem wd_531 : Cond.fieldLink "java/lang/Throwable" 13 "java/lang/Throwable" "UNASSIGNED_STACK" "[Ljava/lang/StackTraceElement;" ∈ lw_g := wg_mem (wt3 (List.mem_of_getElem? (i := 51) rfl)) rfl
theorem wd_533 : Cond.fieldLink "java/lang/Throwable" 20 "java/lang/Throwable" "SUPPRESSED_SENTINEL" "Ljava/util/List;" ∈ lw_g := wg_mem (wt3 (List.mem_of_getElem? (i := 53) rfl)) rfl
theorem wd_535 : Cond.methodLink "java/lang/Throwable" 27 ⟨"java/lang/Throwable", "fillInStackTrace", "()Ljava/lang/Throwable;"⟩ ∈ lw_g := wg_mem (wt3 (List.mem_of_getElem? (i := 55) rfl)) rfl
theorem wd_536 : Cond.instanceMethod ⟨"java/lang/Throwable", "fillInStackTrace", "()Ljava/lang/Throwable;"⟩ ∈ lw_g := wg_mem (wt3 (List.mem_of_getElem? (i := 56) rfl)) rfl
theorem wd_538 : Cond.selects "java/lang/IllegalStateException" ⟨"java/lang/Throwable", "fillInStackTrace", "()Ljava/lang/Throwable;"⟩ ⟨"java/lang/Throwable", "fillInStackTrace", "()Ljava/lang/Throwable;"⟩ ∈ lw_g := wg_mem (wt3 (List.mem_of_getElem? (i := 58) rfl)) rfl
theorem wd_539 : Cond.selects "java/lang/IndexOutOfBoundsException" ⟨"java/lang/Throwable", "fillInStackTrace", "()Ljava/lang/Throwable;"⟩ ⟨"java/lang/Throwable", "fillInStackTrace", "()Ljava/lang/Throwable;"⟩ ∈ lw_g := wg_mem (wt3 (List.mem_of_getElem? (i := 59) rfl)) rfl
theorem wd_541 : Cond.methodLink "java/lang/Throwable" 202 ⟨"java/lang/Throwable", "fillInStackTrace", "(I)Ljava/lang/Throwable;"⟩ ∈ lw_g := wg_mem (wt3 (List.mem_of_getElem? (i := 61) rfl)) rfl
theorem wd_543 : Cond.instanceMethod ⟨"java/lang/Throwable", "fillInStackTrace", "(I)Ljava/lang/Throwable;"⟩ ∈ lw_g := wg_mem (wt3 (List.mem_of_getElem? (i := 63) rfl)) rfl
theorem wd_544 : Cond.instantiable "java/lang/Throwable" 6 ∈ lw_g := wg_mem (wt3 (List.mem_of_getElem? (i := 64) rfl)) rfl
theorem wd_545 : Cond.native ⟨"java/lang/Throwable", "fillInStackTrace", "(I)Ljava/lang/Throwable;"⟩ ∈ lw_g := wg_mem (wt3 (List.mem_of_getElem? (i := 65) rfl)) rfl
theorem wd_547 : Cond.methodLink RX10 112 ⟨"java/lang/IllegalArgumentException", "<init>", "(Ljava/lang/String;)V"⟩ ∈ lw_g := wg_mem (wt3 (List.mem_of_getElem? (i := 67) rfl)) rfl
theorem wd_548 : Cond.instanceMethod ⟨"java/lang/IllegalArgumentException", "<init>", "(Ljava/lang/String;)V"⟩ ∈ lw_g := wg_mem (wt3 (List.mem_of_getElem? (i := 68) rfl)) rfl
theorem wd_549 : Cond.code ⟨"java/lang/IllegalArgumentException", "<init>", "(Ljava/lang/String;)V"⟩ prog_15_method_2_code 2 none ∈ lw_g := wg_mem (wt3 (List.mem_of_getElem? (i := 69) rfl)) rfl
theorem wd_550 : Cond.methodLink "java/lang/IllegalArgumentException" 7 ⟨"java/lang/RuntimeException", "<init>", "(Ljava/lang/String;)V"⟩ ∈ lw_g := wg_mem (wt3 (List.mem_of_getElem? (i := 70) rfl)) rfl
theorem wd_551 : Cond.instanceMethod ⟨"java/lang/RuntimeException", "<init>", "(Ljava/lang/String;)V"⟩ ∈ lw_g := wg_mem (wt3 (List.mem_of_getElem? (i := 71) rfl)) rfl
theorem wd_552 : Cond.code ⟨"java/lang/RuntimeException", "<init>", "(Ljava/lang/String;)V"⟩ prog_20_method_2_code 2 none ∈ lw_g := wg_mem (wt3 (List.mem_of_getElem? (i := 72) rfl)) rfl
theorem wd_553 : Cond.methodLink "java/lang/RuntimeException" 7 ⟨"java/lang/Exception", "<init>", "(Ljava/lang/String;)V"⟩ ∈ lw_g := wg_mem (wt3 (List.mem_of_getElem? (i := 73) rfl)) rfl
theorem wd_554 : Cond.instanceMethod ⟨"java/lang/Exception", "<init>", "(Ljava/lang/String;)V"⟩ ∈ lw_g := wg_mem (wt3 (List.mem_of_getElem? (i := 74) rfl)) rfl
theorem wd_555 : Cond.code ⟨"java/lang/Exception", "<init>", "(Ljava/lang/String;)V"⟩ prog_14_method_2_code 2 none ∈ lw_g := wg_mem (wt3 (List.mem_of_getElem? (i := 75) rfl)) rfl
theorem wd_556 : Cond.methodLink "java/lang/Exception" 7 ⟨"java/lang/Throwable", "<init>", "(Ljava/lang/String;)V"⟩ ∈ lw_g := wg_mem (wt3 (List.mem_of_getElem? (i := 76) rfl)) rfl
theorem wd_557 : Cond.instanceMethod ⟨"java/lang/Throwable", "<init>", "(Ljava/lang/String;)V"⟩ ∈ lw_g := wg_mem (wt3 (List.mem_of_getElem? (i := 77) rfl)) rfl
theorem wd_558 : Cond.code ⟨"java/lang/Throwable", "<init>", "(Ljava/lang/String;)V"⟩ prog_23_method_2_code 2 none ∈ lw_g := wg_mem (wt3 (List.mem_of_getElem? (i := 78) rfl)) rfl
theorem wd_559 : Cond.fieldLink "java/lang/Throwable" 198 "java/lang/Throwable" "backtrace" "Ljava/lang/Object;" ∈ lw_g := wg_mem (wt3 (List.mem_of_getElem? (i := 79) rfl)) rfl
theorem wd_560 : Cond.fieldLink "java/lang/Throwable" 31 "java/lang/Throwable" "detailMessage" "Ljava/lang/String;" ∈ lw_g := wg_mem (wt3 (List.mem_of_getElem? (i := 80) rfl)) rfl
theorem wd_561 : Cond.fieldLink "java/lang/Throwable" 7 "java/lang/Throwable" "cause" "Ljava/lang/Throwable;" ∈ lw_g := wg_mem (wt3 (List.mem_of_getElem? (i := 81) rfl)) rfl
theorem wd_562 : Cond.fieldLink "java/lang/Throwable" 17 "java/lang/Throwable" "stackTrace" "[Ljava/lang/StackTraceElement;" ∈ lw_g := wg_mem (wt3 (List.mem_of_getElem? (i := 82) rfl)) rfl
theorem wd_563 : Cond.fieldLink "java/lang/Throwable" 24 "java/lang/Throwable" "suppressedExceptions" "Ljava/util/List;" ∈ lw_g := wg_mem (wt3 (List.mem_of_getElem? (i := 83) rfl)) rfl
theorem wd_572 : Cond.arrayClass FieldType.byte ∈ lw_g := wg_mem (wt3 (List.mem_of_getElem? (i := 92) rfl)) rfl
theorem wd_573 : Cond.methodLink RX10 34 yX10_requireByte ∈ lw_g := wg_mem (wt3 (List.mem_of_getElem? (i := 93) rfl)) rfl
theorem wd_574 : Cond.static yX10_requireByte ∈ lw_g := wg_mem (wt3 (List.mem_of_getElem? (i := 94) rfl)) rfl
theorem wd_575 : Cond.code yX10_requireByte prog_1_method_28_code 1 none ∈ lw_g := wg_mem (wt3 (List.mem_of_getElem? (i := 95) rfl)) rfl
theorem wd_577 : Cond.methodLink RX10 37 yX8_version ∈ lw_g := wg_mem (wt3 (List.mem_of_getElem? (i := 97) rfl)) rfl
theorem wd_578 : Cond.instanceMethod yX8_version ∈ lw_g := wg_mem (wt3 (List.mem_of_getElem? (i := 98) rfl)) rfl
theorem wd_579 : Cond.selects RX8 yX8_version yX8_version ∈ lw_g := wg_mem (wt3 (List.mem_of_getElem? (i := 99) rfl)) rfl
theorem wd_580 : Cond.code yX8_version prog_10_method_2_code 2 (some (FieldType.object "InPlaceDelta$Bytes")) ∈ lw_g := wg_mem (wt3 (List.mem_of_getElem? (i := 100) rfl)) rfl
theorem wd_581 : Cond.methodLink RX10 41 yX0_isFull ∈ lw_g := wg_mem (wt3 (List.mem_of_getElem? (i := 101) rfl)) rfl
theorem wd_582 : Cond.instanceMethod yX0_isFull ∈ lw_g := wg_mem (wt3 (List.mem_of_getElem? (i := 102) rfl)) rfl
theorem wd_583 : Cond.selects RX0 yX0_isFull yX0_isFull ∈ lw_g := wg_mem (wt3 (List.mem_of_getElem? (i := 103) rfl)) rfl
theorem wd_584 : Cond.code yX0_isFull prog_2_method_2_code 1 (some FieldType.boolean) ∈ lw_g := wg_mem (wt3 (List.mem_of_getElem? (i := 104) rfl)) rfl
theorem wd_585 : Cond.classLink RX10 47 "java/lang/IllegalStateException" ∈ lw_g := wg_mem (wt3 (List.mem_of_getElem? (i := 105) rfl)) rfl
theorem wd_586 : Cond.instantiable "java/lang/IllegalStateException" 6 ∈ lw_g := wg_mem (wt3 (List.mem_of_getElem? (i := 106) rfl)) rfl
theorem wd_588 : Cond.selects "java/lang/IllegalStateException" ⟨"java/lang/Throwable", "fillInStackTrace", "(I)Ljava/lang/Throwable;"⟩ ⟨"java/lang/Throwable", "fillInStackTrace", "(I)Ljava/lang/Throwable;"⟩ ∈ lw_g := wg_mem (wt3 (List.mem_of_getElem? (i := 108) rfl)) rfl
theorem wd_595 : Cond.methodLink RX10 51 ⟨"java/lang/IllegalStateException", "<init>", "(Ljava/lang/String;)V"⟩ ∈ lw_g := wg_mem (wt3 (List.mem_of_getElem? (i := 115) rfl)) rfl
theorem wd_596 : Cond.instanceMethod ⟨"java/lang/IllegalStateException", "<init>", "(Ljava/lang/String;)V"⟩ ∈ lw_g := wg_mem (wt3 (List.mem_of_getElem? (i := 116) rfl)) rfl
theorem wd_597 : Cond.code ⟨"java/lang/IllegalStateException", "<init>", "(Ljava/lang/String;)V"⟩ prog_16_method_2_code 2 none ∈ lw_g := wg_mem (wt3 (List.mem_of_getElem? (i := 117) rfl)) rfl
theorem wd_598 : Cond.methodLink "java/lang/IllegalStateException" 7 ⟨"java/lang/RuntimeException", "<init>", "(Ljava/lang/String;)V"⟩ ∈ lw_g := wg_mem (wt3 (List.mem_of_getElem? (i := 118) rfl)) rfl
theorem wd_601 : Cond.methodLink RX10 61 yX0_push ∈ lw_g := wg_mem (wt3 (List.mem_of_getElem? (i := 121) rfl)) rfl
theorem wd_602 : Cond.instanceMethod yX0_push ∈ lw_g := wg_mem (wt3 (List.mem_of_getElem? (i := 122) rfl)) rfl
theorem wd_603 : Cond.selects RX0 yX0_push yX0_push ∈ lw_g := wg_mem (wt3 (List.mem_of_getElem? (i := 123) rfl)) rfl
theorem wd_604 : Cond.code yX0_push prog_2_method_7_code 2 none ∈ lw_g := wg_mem (wt3 (List.mem_of_getElem? (i := 124) rfl)) rfl
theorem wd_605 : Cond.methodLink RX0 33 yX0_isFull ∈ lw_g := wg_mem (wt3 (List.mem_of_getElem? (i := 125) rfl)) rfl
theorem wd_606 : Cond.methodLink RL 87 yL_patch ∈ lw_g := wg_mem (wt3 (List.mem_of_getElem? (i := 126) rfl)) rfl
theorem wd_607 : Cond.static yL_patch ∈ lw_g := wg_mem (wt3 (List.mem_of_getElem? (i := 127) rfl)) rfl
theorem wd_608 : Cond.codeWith yL_patch method_4_code 6 (some FieldType.int) [((0 : Nat), (12 : Nat), (15 : Nat), (13 : Nat)), ((0 : Nat), (12 : Nat), (19 : Nat), (21 : Nat))] ∈ lw_g := wg_mem (wt3 (List.mem_of_getElem? (i := 128) rfl)) rfl
theorem wd_609 : Cond.classLink RL 21 "java/lang/IndexOutOfBoundsException" ∈ lw_g := wg_mem (wt3 (List.mem_of_getElem? (i := 129) rfl)) rfl
theorem wd_610 : Cond.methodLink RL 17 yX10_patch ∈ lw_g := wg_mem (wt3 (List.mem_of_getElem? (i := 130) rfl)) rfl
theorem wd_611 : Cond.instanceMethod yX10_patch ∈ lw_g := wg_mem (wt3 (List.mem_of_getElem? (i := 131) rfl)) rfl
theorem wd_612 : Cond.selects RX10 yX10_patch yX10_patch ∈ lw_g := wg_mem (wt3 (List.mem_of_getElem? (i := 132) rfl)) rfl
theorem wd_613 : Cond.code yX10_patch prog_1_method_3_code 6 (some FieldType.int) ∈ lw_g := wg_mem (wt3 (List.mem_of_getElem? (i := 133) rfl)) rfl
theorem wd_614 : Cond.methodLink RX10 68 yX0_has ∈ lw_g := wg_mem (wt3 (List.mem_of_getElem? (i := 134) rfl)) rfl
theorem wd_615 : Cond.methodLink RX10 72 yX10_requireIndex ∈ lw_g := wg_mem (wt3 (List.mem_of_getElem? (i := 135) rfl)) rfl
theorem wd_616 : Cond.static yX10_requireIndex ∈ lw_g := wg_mem (wt3 (List.mem_of_getElem? (i := 136) rfl)) rfl
theorem wd_617 : Cond.code yX10_requireIndex prog_1_method_29_code 1 none ∈ lw_g := wg_mem (wt3 (List.mem_of_getElem? (i := 137) rfl)) rfl
theorem wd_618 : Cond.classLink RX10 241 "java/lang/IndexOutOfBoundsException" ∈ lw_g := wg_mem (wt3 (List.mem_of_getElem? (i := 138) rfl)) rfl
theorem wd_619 : Cond.instantiable "java/lang/IndexOutOfBoundsException" 6 ∈ lw_g := wg_mem (wt3 (List.mem_of_getElem? (i := 139) rfl)) rfl
theorem wd_621 : Cond.selects "java/lang/IndexOutOfBoundsException" ⟨"java/lang/Throwable", "fillInStackTrace", "(I)Ljava/lang/Throwable;"⟩ ⟨"java/lang/Throwable", "fillInStackTrace", "(I)Ljava/lang/Throwable;"⟩ ∈ lw_g := wg_mem (wt3 (List.mem_of_getElem? (i := 141) rfl)) rfl
theorem wd_628 : Cond.methodLink RX10 245 ⟨"java/lang/IndexOutOfBoundsException", "<init>", "(Ljava/lang/String;)V"⟩ ∈ lw_g := wg_mem (wt3 (List.mem_of_getElem? (i := 148) rfl)) rfl
theorem wd_629 : Cond.instanceMethod ⟨"java/lang/IndexOutOfBoundsException", "<init>", "(Ljava/lang/String;)V"⟩ ∈ lw_g := wg_mem (wt3 (List.mem_of_getElem? (i := 149) rfl)) rfl
theorem wd_630 : Cond.code ⟨"java/lang/IndexOutOfBoundsException", "<init>", "(Ljava/lang/String;)V"⟩ prog_17_method_2_code 2 none ∈ lw_g := wg_mem (wt3 (List.mem_of_getElem? (i := 150) rfl)) rfl
theorem wd_631 : Cond.methodLink "java/lang/IndexOutOfBoundsException" 7 ⟨"java/lang/RuntimeException", "<init>", "(Ljava/lang/String;)V"⟩ ∈ lw_g := wg_mem (wt3 (List.mem_of_getElem? (i := 151) rfl)) rfl
theorem wd_634 : Cond.methodLink RX10 76 yX0_at ∈ lw_g := wg_mem (wt3 (List.mem_of_getElem? (i := 154) rfl)) rfl
theorem wd_635 : Cond.methodLink RX10 80 yX0_put ∈ lw_g := wg_mem (wt3 (List.mem_of_getElem? (i := 155) rfl)) rfl
theorem wd_636 : Cond.instanceMethod yX0_put ∈ lw_g := wg_mem (wt3 (List.mem_of_getElem? (i := 156) rfl)) rfl
theorem wd_637 : Cond.selects RX0 yX0_put yX0_put ∈ lw_g := wg_mem (wt3 (List.mem_of_getElem? (i := 157) rfl)) rfl
theorem wd_638 : Cond.code yX0_put prog_2_method_6_code 3 none ∈ lw_g := wg_mem (wt3 (List.mem_of_getElem? (i := 158) rfl)) rfl
theorem wd_639 : Cond.methodLink RL 91 yL_clear ∈ lw_g := wg_mem (wt3 (List.mem_of_getElem? (i := 159) rfl)) rfl
theorem wd_640 : Cond.static yL_clear ∈ lw_g := wg_mem (wt3 (List.mem_of_getElem? (i := 160) rfl)) rfl
theorem wd_641 : Cond.codeWith yL_clear method_5_code 4 (some FieldType.int) [((0 : Nat), (9 : Nat), (12 : Nat), (13 : Nat))] ∈ lw_g := wg_mem (wt3 (List.mem_of_getElem? (i := 161) rfl)) rfl
theorem wd_642 : Cond.methodLink RL 23 yX10_clear ∈ lw_g := wg_mem (wt3 (List.mem_of_getElem? (i := 162) rfl)) rfl
theorem wd_643 : Cond.instanceMethod yX10_clear ∈ lw_g := wg_mem (wt3 (List.mem_of_getElem? (i := 163) rfl)) rfl
theorem wd_644 : Cond.selects RX10 yX10_clear yX10_clear ∈ lw_g := wg_mem (wt3 (List.mem_of_getElem? (i := 164) rfl)) rfl
theorem wd_645 : Cond.code yX10_clear prog_1_method_4_code 4 (some FieldType.int) ∈ lw_g := wg_mem (wt3 (List.mem_of_getElem? (i := 165) rfl)) rfl
theorem wd_646 : Cond.methodLink RL 95 yL_byteOf ∈ lw_g := wg_mem (wt3 (List.mem_of_getElem? (i := 166) rfl)) rfl
theorem wd_647 : Cond.static yL_byteOf ∈ lw_g := wg_mem (wt3 (List.mem_of_getElem? (i := 167) rfl)) rfl
theorem wd_648 : Cond.codeWith yL_byteOf method_6_code 5 (some FieldType.int) [((0 : Nat), (10 : Nat), (13 : Nat), (13 : Nat)), ((0 : Nat), (10 : Nat), (17 : Nat), (21 : Nat))] ∈ lw_g := wg_mem (wt3 (List.mem_of_getElem? (i := 168) rfl)) rfl
theorem wd_649 : Cond.methodLink RL 27 yX10_byteOf ∈ lw_g := wg_mem (wt3 (List.mem_of_getElem? (i := 169) rfl)) rfl
theorem wd_650 : Cond.instanceMethod yX10_byteOf ∈ lw_g := wg_mem (wt3 (List.mem_of_getElem? (i := 170) rfl)) rfl
theorem wd_651 : Cond.selects RX10 yX10_byteOf yX10_byteOf ∈ lw_g := wg_mem (wt3 (List.mem_of_getElem? (i := 171) rfl)) rfl
theorem wd_652 : Cond.code yX10_byteOf prog_1_method_5_code 4 (some FieldType.int) ∈ lw_g := wg_mem (wt3 (List.mem_of_getElem? (i := 172) rfl)) rfl
theorem wd_653 : Cond.methodLink RL 106 yL_command ∈ lw_g := wg_mem (wt3 (List.mem_of_getElem? (i := 173) rfl)) rfl
theorem wd_654 : Cond.static yL_command ∈ lw_g := wg_mem (wt3 (List.mem_of_getElem? (i := 174) rfl)) rfl
theorem wd_655 : Cond.codeWith yL_command method_7_code 5 (some FieldType.int) [((0 : Nat), (10 : Nat), (13 : Nat), (21 : Nat)), ((0 : Nat), (10 : Nat), (17 : Nat), (13 : Nat))] ∈ lw_g := wg_mem (wt3 (List.mem_of_getElem? (i := 175) rfl)) rfl
theorem wd_656 : Cond.methodLink RL 30 yX10_command ∈ lw_g := wg_mem (wt3 (List.mem_of_getElem? (i := 176) rfl)) rfl
theorem wd_657 : Cond.instanceMethod yX10_command ∈ lw_g := wg_mem (wt3 (List.mem_of_getElem? (i := 177) rfl)) rfl
theorem wd_658 : Cond.selects RX10 yX10_command yX10_command ∈ lw_g := wg_mem (wt3 (List.mem_of_getElem? (i := 178) rfl)) rfl
theorem wd_659 : Cond.code yX10_command prog_1_method_8_code 3 (some FieldType.int) ∈ lw_g := wg_mem (wt3 (List.mem_of_getElem? (i := 179) rfl)) rfl
theorem wd_660 : Cond.methodLink RX10 107 yX2_has ∈ lw_g := wg_mem (wt3 (List.mem_of_getElem? (i := 180) rfl)) rfl
theorem wd_662 : Cond.methodLink RX10 113 yX2_describe ∈ lw_g := wg_mem (wt3 (List.mem_of_getElem? (i := 182) rfl)) rfl
theorem wd_663 : Cond.methodLink RL 109 yL_mustPrecede ∈ lw_g := wg_mem (wt3 (List.mem_of_getElem? (i := 183) rfl)) rfl
theorem wd_664 : Cond.static yL_mustPrecede ∈ lw_g := wg_mem (wt3 (List.mem_of_getElem? (i := 184) rfl)) rfl
theorem wd_665 : Cond.codeWith yL_mustPrecede method_8_code 5 (some FieldType.int) [((0 : Nat), (17 : Nat), (20 : Nat), (21 : Nat))] ∈ lw_g := wg_mem (wt3 (List.mem_of_getElem? (i := 185) rfl)) rfl
theorem wd_666 : Cond.methodLink RL 33 yX10_mustPrecede ∈ lw_g := wg_mem (wt3 (List.mem_of_getElem? (i := 186) rfl)) rfl
theorem wd_667 : Cond.instanceMethod yX10_mustPrecede ∈ lw_g := wg_mem (wt3 (List.mem_of_getElem? (i := 187) rfl)) rfl
theorem wd_668 : Cond.selects RX10 yX10_mustPrecede yX10_mustPrecede ∈ lw_g := wg_mem (wt3 (List.mem_of_getElem? (i := 188) rfl)) rfl
theorem wd_669 : Cond.code yX10_mustPrecede prog_1_method_9_code 3 (some FieldType.boolean) ∈ lw_g := wg_mem (wt3 (List.mem_of_getElem? (i := 189) rfl)) rfl
theorem wd_670 : Cond.methodLink RX10 117 yX2_precedersOf ∈ lw_g := wg_mem (wt3 (List.mem_of_getElem? (i := 190) rfl)) rfl
theorem wd_671 : Cond.methodLink RX10 120 yX10_isIn ∈ lw_g := wg_mem (wt3 (List.mem_of_getElem? (i := 191) rfl)) rfl
theorem wd_672 : Cond.methodLink RL 112 yL_plan ∈ lw_g := wg_mem (wt3 (List.mem_of_getElem? (i := 192) rfl)) rfl
theorem wd_673 : Cond.static yL_plan ∈ lw_g := wg_mem (wt3 (List.mem_of_getElem? (i := 193) rfl)) rfl
theorem wd_674 : Cond.codeWith yL_plan method_9_code 4 (some FieldType.int) [((0 : Nat), (9 : Nat), (12 : Nat), (13 : Nat)), ((0 : Nat), (9 : Nat), (15 : Nat), (15 : Nat))] ∈ lw_g := wg_mem (wt3 (List.mem_of_getElem? (i := 194) rfl)) rfl
theorem wd_675 : Cond.methodLink RL 37 yX10_plan ∈ lw_g := wg_mem (wt3 (List.mem_of_getElem? (i := 195) rfl)) rfl
theorem wd_676 : Cond.instanceMethod yX10_plan ∈ lw_g := wg_mem (wt3 (List.mem_of_getElem? (i := 196) rfl)) rfl
theorem wd_677 : Cond.selects RX10 yX10_plan yX10_plan ∈ lw_g := wg_mem (wt3 (List.mem_of_getElem? (i := 197) rfl)) rfl
theorem wd_678 : Cond.code yX10_plan prog_1_method_10_code 2 (some FieldType.int) ∈ lw_g := wg_mem (wt3 (List.mem_of_getElem? (i := 198) rfl)) rfl
theorem wd_681 : Cond.methodLink RX10 135 yX7_build ∈ lw_g := wg_mem (wt3 (List.mem_of_getElem? (i := 201) rfl)) rfl
theorem wd_682 : Cond.instanceMethod yX7_build ∈ lw_g := wg_mem (wt3 (List.mem_of_getElem? (i := 202) rfl)) rfl
theorem wd_683 : Cond.selects RX7 yX7_build yX7_build ∈ lw_g := wg_mem (wt3 (List.mem_of_getElem? (i := 203) rfl)) rfl
theorem wd_684 : Cond.code yX7_build prog_9_method_5_code 4 none ∈ lw_g := wg_mem (wt3 (List.mem_of_getElem? (i := 204) rfl)) rfl
theorem wd_685 : Cond.methodLink RX7 42 yX7_placeCopies ∈ lw_g := wg_mem (wt3 (List.mem_of_getElem? (i := 205) rfl)) rfl
theorem wd_687 : Cond.instanceMethod yX7_placeCopies ∈ lw_g := wg_mem (wt3 (List.mem_of_getElem? (i := 207) rfl)) rfl
theorem wd_688 : Cond.code yX7_placeCopies prog_9_method_6_code 6 none ∈ lw_g := wg_mem (wt3 (List.mem_of_getElem? (i := 208) rfl)) rfl
theorem wd_689 : Cond.methodLink RX7 58 yX2_firstFree ∈ lw_g := wg_mem (wt3 (List.mem_of_getElem? (i := 209) rfl)) rfl
theorem wd_690 : Cond.methodLink RX7 62 yX7_choose ∈ lw_g := wg_mem (wt3 (List.mem_of_getElem? (i := 210) rfl)) rfl
theorem wd_691 : Cond.static yX7_choose ∈ lw_g := wg_mem (wt3 (List.mem_of_getElem? (i := 211) rfl)) rfl
theorem wd_692 : Cond.code yX7_choose prog_9_method_8_code 7 (some FieldType.int) ∈ lw_g := wg_mem (wt3 (List.mem_of_getElem? (i := 212) rfl)) rfl
theorem wd_694 : Cond.methodLink RX7 73 yX7_worth ∈ lw_g := wg_mem (wt3 (List.mem_of_getElem? (i := 214) rfl)) rfl
theorem wd_695 : Cond.static yX7_worth ∈ lw_g := wg_mem (wt3 (List.mem_of_getElem? (i := 215) rfl)) rfl
theorem wd_696 : Cond.code yX7_worth prog_9_method_9_code 4 (some FieldType.int) ∈ lw_g := wg_mem (wt3 (List.mem_of_getElem? (i := 216) rfl)) rfl
theorem wd_697 : Cond.methodLink RX7 66 yX2_lengthOf ∈ lw_g := wg_mem (wt3 (List.mem_of_getElem? (i := 217) rfl)) rfl
theorem wd_698 : Cond.methodLink RX7 77 yX7_conflicts ∈ lw_g := wg_mem (wt3 (List.mem_of_getElem? (i := 218) rfl)) rfl
theorem wd_699 : Cond.static yX7_conflicts ∈ lw_g := wg_mem (wt3 (List.mem_of_getElem? (i := 219) rfl)) rfl
theorem wd_700 : Cond.code yX7_conflicts prog_9_method_10_code 5 (some FieldType.int) ∈ lw_g := wg_mem (wt3 (List.mem_of_getElem? (i := 220) rfl)) rfl
theorem wd_701 : Cond.methodLink RX7 80 yX2_precedersOf ∈ lw_g := wg_mem (wt3 (List.mem_of_getElem? (i := 221) rfl)) rfl
theorem wd_702 : Cond.methodLink RX7 83 yJ6_bitCount_0f7a4 ∈ lw_g := wg_mem (wt3 (List.mem_of_getElem? (i := 222) rfl)) rfl
theorem wd_703 : Cond.methodLink RX7 51 yX7_place ∈ lw_g := wg_mem (wt3 (List.mem_of_getElem? (i := 223) rfl)) rfl
theorem wd_705 : Cond.instanceMethod yX7_place ∈ lw_g := wg_mem (wt3 (List.mem_of_getElem? (i := 225) rfl)) rfl
theorem wd_706 : Cond.code yX7_place prog_9_method_7_code 2 none ∈ lw_g := wg_mem (wt3 (List.mem_of_getElem? (i := 226) rfl)) rfl
theorem wd_708 : Cond.methodLink RX7 47 yX7_isCopied ∈ lw_g := wg_mem (wt3 (List.mem_of_getElem? (i := 228) rfl)) rfl
theorem wd_709 : Cond.instanceMethod yX7_isCopied ∈ lw_g := wg_mem (wt3 (List.mem_of_getElem? (i := 229) rfl)) rfl
theorem wd_710 : Cond.selects RX7 yX7_isCopied yX7_isCopied ∈ lw_g := wg_mem (wt3 (List.mem_of_getElem? (i := 230) rfl)) rfl
theorem wd_711 : Cond.code yX7_isCopied prog_9_method_4_code 3 (some FieldType.boolean) ∈ lw_g := wg_mem (wt3 (List.mem_of_getElem? (i := 231) rfl)) rfl
theorem wd_712 : Cond.methodLink RX7 23 yX2_isCopy ∈ lw_g := wg_mem (wt3 (List.mem_of_getElem? (i := 232) rfl)) rfl
theorem wd_713 : Cond.methodLink RX10 144 yJ6_bitCount_0f7a4 ∈ lw_g := wg_mem (wt3 (List.mem_of_getElem? (i := 233) rfl)) rfl
theorem wd_714 : Cond.methodLink RL 115 yL_planned ∈ lw_g := wg_mem (wt3 (List.mem_of_getElem? (i := 234) rfl)) rfl
theorem wd_715 : Cond.static yL_planned ∈ lw_g := wg_mem (wt3 (List.mem_of_getElem? (i := 235) rfl)) rfl
theorem wd_716 : Cond.codeWith yL_planned method_10_code 4 (some FieldType.int) [((0 : Nat), (9 : Nat), (12 : Nat), (15 : Nat)), ((0 : Nat), (9 : Nat), (15 : Nat), (21 : Nat))] ∈ lw_g := wg_mem (wt3 (List.mem_of_getElem? (i := 236) rfl)) rfl
theorem wd_717 : Cond.methodLink RL 40 yX10_planned ∈ lw_g := wg_mem (wt3 (List.mem_of_getElem? (i := 237) rfl)) rfl
theorem wd_718 : Cond.instanceMethod yX10_planned ∈ lw_g := wg_mem (wt3 (List.mem_of_getElem? (i := 238) rfl)) rfl
theorem wd_719 : Cond.selects RX10 yX10_planned yX10_planned ∈ lw_g := wg_mem (wt3 (List.mem_of_getElem? (i := 239) rfl)) rfl
theorem wd_720 : Cond.code yX10_planned prog_1_method_11_code 2 (some FieldType.int) ∈ lw_g := wg_mem (wt4 (List.mem_of_getElem? (i := 0) rfl)) rfl
theorem wd_721 : Cond.methodLink RX10 149 yX10_requirePlan ∈ lw_g := wg_mem (wt4 (List.mem_of_getElem? (i := 1) rfl)) rfl
theorem wd_723 : Cond.instanceMethod yX10_requirePlan ∈ lw_g := wg_mem (wt4 (List.mem_of_getElem? (i := 3) rfl)) rfl
theorem wd_724 : Cond.code yX10_requirePlan prog_1_method_31_code 1 none ∈ lw_g := wg_mem (wt4 (List.mem_of_getElem? (i := 4) rfl)) rfl
theorem wd_726 : Cond.methodLink RX10 152 yX7_has ∈ lw_g := wg_mem (wt4 (List.mem_of_getElem? (i := 6) rfl)) rfl
theorem wd_727 : Cond.methodLink RX10 153 yX7_at ∈ lw_g := wg_mem (wt4 (List.mem_of_getElem? (i := 7) rfl)) rfl
theorem wd_728 : Cond.methodLink RL 118 yL_converted ∈ lw_g := wg_mem (wt4 (List.mem_of_getElem? (i := 8) rfl)) rfl
theorem wd_729 : Cond.static yL_converted ∈ lw_g := wg_mem (wt4 (List.mem_of_getElem? (i := 9) rfl)) rfl
theorem wd_730 : Cond.codeWith yL_converted method_11_code 3 (some FieldType.int) [((0 : Nat), (8 : Nat), (11 : Nat), (15 : Nat))] ∈ lw_g := wg_mem (wt4 (List.mem_of_getElem? (i := 10) rfl)) rfl
theorem wd_731 : Cond.methodLink RL 43 yX10_converted ∈ lw_g := wg_mem (wt4 (List.mem_of_getElem? (i := 11) rfl)) rfl
theorem wd_732 : Cond.instanceMethod yX10_converted ∈ lw_g := wg_mem (wt4 (List.mem_of_getElem? (i := 12) rfl)) rfl
theorem wd_733 : Cond.selects RX10 yX10_converted yX10_converted ∈ lw_g := wg_mem (wt4 (List.mem_of_getElem? (i := 13) rfl)) rfl
theorem wd_734 : Cond.code yX10_converted prog_1_method_12_code 1 (some FieldType.int) ∈ lw_g := wg_mem (wt4 (List.mem_of_getElem? (i := 14) rfl)) rfl
theorem wd_735 : Cond.methodLink RL 122 yL_loss ∈ lw_g := wg_mem (wt4 (List.mem_of_getElem? (i := 15) rfl)) rfl
theorem wd_736 : Cond.static yL_loss ∈ lw_g := wg_mem (wt4 (List.mem_of_getElem? (i := 16) rfl)) rfl
theorem wd_737 : Cond.codeWith yL_loss method_12_code 3 (some FieldType.int) [((0 : Nat), (8 : Nat), (11 : Nat), (15 : Nat))] ∈ lw_g := wg_mem (wt4 (List.mem_of_getElem? (i := 17) rfl)) rfl
theorem wd_738 : Cond.methodLink RL 47 yX10_loss ∈ lw_g := wg_mem (wt4 (List.mem_of_getElem? (i := 18) rfl)) rfl
theorem wd_739 : Cond.instanceMethod yX10_loss ∈ lw_g := wg_mem (wt4 (List.mem_of_getElem? (i := 19) rfl)) rfl
theorem wd_740 : Cond.selects RX10 yX10_loss yX10_loss ∈ lw_g := wg_mem (wt4 (List.mem_of_getElem? (i := 20) rfl)) rfl
theorem wd_741 : Cond.code yX10_loss prog_1_method_13_code 1 (some FieldType.int) ∈ lw_g := wg_mem (wt4 (List.mem_of_getElem? (i := 21) rfl)) rfl
theorem wd_742 : Cond.methodLink RL 129 yL_encode ∈ lw_g := wg_mem (wt4 (List.mem_of_getElem? (i := 22) rfl)) rfl
theorem wd_743 : Cond.static yL_encode ∈ lw_g := wg_mem (wt4 (List.mem_of_getElem? (i := 23) rfl)) rfl
theorem wd_744 : Cond.codeWith yL_encode method_13_code 3 (some FieldType.int) [((0 : Nat), (8 : Nat), (11 : Nat), (15 : Nat))] ∈ lw_g := wg_mem (wt4 (List.mem_of_getElem? (i := 24) rfl)) rfl
theorem wd_745 : Cond.methodLink RL 50 yX10_encode ∈ lw_g := wg_mem (wt4 (List.mem_of_getElem? (i := 25) rfl)) rfl
theorem wd_746 : Cond.instanceMethod yX10_encode ∈ lw_g := wg_mem (wt4 (List.mem_of_getElem? (i := 26) rfl)) rfl
theorem wd_747 : Cond.selects RX10 yX10_encode yX10_encode ∈ lw_g := wg_mem (wt4 (List.mem_of_getElem? (i := 27) rfl)) rfl
theorem wd_748 : Cond.code yX10_encode prog_1_method_15_code 1 (some FieldType.int) ∈ lw_g := wg_mem (wt4 (List.mem_of_getElem? (i := 28) rfl)) rfl
theorem wd_749 : Cond.methodLink RX10 161 yX3_lengthOf ∈ lw_g := wg_mem (wt4 (List.mem_of_getElem? (i := 29) rfl)) rfl
theorem wd_750 : Cond.static yX3_lengthOf ∈ lw_g := wg_mem (wt4 (List.mem_of_getElem? (i := 30) rfl)) rfl
theorem wd_751 : Cond.code yX3_lengthOf prog_5_method_2_code 3 (some FieldType.int) ∈ lw_g := wg_mem (wt4 (List.mem_of_getElem? (i := 31) rfl)) rfl
theorem wd_752 : Cond.methodLink RX3 25 yX7_isCopied ∈ lw_g := wg_mem (wt4 (List.mem_of_getElem? (i := 32) rfl)) rfl
theorem wd_753 : Cond.methodLink RX3 31 yX2_lengthOf ∈ lw_g := wg_mem (wt4 (List.mem_of_getElem? (i := 33) rfl)) rfl
theorem wd_755 : Cond.methodLink RX10 169 yX3_fill ∈ lw_g := wg_mem (wt4 (List.mem_of_getElem? (i := 35) rfl)) rfl
theorem wd_756 : Cond.static yX3_fill ∈ lw_g := wg_mem (wt4 (List.mem_of_getElem? (i := 36) rfl)) rfl
theorem wd_757 : Cond.code yX3_fill prog_5_method_3_code 3 none ∈ lw_g := wg_mem (wt4 (List.mem_of_getElem? (i := 37) rfl)) rfl
theorem wd_758 : Cond.methodLink RX3 39 yX0_cut ∈ lw_g := wg_mem (wt4 (List.mem_of_getElem? (i := 38) rfl)) rfl
theorem wd_759 : Cond.methodLink RX3 45 yX0_push ∈ lw_g := wg_mem (wt4 (List.mem_of_getElem? (i := 39) rfl)) rfl
theorem wd_760 : Cond.methodLink RX3 55 yX7_at ∈ lw_g := wg_mem (wt4 (List.mem_of_getElem? (i := 40) rfl)) rfl
theorem wd_761 : Cond.methodLink RX3 58 yX3_pushCommand ∈ lw_g := wg_mem (wt4 (List.mem_of_getElem? (i := 41) rfl)) rfl
theorem wd_762 : Cond.static yX3_pushCommand ∈ lw_g := wg_mem (wt4 (List.mem_of_getElem? (i := 42) rfl)) rfl
theorem wd_763 : Cond.code yX3_pushCommand prog_5_method_4_code 4 none ∈ lw_g := wg_mem (wt4 (List.mem_of_getElem? (i := 43) rfl)) rfl
theorem wd_764 : Cond.methodLink RX3 68 yX2_sourceOf ∈ lw_g := wg_mem (wt4 (List.mem_of_getElem? (i := 44) rfl)) rfl
theorem wd_765 : Cond.methodLink RX3 71 yX2_targetOf ∈ lw_g := wg_mem (wt4 (List.mem_of_getElem? (i := 45) rfl)) rfl
theorem wd_766 : Cond.methodLink RX3 74 yX8_byteToAdd ∈ lw_g := wg_mem (wt4 (List.mem_of_getElem? (i := 46) rfl)) rfl
theorem wd_767 : Cond.instanceMethod yX8_byteToAdd ∈ lw_g := wg_mem (wt4 (List.mem_of_getElem? (i := 47) rfl)) rfl
theorem wd_768 : Cond.selects RX8 yX8_byteToAdd yX8_byteToAdd ∈ lw_g := wg_mem (wt4 (List.mem_of_getElem? (i := 48) rfl)) rfl
theorem wd_769 : Cond.code yX8_byteToAdd prog_10_method_4_code 3 (some FieldType.int) ∈ lw_g := wg_mem (wt4 (List.mem_of_getElem? (i := 49) rfl)) rfl
theorem wd_770 : Cond.methodLink RX8 52 yX2_isCopy ∈ lw_g := wg_mem (wt4 (List.mem_of_getElem? (i := 50) rfl)) rfl
theorem wd_771 : Cond.methodLink RX8 56 yX2_sourceOf ∈ lw_g := wg_mem (wt4 (List.mem_of_getElem? (i := 51) rfl)) rfl
theorem wd_772 : Cond.methodLink RX8 60 yX0_at ∈ lw_g := wg_mem (wt4 (List.mem_of_getElem? (i := 52) rfl)) rfl
theorem wd_773 : Cond.methodLink RX8 63 yX2_targetOf ∈ lw_g := wg_mem (wt4 (List.mem_of_getElem? (i := 53) rfl)) rfl
theorem wd_774 : Cond.methodLink RX8 66 yX2_addedAt ∈ lw_g := wg_mem (wt4 (List.mem_of_getElem? (i := 54) rfl)) rfl
theorem wd_775 : Cond.methodLink RX3 64 yX0_sum ∈ lw_g := wg_mem (wt4 (List.mem_of_getElem? (i := 55) rfl)) rfl
theorem wd_776 : Cond.instanceMethod yX0_sum ∈ lw_g := wg_mem (wt4 (List.mem_of_getElem? (i := 56) rfl)) rfl
theorem wd_777 : Cond.selects RX0 yX0_sum yX0_sum ∈ lw_g := wg_mem (wt4 (List.mem_of_getElem? (i := 57) rfl)) rfl
theorem wd_778 : Cond.code yX0_sum prog_2_method_12_code 3 (some FieldType.int) ∈ lw_g := wg_mem (wt4 (List.mem_of_getElem? (i := 58) rfl)) rfl
theorem wd_779 : Cond.methodLink RL 132 yL_write ∈ lw_g := wg_mem (wt4 (List.mem_of_getElem? (i := 59) rfl)) rfl
theorem wd_780 : Cond.static yL_write ∈ lw_g := wg_mem (wt4 (List.mem_of_getElem? (i := 60) rfl)) rfl
theorem wd_781 : Cond.codeWith yL_write method_14_code 4 (some FieldType.int) [((0 : Nat), (9 : Nat), (12 : Nat), (13 : Nat)), ((0 : Nat), (9 : Nat), (15 : Nat), (15 : Nat))] ∈ lw_g := wg_mem (wt4 (List.mem_of_getElem? (i := 61) rfl)) rfl
theorem wd_782 : Cond.methodLink RL 53 yX10_write ∈ lw_g := wg_mem (wt4 (List.mem_of_getElem? (i := 62) rfl)) rfl
theorem wd_783 : Cond.instanceMethod yX10_write ∈ lw_g := wg_mem (wt4 (List.mem_of_getElem? (i := 63) rfl)) rfl
theorem wd_784 : Cond.selects RX10 yX10_write yX10_write ∈ lw_g := wg_mem (wt4 (List.mem_of_getElem? (i := 64) rfl)) rfl
theorem wd_785 : Cond.code yX10_write prog_1_method_16_code 2 (some FieldType.int) ∈ lw_g := wg_mem (wt4 (List.mem_of_getElem? (i := 65) rfl)) rfl
theorem wd_787 : Cond.methodLink RL 139 yL_code ∈ lw_g := wg_mem (wt4 (List.mem_of_getElem? (i := 67) rfl)) rfl
theorem wd_788 : Cond.static yL_code ∈ lw_g := wg_mem (wt4 (List.mem_of_getElem? (i := 68) rfl)) rfl
theorem wd_789 : Cond.codeWith yL_code method_15_code 4 (some FieldType.int) [((0 : Nat), (9 : Nat), (12 : Nat), (13 : Nat))] ∈ lw_g := wg_mem (wt4 (List.mem_of_getElem? (i := 69) rfl)) rfl
theorem wd_790 : Cond.methodLink RL 56 yX10_code ∈ lw_g := wg_mem (wt4 (List.mem_of_getElem? (i := 70) rfl)) rfl
theorem wd_791 : Cond.instanceMethod yX10_code ∈ lw_g := wg_mem (wt4 (List.mem_of_getElem? (i := 71) rfl)) rfl
theorem wd_792 : Cond.selects RX10 yX10_code yX10_code ∈ lw_g := wg_mem (wt4 (List.mem_of_getElem? (i := 72) rfl)) rfl
theorem wd_793 : Cond.code yX10_code prog_1_method_18_code 2 (some FieldType.int) ∈ lw_g := wg_mem (wt4 (List.mem_of_getElem? (i := 73) rfl)) rfl
theorem wd_794 : Cond.methodLink RX10 176 yX10_requireIndexOrLength ∈ lw_g := wg_mem (wt4 (List.mem_of_getElem? (i := 74) rfl)) rfl
theorem wd_795 : Cond.static yX10_requireIndexOrLength ∈ lw_g := wg_mem (wt4 (List.mem_of_getElem? (i := 75) rfl)) rfl
theorem wd_796 : Cond.code yX10_requireIndexOrLength prog_1_method_30_code 1 none ∈ lw_g := wg_mem (wt4 (List.mem_of_getElem? (i := 76) rfl)) rfl
theorem wd_798 : Cond.methodLink RX10 179 yX0_atOrLength ∈ lw_g := wg_mem (wt4 (List.mem_of_getElem? (i := 78) rfl)) rfl
theorem wd_799 : Cond.instanceMethod yX0_atOrLength ∈ lw_g := wg_mem (wt4 (List.mem_of_getElem? (i := 79) rfl)) rfl
theorem wd_800 : Cond.selects RX0 yX0_atOrLength yX0_atOrLength ∈ lw_g := wg_mem (wt4 (List.mem_of_getElem? (i := 80) rfl)) rfl
theorem wd_801 : Cond.code yX0_atOrLength prog_2_method_5_code 2 (some FieldType.int) ∈ lw_g := wg_mem (wt4 (List.mem_of_getElem? (i := 81) rfl)) rfl
theorem wd_802 : Cond.methodLink RL 146 yL_begin ∈ lw_g := wg_mem (wt4 (List.mem_of_getElem? (i := 82) rfl)) rfl
theorem wd_803 : Cond.static yL_begin ∈ lw_g := wg_mem (wt4 (List.mem_of_getElem? (i := 83) rfl)) rfl
theorem wd_804 : Cond.codeWith yL_begin method_16_code 3 (some FieldType.int) [((0 : Nat), (8 : Nat), (11 : Nat), (15 : Nat))] ∈ lw_g := wg_mem (wt4 (List.mem_of_getElem? (i := 84) rfl)) rfl
theorem wd_805 : Cond.methodLink RL 59 yX10_begin ∈ lw_g := wg_mem (wt4 (List.mem_of_getElem? (i := 85) rfl)) rfl
theorem wd_806 : Cond.instanceMethod yX10_begin ∈ lw_g := wg_mem (wt4 (List.mem_of_getElem? (i := 86) rfl)) rfl
theorem wd_807 : Cond.selects RX10 yX10_begin yX10_begin ∈ lw_g := wg_mem (wt4 (List.mem_of_getElem? (i := 87) rfl)) rfl
theorem wd_808 : Cond.code yX10_begin prog_1_method_20_code 1 (some FieldType.int) ∈ lw_g := wg_mem (wt4 (List.mem_of_getElem? (i := 88) rfl)) rfl
theorem wd_809 : Cond.methodLink RX10 195 yX9_start ∈ lw_g := wg_mem (wt4 (List.mem_of_getElem? (i := 89) rfl)) rfl
theorem wd_810 : Cond.instanceMethod yX9_start ∈ lw_g := wg_mem (wt4 (List.mem_of_getElem? (i := 90) rfl)) rfl
theorem wd_811 : Cond.selects RX9 yX9_start yX9_start ∈ lw_g := wg_mem (wt4 (List.mem_of_getElem? (i := 91) rfl)) rfl
theorem wd_812 : Cond.code yX9_start prog_11_method_2_code 3 none ∈ lw_g := wg_mem (wt4 (List.mem_of_getElem? (i := 92) rfl)) rfl
theorem wd_813 : Cond.methodLink RX9 56 yX0_push ∈ lw_g := wg_mem (wt4 (List.mem_of_getElem? (i := 93) rfl)) rfl
theorem wd_814 : Cond.methodLink RX9 59 yX9_cutIfFinished ∈ lw_g := wg_mem (wt4 (List.mem_of_getElem? (i := 94) rfl)) rfl
theorem wd_816 : Cond.instanceMethod yX9_cutIfFinished ∈ lw_g := wg_mem (wt4 (List.mem_of_getElem? (i := 96) rfl)) rfl
theorem wd_817 : Cond.code yX9_cutIfFinished prog_11_method_4_code 2 none ∈ lw_g := wg_mem (wt4 (List.mem_of_getElem? (i := 97) rfl)) rfl
theorem wd_818 : Cond.methodLink RX9 92 yX0_cut ∈ lw_g := wg_mem (wt4 (List.mem_of_getElem? (i := 98) rfl)) rfl
theorem wd_819 : Cond.methodLink RL 149 yL_step ∈ lw_g := wg_mem (wt4 (List.mem_of_getElem? (i := 99) rfl)) rfl
theorem wd_820 : Cond.static yL_step ∈ lw_g := wg_mem (wt4 (List.mem_of_getElem? (i := 100) rfl)) rfl
theorem wd_821 : Cond.codeWith yL_step method_17_code 3 (some FieldType.int) [((0 : Nat), (8 : Nat), (11 : Nat), (15 : Nat))] ∈ lw_g := wg_mem (wt4 (List.mem_of_getElem? (i := 101) rfl)) rfl
theorem wd_822 : Cond.methodLink RL 62 yX10_step ∈ lw_g := wg_mem (wt4 (List.mem_of_getElem? (i := 102) rfl)) rfl
theorem wd_823 : Cond.instanceMethod yX10_step ∈ lw_g := wg_mem (wt4 (List.mem_of_getElem? (i := 103) rfl)) rfl
theorem wd_824 : Cond.selects RX10 yX10_step yX10_step ∈ lw_g := wg_mem (wt4 (List.mem_of_getElem? (i := 104) rfl)) rfl
theorem wd_825 : Cond.code yX10_step prog_1_method_21_code 1 (some FieldType.int) ∈ lw_g := wg_mem (wt4 (List.mem_of_getElem? (i := 105) rfl)) rfl
theorem wd_826 : Cond.methodLink RX10 203 yX10_requireWork ∈ lw_g := wg_mem (wt4 (List.mem_of_getElem? (i := 106) rfl)) rfl
theorem wd_828 : Cond.instanceMethod yX10_requireWork ∈ lw_g := wg_mem (wt4 (List.mem_of_getElem? (i := 108) rfl)) rfl
theorem wd_829 : Cond.code yX10_requireWork prog_1_method_32_code 1 none ∈ lw_g := wg_mem (wt4 (List.mem_of_getElem? (i := 109) rfl)) rfl
theorem wd_832 : Cond.methodLink RX10 208 yX9_carryOutNext ∈ lw_g := wg_mem (wt4 (List.mem_of_getElem? (i := 112) rfl)) rfl
theorem wd_833 : Cond.instanceMethod yX9_carryOutNext ∈ lw_g := wg_mem (wt4 (List.mem_of_getElem? (i := 113) rfl)) rfl
theorem wd_834 : Cond.selects RX9 yX9_carryOutNext yX9_carryOutNext ∈ lw_g := wg_mem (wt4 (List.mem_of_getElem? (i := 114) rfl)) rfl
theorem wd_835 : Cond.code yX9_carryOutNext prog_11_method_3_code 6 none ∈ lw_g := wg_mem (wt4 (List.mem_of_getElem? (i := 115) rfl)) rfl
theorem wd_836 : Cond.methodLink RX9 63 yX7_at ∈ lw_g := wg_mem (wt4 (List.mem_of_getElem? (i := 116) rfl)) rfl
theorem wd_837 : Cond.methodLink RX9 67 yX2_targetOf ∈ lw_g := wg_mem (wt4 (List.mem_of_getElem? (i := 117) rfl)) rfl
theorem wd_838 : Cond.methodLink RX9 70 yX2_lengthOf ∈ lw_g := wg_mem (wt4 (List.mem_of_getElem? (i := 118) rfl)) rfl
theorem wd_839 : Cond.methodLink RX9 73 yX7_isCopied ∈ lw_g := wg_mem (wt4 (List.mem_of_getElem? (i := 119) rfl)) rfl
theorem wd_840 : Cond.methodLink RX9 77 yX2_sourceOf ∈ lw_g := wg_mem (wt4 (List.mem_of_getElem? (i := 120) rfl)) rfl
theorem wd_841 : Cond.methodLink RX9 80 yX0_move ∈ lw_g := wg_mem (wt4 (List.mem_of_getElem? (i := 121) rfl)) rfl
theorem wd_842 : Cond.instanceMethod yX0_move ∈ lw_g := wg_mem (wt4 (List.mem_of_getElem? (i := 122) rfl)) rfl
theorem wd_843 : Cond.selects RX0 yX0_move yX0_move ∈ lw_g := wg_mem (wt4 (List.mem_of_getElem? (i := 123) rfl)) rfl
theorem wd_844 : Cond.code yX0_move prog_2_method_9_code 4 none ∈ lw_g := wg_mem (wt4 (List.mem_of_getElem? (i := 124) rfl)) rfl
theorem wd_845 : Cond.methodLink RX9 84 yX8_byteToAdd ∈ lw_g := wg_mem (wt4 (List.mem_of_getElem? (i := 125) rfl)) rfl
theorem wd_846 : Cond.methodLink RX9 88 yX0_put ∈ lw_g := wg_mem (wt4 (List.mem_of_getElem? (i := 126) rfl)) rfl
theorem wd_847 : Cond.methodLink RL 152 yL_workByte ∈ lw_g := wg_mem (wt4 (List.mem_of_getElem? (i := 127) rfl)) rfl
theorem wd_848 : Cond.static yL_workByte ∈ lw_g := wg_mem (wt4 (List.mem_of_getElem? (i := 128) rfl)) rfl
theorem wd_849 : Cond.codeWith yL_workByte method_18_code 4 (some FieldType.int) [((0 : Nat), (9 : Nat), (12 : Nat), (13 : Nat)), ((0 : Nat), (9 : Nat), (15 : Nat), (15 : Nat))] ∈ lw_g := wg_mem (wt4 (List.mem_of_getElem? (i := 129) rfl)) rfl
theorem wd_850 : Cond.methodLink RL 65 yX10_workByte ∈ lw_g := wg_mem (wt4 (List.mem_of_getElem? (i := 130) rfl)) rfl
theorem wd_851 : Cond.instanceMethod yX10_workByte ∈ lw_g := wg_mem (wt4 (List.mem_of_getElem? (i := 131) rfl)) rfl
theorem wd_852 : Cond.selects RX10 yX10_workByte yX10_workByte ∈ lw_g := wg_mem (wt4 (List.mem_of_getElem? (i := 132) rfl)) rfl
theorem wd_853 : Cond.code yX10_workByte prog_1_method_22_code 2 (some FieldType.int) ∈ lw_g := wg_mem (wt4 (List.mem_of_getElem? (i := 133) rfl)) rfl
theorem wd_854 : Cond.methodLink RL 155 yL_compare ∈ lw_g := wg_mem (wt4 (List.mem_of_getElem? (i := 134) rfl)) rfl
theorem wd_855 : Cond.static yL_compare ∈ lw_g := wg_mem (wt4 (List.mem_of_getElem? (i := 135) rfl)) rfl
theorem wd_856 : Cond.codeWith yL_compare method_19_code 3 (some FieldType.int) [((0 : Nat), (8 : Nat), (11 : Nat), (15 : Nat))] ∈ lw_g := wg_mem (wt4 (List.mem_of_getElem? (i := 136) rfl)) rfl
theorem wd_857 : Cond.methodLink RL 68 yX10_compare ∈ lw_g := wg_mem (wt4 (List.mem_of_getElem? (i := 137) rfl)) rfl
theorem wd_858 : Cond.instanceMethod yX10_compare ∈ lw_g := wg_mem (wt4 (List.mem_of_getElem? (i := 138) rfl)) rfl
theorem wd_859 : Cond.selects RX10 yX10_compare yX10_compare ∈ lw_g := wg_mem (wt4 (List.mem_of_getElem? (i := 139) rfl)) rfl
theorem wd_860 : Cond.code yX10_compare prog_1_method_23_code 4 (some FieldType.int) ∈ lw_g := wg_mem (wt4 (List.mem_of_getElem? (i := 140) rfl)) rfl
theorem wd_861 : Cond.methodLink RX10 214 yX0_common ∈ lw_g := wg_mem (wt4 (List.mem_of_getElem? (i := 141) rfl)) rfl
theorem wd_862 : Cond.methodLink RL 163 yL_undo ∈ lw_g := wg_mem (wt4 (List.mem_of_getElem? (i := 142) rfl)) rfl
theorem wd_863 : Cond.static yL_undo ∈ lw_g := wg_mem (wt4 (List.mem_of_getElem? (i := 143) rfl)) rfl
theorem wd_864 : Cond.codeWith yL_undo method_20_code 3 (some FieldType.int) [((0 : Nat), (8 : Nat), (11 : Nat), (15 : Nat))] ∈ lw_g := wg_mem (wt4 (List.mem_of_getElem? (i := 144) rfl)) rfl
theorem wd_865 : Cond.methodLink RL 71 yX10_undo ∈ lw_g := wg_mem (wt4 (List.mem_of_getElem? (i := 145) rfl)) rfl
theorem wd_866 : Cond.instanceMethod yX10_undo ∈ lw_g := wg_mem (wt4 (List.mem_of_getElem? (i := 146) rfl)) rfl
theorem wd_867 : Cond.selects RX10 yX10_undo yX10_undo ∈ lw_g := wg_mem (wt4 (List.mem_of_getElem? (i := 147) rfl)) rfl
theorem wd_868 : Cond.code yX10_undo prog_1_method_25_code 1 (some FieldType.int) ∈ lw_g := wg_mem (wt4 (List.mem_of_getElem? (i := 148) rfl)) rfl
theorem wd_870 : Cond.methodLink RX10 221 yX4_restore ∈ lw_g := wg_mem (wt4 (List.mem_of_getElem? (i := 150) rfl)) rfl
theorem wd_871 : Cond.instanceMethod yX4_restore ∈ lw_g := wg_mem (wt4 (List.mem_of_getElem? (i := 151) rfl)) rfl
theorem wd_872 : Cond.selects RX4 yX4_restore yX4_restore ∈ lw_g := wg_mem (wt4 (List.mem_of_getElem? (i := 152) rfl)) rfl
theorem wd_873 : Cond.code yX4_restore prog_6_method_3_code 2 none ∈ lw_g := wg_mem (wt4 (List.mem_of_getElem? (i := 153) rfl)) rfl
theorem wd_874 : Cond.classLink RL 75 RX11 ∈ lw_g := wg_mem (wt4 (List.mem_of_getElem? (i := 154) rfl)) rfl
theorem wd_875 : Cond.instantiable RX11 14 ∈ lw_g := wg_mem (wt4 (List.mem_of_getElem? (i := 155) rfl)) rfl
theorem wd_876 : Cond.methodLink RL 77 yX11_init ∈ lw_g := wg_mem (wt4 (List.mem_of_getElem? (i := 156) rfl)) rfl
theorem wd_877 : Cond.instanceMethod yX11_init ∈ lw_g := wg_mem (wt4 (List.mem_of_getElem? (i := 157) rfl)) rfl
theorem wd_878 : Cond.code yX11_init prog_13_method_1_code 1 none ∈ lw_g := wg_mem (wt4 (List.mem_of_getElem? (i := 158) rfl)) rfl
theorem wd_879 : Cond.methodLink RX11 1 objectInit ∈ lw_g := wg_mem (wt4 (List.mem_of_getElem? (i := 159) rfl)) rfl
theorem wd_880 : Cond.fieldLink RX11 7 "InPlaceDeltaModel" "all" "[I" ∈ lw_g := wg_mem (wt4 (List.mem_of_getElem? (i := 160) rfl)) rfl
theorem wd_881 : Cond.fieldLink RX11 13 "InPlaceDeltaModel" "saved" "[I" ∈ lw_g := wg_mem (wt4 (List.mem_of_getElem? (i := 161) rfl)) rfl
theorem wd_882 : Cond.fieldLink RX11 39 "InPlaceDeltaModel" "savedMany" "I" ∈ lw_g := wg_mem (wt4 (List.mem_of_getElem? (i := 162) rfl)) rfl
theorem wd_883 : Cond.fieldLink RX11 35 "InPlaceDeltaModel" "thrown" "I" ∈ lw_g := wg_mem (wt4 (List.mem_of_getElem? (i := 163) rfl)) rfl
theorem wd_884 : Cond.fieldLink RX11 16 "InPlaceDeltaModel" "ahead" "[I" ∈ lw_g := wg_mem (wt4 (List.mem_of_getElem? (i := 164) rfl)) rfl
theorem wd_885 : Cond.fieldLink RX11 19 "InPlaceDeltaModel" "draft" "[I" ∈ lw_g := wg_mem (wt4 (List.mem_of_getElem? (i := 165) rfl)) rfl
theorem wd_886 : Cond.fieldLink RX11 130 "InPlaceDeltaModel" "draftLong" "I" ∈ lw_g := wg_mem (wt4 (List.mem_of_getElem? (i := 166) rfl)) rfl
theorem wd_887 : Cond.fieldLink RX11 146 "InPlaceDeltaModel" "at" "I" ∈ lw_g := wg_mem (wt4 (List.mem_of_getElem? (i := 167) rfl)) rfl
theorem wd_888 : Cond.fieldLink RX11 143 "InPlaceDeltaModel" "fault" "I" ∈ lw_g := wg_mem (wt4 (List.mem_of_getElem? (i := 168) rfl)) rfl
theorem wd_889 : Cond.fieldLink RX11 22 "InPlaceDeltaModel" "read" "[I" ∈ lw_g := wg_mem (wt4 (List.mem_of_getElem? (i := 169) rfl)) rfl
theorem wd_890 : Cond.fieldLink RX11 25 "InPlaceDeltaModel" "readBytes" "[I" ∈ lw_g := wg_mem (wt4 (List.mem_of_getElem? (i := 170) rfl)) rfl
theorem wd_891 : Cond.fieldLink RX11 28 "InPlaceDeltaModel" "isWritten" "[Z" ∈ lw_g := wg_mem (wt4 (List.mem_of_getElem? (i := 171) rfl)) rfl
theorem wd_892 : Cond.fieldLink RX11 156 "InPlaceDeltaModel" "readCopies" "I" ∈ lw_g := wg_mem (wt4 (List.mem_of_getElem? (i := 172) rfl)) rfl
theorem wd_893 : Cond.fieldLink RX11 32 "InPlaceDeltaModel" "reads" "[I" ∈ lw_g := wg_mem (wt4 (List.mem_of_getElem? (i := 173) rfl)) rfl
theorem wd_923 : Cond.arrayClass FieldType.boolean ∈ lw_g := wg_mem (wt4 (List.mem_of_getElem? (i := 203) rfl)) rfl
theorem wd_924 : Cond.methodLink RL 84 yX11_thrown ∈ lw_g := wg_mem (wt4 (List.mem_of_getElem? (i := 204) rfl)) rfl
theorem wd_925 : Cond.instanceMethod yX11_thrown ∈ lw_g := wg_mem (wt4 (List.mem_of_getElem? (i := 205) rfl)) rfl
theorem wd_926 : Cond.selects RX11 yX11_thrown yX11_thrown ∈ lw_g := wg_mem (wt4 (List.mem_of_getElem? (i := 206) rfl)) rfl
theorem wd_927 : Cond.code yX11_thrown prog_13_method_2_code 1 (some FieldType.int) ∈ lw_g := wg_mem (wt4 (List.mem_of_getElem? (i := 207) rfl)) rfl
theorem wd_928 : Cond.methodLink RL 83 yX11_append ∈ lw_g := wg_mem (wt4 (List.mem_of_getElem? (i := 208) rfl)) rfl
theorem wd_929 : Cond.instanceMethod yX11_append ∈ lw_g := wg_mem (wt4 (List.mem_of_getElem? (i := 209) rfl)) rfl
theorem wd_930 : Cond.selects RX11 yX11_append yX11_append ∈ lw_g := wg_mem (wt4 (List.mem_of_getElem? (i := 210) rfl)) rfl
theorem wd_931 : Cond.code yX11_append prog_13_method_11_code 3 (some FieldType.int) ∈ lw_g := wg_mem (wt4 (List.mem_of_getElem? (i := 211) rfl)) rfl
theorem wd_932 : Cond.methodLink RX11 48 yX11_isVersion ∈ lw_g := wg_mem (wt4 (List.mem_of_getElem? (i := 212) rfl)) rfl
theorem wd_933 : Cond.static yX11_isVersion ∈ lw_g := wg_mem (wt4 (List.mem_of_getElem? (i := 213) rfl)) rfl
theorem wd_934 : Cond.code yX11_isVersion prog_13_method_7_code 1 (some FieldType.boolean) ∈ lw_g := wg_mem (wt4 (List.mem_of_getElem? (i := 214) rfl)) rfl
theorem wd_935 : Cond.methodLink RX11 44 yX11_in ∈ lw_g := wg_mem (wt4 (List.mem_of_getElem? (i := 215) rfl)) rfl
theorem wd_936 : Cond.static yX11_in ∈ lw_g := wg_mem (wt4 (List.mem_of_getElem? (i := 216) rfl)) rfl
theorem wd_937 : Cond.code yX11_in prog_13_method_3_code 6 (some FieldType.boolean) ∈ lw_g := wg_mem (wt4 (List.mem_of_getElem? (i := 217) rfl)) rfl
theorem wd_938 : Cond.methodLink RX11 52 yX11_isByte ∈ lw_g := wg_mem (wt4 (List.mem_of_getElem? (i := 218) rfl)) rfl
theorem wd_939 : Cond.static yX11_isByte ∈ lw_g := wg_mem (wt4 (List.mem_of_getElem? (i := 219) rfl)) rfl
theorem wd_940 : Cond.code yX11_isByte prog_13_method_6_code 1 (some FieldType.boolean) ∈ lw_g := wg_mem (wt4 (List.mem_of_getElem? (i := 220) rfl)) rfl
theorem wd_941 : Cond.constantLong RX11 42 (255) ∈ lw_g := wg_mem (wt4 (List.mem_of_getElem? (i := 221) rfl)) rfl
theorem wd_942 : Cond.methodLink RX11 55 yX11_longOf ∈ lw_g := wg_mem (wt4 (List.mem_of_getElem? (i := 222) rfl)) rfl
theorem wd_944 : Cond.instanceMethod yX11_longOf ∈ lw_g := wg_mem (wt4 (List.mem_of_getElem? (i := 224) rfl)) rfl
theorem wd_945 : Cond.code yX11_longOf prog_13_method_9_code 2 (some FieldType.int) ∈ lw_g := wg_mem (wt4 (List.mem_of_getElem? (i := 225) rfl)) rfl
theorem wd_946 : Cond.methodLink RX11 59 yX11_goes ∈ lw_g := wg_mem (wt4 (List.mem_of_getElem? (i := 226) rfl)) rfl
theorem wd_948 : Cond.instanceMethod yX11_goes ∈ lw_g := wg_mem (wt4 (List.mem_of_getElem? (i := 228) rfl)) rfl
theorem wd_949 : Cond.code yX11_goes prog_13_method_4_code 3 (some FieldType.boolean) ∈ lw_g := wg_mem (wt4 (List.mem_of_getElem? (i := 229) rfl)) rfl
theorem wd_950 : Cond.methodLink RX11 63 yX11_save ∈ lw_g := wg_mem (wt4 (List.mem_of_getElem? (i := 230) rfl)) rfl
theorem wd_952 : Cond.instanceMethod yX11_save ∈ lw_g := wg_mem (wt4 (List.mem_of_getElem? (i := 232) rfl)) rfl
theorem wd_953 : Cond.code yX11_save prog_13_method_5_code 2 none ∈ lw_g := wg_mem (wt4 (List.mem_of_getElem? (i := 233) rfl)) rfl
theorem wd_954 : Cond.methodLink RX11 66 yX11_dropsPlan ∈ lw_g := wg_mem (wt4 (List.mem_of_getElem? (i := 234) rfl)) rfl
theorem wd_956 : Cond.instanceMethod yX11_dropsPlan ∈ lw_g := wg_mem (wt4 (List.mem_of_getElem? (i := 236) rfl)) rfl
theorem wd_957 : Cond.code yX11_dropsPlan prog_13_method_8_code 1 none ∈ lw_g := wg_mem (wt4 (List.mem_of_getElem? (i := 237) rfl)) rfl
theorem wd_958 : Cond.methodLink RL 90 yX11_patch ∈ lw_g := wg_mem (wt4 (List.mem_of_getElem? (i := 238) rfl)) rfl
theorem wd_959 : Cond.instanceMethod yX11_patch ∈ lw_g := wg_mem (wt4 (List.mem_of_getElem? (i := 239) rfl)) rfl
theorem wd_960 : Cond.selects RX11 yX11_patch yX11_patch ∈ lw_g := wg_mem (wt5 (List.mem_of_getElem? (i := 0) rfl)) rfl
theorem wd_961 : Cond.code yX11_patch prog_13_method_13_code 5 (some FieldType.int) ∈ lw_g := wg_mem (wt5 (List.mem_of_getElem? (i := 1) rfl)) rfl
theorem wd_962 : Cond.methodLink RX11 69 yX11_hasByte ∈ lw_g := wg_mem (wt5 (List.mem_of_getElem? (i := 2) rfl)) rfl
theorem wd_964 : Cond.instanceMethod yX11_hasByte ∈ lw_g := wg_mem (wt5 (List.mem_of_getElem? (i := 4) rfl)) rfl
theorem wd_965 : Cond.code yX11_hasByte prog_13_method_12_code 3 (some FieldType.boolean) ∈ lw_g := wg_mem (wt5 (List.mem_of_getElem? (i := 5) rfl)) rfl
theorem wd_966 : Cond.methodLink RX11 73 yX11_byteAt ∈ lw_g := wg_mem (wt5 (List.mem_of_getElem? (i := 6) rfl)) rfl
theorem wd_968 : Cond.instanceMethod yX11_byteAt ∈ lw_g := wg_mem (wt5 (List.mem_of_getElem? (i := 8) rfl)) rfl
theorem wd_969 : Cond.code yX11_byteAt prog_13_method_10_code 3 (some FieldType.int) ∈ lw_g := wg_mem (wt5 (List.mem_of_getElem? (i := 9) rfl)) rfl
theorem wd_970 : Cond.methodLink RL 94 yX11_clear ∈ lw_g := wg_mem (wt5 (List.mem_of_getElem? (i := 10) rfl)) rfl
theorem wd_971 : Cond.instanceMethod yX11_clear ∈ lw_g := wg_mem (wt5 (List.mem_of_getElem? (i := 11) rfl)) rfl
theorem wd_972 : Cond.selects RX11 yX11_clear yX11_clear ∈ lw_g := wg_mem (wt5 (List.mem_of_getElem? (i := 12) rfl)) rfl
theorem wd_973 : Cond.code yX11_clear prog_13_method_14_code 3 (some FieldType.int) ∈ lw_g := wg_mem (wt5 (List.mem_of_getElem? (i := 13) rfl)) rfl
theorem wd_974 : Cond.methodLink RL 97 yX11_byteOf ∈ lw_g := wg_mem (wt5 (List.mem_of_getElem? (i := 14) rfl)) rfl
theorem wd_975 : Cond.instanceMethod yX11_byteOf ∈ lw_g := wg_mem (wt5 (List.mem_of_getElem? (i := 15) rfl)) rfl
theorem wd_976 : Cond.selects RX11 yX11_byteOf yX11_byteOf ∈ lw_g := wg_mem (wt5 (List.mem_of_getElem? (i := 16) rfl)) rfl
theorem wd_977 : Cond.code yX11_byteOf prog_13_method_15_code 3 (some FieldType.int) ∈ lw_g := wg_mem (wt5 (List.mem_of_getElem? (i := 17) rfl)) rfl
theorem wd_978 : Cond.methodLink RL 101 yX11_make ∈ lw_g := wg_mem (wt5 (List.mem_of_getElem? (i := 18) rfl)) rfl
theorem wd_979 : Cond.instanceMethod yX11_make ∈ lw_g := wg_mem (wt5 (List.mem_of_getElem? (i := 19) rfl)) rfl
theorem wd_980 : Cond.selects RX11 yX11_make yX11_make ∈ lw_g := wg_mem (wt5 (List.mem_of_getElem? (i := 20) rfl)) rfl
theorem wd_981 : Cond.code yX11_make prog_13_method_20_code 6 (some FieldType.int) ∈ lw_g := wg_mem (wt5 (List.mem_of_getElem? (i := 21) rfl)) rfl
theorem wd_982 : Cond.methodLink RX11 80 yX11_matchLong ∈ lw_g := wg_mem (wt5 (List.mem_of_getElem? (i := 22) rfl)) rfl
theorem wd_984 : Cond.instanceMethod yX11_matchLong ∈ lw_g := wg_mem (wt5 (List.mem_of_getElem? (i := 24) rfl)) rfl
theorem wd_985 : Cond.code yX11_matchLong prog_13_method_19_code 4 (some FieldType.int) ∈ lw_g := wg_mem (wt5 (List.mem_of_getElem? (i := 25) rfl)) rfl
theorem wd_986 : Cond.methodLink RX11 83 yX11_adds ∈ lw_g := wg_mem (wt5 (List.mem_of_getElem? (i := 26) rfl)) rfl
theorem wd_988 : Cond.instanceMethod yX11_adds ∈ lw_g := wg_mem (wt5 (List.mem_of_getElem? (i := 28) rfl)) rfl
theorem wd_989 : Cond.code yX11_adds prog_13_method_21_code 3 none ∈ lw_g := wg_mem (wt5 (List.mem_of_getElem? (i := 29) rfl)) rfl
theorem wd_990 : Cond.methodLink RX11 87 yX11_appends ∈ lw_g := wg_mem (wt5 (List.mem_of_getElem? (i := 30) rfl)) rfl
theorem wd_992 : Cond.instanceMethod yX11_appends ∈ lw_g := wg_mem (wt5 (List.mem_of_getElem? (i := 32) rfl)) rfl
theorem wd_993 : Cond.code yX11_appends prog_13_method_18_code 6 none ∈ lw_g := wg_mem (wt5 (List.mem_of_getElem? (i := 33) rfl)) rfl
theorem wd_994 : Cond.methodLink RL 105 yX11_commands ∈ lw_g := wg_mem (wt5 (List.mem_of_getElem? (i := 34) rfl)) rfl
theorem wd_995 : Cond.instanceMethod yX11_commands ∈ lw_g := wg_mem (wt5 (List.mem_of_getElem? (i := 35) rfl)) rfl
theorem wd_996 : Cond.selects RX11 yX11_commands yX11_commands ∈ lw_g := wg_mem (wt5 (List.mem_of_getElem? (i := 36) rfl)) rfl
theorem wd_997 : Cond.code yX11_commands prog_13_method_22_code 1 (some FieldType.int) ∈ lw_g := wg_mem (wt5 (List.mem_of_getElem? (i := 37) rfl)) rfl
theorem wd_998 : Cond.methodLink RL 108 yX11_command ∈ lw_g := wg_mem (wt5 (List.mem_of_getElem? (i := 38) rfl)) rfl
theorem wd_999 : Cond.instanceMethod yX11_command ∈ lw_g := wg_mem (wt5 (List.mem_of_getElem? (i := 39) rfl)) rfl
theorem wd_1000 : Cond.selects RX11 yX11_command yX11_command ∈ lw_g := wg_mem (wt5 (List.mem_of_getElem? (i := 40) rfl)) rfl
theorem wd_1001 : Cond.code yX11_command prog_13_method_24_code 3 (some FieldType.int) ∈ lw_g := wg_mem (wt5 (List.mem_of_getElem? (i := 41) rfl)) rfl
theorem wd_1002 : Cond.methodLink RX11 91 yX11_isCommand ∈ lw_g := wg_mem (wt5 (List.mem_of_getElem? (i := 42) rfl)) rfl
theorem wd_1004 : Cond.instanceMethod yX11_isCommand ∈ lw_g := wg_mem (wt5 (List.mem_of_getElem? (i := 44) rfl)) rfl
theorem wd_1005 : Cond.code yX11_isCommand prog_13_method_23_code 2 (some FieldType.boolean) ∈ lw_g := wg_mem (wt5 (List.mem_of_getElem? (i := 45) rfl)) rfl
theorem wd_1006 : Cond.constantLong RX11 94 (3) ∈ lw_g := wg_mem (wt5 (List.mem_of_getElem? (i := 46) rfl)) rfl
theorem wd_1007 : Cond.methodLink RX11 77 yX11_of ∈ lw_g := wg_mem (wt5 (List.mem_of_getElem? (i := 47) rfl)) rfl
theorem wd_1009 : Cond.instanceMethod yX11_of ∈ lw_g := wg_mem (wt5 (List.mem_of_getElem? (i := 49) rfl)) rfl
theorem wd_1010 : Cond.code yX11_of prog_13_method_16_code 3 (some FieldType.int) ∈ lw_g := wg_mem (wt5 (List.mem_of_getElem? (i := 50) rfl)) rfl
theorem wd_1011 : Cond.methodLink RL 111 yX11_mustPrecede ∈ lw_g := wg_mem (wt5 (List.mem_of_getElem? (i := 51) rfl)) rfl
theorem wd_1012 : Cond.instanceMethod yX11_mustPrecede ∈ lw_g := wg_mem (wt5 (List.mem_of_getElem? (i := 52) rfl)) rfl
theorem wd_1013 : Cond.selects RX11 yX11_mustPrecede yX11_mustPrecede ∈ lw_g := wg_mem (wt5 (List.mem_of_getElem? (i := 53) rfl)) rfl
theorem wd_1014 : Cond.code yX11_mustPrecede prog_13_method_26_code 3 (some FieldType.boolean) ∈ lw_g := wg_mem (wt5 (List.mem_of_getElem? (i := 54) rfl)) rfl
theorem wd_1015 : Cond.methodLink RX11 99 yX11_precedes ∈ lw_g := wg_mem (wt5 (List.mem_of_getElem? (i := 55) rfl)) rfl
theorem wd_1017 : Cond.instanceMethod yX11_precedes ∈ lw_g := wg_mem (wt5 (List.mem_of_getElem? (i := 57) rfl)) rfl
theorem wd_1018 : Cond.code yX11_precedes prog_13_method_25_code 3 (some FieldType.boolean) ∈ lw_g := wg_mem (wt5 (List.mem_of_getElem? (i := 58) rfl)) rfl
theorem wd_1019 : Cond.methodLink RX11 96 yX11_isCopy ∈ lw_g := wg_mem (wt5 (List.mem_of_getElem? (i := 59) rfl)) rfl
theorem wd_1021 : Cond.instanceMethod yX11_isCopy ∈ lw_g := wg_mem (wt5 (List.mem_of_getElem? (i := 61) rfl)) rfl
theorem wd_1022 : Cond.code yX11_isCopy prog_13_method_17_code 2 (some FieldType.boolean) ∈ lw_g := wg_mem (wt5 (List.mem_of_getElem? (i := 62) rfl)) rfl
theorem wd_1023 : Cond.methodLink RL 114 yX11_plan ∈ lw_g := wg_mem (wt5 (List.mem_of_getElem? (i := 63) rfl)) rfl
theorem wd_1024 : Cond.instanceMethod yX11_plan ∈ lw_g := wg_mem (wt5 (List.mem_of_getElem? (i := 64) rfl)) rfl
theorem wd_1025 : Cond.selects RX11 yX11_plan yX11_plan ∈ lw_g := wg_mem (wt5 (List.mem_of_getElem? (i := 65) rfl)) rfl
theorem wd_1026 : Cond.code yX11_plan prog_13_method_31_code 7 (some FieldType.int) ∈ lw_g := wg_mem (wt5 (List.mem_of_getElem? (i := 66) rfl)) rfl
theorem wd_1027 : Cond.constantLong RX11 105 (2) ∈ lw_g := wg_mem (wt5 (List.mem_of_getElem? (i := 67) rfl)) rfl
theorem wd_1028 : Cond.methodLink RX11 107 yX11_copies ∈ lw_g := wg_mem (wt5 (List.mem_of_getElem? (i := 68) rfl)) rfl
theorem wd_1030 : Cond.instanceMethod yX11_copies ∈ lw_g := wg_mem (wt5 (List.mem_of_getElem? (i := 70) rfl)) rfl
theorem wd_1031 : Cond.code yX11_copies prog_13_method_28_code 3 (some FieldType.int) ∈ lw_g := wg_mem (wt5 (List.mem_of_getElem? (i := 71) rfl)) rfl
theorem wd_1032 : Cond.methodLink RX11 111 yX11_freeOf ∈ lw_g := wg_mem (wt5 (List.mem_of_getElem? (i := 72) rfl)) rfl
theorem wd_1034 : Cond.instanceMethod yX11_freeOf ∈ lw_g := wg_mem (wt5 (List.mem_of_getElem? (i := 74) rfl)) rfl
theorem wd_1035 : Cond.code yX11_freeOf prog_13_method_27_code 5 (some FieldType.int) ∈ lw_g := wg_mem (wt5 (List.mem_of_getElem? (i := 75) rfl)) rfl
theorem wd_1036 : Cond.methodLink RX11 114 yX11_victim ∈ lw_g := wg_mem (wt5 (List.mem_of_getElem? (i := 76) rfl)) rfl
theorem wd_1038 : Cond.instanceMethod yX11_victim ∈ lw_g := wg_mem (wt5 (List.mem_of_getElem? (i := 78) rfl)) rfl
theorem wd_1039 : Cond.code yX11_victim prog_13_method_30_code 7 (some FieldType.int) ∈ lw_g := wg_mem (wt5 (List.mem_of_getElem? (i := 79) rfl)) rfl
theorem wd_1040 : Cond.methodLink RX11 102 yX11_others ∈ lw_g := wg_mem (wt5 (List.mem_of_getElem? (i := 80) rfl)) rfl
theorem wd_1042 : Cond.instanceMethod yX11_others ∈ lw_g := wg_mem (wt5 (List.mem_of_getElem? (i := 82) rfl)) rfl
theorem wd_1043 : Cond.code yX11_others prog_13_method_29_code 5 (some FieldType.int) ∈ lw_g := wg_mem (wt5 (List.mem_of_getElem? (i := 83) rfl)) rfl
theorem wd_1044 : Cond.methodLink RL 117 yX11_planned ∈ lw_g := wg_mem (wt5 (List.mem_of_getElem? (i := 84) rfl)) rfl
theorem wd_1045 : Cond.instanceMethod yX11_planned ∈ lw_g := wg_mem (wt5 (List.mem_of_getElem? (i := 85) rfl)) rfl
theorem wd_1046 : Cond.selects RX11 yX11_planned yX11_planned ∈ lw_g := wg_mem (wt5 (List.mem_of_getElem? (i := 86) rfl)) rfl
theorem wd_1047 : Cond.code yX11_planned prog_13_method_33_code 2 (some FieldType.int) ∈ lw_g := wg_mem (wt5 (List.mem_of_getElem? (i := 87) rfl)) rfl
theorem wd_1048 : Cond.methodLink RX11 117 yX11_isPlanned ∈ lw_g := wg_mem (wt5 (List.mem_of_getElem? (i := 88) rfl)) rfl
theorem wd_1050 : Cond.instanceMethod yX11_isPlanned ∈ lw_g := wg_mem (wt5 (List.mem_of_getElem? (i := 90) rfl)) rfl
theorem wd_1051 : Cond.code yX11_isPlanned prog_13_method_32_code 1 (some FieldType.boolean) ∈ lw_g := wg_mem (wt5 (List.mem_of_getElem? (i := 91) rfl)) rfl
theorem wd_1052 : Cond.methodLink RL 121 yX11_converted ∈ lw_g := wg_mem (wt5 (List.mem_of_getElem? (i := 92) rfl)) rfl
theorem wd_1053 : Cond.instanceMethod yX11_converted ∈ lw_g := wg_mem (wt5 (List.mem_of_getElem? (i := 93) rfl)) rfl
theorem wd_1054 : Cond.selects RX11 yX11_converted yX11_converted ∈ lw_g := wg_mem (wt5 (List.mem_of_getElem? (i := 94) rfl)) rfl
theorem wd_1055 : Cond.code yX11_converted prog_13_method_34_code 1 (some FieldType.int) ∈ lw_g := wg_mem (wt5 (List.mem_of_getElem? (i := 95) rfl)) rfl
theorem wd_1056 : Cond.methodLink RL 124 yX11_loss ∈ lw_g := wg_mem (wt5 (List.mem_of_getElem? (i := 96) rfl)) rfl
theorem wd_1057 : Cond.instanceMethod yX11_loss ∈ lw_g := wg_mem (wt5 (List.mem_of_getElem? (i := 97) rfl)) rfl
theorem wd_1058 : Cond.selects RX11 yX11_loss yX11_loss ∈ lw_g := wg_mem (wt5 (List.mem_of_getElem? (i := 98) rfl)) rfl
theorem wd_1059 : Cond.code yX11_loss prog_13_method_36_code 1 (some FieldType.int) ∈ lw_g := wg_mem (wt5 (List.mem_of_getElem? (i := 99) rfl)) rfl
theorem wd_1060 : Cond.methodLink RX11 121 yX11_lossOf ∈ lw_g := wg_mem (wt5 (List.mem_of_getElem? (i := 100) rfl)) rfl
theorem wd_1062 : Cond.instanceMethod yX11_lossOf ∈ lw_g := wg_mem (wt5 (List.mem_of_getElem? (i := 102) rfl)) rfl
theorem wd_1063 : Cond.code yX11_lossOf prog_13_method_35_code 4 (some FieldType.int) ∈ lw_g := wg_mem (wt5 (List.mem_of_getElem? (i := 103) rfl)) rfl
theorem wd_1064 : Cond.methodLink RL 128 yX11_leastLoss ∈ lw_g := wg_mem (wt5 (List.mem_of_getElem? (i := 104) rfl)) rfl
theorem wd_1065 : Cond.instanceMethod yX11_leastLoss ∈ lw_g := wg_mem (wt5 (List.mem_of_getElem? (i := 105) rfl)) rfl
theorem wd_1066 : Cond.selects RX11 yX11_leastLoss yX11_leastLoss ∈ lw_g := wg_mem (wt5 (List.mem_of_getElem? (i := 106) rfl)) rfl
theorem wd_1067 : Cond.code yX11_leastLoss prog_13_method_39_code 1 (some FieldType.int) ∈ lw_g := wg_mem (wt5 (List.mem_of_getElem? (i := 107) rfl)) rfl
theorem wd_1068 : Cond.methodLink RX11 127 yX11_leastLossOf ∈ lw_g := wg_mem (wt5 (List.mem_of_getElem? (i := 108) rfl)) rfl
theorem wd_1070 : Cond.instanceMethod yX11_leastLossOf ∈ lw_g := wg_mem (wt5 (List.mem_of_getElem? (i := 110) rfl)) rfl
theorem wd_1071 : Cond.code yX11_leastLossOf prog_13_method_38_code 4 (some FieldType.int) ∈ lw_g := wg_mem (wt5 (List.mem_of_getElem? (i := 111) rfl)) rfl
theorem wd_1072 : Cond.methodLink RX11 124 yX11_isOrderly ∈ lw_g := wg_mem (wt5 (List.mem_of_getElem? (i := 112) rfl)) rfl
theorem wd_1074 : Cond.instanceMethod yX11_isOrderly ∈ lw_g := wg_mem (wt5 (List.mem_of_getElem? (i := 114) rfl)) rfl
theorem wd_1075 : Cond.code yX11_isOrderly prog_13_method_37_code 5 (some FieldType.boolean) ∈ lw_g := wg_mem (wt5 (List.mem_of_getElem? (i := 115) rfl)) rfl
theorem wd_1076 : Cond.methodLink RL 131 yX11_encode ∈ lw_g := wg_mem (wt5 (List.mem_of_getElem? (i := 116) rfl)) rfl
theorem wd_1077 : Cond.instanceMethod yX11_encode ∈ lw_g := wg_mem (wt5 (List.mem_of_getElem? (i := 117) rfl)) rfl
theorem wd_1078 : Cond.selects RX11 yX11_encode yX11_encode ∈ lw_g := wg_mem (wt5 (List.mem_of_getElem? (i := 118) rfl)) rfl
theorem wd_1079 : Cond.code yX11_encode prog_13_method_43_code 3 (some FieldType.int) ∈ lw_g := wg_mem (wt5 (List.mem_of_getElem? (i := 119) rfl)) rfl
theorem wd_1080 : Cond.methodLink RX11 140 yX11_encodes ∈ lw_g := wg_mem (wt5 (List.mem_of_getElem? (i := 120) rfl)) rfl
theorem wd_1082 : Cond.instanceMethod yX11_encodes ∈ lw_g := wg_mem (wt5 (List.mem_of_getElem? (i := 122) rfl)) rfl
theorem wd_1083 : Cond.code yX11_encodes prog_13_method_41_code 5 none ∈ lw_g := wg_mem (wt5 (List.mem_of_getElem? (i := 123) rfl)) rfl
theorem wd_1084 : Cond.methodLink RX11 133 yX11_writes ∈ lw_g := wg_mem (wt5 (List.mem_of_getElem? (i := 124) rfl)) rfl
theorem wd_1086 : Cond.instanceMethod yX11_writes ∈ lw_g := wg_mem (wt5 (List.mem_of_getElem? (i := 126) rfl)) rfl
theorem wd_1087 : Cond.code yX11_writes prog_13_method_40_code 2 none ∈ lw_g := wg_mem (wt5 (List.mem_of_getElem? (i := 127) rfl)) rfl
theorem wd_1088 : Cond.methodLink RX11 137 yX11_byteFor ∈ lw_g := wg_mem (wt5 (List.mem_of_getElem? (i := 128) rfl)) rfl
theorem wd_1090 : Cond.instanceMethod yX11_byteFor ∈ lw_g := wg_mem (wt5 (List.mem_of_getElem? (i := 130) rfl)) rfl
theorem wd_1091 : Cond.code yX11_byteFor prog_13_method_42_code 3 (some FieldType.int) ∈ lw_g := wg_mem (wt5 (List.mem_of_getElem? (i := 131) rfl)) rfl
theorem wd_1092 : Cond.methodLink RL 134 yX11_write ∈ lw_g := wg_mem (wt5 (List.mem_of_getElem? (i := 132) rfl)) rfl
theorem wd_1093 : Cond.instanceMethod yX11_write ∈ lw_g := wg_mem (wt5 (List.mem_of_getElem? (i := 133) rfl)) rfl
theorem wd_1094 : Cond.selects RX11 yX11_write yX11_write ∈ lw_g := wg_mem (wt5 (List.mem_of_getElem? (i := 134) rfl)) rfl
theorem wd_1095 : Cond.code yX11_write prog_13_method_44_code 2 (some FieldType.int) ∈ lw_g := wg_mem (wt5 (List.mem_of_getElem? (i := 135) rfl)) rfl
theorem wd_1096 : Cond.methodLink RL 138 yX11_clearCode ∈ lw_g := wg_mem (wt5 (List.mem_of_getElem? (i := 136) rfl)) rfl
theorem wd_1097 : Cond.instanceMethod yX11_clearCode ∈ lw_g := wg_mem (wt5 (List.mem_of_getElem? (i := 137) rfl)) rfl
theorem wd_1098 : Cond.selects RX11 yX11_clearCode yX11_clearCode ∈ lw_g := wg_mem (wt5 (List.mem_of_getElem? (i := 138) rfl)) rfl
theorem wd_1099 : Cond.code yX11_clearCode prog_13_method_45_code 2 (some FieldType.int) ∈ lw_g := wg_mem (wt5 (List.mem_of_getElem? (i := 139) rfl)) rfl
theorem wd_1100 : Cond.methodLink RL 141 yX11_code ∈ lw_g := wg_mem (wt5 (List.mem_of_getElem? (i := 140) rfl)) rfl
theorem wd_1101 : Cond.instanceMethod yX11_code ∈ lw_g := wg_mem (wt5 (List.mem_of_getElem? (i := 141) rfl)) rfl
theorem wd_1102 : Cond.selects RX11 yX11_code yX11_code ∈ lw_g := wg_mem (wt5 (List.mem_of_getElem? (i := 142) rfl)) rfl
theorem wd_1103 : Cond.code yX11_code prog_13_method_46_code 2 (some FieldType.int) ∈ lw_g := wg_mem (wt5 (List.mem_of_getElem? (i := 143) rfl)) rfl
theorem wd_1104 : Cond.methodLink RL 145 yX11_decode ∈ lw_g := wg_mem (wt5 (List.mem_of_getElem? (i := 144) rfl)) rfl
theorem wd_1105 : Cond.instanceMethod yX11_decode ∈ lw_g := wg_mem (wt5 (List.mem_of_getElem? (i := 145) rfl)) rfl
theorem wd_1106 : Cond.selects RX11 yX11_decode yX11_decode ∈ lw_g := wg_mem (wt5 (List.mem_of_getElem? (i := 146) rfl)) rfl
theorem wd_1107 : Cond.code yX11_decode prog_13_method_51_code 8 (some FieldType.int) ∈ lw_g := wg_mem (wt5 (List.mem_of_getElem? (i := 147) rfl)) rfl
theorem wd_1108 : Cond.methodLink RX11 159 yX11_number ∈ lw_g := wg_mem (wt5 (List.mem_of_getElem? (i := 148) rfl)) rfl
theorem wd_1110 : Cond.instanceMethod yX11_number ∈ lw_g := wg_mem (wt5 (List.mem_of_getElem? (i := 150) rfl)) rfl
theorem wd_1111 : Cond.code yX11_number prog_13_method_49_code 4 (some FieldType.int) ∈ lw_g := wg_mem (wt5 (List.mem_of_getElem? (i := 151) rfl)) rfl
theorem wd_1112 : Cond.methodLink RX11 149 yX11_next ∈ lw_g := wg_mem (wt5 (List.mem_of_getElem? (i := 152) rfl)) rfl
theorem wd_1114 : Cond.instanceMethod yX11_next ∈ lw_g := wg_mem (wt5 (List.mem_of_getElem? (i := 154) rfl)) rfl
theorem wd_1115 : Cond.code yX11_next prog_13_method_47_code 1 (some FieldType.int) ∈ lw_g := wg_mem (wt5 (List.mem_of_getElem? (i := 155) rfl)) rfl
theorem wd_1116 : Cond.methodLink RX11 152 yX11_mustBe ∈ lw_g := wg_mem (wt5 (List.mem_of_getElem? (i := 156) rfl)) rfl
theorem wd_1118 : Cond.instanceMethod yX11_mustBe ∈ lw_g := wg_mem (wt5 (List.mem_of_getElem? (i := 158) rfl)) rfl
theorem wd_1119 : Cond.code yX11_mustBe prog_13_method_48_code 3 none ∈ lw_g := wg_mem (wt5 (List.mem_of_getElem? (i := 159) rfl)) rfl
theorem wd_1120 : Cond.methodLink RX11 162 yX11_readsCommand ∈ lw_g := wg_mem (wt5 (List.mem_of_getElem? (i := 160) rfl)) rfl
theorem wd_1122 : Cond.instanceMethod yX11_readsCommand ∈ lw_g := wg_mem (wt5 (List.mem_of_getElem? (i := 162) rfl)) rfl
theorem wd_1123 : Cond.code yX11_readsCommand prog_13_method_50_code 10 none ∈ lw_g := wg_mem (wt5 (List.mem_of_getElem? (i := 163) rfl)) rfl
theorem wd_1124 : Cond.methodLink RL 148 yX11_begin ∈ lw_g := wg_mem (wt5 (List.mem_of_getElem? (i := 164) rfl)) rfl
theorem wd_1125 : Cond.instanceMethod yX11_begin ∈ lw_g := wg_mem (wt5 (List.mem_of_getElem? (i := 165) rfl)) rfl
theorem wd_1126 : Cond.selects RX11 yX11_begin yX11_begin ∈ lw_g := wg_mem (wt5 (List.mem_of_getElem? (i := 166) rfl)) rfl
theorem wd_1127 : Cond.code yX11_begin prog_13_method_54_code 2 (some FieldType.int) ∈ lw_g := wg_mem (wt5 (List.mem_of_getElem? (i := 167) rfl)) rfl
theorem wd_1128 : Cond.methodLink RX11 166 yX11_cutsWork ∈ lw_g := wg_mem (wt5 (List.mem_of_getElem? (i := 168) rfl)) rfl
theorem wd_1130 : Cond.instanceMethod yX11_cutsWork ∈ lw_g := wg_mem (wt5 (List.mem_of_getElem? (i := 170) rfl)) rfl
theorem wd_1131 : Cond.code yX11_cutsWork prog_13_method_53_code 1 none ∈ lw_g := wg_mem (wt5 (List.mem_of_getElem? (i := 171) rfl)) rfl
theorem wd_1132 : Cond.methodLink RL 151 yX11_step ∈ lw_g := wg_mem (wt5 (List.mem_of_getElem? (i := 172) rfl)) rfl
theorem wd_1133 : Cond.instanceMethod yX11_step ∈ lw_g := wg_mem (wt5 (List.mem_of_getElem? (i := 173) rfl)) rfl
theorem wd_1134 : Cond.selects RX11 yX11_step yX11_step ∈ lw_g := wg_mem (wt5 (List.mem_of_getElem? (i := 174) rfl)) rfl
theorem wd_1135 : Cond.code yX11_step prog_13_method_55_code 4 (some FieldType.int) ∈ lw_g := wg_mem (wt5 (List.mem_of_getElem? (i := 175) rfl)) rfl
theorem wd_1136 : Cond.methodLink RX11 169 yX11_works ∈ lw_g := wg_mem (wt5 (List.mem_of_getElem? (i := 176) rfl)) rfl
theorem wd_1138 : Cond.instanceMethod yX11_works ∈ lw_g := wg_mem (wt5 (List.mem_of_getElem? (i := 178) rfl)) rfl
theorem wd_1139 : Cond.code yX11_works prog_13_method_52_code 1 (some FieldType.boolean) ∈ lw_g := wg_mem (wt5 (List.mem_of_getElem? (i := 179) rfl)) rfl
theorem wd_1140 : Cond.methodLink RL 154 yX11_workByte ∈ lw_g := wg_mem (wt5 (List.mem_of_getElem? (i := 180) rfl)) rfl
theorem wd_1141 : Cond.instanceMethod yX11_workByte ∈ lw_g := wg_mem (wt5 (List.mem_of_getElem? (i := 181) rfl)) rfl
theorem wd_1142 : Cond.selects RX11 yX11_workByte yX11_workByte ∈ lw_g := wg_mem (wt5 (List.mem_of_getElem? (i := 182) rfl)) rfl
theorem wd_1143 : Cond.code yX11_workByte prog_13_method_56_code 2 (some FieldType.int) ∈ lw_g := wg_mem (wt5 (List.mem_of_getElem? (i := 183) rfl)) rfl
theorem wd_1144 : Cond.methodLink RL 157 yX11_compare ∈ lw_g := wg_mem (wt5 (List.mem_of_getElem? (i := 184) rfl)) rfl
theorem wd_1145 : Cond.instanceMethod yX11_compare ∈ lw_g := wg_mem (wt5 (List.mem_of_getElem? (i := 185) rfl)) rfl
theorem wd_1146 : Cond.selects RX11 yX11_compare yX11_compare ∈ lw_g := wg_mem (wt5 (List.mem_of_getElem? (i := 186) rfl)) rfl
theorem wd_1147 : Cond.code yX11_compare prog_13_method_57_code 2 (some FieldType.int) ∈ lw_g := wg_mem (wt5 (List.mem_of_getElem? (i := 187) rfl)) rfl
theorem wd_1148 : Cond.methodLink RL 162 yX11_ratio ∈ lw_g := wg_mem (wt5 (List.mem_of_getElem? (i := 188) rfl)) rfl
theorem wd_1149 : Cond.instanceMethod yX11_ratio ∈ lw_g := wg_mem (wt5 (List.mem_of_getElem? (i := 189) rfl)) rfl
theorem wd_1150 : Cond.selects RX11 yX11_ratio yX11_ratio ∈ lw_g := wg_mem (wt5 (List.mem_of_getElem? (i := 190) rfl)) rfl
theorem wd_1151 : Cond.code yX11_ratio prog_13_method_58_code 5 (some FieldType.double) ∈ lw_g := wg_mem (wt5 (List.mem_of_getElem? (i := 191) rfl)) rfl
theorem wd_1152 : Cond.methodLink RL 165 yX11_undo ∈ lw_g := wg_mem (wt5 (List.mem_of_getElem? (i := 192) rfl)) rfl
theorem wd_1153 : Cond.instanceMethod yX11_undo ∈ lw_g := wg_mem (wt5 (List.mem_of_getElem? (i := 193) rfl)) rfl
theorem wd_1154 : Cond.selects RX11 yX11_undo yX11_undo ∈ lw_g := wg_mem (wt5 (List.mem_of_getElem? (i := 194) rfl)) rfl
theorem wd_1155 : Cond.code yX11_undo prog_13_method_59_code 2 (some FieldType.int) ∈ lw_g := wg_mem (wt5 (List.mem_of_getElem? (i := 195) rfl)) rfl
theorem wd_1156 : Cond.methodLink RL 170 yX11_digest ∈ lw_g := wg_mem (wt5 (List.mem_of_getElem? (i := 196) rfl)) rfl
theorem wd_1157 : Cond.instanceMethod yX11_digest ∈ lw_g := wg_mem (wt5 (List.mem_of_getElem? (i := 197) rfl)) rfl
theorem wd_1158 : Cond.selects RX11 yX11_digest yX11_digest ∈ lw_g := wg_mem (wt5 (List.mem_of_getElem? (i := 198) rfl)) rfl
theorem wd_1159 : Cond.code yX11_digest prog_13_method_61_code 4 (some FieldType.long) ∈ lw_g := wg_mem (wt5 (List.mem_of_getElem? (i := 199) rfl)) rfl
theorem wd_1160 : Cond.constantLong RX11 174 (2777) ∈ lw_g := wg_mem (wt5 (List.mem_of_getElem? (i := 200) rfl)) rfl
theorem wd_1161 : Cond.constantLong RX11 172 (31) ∈ lw_g := wg_mem (wt5 (List.mem_of_getElem? (i := 201) rfl)) rfl
theorem wd_1162 : Cond.methodLink RX11 176 yX11_sums ∈ lw_g := wg_mem (wt5 (List.mem_of_getElem? (i := 202) rfl)) rfl
theorem wd_1164 : Cond.instanceMethod yX11_sums ∈ lw_g := wg_mem (wt5 (List.mem_of_getElem? (i := 204) rfl)) rfl
theorem wd_1165 : Cond.code yX11_sums prog_13_method_60_code 8 (some FieldType.long) ∈ lw_g := wg_mem (wt5 (List.mem_of_getElem? (i := 205) rfl)) rfl
theorem wd_1166 : Cond.arrayClass FieldType.long ∈ lw_g := wg_mem (wt5 (List.mem_of_getElem? (i := 206) rfl)) rfl
theorem ws_0 : Cond.selects RX2 yX2_linkCopy yX2_linkCopy ∈ lw_g := wg_sel (List.mem_of_getElem? (i := 0) rfl) rfl
theorem ws_1 : Cond.selects RX2 yX2_linkPair yX2_linkPair ∈ lw_g := wg_sel (List.mem_of_getElem? (i := 1) rfl) rfl
theorem ws_2 : Cond.selects RX1 yX1_next yX1_next ∈ lw_g := wg_sel (List.mem_of_getElem? (i := 2) rfl) rfl
theorem ws_3 : Cond.selects RX1 yX1_readCommand yX1_readCommand ∈ lw_g := wg_sel (List.mem_of_getElem? (i := 3) rfl) rfl
theorem ws_4 : Cond.selects RX1 yX1_rangeFault yX1_rangeFault ∈ lw_g := wg_sel (List.mem_of_getElem? (i := 4) rfl) rfl
theorem ws_5 : Cond.selects RX2 yX2_mixCommandInto yX2_mixCommandInto ∈ lw_g := wg_sel (List.mem_of_getElem? (i := 5) rfl) rfl
theorem ws_6 : Cond.selects "java/lang/Throwable" ⟨"java/lang/Throwable", "fillInStackTrace", "(I)Ljava/lang/Throwable;"⟩ ⟨"java/lang/Throwable", "fillInStackTrace", "(I)Ljava/lang/Throwable;"⟩ ∈ lw_g := wg_sel (List.mem_of_getElem? (i := 6) rfl) rfl
theorem ws_7 : Cond.selects RX7 yX7_placeCopies yX7_placeCopies ∈ lw_g := wg_sel (List.mem_of_getElem? (i := 7) rfl) rfl
theorem ws_8 : Cond.selects RX7 yX7_place yX7_place ∈ lw_g := wg_sel (List.mem_of_getElem? (i := 8) rfl) rfl
theorem ws_9 : Cond.selects RX10 yX10_requirePlan yX10_requirePlan ∈ lw_g := wg_sel (List.mem_of_getElem? (i := 9) rfl) rfl
theorem ws_10 : Cond.selects RX9 yX9_cutIfFinished yX9_cutIfFinished ∈ lw_g := wg_sel (List.mem_of_getElem? (i := 10) rfl) rfl
theorem ws_11 : Cond.selects RX10 yX10_requireWork yX10_requireWork ∈ lw_g := wg_sel (List.mem_of_getElem? (i := 11) rfl) rfl
theorem ws_12 : Cond.selects RX11 yX11_longOf yX11_longOf ∈ lw_g := wg_sel (List.mem_of_getElem? (i := 12) rfl) rfl
theorem ws_13 : Cond.selects RX11 yX11_goes yX11_goes ∈ lw_g := wg_sel (List.mem_of_getElem? (i := 13) rfl) rfl
theorem ws_14 : Cond.selects RX11 yX11_save yX11_save ∈ lw_g := wg_sel (List.mem_of_getElem? (i := 14) rfl) rfl
theorem ws_15 : Cond.selects RX11 yX11_dropsPlan yX11_dropsPlan ∈ lw_g := wg_sel (List.mem_of_getElem? (i := 15) rfl) rfl
theorem ws_16 : Cond.selects RX11 yX11_hasByte yX11_hasByte ∈ lw_g := wg_sel (List.mem_of_getElem? (i := 16) rfl) rfl
theorem ws_17 : Cond.selects RX11 yX11_byteAt yX11_byteAt ∈ lw_g := wg_sel (List.mem_of_getElem? (i := 17) rfl) rfl
theorem ws_18 : Cond.selects RX11 yX11_matchLong yX11_matchLong ∈ lw_g := wg_sel (List.mem_of_getElem? (i := 18) rfl) rfl
theorem ws_19 : Cond.selects RX11 yX11_adds yX11_adds ∈ lw_g := wg_sel (List.mem_of_getElem? (i := 19) rfl) rfl
theorem ws_20 : Cond.selects RX11 yX11_appends yX11_appends ∈ lw_g := wg_sel (List.mem_of_getElem? (i := 20) rfl) rfl
theorem ws_21 : Cond.selects RX11 yX11_isCommand yX11_isCommand ∈ lw_g := wg_sel (List.mem_of_getElem? (i := 21) rfl) rfl
theorem ws_22 : Cond.selects RX11 yX11_of yX11_of ∈ lw_g := wg_sel (List.mem_of_getElem? (i := 22) rfl) rfl
theorem ws_23 : Cond.selects RX11 yX11_precedes yX11_precedes ∈ lw_g := wg_sel (List.mem_of_getElem? (i := 23) rfl) rfl
theorem ws_24 : Cond.selects RX11 yX11_isCopy yX11_isCopy ∈ lw_g := wg_sel (List.mem_of_getElem? (i := 24) rfl) rfl
theorem ws_25 : Cond.selects RX11 yX11_copies yX11_copies ∈ lw_g := wg_sel (List.mem_of_getElem? (i := 25) rfl) rfl
theorem ws_26 : Cond.selects RX11 yX11_freeOf yX11_freeOf ∈ lw_g := wg_sel (List.mem_of_getElem? (i := 26) rfl) rfl
theorem ws_27 : Cond.selects RX11 yX11_victim yX11_victim ∈ lw_g := wg_sel (List.mem_of_getElem? (i := 27) rfl) rfl
theorem ws_28 : Cond.selects RX11 yX11_others yX11_others ∈ lw_g := wg_sel (List.mem_of_getElem? (i := 28) rfl) rfl
theorem ws_29 : Cond.selects RX11 yX11_isPlanned yX11_isPlanned ∈ lw_g := wg_sel (List.mem_of_getElem? (i := 29) rfl) rfl
theorem ws_30 : Cond.selects RX11 yX11_lossOf yX11_lossOf ∈ lw_g := wg_sel (List.mem_of_getElem? (i := 30) rfl) rfl
theorem ws_31 : Cond.selects RX11 yX11_leastLossOf yX11_leastLossOf ∈ lw_g := wg_sel (List.mem_of_getElem? (i := 31) rfl) rfl
theorem ws_32 : Cond.selects RX11 yX11_isOrderly yX11_isOrderly ∈ lw_g := wg_sel (List.mem_of_getElem? (i := 32) rfl) rfl
theorem ws_33 : Cond.selects RX11 yX11_encodes yX11_encodes ∈ lw_g := wg_sel (List.mem_of_getElem? (i := 33) rfl) rfl
theorem ws_34 : Cond.selects RX11 yX11_writes yX11_writes ∈ lw_g := wg_sel (List.mem_of_getElem? (i := 34) rfl) rfl
theorem ws_35 : Cond.selects RX11 yX11_byteFor yX11_byteFor ∈ lw_g := wg_sel (List.mem_of_getElem? (i := 35) rfl) rfl
theorem ws_36 : Cond.selects RX11 yX11_number yX11_number ∈ lw_g := wg_sel (List.mem_of_getElem? (i := 36) rfl) rfl
theorem ws_37 : Cond.selects RX11 yX11_next yX11_next ∈ lw_g := wg_sel (List.mem_of_getElem? (i := 37) rfl) rfl
theorem ws_38 : Cond.selects RX11 yX11_mustBe yX11_mustBe ∈ lw_g := wg_sel (List.mem_of_getElem? (i := 38) rfl) rfl
theorem ws_39 : Cond.selects RX11 yX11_readsCommand yX11_readsCommand ∈ lw_g := wg_sel (List.mem_of_getElem? (i := 39) rfl) rfl
theorem ws_40 : Cond.selects RX11 yX11_cutsWork yX11_cutsWork ∈ lw_g := wg_sel (List.mem_of_getElem? (i := 40) rfl) rfl
theorem ws_41 : Cond.selects RX11 yX11_works yX11_works ∈ lw_g := wg_sel (List.mem_of_getElem? (i := 41) rfl) rfl
theorem ws_42 : Cond.selects RX11 yX11_sums yX11_sums ∈ lw_g := wg_sel (List.mem_of_getElem? (i := 42) rfl) rfl
theorem inX0 : ∀ w ∈ u_ws RX0 TX0 2, w ∈ lw_g := by
  intro w hw
  refine List.mem_filter.mpr ⟨List.mem_append_right _ ?_, ?_⟩
  · revert w; decide +kernel
  · revert w; decide +kernel
theorem inX1 : ∀ w ∈ u_ws RX1 TX1 4, w ∈ lw_g := by
  intro w hw
  refine List.mem_filter.mpr ⟨List.mem_append_right _ ?_, ?_⟩
  · revert w; decide +kernel
  · revert w; decide +kernel
theorem inX2 : ∀ w ∈ u_ws RX2 TX2 11, w ∈ lw_g := by
  intro w hw
  refine List.mem_filter.mpr ⟨List.mem_append_right _ ?_, ?_⟩
  · revert w; decide +kernel
  · revert w; decide +kernel
theorem inX4 : ∀ w ∈ u_ws RX4 TX4 3, w ∈ lw_g := by
  intro w hw
  refine List.mem_filter.mpr ⟨List.mem_append_right _ ?_, ?_⟩
  · revert w; decide +kernel
  · revert w; decide +kernel
theorem inX7 : ∀ w ∈ u_ws RX7 TX7 5, w ∈ lw_g := by
  intro w hw
  refine List.mem_filter.mpr ⟨List.mem_append_right _ ?_, ?_⟩
  · revert w; decide +kernel
  · revert w; decide +kernel
theorem inX8 : ∀ w ∈ u_ws RX8 TX8 6, w ∈ lw_g := by
  intro w hw
  refine List.mem_filter.mpr ⟨List.mem_append_right _ ?_, ?_⟩
  · revert w; decide +kernel
  · revert w; decide +kernel
theorem inX9 : ∀ w ∈ u_ws RX9 TX9 3, w ∈ lw_g := by
  intro w hw
  refine List.mem_filter.mpr ⟨List.mem_append_right _ ?_, ?_⟩
  · revert w; decide +kernel
  · revert w; decide +kernel
theorem inX10 : ∀ w ∈ u_ws RX10 TX10 3, w ∈ lw_g := by
  intro w hw
  refine List.mem_filter.mpr ⟨List.mem_append_right _ ?_, ?_⟩
  · revert w; decide +kernel
  · revert w; decide +kernel
theorem inX11 : ∀ w ∈ u_ws RX11 TX11 14, w ∈ lw_g := by
  intro w hw
  refine List.mem_filter.mpr ⟨List.mem_append_right _ ?_, ?_⟩
  · revert w; decide +kernel
  · revert w; decide +kernel
def nsW : List Cond := [Cond.fieldLinkNest RX6 9 "InPlaceDelta$Bytes" "count" "I" "InPlaceDelta", Cond.fieldLinkNest RX9 46 "InPlaceDelta$Bytes" "count" "I" "InPlaceDelta", Cond.fieldLinkNest RX10 64 "InPlaceDelta$Bytes" "count" "I" "InPlaceDelta", Cond.fieldLinkNest RX1 46 "InPlaceDelta$Bytes" "count" "I" "InPlaceDelta", Cond.fieldLinkNest RX3 48 "InPlaceDelta$Delta" "sourceLength" "I" "InPlaceDelta", Cond.fieldLinkNest RX1 68 "InPlaceDelta$Delta" "sourceLength" "I" "InPlaceDelta", Cond.fieldLinkNest RX10 126 "InPlaceDelta$Delta" "sourceLength" "I" "InPlaceDelta", Cond.fieldLinkNest RX9 51 "InPlaceDelta$Delta" "targetLength" "I" "InPlaceDelta", Cond.fieldLinkNest RX3 51 "InPlaceDelta$Delta" "targetLength" "I" "InPlaceDelta", Cond.fieldLinkNest RX1 71 "InPlaceDelta$Delta" "targetLength" "I" "InPlaceDelta", Cond.fieldLinkNest RX3 15 "InPlaceDelta$Delta" "count" "I" "InPlaceDelta", Cond.fieldLinkNest RX5 21 "InPlaceDelta$Delta" "count" "I" "InPlaceDelta", Cond.fieldLinkNest RX7 46 "InPlaceDelta$Delta" "count" "I" "InPlaceDelta", Cond.fieldLinkNest RX10 104 "InPlaceDelta$Delta" "count" "I" "InPlaceDelta", Cond.fieldLinkNest RX5 9 "InPlaceDelta$Delta" "copySet" "I" "InPlaceDelta", Cond.fieldLinkNest RX7 55 "InPlaceDelta$Delta" "copySet" "I" "InPlaceDelta", Cond.fieldLinkNest RX8 47 "InPlaceDelta$Plan" "there" "Z" "InPlaceDelta", Cond.fieldLinkNest RX10 248 "InPlaceDelta$Plan" "there" "Z" "InPlaceDelta", Cond.fieldLinkNest RX9 30 "InPlaceDelta$Plan" "count" "I" "InPlaceDelta", Cond.fieldLinkNest RX3 54 "InPlaceDelta$Plan" "count" "I" "InPlaceDelta", Cond.fieldLinkNest RX10 141 "InPlaceDelta$Plan" "convertedSet" "I" "InPlaceDelta", Cond.fieldLinkNest RX10 154 "InPlaceDelta$Plan" "lostLength" "I" "InPlaceDelta", Cond.fieldLinkNest RX10 211 "InPlaceDelta$Work" "bytes" "LInPlaceDelta$Bytes;" "InPlaceDelta", Cond.fieldLinkNest RX8 51 "InPlaceDelta$Work" "there" "Z" "InPlaceDelta", Cond.fieldLinkNest RX10 254 "InPlaceDelta$Work" "there" "Z" "InPlaceDelta", Cond.fieldLinkNest RX10 200 "InPlaceDelta$Work" "left" "I" "InPlaceDelta", Cond.fieldLinkNest RX9 39 "InPlaceDelta$State" "oldVersion" "LInPlaceDelta$Bytes;" "InPlaceDelta", Cond.fieldLinkNest RX10 91 "InPlaceDelta$State" "oldVersion" "LInPlaceDelta$Bytes;" "InPlaceDelta", Cond.fieldLinkNest RX10 95 "InPlaceDelta$State" "newVersion" "LInPlaceDelta$Bytes;" "InPlaceDelta", Cond.fieldLinkNest RX3 9 "InPlaceDelta$State" "delta" "LInPlaceDelta$Delta;" "InPlaceDelta", Cond.fieldLinkNest RX9 47 "InPlaceDelta$State" "delta" "LInPlaceDelta$Delta;" "InPlaceDelta", Cond.fieldLinkNest RX10 87 "InPlaceDelta$State" "delta" "LInPlaceDelta$Delta;" "InPlaceDelta", Cond.fieldLinkNest RX9 24 "InPlaceDelta$State" "plan" "LInPlaceDelta$Plan;" "InPlaceDelta", Cond.fieldLinkNest RX3 21 "InPlaceDelta$State" "plan" "LInPlaceDelta$Plan;" "InPlaceDelta", Cond.fieldLinkNest RX10 131 "InPlaceDelta$State" "plan" "LInPlaceDelta$Plan;" "InPlaceDelta", Cond.fieldLinkNest RX3 35 "InPlaceDelta$State" "code" "LInPlaceDelta$Bytes;" "InPlaceDelta", Cond.fieldLinkNest RX10 171 "InPlaceDelta$State" "code" "LInPlaceDelta$Bytes;" "InPlaceDelta", Cond.fieldLinkNest RX10 191 "InPlaceDelta$State" "work" "LInPlaceDelta$Work;" "InPlaceDelta", Cond.fieldLinkNest RX10 218 "InPlaceDelta$History" "count" "I" "InPlaceDelta", Cond.fieldLinkNest RX10 186 "InPlaceDelta$Decoder" "delta" "LInPlaceDelta$Delta;" "InPlaceDelta", Cond.methodLinkNest RX2 40 yX10_isIn "InPlaceDelta", Cond.methodLinkNest RX2 80 yX10_overlap "InPlaceDelta", Cond.methodLinkNest RX5 43 yX10_without "InPlaceDelta", Cond.methodLinkNest RX5 24 yX10_isIn "InPlaceDelta", Cond.methodLinkNest RX0 46 yX10_mix "InPlaceDelta", Cond.methodLinkNest RX2 99 yX10_mix "InPlaceDelta", Cond.methodLinkNest RX7 94 yX10_mix "InPlaceDelta", Cond.methodLinkNest RX9 95 yX10_mix "InPlaceDelta", Cond.castable "java/lang/IllegalArgumentException" "java/lang/IllegalArgumentException", Cond.declares ⟨"java/lang/RuntimeException", "<init>", "()V"⟩, Cond.declares ⟨"java/lang/RuntimeException", "<init>", "(Ljava/lang/String;)V"⟩, Cond.declares ⟨"java/lang/Exception", "<init>", "()V"⟩, Cond.declares ⟨"java/lang/Exception", "<init>", "(Ljava/lang/String;)V"⟩, Cond.declares ⟨"java/lang/Throwable", "<init>", "()V"⟩, Cond.declares ⟨"java/lang/Throwable", "<init>", "(Ljava/lang/String;)V"⟩, Cond.castable "java/lang/IllegalStateException" "java/lang/IllegalStateException", Cond.castable "java/lang/IndexOutOfBoundsException" "java/lang/IndexOutOfBoundsException", Cond.methodLinkNest RX7 31 yX10_isIn "InPlaceDelta", Cond.methodLinkNest RX7 69 yX10_without "InPlaceDelta"]
theorem nw_47 : Cond.fieldLinkNest RX6 9 "InPlaceDelta$Bytes" "count" "I" "InPlaceDelta" ∈ nsW := List.mem_of_getElem? (i := 0) rfl
theorem nw_48 : Cond.fieldLinkNest RX9 46 "InPlaceDelta$Bytes" "count" "I" "InPlaceDelta" ∈ nsW := List.mem_of_getElem? (i := 1) rfl
theorem nw_49 : Cond.fieldLinkNest RX10 64 "InPlaceDelta$Bytes" "count" "I" "InPlaceDelta" ∈ nsW := List.mem_of_getElem? (i := 2) rfl
theorem nw_50 : Cond.fieldLinkNest RX1 46 "InPlaceDelta$Bytes" "count" "I" "InPlaceDelta" ∈ nsW := List.mem_of_getElem? (i := 3) rfl
theorem nw_69 : Cond.fieldLinkNest RX3 48 "InPlaceDelta$Delta" "sourceLength" "I" "InPlaceDelta" ∈ nsW := List.mem_of_getElem? (i := 4) rfl
theorem nw_70 : Cond.fieldLinkNest RX1 68 "InPlaceDelta$Delta" "sourceLength" "I" "InPlaceDelta" ∈ nsW := List.mem_of_getElem? (i := 5) rfl
theorem nw_71 : Cond.fieldLinkNest RX10 126 "InPlaceDelta$Delta" "sourceLength" "I" "InPlaceDelta" ∈ nsW := List.mem_of_getElem? (i := 6) rfl
theorem nw_73 : Cond.fieldLinkNest RX9 51 "InPlaceDelta$Delta" "targetLength" "I" "InPlaceDelta" ∈ nsW := List.mem_of_getElem? (i := 7) rfl
theorem nw_74 : Cond.fieldLinkNest RX3 51 "InPlaceDelta$Delta" "targetLength" "I" "InPlaceDelta" ∈ nsW := List.mem_of_getElem? (i := 8) rfl
theorem nw_75 : Cond.fieldLinkNest RX1 71 "InPlaceDelta$Delta" "targetLength" "I" "InPlaceDelta" ∈ nsW := List.mem_of_getElem? (i := 9) rfl
theorem nw_78 : Cond.fieldLinkNest RX3 15 "InPlaceDelta$Delta" "count" "I" "InPlaceDelta" ∈ nsW := List.mem_of_getElem? (i := 10) rfl
theorem nw_79 : Cond.fieldLinkNest RX5 21 "InPlaceDelta$Delta" "count" "I" "InPlaceDelta" ∈ nsW := List.mem_of_getElem? (i := 11) rfl
theorem nw_80 : Cond.fieldLinkNest RX7 46 "InPlaceDelta$Delta" "count" "I" "InPlaceDelta" ∈ nsW := List.mem_of_getElem? (i := 12) rfl
theorem nw_81 : Cond.fieldLinkNest RX10 104 "InPlaceDelta$Delta" "count" "I" "InPlaceDelta" ∈ nsW := List.mem_of_getElem? (i := 13) rfl
theorem nw_82 : Cond.fieldLinkNest RX5 9 "InPlaceDelta$Delta" "copySet" "I" "InPlaceDelta" ∈ nsW := List.mem_of_getElem? (i := 14) rfl
theorem nw_84 : Cond.fieldLinkNest RX7 55 "InPlaceDelta$Delta" "copySet" "I" "InPlaceDelta" ∈ nsW := List.mem_of_getElem? (i := 15) rfl
theorem nw_116 : Cond.fieldLinkNest RX8 47 "InPlaceDelta$Plan" "there" "Z" "InPlaceDelta" ∈ nsW := List.mem_of_getElem? (i := 16) rfl
theorem nw_118 : Cond.fieldLinkNest RX10 248 "InPlaceDelta$Plan" "there" "Z" "InPlaceDelta" ∈ nsW := List.mem_of_getElem? (i := 17) rfl
theorem nw_120 : Cond.fieldLinkNest RX9 30 "InPlaceDelta$Plan" "count" "I" "InPlaceDelta" ∈ nsW := List.mem_of_getElem? (i := 18) rfl
theorem nw_121 : Cond.fieldLinkNest RX3 54 "InPlaceDelta$Plan" "count" "I" "InPlaceDelta" ∈ nsW := List.mem_of_getElem? (i := 19) rfl
theorem nw_123 : Cond.fieldLinkNest RX10 141 "InPlaceDelta$Plan" "convertedSet" "I" "InPlaceDelta" ∈ nsW := List.mem_of_getElem? (i := 20) rfl
theorem nw_125 : Cond.fieldLinkNest RX10 154 "InPlaceDelta$Plan" "lostLength" "I" "InPlaceDelta" ∈ nsW := List.mem_of_getElem? (i := 21) rfl
theorem nw_146 : Cond.fieldLinkNest RX10 211 "InPlaceDelta$Work" "bytes" "LInPlaceDelta$Bytes;" "InPlaceDelta" ∈ nsW := List.mem_of_getElem? (i := 22) rfl
theorem nw_148 : Cond.fieldLinkNest RX8 51 "InPlaceDelta$Work" "there" "Z" "InPlaceDelta" ∈ nsW := List.mem_of_getElem? (i := 23) rfl
theorem nw_149 : Cond.fieldLinkNest RX10 254 "InPlaceDelta$Work" "there" "Z" "InPlaceDelta" ∈ nsW := List.mem_of_getElem? (i := 24) rfl
theorem nw_151 : Cond.fieldLinkNest RX10 200 "InPlaceDelta$Work" "left" "I" "InPlaceDelta" ∈ nsW := List.mem_of_getElem? (i := 25) rfl
theorem nw_160 : Cond.fieldLinkNest RX9 39 "InPlaceDelta$State" "oldVersion" "LInPlaceDelta$Bytes;" "InPlaceDelta" ∈ nsW := List.mem_of_getElem? (i := 26) rfl
theorem nw_161 : Cond.fieldLinkNest RX10 91 "InPlaceDelta$State" "oldVersion" "LInPlaceDelta$Bytes;" "InPlaceDelta" ∈ nsW := List.mem_of_getElem? (i := 27) rfl
theorem nw_163 : Cond.fieldLinkNest RX10 95 "InPlaceDelta$State" "newVersion" "LInPlaceDelta$Bytes;" "InPlaceDelta" ∈ nsW := List.mem_of_getElem? (i := 28) rfl
theorem nw_165 : Cond.fieldLinkNest RX3 9 "InPlaceDelta$State" "delta" "LInPlaceDelta$Delta;" "InPlaceDelta" ∈ nsW := List.mem_of_getElem? (i := 29) rfl
theorem nw_166 : Cond.fieldLinkNest RX9 47 "InPlaceDelta$State" "delta" "LInPlaceDelta$Delta;" "InPlaceDelta" ∈ nsW := List.mem_of_getElem? (i := 30) rfl
theorem nw_167 : Cond.fieldLinkNest RX10 87 "InPlaceDelta$State" "delta" "LInPlaceDelta$Delta;" "InPlaceDelta" ∈ nsW := List.mem_of_getElem? (i := 31) rfl
theorem nw_169 : Cond.fieldLinkNest RX9 24 "InPlaceDelta$State" "plan" "LInPlaceDelta$Plan;" "InPlaceDelta" ∈ nsW := List.mem_of_getElem? (i := 32) rfl
theorem nw_170 : Cond.fieldLinkNest RX3 21 "InPlaceDelta$State" "plan" "LInPlaceDelta$Plan;" "InPlaceDelta" ∈ nsW := List.mem_of_getElem? (i := 33) rfl
theorem nw_171 : Cond.fieldLinkNest RX10 131 "InPlaceDelta$State" "plan" "LInPlaceDelta$Plan;" "InPlaceDelta" ∈ nsW := List.mem_of_getElem? (i := 34) rfl
theorem nw_173 : Cond.fieldLinkNest RX3 35 "InPlaceDelta$State" "code" "LInPlaceDelta$Bytes;" "InPlaceDelta" ∈ nsW := List.mem_of_getElem? (i := 35) rfl
theorem nw_174 : Cond.fieldLinkNest RX10 171 "InPlaceDelta$State" "code" "LInPlaceDelta$Bytes;" "InPlaceDelta" ∈ nsW := List.mem_of_getElem? (i := 36) rfl
theorem nw_176 : Cond.fieldLinkNest RX10 191 "InPlaceDelta$State" "work" "LInPlaceDelta$Work;" "InPlaceDelta" ∈ nsW := List.mem_of_getElem? (i := 37) rfl
theorem nw_202 : Cond.fieldLinkNest RX10 218 "InPlaceDelta$History" "count" "I" "InPlaceDelta" ∈ nsW := List.mem_of_getElem? (i := 38) rfl
theorem nw_219 : Cond.fieldLinkNest RX10 186 "InPlaceDelta$Decoder" "delta" "LInPlaceDelta$Delta;" "InPlaceDelta" ∈ nsW := List.mem_of_getElem? (i := 39) rfl
theorem nw_331 : Cond.methodLinkNest RX2 40 yX10_isIn "InPlaceDelta" ∈ nsW := List.mem_of_getElem? (i := 40) rfl
theorem nw_354 : Cond.methodLinkNest RX2 80 yX10_overlap "InPlaceDelta" ∈ nsW := List.mem_of_getElem? (i := 41) rfl
theorem nw_389 : Cond.methodLinkNest RX5 43 yX10_without "InPlaceDelta" ∈ nsW := List.mem_of_getElem? (i := 42) rfl
theorem nw_392 : Cond.methodLinkNest RX5 24 yX10_isIn "InPlaceDelta" ∈ nsW := List.mem_of_getElem? (i := 43) rfl
theorem nw_452 : Cond.methodLinkNest RX0 46 yX10_mix "InPlaceDelta" ∈ nsW := List.mem_of_getElem? (i := 44) rfl
theorem nw_460 : Cond.methodLinkNest RX2 99 yX10_mix "InPlaceDelta" ∈ nsW := List.mem_of_getElem? (i := 45) rfl
theorem nw_478 : Cond.methodLinkNest RX7 94 yX10_mix "InPlaceDelta" ∈ nsW := List.mem_of_getElem? (i := 46) rfl
theorem nw_491 : Cond.methodLinkNest RX9 95 yX10_mix "InPlaceDelta" ∈ nsW := List.mem_of_getElem? (i := 47) rfl
theorem nw_507 : Cond.castable "java/lang/IllegalArgumentException" "java/lang/IllegalArgumentException" ∈ nsW := List.mem_of_getElem? (i := 48) rfl
theorem nw_508 : Cond.declares ⟨"java/lang/RuntimeException", "<init>", "()V"⟩ ∈ nsW := List.mem_of_getElem? (i := 49) rfl
theorem nw_509 : Cond.declares ⟨"java/lang/RuntimeException", "<init>", "(Ljava/lang/String;)V"⟩ ∈ nsW := List.mem_of_getElem? (i := 50) rfl
theorem nw_510 : Cond.declares ⟨"java/lang/Exception", "<init>", "()V"⟩ ∈ nsW := List.mem_of_getElem? (i := 51) rfl
theorem nw_511 : Cond.declares ⟨"java/lang/Exception", "<init>", "(Ljava/lang/String;)V"⟩ ∈ nsW := List.mem_of_getElem? (i := 52) rfl
theorem nw_512 : Cond.declares ⟨"java/lang/Throwable", "<init>", "()V"⟩ ∈ nsW := List.mem_of_getElem? (i := 53) rfl
theorem nw_513 : Cond.declares ⟨"java/lang/Throwable", "<init>", "(Ljava/lang/String;)V"⟩ ∈ nsW := List.mem_of_getElem? (i := 54) rfl
theorem nw_587 : Cond.castable "java/lang/IllegalStateException" "java/lang/IllegalStateException" ∈ nsW := List.mem_of_getElem? (i := 55) rfl
theorem nw_620 : Cond.castable "java/lang/IndexOutOfBoundsException" "java/lang/IndexOutOfBoundsException" ∈ nsW := List.mem_of_getElem? (i := 56) rfl
theorem nw_693 : Cond.methodLinkNest RX7 31 yX10_isIn "InPlaceDelta" ∈ nsW := List.mem_of_getElem? (i := 57) rfl
theorem nw_707 : Cond.methodLinkNest RX7 69 yX10_without "InPlaceDelta" ∈ nsW := List.mem_of_getElem? (i := 58) rfl
def isNest (w : Cond) : Prop := (∃ a i b n d h, w = Cond.fieldLinkNest a i b n d h) ∨ (∃ a i x h, w = Cond.methodLinkNest a i x h) ∨ (∃ x, w = Cond.declares x) ∨ (∃ a b, w = Cond.castable a b)
theorem nq_47 : isNest (Cond.fieldLinkNest RX6 9 "InPlaceDelta$Bytes" "count" "I" "InPlaceDelta") ∧ Cond.fieldLinkNest RX6 9 "InPlaceDelta$Bytes" "count" "I" "InPlaceDelta" ∈ tables_1 := ⟨Or.inl ⟨_, _, _, _, _, _, rfl⟩, wt1 (List.mem_of_getElem? (i := 47) rfl)⟩
theorem nq_48 : isNest (Cond.fieldLinkNest RX9 46 "InPlaceDelta$Bytes" "count" "I" "InPlaceDelta") ∧ Cond.fieldLinkNest RX9 46 "InPlaceDelta$Bytes" "count" "I" "InPlaceDelta" ∈ tables_1 := ⟨Or.inl ⟨_, _, _, _, _, _, rfl⟩, wt1 (List.mem_of_getElem? (i := 48) rfl)⟩
theorem nq_49 : isNest (Cond.fieldLinkNest RX10 64 "InPlaceDelta$Bytes" "count" "I" "InPlaceDelta") ∧ Cond.fieldLinkNest RX10 64 "InPlaceDelta$Bytes" "count" "I" "InPlaceDelta" ∈ tables_1 := ⟨Or.inl ⟨_, _, _, _, _, _, rfl⟩, wt1 (List.mem_of_getElem? (i := 49) rfl)⟩
theorem nq_50 : isNest (Cond.fieldLinkNest RX1 46 "InPlaceDelta$Bytes" "count" "I" "InPlaceDelta") ∧ Cond.fieldLinkNest RX1 46 "InPlaceDelta$Bytes" "count" "I" "InPlaceDelta" ∈ tables_1 := ⟨Or.inl ⟨_, _, _, _, _, _, rfl⟩, wt1 (List.mem_of_getElem? (i := 50) rfl)⟩
theorem nq_69 : isNest (Cond.fieldLinkNest RX3 48 "InPlaceDelta$Delta" "sourceLength" "I" "InPlaceDelta") ∧ Cond.fieldLinkNest RX3 48 "InPlaceDelta$Delta" "sourceLength" "I" "InPlaceDelta" ∈ tables_1 := ⟨Or.inl ⟨_, _, _, _, _, _, rfl⟩, wt1 (List.mem_of_getElem? (i := 69) rfl)⟩
theorem nq_70 : isNest (Cond.fieldLinkNest RX1 68 "InPlaceDelta$Delta" "sourceLength" "I" "InPlaceDelta") ∧ Cond.fieldLinkNest RX1 68 "InPlaceDelta$Delta" "sourceLength" "I" "InPlaceDelta" ∈ tables_1 := ⟨Or.inl ⟨_, _, _, _, _, _, rfl⟩, wt1 (List.mem_of_getElem? (i := 70) rfl)⟩
theorem nq_71 : isNest (Cond.fieldLinkNest RX10 126 "InPlaceDelta$Delta" "sourceLength" "I" "InPlaceDelta") ∧ Cond.fieldLinkNest RX10 126 "InPlaceDelta$Delta" "sourceLength" "I" "InPlaceDelta" ∈ tables_1 := ⟨Or.inl ⟨_, _, _, _, _, _, rfl⟩, wt1 (List.mem_of_getElem? (i := 71) rfl)⟩
theorem nq_73 : isNest (Cond.fieldLinkNest RX9 51 "InPlaceDelta$Delta" "targetLength" "I" "InPlaceDelta") ∧ Cond.fieldLinkNest RX9 51 "InPlaceDelta$Delta" "targetLength" "I" "InPlaceDelta" ∈ tables_1 := ⟨Or.inl ⟨_, _, _, _, _, _, rfl⟩, wt1 (List.mem_of_getElem? (i := 73) rfl)⟩
theorem nq_74 : isNest (Cond.fieldLinkNest RX3 51 "InPlaceDelta$Delta" "targetLength" "I" "InPlaceDelta") ∧ Cond.fieldLinkNest RX3 51 "InPlaceDelta$Delta" "targetLength" "I" "InPlaceDelta" ∈ tables_1 := ⟨Or.inl ⟨_, _, _, _, _, _, rfl⟩, wt1 (List.mem_of_getElem? (i := 74) rfl)⟩
theorem nq_75 : isNest (Cond.fieldLinkNest RX1 71 "InPlaceDelta$Delta" "targetLength" "I" "InPlaceDelta") ∧ Cond.fieldLinkNest RX1 71 "InPlaceDelta$Delta" "targetLength" "I" "InPlaceDelta" ∈ tables_1 := ⟨Or.inl ⟨_, _, _, _, _, _, rfl⟩, wt1 (List.mem_of_getElem? (i := 75) rfl)⟩
theorem nq_78 : isNest (Cond.fieldLinkNest RX3 15 "InPlaceDelta$Delta" "count" "I" "InPlaceDelta") ∧ Cond.fieldLinkNest RX3 15 "InPlaceDelta$Delta" "count" "I" "InPlaceDelta" ∈ tables_1 := ⟨Or.inl ⟨_, _, _, _, _, _, rfl⟩, wt1 (List.mem_of_getElem? (i := 78) rfl)⟩
theorem nq_79 : isNest (Cond.fieldLinkNest RX5 21 "InPlaceDelta$Delta" "count" "I" "InPlaceDelta") ∧ Cond.fieldLinkNest RX5 21 "InPlaceDelta$Delta" "count" "I" "InPlaceDelta" ∈ tables_1 := ⟨Or.inl ⟨_, _, _, _, _, _, rfl⟩, wt1 (List.mem_of_getElem? (i := 79) rfl)⟩
theorem nq_80 : isNest (Cond.fieldLinkNest RX7 46 "InPlaceDelta$Delta" "count" "I" "InPlaceDelta") ∧ Cond.fieldLinkNest RX7 46 "InPlaceDelta$Delta" "count" "I" "InPlaceDelta" ∈ tables_1 := ⟨Or.inl ⟨_, _, _, _, _, _, rfl⟩, wt1 (List.mem_of_getElem? (i := 80) rfl)⟩
theorem nq_81 : isNest (Cond.fieldLinkNest RX10 104 "InPlaceDelta$Delta" "count" "I" "InPlaceDelta") ∧ Cond.fieldLinkNest RX10 104 "InPlaceDelta$Delta" "count" "I" "InPlaceDelta" ∈ tables_1 := ⟨Or.inl ⟨_, _, _, _, _, _, rfl⟩, wt1 (List.mem_of_getElem? (i := 81) rfl)⟩
theorem nq_82 : isNest (Cond.fieldLinkNest RX5 9 "InPlaceDelta$Delta" "copySet" "I" "InPlaceDelta") ∧ Cond.fieldLinkNest RX5 9 "InPlaceDelta$Delta" "copySet" "I" "InPlaceDelta" ∈ tables_1 := ⟨Or.inl ⟨_, _, _, _, _, _, rfl⟩, wt1 (List.mem_of_getElem? (i := 82) rfl)⟩
theorem nq_84 : isNest (Cond.fieldLinkNest RX7 55 "InPlaceDelta$Delta" "copySet" "I" "InPlaceDelta") ∧ Cond.fieldLinkNest RX7 55 "InPlaceDelta$Delta" "copySet" "I" "InPlaceDelta" ∈ tables_1 := ⟨Or.inl ⟨_, _, _, _, _, _, rfl⟩, wt1 (List.mem_of_getElem? (i := 84) rfl)⟩
theorem nq_116 : isNest (Cond.fieldLinkNest RX8 47 "InPlaceDelta$Plan" "there" "Z" "InPlaceDelta") ∧ Cond.fieldLinkNest RX8 47 "InPlaceDelta$Plan" "there" "Z" "InPlaceDelta" ∈ tables_1 := ⟨Or.inl ⟨_, _, _, _, _, _, rfl⟩, wt1 (List.mem_of_getElem? (i := 116) rfl)⟩
theorem nq_118 : isNest (Cond.fieldLinkNest RX10 248 "InPlaceDelta$Plan" "there" "Z" "InPlaceDelta") ∧ Cond.fieldLinkNest RX10 248 "InPlaceDelta$Plan" "there" "Z" "InPlaceDelta" ∈ tables_1 := ⟨Or.inl ⟨_, _, _, _, _, _, rfl⟩, wt1 (List.mem_of_getElem? (i := 118) rfl)⟩
theorem nq_120 : isNest (Cond.fieldLinkNest RX9 30 "InPlaceDelta$Plan" "count" "I" "InPlaceDelta") ∧ Cond.fieldLinkNest RX9 30 "InPlaceDelta$Plan" "count" "I" "InPlaceDelta" ∈ tables_1 := ⟨Or.inl ⟨_, _, _, _, _, _, rfl⟩, wt1 (List.mem_of_getElem? (i := 120) rfl)⟩
theorem nq_121 : isNest (Cond.fieldLinkNest RX3 54 "InPlaceDelta$Plan" "count" "I" "InPlaceDelta") ∧ Cond.fieldLinkNest RX3 54 "InPlaceDelta$Plan" "count" "I" "InPlaceDelta" ∈ tables_1 := ⟨Or.inl ⟨_, _, _, _, _, _, rfl⟩, wt1 (List.mem_of_getElem? (i := 121) rfl)⟩
theorem nq_123 : isNest (Cond.fieldLinkNest RX10 141 "InPlaceDelta$Plan" "convertedSet" "I" "InPlaceDelta") ∧ Cond.fieldLinkNest RX10 141 "InPlaceDelta$Plan" "convertedSet" "I" "InPlaceDelta" ∈ tables_1 := ⟨Or.inl ⟨_, _, _, _, _, _, rfl⟩, wt1 (List.mem_of_getElem? (i := 123) rfl)⟩
theorem nq_125 : isNest (Cond.fieldLinkNest RX10 154 "InPlaceDelta$Plan" "lostLength" "I" "InPlaceDelta") ∧ Cond.fieldLinkNest RX10 154 "InPlaceDelta$Plan" "lostLength" "I" "InPlaceDelta" ∈ tables_1 := ⟨Or.inl ⟨_, _, _, _, _, _, rfl⟩, wt1 (List.mem_of_getElem? (i := 125) rfl)⟩
theorem nq_146 : isNest (Cond.fieldLinkNest RX10 211 "InPlaceDelta$Work" "bytes" "LInPlaceDelta$Bytes;" "InPlaceDelta") ∧ Cond.fieldLinkNest RX10 211 "InPlaceDelta$Work" "bytes" "LInPlaceDelta$Bytes;" "InPlaceDelta" ∈ tables_1 := ⟨Or.inl ⟨_, _, _, _, _, _, rfl⟩, wt1 (List.mem_of_getElem? (i := 146) rfl)⟩
theorem nq_148 : isNest (Cond.fieldLinkNest RX8 51 "InPlaceDelta$Work" "there" "Z" "InPlaceDelta") ∧ Cond.fieldLinkNest RX8 51 "InPlaceDelta$Work" "there" "Z" "InPlaceDelta" ∈ tables_1 := ⟨Or.inl ⟨_, _, _, _, _, _, rfl⟩, wt1 (List.mem_of_getElem? (i := 148) rfl)⟩
theorem nq_149 : isNest (Cond.fieldLinkNest RX10 254 "InPlaceDelta$Work" "there" "Z" "InPlaceDelta") ∧ Cond.fieldLinkNest RX10 254 "InPlaceDelta$Work" "there" "Z" "InPlaceDelta" ∈ tables_1 := ⟨Or.inl ⟨_, _, _, _, _, _, rfl⟩, wt1 (List.mem_of_getElem? (i := 149) rfl)⟩
theorem nq_151 : isNest (Cond.fieldLinkNest RX10 200 "InPlaceDelta$Work" "left" "I" "InPlaceDelta") ∧ Cond.fieldLinkNest RX10 200 "InPlaceDelta$Work" "left" "I" "InPlaceDelta" ∈ tables_1 := ⟨Or.inl ⟨_, _, _, _, _, _, rfl⟩, wt1 (List.mem_of_getElem? (i := 151) rfl)⟩
theorem nq_160 : isNest (Cond.fieldLinkNest RX9 39 "InPlaceDelta$State" "oldVersion" "LInPlaceDelta$Bytes;" "InPlaceDelta") ∧ Cond.fieldLinkNest RX9 39 "InPlaceDelta$State" "oldVersion" "LInPlaceDelta$Bytes;" "InPlaceDelta" ∈ tables_1 := ⟨Or.inl ⟨_, _, _, _, _, _, rfl⟩, wt1 (List.mem_of_getElem? (i := 160) rfl)⟩
theorem nq_161 : isNest (Cond.fieldLinkNest RX10 91 "InPlaceDelta$State" "oldVersion" "LInPlaceDelta$Bytes;" "InPlaceDelta") ∧ Cond.fieldLinkNest RX10 91 "InPlaceDelta$State" "oldVersion" "LInPlaceDelta$Bytes;" "InPlaceDelta" ∈ tables_1 := ⟨Or.inl ⟨_, _, _, _, _, _, rfl⟩, wt1 (List.mem_of_getElem? (i := 161) rfl)⟩
theorem nq_163 : isNest (Cond.fieldLinkNest RX10 95 "InPlaceDelta$State" "newVersion" "LInPlaceDelta$Bytes;" "InPlaceDelta") ∧ Cond.fieldLinkNest RX10 95 "InPlaceDelta$State" "newVersion" "LInPlaceDelta$Bytes;" "InPlaceDelta" ∈ tables_1 := ⟨Or.inl ⟨_, _, _, _, _, _, rfl⟩, wt1 (List.mem_of_getElem? (i := 163) rfl)⟩
theorem nq_165 : isNest (Cond.fieldLinkNest RX3 9 "InPlaceDelta$State" "delta" "LInPlaceDelta$Delta;" "InPlaceDelta") ∧ Cond.fieldLinkNest RX3 9 "InPlaceDelta$State" "delta" "LInPlaceDelta$Delta;" "InPlaceDelta" ∈ tables_1 := ⟨Or.inl ⟨_, _, _, _, _, _, rfl⟩, wt1 (List.mem_of_getElem? (i := 165) rfl)⟩
theorem nq_166 : isNest (Cond.fieldLinkNest RX9 47 "InPlaceDelta$State" "delta" "LInPlaceDelta$Delta;" "InPlaceDelta") ∧ Cond.fieldLinkNest RX9 47 "InPlaceDelta$State" "delta" "LInPlaceDelta$Delta;" "InPlaceDelta" ∈ tables_1 := ⟨Or.inl ⟨_, _, _, _, _, _, rfl⟩, wt1 (List.mem_of_getElem? (i := 166) rfl)⟩
theorem nq_167 : isNest (Cond.fieldLinkNest RX10 87 "InPlaceDelta$State" "delta" "LInPlaceDelta$Delta;" "InPlaceDelta") ∧ Cond.fieldLinkNest RX10 87 "InPlaceDelta$State" "delta" "LInPlaceDelta$Delta;" "InPlaceDelta" ∈ tables_1 := ⟨Or.inl ⟨_, _, _, _, _, _, rfl⟩, wt1 (List.mem_of_getElem? (i := 167) rfl)⟩
theorem nq_169 : isNest (Cond.fieldLinkNest RX9 24 "InPlaceDelta$State" "plan" "LInPlaceDelta$Plan;" "InPlaceDelta") ∧ Cond.fieldLinkNest RX9 24 "InPlaceDelta$State" "plan" "LInPlaceDelta$Plan;" "InPlaceDelta" ∈ tables_1 := ⟨Or.inl ⟨_, _, _, _, _, _, rfl⟩, wt1 (List.mem_of_getElem? (i := 169) rfl)⟩
theorem nq_170 : isNest (Cond.fieldLinkNest RX3 21 "InPlaceDelta$State" "plan" "LInPlaceDelta$Plan;" "InPlaceDelta") ∧ Cond.fieldLinkNest RX3 21 "InPlaceDelta$State" "plan" "LInPlaceDelta$Plan;" "InPlaceDelta" ∈ tables_1 := ⟨Or.inl ⟨_, _, _, _, _, _, rfl⟩, wt1 (List.mem_of_getElem? (i := 170) rfl)⟩
theorem nq_171 : isNest (Cond.fieldLinkNest RX10 131 "InPlaceDelta$State" "plan" "LInPlaceDelta$Plan;" "InPlaceDelta") ∧ Cond.fieldLinkNest RX10 131 "InPlaceDelta$State" "plan" "LInPlaceDelta$Plan;" "InPlaceDelta" ∈ tables_1 := ⟨Or.inl ⟨_, _, _, _, _, _, rfl⟩, wt1 (List.mem_of_getElem? (i := 171) rfl)⟩
theorem nq_173 : isNest (Cond.fieldLinkNest RX3 35 "InPlaceDelta$State" "code" "LInPlaceDelta$Bytes;" "InPlaceDelta") ∧ Cond.fieldLinkNest RX3 35 "InPlaceDelta$State" "code" "LInPlaceDelta$Bytes;" "InPlaceDelta" ∈ tables_1 := ⟨Or.inl ⟨_, _, _, _, _, _, rfl⟩, wt1 (List.mem_of_getElem? (i := 173) rfl)⟩
theorem nq_174 : isNest (Cond.fieldLinkNest RX10 171 "InPlaceDelta$State" "code" "LInPlaceDelta$Bytes;" "InPlaceDelta") ∧ Cond.fieldLinkNest RX10 171 "InPlaceDelta$State" "code" "LInPlaceDelta$Bytes;" "InPlaceDelta" ∈ tables_1 := ⟨Or.inl ⟨_, _, _, _, _, _, rfl⟩, wt1 (List.mem_of_getElem? (i := 174) rfl)⟩
theorem nq_176 : isNest (Cond.fieldLinkNest RX10 191 "InPlaceDelta$State" "work" "LInPlaceDelta$Work;" "InPlaceDelta") ∧ Cond.fieldLinkNest RX10 191 "InPlaceDelta$State" "work" "LInPlaceDelta$Work;" "InPlaceDelta" ∈ tables_1 := ⟨Or.inl ⟨_, _, _, _, _, _, rfl⟩, wt1 (List.mem_of_getElem? (i := 176) rfl)⟩
theorem nq_202 : isNest (Cond.fieldLinkNest RX10 218 "InPlaceDelta$History" "count" "I" "InPlaceDelta") ∧ Cond.fieldLinkNest RX10 218 "InPlaceDelta$History" "count" "I" "InPlaceDelta" ∈ tables_1 := ⟨Or.inl ⟨_, _, _, _, _, _, rfl⟩, wt1 (List.mem_of_getElem? (i := 202) rfl)⟩
theorem nq_219 : isNest (Cond.fieldLinkNest RX10 186 "InPlaceDelta$Decoder" "delta" "LInPlaceDelta$Delta;" "InPlaceDelta") ∧ Cond.fieldLinkNest RX10 186 "InPlaceDelta$Decoder" "delta" "LInPlaceDelta$Delta;" "InPlaceDelta" ∈ tables_1 := ⟨Or.inl ⟨_, _, _, _, _, _, rfl⟩, wt1 (List.mem_of_getElem? (i := 219) rfl)⟩
theorem nq_331 : isNest (Cond.methodLinkNest RX2 40 yX10_isIn "InPlaceDelta") ∧ Cond.methodLinkNest RX2 40 yX10_isIn "InPlaceDelta" ∈ tables_1 := ⟨Or.inr (Or.inl ⟨_, _, _, _, rfl⟩), wt2 (List.mem_of_getElem? (i := 91) rfl)⟩
theorem nq_354 : isNest (Cond.methodLinkNest RX2 80 yX10_overlap "InPlaceDelta") ∧ Cond.methodLinkNest RX2 80 yX10_overlap "InPlaceDelta" ∈ tables_1 := ⟨Or.inr (Or.inl ⟨_, _, _, _, rfl⟩), wt2 (List.mem_of_getElem? (i := 114) rfl)⟩
theorem nq_389 : isNest (Cond.methodLinkNest RX5 43 yX10_without "InPlaceDelta") ∧ Cond.methodLinkNest RX5 43 yX10_without "InPlaceDelta" ∈ tables_1 := ⟨Or.inr (Or.inl ⟨_, _, _, _, rfl⟩), wt2 (List.mem_of_getElem? (i := 149) rfl)⟩
theorem nq_392 : isNest (Cond.methodLinkNest RX5 24 yX10_isIn "InPlaceDelta") ∧ Cond.methodLinkNest RX5 24 yX10_isIn "InPlaceDelta" ∈ tables_1 := ⟨Or.inr (Or.inl ⟨_, _, _, _, rfl⟩), wt2 (List.mem_of_getElem? (i := 152) rfl)⟩
theorem nq_452 : isNest (Cond.methodLinkNest RX0 46 yX10_mix "InPlaceDelta") ∧ Cond.methodLinkNest RX0 46 yX10_mix "InPlaceDelta" ∈ tables_1 := ⟨Or.inr (Or.inl ⟨_, _, _, _, rfl⟩), wt2 (List.mem_of_getElem? (i := 212) rfl)⟩
theorem nq_460 : isNest (Cond.methodLinkNest RX2 99 yX10_mix "InPlaceDelta") ∧ Cond.methodLinkNest RX2 99 yX10_mix "InPlaceDelta" ∈ tables_1 := ⟨Or.inr (Or.inl ⟨_, _, _, _, rfl⟩), wt2 (List.mem_of_getElem? (i := 220) rfl)⟩
theorem nq_478 : isNest (Cond.methodLinkNest RX7 94 yX10_mix "InPlaceDelta") ∧ Cond.methodLinkNest RX7 94 yX10_mix "InPlaceDelta" ∈ tables_1 := ⟨Or.inr (Or.inl ⟨_, _, _, _, rfl⟩), wt2 (List.mem_of_getElem? (i := 238) rfl)⟩
theorem nq_491 : isNest (Cond.methodLinkNest RX9 95 yX10_mix "InPlaceDelta") ∧ Cond.methodLinkNest RX9 95 yX10_mix "InPlaceDelta" ∈ tables_1 := ⟨Or.inr (Or.inl ⟨_, _, _, _, rfl⟩), wt3 (List.mem_of_getElem? (i := 11) rfl)⟩
theorem nq_507 : isNest (Cond.castable "java/lang/IllegalArgumentException" "java/lang/IllegalArgumentException") ∧ Cond.castable "java/lang/IllegalArgumentException" "java/lang/IllegalArgumentException" ∈ tables_1 := ⟨Or.inr (Or.inr (Or.inr ⟨_, _, rfl⟩)), wt3 (List.mem_of_getElem? (i := 27) rfl)⟩
theorem nq_508 : isNest (Cond.declares ⟨"java/lang/RuntimeException", "<init>", "()V"⟩) ∧ Cond.declares ⟨"java/lang/RuntimeException", "<init>", "()V"⟩ ∈ tables_1 := ⟨Or.inr (Or.inr (Or.inl ⟨_, rfl⟩)), wt3 (List.mem_of_getElem? (i := 28) rfl)⟩
theorem nq_509 : isNest (Cond.declares ⟨"java/lang/RuntimeException", "<init>", "(Ljava/lang/String;)V"⟩) ∧ Cond.declares ⟨"java/lang/RuntimeException", "<init>", "(Ljava/lang/String;)V"⟩ ∈ tables_1 := ⟨Or.inr (Or.inr (Or.inl ⟨_, rfl⟩)), wt3 (List.mem_of_getElem? (i := 29) rfl)⟩
theorem nq_510 : isNest (Cond.declares ⟨"java/lang/Exception", "<init>", "()V"⟩) ∧ Cond.declares ⟨"java/lang/Exception", "<init>", "()V"⟩ ∈ tables_1 := ⟨Or.inr (Or.inr (Or.inl ⟨_, rfl⟩)), wt3 (List.mem_of_getElem? (i := 30) rfl)⟩
theorem nq_511 : isNest (Cond.declares ⟨"java/lang/Exception", "<init>", "(Ljava/lang/String;)V"⟩) ∧ Cond.declares ⟨"java/lang/Exception", "<init>", "(Ljava/lang/String;)V"⟩ ∈ tables_1 := ⟨Or.inr (Or.inr (Or.inl ⟨_, rfl⟩)), wt3 (List.mem_of_getElem? (i := 31) rfl)⟩
theorem nq_512 : isNest (Cond.declares ⟨"java/lang/Throwable", "<init>", "()V"⟩) ∧ Cond.declares ⟨"java/lang/Throwable", "<init>", "()V"⟩ ∈ tables_1 := ⟨Or.inr (Or.inr (Or.inl ⟨_, rfl⟩)), wt3 (List.mem_of_getElem? (i := 32) rfl)⟩
theorem nq_513 : isNest (Cond.declares ⟨"java/lang/Throwable", "<init>", "(Ljava/lang/String;)V"⟩) ∧ Cond.declares ⟨"java/lang/Throwable", "<init>", "(Ljava/lang/String;)V"⟩ ∈ tables_1 := ⟨Or.inr (Or.inr (Or.inl ⟨_, rfl⟩)), wt3 (List.mem_of_getElem? (i := 33) rfl)⟩
theorem nq_587 : isNest (Cond.castable "java/lang/IllegalStateException" "java/lang/IllegalStateException") ∧ Cond.castable "java/lang/IllegalStateException" "java/lang/IllegalStateException" ∈ tables_1 := ⟨Or.inr (Or.inr (Or.inr ⟨_, _, rfl⟩)), wt3 (List.mem_of_getElem? (i := 107) rfl)⟩
theorem nq_620 : isNest (Cond.castable "java/lang/IndexOutOfBoundsException" "java/lang/IndexOutOfBoundsException") ∧ Cond.castable "java/lang/IndexOutOfBoundsException" "java/lang/IndexOutOfBoundsException" ∈ tables_1 := ⟨Or.inr (Or.inr (Or.inr ⟨_, _, rfl⟩)), wt3 (List.mem_of_getElem? (i := 140) rfl)⟩
theorem nq_693 : isNest (Cond.methodLinkNest RX7 31 yX10_isIn "InPlaceDelta") ∧ Cond.methodLinkNest RX7 31 yX10_isIn "InPlaceDelta" ∈ tables_1 := ⟨Or.inr (Or.inl ⟨_, _, _, _, rfl⟩), wt3 (List.mem_of_getElem? (i := 213) rfl)⟩
theorem nq_707 : isNest (Cond.methodLinkNest RX7 69 yX10_without "InPlaceDelta") ∧ Cond.methodLinkNest RX7 69 yX10_without "InPlaceDelta" ∈ tables_1 := ⟨Or.inr (Or.inl ⟨_, _, _, _, rfl⟩), wt3 (List.mem_of_getElem? (i := 227) rfl)⟩
theorem nsW_ok : ∀ w ∈ nsW, isNest w ∧ w ∈ tables_1 := List.forall_mem_cons.mpr ⟨nq_47, List.forall_mem_cons.mpr ⟨nq_48, List.forall_mem_cons.mpr ⟨nq_49, List.forall_mem_cons.mpr ⟨nq_50, List.forall_mem_cons.mpr ⟨nq_69, List.forall_mem_cons.mpr ⟨nq_70, List.forall_mem_cons.mpr ⟨nq_71, List.forall_mem_cons.mpr ⟨nq_73, List.forall_mem_cons.mpr ⟨nq_74, List.forall_mem_cons.mpr ⟨nq_75, List.forall_mem_cons.mpr ⟨nq_78, List.forall_mem_cons.mpr ⟨nq_79, List.forall_mem_cons.mpr ⟨nq_80, List.forall_mem_cons.mpr ⟨nq_81, List.forall_mem_cons.mpr ⟨nq_82, List.forall_mem_cons.mpr ⟨nq_84, List.forall_mem_cons.mpr ⟨nq_116, List.forall_mem_cons.mpr ⟨nq_118, List.forall_mem_cons.mpr ⟨nq_120, List.forall_mem_cons.mpr ⟨nq_121, List.forall_mem_cons.mpr ⟨nq_123, List.forall_mem_cons.mpr ⟨nq_125, List.forall_mem_cons.mpr ⟨nq_146, List.forall_mem_cons.mpr ⟨nq_148, List.forall_mem_cons.mpr ⟨nq_149, List.forall_mem_cons.mpr ⟨nq_151, List.forall_mem_cons.mpr ⟨nq_160, List.forall_mem_cons.mpr ⟨nq_161, List.forall_mem_cons.mpr ⟨nq_163, List.forall_mem_cons.mpr ⟨nq_165, List.forall_mem_cons.mpr ⟨nq_166, List.forall_mem_cons.mpr ⟨nq_167, List.forall_mem_cons.mpr ⟨nq_169, List.forall_mem_cons.mpr ⟨nq_170, List.forall_mem_cons.mpr ⟨nq_171, List.forall_mem_cons.mpr ⟨nq_173, List.forall_mem_cons.mpr ⟨nq_174, List.forall_mem_cons.mpr ⟨nq_176, List.forall_mem_cons.mpr ⟨nq_202, List.forall_mem_cons.mpr ⟨nq_219, List.forall_mem_cons.mpr ⟨nq_331, List.forall_mem_cons.mpr ⟨nq_354, List.forall_mem_cons.mpr ⟨nq_389, List.forall_mem_cons.mpr ⟨nq_392, List.forall_mem_cons.mpr ⟨nq_452, List.forall_mem_cons.mpr ⟨nq_460, List.forall_mem_cons.mpr ⟨nq_478, List.forall_mem_cons.mpr ⟨nq_491, List.forall_mem_cons.mpr ⟨nq_507, List.forall_mem_cons.mpr ⟨nq_508, List.forall_mem_cons.mpr ⟨nq_509, List.forall_mem_cons.mpr ⟨nq_510, List.forall_mem_cons.mpr ⟨nq_511, List.forall_mem_cons.mpr ⟨nq_512, List.forall_mem_cons.mpr ⟨nq_513, List.forall_mem_cons.mpr ⟨nq_587, List.forall_mem_cons.mpr ⟨nq_620, List.forall_mem_cons.mpr ⟨nq_693, List.forall_mem_cons.mpr ⟨nq_707, fun _ h => absurd h List.not_mem_nil⟩⟩⟩⟩⟩⟩⟩⟩⟩⟩⟩⟩⟩⟩⟩⟩⟩⟩⟩⟩⟩⟩⟩⟩⟩⟩⟩⟩⟩⟩⟩⟩⟩⟩⟩⟩⟩⟩⟩⟩⟩⟩⟩⟩⟩⟩⟩⟩⟩⟩⟩⟩⟩⟩⟩⟩⟩⟩⟩
