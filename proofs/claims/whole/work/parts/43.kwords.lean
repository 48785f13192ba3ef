/-! CONSTRUCTORS: what each makes -/
def kPre (D : va_G) (cI cS : ClassId) (w : va_W) (sz : Nat) (U : State) : Prop := U.heap.size = sz ∧ va_P D classes w U.heap ∧ va_K D classes (pm_tys cI cS) U ∧ va_D (fun _ => True) w
theorem kPre.blind {D : va_G} {cI cS : ClassId} {w : va_W} {sz : Nat} {av : List Value} : FrameBlind (va_Pc av (kPre D cI cS w sz)) := fun a U g mk q => ⟨q.1, q.2.1, q.2.2.1, va_K.moved (u := U) (U := U.calling g mk a) (Vm.Alike.refl U.vm) q.2.2.2.1, q.2.2.2.2⟩
def kPreN (D : va_G) (cI cS : ClassId) (w : va_W) (sz : Nat) (U : State) : Prop := U.heap.size = sz ∧ va_P D classes w U.heap ∧ va_K D classes (pm_tys cI cS) U ∧ va_D (fun _ => True) w ∧ va_AO "ReadFromRight$Sheet" U ∧ va_Nw (.methodLinkNest "ReadFromRight" 11 yX2_init "ReadFromRight") U ∧ va_Nw (.methodLinkNest "ReadFromRight" 18 yX1_init "ReadFromRight") U ∧ va_Nw (.methodLinkNest "ReadFromRight" 71 yX6_init "ReadFromRight") U
theorem kPreN.blind {D : va_G} {cI cS : ClassId} {w : va_W} {sz : Nat} {av : List Value} : FrameBlind (va_Pc av (kPreN D cI cS w sz)) := fun a U g mk q => ⟨q.1, q.2.1, q.2.2.1, va_K.moved (u := U) (U := U.calling g mk a) (Vm.Alike.refl U.vm) q.2.2.2.1, q.2.2.2.2.1, va_AO.moved (Vm.Alike.refl U.vm) q.2.2.2.2.2.1, va_Nw.same rfl rfl q.2.2.2.2.2.2.1, va_Nw.same rfl rfl q.2.2.2.2.2.2.2.1, va_Nw.same rfl rfl q.2.2.2.2.2.2.2.2⟩
theorem k_good {y : MethodName} {b : ByteArray} {n : Nat} (h : Cond.code y b n none ∈ pm_tb) : GoodIn pm_tb (Cond.code y b n none :: pm_tb) := pm_good (fun w hw => by
  rcases List.mem_cons.mp hw with e | e
  · rw [e]; exact h
  · exact e)
theorem k_ci {D : va_G} {cI cS cA : ClassId} {s : State} (h : va_K D classes (pm_tys cI cS) s) (h1 : va_K D classes (pm_tys cI cS ++ [(cA, .int)]) s) : cI = cA := Option.some.inj ((h.2 0 (cI, .int) rfl).2.symm.trans (h1.2 2 (cA, .int) rfl).2)
theorem k_cs {D : va_G} {cI cS cA : ClassId} {s : State} (h : va_K D classes (pm_tys cI cS) s) (h1 : va_K D classes (pm_tys cI cS ++ [(cA, .object "ReadFromRight$Sheet")]) s) : cS = cA := by
  obtain ⟨_, _, -, -, -, e⟩ := (h.2 1 (cS, .object "ReadFromRight$Sheet") rfl).2
  obtain ⟨_, _, -, -, -, e1⟩ := (h1.2 2 (cA, .object "ReadFromRight$Sheet") rfl).2
  exact Option.some.inj (e.symm.trans e1)
theorem kw_47 : lw_tbl[47]? = some (Cond.initialized RX2) := by decide +kernel
theorem kw_48 : lw_tbl[48]? = some (Cond.initialized RX1) := by decide +kernel
theorem kw_49 : lw_tbl[49]? = some (Cond.initialized RX7) := by decide +kernel
theorem kw_50 : lw_tbl[50]? = some (Cond.initialized RX4) := by decide +kernel
theorem kw_51 : lw_tbl[51]? = some (Cond.initialized RX5) := by decide +kernel
theorem kw_52 : lw_tbl[52]? = some (Cond.initialized RX0) := by decide +kernel
theorem kw_53 : lw_tbl[53]? = some (Cond.initialized RX3) := by decide +kernel
theorem kw_54 : lw_tbl[54]? = some (Cond.initialized RX8) := by decide +kernel
theorem kw_55 : lw_tbl[55]? = some (Cond.initialized RX6) := by decide +kernel
theorem kw_66 : lw_tbl[66]? = some (Cond.methodLink RX9 3 objectInit) := by decide +kernel
theorem kw_67 : lw_tbl[67]? = some (Cond.instanceMethod objectInit) := by decide +kernel
theorem kw_68 : lw_tbl[68]? = some (Cond.code objectInit ⟨#[0xb1]⟩ 1 none) := by decide +kernel
theorem kw_69 : lw_tbl[69]? = some (Cond.classLink RX9 9 RX2) := by decide +kernel
theorem kw_70 : lw_tbl[70]? = some (Cond.instantiable RX2 1) := by decide +kernel
theorem kw_72 : lw_tbl[72]? = some (Cond.instanceMethod yX2_init) := by decide +kernel
theorem kw_73 : lw_tbl[73]? = some (Cond.code yX2_init cX2_init 1 none) := by decide +kernel
theorem kw_74 : lw_tbl[74]? = some (Cond.methodLink RX2 3 objectInit) := by decide +kernel
theorem kw_75 : lw_tbl[75]? = some (Cond.fieldLink RX2 9 "ReadFromRight$Law" "values" "[I") := by decide +kernel
theorem kw_79 : lw_tbl[79]? = some (Cond.arrayClass .int) := by decide +kernel
theorem kw_80 : lw_tbl[80]? = some (Cond.classLink RX9 16 RX1) := by decide +kernel
theorem kw_81 : lw_tbl[81]? = some (Cond.instantiable RX1 6) := by decide +kernel
theorem kw_83 : lw_tbl[83]? = some (Cond.instanceMethod yX1_init) := by decide +kernel
theorem kw_84 : lw_tbl[84]? = some (Cond.code yX1_init cX1_init 1 none) := by decide +kernel
theorem kw_85 : lw_tbl[85]? = some (Cond.methodLink RX1 3 objectInit) := by decide +kernel
theorem kw_86 : lw_tbl[86]? = some (Cond.fieldLink RX1 9 "ReadFromRight$Goods" "bytes" "[I") := by decide +kernel
theorem kw_87 : lw_tbl[87]? = some (Cond.fieldLink RX1 15 "ReadFromRight$Goods" "prices" "[I") := by decide +kernel
theorem kw_88 : lw_tbl[88]? = some (Cond.fieldLink RX1 18 "ReadFromRight$Goods" "used" "I") := by decide +kernel
theorem kw_89 : lw_tbl[89]? = some (Cond.fieldLink RX1 22 "ReadFromRight$Goods" "many" "I") := by decide +kernel
theorem kw_90 : lw_tbl[90]? = some (Cond.fieldLink RX1 25 "ReadFromRight$Goods" "wanted" "I") := by decide +kernel
theorem kw_91 : lw_tbl[91]? = some (Cond.fieldLink RX1 28 "ReadFromRight$Goods" "badPlace" "I") := by decide +kernel
theorem kw_105 : lw_tbl[105]? = some (Cond.classLink RX9 23 RX7) := by decide +kernel
theorem kw_106 : lw_tbl[106]? = some (Cond.instantiable RX7 12) := by decide +kernel
theorem kw_107 : lw_tbl[107]? = some (Cond.methodLink RX9 25 yX7_init) := by decide +kernel
theorem kw_108 : lw_tbl[108]? = some (Cond.instanceMethod yX7_init) := by decide +kernel
theorem kw_109 : lw_tbl[109]? = some (Cond.code yX7_init cX7_init 3 none) := by decide +kernel
theorem kw_110 : lw_tbl[110]? = some (Cond.methodLink RX7 3 objectInit) := by decide +kernel
theorem kw_111 : lw_tbl[111]? = some (Cond.fieldLink RX7 44 "ReadFromRight$Till" "law" "LReadFromRight$Law;") := by decide +kernel
theorem kw_112 : lw_tbl[112]? = some (Cond.fieldLink RX7 48 "ReadFromRight$Till" "goods" "LReadFromRight$Goods;") := by decide +kernel
theorem kw_113 : lw_tbl[113]? = some (Cond.fieldLink RX7 9 "ReadFromRight$Till" "sums" "[I") := by decide +kernel
theorem kw_114 : lw_tbl[114]? = some (Cond.fieldLink RX7 15 "ReadFromRight$Till" "payments" "[I") := by decide +kernel
theorem kw_115 : lw_tbl[115]? = some (Cond.fieldLink RX7 18 "ReadFromRight$Till" "leastParted" "[I") := by decide +kernel
theorem kw_116 : lw_tbl[116]? = some (Cond.fieldLink RX7 21 "ReadFromRight$Till" "mostParted" "[I") := by decide +kernel
theorem kw_117 : lw_tbl[117]? = some (Cond.fieldLink RX7 24 "ReadFromRight$Till" "knowsBills" "Z") := by decide +kernel
theorem kw_118 : lw_tbl[118]? = some (Cond.fieldLink RX7 28 "ReadFromRight$Till" "knowsBought" "Z") := by decide +kernel
theorem kw_119 : lw_tbl[119]? = some (Cond.fieldLink RX7 31 "ReadFromRight$Till" "least" "I") := by decide +kernel
theorem kw_120 : lw_tbl[120]? = some (Cond.fieldLink RX7 35 "ReadFromRight$Till" "fewest" "I") := by decide +kernel
theorem kw_121 : lw_tbl[121]? = some (Cond.fieldLink RX7 38 "ReadFromRight$Till" "bitsOfLeast" "I") := by decide +kernel
theorem kw_122 : lw_tbl[122]? = some (Cond.fieldLink RX7 41 "ReadFromRight$Till" "most" "I") := by decide +kernel
theorem kw_148 : lw_tbl[148]? = some (Cond.classLink RX9 32 RX4) := by decide +kernel
theorem kw_149 : lw_tbl[149]? = some (Cond.instantiable RX4 3) := by decide +kernel
theorem kw_150 : lw_tbl[150]? = some (Cond.methodLink RX9 34 yX4_init) := by decide +kernel
theorem kw_151 : lw_tbl[151]? = some (Cond.instanceMethod yX4_init) := by decide +kernel
theorem kw_152 : lw_tbl[152]? = some (Cond.code yX4_init cX4_init 3 none) := by decide +kernel
theorem kw_153 : lw_tbl[153]? = some (Cond.methodLink RX4 3 objectInit) := by decide +kernel
theorem kw_154 : lw_tbl[154]? = some (Cond.fieldLink RX4 15 "ReadFromRight$Partners" "law" "LReadFromRight$Law;") := by decide +kernel
theorem kw_155 : lw_tbl[155]? = some (Cond.fieldLink RX4 19 "ReadFromRight$Partners" "goods" "LReadFromRight$Goods;") := by decide +kernel
theorem kw_156 : lw_tbl[156]? = some (Cond.fieldLink RX4 9 "ReadFromRight$Partners" "owners" "[I") := by decide +kernel
theorem kw_164 : lw_tbl[164]? = some (Cond.classLink RX9 39 RX5) := by decide +kernel
theorem kw_165 : lw_tbl[165]? = some (Cond.instantiable RX5 3) := by decide +kernel
theorem kw_166 : lw_tbl[166]? = some (Cond.methodLink RX9 41 yX5_init) := by decide +kernel
theorem kw_167 : lw_tbl[167]? = some (Cond.instanceMethod yX5_init) := by decide +kernel
theorem kw_168 : lw_tbl[168]? = some (Cond.code yX5_init cX5_init 2 none) := by decide +kernel
theorem kw_169 : lw_tbl[169]? = some (Cond.methodLink RX5 3 objectInit) := by decide +kernel
theorem kw_170 : lw_tbl[170]? = some (Cond.fieldLink RX5 19 "ReadFromRight$Purse" "law" "LReadFromRight$Law;") := by decide +kernel
theorem kw_171 : lw_tbl[171]? = some (Cond.fieldLink RX5 9 "ReadFromRight$Purse" "held" "[I") := by decide +kernel
theorem kw_172 : lw_tbl[172]? = some (Cond.fieldLink RX5 15 "ReadFromRight$Purse" "made" "I") := by decide +kernel
theorem kw_180 : lw_tbl[180]? = some (Cond.classLink RX9 48 RX0) := by decide +kernel
theorem kw_181 : lw_tbl[181]? = some (Cond.instantiable RX0 4) := by decide +kernel
theorem kw_182 : lw_tbl[182]? = some (Cond.methodLink RX9 50 yX0_init) := by decide +kernel
theorem kw_183 : lw_tbl[183]? = some (Cond.instanceMethod yX0_init) := by decide +kernel
theorem kw_184 : lw_tbl[184]? = some (Cond.code yX0_init cX0_init 2 none) := by decide +kernel
theorem kw_185 : lw_tbl[185]? = some (Cond.methodLink RX0 3 objectInit) := by decide +kernel
theorem kw_186 : lw_tbl[186]? = some (Cond.fieldLink RX0 22 "ReadFromRight$FigureCount" "law" "LReadFromRight$Law;") := by decide +kernel
theorem kw_187 : lw_tbl[187]? = some (Cond.fieldLink RX0 9 "ReadFromRight$FigureCount" "answers" "[I") := by decide +kernel
theorem kw_188 : lw_tbl[188]? = some (Cond.fieldLink RX0 15 "ReadFromRight$FigureCount" "counted" "I") := by decide +kernel
theorem kw_189 : lw_tbl[189]? = some (Cond.fieldLink RX0 19 "ReadFromRight$FigureCount" "farthestBy" "I") := by decide +kernel
theorem kw_199 : lw_tbl[199]? = some (Cond.classLink RX9 55 RX3) := by decide +kernel
theorem kw_200 : lw_tbl[200]? = some (Cond.instantiable RX3 3) := by decide +kernel
theorem kw_201 : lw_tbl[201]? = some (Cond.methodLink RX9 57 yX3_init) := by decide +kernel
theorem kw_202 : lw_tbl[202]? = some (Cond.instanceMethod yX3_init) := by decide +kernel
theorem kw_203 : lw_tbl[203]? = some (Cond.code yX3_init cX3_init 2 none) := by decide +kernel
theorem kw_204 : lw_tbl[204]? = some (Cond.methodLink RX3 3 objectInit) := by decide +kernel
theorem kw_205 : lw_tbl[205]? = some (Cond.fieldLink RX3 18 "ReadFromRight$Months" "law" "LReadFromRight$Law;") := by decide +kernel
theorem kw_206 : lw_tbl[206]? = some (Cond.fieldLink RX3 9 "ReadFromRight$Months" "payments" "[I") := by decide +kernel
theorem kw_207 : lw_tbl[207]? = some (Cond.fieldLink RX3 15 "ReadFromRight$Months" "best" "[I") := by decide +kernel
theorem kw_215 : lw_tbl[215]? = some (Cond.classLink RX9 62 RX8) := by decide +kernel
theorem kw_216 : lw_tbl[216]? = some (Cond.instantiable RX8 3) := by decide +kernel
theorem kw_217 : lw_tbl[217]? = some (Cond.methodLink RX9 64 yX8_init) := by decide +kernel
theorem kw_218 : lw_tbl[218]? = some (Cond.instanceMethod yX8_init) := by decide +kernel
theorem kw_219 : lw_tbl[219]? = some (Cond.code yX8_init cX8_init 2 none) := by decide +kernel
theorem kw_220 : lw_tbl[220]? = some (Cond.methodLink RX8 3 objectInit) := by decide +kernel
theorem kw_221 : lw_tbl[221]? = some (Cond.fieldLink RX8 18 "ReadFromRight$Turns" "law" "LReadFromRight$Law;") := by decide +kernel
theorem kw_222 : lw_tbl[222]? = some (Cond.fieldLink RX8 9 "ReadFromRight$Turns" "ofFirst" "[I") := by decide +kernel
theorem kw_223 : lw_tbl[223]? = some (Cond.fieldLink RX8 15 "ReadFromRight$Turns" "ofOther" "[I") := by decide +kernel
theorem kw_231 : lw_tbl[231]? = some (Cond.classLink RX9 69 RX6) := by decide +kernel
theorem kw_233 : lw_tbl[233]? = some (Cond.instantiable RX6 3) := by decide +kernel
theorem kw_235 : lw_tbl[235]? = some (Cond.instanceMethod yX6_init) := by decide +kernel
theorem kw_236 : lw_tbl[236]? = some (Cond.code yX6_init cX6_init 1 none) := by decide +kernel
theorem kw_237 : lw_tbl[237]? = some (Cond.methodLink RX6 3 objectInit) := by decide +kernel
theorem kw_238 : lw_tbl[238]? = some (Cond.fieldLink RX6 9 "ReadFromRight$Sheet" "items" "[I") := by decide +kernel
theorem kw_239 : lw_tbl[239]? = some (Cond.fieldLink RX6 15 "ReadFromRight$Sheet" "form" "I") := by decide +kernel
theorem kw_240 : lw_tbl[240]? = some (Cond.fieldLink RX6 19 "ReadFromRight$Sheet" "length" "I") := by decide +kernel
theorem kw_248 : lw_tbl[248]? = some (Cond.fieldLink RX9 12 "ReadFromRight" "law" "LReadFromRight$Law;") := by decide +kernel
theorem kw_249 : lw_tbl[249]? = some (Cond.fieldLink RX9 19 "ReadFromRight" "goods" "LReadFromRight$Goods;") := by decide +kernel
theorem kw_250 : lw_tbl[250]? = some (Cond.fieldLink RX9 28 "ReadFromRight" "till" "LReadFromRight$Till;") := by decide +kernel
theorem kw_251 : lw_tbl[251]? = some (Cond.fieldLink RX9 35 "ReadFromRight" "partners" "LReadFromRight$Partners;") := by decide +kernel
theorem kw_252 : lw_tbl[252]? = some (Cond.fieldLink RX9 44 "ReadFromRight" "purses" "LReadFromRight$Purse;") := by decide +kernel
theorem kw_253 : lw_tbl[253]? = some (Cond.fieldLink RX9 51 "ReadFromRight" "figureCount" "LReadFromRight$FigureCount;") := by decide +kernel
theorem kw_254 : lw_tbl[254]? = some (Cond.fieldLink RX9 58 "ReadFromRight" "months" "LReadFromRight$Months;") := by decide +kernel
theorem kw_255 : lw_tbl[255]? = some (Cond.fieldLink RX9 65 "ReadFromRight" "turns" "LReadFromRight$Turns;") := by decide +kernel
theorem kw_256 : lw_tbl[256]? = some (Cond.fieldLink RX9 72 "ReadFromRight" "sheets" "[LReadFromRight$Sheet;") := by decide +kernel
theorem kw_257 : lw_tbl[257]? = some (Cond.fieldLink RX9 76 "ReadFromRight" "row" "[I") := by decide +kernel
theorem kw_258 : lw_tbl[258]? = some (Cond.fieldLink RX9 80 "ReadFromRight" "latestFinding" "I") := by decide +kernel
theorem kw_749 : lw_tbl[749]? = some (Cond.methodLink RX10 1 objectInit) := by decide +kernel
theorem kw_750 : lw_tbl[750]? = some (Cond.fieldLink RX10 7 "ReadFromRightModel" "forms" "[I") := by decide +kernel
theorem kw_751 : lw_tbl[751]? = some (Cond.fieldLink RX10 13 "ReadFromRightModel" "sizes" "[I") := by decide +kernel
theorem kw_752 : lw_tbl[752]? = some (Cond.fieldLink RX10 16 "ReadFromRightModel" "items" "[I") := by decide +kernel
theorem kw_753 : lw_tbl[753]? = some (Cond.fieldLink RX10 19 "ReadFromRightModel" "moved" "[I") := by decide +kernel
theorem kw_755 : lw_tbl[755]? = some (Cond.fieldLink RX10 22 "ReadFromRightModel" "text" "[I") := by decide +kernel
theorem kw_759 : lw_tbl[759]? = some (Cond.fieldLink RX10 25 "ReadFromRightModel" "prices" "[I") := by decide +kernel
theorem kw_761 : lw_tbl[761]? = some (Cond.fieldLink RX10 28 "ReadFromRightModel" "partners" "[I") := by decide +kernel
theorem kw_762 : lw_tbl[762]? = some (Cond.fieldLink RX10 31 "ReadFromRightModel" "settings" "[I") := by decide +kernel
theorem kw_763 : lw_tbl[763]? = some (Cond.fieldLink RX10 34 "ReadFromRightModel" "least" "[I") := by decide +kernel
theorem kw_764 : lw_tbl[764]? = some (Cond.fieldLink RX10 37 "ReadFromRightModel" "most" "[I") := by decide +kernel
theorem kw_765 : lw_tbl[765]? = some (Cond.fieldLink RX10 40 "ReadFromRightModel" "costs" "[I") := by decide +kernel
theorem kw_766 : lw_tbl[766]? = some (Cond.fieldLink RX10 43 "ReadFromRightModel" "purses" "[I") := by decide +kernel
theorem kw_767 : lw_tbl[767]? = some (Cond.fieldLink RX10 46 "ReadFromRightModel" "parted" "[I") := by decide +kernel
theorem kw_768 : lw_tbl[768]? = some (Cond.fieldLink RX10 49 "ReadFromRightModel" "nextParted" "[I") := by decide +kernel
theorem kw_769 : lw_tbl[769]? = some (Cond.fieldLink RX10 52 "ReadFromRightModel" "ends" "[I") := by decide +kernel
theorem dk_X2_init_0 : decode cX2_init 0 = .ok (.aload_n 0, 1) := by decide +kernel
theorem dk_X2_init_1 : decode cX2_init 1 = .ok (.invokespecial 3, 3) := by decide +kernel
theorem dk_X2_init_4 : decode cX2_init 4 = .ok (.aload_n 0, 1) := by decide +kernel
theorem dk_X2_init_5 : decode cX2_init 5 = .ok (.iconst 4, 1) := by decide +kernel
theorem dk_X2_init_6 : decode cX2_init 6 = .ok (.newarray .int, 2) := by decide +kernel
theorem dk_X2_init_8 : decode cX2_init 8 = .ok (.dup, 1) := by decide +kernel
theorem dk_X2_init_9 : decode cX2_init 9 = .ok (.iconst 0, 1) := by decide +kernel
theorem dk_X2_init_10 : decode cX2_init 10 = .ok (.bipush 10, 2) := by decide +kernel
theorem dk_X2_init_12 : decode cX2_init 12 = .ok (.iastore, 1) := by decide +kernel
theorem dk_X2_init_13 : decode cX2_init 13 = .ok (.dup, 1) := by decide +kernel
theorem dk_X2_init_14 : decode cX2_init 14 = .ok (.iconst 1, 1) := by decide +kernel
theorem dk_X2_init_15 : decode cX2_init 15 = .ok (.iconst 0, 1) := by decide +kernel
theorem dk_X2_init_16 : decode cX2_init 16 = .ok (.iastore, 1) := by decide +kernel
theorem dk_X2_init_17 : decode cX2_init 17 = .ok (.dup, 1) := by decide +kernel
theorem dk_X2_init_18 : decode cX2_init 18 = .ok (.iconst 2, 1) := by decide +kernel
theorem dk_X2_init_19 : decode cX2_init 19 = .ok (.iconst 0, 1) := by decide +kernel
theorem dk_X2_init_20 : decode cX2_init 20 = .ok (.iastore, 1) := by decide +kernel
theorem dk_X2_init_21 : decode cX2_init 21 = .ok (.dup, 1) := by decide +kernel
theorem dk_X2_init_22 : decode cX2_init 22 = .ok (.iconst 3, 1) := by decide +kernel
theorem dk_X2_init_23 : decode cX2_init 23 = .ok (.iconst 1, 1) := by decide +kernel
theorem dk_X2_init_24 : decode cX2_init 24 = .ok (.iastore, 1) := by decide +kernel
theorem dk_X2_init_25 : decode cX2_init 25 = .ok (.putfield 9, 3) := by decide +kernel
theorem dk_X2_init_28 : decode cX2_init 28 = .ok (.return_, 1) := by decide +kernel
theorem dk_X1_init_0 : decode cX1_init 0 = .ok (.aload_n 0, 1) := by decide +kernel
theorem dk_X1_init_1 : decode cX1_init 1 = .ok (.invokespecial 3, 3) := by decide +kernel
theorem dk_X1_init_4 : decode cX1_init 4 = .ok (.aload_n 0, 1) := by decide +kernel
theorem dk_X1_init_5 : decode cX1_init 5 = .ok (.bipush 50, 2) := by decide +kernel
theorem dk_X1_init_7 : decode cX1_init 7 = .ok (.newarray .int, 2) := by decide +kernel
theorem dk_X1_init_9 : decode cX1_init 9 = .ok (.putfield 9, 3) := by decide +kernel
theorem dk_X1_init_12 : decode cX1_init 12 = .ok (.aload_n 0, 1) := by decide +kernel
theorem dk_X1_init_13 : decode cX1_init 13 = .ok (.bipush 8, 2) := by decide +kernel
theorem dk_X1_init_15 : decode cX1_init 15 = .ok (.newarray .int, 2) := by decide +kernel
theorem dk_X1_init_17 : decode cX1_init 17 = .ok (.putfield 15, 3) := by decide +kernel
theorem dk_X1_init_20 : decode cX1_init 20 = .ok (.aload_n 0, 1) := by decide +kernel
theorem dk_X1_init_21 : decode cX1_init 21 = .ok (.iconst 0, 1) := by decide +kernel
theorem dk_X1_init_22 : decode cX1_init 22 = .ok (.putfield 18, 3) := by decide +kernel
theorem dk_X1_init_25 : decode cX1_init 25 = .ok (.aload_n 0, 1) := by decide +kernel
theorem dk_X1_init_26 : decode cX1_init 26 = .ok (.iconst 0, 1) := by decide +kernel
theorem dk_X1_init_27 : decode cX1_init 27 = .ok (.putfield 22, 3) := by decide +kernel
theorem dk_X1_init_30 : decode cX1_init 30 = .ok (.aload_n 0, 1) := by decide +kernel
theorem dk_X1_init_31 : decode cX1_init 31 = .ok (.iconst 0, 1) := by decide +kernel
theorem dk_X1_init_32 : decode cX1_init 32 = .ok (.putfield 25, 3) := by decide +kernel
theorem dk_X1_init_35 : decode cX1_init 35 = .ok (.aload_n 0, 1) := by decide +kernel
theorem dk_X1_init_36 : decode cX1_init 36 = .ok (.iconst (-1), 1) := by decide +kernel
theorem dk_X1_init_37 : decode cX1_init 37 = .ok (.putfield 28, 3) := by decide +kernel
theorem dk_X1_init_40 : decode cX1_init 40 = .ok (.return_, 1) := by decide +kernel
theorem dk_X7_init_0 : decode cX7_init 0 = .ok (.aload_n 0, 1) := by decide +kernel
theorem dk_X7_init_1 : decode cX7_init 1 = .ok (.invokespecial 3, 3) := by decide +kernel
theorem dk_X7_init_4 : decode cX7_init 4 = .ok (.aload_n 0, 1) := by decide +kernel
theorem dk_X7_init_5 : decode cX7_init 5 = .ok (.sipush 256, 3) := by decide +kernel
theorem dk_X7_init_8 : decode cX7_init 8 = .ok (.newarray .int, 2) := by decide +kernel
theorem dk_X7_init_10 : decode cX7_init 10 = .ok (.putfield 9, 3) := by decide +kernel
theorem dk_X7_init_13 : decode cX7_init 13 = .ok (.aload_n 0, 1) := by decide +kernel
theorem dk_X7_init_14 : decode cX7_init 14 = .ok (.sipush 256, 3) := by decide +kernel
theorem dk_X7_init_17 : decode cX7_init 17 = .ok (.newarray .int, 2) := by decide +kernel
theorem dk_X7_init_19 : decode cX7_init 19 = .ok (.putfield 15, 3) := by decide +kernel
theorem dk_X7_init_22 : decode cX7_init 22 = .ok (.aload_n 0, 1) := by decide +kernel
theorem dk_X7_init_23 : decode cX7_init 23 = .ok (.sipush 256, 3) := by decide +kernel
theorem dk_X7_init_26 : decode cX7_init 26 = .ok (.newarray .int, 2) := by decide +kernel
theorem dk_X7_init_28 : decode cX7_init 28 = .ok (.putfield 18, 3) := by decide +kernel
theorem dk_X7_init_31 : decode cX7_init 31 = .ok (.aload_n 0, 1) := by decide +kernel
theorem dk_X7_init_32 : decode cX7_init 32 = .ok (.sipush 256, 3) := by decide +kernel
theorem dk_X7_init_35 : decode cX7_init 35 = .ok (.newarray .int, 2) := by decide +kernel
theorem dk_X7_init_37 : decode cX7_init 37 = .ok (.putfield 21, 3) := by decide +kernel
theorem dk_X7_init_40 : decode cX7_init 40 = .ok (.aload_n 0, 1) := by decide +kernel
theorem dk_X7_init_41 : decode cX7_init 41 = .ok (.iconst 0, 1) := by decide +kernel
theorem dk_X7_init_42 : decode cX7_init 42 = .ok (.putfield 24, 3) := by decide +kernel
theorem dk_X7_init_45 : decode cX7_init 45 = .ok (.aload_n 0, 1) := by decide +kernel
theorem dk_X7_init_46 : decode cX7_init 46 = .ok (.iconst 0, 1) := by decide +kernel
theorem dk_X7_init_47 : decode cX7_init 47 = .ok (.putfield 28, 3) := by decide +kernel
theorem dk_X7_init_50 : decode cX7_init 50 = .ok (.aload_n 0, 1) := by decide +kernel
theorem dk_X7_init_51 : decode cX7_init 51 = .ok (.iconst 0, 1) := by decide +kernel
theorem dk_X7_init_52 : decode cX7_init 52 = .ok (.putfield 31, 3) := by decide +kernel
theorem dk_X7_init_55 : decode cX7_init 55 = .ok (.aload_n 0, 1) := by decide +kernel
theorem dk_X7_init_56 : decode cX7_init 56 = .ok (.iconst 0, 1) := by decide +kernel
theorem dk_X7_init_57 : decode cX7_init 57 = .ok (.putfield 35, 3) := by decide +kernel
theorem dk_X7_init_60 : decode cX7_init 60 = .ok (.aload_n 0, 1) := by decide +kernel
theorem dk_X7_init_61 : decode cX7_init 61 = .ok (.iconst 0, 1) := by decide +kernel
theorem dk_X7_init_62 : decode cX7_init 62 = .ok (.putfield 38, 3) := by decide +kernel
theorem dk_X7_init_65 : decode cX7_init 65 = .ok (.aload_n 0, 1) := by decide +kernel
theorem dk_X7_init_66 : decode cX7_init 66 = .ok (.iconst 0, 1) := by decide +kernel
theorem dk_X7_init_67 : decode cX7_init 67 = .ok (.putfield 41, 3) := by decide +kernel
theorem dk_X7_init_70 : decode cX7_init 70 = .ok (.aload_n 0, 1) := by decide +kernel
theorem dk_X7_init_71 : decode cX7_init 71 = .ok (.aload_n 1, 1) := by decide +kernel
theorem dk_X7_init_72 : decode cX7_init 72 = .ok (.putfield 44, 3) := by decide +kernel
theorem dk_X7_init_75 : decode cX7_init 75 = .ok (.aload_n 0, 1) := by decide +kernel
theorem dk_X7_init_76 : decode cX7_init 76 = .ok (.aload_n 2, 1) := by decide +kernel
theorem dk_X7_init_77 : decode cX7_init 77 = .ok (.putfield 48, 3) := by decide +kernel
theorem dk_X7_init_80 : decode cX7_init 80 = .ok (.return_, 1) := by decide +kernel
theorem dk_X4_init_0 : decode cX4_init 0 = .ok (.aload_n 0, 1) := by decide +kernel
theorem dk_X4_init_1 : decode cX4_init 1 = .ok (.invokespecial 3, 3) := by decide +kernel
theorem dk_X4_init_4 : decode cX4_init 4 = .ok (.aload_n 0, 1) := by decide +kernel
theorem dk_X4_init_5 : decode cX4_init 5 = .ok (.bipush 8, 2) := by decide +kernel
theorem dk_X4_init_7 : decode cX4_init 7 = .ok (.newarray .int, 2) := by decide +kernel
theorem dk_X4_init_9 : decode cX4_init 9 = .ok (.putfield 9, 3) := by decide +kernel
theorem dk_X4_init_12 : decode cX4_init 12 = .ok (.aload_n 0, 1) := by decide +kernel
theorem dk_X4_init_13 : decode cX4_init 13 = .ok (.aload_n 1, 1) := by decide +kernel
theorem dk_X4_init_14 : decode cX4_init 14 = .ok (.putfield 15, 3) := by decide +kernel
theorem dk_X4_init_17 : decode cX4_init 17 = .ok (.aload_n 0, 1) := by decide +kernel
theorem dk_X4_init_18 : decode cX4_init 18 = .ok (.aload_n 2, 1) := by decide +kernel
theorem dk_X4_init_19 : decode cX4_init 19 = .ok (.putfield 19, 3) := by decide +kernel
theorem dk_X4_init_22 : decode cX4_init 22 = .ok (.return_, 1) := by decide +kernel
theorem dk_X5_init_0 : decode cX5_init 0 = .ok (.aload_n 0, 1) := by decide +kernel
theorem dk_X5_init_1 : decode cX5_init 1 = .ok (.invokespecial 3, 3) := by decide +kernel
theorem dk_X5_init_4 : decode cX5_init 4 = .ok (.aload_n 0, 1) := by decide +kernel
theorem dk_X5_init_5 : decode cX5_init 5 = .ok (.sipush 201, 3) := by decide +kernel
theorem dk_X5_init_8 : decode cX5_init 8 = .ok (.newarray .int, 2) := by decide +kernel
theorem dk_X5_init_10 : decode cX5_init 10 = .ok (.putfield 9, 3) := by decide +kernel
theorem dk_X5_init_13 : decode cX5_init 13 = .ok (.aload_n 0, 1) := by decide +kernel
theorem dk_X5_init_14 : decode cX5_init 14 = .ok (.iconst 0, 1) := by decide +kernel
theorem dk_X5_init_15 : decode cX5_init 15 = .ok (.putfield 15, 3) := by decide +kernel
theorem dk_X5_init_18 : decode cX5_init 18 = .ok (.aload_n 0, 1) := by decide +kernel
theorem dk_X5_init_19 : decode cX5_init 19 = .ok (.aload_n 1, 1) := by decide +kernel
theorem dk_X5_init_20 : decode cX5_init 20 = .ok (.putfield 19, 3) := by decide +kernel
theorem dk_X5_init_23 : decode cX5_init 23 = .ok (.return_, 1) := by decide +kernel
theorem dk_X0_init_0 : decode cX0_init 0 = .ok (.aload_n 0, 1) := by decide +kernel
theorem dk_X0_init_1 : decode cX0_init 1 = .ok (.invokespecial 3, 3) := by decide +kernel
theorem dk_X0_init_4 : decode cX0_init 4 = .ok (.aload_n 0, 1) := by decide +kernel
theorem dk_X0_init_5 : decode cX0_init 5 = .ok (.iconst 4, 1) := by decide +kernel
theorem dk_X0_init_6 : decode cX0_init 6 = .ok (.newarray .int, 2) := by decide +kernel
theorem dk_X0_init_8 : decode cX0_init 8 = .ok (.putfield 9, 3) := by decide +kernel
theorem dk_X0_init_11 : decode cX0_init 11 = .ok (.aload_n 0, 1) := by decide +kernel
theorem dk_X0_init_12 : decode cX0_init 12 = .ok (.iconst 0, 1) := by decide +kernel
theorem dk_X0_init_13 : decode cX0_init 13 = .ok (.putfield 15, 3) := by decide +kernel
theorem dk_X0_init_16 : decode cX0_init 16 = .ok (.aload_n 0, 1) := by decide +kernel
theorem dk_X0_init_17 : decode cX0_init 17 = .ok (.iconst (-1), 1) := by decide +kernel
theorem dk_X0_init_18 : decode cX0_init 18 = .ok (.putfield 19, 3) := by decide +kernel
theorem dk_X0_init_21 : decode cX0_init 21 = .ok (.aload_n 0, 1) := by decide +kernel
theorem dk_X0_init_22 : decode cX0_init 22 = .ok (.aload_n 1, 1) := by decide +kernel
theorem dk_X0_init_23 : decode cX0_init 23 = .ok (.putfield 22, 3) := by decide +kernel
theorem dk_X0_init_26 : decode cX0_init 26 = .ok (.return_, 1) := by decide +kernel
theorem dk_X3_init_0 : decode cX3_init 0 = .ok (.aload_n 0, 1) := by decide +kernel
theorem dk_X3_init_1 : decode cX3_init 1 = .ok (.invokespecial 3, 3) := by decide +kernel
theorem dk_X3_init_4 : decode cX3_init 4 = .ok (.aload_n 0, 1) := by decide +kernel
theorem dk_X3_init_5 : decode cX3_init 5 = .ok (.bipush 121, 2) := by decide +kernel
theorem dk_X3_init_7 : decode cX3_init 7 = .ok (.newarray .int, 2) := by decide +kernel
theorem dk_X3_init_9 : decode cX3_init 9 = .ok (.putfield 9, 3) := by decide +kernel
theorem dk_X3_init_12 : decode cX3_init 12 = .ok (.aload_n 0, 1) := by decide +kernel
theorem dk_X3_init_13 : decode cX3_init 13 = .ok (.bipush 121, 2) := by decide +kernel
theorem dk_X3_init_15 : decode cX3_init 15 = .ok (.newarray .int, 2) := by decide +kernel
theorem dk_X3_init_17 : decode cX3_init 17 = .ok (.putfield 15, 3) := by decide +kernel
theorem dk_X3_init_20 : decode cX3_init 20 = .ok (.aload_n 0, 1) := by decide +kernel
theorem dk_X3_init_21 : decode cX3_init 21 = .ok (.aload_n 1, 1) := by decide +kernel
theorem dk_X3_init_22 : decode cX3_init 22 = .ok (.putfield 18, 3) := by decide +kernel
theorem dk_X3_init_25 : decode cX3_init 25 = .ok (.return_, 1) := by decide +kernel
theorem dk_X8_init_0 : decode cX8_init 0 = .ok (.aload_n 0, 1) := by decide +kernel
theorem dk_X8_init_1 : decode cX8_init 1 = .ok (.invokespecial 3, 3) := by decide +kernel
theorem dk_X8_init_4 : decode cX8_init 4 = .ok (.aload_n 0, 1) := by decide +kernel
theorem dk_X8_init_5 : decode cX8_init 5 = .ok (.sipush 209, 3) := by decide +kernel
theorem dk_X8_init_8 : decode cX8_init 8 = .ok (.newarray .int, 2) := by decide +kernel
theorem dk_X8_init_10 : decode cX8_init 10 = .ok (.putfield 9, 3) := by decide +kernel
theorem dk_X8_init_13 : decode cX8_init 13 = .ok (.aload_n 0, 1) := by decide +kernel
theorem dk_X8_init_14 : decode cX8_init 14 = .ok (.sipush 209, 3) := by decide +kernel
theorem dk_X8_init_17 : decode cX8_init 17 = .ok (.newarray .int, 2) := by decide +kernel
theorem dk_X8_init_19 : decode cX8_init 19 = .ok (.putfield 15, 3) := by decide +kernel
theorem dk_X8_init_22 : decode cX8_init 22 = .ok (.aload_n 0, 1) := by decide +kernel
theorem dk_X8_init_23 : decode cX8_init 23 = .ok (.aload_n 1, 1) := by decide +kernel
theorem dk_X8_init_24 : decode cX8_init 24 = .ok (.putfield 18, 3) := by decide +kernel
theorem dk_X8_init_27 : decode cX8_init 27 = .ok (.return_, 1) := by decide +kernel
theorem dk_X6_init_0 : decode cX6_init 0 = .ok (.aload_n 0, 1) := by decide +kernel
theorem dk_X6_init_1 : decode cX6_init 1 = .ok (.invokespecial 3, 3) := by decide +kernel
theorem dk_X6_init_4 : decode cX6_init 4 = .ok (.aload_n 0, 1) := by decide +kernel
theorem dk_X6_init_5 : decode cX6_init 5 = .ok (.bipush 60, 2) := by decide +kernel
theorem dk_X6_init_7 : decode cX6_init 7 = .ok (.newarray .int, 2) := by decide +kernel
theorem dk_X6_init_9 : decode cX6_init 9 = .ok (.putfield 9, 3) := by decide +kernel
theorem dk_X6_init_12 : decode cX6_init 12 = .ok (.aload_n 0, 1) := by decide +kernel
theorem dk_X6_init_13 : decode cX6_init 13 = .ok (.iconst (-1), 1) := by decide +kernel
theorem dk_X6_init_14 : decode cX6_init 14 = .ok (.putfield 15, 3) := by decide +kernel
theorem dk_X6_init_17 : decode cX6_init 17 = .ok (.aload_n 0, 1) := by decide +kernel
theorem dk_X6_init_18 : decode cX6_init 18 = .ok (.iconst 0, 1) := by decide +kernel
theorem dk_X6_init_19 : decode cX6_init 19 = .ok (.putfield 19, 3) := by decide +kernel
theorem dk_X6_init_22 : decode cX6_init 22 = .ok (.return_, 1) := by decide +kernel
theorem dk_X9_init_0 : decode cX9_init 0 = .ok (.aload_n 0, 1) := by decide +kernel
theorem dk_X9_init_1 : decode cX9_init 1 = .ok (.invokespecial 3, 3) := by decide +kernel
theorem dk_X9_init_4 : decode cX9_init 4 = .ok (.aload_n 0, 1) := by decide +kernel
theorem dk_X9_init_5 : decode cX9_init 5 = .ok (.new 9, 3) := by decide +kernel
theorem dk_X9_init_8 : decode cX9_init 8 = .ok (.dup, 1) := by decide +kernel
theorem dk_X9_init_9 : decode cX9_init 9 = .ok (.invokespecial 11, 3) := by decide +kernel
theorem dk_X9_init_12 : decode cX9_init 12 = .ok (.putfield 12, 3) := by decide +kernel
theorem dk_X9_init_15 : decode cX9_init 15 = .ok (.aload_n 0, 1) := by decide +kernel
theorem dk_X9_init_16 : decode cX9_init 16 = .ok (.new 16, 3) := by decide +kernel
theorem dk_X9_init_19 : decode cX9_init 19 = .ok (.dup, 1) := by decide +kernel
theorem dk_X9_init_20 : decode cX9_init 20 = .ok (.invokespecial 18, 3) := by decide +kernel
theorem dk_X9_init_23 : decode cX9_init 23 = .ok (.putfield 19, 3) := by decide +kernel
theorem dk_X9_init_26 : decode cX9_init 26 = .ok (.aload_n 0, 1) := by decide +kernel
theorem dk_X9_init_27 : decode cX9_init 27 = .ok (.new 23, 3) := by decide +kernel
theorem dk_X9_init_30 : decode cX9_init 30 = .ok (.dup, 1) := by decide +kernel
theorem dk_X9_init_31 : decode cX9_init 31 = .ok (.aload_n 0, 1) := by decide +kernel
theorem dk_X9_init_32 : decode cX9_init 32 = .ok (.getfield 12, 3) := by decide +kernel
theorem dk_X9_init_35 : decode cX9_init 35 = .ok (.aload_n 0, 1) := by decide +kernel
theorem dk_X9_init_36 : decode cX9_init 36 = .ok (.getfield 19, 3) := by decide +kernel
theorem dk_X9_init_39 : decode cX9_init 39 = .ok (.invokespecial 25, 3) := by decide +kernel
theorem dk_X9_init_42 : decode cX9_init 42 = .ok (.putfield 28, 3) := by decide +kernel
theorem dk_X9_init_45 : decode cX9_init 45 = .ok (.aload_n 0, 1) := by decide +kernel
theorem dk_X9_init_46 : decode cX9_init 46 = .ok (.new 32, 3) := by decide +kernel
theorem dk_X9_init_49 : decode cX9_init 49 = .ok (.dup, 1) := by decide +kernel
theorem dk_X9_init_50 : decode cX9_init 50 = .ok (.aload_n 0, 1) := by decide +kernel
theorem dk_X9_init_51 : decode cX9_init 51 = .ok (.getfield 12, 3) := by decide +kernel
theorem dk_X9_init_54 : decode cX9_init 54 = .ok (.aload_n 0, 1) := by decide +kernel
theorem dk_X9_init_55 : decode cX9_init 55 = .ok (.getfield 19, 3) := by decide +kernel
theorem dk_X9_init_58 : decode cX9_init 58 = .ok (.invokespecial 34, 3) := by decide +kernel
theorem dk_X9_init_61 : decode cX9_init 61 = .ok (.putfield 35, 3) := by decide +kernel
theorem dk_X9_init_64 : decode cX9_init 64 = .ok (.aload_n 0, 1) := by decide +kernel
theorem dk_X9_init_65 : decode cX9_init 65 = .ok (.new 39, 3) := by decide +kernel
theorem dk_X9_init_68 : decode cX9_init 68 = .ok (.dup, 1) := by decide +kernel
theorem dk_X9_init_69 : decode cX9_init 69 = .ok (.aload_n 0, 1) := by decide +kernel
theorem dk_X9_init_70 : decode cX9_init 70 = .ok (.getfield 12, 3) := by decide +kernel
theorem dk_X9_init_73 : decode cX9_init 73 = .ok (.invokespecial 41, 3) := by decide +kernel
theorem dk_X9_init_76 : decode cX9_init 76 = .ok (.putfield 44, 3) := by decide +kernel
theorem dk_X9_init_79 : decode cX9_init 79 = .ok (.aload_n 0, 1) := by decide +kernel
theorem dk_X9_init_80 : decode cX9_init 80 = .ok (.new 48, 3) := by decide +kernel
theorem dk_X9_init_83 : decode cX9_init 83 = .ok (.dup, 1) := by decide +kernel
theorem dk_X9_init_84 : decode cX9_init 84 = .ok (.aload_n 0, 1) := by decide +kernel
theorem dk_X9_init_85 : decode cX9_init 85 = .ok (.getfield 12, 3) := by decide +kernel
theorem dk_X9_init_88 : decode cX9_init 88 = .ok (.invokespecial 50, 3) := by decide +kernel
theorem dk_X9_init_91 : decode cX9_init 91 = .ok (.putfield 51, 3) := by decide +kernel
theorem dk_X9_init_94 : decode cX9_init 94 = .ok (.aload_n 0, 1) := by decide +kernel
theorem dk_X9_init_95 : decode cX9_init 95 = .ok (.new 55, 3) := by decide +kernel
theorem dk_X9_init_98 : decode cX9_init 98 = .ok (.dup, 1) := by decide +kernel
theorem dk_X9_init_99 : decode cX9_init 99 = .ok (.aload_n 0, 1) := by decide +kernel
theorem dk_X9_init_100 : decode cX9_init 100 = .ok (.getfield 12, 3) := by decide +kernel
theorem dk_X9_init_103 : decode cX9_init 103 = .ok (.invokespecial 57, 3) := by decide +kernel
theorem dk_X9_init_106 : decode cX9_init 106 = .ok (.putfield 58, 3) := by decide +kernel
theorem dk_X9_init_109 : decode cX9_init 109 = .ok (.aload_n 0, 1) := by decide +kernel
theorem dk_X9_init_110 : decode cX9_init 110 = .ok (.new 62, 3) := by decide +kernel
theorem dk_X9_init_113 : decode cX9_init 113 = .ok (.dup, 1) := by decide +kernel
theorem dk_X9_init_114 : decode cX9_init 114 = .ok (.aload_n 0, 1) := by decide +kernel
theorem dk_X9_init_115 : decode cX9_init 115 = .ok (.getfield 12, 3) := by decide +kernel
theorem dk_X9_init_118 : decode cX9_init 118 = .ok (.invokespecial 64, 3) := by decide +kernel
theorem dk_X9_init_121 : decode cX9_init 121 = .ok (.putfield 65, 3) := by decide +kernel
theorem dk_X9_init_124 : decode cX9_init 124 = .ok (.aload_n 0, 1) := by decide +kernel
theorem dk_X9_init_125 : decode cX9_init 125 = .ok (.iconst 4, 1) := by decide +kernel
theorem dk_X9_init_126 : decode cX9_init 126 = .ok (.anewarray 69, 3) := by decide +kernel
theorem dk_X9_init_129 : decode cX9_init 129 = .ok (.dup, 1) := by decide +kernel
theorem dk_X9_init_130 : decode cX9_init 130 = .ok (.iconst 0, 1) := by decide +kernel
theorem dk_X9_init_131 : decode cX9_init 131 = .ok (.new 69, 3) := by decide +kernel
theorem dk_X9_init_134 : decode cX9_init 134 = .ok (.dup, 1) := by decide +kernel
theorem dk_X9_init_135 : decode cX9_init 135 = .ok (.invokespecial 71, 3) := by decide +kernel
theorem dk_X9_init_138 : decode cX9_init 138 = .ok (.aastore, 1) := by decide +kernel
theorem dk_X9_init_139 : decode cX9_init 139 = .ok (.dup, 1) := by decide +kernel
theorem dk_X9_init_140 : decode cX9_init 140 = .ok (.iconst 1, 1) := by decide +kernel
theorem dk_X9_init_141 : decode cX9_init 141 = .ok (.new 69, 3) := by decide +kernel
theorem dk_X9_init_144 : decode cX9_init 144 = .ok (.dup, 1) := by decide +kernel
theorem dk_X9_init_145 : decode cX9_init 145 = .ok (.invokespecial 71, 3) := by decide +kernel
theorem dk_X9_init_148 : decode cX9_init 148 = .ok (.aastore, 1) := by decide +kernel
theorem dk_X9_init_149 : decode cX9_init 149 = .ok (.dup, 1) := by decide +kernel
theorem dk_X9_init_150 : decode cX9_init 150 = .ok (.iconst 2, 1) := by decide +kernel
theorem dk_X9_init_151 : decode cX9_init 151 = .ok (.new 69, 3) := by decide +kernel
theorem dk_X9_init_154 : decode cX9_init 154 = .ok (.dup, 1) := by decide +kernel
theorem dk_X9_init_155 : decode cX9_init 155 = .ok (.invokespecial 71, 3) := by decide +kernel
theorem dk_X9_init_158 : decode cX9_init 158 = .ok (.aastore, 1) := by decide +kernel
theorem dk_X9_init_159 : decode cX9_init 159 = .ok (.dup, 1) := by decide +kernel
theorem dk_X9_init_160 : decode cX9_init 160 = .ok (.iconst 3, 1) := by decide +kernel
theorem dk_X9_init_161 : decode cX9_init 161 = .ok (.new 69, 3) := by decide +kernel
theorem dk_X9_init_164 : decode cX9_init 164 = .ok (.dup, 1) := by decide +kernel
theorem dk_X9_init_165 : decode cX9_init 165 = .ok (.invokespecial 71, 3) := by decide +kernel
theorem dk_X9_init_168 : decode cX9_init 168 = .ok (.aastore, 1) := by decide +kernel
theorem dk_X9_init_169 : decode cX9_init 169 = .ok (.putfield 72, 3) := by decide +kernel
theorem dk_X9_init_172 : decode cX9_init 172 = .ok (.aload_n 0, 1) := by decide +kernel
theorem dk_X9_init_173 : decode cX9_init 173 = .ok (.bipush 31, 2) := by decide +kernel
theorem dk_X9_init_175 : decode cX9_init 175 = .ok (.newarray .int, 2) := by decide +kernel
theorem dk_X9_init_177 : decode cX9_init 177 = .ok (.putfield 76, 3) := by decide +kernel
theorem dk_X9_init_180 : decode cX9_init 180 = .ok (.aload_n 0, 1) := by decide +kernel
theorem dk_X9_init_181 : decode cX9_init 181 = .ok (.iconst 0, 1) := by decide +kernel
theorem dk_X9_init_182 : decode cX9_init 182 = .ok (.putfield 80, 3) := by decide +kernel
theorem dk_X9_init_185 : decode cX9_init 185 = .ok (.return_, 1) := by decide +kernel
theorem dk_X10_init_0 : decode cX10_init 0 = .ok (.aload_n 0, 1) := by decide +kernel
theorem dk_X10_init_1 : decode cX10_init 1 = .ok (.invokespecial 1, 3) := by decide +kernel
theorem dk_X10_init_4 : decode cX10_init 4 = .ok (.aload_n 0, 1) := by decide +kernel
theorem dk_X10_init_5 : decode cX10_init 5 = .ok (.iconst 4, 1) := by decide +kernel
theorem dk_X10_init_6 : decode cX10_init 6 = .ok (.newarray .int, 2) := by decide +kernel
theorem dk_X10_init_8 : decode cX10_init 8 = .ok (.putfield 7, 3) := by decide +kernel
theorem dk_X10_init_11 : decode cX10_init 11 = .ok (.aload_n 0, 1) := by decide +kernel
theorem dk_X10_init_12 : decode cX10_init 12 = .ok (.iconst 4, 1) := by decide +kernel
theorem dk_X10_init_13 : decode cX10_init 13 = .ok (.newarray .int, 2) := by decide +kernel
theorem dk_X10_init_15 : decode cX10_init 15 = .ok (.putfield 13, 3) := by decide +kernel
theorem dk_X10_init_18 : decode cX10_init 18 = .ok (.aload_n 0, 1) := by decide +kernel
theorem dk_X10_init_19 : decode cX10_init 19 = .ok (.sipush 240, 3) := by decide +kernel
theorem dk_X10_init_22 : decode cX10_init 22 = .ok (.newarray .int, 2) := by decide +kernel
theorem dk_X10_init_24 : decode cX10_init 24 = .ok (.putfield 16, 3) := by decide +kernel
theorem dk_X10_init_27 : decode cX10_init 27 = .ok (.aload_n 0, 1) := by decide +kernel
theorem dk_X10_init_28 : decode cX10_init 28 = .ok (.bipush 60, 2) := by decide +kernel
theorem dk_X10_init_30 : decode cX10_init 30 = .ok (.newarray .int, 2) := by decide +kernel
theorem dk_X10_init_32 : decode cX10_init 32 = .ok (.putfield 19, 3) := by decide +kernel
theorem dk_X10_init_35 : decode cX10_init 35 = .ok (.aload_n 0, 1) := by decide +kernel
theorem dk_X10_init_36 : decode cX10_init 36 = .ok (.bipush 50, 2) := by decide +kernel
theorem dk_X10_init_38 : decode cX10_init 38 = .ok (.newarray .int, 2) := by decide +kernel
theorem dk_X10_init_40 : decode cX10_init 40 = .ok (.putfield 22, 3) := by decide +kernel
theorem dk_X10_init_43 : decode cX10_init 43 = .ok (.aload_n 0, 1) := by decide +kernel
theorem dk_X10_init_44 : decode cX10_init 44 = .ok (.bipush 8, 2) := by decide +kernel
theorem dk_X10_init_46 : decode cX10_init 46 = .ok (.newarray .int, 2) := by decide +kernel
theorem dk_X10_init_48 : decode cX10_init 48 = .ok (.putfield 25, 3) := by decide +kernel
theorem dk_X10_init_51 : decode cX10_init 51 = .ok (.aload_n 0, 1) := by decide +kernel
theorem dk_X10_init_52 : decode cX10_init 52 = .ok (.bipush 8, 2) := by decide +kernel
theorem dk_X10_init_54 : decode cX10_init 54 = .ok (.newarray .int, 2) := by decide +kernel
theorem dk_X10_init_56 : decode cX10_init 56 = .ok (.putfield 28, 3) := by decide +kernel
theorem dk_X10_init_59 : decode cX10_init 59 = .ok (.aload_n 0, 1) := by decide +kernel
theorem dk_X10_init_60 : decode cX10_init 60 = .ok (.iconst 4, 1) := by decide +kernel
theorem dk_X10_init_61 : decode cX10_init 61 = .ok (.newarray .int, 2) := by decide +kernel
theorem dk_X10_init_63 : decode cX10_init 63 = .ok (.putfield 31, 3) := by decide +kernel
theorem dk_X10_init_66 : decode cX10_init 66 = .ok (.aload_n 0, 1) := by decide +kernel
theorem dk_X10_init_67 : decode cX10_init 67 = .ok (.sipush 1280, 3) := by decide +kernel
theorem dk_X10_init_70 : decode cX10_init 70 = .ok (.newarray .int, 2) := by decide +kernel
theorem dk_X10_init_72 : decode cX10_init 72 = .ok (.putfield 34, 3) := by decide +kernel
theorem dk_X10_init_75 : decode cX10_init 75 = .ok (.aload_n 0, 1) := by decide +kernel
theorem dk_X10_init_76 : decode cX10_init 76 = .ok (.sipush 1280, 3) := by decide +kernel
theorem dk_X10_init_79 : decode cX10_init 79 = .ok (.newarray .int, 2) := by decide +kernel
theorem dk_X10_init_81 : decode cX10_init 81 = .ok (.putfield 37, 3) := by decide +kernel
theorem dk_X10_init_84 : decode cX10_init 84 = .ok (.aload_n 0, 1) := by decide +kernel
theorem dk_X10_init_85 : decode cX10_init 85 = .ok (.sipush 256, 3) := by decide +kernel
theorem dk_X10_init_88 : decode cX10_init 88 = .ok (.newarray .int, 2) := by decide +kernel
theorem dk_X10_init_90 : decode cX10_init 90 = .ok (.putfield 40, 3) := by decide +kernel
theorem dk_X10_init_93 : decode cX10_init 93 = .ok (.aload_n 0, 1) := by decide +kernel
theorem dk_X10_init_94 : decode cX10_init 94 = .ok (.sipush 201, 3) := by decide +kernel
theorem dk_X10_init_97 : decode cX10_init 97 = .ok (.newarray .int, 2) := by decide +kernel
theorem dk_X10_init_99 : decode cX10_init 99 = .ok (.putfield 43, 3) := by decide +kernel
theorem dk_X10_init_102 : decode cX10_init 102 = .ok (.aload_n 0, 1) := by decide +kernel
theorem dk_X10_init_103 : decode cX10_init 103 = .ok (.bipush 121, 2) := by decide +kernel
theorem dk_X10_init_105 : decode cX10_init 105 = .ok (.newarray .int, 2) := by decide +kernel
theorem dk_X10_init_107 : decode cX10_init 107 = .ok (.putfield 46, 3) := by decide +kernel
theorem dk_X10_init_110 : decode cX10_init 110 = .ok (.aload_n 0, 1) := by decide +kernel
theorem dk_X10_init_111 : decode cX10_init 111 = .ok (.bipush 121, 2) := by decide +kernel
theorem dk_X10_init_113 : decode cX10_init 113 = .ok (.newarray .int, 2) := by decide +kernel
theorem dk_X10_init_115 : decode cX10_init 115 = .ok (.putfield 49, 3) := by decide +kernel
theorem dk_X10_init_118 : decode cX10_init 118 = .ok (.aload_n 0, 1) := by decide +kernel
theorem dk_X10_init_119 : decode cX10_init 119 = .ok (.sipush 420, 3) := by decide +kernel
theorem dk_X10_init_122 : decode cX10_init 122 = .ok (.newarray .int, 2) := by decide +kernel
theorem dk_X10_init_124 : decode cX10_init 124 = .ok (.putfield 52, 3) := by decide +kernel
theorem dk_X10_init_127 : decode cX10_init 127 = .ok (.iconst 0, 1) := by decide +kernel
theorem dk_X10_init_128 : decode cX10_init 128 = .ok (.istore_n 1, 1) := by decide +kernel
theorem dk_X10_init_129 : decode cX10_init 129 = .ok (.iload_n 1, 1) := by decide +kernel
theorem dk_X10_init_130 : decode cX10_init 130 = .ok (.iconst 4, 1) := by decide +kernel
theorem dk_X10_init_131 : decode cX10_init 131 = .ok (.if_icmp .ge 16, 3) := by decide +kernel
theorem dk_X10_init_134 : decode cX10_init 134 = .ok (.aload_n 0, 1) := by decide +kernel
theorem dk_X10_init_135 : decode cX10_init 135 = .ok (.getfield 7, 3) := by decide +kernel
theorem dk_X10_init_138 : decode cX10_init 138 = .ok (.iload_n 1, 1) := by decide +kernel
theorem dk_X10_init_139 : decode cX10_init 139 = .ok (.iconst (-1), 1) := by decide +kernel
theorem dk_X10_init_140 : decode cX10_init 140 = .ok (.iastore, 1) := by decide +kernel
theorem dk_X10_init_141 : decode cX10_init 141 = .ok (.iinc 1 1, 3) := by decide +kernel
theorem dk_X10_init_144 : decode cX10_init 144 = .ok (.goto (-15), 3) := by decide +kernel
theorem dk_X10_init_147 : decode cX10_init 147 = .ok (.aload_n 0, 1) := by decide +kernel
theorem dk_X10_init_148 : decode cX10_init 148 = .ok (.getfield 31, 3) := by decide +kernel
theorem dk_X10_init_151 : decode cX10_init 151 = .ok (.iconst 0, 1) := by decide +kernel
theorem dk_X10_init_152 : decode cX10_init 152 = .ok (.bipush 10, 2) := by decide +kernel
theorem dk_X10_init_154 : decode cX10_init 154 = .ok (.iastore, 1) := by decide +kernel
theorem dk_X10_init_155 : decode cX10_init 155 = .ok (.aload_n 0, 1) := by decide +kernel
theorem dk_X10_init_156 : decode cX10_init 156 = .ok (.getfield 31, 3) := by decide +kernel
theorem dk_X10_init_159 : decode cX10_init 159 = .ok (.iconst 3, 1) := by decide +kernel
theorem dk_X10_init_160 : decode cX10_init 160 = .ok (.iconst 1, 1) := by decide +kernel
theorem dk_X10_init_161 : decode cX10_init 161 = .ok (.iastore, 1) := by decide +kernel
theorem dk_X10_init_162 : decode cX10_init 162 = .ok (.return_, 1) := by decide +kernel
