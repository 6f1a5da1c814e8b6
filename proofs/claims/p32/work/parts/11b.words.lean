/-! what the tables say, word by word (printed) -/
theorem wd_116 : Cond.code yJ6_bitCount_0f7a4 cJ6_bitCount_0f7a4 1 (some .int) ∈ m_gd := List.mem_filter.mpr ⟨List.mem_of_getElem? (i := 469) (by decide +kernel), by decide +kernel⟩
theorem wd_117 : Cond.instantiable RX2 3 ∈ m_gd := List.mem_filter.mpr ⟨List.mem_of_getElem? (i := 273) (by decide +kernel), by decide +kernel⟩
theorem wd_118 : Cond.methodLink RX3 78 yX2_init ∈ m_gd := List.mem_filter.mpr ⟨List.mem_of_getElem? (i := 274) (by decide +kernel), by decide +kernel⟩
theorem wd_119 : Cond.instanceMethod yX2_init ∈ m_gd := List.mem_filter.mpr ⟨List.mem_of_getElem? (i := 275) (by decide +kernel), by decide +kernel⟩
theorem wd_120 : Cond.code yX2_init cX2_init 7 none ∈ m_gd := List.mem_filter.mpr ⟨List.mem_of_getElem? (i := 276) (by decide +kernel), by decide +kernel⟩
theorem wd_121 : Cond.methodLink RX3 81 yX3_wear ∈ m_gd := List.mem_filter.mpr ⟨List.mem_of_getElem? (i := 294) (by decide +kernel), by decide +kernel⟩
theorem wd_122 : Cond.instanceMethod yX3_wear ∈ m_gd := List.mem_filter.mpr ⟨List.mem_of_getElem? (i := 296) (by decide +kernel), by decide +kernel⟩
theorem wd_123 : Cond.selects RX3 yX3_wear yX3_wear ∈ m_gd := List.mem_filter.mpr ⟨List.mem_of_getElem? (i := 1) (by decide +kernel), by decide +kernel⟩
theorem wd_124 : Cond.code yX3_wear cX3_wear 2 none ∈ m_gd := List.mem_filter.mpr ⟨List.mem_of_getElem? (i := 297) (by decide +kernel), by decide +kernel⟩
theorem wd_125 : Cond.methodLink RX3 84 yX3_setMark ∈ m_gd := List.mem_filter.mpr ⟨List.mem_of_getElem? (i := 298) (by decide +kernel), by decide +kernel⟩
theorem wd_126 : Cond.instanceMethod yX3_setMark ∈ m_gd := List.mem_filter.mpr ⟨List.mem_of_getElem? (i := 243) (by decide +kernel), by decide +kernel⟩
theorem wd_127 : Cond.selects RX3 yX3_setMark yX3_setMark ∈ m_gd := List.mem_filter.mpr ⟨List.mem_of_getElem? (i := 244) (by decide +kernel), by decide +kernel⟩
theorem wd_128 : Cond.code yX3_setMark cX3_setMark 5 none ∈ m_gd := List.mem_filter.mpr ⟨List.mem_of_getElem? (i := 245) (by decide +kernel), by decide +kernel⟩
theorem wd_129 : Cond.methodLink RX3 88 yX3_sheetAt ∈ m_gd := List.mem_filter.mpr ⟨List.mem_of_getElem? (i := 315) (by decide +kernel), by decide +kernel⟩
theorem wd_130 : Cond.instanceMethod yX3_sheetAt ∈ m_gd := List.mem_filter.mpr ⟨List.mem_of_getElem? (i := 308) (by decide +kernel), by decide +kernel⟩
theorem wd_131 : Cond.selects RX3 yX3_sheetAt yX3_sheetAt ∈ m_gd := List.mem_filter.mpr ⟨List.mem_of_getElem? (i := 309) (by decide +kernel), by decide +kernel⟩
theorem wd_132 : Cond.code yX3_sheetAt cX3_sheetAt 2 (some (.object "CardSheets$Sheet")) ∈ m_gd := List.mem_filter.mpr ⟨List.mem_of_getElem? (i := 310) (by decide +kernel), by decide +kernel⟩
theorem wd_133 : Cond.fieldLink RX3 92 RX1 (TX1 1).2.1 (TX1 1).2.2.1 ∈ m_gd := List.mem_filter.mpr ⟨List.mem_of_getElem? (i := 36) (by decide +kernel), by decide +kernel⟩
theorem wd_134 : Cond.fieldLink RX3 96 RX1 (TX1 2).2.1 (TX1 2).2.2.1 ∈ m_gd := List.mem_filter.mpr ⟨List.mem_of_getElem? (i := 39) (by decide +kernel), by decide +kernel⟩
theorem wd_135 : Cond.fieldLink RX3 99 RX2 (TX2 2).2.1 (TX2 2).2.2.1 ∈ m_gd := List.mem_filter.mpr ⟨List.mem_of_getElem? (i := 286) (by decide +kernel), by decide +kernel⟩
theorem wn_136 : Cond.methodLinkNest RX3 100 yX5_courtsBeyond "CardSheets" ∈ m_nest := List.mem_filter.mpr ⟨List.mem_of_getElem? (i := 376) (by decide +kernel), by decide +kernel⟩
theorem wd_137 : Cond.static yX5_courtsBeyond ∈ m_gd := List.mem_filter.mpr ⟨List.mem_of_getElem? (i := 377) (by decide +kernel), by decide +kernel⟩
theorem wd_138 : Cond.code yX5_courtsBeyond cX5_courtsBeyond 4 (some .int) ∈ m_gd := List.mem_filter.mpr ⟨List.mem_of_getElem? (i := 378) (by decide +kernel), by decide +kernel⟩
theorem wd_139 : Cond.methodLink RX3 103 yX1_known ∈ m_gd := List.mem_filter.mpr ⟨List.mem_of_getElem? (i := 382) (by decide +kernel), by decide +kernel⟩
theorem wd_140 : Cond.instanceMethod yX1_known ∈ m_gd := List.mem_filter.mpr ⟨List.mem_of_getElem? (i := 383) (by decide +kernel), by decide +kernel⟩
theorem wd_141 : Cond.selects RX1 yX1_known yX1_known ∈ m_gd := List.mem_filter.mpr ⟨List.mem_of_getElem? (i := 384) (by decide +kernel), by decide +kernel⟩
theorem wd_142 : Cond.code yX1_known cX1_known 4 (some .int) ∈ m_gd := List.mem_filter.mpr ⟨List.mem_of_getElem? (i := 385) (by decide +kernel), by decide +kernel⟩
theorem wd_143 : Cond.methodLink RX4 3 Lib.objectInit ∈ m_gd := List.mem_filter.mpr ⟨List.mem_of_getElem? (i := 122) (by decide +kernel), by decide +kernel⟩
theorem wd_144 : Cond.arrayClass .char ∈ m_gd := List.mem_filter.mpr ⟨List.mem_of_getElem? (i := 146) (by decide +kernel), by decide +kernel⟩
theorem wd_145 : Cond.fieldLink RX4 9 RX4 (TX4 0).2.1 (TX4 0).2.2.1 ∈ m_gd := List.mem_filter.mpr ⟨List.mem_of_getElem? (i := 123) (by decide +kernel), by decide +kernel⟩
theorem wd_146 : Cond.fieldLink RX4 15 RX4 (TX4 1).2.1 (TX4 1).2.2.1 ∈ m_gd := List.mem_filter.mpr ⟨List.mem_of_getElem? (i := 124) (by decide +kernel), by decide +kernel⟩
theorem wd_147 : Cond.fieldLink RX4 19 RX4 (TX4 2).2.1 (TX4 2).2.2.1 ∈ m_gd := List.mem_filter.mpr ⟨List.mem_of_getElem? (i := 126) (by decide +kernel), by decide +kernel⟩
theorem wd_148 : Cond.fieldLink RX4 22 RX4 (TX4 3).2.1 (TX4 3).2.2.1 ∈ m_gd := List.mem_filter.mpr ⟨List.mem_of_getElem? (i := 127) (by decide +kernel), by decide +kernel⟩
theorem wd_149 : Cond.fieldLink RX4 25 RX4 (TX4 4).2.1 (TX4 4).2.2.1 ∈ m_gd := List.mem_filter.mpr ⟨List.mem_of_getElem? (i := 128) (by decide +kernel), by decide +kernel⟩
theorem wd_150 : Cond.fieldLink RX4 29 RX4 (TX4 5).2.1 (TX4 5).2.2.1 ∈ m_gd := List.mem_filter.mpr ⟨List.mem_of_getElem? (i := 129) (by decide +kernel), by decide +kernel⟩
theorem wd_151 : Cond.fieldLink RX4 32 RX4 (TX4 6).2.1 (TX4 6).2.2.1 ∈ m_gd := List.mem_filter.mpr ⟨List.mem_of_getElem? (i := 130) (by decide +kernel), by decide +kernel⟩
theorem wd_152 : Cond.methodLink RX5 1 Lib.objectInit ∈ m_gd := List.mem_filter.mpr ⟨List.mem_of_getElem? (i := 17) (by decide +kernel), by decide +kernel⟩
theorem wd_153 : Cond.classLink RX5 7 RX3 ∈ m_gd := List.mem_filter.mpr ⟨List.mem_of_getElem? (i := 20) (by decide +kernel), by decide +kernel⟩
theorem wd_154 : Cond.methodLink RX5 9 yX3_init ∈ m_gd := List.mem_filter.mpr ⟨List.mem_of_getElem? (i := 22) (by decide +kernel), by decide +kernel⟩
theorem wd_155 : Cond.fieldLink RX5 10 RX5 (TX5 0).2.1 (TX5 0).2.2.1 ∈ m_gd := List.mem_filter.mpr ⟨List.mem_of_getElem? (i := 147) (by decide +kernel), by decide +kernel⟩
theorem wd_156 : Cond.fieldLink RX5 16 RX5 (TX5 1).2.1 (TX5 1).2.2.1 ∈ m_gd := List.mem_filter.mpr ⟨List.mem_of_getElem? (i := 148) (by decide +kernel), by decide +kernel⟩
theorem wd_157 : Cond.classLink RX5 19 RX0 ∈ m_gd := List.mem_filter.mpr ⟨List.mem_of_getElem? (i := 97) (by decide +kernel), by decide +kernel⟩
theorem wd_158 : Cond.instantiable RX0 3 ∈ m_gd := List.mem_filter.mpr ⟨List.mem_of_getElem? (i := 98) (by decide +kernel), by decide +kernel⟩
theorem wd_159 : Cond.methodLink RX5 21 yX0_init ∈ m_gd := List.mem_filter.mpr ⟨List.mem_of_getElem? (i := 99) (by decide +kernel), by decide +kernel⟩
theorem wd_160 : Cond.instanceMethod yX0_init ∈ m_gd := List.mem_filter.mpr ⟨List.mem_of_getElem? (i := 100) (by decide +kernel), by decide +kernel⟩
theorem wd_161 : Cond.code yX0_init cX0_init 2 none ∈ m_gd := List.mem_filter.mpr ⟨List.mem_of_getElem? (i := 101) (by decide +kernel), by decide +kernel⟩
theorem wd_162 : Cond.fieldLink RX5 22 RX5 (TX5 2).2.1 (TX5 2).2.2.1 ∈ m_gd := List.mem_filter.mpr ⟨List.mem_of_getElem? (i := 149) (by decide +kernel), by decide +kernel⟩
theorem wd_163 : Cond.classLink RX5 26 RX4 ∈ m_gd := List.mem_filter.mpr ⟨List.mem_of_getElem? (i := 117) (by decide +kernel), by decide +kernel⟩
theorem wd_164 : Cond.instantiable RX4 7 ∈ m_gd := List.mem_filter.mpr ⟨List.mem_of_getElem? (i := 118) (by decide +kernel), by decide +kernel⟩
theorem wd_165 : Cond.initialized RX4 ∈ m_gd := List.mem_filter.mpr ⟨List.mem_of_getElem? (i := 7) (by decide +kernel), by decide +kernel⟩
theorem wn_166 : Cond.methodLinkNest RX5 28 yX4_init "CardSheets" ∈ m_nest := List.mem_filter.mpr ⟨List.mem_of_getElem? (i := 119) (by decide +kernel), by decide +kernel⟩
theorem wd_167 : Cond.instanceMethod yX4_init ∈ m_gd := List.mem_filter.mpr ⟨List.mem_of_getElem? (i := 120) (by decide +kernel), by decide +kernel⟩
theorem wd_168 : Cond.code yX4_init cX4_init 1 none ∈ m_gd := List.mem_filter.mpr ⟨List.mem_of_getElem? (i := 121) (by decide +kernel), by decide +kernel⟩
theorem wd_169 : Cond.fieldLink RX5 29 RX5 (TX5 3).2.1 (TX5 3).2.2.1 ∈ m_gd := List.mem_filter.mpr ⟨List.mem_of_getElem? (i := 150) (by decide +kernel), by decide +kernel⟩
theorem wd_170 : Cond.fieldLink RX5 33 RX5 (TX5 4).2.1 (TX5 4).2.2.1 ∈ m_gd := List.mem_filter.mpr ⟨List.mem_of_getElem? (i := 151) (by decide +kernel), by decide +kernel⟩
theorem wd_171 : Cond.fieldLink RX5 37 RX5 (TX5 5).2.1 (TX5 5).2.2.1 ∈ m_gd := List.mem_filter.mpr ⟨List.mem_of_getElem? (i := 152) (by decide +kernel), by decide +kernel⟩
theorem wd_172 : Cond.methodLink RX5 41 yX5_isCell ∈ m_gd := List.mem_filter.mpr ⟨List.mem_of_getElem? (i := 211) (by decide +kernel), by decide +kernel⟩
theorem wd_173 : Cond.static yX5_isCell ∈ m_gd := List.mem_filter.mpr ⟨List.mem_of_getElem? (i := 212) (by decide +kernel), by decide +kernel⟩
theorem wd_174 : Cond.code yX5_isCell cX5_isCell 1 (some .boolean) ∈ m_gd := List.mem_filter.mpr ⟨List.mem_of_getElem? (i := 213) (by decide +kernel), by decide +kernel⟩
theorem wd_175 : Cond.methodLink RX5 45 yX0_record ∈ m_gd := List.mem_filter.mpr ⟨List.mem_of_getElem? (i := 214) (by decide +kernel), by decide +kernel⟩
theorem wd_176 : Cond.instanceMethod yX0_record ∈ m_gd := List.mem_filter.mpr ⟨List.mem_of_getElem? (i := 215) (by decide +kernel), by decide +kernel⟩
theorem wd_177 : Cond.selects RX0 yX0_record yX0_record ∈ m_gd := List.mem_filter.mpr ⟨List.mem_of_getElem? (i := 216) (by decide +kernel), by decide +kernel⟩
theorem wd_178 : Cond.code yX0_record cX0_record 2 none ∈ m_gd := List.mem_filter.mpr ⟨List.mem_of_getElem? (i := 217) (by decide +kernel), by decide +kernel⟩
theorem wd_179 : Cond.methodLink RX5 49 yX3_exchange ∈ m_gd := List.mem_filter.mpr ⟨List.mem_of_getElem? (i := 223) (by decide +kernel), by decide +kernel⟩
theorem wd_180 : Cond.instanceMethod yX3_exchange ∈ m_gd := List.mem_filter.mpr ⟨List.mem_of_getElem? (i := 224) (by decide +kernel), by decide +kernel⟩
theorem wd_181 : Cond.selects RX3 yX3_exchange yX3_exchange ∈ m_gd := List.mem_filter.mpr ⟨List.mem_of_getElem? (i := 225) (by decide +kernel), by decide +kernel⟩
theorem wd_182 : Cond.code yX3_exchange cX3_exchange 4 none ∈ m_gd := List.mem_filter.mpr ⟨List.mem_of_getElem? (i := 226) (by decide +kernel), by decide +kernel⟩
theorem wd_183 : Cond.fieldLink RX5 53 RX3 (TX3 0).2.1 (TX3 0).2.2.1 ∈ m_gd := List.mem_filter.mpr ⟨List.mem_of_getElem? (i := 54) (by decide +kernel), by decide +kernel⟩
theorem wd_184 : Cond.methodLink RX5 56 yX5_at ∈ m_gd := List.mem_filter.mpr ⟨List.mem_of_getElem? (i := 230) (by decide +kernel), by decide +kernel⟩
theorem wd_185 : Cond.methodLink RX5 60 yX5_isMark ∈ m_gd := List.mem_filter.mpr ⟨List.mem_of_getElem? (i := 235) (by decide +kernel), by decide +kernel⟩
theorem wd_186 : Cond.static yX5_isMark ∈ m_gd := List.mem_filter.mpr ⟨List.mem_of_getElem? (i := 236) (by decide +kernel), by decide +kernel⟩
theorem wd_187 : Cond.code yX5_isMark cX5_isMark 1 (some .boolean) ∈ m_gd := List.mem_filter.mpr ⟨List.mem_of_getElem? (i := 237) (by decide +kernel), by decide +kernel⟩
theorem wd_188 : Cond.methodLink RX5 63 yX3_hasMark ∈ m_gd := List.mem_filter.mpr ⟨List.mem_of_getElem? (i := 238) (by decide +kernel), by decide +kernel⟩
theorem wd_189 : Cond.instanceMethod yX3_hasMark ∈ m_gd := List.mem_filter.mpr ⟨List.mem_of_getElem? (i := 239) (by decide +kernel), by decide +kernel⟩
theorem wd_190 : Cond.selects RX3 yX3_hasMark yX3_hasMark ∈ m_gd := List.mem_filter.mpr ⟨List.mem_of_getElem? (i := 240) (by decide +kernel), by decide +kernel⟩
theorem wd_191 : Cond.code yX3_hasMark cX3_hasMark 3 (some .boolean) ∈ m_gd := List.mem_filter.mpr ⟨List.mem_of_getElem? (i := 241) (by decide +kernel), by decide +kernel⟩
theorem wd_192 : Cond.methodLink RX5 67 yX3_setMark ∈ m_gd := List.mem_filter.mpr ⟨List.mem_of_getElem? (i := 242) (by decide +kernel), by decide +kernel⟩
theorem wd_193 : Cond.fieldLink RX5 71 RX3 (TX3 2).2.1 (TX3 2).2.2.1 ∈ m_gd := List.mem_filter.mpr ⟨List.mem_of_getElem? (i := 58) (by decide +kernel), by decide +kernel⟩
theorem wd_194 : Cond.methodLink RX5 74 yX5_isCard ∈ m_gd := List.mem_filter.mpr ⟨List.mem_of_getElem? (i := 250) (by decide +kernel), by decide +kernel⟩
theorem wd_195 : Cond.methodLink RX5 77 yX5_isCourt ∈ m_gd := List.mem_filter.mpr ⟨List.mem_of_getElem? (i := 253) (by decide +kernel), by decide +kernel⟩
theorem wd_196 : Cond.static yX5_isCourt ∈ m_gd := List.mem_filter.mpr ⟨List.mem_of_getElem? (i := 254) (by decide +kernel), by decide +kernel⟩
theorem wd_197 : Cond.code yX5_isCourt cX5_isCourt 1 (some .boolean) ∈ m_gd := List.mem_filter.mpr ⟨List.mem_of_getElem? (i := 255) (by decide +kernel), by decide +kernel⟩
theorem wd_198 : Cond.fieldLink RX5 80 RX3 (TX3 1).2.1 (TX3 1).2.2.1 ∈ m_gd := List.mem_filter.mpr ⟨List.mem_of_getElem? (i := 56) (by decide +kernel), by decide +kernel⟩
theorem wd_199 : Cond.methodLink RX5 83 yX5_put ∈ m_gd := List.mem_filter.mpr ⟨List.mem_of_getElem? (i := 256) (by decide +kernel), by decide +kernel⟩
theorem wd_200 : Cond.fieldLink RX5 113 "CardSheets" "LEAST_OF_SETTING" "[I" ∈ m_gd := List.mem_filter.mpr ⟨List.mem_of_getElem? (i := 261) (by decide +kernel), by decide +kernel⟩
theorem wd_201 : Cond.fieldLink RX5 116 "CardSheets" "MOST_OF_SETTING" "[I" ∈ m_gd := List.mem_filter.mpr ⟨List.mem_of_getElem? (i := 263) (by decide +kernel), by decide +kernel⟩
theorem wd_202 : Cond.fieldLink RX5 119 RX3 (TX3 3).2.1 (TX3 3).2.2.1 ∈ m_gd := List.mem_filter.mpr ⟨List.mem_of_getElem? (i := 60) (by decide +kernel), by decide +kernel⟩
theorem wd_203 : Cond.fieldLink RX5 122 RX3 (TX3 6).2.1 (TX3 6).2.2.1 ∈ m_gd := List.mem_filter.mpr ⟨List.mem_of_getElem? (i := 65) (by decide +kernel), by decide +kernel⟩
theorem wd_204 : Cond.methodLink RX5 125 yX3_printSheet ∈ m_gd := List.mem_filter.mpr ⟨List.mem_of_getElem? (i := 269) (by decide +kernel), by decide +kernel⟩
theorem wd_205 : Cond.instanceMethod yX3_printSheet ∈ m_gd := List.mem_filter.mpr ⟨List.mem_of_getElem? (i := 270) (by decide +kernel), by decide +kernel⟩
theorem wd_206 : Cond.selects RX3 yX3_printSheet yX3_printSheet ∈ m_gd := List.mem_filter.mpr ⟨List.mem_of_getElem? (i := 271) (by decide +kernel), by decide +kernel⟩
theorem wd_207 : Cond.code yX3_printSheet cX3_printSheet 2 none ∈ m_gd := List.mem_filter.mpr ⟨List.mem_of_getElem? (i := 272) (by decide +kernel), by decide +kernel⟩
theorem wd_208 : Cond.fieldLink RX5 129 RX3 (TX3 5).2.1 (TX3 5).2.2.1 ∈ m_gd := List.mem_filter.mpr ⟨List.mem_of_getElem? (i := 63) (by decide +kernel), by decide +kernel⟩
theorem wd_209 : Cond.methodLink RX5 133 yX1_isThere ∈ m_gd := List.mem_filter.mpr ⟨List.mem_of_getElem? (i := 303) (by decide +kernel), by decide +kernel⟩
theorem wd_210 : Cond.instanceMethod yX1_isThere ∈ m_gd := List.mem_filter.mpr ⟨List.mem_of_getElem? (i := 304) (by decide +kernel), by decide +kernel⟩
theorem wd_211 : Cond.selects RX1 yX1_isThere yX1_isThere ∈ m_gd := List.mem_filter.mpr ⟨List.mem_of_getElem? (i := 305) (by decide +kernel), by decide +kernel⟩
theorem wd_212 : Cond.code yX1_isThere cX1_isThere 1 (some .boolean) ∈ m_gd := List.mem_filter.mpr ⟨List.mem_of_getElem? (i := 306) (by decide +kernel), by decide +kernel⟩
theorem wd_213 : Cond.methodLink RX5 138 yX3_sheetAt ∈ m_gd := List.mem_filter.mpr ⟨List.mem_of_getElem? (i := 307) (by decide +kernel), by decide +kernel⟩
theorem wd_214 : Cond.methodLink RX5 142 yX3_takeTopSheet ∈ m_gd := List.mem_filter.mpr ⟨List.mem_of_getElem? (i := 311) (by decide +kernel), by decide +kernel⟩
theorem wd_215 : Cond.instanceMethod yX3_takeTopSheet ∈ m_gd := List.mem_filter.mpr ⟨List.mem_of_getElem? (i := 312) (by decide +kernel), by decide +kernel⟩
theorem wd_216 : Cond.selects RX3 yX3_takeTopSheet yX3_takeTopSheet ∈ m_gd := List.mem_filter.mpr ⟨List.mem_of_getElem? (i := 313) (by decide +kernel), by decide +kernel⟩
theorem wd_217 : Cond.code yX3_takeTopSheet cX3_takeTopSheet 2 (some (.object "CardSheets$Sheet")) ∈ m_gd := List.mem_filter.mpr ⟨List.mem_of_getElem? (i := 314) (by decide +kernel), by decide +kernel⟩
theorem wd_218 : Cond.methodLink RX5 146 yX1_layDown ∈ m_gd := List.mem_filter.mpr ⟨List.mem_of_getElem? (i := 316) (by decide +kernel), by decide +kernel⟩
theorem wd_219 : Cond.instanceMethod yX1_layDown ∈ m_gd := List.mem_filter.mpr ⟨List.mem_of_getElem? (i := 317) (by decide +kernel), by decide +kernel⟩
theorem wd_220 : Cond.selects RX1 yX1_layDown yX1_layDown ∈ m_gd := List.mem_filter.mpr ⟨List.mem_of_getElem? (i := 318) (by decide +kernel), by decide +kernel⟩
theorem wd_221 : Cond.code yX1_layDown cX1_layDown 4 none ∈ m_gd := List.mem_filter.mpr ⟨List.mem_of_getElem? (i := 319) (by decide +kernel), by decide +kernel⟩
theorem wd_222 : Cond.methodLink RX5 150 yX1_hasPartsAt ∈ m_gd := List.mem_filter.mpr ⟨List.mem_of_getElem? (i := 334) (by decide +kernel), by decide +kernel⟩
theorem wd_223 : Cond.instanceMethod yX1_hasPartsAt ∈ m_gd := List.mem_filter.mpr ⟨List.mem_of_getElem? (i := 335) (by decide +kernel), by decide +kernel⟩
theorem wd_224 : Cond.selects RX1 yX1_hasPartsAt yX1_hasPartsAt ∈ m_gd := List.mem_filter.mpr ⟨List.mem_of_getElem? (i := 336) (by decide +kernel), by decide +kernel⟩
theorem wd_225 : Cond.code yX1_hasPartsAt cX1_hasPartsAt 2 (some .boolean) ∈ m_gd := List.mem_filter.mpr ⟨List.mem_of_getElem? (i := 337) (by decide +kernel), by decide +kernel⟩
theorem wd_226 : Cond.methodLink RX5 153 yX1_cutAt ∈ m_gd := List.mem_filter.mpr ⟨List.mem_of_getElem? (i := 342) (by decide +kernel), by decide +kernel⟩
theorem wd_227 : Cond.instanceMethod yX1_cutAt ∈ m_gd := List.mem_filter.mpr ⟨List.mem_of_getElem? (i := 343) (by decide +kernel), by decide +kernel⟩
theorem wd_228 : Cond.selects RX1 yX1_cutAt yX1_cutAt ∈ m_gd := List.mem_filter.mpr ⟨List.mem_of_getElem? (i := 344) (by decide +kernel), by decide +kernel⟩
theorem wd_229 : Cond.code yX1_cutAt cX1_cutAt 6 none ∈ m_gd := List.mem_filter.mpr ⟨List.mem_of_getElem? (i := 345) (by decide +kernel), by decide +kernel⟩
theorem wd_230 : Cond.methodLink RX5 157 yX1_cardAt ∈ m_gd := List.mem_filter.mpr ⟨List.mem_of_getElem? (i := 348) (by decide +kernel), by decide +kernel⟩
theorem wd_231 : Cond.methodLink RX5 161 yX1_shuffleAt ∈ m_gd := List.mem_filter.mpr ⟨List.mem_of_getElem? (i := 356) (by decide +kernel), by decide +kernel⟩
