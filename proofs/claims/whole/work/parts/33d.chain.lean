set_option maxRecDepth 100000 in
theorem chain_1 : chainA 1 = true := by decide +kernel
set_option maxRecDepth 100000 in
theorem chain_2 : chainA 2 = true := by decide +kernel
set_option maxRecDepth 100000 in
theorem chain_3 : chainA 3 = true := by decide +kernel
set_option maxRecDepth 100000 in
theorem chain_4 : chainA 4 = true := by decide +kernel
set_option maxRecDepth 100000 in
theorem chain_5 : chainA 5 = true := by decide +kernel
set_option maxRecDepth 100000 in
theorem chain_6 : chainA 6 = true := by decide +kernel
set_option maxRecDepth 100000 in
theorem chain_7 : chainA 7 = true := by decide +kernel
set_option maxRecDepth 100000 in
theorem chain_8 : chainA 8 = true := by decide +kernel
set_option maxRecDepth 100000 in
theorem chain_9 : chainA 9 = true := by decide +kernel
set_option maxRecDepth 100000 in
theorem chain_10 : chainA 10 = true := by decide +kernel
set_option maxRecDepth 100000 in
theorem chain_11 : chainA 11 = true := by decide +kernel
set_option maxRecDepth 100000 in
theorem chain_12 : chainA 12 = true := by decide +kernel
set_option maxRecDepth 100000 in
theorem chain_13 : chainA 13 = true := by decide +kernel
set_option maxRecDepth 100000 in
theorem chain_14 : chainA 14 = true := by decide +kernel
set_option maxRecDepth 100000 in
theorem chain_15 : chainA 15 = true := by decide +kernel
set_option maxRecDepth 100000 in
theorem chain_16 : chainA 16 = true := by decide +kernel
set_option maxRecDepth 100000 in
theorem chain_17 : chainA 17 = true := by decide +kernel
set_option maxRecDepth 100000 in
theorem chain_18 : chainA 18 = true := by decide +kernel
set_option maxRecDepth 100000 in
theorem chain_19 : chainA 19 = true := by decide +kernel
set_option maxRecDepth 100000 in
theorem chain_20 : chainA 20 = true := by decide +kernel
set_option maxRecDepth 100000 in
theorem chain_21 : chainA 21 = true := by decide +kernel
set_option maxRecDepth 100000 in
theorem chain_22 : chainA 22 = true := by decide +kernel
set_option maxRecDepth 100000 in
theorem chain_23 : chainA 23 = true := by decide +kernel
set_option maxRecDepth 100000 in
theorem chain_24 : chainA 24 = true := by decide +kernel
set_option maxRecDepth 100000 in
theorem chain_25 : chainA 25 = true := by decide +kernel
set_option maxRecDepth 100000 in
theorem chain_26 : chainA 26 = true := by decide +kernel
set_option maxRecDepth 100000 in
theorem chain_27 : chainA 27 = true := by decide +kernel
set_option maxRecDepth 100000 in
theorem chain_28 : chainA 28 = true := by decide +kernel
set_option maxRecDepth 100000 in
theorem chain_29 : chainA 29 = true := by decide +kernel
set_option maxRecDepth 100000 in
theorem chain_30 : chainA 30 = true := by decide +kernel
set_option maxRecDepth 100000 in
theorem chain_31 : chainA 31 = true := by decide +kernel
set_option maxRecDepth 100000 in
theorem chain_32 : chainA 32 = true := by decide +kernel
set_option maxRecDepth 100000 in
theorem chain_33 : chainA 33 = true := by decide +kernel
set_option maxRecDepth 100000 in
theorem chain_34 : chainA 34 = true := by decide +kernel
set_option maxRecDepth 100000 in
theorem chain_35 : chainA 35 = true := by decide +kernel
set_option maxRecDepth 100000 in
theorem chain_36 : chainA 36 = true := by decide +kernel
set_option maxRecDepth 100000 in
theorem chain_37 : chainA 37 = true := by decide +kernel
set_option maxRecDepth 100000 in
theorem chain_38 : chainA 38 = true := by decide +kernel
set_option maxRecDepth 100000 in
theorem chain_39 : chainA 39 = true := by decide +kernel
set_option maxRecDepth 100000 in
theorem chain_40 : chainA 40 = true := by decide +kernel
set_option maxRecDepth 100000 in
theorem chain_41 : chainA 41 = true := by decide +kernel
set_option maxRecDepth 100000 in
theorem chain_42 : chainA 42 = true := by decide +kernel
set_option maxRecDepth 100000 in
theorem chain_43 : chainA 43 = true := by decide +kernel
set_option maxRecDepth 100000 in
theorem chain_44 : chainA 44 = true := by decide +kernel
set_option maxRecDepth 100000 in
theorem chain_45 : chainA 45 = true := by decide +kernel
set_option maxRecDepth 100000 in
theorem chain_46 : chainA 46 = true := by decide +kernel
set_option maxRecDepth 100000 in
theorem chain_47 : chainA 47 = true := by decide +kernel
set_option maxRecDepth 100000 in
theorem chain_48 : chainA 48 = true := by decide +kernel
set_option maxRecDepth 100000 in
theorem chain_49 : chainA 49 = true := by decide +kernel
set_option maxRecDepth 100000 in
theorem chain_50 : chainA 50 = true := by decide +kernel
set_option maxRecDepth 100000 in
theorem chain_51 : chainA 51 = true := by decide +kernel
set_option maxRecDepth 100000 in
theorem chain_52 : chainA 52 = true := by decide +kernel
set_option maxRecDepth 100000 in
theorem chain_53 : chainA 53 = true := by decide +kernel
set_option maxRecDepth 100000 in
theorem chain_54 : chainA 54 = true := by decide +kernel
set_option maxRecDepth 100000 in
theorem chain_55 : chainA 55 = true := by decide +kernel
set_option maxRecDepth 100000 in
theorem chain_56 : chainA 56 = true := by decide +kernel
set_option maxRecDepth 100000 in
theorem chain_57 : chainA 57 = true := by decide +kernel
set_option maxRecDepth 100000 in
theorem chain_58 : chainA 58 = true := by decide +kernel
set_option maxRecDepth 100000 in
theorem chain_59 : chainA 59 = true := by decide +kernel
set_option maxRecDepth 100000 in
theorem chain_60 : chainA 60 = true := by decide +kernel
set_option maxRecDepth 100000 in
theorem chain_61 : chainA 61 = true := by decide +kernel
set_option maxRecDepth 100000 in
theorem chain_62 : chainA 62 = true := by decide +kernel
set_option maxRecDepth 100000 in
theorem chain_63 : chainA 63 = true := by decide +kernel
set_option maxRecDepth 100000 in
theorem chain_64 : chainA 64 = true := by decide +kernel
set_option maxRecDepth 100000 in
theorem chain_65 : chainA 65 = true := by decide +kernel
set_option maxRecDepth 100000 in
theorem chain_66 : chainA 66 = true := by decide +kernel
set_option maxRecDepth 100000 in
theorem chain_67 : chainA 67 = true := by decide +kernel
set_option maxRecDepth 100000 in
theorem chain_68 : chainA 68 = true := by decide +kernel
set_option maxRecDepth 100000 in
theorem chain_69 : chainA 69 = true := by decide +kernel
set_option maxRecDepth 100000 in
theorem chain_70 : chainA 70 = true := by decide +kernel
set_option maxRecDepth 100000 in
theorem chain_71 : chainA 71 = true := by decide +kernel
set_option maxRecDepth 100000 in
theorem chain_72 : chainA 72 = true := by decide +kernel
set_option maxRecDepth 100000 in
theorem chain_73 : chainA 73 = true := by decide +kernel
set_option maxRecDepth 100000 in
theorem chain_74 : chainA 74 = true := by decide +kernel
set_option maxRecDepth 100000 in
theorem chain_75 : chainA 75 = true := by decide +kernel
set_option maxRecDepth 100000 in
theorem chain_76 : chainA 76 = true := by decide +kernel
set_option maxRecDepth 100000 in
theorem chain_77 : chainA 77 = true := by decide +kernel
set_option maxRecDepth 100000 in
theorem chain_78 : chainA 78 = true := by decide +kernel
set_option maxRecDepth 100000 in
theorem chain_79 : chainA 79 = true := by decide +kernel
set_option maxRecDepth 100000 in
theorem chain_80 : chainA 80 = true := by decide +kernel
set_option maxRecDepth 100000 in
theorem chain_81 : chainA 81 = true := by decide +kernel
set_option maxRecDepth 100000 in
theorem chain_82 : chainA 82 = true := by decide +kernel
set_option maxRecDepth 100000 in
theorem chain_83 : chainA 83 = true := by decide +kernel
set_option maxRecDepth 100000 in
theorem chain_84 : chainA 84 = true := by decide +kernel
set_option maxRecDepth 100000 in
theorem chain_85 : chainA 85 = true := by decide +kernel
set_option maxRecDepth 100000 in
theorem chain_86 : chainA 86 = true := by decide +kernel
set_option maxRecDepth 100000 in
theorem chain_87 : chainA 87 = true := by decide +kernel
set_option maxRecDepth 100000 in
theorem chain_88 : chainA 88 = true := by decide +kernel
set_option maxRecDepth 100000 in
theorem chain_89 : chainA 89 = true := by decide +kernel
set_option maxRecDepth 100000 in
theorem chain_90 : chainA 90 = true := by decide +kernel
set_option maxRecDepth 100000 in
theorem chain_91 : chainA 91 = true := by decide +kernel
set_option maxRecDepth 100000 in
theorem chain_92 : chainA 92 = true := by decide +kernel
set_option maxRecDepth 100000 in
theorem chain_93 : chainA 93 = true := by decide +kernel
set_option maxRecDepth 100000 in
theorem chain_94 : chainA 94 = true := by decide +kernel
set_option maxRecDepth 100000 in
theorem chain_95 : chainA 95 = true := by decide +kernel
set_option maxRecDepth 100000 in
theorem chain_96 : chainA 96 = true := by decide +kernel
set_option maxRecDepth 100000 in
theorem chain_97 : chainA 97 = true := by decide +kernel
set_option maxRecDepth 100000 in
theorem chain_98 : chainA 98 = true := by decide +kernel
set_option maxRecDepth 100000 in
theorem chain_99 : chainA 99 = true := by decide +kernel
set_option maxRecDepth 100000 in
theorem chain_100 : chainA 100 = true := by decide +kernel
set_option maxRecDepth 100000 in
theorem chain_101 : chainA 101 = true := by decide +kernel
set_option maxRecDepth 100000 in
theorem chain_102 : chainA 102 = true := by decide +kernel
set_option maxRecDepth 100000 in
theorem chain_103 : chainA 103 = true := by decide +kernel
set_option maxRecDepth 100000 in
theorem chain_104 : chainA 104 = true := by decide +kernel
set_option maxRecDepth 100000 in
theorem chain_105 : chainA 105 = true := by decide +kernel
set_option maxRecDepth 100000 in
theorem chain_106 : chainA 106 = true := by decide +kernel
set_option maxRecDepth 100000 in
theorem chain_107 : chainA 107 = true := by decide +kernel
set_option maxRecDepth 100000 in
theorem chain_108 : chainA 108 = true := by decide +kernel
set_option maxRecDepth 100000 in
theorem chain_109 : chainA 109 = true := by decide +kernel
set_option maxRecDepth 100000 in
theorem chain_110 : chainA 110 = true := by decide +kernel
set_option maxRecDepth 100000 in
theorem chain_111 : chainA 111 = true := by decide +kernel
set_option maxRecDepth 100000 in
theorem chain_112 : chainA 112 = true := by decide +kernel
set_option maxRecDepth 100000 in
theorem chain_113 : chainA 113 = true := by decide +kernel
set_option maxRecDepth 100000 in
theorem chain_114 : chainA 114 = true := by decide +kernel
set_option maxRecDepth 100000 in
theorem chain_115 : chainA 115 = true := by decide +kernel
set_option maxRecDepth 100000 in
theorem chain_116 : chainA 116 = true := by decide +kernel
set_option maxRecDepth 100000 in
theorem chain_117 : chainA 117 = true := by decide +kernel
set_option maxRecDepth 100000 in
theorem chain_118 : chainA 118 = true := by decide +kernel
set_option maxRecDepth 100000 in
theorem chain_119 : chainA 119 = true := by decide +kernel
set_option maxRecDepth 100000 in
theorem chain_120 : chainA 120 = true := by decide +kernel
set_option maxRecDepth 100000 in
theorem chain_121 : chainA 121 = true := by decide +kernel
set_option maxRecDepth 100000 in
theorem chain_122 : chainA 122 = true := by decide +kernel
set_option maxRecDepth 100000 in
theorem chain_123 : chainA 123 = true := by decide +kernel
set_option maxRecDepth 100000 in
theorem chain_124 : chainA 124 = true := by decide +kernel
set_option maxRecDepth 100000 in
theorem chain_125 : chainA 125 = true := by decide +kernel
set_option maxRecDepth 100000 in
theorem chain_126 : chainA 126 = true := by decide +kernel
set_option maxRecDepth 100000 in
theorem chain_128 : chainA 128 = true := by decide +kernel
set_option maxRecDepth 100000 in
theorem chain_129 : chainA 129 = true := by decide +kernel
set_option maxRecDepth 100000 in
theorem chain_130 : chainA 130 = true := by decide +kernel
set_option maxRecDepth 100000 in
theorem chain_131 : chainA 131 = true := by decide +kernel
set_option maxRecDepth 100000 in
theorem chain_132 : chainA 132 = true := by decide +kernel
set_option maxRecDepth 100000 in
theorem chain_133 : chainA 133 = true := by decide +kernel
set_option maxRecDepth 100000 in
theorem chain_134 : chainA 134 = true := by decide +kernel
set_option maxRecDepth 100000 in
theorem chain_135 : chainA 135 = true := by decide +kernel
set_option maxRecDepth 100000 in
theorem chain_136 : chainA 136 = true := by decide +kernel
set_option maxRecDepth 100000 in
theorem chain_137 : chainA 137 = true := by decide +kernel
set_option maxRecDepth 100000 in
theorem chain_138 : chainA 138 = true := by decide +kernel
set_option maxRecDepth 100000 in
theorem chain_139 : chainA 139 = true := by decide +kernel
set_option maxRecDepth 100000 in
theorem chain_140 : chainA 140 = true := by decide +kernel
set_option maxRecDepth 100000 in
theorem chain_141 : chainA 141 = true := by decide +kernel
set_option maxRecDepth 100000 in
theorem chain_142 : chainA 142 = true := by decide +kernel
set_option maxRecDepth 100000 in
theorem chain_143 : chainA 143 = true := by decide +kernel
set_option maxRecDepth 100000 in
theorem chain_144 : chainA 144 = true := by decide +kernel
set_option maxRecDepth 100000 in
theorem chain_145 : chainA 145 = true := by decide +kernel
set_option maxRecDepth 100000 in
theorem chain_146 : chainA 146 = true := by decide +kernel
set_option maxRecDepth 100000 in
theorem chain_147 : chainA 147 = true := by decide +kernel
set_option maxRecDepth 100000 in
theorem chain_148 : chainA 148 = true := by decide +kernel
set_option maxRecDepth 100000 in
theorem chain_149 : chainA 149 = true := by decide +kernel
set_option maxRecDepth 100000 in
theorem chain_150 : chainA 150 = true := by decide +kernel
set_option maxRecDepth 100000 in
theorem chain_151 : chainA 151 = true := by decide +kernel
set_option maxRecDepth 100000 in
theorem chain_152 : chainA 152 = true := by decide +kernel
set_option maxRecDepth 100000 in
theorem chain_153 : chainA 153 = true := by decide +kernel
set_option maxRecDepth 100000 in
theorem chain_154 : chainA 154 = true := by decide +kernel
set_option maxRecDepth 100000 in
theorem chain_155 : chainA 155 = true := by decide +kernel
set_option maxRecDepth 100000 in
theorem chain_156 : chainA 156 = true := by decide +kernel
set_option maxRecDepth 100000 in
theorem chain_157 : chainA 157 = true := by decide +kernel
set_option maxRecDepth 100000 in
theorem chain_158 : chainA 158 = true := by decide +kernel
set_option maxRecDepth 100000 in
theorem chain_159 : chainA 159 = true := by decide +kernel
set_option maxRecDepth 100000 in
theorem chain_160 : chainA 160 = true := by decide +kernel
set_option maxRecDepth 100000 in
theorem chain_161 : chainA 161 = true := by decide +kernel
set_option maxRecDepth 100000 in
theorem chain_162 : chainA 162 = true := by decide +kernel
set_option maxRecDepth 100000 in
theorem chain_163 : chainA 163 = true := by decide +kernel
set_option maxRecDepth 100000 in
theorem chain_164 : chainA 164 = true := by decide +kernel
set_option maxRecDepth 100000 in
theorem chain_165 : chainA 165 = true := by decide +kernel
set_option maxRecDepth 100000 in
theorem chain_166 : chainA 166 = true := by decide +kernel
set_option maxRecDepth 100000 in
theorem chain_167 : chainA 167 = true := by decide +kernel
set_option maxRecDepth 100000 in
theorem chain_168 : chainA 168 = true := by decide +kernel
set_option maxRecDepth 100000 in
theorem chain_169 : chainA 169 = true := by decide +kernel
set_option maxRecDepth 100000 in
theorem chain_170 : chainA 170 = true := by decide +kernel
set_option maxRecDepth 100000 in
theorem chain_171 : chainA 171 = true := by decide +kernel
set_option maxRecDepth 100000 in
theorem chain_172 : chainA 172 = true := by decide +kernel
set_option maxRecDepth 100000 in
theorem chain_173 : chainA 173 = true := by decide +kernel
set_option maxRecDepth 100000 in
theorem chain_174 : chainA 174 = true := by decide +kernel
set_option maxRecDepth 100000 in
theorem chain_175 : chainA 175 = true := by decide +kernel
set_option maxRecDepth 100000 in
theorem chain_176 : chainA 176 = true := by decide +kernel
set_option maxRecDepth 100000 in
theorem chain_177 : chainA 177 = true := by decide +kernel
set_option maxRecDepth 100000 in
theorem chain_178 : chainA 178 = true := by decide +kernel
set_option maxRecDepth 100000 in
theorem chain_179 : chainA 179 = true := by decide +kernel
set_option maxRecDepth 100000 in
theorem chain_180 : chainA 180 = true := by decide +kernel
set_option maxRecDepth 100000 in
theorem chain_181 : chainA 181 = true := by decide +kernel
set_option maxRecDepth 100000 in
theorem chain_182 : chainA 182 = true := by decide +kernel
set_option maxRecDepth 100000 in
theorem chain_183 : chainA 183 = true := by decide +kernel
set_option maxRecDepth 100000 in
theorem chain_184 : chainA 184 = true := by decide +kernel
set_option maxRecDepth 100000 in
theorem chain_185 : chainA 185 = true := by decide +kernel
set_option maxRecDepth 100000 in
theorem chain_186 : chainA 186 = true := by decide +kernel
set_option maxRecDepth 100000 in
theorem chain_187 : chainA 187 = true := by decide +kernel
set_option maxRecDepth 100000 in
theorem chain_188 : chainA 188 = true := by decide +kernel
set_option maxRecDepth 100000 in
theorem chain_189 : chainA 189 = true := by decide +kernel
set_option maxRecDepth 100000 in
theorem chain_190 : chainA 190 = true := by decide +kernel
set_option maxRecDepth 100000 in
theorem chain_192 : chainA 192 = true := by decide +kernel
set_option maxRecDepth 100000 in
theorem chain_193 : chainA 193 = true := by decide +kernel
set_option maxRecDepth 100000 in
theorem chain_194 : chainA 194 = true := by decide +kernel
set_option maxRecDepth 100000 in
theorem chain_195 : chainA 195 = true := by decide +kernel
set_option maxRecDepth 100000 in
theorem chain_196 : chainA 196 = true := by decide +kernel
set_option maxRecDepth 100000 in
theorem chain_197 : chainA 197 = true := by decide +kernel
set_option maxRecDepth 100000 in
theorem chain_198 : chainA 198 = true := by decide +kernel
set_option maxRecDepth 100000 in
theorem chain_199 : chainA 199 = true := by decide +kernel
set_option maxRecDepth 100000 in
theorem chain_200 : chainA 200 = true := by decide +kernel
set_option maxRecDepth 100000 in
theorem chain_201 : chainA 201 = true := by decide +kernel
set_option maxRecDepth 100000 in
theorem chain_202 : chainA 202 = true := by decide +kernel
set_option maxRecDepth 100000 in
theorem chain_203 : chainA 203 = true := by decide +kernel
set_option maxRecDepth 100000 in
theorem chain_204 : chainA 204 = true := by decide +kernel
set_option maxRecDepth 100000 in
theorem chain_205 : chainA 205 = true := by decide +kernel
set_option maxRecDepth 100000 in
theorem chain_206 : chainA 206 = true := by decide +kernel
set_option maxRecDepth 100000 in
theorem chain_207 : chainA 207 = true := by decide +kernel
set_option maxRecDepth 100000 in
theorem chain_208 : chainA 208 = true := by decide +kernel
set_option maxRecDepth 100000 in
theorem chain_209 : chainA 209 = true := by decide +kernel
set_option maxRecDepth 100000 in
theorem chain_210 : chainA 210 = true := by decide +kernel
set_option maxRecDepth 100000 in
theorem chain_211 : chainA 211 = true := by decide +kernel
set_option maxRecDepth 100000 in
theorem chain_212 : chainA 212 = true := by decide +kernel
set_option maxRecDepth 100000 in
theorem chain_213 : chainA 213 = true := by decide +kernel
set_option maxRecDepth 100000 in
theorem chain_214 : chainA 214 = true := by decide +kernel
set_option maxRecDepth 100000 in
theorem chain_215 : chainA 215 = true := by decide +kernel
set_option maxRecDepth 100000 in
theorem chain_216 : chainA 216 = true := by decide +kernel
set_option maxRecDepth 100000 in
theorem chain_217 : chainA 217 = true := by decide +kernel
set_option maxRecDepth 100000 in
theorem chain_218 : chainA 218 = true := by decide +kernel
set_option maxRecDepth 100000 in
theorem chain_219 : chainA 219 = true := by decide +kernel
set_option maxRecDepth 100000 in
theorem chain_220 : chainA 220 = true := by decide +kernel
set_option maxRecDepth 100000 in
theorem chain_221 : chainA 221 = true := by decide +kernel
set_option maxRecDepth 100000 in
theorem chain_222 : chainA 222 = true := by decide +kernel
set_option maxRecDepth 100000 in
theorem chain_224 : chainA 224 = true := by decide +kernel
set_option maxRecDepth 100000 in
theorem chain_225 : chainA 225 = true := by decide +kernel
set_option maxRecDepth 100000 in
theorem chain_226 : chainA 226 = true := by decide +kernel
set_option maxRecDepth 100000 in
theorem chain_227 : chainA 227 = true := by decide +kernel
set_option maxRecDepth 100000 in
theorem chain_228 : chainA 228 = true := by decide +kernel
set_option maxRecDepth 100000 in
theorem chain_229 : chainA 229 = true := by decide +kernel
set_option maxRecDepth 100000 in
theorem chain_230 : chainA 230 = true := by decide +kernel
set_option maxRecDepth 100000 in
theorem chain_231 : chainA 231 = true := by decide +kernel
set_option maxRecDepth 100000 in
theorem chain_232 : chainA 232 = true := by decide +kernel
set_option maxRecDepth 100000 in
theorem chain_233 : chainA 233 = true := by decide +kernel
set_option maxRecDepth 100000 in
theorem chain_234 : chainA 234 = true := by decide +kernel
set_option maxRecDepth 100000 in
theorem chain_235 : chainA 235 = true := by decide +kernel
set_option maxRecDepth 100000 in
theorem chain_236 : chainA 236 = true := by decide +kernel
set_option maxRecDepth 100000 in
theorem chain_237 : chainA 237 = true := by decide +kernel
set_option maxRecDepth 100000 in
theorem chain_238 : chainA 238 = true := by decide +kernel
set_option maxRecDepth 100000 in
theorem chain_240 : chainA 240 = true := by decide +kernel
set_option maxRecDepth 100000 in
theorem chain_241 : chainA 241 = true := by decide +kernel
set_option maxRecDepth 100000 in
theorem chain_242 : chainA 242 = true := by decide +kernel
set_option maxRecDepth 100000 in
theorem chain_243 : chainA 243 = true := by decide +kernel
set_option maxRecDepth 100000 in
theorem chain_244 : chainA 244 = true := by decide +kernel
set_option maxRecDepth 100000 in
theorem chain_245 : chainA 245 = true := by decide +kernel
set_option maxRecDepth 100000 in
theorem chain_246 : chainA 246 = true := by decide +kernel
set_option maxRecDepth 100000 in
theorem chain_248 : chainA 248 = true := by decide +kernel
set_option maxRecDepth 100000 in
theorem chain_249 : chainA 249 = true := by decide +kernel
set_option maxRecDepth 100000 in
theorem chain_250 : chainA 250 = true := by decide +kernel
set_option maxRecDepth 100000 in
theorem chain_252 : chainA 252 = true := by decide +kernel
theorem chain_all (b : Nat) (hb : b < 256) (h0 : ¬ b = 0) (h6 : (bitL b).length ≤ 6) : chainA b = true := by
  match b, hb with
  | 0, _ => exact absurd rfl h0
  | 1, _ => exact chain_1
  | 2, _ => exact chain_2
  | 3, _ => exact chain_3
  | 4, _ => exact chain_4
  | 5, _ => exact chain_5
  | 6, _ => exact chain_6
  | 7, _ => exact chain_7
  | 8, _ => exact chain_8
  | 9, _ => exact chain_9
  | 10, _ => exact chain_10
  | 11, _ => exact chain_11
  | 12, _ => exact chain_12
  | 13, _ => exact chain_13
  | 14, _ => exact chain_14
  | 15, _ => exact chain_15
  | 16, _ => exact chain_16
  | 17, _ => exact chain_17
  | 18, _ => exact chain_18
  | 19, _ => exact chain_19
  | 20, _ => exact chain_20
  | 21, _ => exact chain_21
  | 22, _ => exact chain_22
  | 23, _ => exact chain_23
  | 24, _ => exact chain_24
  | 25, _ => exact chain_25
  | 26, _ => exact chain_26
  | 27, _ => exact chain_27
  | 28, _ => exact chain_28
  | 29, _ => exact chain_29
  | 30, _ => exact chain_30
  | 31, _ => exact chain_31
  | 32, _ => exact chain_32
  | 33, _ => exact chain_33
  | 34, _ => exact chain_34
  | 35, _ => exact chain_35
  | 36, _ => exact chain_36
  | 37, _ => exact chain_37
  | 38, _ => exact chain_38
  | 39, _ => exact chain_39
  | 40, _ => exact chain_40
  | 41, _ => exact chain_41
  | 42, _ => exact chain_42
  | 43, _ => exact chain_43
  | 44, _ => exact chain_44
  | 45, _ => exact chain_45
  | 46, _ => exact chain_46
  | 47, _ => exact chain_47
  | 48, _ => exact chain_48
  | 49, _ => exact chain_49
  | 50, _ => exact chain_50
  | 51, _ => exact chain_51
  | 52, _ => exact chain_52
  | 53, _ => exact chain_53
  | 54, _ => exact chain_54
  | 55, _ => exact chain_55
  | 56, _ => exact chain_56
  | 57, _ => exact chain_57
  | 58, _ => exact chain_58
  | 59, _ => exact chain_59
  | 60, _ => exact chain_60
  | 61, _ => exact chain_61
  | 62, _ => exact chain_62
  | 63, _ => exact chain_63
  | 64, _ => exact chain_64
  | 65, _ => exact chain_65
  | 66, _ => exact chain_66
  | 67, _ => exact chain_67
  | 68, _ => exact chain_68
  | 69, _ => exact chain_69
  | 70, _ => exact chain_70
  | 71, _ => exact chain_71
  | 72, _ => exact chain_72
  | 73, _ => exact chain_73
  | 74, _ => exact chain_74
  | 75, _ => exact chain_75
  | 76, _ => exact chain_76
  | 77, _ => exact chain_77
  | 78, _ => exact chain_78
  | 79, _ => exact chain_79
  | 80, _ => exact chain_80
  | 81, _ => exact chain_81
  | 82, _ => exact chain_82
  | 83, _ => exact chain_83
  | 84, _ => exact chain_84
  | 85, _ => exact chain_85
  | 86, _ => exact chain_86
  | 87, _ => exact chain_87
  | 88, _ => exact chain_88
  | 89, _ => exact chain_89
  | 90, _ => exact chain_90
  | 91, _ => exact chain_91
  | 92, _ => exact chain_92
  | 93, _ => exact chain_93
  | 94, _ => exact chain_94
  | 95, _ => exact chain_95
  | 96, _ => exact chain_96
  | 97, _ => exact chain_97
  | 98, _ => exact chain_98
  | 99, _ => exact chain_99
  | 100, _ => exact chain_100
  | 101, _ => exact chain_101
  | 102, _ => exact chain_102
  | 103, _ => exact chain_103
  | 104, _ => exact chain_104
  | 105, _ => exact chain_105
  | 106, _ => exact chain_106
  | 107, _ => exact chain_107
  | 108, _ => exact chain_108
  | 109, _ => exact chain_109
  | 110, _ => exact chain_110
  | 111, _ => exact chain_111
  | 112, _ => exact chain_112
  | 113, _ => exact chain_113
  | 114, _ => exact chain_114
  | 115, _ => exact chain_115
  | 116, _ => exact chain_116
  | 117, _ => exact chain_117
  | 118, _ => exact chain_118
  | 119, _ => exact chain_119
  | 120, _ => exact chain_120
  | 121, _ => exact chain_121
  | 122, _ => exact chain_122
  | 123, _ => exact chain_123
  | 124, _ => exact chain_124
  | 125, _ => exact chain_125
  | 126, _ => exact chain_126
  | 127, _ => exact absurd h6 (by decide)
  | 128, _ => exact chain_128
  | 129, _ => exact chain_129
  | 130, _ => exact chain_130
  | 131, _ => exact chain_131
  | 132, _ => exact chain_132
  | 133, _ => exact chain_133
  | 134, _ => exact chain_134
  | 135, _ => exact chain_135
  | 136, _ => exact chain_136
  | 137, _ => exact chain_137
  | 138, _ => exact chain_138
  | 139, _ => exact chain_139
  | 140, _ => exact chain_140
  | 141, _ => exact chain_141
  | 142, _ => exact chain_142
  | 143, _ => exact chain_143
  | 144, _ => exact chain_144
  | 145, _ => exact chain_145
  | 146, _ => exact chain_146
  | 147, _ => exact chain_147
  | 148, _ => exact chain_148
  | 149, _ => exact chain_149
  | 150, _ => exact chain_150
  | 151, _ => exact chain_151
  | 152, _ => exact chain_152
  | 153, _ => exact chain_153
  | 154, _ => exact chain_154
  | 155, _ => exact chain_155
  | 156, _ => exact chain_156
  | 157, _ => exact chain_157
  | 158, _ => exact chain_158
  | 159, _ => exact chain_159
  | 160, _ => exact chain_160
  | 161, _ => exact chain_161
  | 162, _ => exact chain_162
  | 163, _ => exact chain_163
  | 164, _ => exact chain_164
  | 165, _ => exact chain_165
  | 166, _ => exact chain_166
  | 167, _ => exact chain_167
  | 168, _ => exact chain_168
  | 169, _ => exact chain_169
  | 170, _ => exact chain_170
  | 171, _ => exact chain_171
  | 172, _ => exact chain_172
  | 173, _ => exact chain_173
  | 174, _ => exact chain_174
  | 175, _ => exact chain_175
  | 176, _ => exact chain_176
  | 177, _ => exact chain_177
  | 178, _ => exact chain_178
  | 179, _ => exact chain_179
  | 180, _ => exact chain_180
  | 181, _ => exact chain_181
  | 182, _ => exact chain_182
  | 183, _ => exact chain_183
  | 184, _ => exact chain_184
  | 185, _ => exact chain_185
  | 186, _ => exact chain_186
  | 187, _ => exact chain_187
  | 188, _ => exact chain_188
  | 189, _ => exact chain_189
  | 190, _ => exact chain_190
  | 191, _ => exact absurd h6 (by decide)
  | 192, _ => exact chain_192
  | 193, _ => exact chain_193
  | 194, _ => exact chain_194
  | 195, _ => exact chain_195
  | 196, _ => exact chain_196
  | 197, _ => exact chain_197
  | 198, _ => exact chain_198
  | 199, _ => exact chain_199
  | 200, _ => exact chain_200
  | 201, _ => exact chain_201
  | 202, _ => exact chain_202
  | 203, _ => exact chain_203
  | 204, _ => exact chain_204
  | 205, _ => exact chain_205
  | 206, _ => exact chain_206
  | 207, _ => exact chain_207
  | 208, _ => exact chain_208
  | 209, _ => exact chain_209
  | 210, _ => exact chain_210
  | 211, _ => exact chain_211
  | 212, _ => exact chain_212
  | 213, _ => exact chain_213
  | 214, _ => exact chain_214
  | 215, _ => exact chain_215
  | 216, _ => exact chain_216
  | 217, _ => exact chain_217
  | 218, _ => exact chain_218
  | 219, _ => exact chain_219
  | 220, _ => exact chain_220
  | 221, _ => exact chain_221
  | 222, _ => exact chain_222
  | 223, _ => exact absurd h6 (by decide)
  | 224, _ => exact chain_224
  | 225, _ => exact chain_225
  | 226, _ => exact chain_226
  | 227, _ => exact chain_227
  | 228, _ => exact chain_228
  | 229, _ => exact chain_229
  | 230, _ => exact chain_230
  | 231, _ => exact chain_231
  | 232, _ => exact chain_232
  | 233, _ => exact chain_233
  | 234, _ => exact chain_234
  | 235, _ => exact chain_235
  | 236, _ => exact chain_236
  | 237, _ => exact chain_237
  | 238, _ => exact chain_238
  | 239, _ => exact absurd h6 (by decide)
  | 240, _ => exact chain_240
  | 241, _ => exact chain_241
  | 242, _ => exact chain_242
  | 243, _ => exact chain_243
  | 244, _ => exact chain_244
  | 245, _ => exact chain_245
  | 246, _ => exact chain_246
  | 247, _ => exact absurd h6 (by decide)
  | 248, _ => exact chain_248
  | 249, _ => exact chain_249
  | 250, _ => exact chain_250
  | 251, _ => exact absurd h6 (by decide)
  | 252, _ => exact chain_252
  | 253, _ => exact absurd h6 (by decide)
  | 254, _ => exact absurd h6 (by decide)
  | 255, _ => exact absurd h6 (by decide)
  | b + 256, h => omega
