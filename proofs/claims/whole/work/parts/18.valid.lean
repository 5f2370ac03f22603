/-! VALID: each list says what the bytes say, and its links stand -/
def zlk9 (o idx kind a b : Nat) (z : Int) : Bool := (zLk o).any (fun q => Nat.beq q.1 idx && (Nat.beq q.2.1 kind && (Nat.beq q.2.2.1 a && (Nat.beq q.2.2.2.1 b && decide (q.2.2.2.2.1 = z)))))
def zEl (y : Nat) : zI → Bool
  | (_, .getfield idx, _, a, b, _) => zlk9 (zOc y) idx 0 a b 0
  | (_, .putfield idx, _, a, b, _) => zlk9 (zOc y) idx 0 a b 0
  | (_, .getstatic idx, _, a, _, _) => (Nat.beq a 2001 || Nat.beq a 2002) && decide ((zOw y, idx, zSn a) ∈ zNF)
  | (_, .ldc idx, _, a, _, z) => if a = 1 then zlk9 (zOc y) idx 9 0 0 z else Nat.beq a 2 && (Nat.beq (zOc y) 6 && Nat.beq idx 97)
  | (_, .ldc_w idx, _, _, _, z) => zlk9 (zOc y) idx 9 0 0 z
  | (_, .ldc2_w idx, _, _, _, z) => zlk9 (zOc y) idx 10 0 0 z
  | (_, .new idx, _, a, _, _) => zlk9 (zOc y) idx 12 a 0 0
  | (_, .multianewarray idx 2, _, a, _, _) => zlk9 (zOc y) idx (if a = 0 then 13 else 14) 0 0 0
  | (_, .invokevirtual idx, _, a, b, _) => if b = 0 then Nat.ble (a + 1) 285 && (!(Nat.beq a 281) && zlk9 (zOc y) idx 1 a 0 0) else true
  | (_, .invokestatic idx, _, a, b, _) => if b = 1 then Nat.ble (a + 1) 285 && (!(Nat.beq a 281) && zlk9 (zOc y) idx 2 a 0 0) else zlk9 (zOc y) idx (if b = 10 then 6 else if b = 11 then 7 else 8) 0 0 0
  | (_, .invokespecial idx, _, a, b, _) => if b = 4 then zlk9 (zOc y) idx 5 0 0 0 else Nat.ble (a + 1) 285 && (!(Nat.beq a 281) && (zIs a && (if b = 3 then zlk9 (zOc y) idx 4 a 0 0 && decide ((zOw y, idx, zNm a) ∈ zNM) else zlk9 (zOc y) idx 3 a 0 0)))
  | _ => true
def zEok (y : Nat) (e : zI) : Bool := decide (decode (zCb y) e.1 = .ok (e.2.1, e.2.2.1)) && zEl y e
def zChain : List zI → Bool
  | [] => true
  | e :: r => (match r with | [] => true | f :: _ => Nat.beq (e.1 + e.2.2.1) f.1) && zChain r
def zVal (y : Nat) : Bool := (zCo y).all (zEok y) && zChain (zCo y)
theorem zVal_0 : zVal 0 = true := by decide +kernel
theorem zVal_1 : zVal 1 = true := by decide +kernel
theorem zVal_2 : zVal 2 = true := by decide +kernel
theorem zVal_3 : zVal 3 = true := by decide +kernel
theorem zVal_4 : zVal 4 = true := by decide +kernel
theorem zVal_5 : zVal 5 = true := by decide +kernel
theorem zVal_6 : zVal 6 = true := by decide +kernel
theorem zVal_7 : zVal 7 = true := by decide +kernel
theorem zVal_8 : zVal 8 = true := by decide +kernel
theorem zVal_9 : zVal 9 = true := by decide +kernel
theorem zVal_10 : zVal 10 = true := by decide +kernel
theorem zVal_11 : zVal 11 = true := by decide +kernel
theorem zVal_12 : zVal 12 = true := by decide +kernel
theorem zVal_13 : zVal 13 = true := by decide +kernel
theorem zVal_14 : zVal 14 = true := by decide +kernel
theorem zVal_15 : zVal 15 = true := by decide +kernel
theorem zVal_16 : zVal 16 = true := by decide +kernel
theorem zVal_17 : zVal 17 = true := by decide +kernel
theorem zVal_18 : zVal 18 = true := by decide +kernel
theorem zVal_19 : zVal 19 = true := by decide +kernel
theorem zVal_20 : zVal 20 = true := by decide +kernel
theorem zVal_21 : zVal 21 = true := by decide +kernel
theorem zVal_22 : zVal 22 = true := by decide +kernel
theorem zVal_23 : zVal 23 = true := by decide +kernel
theorem zVal_24 : zVal 24 = true := by decide +kernel
theorem zVal_25 : zVal 25 = true := by decide +kernel
theorem zVal_26 : zVal 26 = true := by decide +kernel
theorem zVal_27 : zVal 27 = true := by decide +kernel
theorem zVal_28 : zVal 28 = true := by decide +kernel
theorem zVal_29 : zVal 29 = true := by decide +kernel
theorem zVal_30 : zVal 30 = true := by decide +kernel
theorem zVal_31 : zVal 31 = true := by decide +kernel
theorem zVal_32 : zVal 32 = true := by decide +kernel
theorem zVal_33 : zVal 33 = true := by decide +kernel
theorem zVal_34 : zVal 34 = true := by decide +kernel
theorem zVal_35 : zVal 35 = true := by decide +kernel
theorem zVal_36 : zVal 36 = true := by decide +kernel
theorem zVal_37 : zVal 37 = true := by decide +kernel
theorem zVal_38 : zVal 38 = true := by decide +kernel
theorem zVal_39 : zVal 39 = true := by decide +kernel
theorem zVal_40 : zVal 40 = true := by decide +kernel
theorem zVal_41 : zVal 41 = true := by decide +kernel
theorem zVal_42 : zVal 42 = true := by decide +kernel
theorem zVal_43 : zVal 43 = true := by decide +kernel
theorem zVal_44 : zVal 44 = true := by decide +kernel
theorem zVal_45 : zVal 45 = true := by decide +kernel
theorem zVal_46 : zVal 46 = true := by decide +kernel
theorem zVal_47 : zVal 47 = true := by decide +kernel
theorem zVal_48 : zVal 48 = true := by decide +kernel
theorem zVal_49 : zVal 49 = true := by decide +kernel
theorem zVal_50 : zVal 50 = true := by decide +kernel
theorem zVal_51 : zVal 51 = true := by decide +kernel
theorem zVal_52 : zVal 52 = true := by decide +kernel
theorem zVal_53 : zVal 53 = true := by decide +kernel
theorem zVal_54 : zVal 54 = true := by decide +kernel
theorem zVal_55 : zVal 55 = true := by decide +kernel
theorem zVal_56 : zVal 56 = true := by decide +kernel
theorem zVal_57 : zVal 57 = true := by decide +kernel
theorem zVal_58 : zVal 58 = true := by decide +kernel
theorem zVal_59 : zVal 59 = true := by decide +kernel
theorem zVal_60 : zVal 60 = true := by decide +kernel
theorem zVal_61 : zVal 61 = true := by decide +kernel
theorem zVal_62 : zVal 62 = true := by decide +kernel
theorem zVal_63 : zVal 63 = true := by decide +kernel
theorem zVal_64 : zVal 64 = true := by decide +kernel
theorem zVal_65 : zVal 65 = true := by decide +kernel
theorem zVal_66 : zVal 66 = true := by decide +kernel
theorem zVal_67 : zVal 67 = true := by decide +kernel
theorem zVal_68 : zVal 68 = true := by decide +kernel
theorem zVal_69 : zVal 69 = true := by decide +kernel
theorem zVal_70 : zVal 70 = true := by decide +kernel
theorem zVal_71 : zVal 71 = true := by decide +kernel
theorem zVal_72 : zVal 72 = true := by decide +kernel
theorem zVal_73 : zVal 73 = true := by decide +kernel
theorem zVal_74 : zVal 74 = true := by decide +kernel
theorem zVal_75 : zVal 75 = true := by decide +kernel
theorem zVal_76 : zVal 76 = true := by decide +kernel
theorem zVal_77 : zVal 77 = true := by decide +kernel
theorem zVal_78 : zVal 78 = true := by decide +kernel
theorem zVal_79 : zVal 79 = true := by decide +kernel
theorem zVal_80 : zVal 80 = true := by decide +kernel
theorem zVal_81 : zVal 81 = true := by decide +kernel
theorem zVal_82 : zVal 82 = true := by decide +kernel
theorem zVal_83 : zVal 83 = true := by decide +kernel
theorem zVal_84 : zVal 84 = true := by decide +kernel
theorem zVal_85 : zVal 85 = true := by decide +kernel
theorem zVal_86 : zVal 86 = true := by decide +kernel
theorem zVal_87 : zVal 87 = true := by decide +kernel
theorem zVal_88 : zVal 88 = true := by decide +kernel
theorem zVal_89 : zVal 89 = true := by decide +kernel
theorem zVal_90 : zVal 90 = true := by decide +kernel
theorem zVal_91 : zVal 91 = true := by decide +kernel
theorem zVal_92 : zVal 92 = true := by decide +kernel
theorem zVal_93 : zVal 93 = true := by decide +kernel
theorem zVal_94 : zVal 94 = true := by decide +kernel
theorem zVal_95 : zVal 95 = true := by decide +kernel
theorem zVal_96 : zVal 96 = true := by decide +kernel
theorem zVal_97 : zVal 97 = true := by decide +kernel
theorem zVal_98 : zVal 98 = true := by decide +kernel
theorem zVal_99 : zVal 99 = true := by decide +kernel
theorem zVal_100 : zVal 100 = true := by decide +kernel
theorem zVal_101 : zVal 101 = true := by decide +kernel
theorem zVal_102 : zVal 102 = true := by decide +kernel
theorem zVal_103 : zVal 103 = true := by decide +kernel
theorem zVal_104 : zVal 104 = true := by decide +kernel
theorem zVal_105 : zVal 105 = true := by decide +kernel
theorem zVal_106 : zVal 106 = true := by decide +kernel
theorem zVal_107 : zVal 107 = true := by decide +kernel
theorem zVal_108 : zVal 108 = true := by decide +kernel
theorem zVal_109 : zVal 109 = true := by decide +kernel
theorem zVal_110 : zVal 110 = true := by decide +kernel
theorem zVal_111 : zVal 111 = true := by decide +kernel
theorem zVal_112 : zVal 112 = true := by decide +kernel
theorem zVal_113 : zVal 113 = true := by decide +kernel
theorem zVal_114 : zVal 114 = true := by decide +kernel
theorem zVal_115 : zVal 115 = true := by decide +kernel
theorem zVal_116 : zVal 116 = true := by decide +kernel
theorem zVal_117 : zVal 117 = true := by decide +kernel
theorem zVal_118 : zVal 118 = true := by decide +kernel
theorem zVal_119 : zVal 119 = true := by decide +kernel
theorem zVal_120 : zVal 120 = true := by decide +kernel
theorem zVal_121 : zVal 121 = true := by decide +kernel
theorem zVal_122 : zVal 122 = true := by decide +kernel
theorem zVal_123 : zVal 123 = true := by decide +kernel
theorem zVal_124 : zVal 124 = true := by decide +kernel
theorem zVal_125 : zVal 125 = true := by decide +kernel
theorem zVal_126 : zVal 126 = true := by decide +kernel
theorem zVal_127 : zVal 127 = true := by decide +kernel
theorem zVal_128 : zVal 128 = true := by decide +kernel
theorem zVal_129 : zVal 129 = true := by decide +kernel
theorem zVal_130 : zVal 130 = true := by decide +kernel
theorem zVal_131 : zVal 131 = true := by decide +kernel
theorem zVal_132 : zVal 132 = true := by decide +kernel
theorem zVal_133 : zVal 133 = true := by decide +kernel
theorem zVal_134 : zVal 134 = true := by decide +kernel
theorem zVal_135 : zVal 135 = true := by decide +kernel
theorem zVal_136 : zVal 136 = true := by decide +kernel
theorem zVal_137 : zVal 137 = true := by decide +kernel
theorem zVal_138 : zVal 138 = true := by decide +kernel
theorem zVal_139 : zVal 139 = true := by decide +kernel
theorem zVal_140 : zVal 140 = true := by decide +kernel
theorem zVal_141 : zVal 141 = true := by decide +kernel
theorem zVal_142 : zVal 142 = true := by decide +kernel
theorem zVal_143 : zVal 143 = true := by decide +kernel
theorem zVal_144 : zVal 144 = true := by decide +kernel
theorem zVal_145 : zVal 145 = true := by decide +kernel
theorem zVal_146 : zVal 146 = true := by decide +kernel
theorem zVal_147 : zVal 147 = true := by decide +kernel
theorem zVal_148 : zVal 148 = true := by decide +kernel
theorem zVal_149 : zVal 149 = true := by decide +kernel
theorem zVal_150 : zVal 150 = true := by decide +kernel
theorem zVal_151 : zVal 151 = true := by decide +kernel
theorem zVal_152 : zVal 152 = true := by decide +kernel
theorem zVal_153 : zVal 153 = true := by decide +kernel
theorem zVal_154 : zVal 154 = true := by decide +kernel
theorem zVal_155 : zVal 155 = true := by decide +kernel
theorem zVal_156 : zVal 156 = true := by decide +kernel
theorem zVal_157 : zVal 157 = true := by decide +kernel
theorem zVal_158 : zVal 158 = true := by decide +kernel
theorem zVal_159 : zVal 159 = true := by decide +kernel
theorem zVal_160 : zVal 160 = true := by decide +kernel
theorem zVal_161 : zVal 161 = true := by decide +kernel
theorem zVal_162 : zVal 162 = true := by decide +kernel
theorem zVal_163 : zVal 163 = true := by decide +kernel
theorem zVal_164 : zVal 164 = true := by decide +kernel
theorem zVal_165 : zVal 165 = true := by decide +kernel
theorem zVal_166 : zVal 166 = true := by decide +kernel
theorem zVal_167 : zVal 167 = true := by decide +kernel
theorem zVal_168 : zVal 168 = true := by decide +kernel
theorem zVal_169 : zVal 169 = true := by decide +kernel
theorem zVal_170 : zVal 170 = true := by decide +kernel
theorem zVal_171 : zVal 171 = true := by decide +kernel
theorem zVal_172 : zVal 172 = true := by decide +kernel
theorem zVal_173 : zVal 173 = true := by decide +kernel
theorem zVal_174 : zVal 174 = true := by decide +kernel
theorem zVal_175 : zVal 175 = true := by decide +kernel
theorem zVal_176 : zVal 176 = true := by decide +kernel
theorem zVal_177 : zVal 177 = true := by decide +kernel
theorem zVal_178 : zVal 178 = true := by decide +kernel
theorem zVal_179 : zVal 179 = true := by decide +kernel
theorem zVal_180 : zVal 180 = true := by decide +kernel
theorem zVal_181 : zVal 181 = true := by decide +kernel
theorem zVal_182 : zVal 182 = true := by decide +kernel
theorem zVal_183 : zVal 183 = true := by decide +kernel
theorem zVal_184 : zVal 184 = true := by decide +kernel
theorem zVal_185 : zVal 185 = true := by decide +kernel
theorem zVal_186 : zVal 186 = true := by decide +kernel
theorem zVal_187 : zVal 187 = true := by decide +kernel
theorem zVal_188 : zVal 188 = true := by decide +kernel
theorem zVal_189 : zVal 189 = true := by decide +kernel
theorem zVal_190 : zVal 190 = true := by decide +kernel
theorem zVal_191 : zVal 191 = true := by decide +kernel
theorem zVal_192 : zVal 192 = true := by decide +kernel
theorem zVal_193 : zVal 193 = true := by decide +kernel
theorem zVal_194 : zVal 194 = true := by decide +kernel
theorem zVal_195 : zVal 195 = true := by decide +kernel
theorem zVal_196 : zVal 196 = true := by decide +kernel
theorem zVal_197 : zVal 197 = true := by decide +kernel
theorem zVal_198 : zVal 198 = true := by decide +kernel
theorem zVal_199 : zVal 199 = true := by decide +kernel
theorem zVal_200 : zVal 200 = true := by decide +kernel
theorem zVal_201 : zVal 201 = true := by decide +kernel
theorem zVal_202 : zVal 202 = true := by decide +kernel
theorem zVal_203 : zVal 203 = true := by decide +kernel
theorem zVal_204 : zVal 204 = true := by decide +kernel
theorem zVal_205 : zVal 205 = true := by decide +kernel
theorem zVal_206 : zVal 206 = true := by decide +kernel
theorem zVal_207 : zVal 207 = true := by decide +kernel
theorem zVal_208 : zVal 208 = true := by decide +kernel
theorem zVal_209 : zVal 209 = true := by decide +kernel
theorem zVal_210 : zVal 210 = true := by decide +kernel
theorem zVal_211 : zVal 211 = true := by decide +kernel
theorem zVal_212 : zVal 212 = true := by decide +kernel
theorem zVal_213 : zVal 213 = true := by decide +kernel
theorem zVal_214 : zVal 214 = true := by decide +kernel
theorem zVal_215 : zVal 215 = true := by decide +kernel
theorem zVal_216 : zVal 216 = true := by decide +kernel
theorem zVal_217 : zVal 217 = true := by decide +kernel
theorem zVal_218 : zVal 218 = true := by decide +kernel
theorem zVal_219 : zVal 219 = true := by decide +kernel
theorem zVal_220 : zVal 220 = true := by decide +kernel
theorem zVal_221 : zVal 221 = true := by decide +kernel
theorem zVal_222 : zVal 222 = true := by decide +kernel
theorem zVal_223 : zVal 223 = true := by decide +kernel
theorem zVal_224 : zVal 224 = true := by decide +kernel
theorem zVal_225 : zVal 225 = true := by decide +kernel
theorem zVal_226 : zVal 226 = true := by decide +kernel
theorem zVal_227 : zVal 227 = true := by decide +kernel
theorem zVal_228 : zVal 228 = true := by decide +kernel
theorem zVal_229 : zVal 229 = true := by decide +kernel
theorem zVal_230 : zVal 230 = true := by decide +kernel
theorem zVal_231 : zVal 231 = true := by decide +kernel
theorem zVal_232 : zVal 232 = true := by decide +kernel
theorem zVal_233 : zVal 233 = true := by decide +kernel
theorem zVal_234 : zVal 234 = true := by decide +kernel
theorem zVal_235 : zVal 235 = true := by decide +kernel
theorem zVal_236 : zVal 236 = true := by decide +kernel
theorem zVal_237 : zVal 237 = true := by decide +kernel
theorem zVal_238 : zVal 238 = true := by decide +kernel
theorem zVal_239 : zVal 239 = true := by decide +kernel
theorem zVal_240 : zVal 240 = true := by decide +kernel
theorem zVal_241 : zVal 241 = true := by decide +kernel
theorem zVal_242 : zVal 242 = true := by decide +kernel
theorem zVal_243 : zVal 243 = true := by decide +kernel
theorem zVal_244_0 : zc_244_0.all (zEok 244) = true := by decide +kernel
theorem zVal_244_1 : zc_244_1.all (zEok 244) = true := by decide +kernel
theorem zVal_244_2 : zc_244_2.all (zEok 244) = true := by decide +kernel
theorem zVal_244_3 : zc_244_3.all (zEok 244) = true := by decide +kernel
theorem zVal_244_4 : zc_244_4.all (zEok 244) = true := by decide +kernel
theorem zVal_244_c : zChain (zCo 244) = true := by decide +kernel
theorem zVal_244 : zVal 244 = true := by
  have h : (zCo 244).all (zEok 244) = true := by
    show (zc_244_0 ++ (zc_244_1 ++ (zc_244_2 ++ (zc_244_3 ++ (zc_244_4))))).all _ = true
    simp only [List.all_append, zVal_244_0, zVal_244_1, zVal_244_2, zVal_244_3, zVal_244_4, Bool.and_self]
  unfold zVal
  rw [h, zVal_244_c]
  rfl
theorem zVal_245 : zVal 245 = true := by decide +kernel
theorem zVal_246 : zVal 246 = true := by decide +kernel
theorem zVal_247 : zVal 247 = true := by decide +kernel
theorem zVal_248 : zVal 248 = true := by decide +kernel
theorem zVal_249 : zVal 249 = true := by decide +kernel
theorem zVal_250 : zVal 250 = true := by decide +kernel
theorem zVal_251 : zVal 251 = true := by decide +kernel
theorem zVal_252 : zVal 252 = true := by decide +kernel
theorem zVal_253 : zVal 253 = true := by decide +kernel
theorem zVal_254 : zVal 254 = true := by decide +kernel
theorem zVal_255 : zVal 255 = true := by decide +kernel
theorem zVal_256 : zVal 256 = true := by decide +kernel
theorem zVal_257 : zVal 257 = true := by decide +kernel
theorem zVal_258 : zVal 258 = true := by decide +kernel
theorem zVal_259 : zVal 259 = true := by decide +kernel
theorem zVal_260 : zVal 260 = true := by decide +kernel
theorem zVal_261 : zVal 261 = true := by decide +kernel
theorem zVal_262 : zVal 262 = true := by decide +kernel
theorem zVal_263 : zVal 263 = true := by decide +kernel
theorem zVal_264 : zVal 264 = true := by decide +kernel
theorem zVal_265 : zVal 265 = true := by decide +kernel
theorem zVal_266 : zVal 266 = true := by decide +kernel
theorem zVal_267 : zVal 267 = true := by decide +kernel
theorem zVal_268 : zVal 268 = true := by decide +kernel
theorem zVal_269 : zVal 269 = true := by decide +kernel
theorem zVal_270 : zVal 270 = true := by decide +kernel
theorem zVal_271 : zVal 271 = true := by decide +kernel
theorem zVal_272 : zVal 272 = true := by decide +kernel
theorem zVal_273 : zVal 273 = true := by decide +kernel
theorem zVal_274 : zVal 274 = true := by decide +kernel
theorem zVal_275 : zVal 275 = true := by decide +kernel
theorem zVal_276 : zVal 276 = true := by decide +kernel
theorem zVal_277 : zVal 277 = true := by decide +kernel
theorem zVal_278 : zVal 278 = true := by decide +kernel
theorem zVal_279 : zVal 279 = true := by decide +kernel
theorem zVal_280 : zVal 280 = true := by decide +kernel
theorem zVal_281_0 : zc_281_0.all (zEok 281) = true := by decide +kernel
theorem zVal_281_1 : zc_281_1.all (zEok 281) = true := by decide +kernel
theorem zVal_281_2 : zc_281_2.all (zEok 281) = true := by decide +kernel
theorem zVal_281_3 : zc_281_3.all (zEok 281) = true := by decide +kernel
theorem zVal_281_4 : zc_281_4.all (zEok 281) = true := by decide +kernel
theorem zVal_281_5 : zc_281_5.all (zEok 281) = true := by decide +kernel
theorem zVal_281_6 : zc_281_6.all (zEok 281) = true := by decide +kernel
theorem zVal_281_7 : zc_281_7.all (zEok 281) = true := by decide +kernel
theorem zVal_281_8 : zc_281_8.all (zEok 281) = true := by decide +kernel
theorem zVal_281_9 : zc_281_9.all (zEok 281) = true := by decide +kernel
theorem zVal_281_10 : zc_281_10.all (zEok 281) = true := by decide +kernel
theorem zVal_281_11 : zc_281_11.all (zEok 281) = true := by decide +kernel
theorem zVal_281_12 : zc_281_12.all (zEok 281) = true := by decide +kernel
theorem zVal_281_13 : zc_281_13.all (zEok 281) = true := by decide +kernel
theorem zVal_281_c : zChain (zCo 281) = true := by decide +kernel
theorem zVal_281 : zVal 281 = true := by
  have h : (zCo 281).all (zEok 281) = true := by
    show (zc_281_0 ++ (zc_281_1 ++ (zc_281_2 ++ (zc_281_3 ++ (zc_281_4 ++ (zc_281_5 ++ (zc_281_6 ++ (zc_281_7 ++ (zc_281_8 ++ (zc_281_9 ++ (zc_281_10 ++ (zc_281_11 ++ (zc_281_12 ++ (zc_281_13)))))))))))))).all _ = true
    simp only [List.all_append, zVal_281_0, zVal_281_1, zVal_281_2, zVal_281_3, zVal_281_4, zVal_281_5, zVal_281_6, zVal_281_7, zVal_281_8, zVal_281_9, zVal_281_10, zVal_281_11, zVal_281_12, zVal_281_13, Bool.and_self]
  unfold zVal
  rw [h, zVal_281_c]
  rfl
theorem zVal_282 : zVal 282 = true := by decide +kernel
theorem zVal_283 : zVal 283 = true := by decide +kernel
theorem zVal_284 : zVal 284 = true := by decide +kernel
theorem zVal_ok : ∀ y, y < 285 → zVal y = true := by
  intro y hy
  match y, hy with
  | 0, _ => exact zVal_0
  | 1, _ => exact zVal_1
  | 2, _ => exact zVal_2
  | 3, _ => exact zVal_3
  | 4, _ => exact zVal_4
  | 5, _ => exact zVal_5
  | 6, _ => exact zVal_6
  | 7, _ => exact zVal_7
  | 8, _ => exact zVal_8
  | 9, _ => exact zVal_9
  | 10, _ => exact zVal_10
  | 11, _ => exact zVal_11
  | 12, _ => exact zVal_12
  | 13, _ => exact zVal_13
  | 14, _ => exact zVal_14
  | 15, _ => exact zVal_15
  | 16, _ => exact zVal_16
  | 17, _ => exact zVal_17
  | 18, _ => exact zVal_18
  | 19, _ => exact zVal_19
  | 20, _ => exact zVal_20
  | 21, _ => exact zVal_21
  | 22, _ => exact zVal_22
  | 23, _ => exact zVal_23
  | 24, _ => exact zVal_24
  | 25, _ => exact zVal_25
  | 26, _ => exact zVal_26
  | 27, _ => exact zVal_27
  | 28, _ => exact zVal_28
  | 29, _ => exact zVal_29
  | 30, _ => exact zVal_30
  | 31, _ => exact zVal_31
  | 32, _ => exact zVal_32
  | 33, _ => exact zVal_33
  | 34, _ => exact zVal_34
  | 35, _ => exact zVal_35
  | 36, _ => exact zVal_36
  | 37, _ => exact zVal_37
  | 38, _ => exact zVal_38
  | 39, _ => exact zVal_39
  | 40, _ => exact zVal_40
  | 41, _ => exact zVal_41
  | 42, _ => exact zVal_42
  | 43, _ => exact zVal_43
  | 44, _ => exact zVal_44
  | 45, _ => exact zVal_45
  | 46, _ => exact zVal_46
  | 47, _ => exact zVal_47
  | 48, _ => exact zVal_48
  | 49, _ => exact zVal_49
  | 50, _ => exact zVal_50
  | 51, _ => exact zVal_51
  | 52, _ => exact zVal_52
  | 53, _ => exact zVal_53
  | 54, _ => exact zVal_54
  | 55, _ => exact zVal_55
  | 56, _ => exact zVal_56
  | 57, _ => exact zVal_57
  | 58, _ => exact zVal_58
  | 59, _ => exact zVal_59
  | 60, _ => exact zVal_60
  | 61, _ => exact zVal_61
  | 62, _ => exact zVal_62
  | 63, _ => exact zVal_63
  | 64, _ => exact zVal_64
  | 65, _ => exact zVal_65
  | 66, _ => exact zVal_66
  | 67, _ => exact zVal_67
  | 68, _ => exact zVal_68
  | 69, _ => exact zVal_69
  | 70, _ => exact zVal_70
  | 71, _ => exact zVal_71
  | 72, _ => exact zVal_72
  | 73, _ => exact zVal_73
  | 74, _ => exact zVal_74
  | 75, _ => exact zVal_75
  | 76, _ => exact zVal_76
  | 77, _ => exact zVal_77
  | 78, _ => exact zVal_78
  | 79, _ => exact zVal_79
  | 80, _ => exact zVal_80
  | 81, _ => exact zVal_81
  | 82, _ => exact zVal_82
  | 83, _ => exact zVal_83
  | 84, _ => exact zVal_84
  | 85, _ => exact zVal_85
  | 86, _ => exact zVal_86
  | 87, _ => exact zVal_87
  | 88, _ => exact zVal_88
  | 89, _ => exact zVal_89
  | 90, _ => exact zVal_90
  | 91, _ => exact zVal_91
  | 92, _ => exact zVal_92
  | 93, _ => exact zVal_93
  | 94, _ => exact zVal_94
  | 95, _ => exact zVal_95
  | 96, _ => exact zVal_96
  | 97, _ => exact zVal_97
  | 98, _ => exact zVal_98
  | 99, _ => exact zVal_99
  | 100, _ => exact zVal_100
  | 101, _ => exact zVal_101
  | 102, _ => exact zVal_102
  | 103, _ => exact zVal_103
  | 104, _ => exact zVal_104
  | 105, _ => exact zVal_105
  | 106, _ => exact zVal_106
  | 107, _ => exact zVal_107
  | 108, _ => exact zVal_108
  | 109, _ => exact zVal_109
  | 110, _ => exact zVal_110
  | 111, _ => exact zVal_111
  | 112, _ => exact zVal_112
  | 113, _ => exact zVal_113
  | 114, _ => exact zVal_114
  | 115, _ => exact zVal_115
  | 116, _ => exact zVal_116
  | 117, _ => exact zVal_117
  | 118, _ => exact zVal_118
  | 119, _ => exact zVal_119
  | 120, _ => exact zVal_120
  | 121, _ => exact zVal_121
  | 122, _ => exact zVal_122
  | 123, _ => exact zVal_123
  | 124, _ => exact zVal_124
  | 125, _ => exact zVal_125
  | 126, _ => exact zVal_126
  | 127, _ => exact zVal_127
  | 128, _ => exact zVal_128
  | 129, _ => exact zVal_129
  | 130, _ => exact zVal_130
  | 131, _ => exact zVal_131
  | 132, _ => exact zVal_132
  | 133, _ => exact zVal_133
  | 134, _ => exact zVal_134
  | 135, _ => exact zVal_135
  | 136, _ => exact zVal_136
  | 137, _ => exact zVal_137
  | 138, _ => exact zVal_138
  | 139, _ => exact zVal_139
  | 140, _ => exact zVal_140
  | 141, _ => exact zVal_141
  | 142, _ => exact zVal_142
  | 143, _ => exact zVal_143
  | 144, _ => exact zVal_144
  | 145, _ => exact zVal_145
  | 146, _ => exact zVal_146
  | 147, _ => exact zVal_147
  | 148, _ => exact zVal_148
  | 149, _ => exact zVal_149
  | 150, _ => exact zVal_150
  | 151, _ => exact zVal_151
  | 152, _ => exact zVal_152
  | 153, _ => exact zVal_153
  | 154, _ => exact zVal_154
  | 155, _ => exact zVal_155
  | 156, _ => exact zVal_156
  | 157, _ => exact zVal_157
  | 158, _ => exact zVal_158
  | 159, _ => exact zVal_159
  | 160, _ => exact zVal_160
  | 161, _ => exact zVal_161
  | 162, _ => exact zVal_162
  | 163, _ => exact zVal_163
  | 164, _ => exact zVal_164
  | 165, _ => exact zVal_165
  | 166, _ => exact zVal_166
  | 167, _ => exact zVal_167
  | 168, _ => exact zVal_168
  | 169, _ => exact zVal_169
  | 170, _ => exact zVal_170
  | 171, _ => exact zVal_171
  | 172, _ => exact zVal_172
  | 173, _ => exact zVal_173
  | 174, _ => exact zVal_174
  | 175, _ => exact zVal_175
  | 176, _ => exact zVal_176
  | 177, _ => exact zVal_177
  | 178, _ => exact zVal_178
  | 179, _ => exact zVal_179
  | 180, _ => exact zVal_180
  | 181, _ => exact zVal_181
  | 182, _ => exact zVal_182
  | 183, _ => exact zVal_183
  | 184, _ => exact zVal_184
  | 185, _ => exact zVal_185
  | 186, _ => exact zVal_186
  | 187, _ => exact zVal_187
  | 188, _ => exact zVal_188
  | 189, _ => exact zVal_189
  | 190, _ => exact zVal_190
  | 191, _ => exact zVal_191
  | 192, _ => exact zVal_192
  | 193, _ => exact zVal_193
  | 194, _ => exact zVal_194
  | 195, _ => exact zVal_195
  | 196, _ => exact zVal_196
  | 197, _ => exact zVal_197
  | 198, _ => exact zVal_198
  | 199, _ => exact zVal_199
  | 200, _ => exact zVal_200
  | 201, _ => exact zVal_201
  | 202, _ => exact zVal_202
  | 203, _ => exact zVal_203
  | 204, _ => exact zVal_204
  | 205, _ => exact zVal_205
  | 206, _ => exact zVal_206
  | 207, _ => exact zVal_207
  | 208, _ => exact zVal_208
  | 209, _ => exact zVal_209
  | 210, _ => exact zVal_210
  | 211, _ => exact zVal_211
  | 212, _ => exact zVal_212
  | 213, _ => exact zVal_213
  | 214, _ => exact zVal_214
  | 215, _ => exact zVal_215
  | 216, _ => exact zVal_216
  | 217, _ => exact zVal_217
  | 218, _ => exact zVal_218
  | 219, _ => exact zVal_219
  | 220, _ => exact zVal_220
  | 221, _ => exact zVal_221
  | 222, _ => exact zVal_222
  | 223, _ => exact zVal_223
  | 224, _ => exact zVal_224
  | 225, _ => exact zVal_225
  | 226, _ => exact zVal_226
  | 227, _ => exact zVal_227
  | 228, _ => exact zVal_228
  | 229, _ => exact zVal_229
  | 230, _ => exact zVal_230
  | 231, _ => exact zVal_231
  | 232, _ => exact zVal_232
  | 233, _ => exact zVal_233
  | 234, _ => exact zVal_234
  | 235, _ => exact zVal_235
  | 236, _ => exact zVal_236
  | 237, _ => exact zVal_237
  | 238, _ => exact zVal_238
  | 239, _ => exact zVal_239
  | 240, _ => exact zVal_240
  | 241, _ => exact zVal_241
  | 242, _ => exact zVal_242
  | 243, _ => exact zVal_243
  | 244, _ => exact zVal_244
  | 245, _ => exact zVal_245
  | 246, _ => exact zVal_246
  | 247, _ => exact zVal_247
  | 248, _ => exact zVal_248
  | 249, _ => exact zVal_249
  | 250, _ => exact zVal_250
  | 251, _ => exact zVal_251
  | 252, _ => exact zVal_252
  | 253, _ => exact zVal_253
  | 254, _ => exact zVal_254
  | 255, _ => exact zVal_255
  | 256, _ => exact zVal_256
  | 257, _ => exact zVal_257
  | 258, _ => exact zVal_258
  | 259, _ => exact zVal_259
  | 260, _ => exact zVal_260
  | 261, _ => exact zVal_261
  | 262, _ => exact zVal_262
  | 263, _ => exact zVal_263
  | 264, _ => exact zVal_264
  | 265, _ => exact zVal_265
  | 266, _ => exact zVal_266
  | 267, _ => exact zVal_267
  | 268, _ => exact zVal_268
  | 269, _ => exact zVal_269
  | 270, _ => exact zVal_270
  | 271, _ => exact zVal_271
  | 272, _ => exact zVal_272
  | 273, _ => exact zVal_273
  | 274, _ => exact zVal_274
  | 275, _ => exact zVal_275
  | 276, _ => exact zVal_276
  | 277, _ => exact zVal_277
  | 278, _ => exact zVal_278
  | 279, _ => exact zVal_279
  | 280, _ => exact zVal_280
  | 281, _ => exact zVal_281
  | 282, _ => exact zVal_282
  | 283, _ => exact zVal_283
  | 284, _ => exact zVal_284
  | y + 285, hy => exact absurd hy (by omega)
