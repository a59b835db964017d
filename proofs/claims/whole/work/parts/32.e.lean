/-! Where the runs go, from cut to cut: written by a program -/
theorem tb0_ : tabs.getD 0 [] = tb_0 := rfl
theorem tb1_ : tabs.getD 1 [] = tb_1 := rfl
theorem tb2_ : tabs.getD 2 [] = tb_2 := rfl
theorem tb3_ : tabs.getD 3 [] = tb_3 := rfl
theorem tb4_ : tabs.getD 4 [] = tb_4 := rfl
theorem tb5_ : tabs.getD 5 [] = tb_5 := rfl
theorem tb6_ : tabs.getD 6 [] = tb_6 := rfl
theorem tb7_ : tabs.getD 7 [] = tb_7 := rfl
theorem tb8_ : tabs.getD 8 [] = tb_8 := rfl
theorem tb9_ : tabs.getD 9 [] = tb_9 := rfl
theorem tb10_ : tabs.getD 10 [] = tb_10 := rfl
theorem tb11_ : tabs.getD 11 [] = tb_11 := rfl
theorem tb12_ : tabs.getD 12 [] = tb_12 := rfl
theorem tb13_ : tabs.getD 13 [] = tb_13 := rfl
theorem tb14_ : tabs.getD 14 [] = tb_14 := rfl
theorem tb15_ : tabs.getD 15 [] = tb_15 := rfl
theorem tb16_ : tabs.getD 16 [] = tb_16 := rfl
theorem tb17_ : tabs.getD 17 [] = tb_17 := rfl
theorem tb18_ : tabs.getD 18 [] = tb_18 := rfl
theorem tb19_ : tabs.getD 19 [] = tb_19 := rfl
theorem tb20_ : tabs.getD 20 [] = tb_20 := rfl
theorem tb21_ : tabs.getD 21 [] = tb_21 := rfl
theorem tb22_ : tabs.getD 22 [] = tb_22 := rfl
theorem tb23_ : tabs.getD 23 [] = tb_23 := rfl
theorem tb24_ : tabs.getD 24 [] = tb_24 := rfl
theorem tb25_ : tabs.getD 25 [] = tb_25 := rfl
theorem tb26_ : tabs.getD 26 [] = tb_26 := rfl
theorem tb27_ : tabs.getD 27 [] = tb_27 := rfl
theorem tb28_ : tabs.getD 28 [] = tb_28 := rfl
theorem tb29_ : tabs.getD 29 [] = tb_29 := rfl
theorem tb30_ : tabs.getD 30 [] = tb_30 := rfl
theorem tb31_ : tabs.getD 31 [] = tb_31 := rfl
theorem tb32_ : tabs.getD 32 [] = tb_32 := rfl
theorem tb33_ : tabs.getD 33 [] = tb_33 := rfl
theorem tb34_ : tabs.getD 34 [] = tb_34 := rfl
theorem tb35_ : tabs.getD 35 [] = tb_35 := rfl
theorem tb36_ : tabs.getD 36 [] = tb_36 := rfl
theorem tb37_ : tabs.getD 37 [] = tb_37 := rfl
theorem tb38_ : tabs.getD 38 [] = tb_38 := rfl
theorem tb39_ : tabs.getD 39 [] = tb_39 := rfl
theorem tb40_ : tabs.getD 40 [] = tb_40 := rfl
theorem tb41_ : tabs.getD 41 [] = tb_41 := rfl
theorem tb42_ : tabs.getD 42 [] = tb_42 := rfl
theorem tb43_ : tabs.getD 43 [] = tb_43 := rfl
theorem tb44_ : tabs.getD 44 [] = tb_44 := rfl
theorem tb45_ : tabs.getD 45 [] = tb_45 := rfl
theorem tb46_ : tabs.getD 46 [] = tb_46 := rfl
theorem tb47_ : tabs.getD 47 [] = tb_47 := rfl
theorem tb48_ : tabs.getD 48 [] = tb_48 := rfl
theorem tb49_ : tabs.getD 49 [] = tb_49 := rfl
theorem tb50_ : tabs.getD 50 [] = tb_50 := rfl
theorem tb51_ : tabs.getD 51 [] = tb_51 := rfl
theorem tb52_ : tabs.getD 52 [] = tb_52 := rfl
theorem tb53_ : tabs.getD 53 [] = tb_53 := rfl
theorem tb54_ : tabs.getD 54 [] = tb_54 := rfl
theorem tb55_ : tabs.getD 55 [] = tb_55 := rfl
theorem tb56_ : tabs.getD 56 [] = tb_56 := rfl
theorem tb57_ : tabs.getD 57 [] = tb_57 := rfl
theorem tb58_ : tabs.getD 58 [] = tb_58 := rfl
theorem tb59_ : tabs.getD 59 [] = tb_59 := rfl
theorem tb60_ : tabs.getD 60 [] = tb_60 := rfl
theorem tb61_ : tabs.getD 61 [] = tb_61 := rfl
theorem tb62_ : tabs.getD 62 [] = tb_62 := rfl
theorem tb63_ : tabs.getD 63 [] = tb_63 := rfl
theorem tb64_ : tabs.getD 64 [] = tb_64 := rfl
theorem tb65_ : tabs.getD 65 [] = tb_65 := rfl
theorem tb66_ : tabs.getD 66 [] = tb_66 := rfl
theorem tb67_ : tabs.getD 67 [] = tb_67 := rfl
theorem tb68_ : tabs.getD 68 [] = tb_68 := rfl
theorem tb69_ : tabs.getD 69 [] = tb_69 := rfl
theorem tb70_ : tabs.getD 70 [] = tb_70 := rfl
theorem tb71_ : tabs.getD 71 [] = tb_71 := rfl
theorem tb72_ : tabs.getD 72 [] = tb_72 := rfl
theorem tb73_ : tabs.getD 73 [] = tb_73 := rfl
theorem tb74_ : tabs.getD 74 [] = tb_74 := rfl
theorem tb75_ : tabs.getD 75 [] = tb_75 := rfl
theorem tb76_ : tabs.getD 76 [] = tb_76 := rfl
theorem tb77_ : tabs.getD 77 [] = tb_77 := rfl
theorem tb78_ : tabs.getD 78 [] = tb_78 := rfl
theorem tb79_ : tabs.getD 79 [] = tb_79 := rfl
theorem tb80_ : tabs.getD 80 [] = tb_80 := rfl
theorem tb81_ : tabs.getD 81 [] = tb_81 := rfl
theorem tb82_ : tabs.getD 82 [] = tb_82 := rfl
theorem tb83_ : tabs.getD 83 [] = tb_83 := rfl
theorem tb84_ : tabs.getD 84 [] = tb_84 := rfl
theorem tb85_ : tabs.getD 85 [] = tb_85 := rfl
theorem tb86_ : tabs.getD 86 [] = tb_86 := rfl
theorem tb87_ : tabs.getD 87 [] = tb_87 := rfl
theorem tb88_ : tabs.getD 88 [] = tb_88 := rfl
theorem tb89_ : tabs.getD 89 [] = tb_89 := rfl
theorem tb90_ : tabs.getD 90 [] = tb_90 := rfl
theorem tb91_ : tabs.getD 91 [] = tb_91 := rfl
theorem tb92_ : tabs.getD 92 [] = tb_92 := rfl
theorem tb93_ : tabs.getD 93 [] = tb_93 := rfl
theorem tb94_ : tabs.getD 94 [] = tb_94 := rfl
theorem tb95_ : tabs.getD 95 [] = tb_95 := rfl
theorem tb96_ : tabs.getD 96 [] = tb_96 := rfl
theorem tb97_ : tabs.getD 97 [] = tb_97 := rfl
theorem tb98_ : tabs.getD 98 [] = tb_98 := rfl
theorem tb99_ : tabs.getD 99 [] = tb_99 := rfl
theorem tb100_ : tabs.getD 100 [] = tb_100 := rfl
theorem tb101_ : tabs.getD 101 [] = tb_101 := rfl
theorem tb102_ : tabs.getD 102 [] = tb_102 := rfl
theorem tb103_ : tabs.getD 103 [] = tb_103 := rfl
theorem tb104_ : tabs.getD 104 [] = tb_104 := rfl
theorem tb105_ : tabs.getD 105 [] = tb_105 := rfl
theorem tb106_ : tabs.getD 106 [] = tb_106 := rfl
theorem tb107_ : tabs.getD 107 [] = tb_107 := rfl
theorem tb108_ : tabs.getD 108 [] = tb_108 := rfl
theorem tb109_ : tabs.getD 109 [] = tb_109 := rfl
theorem tb110_ : tabs.getD 110 [] = tb_110 := rfl
theorem tb111_ : tabs.getD 111 [] = tb_111 := rfl
theorem tb112_ : tabs.getD 112 [] = tb_112 := rfl
theorem tb113_ : tabs.getD 113 [] = tb_113 := rfl
theorem tb114_ : tabs.getD 114 [] = tb_114 := rfl
theorem tb115_ : tabs.getD 115 [] = tb_115 := rfl
theorem tb116_ : tabs.getD 116 [] = tb_116 := rfl
theorem tb117_ : tabs.getD 117 [] = tb_117 := rfl
theorem tb118_ : tabs.getD 118 [] = tb_118 := rfl
theorem tb119_ : tabs.getD 119 [] = tb_119 := rfl
theorem tb120_ : tabs.getD 120 [] = tb_120 := rfl
theorem tb121_ : tabs.getD 121 [] = tb_121 := rfl
theorem tb122_ : tabs.getD 122 [] = tb_122 := rfl
theorem tb123_ : tabs.getD 123 [] = tb_123 := rfl
theorem tb124_ : tabs.getD 124 [] = tb_124 := rfl
theorem tb125_ : tabs.getD 125 [] = tb_125 := rfl
theorem tb126_ : tabs.getD 126 [] = tb_126 := rfl
theorem tb127_ : tabs.getD 127 [] = tb_127 := rfl
theorem tb128_ : tabs.getD 128 [] = tb_128 := rfl
theorem tb129_ : tabs.getD 129 [] = tb_129 := rfl
theorem tb130_ : tabs.getD 130 [] = tb_130 := rfl
theorem tb131_ : tabs.getD 131 [] = tb_131 := rfl
theorem tb132_ : tabs.getD 132 [] = tb_132 := rfl
theorem tb133_ : tabs.getD 133 [] = tb_133 := rfl
theorem tb134_ : tabs.getD 134 [] = tb_134 := rfl
theorem tb135_ : tabs.getD 135 [] = tb_135 := rfl
theorem tb136_ : tabs.getD 136 [] = tb_136 := rfl
theorem tb137_ : tabs.getD 137 [] = tb_137 := rfl
theorem tb138_ : tabs.getD 138 [] = tb_138 := rfl
theorem tb139_ : tabs.getD 139 [] = tb_139 := rfl
theorem tb140_ : tabs.getD 140 [] = tb_140 := rfl
theorem tb141_ : tabs.getD 141 [] = tb_141 := rfl
theorem tb142_ : tabs.getD 142 [] = tb_142 := rfl
theorem tb143_ : tabs.getD 143 [] = tb_143 := rfl
theorem tb144_ : tabs.getD 144 [] = tb_144 := rfl
theorem tb145_ : tabs.getD 145 [] = tb_145 := rfl
theorem tb146_ : tabs.getD 146 [] = tb_146 := rfl
theorem tb147_ : tabs.getD 147 [] = tb_147 := rfl
theorem tb148_ : tabs.getD 148 [] = tb_148 := rfl
theorem tb149_ : tabs.getD 149 [] = tb_149 := rfl
theorem tb150_ : tabs.getD 150 [] = tb_150 := rfl
theorem tb151_ : tabs.getD 151 [] = tb_151 := rfl
theorem tb152_ : tabs.getD 152 [] = tb_152 := rfl
theorem tb153_ : tabs.getD 153 [] = tb_153 := rfl
theorem tb154_ : tabs.getD 154 [] = tb_154 := rfl
theorem tb155_ : tabs.getD 155 [] = tb_155 := rfl
theorem tb156_ : tabs.getD 156 [] = tb_156 := rfl
theorem tb157_ : tabs.getD 157 [] = tb_157 := rfl
theorem tb158_ : tabs.getD 158 [] = tb_158 := rfl
theorem tb159_ : tabs.getD 159 [] = tb_159 := rfl
theorem tb160_ : tabs.getD 160 [] = tb_160 := rfl
theorem tb161_ : tabs.getD 161 [] = tb_161 := rfl
theorem tb162_ : tabs.getD 162 [] = tb_162 := rfl
theorem tb163_ : tabs.getD 163 [] = tb_163 := rfl
theorem tb164_ : tabs.getD 164 [] = tb_164 := rfl
theorem tb165_ : tabs.getD 165 [] = tb_165 := rfl
theorem tb166_ : tabs.getD 166 [] = tb_166 := rfl
theorem tb167_ : tabs.getD 167 [] = tb_167 := rfl
theorem tb168_ : tabs.getD 168 [] = tb_168 := rfl
theorem tb169_ : tabs.getD 169 [] = tb_169 := rfl
theorem tb170_ : tabs.getD 170 [] = tb_170 := rfl
theorem tb171_ : tabs.getD 171 [] = tb_171 := rfl
theorem tb172_ : tabs.getD 172 [] = tb_172 := rfl
theorem tb173_ : tabs.getD 173 [] = tb_173 := rfl
theorem tb174_ : tabs.getD 174 [] = tb_174 := rfl
theorem tb175_ : tabs.getD 175 [] = tb_175 := rfl
theorem tb176_ : tabs.getD 176 [] = tb_176 := rfl
theorem tb177_ : tabs.getD 177 [] = tb_177 := rfl
theorem tb178_ : tabs.getD 178 [] = tb_178 := rfl
theorem tb179_ : tabs.getD 179 [] = tb_179 := rfl
theorem tb180_ : tabs.getD 180 [] = tb_180 := rfl
theorem tb181_ : tabs.getD 181 [] = tb_181 := rfl
theorem tb182_ : tabs.getD 182 [] = tb_182 := rfl
theorem tb183_ : tabs.getD 183 [] = tb_183 := rfl
theorem tb184_ : tabs.getD 184 [] = tb_184 := rfl
theorem tb185_ : tabs.getD 185 [] = tb_185 := rfl
theorem tb186_ : tabs.getD 186 [] = tb_186 := rfl
theorem tb187_ : tabs.getD 187 [] = tb_187 := rfl
theorem tb188_ : tabs.getD 188 [] = tb_188 := rfl
theorem tb189_ : tabs.getD 189 [] = tb_189 := rfl
theorem tb190_ : tabs.getD 190 [] = tb_190 := rfl
theorem tb191_ : tabs.getD 191 [] = tb_191 := rfl
theorem tb192_ : tabs.getD 192 [] = tb_192 := rfl
theorem tb193_ : tabs.getD 193 [] = tb_193 := rfl
theorem tb194_ : tabs.getD 194 [] = tb_194 := rfl
theorem tb195_ : tabs.getD 195 [] = tb_195 := rfl
theorem tb196_ : tabs.getD 196 [] = tb_196 := rfl
theorem tb197_ : tabs.getD 197 [] = tb_197 := rfl
theorem tb198_ : tabs.getD 198 [] = tb_198 := rfl
theorem tb199_ : tabs.getD 199 [] = tb_199 := rfl
theorem tb200_ : tabs.getD 200 [] = tb_200 := rfl
theorem tb201_ : tabs.getD 201 [] = tb_201 := rfl
theorem tb202_ : tabs.getD 202 [] = tb_202 := rfl
theorem tb203_ : tabs.getD 203 [] = tb_203 := rfl
theorem tb204_ : tabs.getD 204 [] = tb_204 := rfl
theorem tb205_ : tabs.getD 205 [] = tb_205 := rfl
theorem tb206_ : tabs.getD 206 [] = tb_206 := rfl
theorem tb207_ : tabs.getD 207 [] = tb_207 := rfl
theorem tb208_ : tabs.getD 208 [] = tb_208 := rfl
theorem tb209_ : tabs.getD 209 [] = tb_209 := rfl
theorem tb210_ : tabs.getD 210 [] = tb_210 := rfl
theorem tb211_ : tabs.getD 211 [] = tb_211 := rfl
theorem tb212_ : tabs.getD 212 [] = tb_212 := rfl
theorem tb213_ : tabs.getD 213 [] = tb_213 := rfl
theorem tb214_ : tabs.getD 214 [] = tb_214 := rfl
theorem tb215_ : tabs.getD 215 [] = tb_215 := rfl
theorem tb216_ : tabs.getD 216 [] = tb_216 := rfl
theorem tb217_ : tabs.getD 217 [] = tb_217 := rfl
theorem tb218_ : tabs.getD 218 [] = tb_218 := rfl
theorem tb219_ : tabs.getD 219 [] = tb_219 := rfl
theorem tb220_ : tabs.getD 220 [] = tb_220 := rfl
theorem tb221_ : tabs.getD 221 [] = tb_221 := rfl
theorem tb222_ : tabs.getD 222 [] = tb_222 := rfl
theorem tb223_ : tabs.getD 223 [] = tb_223 := rfl
theorem tb224_ : tabs.getD 224 [] = tb_224 := rfl
theorem tb225_ : tabs.getD 225 [] = tb_225 := rfl
theorem tb226_ : tabs.getD 226 [] = tb_226 := rfl
theorem tb227_ : tabs.getD 227 [] = tb_227 := rfl
theorem tb228_ : tabs.getD 228 [] = tb_228 := rfl
theorem tb229_ : tabs.getD 229 [] = tb_229 := rfl
theorem tb230_ : tabs.getD 230 [] = tb_230 := rfl
theorem tb231_ : tabs.getD 231 [] = tb_231 := rfl
theorem tb232_ : tabs.getD 232 [] = tb_232 := rfl
theorem tb233_ : tabs.getD 233 [] = tb_233 := rfl
theorem tb234_ : tabs.getD 234 [] = tb_234 := rfl
theorem tb235_ : tabs.getD 235 [] = tb_235 := rfl
theorem tb236_ : tabs.getD 236 [] = tb_236 := rfl
theorem tb237_ : tabs.getD 237 [] = tb_237 := rfl
theorem tb238_ : tabs.getD 238 [] = tb_238 := rfl
theorem tb239_ : tabs.getD 239 [] = tb_239 := rfl
theorem tb240_ : tabs.getD 240 [] = tb_240 := rfl
theorem tb241_ : tabs.getD 241 [] = tb_241 := rfl
theorem tb242_ : tabs.getD 242 [] = tb_242 := rfl
theorem tb243_ : tabs.getD 243 [] = tb_243 := rfl
theorem tb244_ : tabs.getD 244 [] = tb_244 := rfl
theorem tb245_ : tabs.getD 245 [] = tb_245 := rfl
theorem tb246_ : tabs.getD 246 [] = tb_246 := rfl
theorem tb247_ : tabs.getD 247 [] = tb_247 := rfl
theorem tb248_ : tabs.getD 248 [] = tb_248 := rfl
theorem tb249_ : tabs.getD 249 [] = tb_249 := rfl
theorem tb250_ : tabs.getD 250 [] = tb_250 := rfl
theorem tb251_ : tabs.getD 251 [] = tb_251 := rfl
theorem tb252_ : tabs.getD 252 [] = tb_252 := rfl
theorem tb253_ : tabs.getD 253 [] = tb_253 := rfl
theorem tb254_ : tabs.getD 254 [] = tb_254 := rfl
theorem tb255_ : tabs.getD 255 [] = tb_255 := rfl
theorem tb256_ : tabs.getD 256 [] = tb_256 := rfl
theorem tb257_ : tabs.getD 257 [] = tb_257 := rfl
theorem tb258_ : tabs.getD 258 [] = tb_258 := rfl
theorem tb259_ : tabs.getD 259 [] = tb_259 := rfl
theorem tb260_ : tabs.getD 260 [] = tb_260 := rfl
theorem tb261_ : tabs.getD 261 [] = tb_261 := rfl
theorem tb262_ : tabs.getD 262 [] = tb_262 := rfl
theorem tb263_ : tabs.getD 263 [] = tb_263 := rfl
theorem tb264_ : tabs.getD 264 [] = tb_264 := rfl
theorem tb265_ : tabs.getD 265 [] = tb_265 := rfl
theorem tb266_ : tabs.getD 266 [] = tb_266 := rfl
theorem tb267_ : tabs.getD 267 [] = tb_267 := rfl
theorem tb268_ : tabs.getD 268 [] = tb_268 := rfl
theorem tb269_ : tabs.getD 269 [] = tb_269 := rfl
theorem tb270_ : tabs.getD 270 [] = tb_270 := rfl
theorem tb271_ : tabs.getD 271 [] = tb_271 := rfl
theorem tb272_ : tabs.getD 272 [] = tb_272 := rfl
theorem tb273_ : tabs.getD 273 [] = tb_273 := rfl
theorem tb274_ : tabs.getD 274 [] = tb_274 := rfl
theorem tb275_ : tabs.getD 275 [] = tb_275 := rfl
theorem tb276_ : tabs.getD 276 [] = tb_276 := rfl
theorem tb277_ : tabs.getD 277 [] = tb_277 := rfl
theorem tb278_ : tabs.getD 278 [] = tb_278 := rfl
theorem tb279_ : tabs.getD 279 [] = tb_279 := rfl
theorem tb280_ : tabs.getD 280 [] = tb_280 := rfl
theorem tb281_ : tabs.getD 281 [] = tb_281 := rfl
theorem tb282_ : tabs.getD 282 [] = tb_282 := rfl
theorem tb283_ : tabs.getD 283 [] = tb_283 := rfl
theorem tb284_ : tabs.getD 284 [] = tb_284 := rfl
theorem tb285_ : tabs.getD 285 [] = tb_285 := rfl
theorem tb286_ : tabs.getD 286 [] = tb_286 := rfl
theorem tb287_ : tabs.getD 287 [] = tb_287 := rfl
theorem tb288_ : tabs.getD 288 [] = tb_288 := rfl
theorem tb289_ : tabs.getD 289 [] = tb_289 := rfl
theorem tb290_ : tabs.getD 290 [] = tb_290 := rfl
theorem tb291_ : tabs.getD 291 [] = tb_291 := rfl
theorem tb292_ : tabs.getD 292 [] = tb_292 := rfl
theorem tb293_ : tabs.getD 293 [] = tb_293 := rfl
theorem tb294_ : tabs.getD 294 [] = tb_294 := rfl
theorem tb295_ : tabs.getD 295 [] = tb_295 := rfl
theorem tb296_ : tabs.getD 296 [] = tb_296 := rfl
theorem tb297_ : tabs.getD 297 [] = tb_297 := rfl
theorem tb298_ : tabs.getD 298 [] = tb_298 := rfl
theorem tb299_ : tabs.getD 299 [] = tb_299 := rfl
theorem tb300_ : tabs.getD 300 [] = tb_300 := rfl
theorem tb301_ : tabs.getD 301 [] = tb_301 := rfl
theorem tb302_ : tabs.getD 302 [] = tb_302 := rfl
theorem tb303_ : tabs.getD 303 [] = tb_303 := rfl
theorem tb304_ : tabs.getD 304 [] = tb_304 := rfl
theorem tb305_ : tabs.getD 305 [] = tb_305 := rfl
theorem tb306_ : tabs.getD 306 [] = tb_306 := rfl
theorem tb307_ : tabs.getD 307 [] = tb_307 := rfl
theorem tb308_ : tabs.getD 308 [] = tb_308 := rfl
theorem tb309_ : tabs.getD 309 [] = tb_309 := rfl
theorem tb310_ : tabs.getD 310 [] = tb_310 := rfl
theorem tb311_ : tabs.getD 311 [] = tb_311 := rfl
theorem tb312_ : tabs.getD 312 [] = tb_312 := rfl
theorem tb313_ : tabs.getD 313 [] = tb_313 := rfl
theorem tb314_ : tabs.getD 314 [] = tb_314 := rfl
theorem tb315_ : tabs.getD 315 [] = tb_315 := rfl
theorem tb316_ : tabs.getD 316 [] = tb_316 := rfl
theorem tb317_ : tabs.getD 317 [] = tb_317 := rfl
theorem tb318_ : tabs.getD 318 [] = tb_318 := rfl
theorem tb319_ : tabs.getD 319 [] = tb_319 := rfl
theorem tb320_ : tabs.getD 320 [] = tb_320 := rfl
theorem tb321_ : tabs.getD 321 [] = tb_321 := rfl
theorem tb322_ : tabs.getD 322 [] = tb_322 := rfl
theorem tb323_ : tabs.getD 323 [] = tb_323 := rfl
theorem tb324_ : tabs.getD 324 [] = tb_324 := rfl
theorem tb325_ : tabs.getD 325 [] = tb_325 := rfl
theorem tb326_ : tabs.getD 326 [] = tb_326 := rfl
/-- X1_init -/
theorem e0_0 (d : Nat) (l0 : Int) (s : Stt) : Rn d 0 0 [some (2, l0)] [] s = if 0 < l0 then (Rn d 0 9 [some (2, l0)] [(2, (s.1.1 + 1)), (2, l0)] (newS s 100 16)) else none := by
  conv => lhs; rw [r12 tb0_ (pc := 0) (pc' := 1) (lo' := [some (2, l0)]) (z := l0) rfl rfl rfl rfl, r85 tb0_ (pc := 1) (pc' := 4) (lo' := [some (2, l0)]) rfl rfl rfl rfl, r12 tb0_ (pc := 4) (pc' := 5) (lo' := [some (2, l0)]) (z := l0) rfl rfl rfl rfl, r1 tb0_ (pc := 5) (pc' := 7) (lo' := [some (2, l0)]) rfl rfl rfl, r96 tb0_ (pc := 7) (pc' := 9) (lo' := [some (2, l0)]) rfl rfl rfl rfl]
theorem e0_9 (d : Nat) (l0 k0 k1 : Int) (s : Stt) : Rn d 0 9 [some (2, l0)] [(2, k1), (2, k0)] s = if oP s k0 0 then (Rn d 0 12 [some (2, l0)] [] (sU s k0 2 k1)) else none := by
  conv => lhs; rw [r56 tb0_ (pc := 9) (pc' := 12) (lo' := [some (2, l0)]) (t := 2) rfl rfl rfl rfl rfl]
theorem e0_12 (d : Nat) (l0 : Int) (s : Stt) : Rn d 0 12 [some (2, l0)] [] s = Rn d 0 17 [some (2, l0)] [(2, (s.1.1 + 1)), (2, l0)] (newS s 100 16) := by
  conv => lhs; rw [r12 tb0_ (pc := 12) (pc' := 13) (lo' := [some (2, l0)]) (z := l0) rfl rfl rfl rfl, r1 tb0_ (pc := 13) (pc' := 15) (lo' := [some (2, l0)]) rfl rfl rfl, r96 tb0_ (pc := 15) (pc' := 17) (lo' := [some (2, l0)]) rfl rfl rfl rfl]
theorem e0_17 (d : Nat) (l0 k0 k1 : Int) (s : Stt) : Rn d 0 17 [some (2, l0)] [(2, k1), (2, k0)] s = if oP s k0 0 then (Rn d 0 20 [some (2, l0)] [] (sU s k0 3 k1)) else none := by
  conv => lhs; rw [r56 tb0_ (pc := 17) (pc' := 20) (lo' := [some (2, l0)]) (t := 2) rfl rfl rfl rfl rfl]
theorem e0_20 (d : Nat) (l0 : Int) (s : Stt) : Rn d 0 20 [some (2, l0)] [] s = Rn d 0 25 [some (2, l0)] [(2, (s.1.1 + 1)), (2, l0)] (newS s 100 8) := by
  conv => lhs; rw [r12 tb0_ (pc := 20) (pc' := 21) (lo' := [some (2, l0)]) (z := l0) rfl rfl rfl rfl, r1 tb0_ (pc := 21) (pc' := 23) (lo' := [some (2, l0)]) rfl rfl rfl, r96 tb0_ (pc := 23) (pc' := 25) (lo' := [some (2, l0)]) rfl rfl rfl rfl]
theorem e0_25 (d : Nat) (l0 k0 k1 : Int) (s : Stt) : Rn d 0 25 [some (2, l0)] [(2, k1), (2, k0)] s = if oP s k0 0 then (Rn d 0 28 [some (2, l0)] [] (sU s k0 4 k1)) else none := by
  conv => lhs; rw [r56 tb0_ (pc := 25) (pc' := 28) (lo' := [some (2, l0)]) (t := 2) rfl rfl rfl rfl rfl]
theorem e0_28 (d : Nat) (l0 : Int) (s : Stt) : Rn d 0 28 [some (2, l0)] [] s = Rn d 0 33 [some (2, l0)] [(2, (s.1.1 + 1)), (2, l0)] (newS s 100 8) := by
  conv => lhs; rw [r12 tb0_ (pc := 28) (pc' := 29) (lo' := [some (2, l0)]) (z := l0) rfl rfl rfl rfl, r1 tb0_ (pc := 29) (pc' := 31) (lo' := [some (2, l0)]) rfl rfl rfl, r96 tb0_ (pc := 31) (pc' := 33) (lo' := [some (2, l0)]) rfl rfl rfl rfl]
theorem e0_33 (d : Nat) (l0 k0 k1 : Int) (s : Stt) : Rn d 0 33 [some (2, l0)] [(2, k1), (2, k0)] s = if oP s k0 0 then (Rn d 0 36 [some (2, l0)] [] (sU s k0 5 k1)) else none := by
  conv => lhs; rw [r56 tb0_ (pc := 33) (pc' := 36) (lo' := [some (2, l0)]) (t := 2) rfl rfl rfl rfl rfl]
theorem e0_36 (d : Nat) (l0 : Int) (s : Stt) : Rn d 0 36 [some (2, l0)] [] s = Rn d 0 41 [some (2, l0)] [(2, (s.1.1 + 1)), (2, l0)] (newS s 100 8) := by
  conv => lhs; rw [r12 tb0_ (pc := 36) (pc' := 37) (lo' := [some (2, l0)]) (z := l0) rfl rfl rfl rfl, r1 tb0_ (pc := 37) (pc' := 39) (lo' := [some (2, l0)]) rfl rfl rfl, r96 tb0_ (pc := 39) (pc' := 41) (lo' := [some (2, l0)]) rfl rfl rfl rfl]
theorem e0_41 (d : Nat) (l0 k0 k1 : Int) (s : Stt) : Rn d 0 41 [some (2, l0)] [(2, k1), (2, k0)] s = if oP s k0 0 then (Rn d 0 44 [some (2, l0)] [] (sU s k0 6 k1)) else none := by
  conv => lhs; rw [r56 tb0_ (pc := 41) (pc' := 44) (lo' := [some (2, l0)]) (t := 2) rfl rfl rfl rfl rfl]
theorem e0_44 (d : Nat) (l0 : Int) (s : Stt) : Rn d 0 44 [some (2, l0)] [] s = Rn d 0 49 [some (2, l0)] [(2, (s.1.1 + 1)), (2, l0)] (newS s 100 8) := by
  conv => lhs; rw [r12 tb0_ (pc := 44) (pc' := 45) (lo' := [some (2, l0)]) (z := l0) rfl rfl rfl rfl, r1 tb0_ (pc := 45) (pc' := 47) (lo' := [some (2, l0)]) rfl rfl rfl, r96 tb0_ (pc := 47) (pc' := 49) (lo' := [some (2, l0)]) rfl rfl rfl rfl]
theorem e0_49 (d : Nat) (l0 k0 k1 : Int) (s : Stt) : Rn d 0 49 [some (2, l0)] [(2, k1), (2, k0)] s = if oP s k0 0 then (Rn d 0 52 [some (2, l0)] [] (sU s k0 7 k1)) else none := by
  conv => lhs; rw [r56 tb0_ (pc := 49) (pc' := 52) (lo' := [some (2, l0)]) (t := 2) rfl rfl rfl rfl rfl]
theorem e0_52 (d : Nat) (l0 : Int) (s : Stt) : Rn d 0 52 [some (2, l0)] [] s = Rn d 0 57 [some (2, l0)] [(2, (s.1.1 + 1)), (2, l0)] (newS s 100 24) := by
  conv => lhs; rw [r12 tb0_ (pc := 52) (pc' := 53) (lo' := [some (2, l0)]) (z := l0) rfl rfl rfl rfl, r1 tb0_ (pc := 53) (pc' := 55) (lo' := [some (2, l0)]) rfl rfl rfl, r96 tb0_ (pc := 55) (pc' := 57) (lo' := [some (2, l0)]) rfl rfl rfl rfl]
theorem e0_57 (d : Nat) (l0 k0 k1 : Int) (s : Stt) : Rn d 0 57 [some (2, l0)] [(2, k1), (2, k0)] s = if oP s k0 0 then (Rn d 0 60 [some (2, l0)] [] (sU s k0 8 k1)) else none := by
  conv => lhs; rw [r56 tb0_ (pc := 57) (pc' := 60) (lo' := [some (2, l0)]) (t := 2) rfl rfl rfl rfl rfl]
theorem e0_60 (d : Nat) (l0 : Int) (s : Stt) : Rn d 0 60 [some (2, l0)] [] s = Rn d 0 65 [some (2, l0)] [(2, (s.1.1 + 1)), (2, l0)] (newS s 100 8) := by
  conv => lhs; rw [r12 tb0_ (pc := 60) (pc' := 61) (lo' := [some (2, l0)]) (z := l0) rfl rfl rfl rfl, r1 tb0_ (pc := 61) (pc' := 63) (lo' := [some (2, l0)]) rfl rfl rfl, r96 tb0_ (pc := 63) (pc' := 65) (lo' := [some (2, l0)]) rfl rfl rfl rfl]
theorem e0_65 (d : Nat) (l0 k0 k1 : Int) (s : Stt) : Rn d 0 65 [some (2, l0)] [(2, k1), (2, k0)] s = if oP s k0 0 then (Rn d 0 68 [some (2, l0)] [] (sU s k0 9 k1)) else none := by
  conv => lhs; rw [r56 tb0_ (pc := 65) (pc' := 68) (lo' := [some (2, l0)]) (t := 2) rfl rfl rfl rfl rfl]
theorem e0_68 (d : Nat) (l0 : Int) (s : Stt) : Rn d 0 68 [some (2, l0)] [] s = Rn d 0 73 [some (2, l0)] [(2, (s.1.1 + 1)), (2, l0)] (newS s 100 8) := by
  conv => lhs; rw [r12 tb0_ (pc := 68) (pc' := 69) (lo' := [some (2, l0)]) (z := l0) rfl rfl rfl rfl, r1 tb0_ (pc := 69) (pc' := 71) (lo' := [some (2, l0)]) rfl rfl rfl, r96 tb0_ (pc := 71) (pc' := 73) (lo' := [some (2, l0)]) rfl rfl rfl rfl]
theorem e0_73 (d : Nat) (l0 k0 k1 : Int) (s : Stt) : Rn d 0 73 [some (2, l0)] [(2, k1), (2, k0)] s = if oP s k0 0 then (Rn d 0 76 [some (2, l0)] [] (sU s k0 10 k1)) else none := by
  conv => lhs; rw [r56 tb0_ (pc := 73) (pc' := 76) (lo' := [some (2, l0)]) (t := 2) rfl rfl rfl rfl rfl]
theorem e0_76 (d : Nat) (l0 : Int) (s : Stt) : Rn d 0 76 [some (2, l0)] [] s = some ((9, 0), s) := by
  conv => lhs; rw [r93 tb0_ (pc := 76) rfl]
/-- X2_init -/
theorem e26_0 (d : Nat) (l0 : Int) (s : Stt) : Rn d 26 0 [some (2, l0), none] [] s = if 0 < l0 then (Rn d 26 10 [some (2, l0), none] [(2, (s.1.1 + 1)), (2, l0)] (newS s 104 20)) else none := by
  conv => lhs; rw [r12 tb26_ (pc := 0) (pc' := 1) (lo' := [some (2, l0), none]) (z := l0) rfl rfl rfl rfl, r85 tb26_ (pc := 1) (pc' := 4) (lo' := [some (2, l0), none]) rfl rfl rfl rfl, r12 tb26_ (pc := 4) (pc' := 5) (lo' := [some (2, l0), none]) (z := l0) rfl rfl rfl rfl, r1 tb26_ (pc := 5) (pc' := 7) (lo' := [some (2, l0), none]) rfl rfl rfl, r97 tb26_ (pc := 7) (pc' := 10) (lo' := [some (2, l0), none]) rfl rfl rfl rfl]
theorem e26_10 (d : Nat) (l0 k0 k1 : Int) (s : Stt) : Rn d 26 10 [some (2, l0), none] [(2, k1), (2, k0)] s = if oP s k0 1 then (Rn d 26 13 [some (2, l0), none] [] (sU s k0 1 k1)) else none := by
  conv => lhs; rw [r56 tb26_ (pc := 10) (pc' := 13) (lo' := [some (2, l0), none]) (t := 2) rfl rfl rfl rfl rfl]
theorem e26_13 (d : Nat) (l0 : Int) (s : Stt) : Rn d 26 13 [some (2, l0), none] [] s = Rn d 26 17 [some (2, l0), none] [(2, (s.1.1 + 1)), (2, l0)] (newS s 6 12) := by
  conv => lhs; rw [r12 tb26_ (pc := 13) (pc' := 14) (lo' := [some (2, l0), none]) (z := l0) rfl rfl rfl rfl, r95 tb26_ (pc := 14) (pc' := 17) (lo' := [some (2, l0), none]) (n := 12) rfl rfl rfl rfl]
theorem e26_17 (d : Nat) (l0 k0 k1 : Int) (s : Stt) : Rn d 26 17 [some (2, l0), none] [(2, k1), (2, k0)] s = if kd s k1 = 6 then (cK (den d 91 [(2, k1)] s) (fun v s1 => Rn d 26 21 [some (2, l0), none] (pushR v [(2, k1), (2, k0)]) s1)) else none := by
  conv => lhs; rw [r21_2 tb26_ (pc := 17) (pc' := 18) (lo' := [some (2, l0), none]) rfl rfl rfl, r84 tb26_ (pc := 18) (pc' := 21) (lo' := [some (2, l0), none]) (mm := 91) (as := [(2, k1)]) (rest := [(2, k1), (2, k0)]) (r := k1) (ci := 6) rfl rfl rfl rfl rfl rfl rfl rfl rfl]
theorem e26_21 (d : Nat) (l0 k0 k1 : Int) (s : Stt) : Rn d 26 21 [some (2, l0), none] [(2, k1), (2, k0)] s = if oP s k0 1 then (Rn d 26 24 [some (2, l0), none] [] (sU s k0 2 k1)) else none := by
  conv => lhs; rw [r56 tb26_ (pc := 21) (pc' := 24) (lo' := [some (2, l0), none]) (t := 2) rfl rfl rfl rfl rfl]
theorem e26_24 (d : Nat) (l0 : Int) (s : Stt) : Rn d 26 24 [some (2, l0), none] [] s = Rn d 26 26 [some (2, l0), some (0, 0)] [] s := by
  conv => lhs; rw [r0 tb26_ (pc := 24) (pc' := 25) (lo' := [some (2, l0), none]) rfl rfl rfl, r14 tb26_ (pc := 25) (pc' := 26) (lo' := [some (2, l0), none]) (z := 0) (lo2 := [some (2, l0), some (0, 0)]) rfl rfl rfl rfl rfl]
theorem e26_26 (d : Nat) (l0 l1 : Int) (s : Stt) : Rn d 26 26 [some (2, l0), some (0, l1)] [] s = if ¬ l1 < (20 : Int) then some ((9, 0), s) else (if oF s l0 1 then (Rn d 26 40 [some (2, l0), some (0, l1)] [(2, (s.1.1 + 1)), (0, l1), (2, (s.2.2 l0 1))] (newS s 6 12)) else none) := by
  conv => lhs; rw [r8 tb26_ (pc := 26) (pc' := 27) (lo' := [some (2, l0), some (0, l1)]) (z := l1) rfl rfl rfl rfl, r1 tb26_ (pc := 27) (pc' := 29) (lo' := [some (2, l0), some (0, l1)]) rfl rfl rfl, r69 tb26_ (pc := 29) (pc' := 32) (lo' := [some (2, l0), some (0, l1)]) (pt := 51) rfl rfl rfl rfl, r93 tb26_ (pc := 51) rfl, r12 tb26_ (pc := 32) (pc' := 33) (lo' := [some (2, l0), some (0, l1)]) (z := l0) rfl rfl rfl rfl, r54 tb26_ (pc := 33) (pc' := 36) (lo' := [some (2, l0), some (0, l1)]) (t := 2) rfl rfl rfl rfl, r8 tb26_ (pc := 36) (pc' := 37) (lo' := [some (2, l0), some (0, l1)]) (z := l1) rfl rfl rfl rfl, r95 tb26_ (pc := 37) (pc' := 40) (lo' := [some (2, l0), some (0, l1)]) (n := 12) rfl rfl rfl rfl]
theorem e26_40 (d : Nat) (l0 l1 k0 k1 k2 : Int) (s : Stt) : Rn d 26 40 [some (2, l0), some (0, l1)] [(2, k2), (0, k1), (2, k0)] s = if kd s k2 = 6 then (cK (den d 91 [(2, k2)] s) (fun v s1 => Rn d 26 44 [some (2, l0), some (0, l1)] (pushR v [(2, k2), (0, k1), (2, k0)]) s1)) else none := by
  conv => lhs; rw [r21_2 tb26_ (pc := 40) (pc' := 41) (lo' := [some (2, l0), some (0, l1)]) rfl rfl rfl, r84 tb26_ (pc := 41) (pc' := 44) (lo' := [some (2, l0), some (0, l1)]) (mm := 91) (as := [(2, k2)]) (rest := [(2, k2), (0, k1), (2, k0)]) (r := k2) (ci := 6) rfl rfl rfl rfl rfl rfl rfl rfl rfl]
theorem e26_44 (d : Nat) (l0 l1 k0 k1 k2 : Int) (s : Stt) : Rn d 26 44 [some (2, l0), some (0, l1)] [(2, k2), (0, k1), (2, k0)] s = if oSA s k0 k1 k2 then (Rn d 26 45 [some (2, l0), some (0, l1)] [] (sU s k0 k1 k2)) else none := by
  conv => lhs; rw [r53 tb26_ (pc := 44) (pc' := 45) (lo' := [some (2, l0), some (0, l1)]) rfl rfl rfl]
theorem e26_45 (d : Nat) (l0 l1 : Int) (s : Stt) : Rn d 26 45 [some (2, l0), some (0, l1)] [] s = Rn d 26 26 [some (2, l0), some (0, (w32 (l1 + 1)))] [] s := by
  conv => lhs; rw [r20 tb26_ (pc := 45) (pc' := 48) (lo' := [some (2, l0), some (0, l1)]) (z := l1) (lo2 := [some (2, l0), some (0, (w32 (l1 + 1)))]) rfl rfl rfl rfl rfl, r76 tb26_ (pc := 48) (pc' := 26) (lo' := [some (2, l0), some (0, (w32 (l1 + 1)))]) rfl rfl rfl]
/-- X4_init -/
theorem e35_0 (d : Nat) (l0 : Int) (s : Stt) : Rn d 35 0 [some (2, l0)] [] s = if 0 < l0 then (Rn d 35 10 [some (2, l0)] [(2, (s.1.1 + 1)), (2, l0)] (newS s 103 64)) else none := by
  conv => lhs; rw [r12 tb35_ (pc := 0) (pc' := 1) (lo' := [some (2, l0)]) (z := l0) rfl rfl rfl rfl, r85 tb35_ (pc := 1) (pc' := 4) (lo' := [some (2, l0)]) rfl rfl rfl rfl, r12 tb35_ (pc := 4) (pc' := 5) (lo' := [some (2, l0)]) (z := l0) rfl rfl rfl rfl, r1 tb35_ (pc := 5) (pc' := 7) (lo' := [some (2, l0)]) rfl rfl rfl, r97 tb35_ (pc := 7) (pc' := 10) (lo' := [some (2, l0)]) rfl rfl rfl rfl]
theorem e35_10 (d : Nat) (l0 k0 k1 : Int) (s : Stt) : Rn d 35 10 [some (2, l0)] [(2, k1), (2, k0)] s = if oP s k0 2 then (Rn d 35 13 [some (2, l0)] [] (sU s k0 1 k1)) else none := by
  conv => lhs; rw [r56 tb35_ (pc := 10) (pc' := 13) (lo' := [some (2, l0)]) (t := 2) rfl rfl rfl rfl rfl]
theorem e35_13 (d : Nat) (l0 : Int) (s : Stt) : Rn d 35 13 [some (2, l0)] [] s = Rn d 35 18 [some (2, l0)] [(2, (s.1.1 + 1)), (2, l0)] (newS s 100 64) := by
  conv => lhs; rw [r12 tb35_ (pc := 13) (pc' := 14) (lo' := [some (2, l0)]) (z := l0) rfl rfl rfl rfl, r1 tb35_ (pc := 14) (pc' := 16) (lo' := [some (2, l0)]) rfl rfl rfl, r96 tb35_ (pc := 16) (pc' := 18) (lo' := [some (2, l0)]) rfl rfl rfl rfl]
theorem e35_18 (d : Nat) (l0 k0 k1 : Int) (s : Stt) : Rn d 35 18 [some (2, l0)] [(2, k1), (2, k0)] s = if oP s k0 2 then (Rn d 35 21 [some (2, l0)] [] (sU s k0 2 k1)) else none := by
  conv => lhs; rw [r56 tb35_ (pc := 18) (pc' := 21) (lo' := [some (2, l0)]) (t := 2) rfl rfl rfl rfl rfl]
theorem e35_21 (d : Nat) (l0 : Int) (s : Stt) : Rn d 35 21 [some (2, l0)] [] s = Rn d 35 25 [some (2, l0)] [(2, (s.1.1 + 1)), (2, l0)] (newS s 100 3) := by
  conv => lhs; rw [r12 tb35_ (pc := 21) (pc' := 22) (lo' := [some (2, l0)]) (z := l0) rfl rfl rfl rfl, r0 tb35_ (pc := 22) (pc' := 23) (lo' := [some (2, l0)]) rfl rfl rfl, r96 tb35_ (pc := 23) (pc' := 25) (lo' := [some (2, l0)]) rfl rfl rfl rfl]
theorem e35_25 (d : Nat) (l0 k0 k1 : Int) (s : Stt) : Rn d 35 25 [some (2, l0)] [(2, k1), (2, k0)] s = if oP s k0 2 then (Rn d 35 28 [some (2, l0)] [] (sU s k0 3 k1)) else none := by
  conv => lhs; rw [r56 tb35_ (pc := 25) (pc' := 28) (lo' := [some (2, l0)]) (t := 2) rfl rfl rfl rfl rfl]
theorem e35_28 (d : Nat) (l0 : Int) (s : Stt) : Rn d 35 28 [some (2, l0)] [] s = Rn d 35 32 [some (2, l0)] [(2, (s.1.1 + 1)), (2, l0)] (newS s 100 3) := by
  conv => lhs; rw [r12 tb35_ (pc := 28) (pc' := 29) (lo' := [some (2, l0)]) (z := l0) rfl rfl rfl rfl, r0 tb35_ (pc := 29) (pc' := 30) (lo' := [some (2, l0)]) rfl rfl rfl, r96 tb35_ (pc := 30) (pc' := 32) (lo' := [some (2, l0)]) rfl rfl rfl rfl]
theorem e35_32 (d : Nat) (l0 k0 k1 : Int) (s : Stt) : Rn d 35 32 [some (2, l0)] [(2, k1), (2, k0)] s = if oP s k0 2 then (Rn d 35 35 [some (2, l0)] [] (sU s k0 4 k1)) else none := by
  conv => lhs; rw [r56 tb35_ (pc := 32) (pc' := 35) (lo' := [some (2, l0)]) (t := 2) rfl rfl rfl rfl rfl]
theorem e35_35 (d : Nat) (l0 : Int) (s : Stt) : Rn d 35 35 [some (2, l0)] [] s = Rn d 35 40 [some (2, l0)] [(2, (s.1.1 + 1)), (2, l0)] (newS s 101 64) := by
  conv => lhs; rw [r12 tb35_ (pc := 35) (pc' := 36) (lo' := [some (2, l0)]) (z := l0) rfl rfl rfl rfl, r1 tb35_ (pc := 36) (pc' := 38) (lo' := [some (2, l0)]) rfl rfl rfl, r96 tb35_ (pc := 38) (pc' := 40) (lo' := [some (2, l0)]) rfl rfl rfl rfl]
theorem e35_40 (d : Nat) (l0 k0 k1 : Int) (s : Stt) : Rn d 35 40 [some (2, l0)] [(2, k1), (2, k0)] s = if oP s k0 2 then (Rn d 35 43 [some (2, l0)] [] (sU s k0 5 k1)) else none := by
  conv => lhs; rw [r56 tb35_ (pc := 40) (pc' := 43) (lo' := [some (2, l0)]) (t := 2) rfl rfl rfl rfl rfl]
theorem e35_43 (d : Nat) (l0 : Int) (s : Stt) : Rn d 35 43 [some (2, l0)] [] s = some ((9, 0), s) := by
  conv => lhs; rw [r93 tb35_ (pc := 43) rfl]
/-- X5_init -/
theorem e50_0 (d : Nat) (l0 l1 : Int) (s : Stt) : Rn d 50 0 [some (2, l0), some (2, l1)] [] s = if 0 < l0 then (if oP s l0 3 then (Rn d 50 9 [some (2, l0), some (2, l1)] [] (sU s l0 4 (-1))) else none) else none := by
  conv => lhs; rw [r12 tb50_ (pc := 0) (pc' := 1) (lo' := [some (2, l0), some (2, l1)]) (z := l0) rfl rfl rfl rfl, r85 tb50_ (pc := 1) (pc' := 4) (lo' := [some (2, l0), some (2, l1)]) rfl rfl rfl rfl, r12 tb50_ (pc := 4) (pc' := 5) (lo' := [some (2, l0), some (2, l1)]) (z := l0) rfl rfl rfl rfl, r0 tb50_ (pc := 5) (pc' := 6) (lo' := [some (2, l0), some (2, l1)]) rfl rfl rfl, r55 tb50_ (pc := 6) (pc' := 9) (lo' := [some (2, l0), some (2, l1)]) (t := 0) rfl rfl rfl rfl rfl]
theorem e50_9 (d : Nat) (l0 l1 : Int) (s : Stt) : Rn d 50 9 [some (2, l0), some (2, l1)] [] s = Rn d 50 14 [some (2, l0), some (2, l1)] [(2, (s.1.1 + 1)), (2, l0)] (newS s 100 24) := by
  conv => lhs; rw [r12 tb50_ (pc := 9) (pc' := 10) (lo' := [some (2, l0), some (2, l1)]) (z := l0) rfl rfl rfl rfl, r1 tb50_ (pc := 10) (pc' := 12) (lo' := [some (2, l0), some (2, l1)]) rfl rfl rfl, r96 tb50_ (pc := 12) (pc' := 14) (lo' := [some (2, l0), some (2, l1)]) rfl rfl rfl rfl]
theorem e50_14 (d : Nat) (l0 l1 k0 k1 : Int) (s : Stt) : Rn d 50 14 [some (2, l0), some (2, l1)] [(2, k1), (2, k0)] s = if oP s k0 3 then (Rn d 50 17 [some (2, l0), some (2, l1)] [] (sU s k0 6 k1)) else none := by
  conv => lhs; rw [r56 tb50_ (pc := 14) (pc' := 17) (lo' := [some (2, l0), some (2, l1)]) (t := 2) rfl rfl rfl rfl rfl]
theorem e50_17 (d : Nat) (l0 l1 : Int) (s : Stt) : Rn d 50 17 [some (2, l0), some (2, l1)] [] s = Rn d 50 22 [some (2, l0), some (2, l1)] [(2, (s.1.1 + 1)), (2, l0)] (newS s 100 24) := by
  conv => lhs; rw [r12 tb50_ (pc := 17) (pc' := 18) (lo' := [some (2, l0), some (2, l1)]) (z := l0) rfl rfl rfl rfl, r1 tb50_ (pc := 18) (pc' := 20) (lo' := [some (2, l0), some (2, l1)]) rfl rfl rfl, r96 tb50_ (pc := 20) (pc' := 22) (lo' := [some (2, l0), some (2, l1)]) rfl rfl rfl rfl]
theorem e50_22 (d : Nat) (l0 l1 k0 k1 : Int) (s : Stt) : Rn d 50 22 [some (2, l0), some (2, l1)] [(2, k1), (2, k0)] s = if oP s k0 3 then (Rn d 50 25 [some (2, l0), some (2, l1)] [] (sU s k0 7 k1)) else none := by
  conv => lhs; rw [r56 tb50_ (pc := 22) (pc' := 25) (lo' := [some (2, l0), some (2, l1)]) (t := 2) rfl rfl rfl rfl rfl]
theorem e50_25 (d : Nat) (l0 l1 : Int) (s : Stt) : Rn d 50 25 [some (2, l0), some (2, l1)] [] s = Rn d 50 30 [some (2, l0), some (2, l1)] [(2, (s.1.1 + 1)), (2, l0)] (newS s 102 24) := by
  conv => lhs; rw [r12 tb50_ (pc := 25) (pc' := 26) (lo' := [some (2, l0), some (2, l1)]) (z := l0) rfl rfl rfl rfl, r1 tb50_ (pc := 26) (pc' := 28) (lo' := [some (2, l0), some (2, l1)]) rfl rfl rfl, r96 tb50_ (pc := 28) (pc' := 30) (lo' := [some (2, l0), some (2, l1)]) rfl rfl rfl rfl]
theorem e50_30 (d : Nat) (l0 l1 k0 k1 : Int) (s : Stt) : Rn d 50 30 [some (2, l0), some (2, l1)] [(2, k1), (2, k0)] s = if oP s k0 3 then (Rn d 50 33 [some (2, l0), some (2, l1)] [] (sU s k0 8 k1)) else none := by
  conv => lhs; rw [r56 tb50_ (pc := 30) (pc' := 33) (lo' := [some (2, l0), some (2, l1)]) (t := 2) rfl rfl rfl rfl rfl]
theorem e50_33 (d : Nat) (l0 l1 : Int) (s : Stt) : Rn d 50 33 [some (2, l0), some (2, l1)] [] s = Rn d 50 38 [some (2, l0), some (2, l1)] [(2, (s.1.1 + 1)), (2, l0)] (newS s 100 24) := by
  conv => lhs; rw [r12 tb50_ (pc := 33) (pc' := 34) (lo' := [some (2, l0), some (2, l1)]) (z := l0) rfl rfl rfl rfl, r1 tb50_ (pc := 34) (pc' := 36) (lo' := [some (2, l0), some (2, l1)]) rfl rfl rfl, r96 tb50_ (pc := 36) (pc' := 38) (lo' := [some (2, l0), some (2, l1)]) rfl rfl rfl rfl]
theorem e50_38 (d : Nat) (l0 l1 k0 k1 : Int) (s : Stt) : Rn d 50 38 [some (2, l0), some (2, l1)] [(2, k1), (2, k0)] s = if oP s k0 3 then (Rn d 50 41 [some (2, l0), some (2, l1)] [] (sU s k0 9 k1)) else none := by
  conv => lhs; rw [r56 tb50_ (pc := 38) (pc' := 41) (lo' := [some (2, l0), some (2, l1)]) (t := 2) rfl rfl rfl rfl rfl]
theorem e50_41 (d : Nat) (l0 l1 : Int) (s : Stt) : Rn d 50 41 [some (2, l0), some (2, l1)] [] s = Rn d 50 47 [some (2, l0), some (2, l1)] [(2, (s.1.1 + 1)), (2, l0)] (newS s 100 256) := by
  conv => lhs; rw [r12 tb50_ (pc := 41) (pc' := 42) (lo' := [some (2, l0), some (2, l1)]) (z := l0) rfl rfl rfl rfl, r2 tb50_ (pc := 42) (pc' := 45) (lo' := [some (2, l0), some (2, l1)]) rfl rfl rfl, r96 tb50_ (pc := 45) (pc' := 47) (lo' := [some (2, l0), some (2, l1)]) rfl rfl rfl rfl]
theorem e50_47 (d : Nat) (l0 l1 k0 k1 : Int) (s : Stt) : Rn d 50 47 [some (2, l0), some (2, l1)] [(2, k1), (2, k0)] s = if oP s k0 3 then (Rn d 50 50 [some (2, l0), some (2, l1)] [] (sU s k0 10 k1)) else none := by
  conv => lhs; rw [r56 tb50_ (pc := 47) (pc' := 50) (lo' := [some (2, l0), some (2, l1)]) (t := 2) rfl rfl rfl rfl rfl]
theorem e50_50 (d : Nat) (l0 l1 : Int) (s : Stt) : Rn d 50 50 [some (2, l0), some (2, l1)] [] s = if oP s l0 3 then (Rn d 50 55 [some (2, l0), some (2, l1)] [] (sU s l0 5 l1)) else none := by
  conv => lhs; rw [r12 tb50_ (pc := 50) (pc' := 51) (lo' := [some (2, l0), some (2, l1)]) (z := l0) rfl rfl rfl rfl, r12 tb50_ (pc := 51) (pc' := 52) (lo' := [some (2, l0), some (2, l1)]) (z := l1) rfl rfl rfl rfl, r56 tb50_ (pc := 52) (pc' := 55) (lo' := [some (2, l0), some (2, l1)]) (t := 2) rfl rfl rfl rfl rfl]
theorem e50_55 (d : Nat) (l0 l1 : Int) (s : Stt) : Rn d 50 55 [some (2, l0), some (2, l1)] [] s = some ((9, 0), s) := by
  conv => lhs; rw [r93 tb50_ (pc := 55) rfl]
/-- X6_init -/
theorem e61_0 (d : Nat) (l0 : Int) (s : Stt) : Rn d 61 0 [some (2, l0)] [] s = if 0 < l0 then (Rn d 61 9 [some (2, l0)] [(2, (s.1.1 + 1)), (2, l0)] (newS s 100 8)) else none := by
  conv => lhs; rw [r12 tb61_ (pc := 0) (pc' := 1) (lo' := [some (2, l0)]) (z := l0) rfl rfl rfl rfl, r85 tb61_ (pc := 1) (pc' := 4) (lo' := [some (2, l0)]) rfl rfl rfl rfl, r12 tb61_ (pc := 4) (pc' := 5) (lo' := [some (2, l0)]) (z := l0) rfl rfl rfl rfl, r1 tb61_ (pc := 5) (pc' := 7) (lo' := [some (2, l0)]) rfl rfl rfl, r96 tb61_ (pc := 7) (pc' := 9) (lo' := [some (2, l0)]) rfl rfl rfl rfl]
theorem e61_9 (d : Nat) (l0 k0 k1 : Int) (s : Stt) : Rn d 61 9 [some (2, l0)] [(2, k1), (2, k0)] s = if oP s k0 4 then (Rn d 61 12 [some (2, l0)] [] (sU s k0 0 k1)) else none := by
  conv => lhs; rw [r56 tb61_ (pc := 9) (pc' := 12) (lo' := [some (2, l0)]) (t := 2) rfl rfl rfl rfl rfl]
theorem e61_12 (d : Nat) (l0 : Int) (s : Stt) : Rn d 61 12 [some (2, l0)] [] s = Rn d 61 17 [some (2, l0)] [(2, (s.1.1 + 1)), (2, l0)] (newS s 100 8) := by
  conv => lhs; rw [r12 tb61_ (pc := 12) (pc' := 13) (lo' := [some (2, l0)]) (z := l0) rfl rfl rfl rfl, r1 tb61_ (pc := 13) (pc' := 15) (lo' := [some (2, l0)]) rfl rfl rfl, r96 tb61_ (pc := 15) (pc' := 17) (lo' := [some (2, l0)]) rfl rfl rfl rfl]
theorem e61_17 (d : Nat) (l0 k0 k1 : Int) (s : Stt) : Rn d 61 17 [some (2, l0)] [(2, k1), (2, k0)] s = if oP s k0 4 then (Rn d 61 20 [some (2, l0)] [] (sU s k0 1 k1)) else none := by
  conv => lhs; rw [r56 tb61_ (pc := 17) (pc' := 20) (lo' := [some (2, l0)]) (t := 2) rfl rfl rfl rfl rfl]
theorem e61_20 (d : Nat) (l0 : Int) (s : Stt) : Rn d 61 20 [some (2, l0)] [] s = Rn d 61 25 [some (2, l0)] [(2, (s.1.1 + 1)), (2, l0)] (newS s 100 8) := by
  conv => lhs; rw [r12 tb61_ (pc := 20) (pc' := 21) (lo' := [some (2, l0)]) (z := l0) rfl rfl rfl rfl, r1 tb61_ (pc := 21) (pc' := 23) (lo' := [some (2, l0)]) rfl rfl rfl, r96 tb61_ (pc := 23) (pc' := 25) (lo' := [some (2, l0)]) rfl rfl rfl rfl]
theorem e61_25 (d : Nat) (l0 k0 k1 : Int) (s : Stt) : Rn d 61 25 [some (2, l0)] [(2, k1), (2, k0)] s = if oP s k0 4 then (Rn d 61 28 [some (2, l0)] [] (sU s k0 2 k1)) else none := by
  conv => lhs; rw [r56 tb61_ (pc := 25) (pc' := 28) (lo' := [some (2, l0)]) (t := 2) rfl rfl rfl rfl rfl]
theorem e61_28 (d : Nat) (l0 : Int) (s : Stt) : Rn d 61 28 [some (2, l0)] [] s = Rn d 61 32 [some (2, l0)] [(2, (s.1.1 + 1)), (2, l0)] (newS s 0 11) := by
  conv => lhs; rw [r12 tb61_ (pc := 28) (pc' := 29) (lo' := [some (2, l0)]) (z := l0) rfl rfl rfl rfl, r95 tb61_ (pc := 29) (pc' := 32) (lo' := [some (2, l0)]) (n := 11) rfl rfl rfl rfl]
theorem e61_32 (d : Nat) (l0 k0 k1 : Int) (s : Stt) : Rn d 61 32 [some (2, l0)] [(2, k1), (2, k0)] s = if kd s k1 = 0 then (cK (den d 0 [(2, k1)] s) (fun v s1 => Rn d 61 36 [some (2, l0)] (pushR v [(2, k1), (2, k0)]) s1)) else none := by
  conv => lhs; rw [r21_2 tb61_ (pc := 32) (pc' := 33) (lo' := [some (2, l0)]) rfl rfl rfl, r84 tb61_ (pc := 33) (pc' := 36) (lo' := [some (2, l0)]) (mm := 0) (as := [(2, k1)]) (rest := [(2, k1), (2, k0)]) (r := k1) (ci := 0) rfl rfl rfl rfl rfl rfl rfl rfl rfl]
theorem e61_36 (d : Nat) (l0 k0 k1 : Int) (s : Stt) : Rn d 61 36 [some (2, l0)] [(2, k1), (2, k0)] s = if oP s k0 4 then (Rn d 61 39 [some (2, l0)] [] (sU s k0 3 k1)) else none := by
  conv => lhs; rw [r56 tb61_ (pc := 36) (pc' := 39) (lo' := [some (2, l0)]) (t := 2) rfl rfl rfl rfl rfl]
theorem e61_39 (d : Nat) (l0 : Int) (s : Stt) : Rn d 61 39 [some (2, l0)] [] s = Rn d 61 43 [some (2, l0)] [(2, (s.1.1 + 1)), (2, l0)] (newS s 2 8) := by
  conv => lhs; rw [r12 tb61_ (pc := 39) (pc' := 40) (lo' := [some (2, l0)]) (z := l0) rfl rfl rfl rfl, r95 tb61_ (pc := 40) (pc' := 43) (lo' := [some (2, l0)]) (n := 8) rfl rfl rfl rfl]
theorem e61_43 (d : Nat) (l0 k0 k1 : Int) (s : Stt) : Rn d 61 43 [some (2, l0)] [(2, k1), (2, k0)] s = if kd s k1 = 2 then (cK (den d 35 [(2, k1)] s) (fun v s1 => Rn d 61 47 [some (2, l0)] (pushR v [(2, k1), (2, k0)]) s1)) else none := by
  conv => lhs; rw [r21_2 tb61_ (pc := 43) (pc' := 44) (lo' := [some (2, l0)]) rfl rfl rfl, r84 tb61_ (pc := 44) (pc' := 47) (lo' := [some (2, l0)]) (mm := 35) (as := [(2, k1)]) (rest := [(2, k1), (2, k0)]) (r := k1) (ci := 2) rfl rfl rfl rfl rfl rfl rfl rfl rfl]
theorem e61_47 (d : Nat) (l0 k0 k1 : Int) (s : Stt) : Rn d 61 47 [some (2, l0)] [(2, k1), (2, k0)] s = if oP s k0 4 then (Rn d 61 50 [some (2, l0)] [] (sU s k0 4 k1)) else none := by
  conv => lhs; rw [r56 tb61_ (pc := 47) (pc' := 50) (lo' := [some (2, l0)]) (t := 2) rfl rfl rfl rfl rfl]
theorem e61_50 (d : Nat) (l0 : Int) (s : Stt) : Rn d 61 50 [some (2, l0)] [] s = if oP s l0 4 then (Rn d 61 56 [some (2, l0)] [] (sU s l0 6 10)) else none := by
  conv => lhs; rw [r12 tb61_ (pc := 50) (pc' := 51) (lo' := [some (2, l0)]) (z := l0) rfl rfl rfl rfl, r1 tb61_ (pc := 51) (pc' := 53) (lo' := [some (2, l0)]) rfl rfl rfl, r55 tb61_ (pc := 53) (pc' := 56) (lo' := [some (2, l0)]) (t := 0) rfl rfl rfl rfl rfl]
theorem e61_56 (d : Nat) (l0 : Int) (s : Stt) : Rn d 61 56 [some (2, l0)] [] s = some ((9, 0), s) := by
  conv => lhs; rw [r93 tb61_ (pc := 56) rfl]
/-- X7_init -/
theorem e68_0 (d : Nat) (l0 : Int) (s : Stt) : Rn d 68 0 [some (2, l0)] [] s = if 0 < l0 then (Rn d 68 8 [some (2, l0)] [(2, (s.1.1 + 1)), (2, l0)] (newS s 8 8)) else none := by
  conv => lhs; rw [r12 tb68_ (pc := 0) (pc' := 1) (lo' := [some (2, l0)]) (z := l0) rfl rfl rfl rfl, r85 tb68_ (pc := 1) (pc' := 4) (lo' := [some (2, l0)]) rfl rfl rfl rfl, r12 tb68_ (pc := 4) (pc' := 5) (lo' := [some (2, l0)]) (z := l0) rfl rfl rfl rfl, r95 tb68_ (pc := 5) (pc' := 8) (lo' := [some (2, l0)]) (n := 8) rfl rfl rfl rfl]
theorem e68_8 (d : Nat) (l0 k0 k1 : Int) (s : Stt) : Rn d 68 8 [some (2, l0)] [(2, k1), (2, k0)] s = if kd s k1 = 8 then (cK (den d 112 [(2, k1)] s) (fun v s1 => Rn d 68 12 [some (2, l0)] (pushR v [(2, k1), (2, k0)]) s1)) else none := by
  conv => lhs; rw [r21_2 tb68_ (pc := 8) (pc' := 9) (lo' := [some (2, l0)]) rfl rfl rfl, r84 tb68_ (pc := 9) (pc' := 12) (lo' := [some (2, l0)]) (mm := 112) (as := [(2, k1)]) (rest := [(2, k1), (2, k0)]) (r := k1) (ci := 8) rfl rfl rfl rfl rfl rfl rfl rfl rfl]
theorem e68_12 (d : Nat) (l0 k0 k1 : Int) (s : Stt) : Rn d 68 12 [some (2, l0)] [(2, k1), (2, k0)] s = if oP s k0 5 then (Rn d 68 15 [some (2, l0)] [] (sU s k0 0 k1)) else none := by
  conv => lhs; rw [r56 tb68_ (pc := 12) (pc' := 15) (lo' := [some (2, l0)]) (t := 2) rfl rfl rfl rfl rfl]
theorem e68_15 (d : Nat) (l0 : Int) (s : Stt) : Rn d 68 15 [some (2, l0)] [] s = Rn d 68 19 [some (2, l0)] [(2, (s.1.1 + 1)), (2, l0)] (newS s 4 13) := by
  conv => lhs; rw [r12 tb68_ (pc := 15) (pc' := 16) (lo' := [some (2, l0)]) (z := l0) rfl rfl rfl rfl, r95 tb68_ (pc := 16) (pc' := 19) (lo' := [some (2, l0)]) (n := 13) rfl rfl rfl rfl]
theorem e68_19 (d : Nat) (l0 k0 k1 : Int) (s : Stt) : Rn d 68 19 [some (2, l0)] [(2, k1), (2, k0)] s = if kd s k1 = 4 then (cK (den d 61 [(2, k1)] s) (fun v s1 => Rn d 68 23 [some (2, l0)] (pushR v [(2, k1), (2, k0)]) s1)) else none := by
  conv => lhs; rw [r21_2 tb68_ (pc := 19) (pc' := 20) (lo' := [some (2, l0)]) rfl rfl rfl, r84 tb68_ (pc := 20) (pc' := 23) (lo' := [some (2, l0)]) (mm := 61) (as := [(2, k1)]) (rest := [(2, k1), (2, k0)]) (r := k1) (ci := 4) rfl rfl rfl rfl rfl rfl rfl rfl rfl]
theorem e68_23 (d : Nat) (l0 k0 k1 : Int) (s : Stt) : Rn d 68 23 [some (2, l0)] [(2, k1), (2, k0)] s = if oP s k0 5 then (Rn d 68 26 [some (2, l0)] [] (sU s k0 1 k1)) else none := by
  conv => lhs; rw [r56 tb68_ (pc := 23) (pc' := 26) (lo' := [some (2, l0)]) (t := 2) rfl rfl rfl rfl rfl]
theorem e68_26 (d : Nat) (l0 : Int) (s : Stt) : Rn d 68 26 [some (2, l0)] [] s = if oP s l0 5 then (Rn d 68 31 [some (2, l0)] [] (sU s l0 3 (-1))) else none := by
  conv => lhs; rw [r12 tb68_ (pc := 26) (pc' := 27) (lo' := [some (2, l0)]) (z := l0) rfl rfl rfl rfl, r0 tb68_ (pc := 27) (pc' := 28) (lo' := [some (2, l0)]) rfl rfl rfl, r55 tb68_ (pc := 28) (pc' := 31) (lo' := [some (2, l0)]) (t := 0) rfl rfl rfl rfl rfl]
theorem e68_31 (d : Nat) (l0 : Int) (s : Stt) : Rn d 68 31 [some (2, l0)] [] s = Rn d 68 37 [some (2, l0)] [(2, (s.1.1 + 1)), (2, l0)] (newS s 103 72) := by
  conv => lhs; rw [r12 tb68_ (pc := 31) (pc' := 32) (lo' := [some (2, l0)]) (z := l0) rfl rfl rfl rfl, r1 tb68_ (pc := 32) (pc' := 34) (lo' := [some (2, l0)]) rfl rfl rfl, r97 tb68_ (pc := 34) (pc' := 37) (lo' := [some (2, l0)]) rfl rfl rfl rfl]
theorem e68_37 (d : Nat) (l0 k0 k1 : Int) (s : Stt) : Rn d 68 37 [some (2, l0)] [(2, k1), (2, k0)] s = if oP s k0 5 then (Rn d 68 40 [some (2, l0)] [] (sU s k0 4 k1)) else none := by
  conv => lhs; rw [r56 tb68_ (pc := 37) (pc' := 40) (lo' := [some (2, l0)]) (t := 2) rfl rfl rfl rfl rfl]
theorem e68_40 (d : Nat) (l0 : Int) (s : Stt) : Rn d 68 40 [some (2, l0)] [] s = some ((9, 0), s) := by
  conv => lhs; rw [r93 tb68_ (pc := 40) rfl]
/-- X8_init -/
theorem e91_0 (d : Nat) (l0 : Int) (s : Stt) : Rn d 91 0 [some (2, l0)] [] s = if 0 < l0 then (Rn d 91 9 [some (2, l0)] [(2, (s.1.1 + 1)), (2, l0)] (newS s 100 8)) else none := by
  conv => lhs; rw [r12 tb91_ (pc := 0) (pc' := 1) (lo' := [some (2, l0)]) (z := l0) rfl rfl rfl rfl, r85 tb91_ (pc := 1) (pc' := 4) (lo' := [some (2, l0)]) rfl rfl rfl rfl, r12 tb91_ (pc := 4) (pc' := 5) (lo' := [some (2, l0)]) (z := l0) rfl rfl rfl rfl, r1 tb91_ (pc := 5) (pc' := 7) (lo' := [some (2, l0)]) rfl rfl rfl, r96 tb91_ (pc := 7) (pc' := 9) (lo' := [some (2, l0)]) rfl rfl rfl rfl]
theorem e91_9 (d : Nat) (l0 k0 k1 : Int) (s : Stt) : Rn d 91 9 [some (2, l0)] [(2, k1), (2, k0)] s = if oP s k0 6 then (Rn d 91 12 [some (2, l0)] [] (sU s k0 0 k1)) else none := by
  conv => lhs; rw [r56 tb91_ (pc := 9) (pc' := 12) (lo' := [some (2, l0)]) (t := 2) rfl rfl rfl rfl rfl]
theorem e91_12 (d : Nat) (l0 : Int) (s : Stt) : Rn d 91 12 [some (2, l0)] [] s = Rn d 91 17 [some (2, l0)] [(2, (s.1.1 + 1)), (2, l0)] (newS s 100 8) := by
  conv => lhs; rw [r12 tb91_ (pc := 12) (pc' := 13) (lo' := [some (2, l0)]) (z := l0) rfl rfl rfl rfl, r1 tb91_ (pc := 13) (pc' := 15) (lo' := [some (2, l0)]) rfl rfl rfl, r96 tb91_ (pc := 15) (pc' := 17) (lo' := [some (2, l0)]) rfl rfl rfl rfl]
theorem e91_17 (d : Nat) (l0 k0 k1 : Int) (s : Stt) : Rn d 91 17 [some (2, l0)] [(2, k1), (2, k0)] s = if oP s k0 6 then (Rn d 91 20 [some (2, l0)] [] (sU s k0 1 k1)) else none := by
  conv => lhs; rw [r56 tb91_ (pc := 17) (pc' := 20) (lo' := [some (2, l0)]) (t := 2) rfl rfl rfl rfl rfl]
theorem e91_20 (d : Nat) (l0 : Int) (s : Stt) : Rn d 91 20 [some (2, l0)] [] s = some ((9, 0), s) := by
  conv => lhs; rw [r93 tb91_ (pc := 20) rfl]
/-- X8_copyFrom -/
theorem e94_0 (d : Nat) (l0 l1 : Int) (s : Stt) : Rn d 94 0 [some (2, l0), some (2, l1)] [] s = if oF s l1 6 then (if oF s l0 6 then (if oC s 8 0 (s.2.2 l0 0) 0 (s.2.2 l1 0) then (Rn d 94 15 [some (2, l0), some (2, l1)] [] (sC s (s.2.2 l1 0) 0 (s.2.2 l0 0) 0 8)) else none) else none) else none := by
  conv => lhs; rw [r12 tb94_ (pc := 0) (pc' := 1) (lo' := [some (2, l0), some (2, l1)]) (z := l1) rfl rfl rfl rfl, r54 tb94_ (pc := 1) (pc' := 4) (lo' := [some (2, l0), some (2, l1)]) (t := 2) rfl rfl rfl rfl, r0 tb94_ (pc := 4) (pc' := 5) (lo' := [some (2, l0), some (2, l1)]) rfl rfl rfl, r12 tb94_ (pc := 5) (pc' := 6) (lo' := [some (2, l0), some (2, l1)]) (z := l0) rfl rfl rfl rfl, r54 tb94_ (pc := 6) (pc' := 9) (lo' := [some (2, l0), some (2, l1)]) (t := 2) rfl rfl rfl rfl, r0 tb94_ (pc := 9) (pc' := 10) (lo' := [some (2, l0), some (2, l1)]) rfl rfl rfl, r1 tb94_ (pc := 10) (pc' := 12) (lo' := [some (2, l0), some (2, l1)]) rfl rfl rfl, r86c tb94_ (pc := 12) (pc' := 15) (lo' := [some (2, l0), some (2, l1)]) rfl rfl rfl rfl]
theorem e94_15 (d : Nat) (l0 l1 : Int) (s : Stt) : Rn d 94 15 [some (2, l0), some (2, l1)] [] s = if oF s l1 6 then (if oF s l0 6 then (if oC s 8 0 (s.2.2 l0 1) 0 (s.2.2 l1 1) then (Rn d 94 30 [some (2, l0), some (2, l1)] [] (sC s (s.2.2 l1 1) 0 (s.2.2 l0 1) 0 8)) else none) else none) else none := by
  conv => lhs; rw [r12 tb94_ (pc := 15) (pc' := 16) (lo' := [some (2, l0), some (2, l1)]) (z := l1) rfl rfl rfl rfl, r54 tb94_ (pc := 16) (pc' := 19) (lo' := [some (2, l0), some (2, l1)]) (t := 2) rfl rfl rfl rfl, r0 tb94_ (pc := 19) (pc' := 20) (lo' := [some (2, l0), some (2, l1)]) rfl rfl rfl, r12 tb94_ (pc := 20) (pc' := 21) (lo' := [some (2, l0), some (2, l1)]) (z := l0) rfl rfl rfl rfl, r54 tb94_ (pc := 21) (pc' := 24) (lo' := [some (2, l0), some (2, l1)]) (t := 2) rfl rfl rfl rfl, r0 tb94_ (pc := 24) (pc' := 25) (lo' := [some (2, l0), some (2, l1)]) rfl rfl rfl, r1 tb94_ (pc := 25) (pc' := 27) (lo' := [some (2, l0), some (2, l1)]) rfl rfl rfl, r86c tb94_ (pc := 27) (pc' := 30) (lo' := [some (2, l0), some (2, l1)]) rfl rfl rfl rfl]
theorem e94_30 (d : Nat) (l0 l1 : Int) (s : Stt) : Rn d 94 30 [some (2, l0), some (2, l1)] [] s = if oF s l1 6 then (if oP s l0 6 then (Rn d 94 38 [some (2, l0), some (2, l1)] [] (sU s l0 2 (s.2.2 l1 2))) else none) else none := by
  conv => lhs; rw [r12 tb94_ (pc := 30) (pc' := 31) (lo' := [some (2, l0), some (2, l1)]) (z := l0) rfl rfl rfl rfl, r12 tb94_ (pc := 31) (pc' := 32) (lo' := [some (2, l0), some (2, l1)]) (z := l1) rfl rfl rfl rfl, r54 tb94_ (pc := 32) (pc' := 35) (lo' := [some (2, l0), some (2, l1)]) (t := 0) rfl rfl rfl rfl, r55 tb94_ (pc := 35) (pc' := 38) (lo' := [some (2, l0), some (2, l1)]) (t := 0) rfl rfl rfl rfl rfl]
theorem e94_38 (d : Nat) (l0 l1 : Int) (s : Stt) : Rn d 94 38 [some (2, l0), some (2, l1)] [] s = if oF s l1 6 then (if oP s l0 6 then (Rn d 94 46 [some (2, l0), some (2, l1)] [] (sU s l0 3 (s.2.2 l1 3))) else none) else none := by
  conv => lhs; rw [r12 tb94_ (pc := 38) (pc' := 39) (lo' := [some (2, l0), some (2, l1)]) (z := l0) rfl rfl rfl rfl, r12 tb94_ (pc := 39) (pc' := 40) (lo' := [some (2, l0), some (2, l1)]) (z := l1) rfl rfl rfl rfl, r54 tb94_ (pc := 40) (pc' := 43) (lo' := [some (2, l0), some (2, l1)]) (t := 0) rfl rfl rfl rfl, r55 tb94_ (pc := 43) (pc' := 46) (lo' := [some (2, l0), some (2, l1)]) (t := 0) rfl rfl rfl rfl rfl]
theorem e94_46 (d : Nat) (l0 l1 : Int) (s : Stt) : Rn d 94 46 [some (2, l0), some (2, l1)] [] s = if oF s l1 6 then (if oP s l0 6 then (Rn d 94 54 [some (2, l0), some (2, l1)] [] (sU s l0 4 (s.2.2 l1 4))) else none) else none := by
  conv => lhs; rw [r12 tb94_ (pc := 46) (pc' := 47) (lo' := [some (2, l0), some (2, l1)]) (z := l0) rfl rfl rfl rfl, r12 tb94_ (pc := 47) (pc' := 48) (lo' := [some (2, l0), some (2, l1)]) (z := l1) rfl rfl rfl rfl, r54 tb94_ (pc := 48) (pc' := 51) (lo' := [some (2, l0), some (2, l1)]) (t := 0) rfl rfl rfl rfl, r55 tb94_ (pc := 51) (pc' := 54) (lo' := [some (2, l0), some (2, l1)]) (t := 0) rfl rfl rfl rfl rfl]
theorem e94_54 (d : Nat) (l0 l1 : Int) (s : Stt) : Rn d 94 54 [some (2, l0), some (2, l1)] [] s = if oF s l1 6 then (if oP s l0 6 then (Rn d 94 62 [some (2, l0), some (2, l1)] [] (sU s l0 5 (s.2.2 l1 5))) else none) else none := by
  conv => lhs; rw [r12 tb94_ (pc := 54) (pc' := 55) (lo' := [some (2, l0), some (2, l1)]) (z := l0) rfl rfl rfl rfl, r12 tb94_ (pc := 55) (pc' := 56) (lo' := [some (2, l0), some (2, l1)]) (z := l1) rfl rfl rfl rfl, r54 tb94_ (pc := 56) (pc' := 59) (lo' := [some (2, l0), some (2, l1)]) (t := 0) rfl rfl rfl rfl, r55 tb94_ (pc := 59) (pc' := 62) (lo' := [some (2, l0), some (2, l1)]) (t := 0) rfl rfl rfl rfl rfl]
theorem e94_62 (d : Nat) (l0 l1 : Int) (s : Stt) : Rn d 94 62 [some (2, l0), some (2, l1)] [] s = if oF s l1 6 then (if oP s l0 6 then (Rn d 94 70 [some (2, l0), some (2, l1)] [] (sU s l0 6 (s.2.2 l1 6))) else none) else none := by
  conv => lhs; rw [r12 tb94_ (pc := 62) (pc' := 63) (lo' := [some (2, l0), some (2, l1)]) (z := l0) rfl rfl rfl rfl, r12 tb94_ (pc := 63) (pc' := 64) (lo' := [some (2, l0), some (2, l1)]) (z := l1) rfl rfl rfl rfl, r54 tb94_ (pc := 64) (pc' := 67) (lo' := [some (2, l0), some (2, l1)]) (t := 0) rfl rfl rfl rfl, r55 tb94_ (pc := 67) (pc' := 70) (lo' := [some (2, l0), some (2, l1)]) (t := 0) rfl rfl rfl rfl rfl]
theorem e94_70 (d : Nat) (l0 l1 : Int) (s : Stt) : Rn d 94 70 [some (2, l0), some (2, l1)] [] s = if oF s l1 6 then (if oP s l0 6 then (Rn d 94 78 [some (2, l0), some (2, l1)] [] (sU s l0 7 (s.2.2 l1 7))) else none) else none := by
  conv => lhs; rw [r12 tb94_ (pc := 70) (pc' := 71) (lo' := [some (2, l0), some (2, l1)]) (z := l0) rfl rfl rfl rfl, r12 tb94_ (pc := 71) (pc' := 72) (lo' := [some (2, l0), some (2, l1)]) (z := l1) rfl rfl rfl rfl, r54 tb94_ (pc := 72) (pc' := 75) (lo' := [some (2, l0), some (2, l1)]) (t := 0) rfl rfl rfl rfl, r55 tb94_ (pc := 75) (pc' := 78) (lo' := [some (2, l0), some (2, l1)]) (t := 0) rfl rfl rfl rfl rfl]
theorem e94_78 (d : Nat) (l0 l1 : Int) (s : Stt) : Rn d 94 78 [some (2, l0), some (2, l1)] [] s = if oF s l1 6 then (if oP s l0 6 then (Rn d 94 86 [some (2, l0), some (2, l1)] [] (sU s l0 8 (s.2.2 l1 8))) else none) else none := by
  conv => lhs; rw [r12 tb94_ (pc := 78) (pc' := 79) (lo' := [some (2, l0), some (2, l1)]) (z := l0) rfl rfl rfl rfl, r12 tb94_ (pc := 79) (pc' := 80) (lo' := [some (2, l0), some (2, l1)]) (z := l1) rfl rfl rfl rfl, r54 tb94_ (pc := 80) (pc' := 83) (lo' := [some (2, l0), some (2, l1)]) (t := 0) rfl rfl rfl rfl, r55 tb94_ (pc := 83) (pc' := 86) (lo' := [some (2, l0), some (2, l1)]) (t := 0) rfl rfl rfl rfl rfl]
theorem e94_86 (d : Nat) (l0 l1 : Int) (s : Stt) : Rn d 94 86 [some (2, l0), some (2, l1)] [] s = if oF s l1 6 then (if oP s l0 6 then (Rn d 94 94 [some (2, l0), some (2, l1)] [] (sU s l0 9 (s.2.2 l1 9))) else none) else none := by
  conv => lhs; rw [r12 tb94_ (pc := 86) (pc' := 87) (lo' := [some (2, l0), some (2, l1)]) (z := l0) rfl rfl rfl rfl, r12 tb94_ (pc := 87) (pc' := 88) (lo' := [some (2, l0), some (2, l1)]) (z := l1) rfl rfl rfl rfl, r54 tb94_ (pc := 88) (pc' := 91) (lo' := [some (2, l0), some (2, l1)]) (t := 0) rfl rfl rfl rfl, r55 tb94_ (pc := 91) (pc' := 94) (lo' := [some (2, l0), some (2, l1)]) (t := 0) rfl rfl rfl rfl rfl]
theorem e94_94 (d : Nat) (l0 l1 : Int) (s : Stt) : Rn d 94 94 [some (2, l0), some (2, l1)] [] s = if oF s l1 6 then (if oP s l0 6 then (Rn d 94 102 [some (2, l0), some (2, l1)] [] (sU s l0 10 (s.2.2 l1 10))) else none) else none := by
  conv => lhs; rw [r12 tb94_ (pc := 94) (pc' := 95) (lo' := [some (2, l0), some (2, l1)]) (z := l0) rfl rfl rfl rfl, r12 tb94_ (pc := 95) (pc' := 96) (lo' := [some (2, l0), some (2, l1)]) (z := l1) rfl rfl rfl rfl, r54 tb94_ (pc := 96) (pc' := 99) (lo' := [some (2, l0), some (2, l1)]) (t := 0) rfl rfl rfl rfl, r55 tb94_ (pc := 99) (pc' := 102) (lo' := [some (2, l0), some (2, l1)]) (t := 0) rfl rfl rfl rfl rfl]
theorem e94_102 (d : Nat) (l0 l1 : Int) (s : Stt) : Rn d 94 102 [some (2, l0), some (2, l1)] [] s = if oF s l1 6 then (if oP s l0 6 then (Rn d 94 110 [some (2, l0), some (2, l1)] [] (sU s l0 11 (s.2.2 l1 11))) else none) else none := by
  conv => lhs; rw [r12 tb94_ (pc := 102) (pc' := 103) (lo' := [some (2, l0), some (2, l1)]) (z := l0) rfl rfl rfl rfl, r12 tb94_ (pc := 103) (pc' := 104) (lo' := [some (2, l0), some (2, l1)]) (z := l1) rfl rfl rfl rfl, r54 tb94_ (pc := 104) (pc' := 107) (lo' := [some (2, l0), some (2, l1)]) (t := 1) rfl rfl rfl rfl, r55 tb94_ (pc := 107) (pc' := 110) (lo' := [some (2, l0), some (2, l1)]) (t := 1) rfl rfl rfl rfl rfl]
theorem e94_110 (d : Nat) (l0 l1 : Int) (s : Stt) : Rn d 94 110 [some (2, l0), some (2, l1)] [] s = some ((9, 0), s) := by
  conv => lhs; rw [r93 tb94_ (pc := 110) rfl]
/-- X9_init -/
theorem e95_0 (d : Nat) (l0 l1 : Int) (s : Stt) : Rn d 95 0 [some (2, l0), some (2, l1)] [] s = if 0 < l0 then (Rn d 95 9 [some (2, l0), some (2, l1)] [(2, (s.1.1 + 1)), (2, l0)] (newS s 100 8)) else none := by
  conv => lhs; rw [r12 tb95_ (pc := 0) (pc' := 1) (lo' := [some (2, l0), some (2, l1)]) (z := l0) rfl rfl rfl rfl, r85 tb95_ (pc := 1) (pc' := 4) (lo' := [some (2, l0), some (2, l1)]) rfl rfl rfl rfl, r12 tb95_ (pc := 4) (pc' := 5) (lo' := [some (2, l0), some (2, l1)]) (z := l0) rfl rfl rfl rfl, r1 tb95_ (pc := 5) (pc' := 7) (lo' := [some (2, l0), some (2, l1)]) rfl rfl rfl, r96 tb95_ (pc := 7) (pc' := 9) (lo' := [some (2, l0), some (2, l1)]) rfl rfl rfl rfl]
theorem e95_9 (d : Nat) (l0 l1 k0 k1 : Int) (s : Stt) : Rn d 95 9 [some (2, l0), some (2, l1)] [(2, k1), (2, k0)] s = if oP s k0 7 then (Rn d 95 12 [some (2, l0), some (2, l1)] [] (sU s k0 1 k1)) else none := by
  conv => lhs; rw [r56 tb95_ (pc := 9) (pc' := 12) (lo' := [some (2, l0), some (2, l1)]) (t := 2) rfl rfl rfl rfl rfl]
theorem e95_12 (d : Nat) (l0 l1 : Int) (s : Stt) : Rn d 95 12 [some (2, l0), some (2, l1)] [] s = Rn d 95 17 [some (2, l0), some (2, l1)] [(2, (s.1.1 + 1)), (2, l0)] (newS s 100 8) := by
  conv => lhs; rw [r12 tb95_ (pc := 12) (pc' := 13) (lo' := [some (2, l0), some (2, l1)]) (z := l0) rfl rfl rfl rfl, r1 tb95_ (pc := 13) (pc' := 15) (lo' := [some (2, l0), some (2, l1)]) rfl rfl rfl, r96 tb95_ (pc := 15) (pc' := 17) (lo' := [some (2, l0), some (2, l1)]) rfl rfl rfl rfl]
theorem e95_17 (d : Nat) (l0 l1 k0 k1 : Int) (s : Stt) : Rn d 95 17 [some (2, l0), some (2, l1)] [(2, k1), (2, k0)] s = if oP s k0 7 then (Rn d 95 20 [some (2, l0), some (2, l1)] [] (sU s k0 2 k1)) else none := by
  conv => lhs; rw [r56 tb95_ (pc := 17) (pc' := 20) (lo' := [some (2, l0), some (2, l1)]) (t := 2) rfl rfl rfl rfl rfl]
theorem e95_20 (d : Nat) (l0 l1 : Int) (s : Stt) : Rn d 95 20 [some (2, l0), some (2, l1)] [] s = Rn d 95 25 [some (2, l0), some (2, l1)] [(2, (s.1.1 + 1)), (2, l0)] (newS s 100 8) := by
  conv => lhs; rw [r12 tb95_ (pc := 20) (pc' := 21) (lo' := [some (2, l0), some (2, l1)]) (z := l0) rfl rfl rfl rfl, r1 tb95_ (pc := 21) (pc' := 23) (lo' := [some (2, l0), some (2, l1)]) rfl rfl rfl, r96 tb95_ (pc := 23) (pc' := 25) (lo' := [some (2, l0), some (2, l1)]) rfl rfl rfl rfl]
theorem e95_25 (d : Nat) (l0 l1 k0 k1 : Int) (s : Stt) : Rn d 95 25 [some (2, l0), some (2, l1)] [(2, k1), (2, k0)] s = if oP s k0 7 then (Rn d 95 28 [some (2, l0), some (2, l1)] [] (sU s k0 3 k1)) else none := by
  conv => lhs; rw [r56 tb95_ (pc := 25) (pc' := 28) (lo' := [some (2, l0), some (2, l1)]) (t := 2) rfl rfl rfl rfl rfl]
theorem e95_28 (d : Nat) (l0 l1 : Int) (s : Stt) : Rn d 95 28 [some (2, l0), some (2, l1)] [] s = if oP s l0 7 then (Rn d 95 33 [some (2, l0), some (2, l1)] [] (sU s l0 0 l1)) else none := by
  conv => lhs; rw [r12 tb95_ (pc := 28) (pc' := 29) (lo' := [some (2, l0), some (2, l1)]) (z := l0) rfl rfl rfl rfl, r12 tb95_ (pc := 29) (pc' := 30) (lo' := [some (2, l0), some (2, l1)]) (z := l1) rfl rfl rfl rfl, r56 tb95_ (pc := 30) (pc' := 33) (lo' := [some (2, l0), some (2, l1)]) (t := 2) rfl rfl rfl rfl rfl]
theorem e95_33 (d : Nat) (l0 l1 : Int) (s : Stt) : Rn d 95 33 [some (2, l0), some (2, l1)] [] s = some ((9, 0), s) := by
  conv => lhs; rw [r93 tb95_ (pc := 33) rfl]
/-- X10_init -/
theorem e112_0 (d : Nat) (l0 : Int) (s : Stt) : Rn d 112 0 [some (2, l0)] [] s = if 0 < l0 then (Rn d 112 10 [some (2, l0)] [(2, (s.1.1 + 1)), (2, l0)] (newS s 100 700)) else none := by
  conv => lhs; rw [r12 tb112_ (pc := 0) (pc' := 1) (lo' := [some (2, l0)]) (z := l0) rfl rfl rfl rfl, r85 tb112_ (pc := 1) (pc' := 4) (lo' := [some (2, l0)]) rfl rfl rfl rfl, r12 tb112_ (pc := 4) (pc' := 5) (lo' := [some (2, l0)]) (z := l0) rfl rfl rfl rfl, r2 tb112_ (pc := 5) (pc' := 8) (lo' := [some (2, l0)]) rfl rfl rfl, r96 tb112_ (pc := 8) (pc' := 10) (lo' := [some (2, l0)]) rfl rfl rfl rfl]
theorem e112_10 (d : Nat) (l0 k0 k1 : Int) (s : Stt) : Rn d 112 10 [some (2, l0)] [(2, k1), (2, k0)] s = if oP s k0 8 then (Rn d 112 13 [some (2, l0)] [] (sU s k0 0 k1)) else none := by
  conv => lhs; rw [r56 tb112_ (pc := 10) (pc' := 13) (lo' := [some (2, l0)]) (t := 2) rfl rfl rfl rfl rfl]
theorem e112_13 (d : Nat) (l0 : Int) (s : Stt) : Rn d 112 13 [some (2, l0)] [] s = if oP s l0 8 then (Rn d 112 20 [some (2, l0)] [] (sU s l0 4 (-38))) else none := by
  conv => lhs; rw [r12 tb112_ (pc := 13) (pc' := 14) (lo' := [some (2, l0)]) (z := l0) rfl rfl rfl rfl, r57 tb112_ (pc := 14) (pc' := 17) (lo' := [some (2, l0)]) rfl rfl rfl, r55 tb112_ (pc := 17) (pc' := 20) (lo' := [some (2, l0)]) (t := 2) rfl rfl rfl rfl rfl]
theorem e112_20 (d : Nat) (l0 : Int) (s : Stt) : Rn d 112 20 [some (2, l0)] [] s = some ((9, 0), s) := by
  conv => lhs; rw [r93 tb112_ (pc := 20) rfl]
/-- X11_init -/
theorem e122_0 (d : Nat) (l0 l1 : Int) (s : Stt) : Rn d 122 0 [some (2, l0), some (2, l1)] [] s = if 0 < l0 then (Rn d 122 9 [some (2, l0), some (2, l1)] [(2, (s.1.1 + 1)), (2, l0)] (newS s 101 7)) else none := by
  conv => lhs; rw [r12 tb122_ (pc := 0) (pc' := 1) (lo' := [some (2, l0), some (2, l1)]) (z := l0) rfl rfl rfl rfl, r85 tb122_ (pc := 1) (pc' := 4) (lo' := [some (2, l0), some (2, l1)]) rfl rfl rfl rfl, r12 tb122_ (pc := 4) (pc' := 5) (lo' := [some (2, l0), some (2, l1)]) (z := l0) rfl rfl rfl rfl, r1 tb122_ (pc := 5) (pc' := 7) (lo' := [some (2, l0), some (2, l1)]) rfl rfl rfl, r96 tb122_ (pc := 7) (pc' := 9) (lo' := [some (2, l0), some (2, l1)]) rfl rfl rfl rfl]
theorem e122_9 (d : Nat) (l0 l1 k0 k1 : Int) (s : Stt) : Rn d 122 9 [some (2, l0), some (2, l1)] [(2, k1), (2, k0)] s = if oP s k0 9 then (Rn d 122 12 [some (2, l0), some (2, l1)] [] (sU s k0 1 k1)) else none := by
  conv => lhs; rw [r56 tb122_ (pc := 9) (pc' := 12) (lo' := [some (2, l0), some (2, l1)]) (t := 2) rfl rfl rfl rfl rfl]
theorem e122_12 (d : Nat) (l0 l1 : Int) (s : Stt) : Rn d 122 12 [some (2, l0), some (2, l1)] [] s = if oP s l0 9 then (Rn d 122 17 [some (2, l0), some (2, l1)] [] (sU s l0 5 (-1))) else none := by
  conv => lhs; rw [r12 tb122_ (pc := 12) (pc' := 13) (lo' := [some (2, l0), some (2, l1)]) (z := l0) rfl rfl rfl rfl, r0 tb122_ (pc := 13) (pc' := 14) (lo' := [some (2, l0), some (2, l1)]) rfl rfl rfl, r55 tb122_ (pc := 14) (pc' := 17) (lo' := [some (2, l0), some (2, l1)]) (t := 0) rfl rfl rfl rfl rfl]
theorem e122_17 (d : Nat) (l0 l1 : Int) (s : Stt) : Rn d 122 17 [some (2, l0), some (2, l1)] [] s = if oP s l0 9 then (Rn d 122 22 [some (2, l0), some (2, l1)] [] (sU s l0 0 l1)) else none := by
  conv => lhs; rw [r12 tb122_ (pc := 17) (pc' := 18) (lo' := [some (2, l0), some (2, l1)]) (z := l0) rfl rfl rfl rfl, r12 tb122_ (pc := 18) (pc' := 19) (lo' := [some (2, l0), some (2, l1)]) (z := l1) rfl rfl rfl rfl, r56 tb122_ (pc := 19) (pc' := 22) (lo' := [some (2, l0), some (2, l1)]) (t := 2) rfl rfl rfl rfl rfl]
theorem e122_22 (d : Nat) (l0 l1 : Int) (s : Stt) : Rn d 122 22 [some (2, l0), some (2, l1)] [] s = some ((9, 0), s) := by
  conv => lhs; rw [r93 tb122_ (pc := 22) rfl]
/-- X12_init -/
theorem e136_0 (d : Nat) (l0 : Int) (s : Stt) : Rn d 136 0 [some (2, l0)] [] s = if 0 < l0 then (Rn d 136 8 [some (2, l0)] [(2, (s.1.1 + 1)), (2, l0)] (newS s 5 7)) else none := by
  conv => lhs; rw [r12 tb136_ (pc := 0) (pc' := 1) (lo' := [some (2, l0)]) (z := l0) rfl rfl rfl rfl, r85 tb136_ (pc := 1) (pc' := 4) (lo' := [some (2, l0)]) rfl rfl rfl rfl, r12 tb136_ (pc := 4) (pc' := 5) (lo' := [some (2, l0)]) (z := l0) rfl rfl rfl rfl, r95 tb136_ (pc := 5) (pc' := 8) (lo' := [some (2, l0)]) (n := 7) rfl rfl rfl rfl]
theorem e136_8 (d : Nat) (l0 k0 k1 : Int) (s : Stt) : Rn d 136 8 [some (2, l0)] [(2, k1), (2, k0)] s = if kd s k1 = 5 then (cK (den d 68 [(2, k1)] s) (fun v s1 => Rn d 136 12 [some (2, l0)] (pushR v [(2, k1), (2, k0)]) s1)) else none := by
  conv => lhs; rw [r21_2 tb136_ (pc := 8) (pc' := 9) (lo' := [some (2, l0)]) rfl rfl rfl, r84 tb136_ (pc := 9) (pc' := 12) (lo' := [some (2, l0)]) (mm := 68) (as := [(2, k1)]) (rest := [(2, k1), (2, k0)]) (r := k1) (ci := 5) rfl rfl rfl rfl rfl rfl rfl rfl rfl]
theorem e136_12 (d : Nat) (l0 k0 k1 : Int) (s : Stt) : Rn d 136 12 [some (2, l0)] [(2, k1), (2, k0)] s = if oP s k0 10 then (Rn d 136 15 [some (2, l0)] [] (sU s k0 0 k1)) else none := by
  conv => lhs; rw [r56 tb136_ (pc := 12) (pc' := 15) (lo' := [some (2, l0)]) (t := 2) rfl rfl rfl rfl rfl]
theorem e136_15 (d : Nat) (l0 : Int) (s : Stt) : Rn d 136 15 [some (2, l0)] [] s = Rn d 136 19 [some (2, l0)] [(2, (s.1.1 + 1)), (2, l0)] (newS s 4 13) := by
  conv => lhs; rw [r12 tb136_ (pc := 15) (pc' := 16) (lo' := [some (2, l0)]) (z := l0) rfl rfl rfl rfl, r95 tb136_ (pc := 16) (pc' := 19) (lo' := [some (2, l0)]) (n := 13) rfl rfl rfl rfl]
theorem e136_19 (d : Nat) (l0 k0 k1 : Int) (s : Stt) : Rn d 136 19 [some (2, l0)] [(2, k1), (2, k0)] s = if kd s k1 = 4 then (cK (den d 61 [(2, k1)] s) (fun v s1 => Rn d 136 23 [some (2, l0)] (pushR v [(2, k1), (2, k0)]) s1)) else none := by
  conv => lhs; rw [r21_2 tb136_ (pc := 19) (pc' := 20) (lo' := [some (2, l0)]) rfl rfl rfl, r84 tb136_ (pc := 20) (pc' := 23) (lo' := [some (2, l0)]) (mm := 61) (as := [(2, k1)]) (rest := [(2, k1), (2, k0)]) (r := k1) (ci := 4) rfl rfl rfl rfl rfl rfl rfl rfl rfl]
theorem e136_23 (d : Nat) (l0 k0 k1 : Int) (s : Stt) : Rn d 136 23 [some (2, l0)] [(2, k1), (2, k0)] s = if oP s k0 10 then (Rn d 136 26 [some (2, l0)] [] (sU s k0 1 k1)) else none := by
  conv => lhs; rw [r56 tb136_ (pc := 23) (pc' := 26) (lo' := [some (2, l0)]) (t := 2) rfl rfl rfl rfl rfl]
theorem e136_26 (d : Nat) (l0 : Int) (s : Stt) : Rn d 136 26 [some (2, l0)] [] s = Rn d 136 30 [some (2, l0)] [(2, (s.1.1 + 1)), (2, l0)] (newS s 6 12) := by
  conv => lhs; rw [r12 tb136_ (pc := 26) (pc' := 27) (lo' := [some (2, l0)]) (z := l0) rfl rfl rfl rfl, r95 tb136_ (pc := 27) (pc' := 30) (lo' := [some (2, l0)]) (n := 12) rfl rfl rfl rfl]
theorem e136_30 (d : Nat) (l0 k0 k1 : Int) (s : Stt) : Rn d 136 30 [some (2, l0)] [(2, k1), (2, k0)] s = if kd s k1 = 6 then (cK (den d 91 [(2, k1)] s) (fun v s1 => Rn d 136 34 [some (2, l0)] (pushR v [(2, k1), (2, k0)]) s1)) else none := by
  conv => lhs; rw [r21_2 tb136_ (pc := 30) (pc' := 31) (lo' := [some (2, l0)]) rfl rfl rfl, r84 tb136_ (pc := 31) (pc' := 34) (lo' := [some (2, l0)]) (mm := 91) (as := [(2, k1)]) (rest := [(2, k1), (2, k0)]) (r := k1) (ci := 6) rfl rfl rfl rfl rfl rfl rfl rfl rfl]
theorem e136_34 (d : Nat) (l0 k0 k1 : Int) (s : Stt) : Rn d 136 34 [some (2, l0)] [(2, k1), (2, k0)] s = if oP s k0 10 then (Rn d 136 37 [some (2, l0)] [] (sU s k0 2 k1)) else none := by
  conv => lhs; rw [r56 tb136_ (pc := 34) (pc' := 37) (lo' := [some (2, l0)]) (t := 2) rfl rfl rfl rfl rfl]
theorem e136_37 (d : Nat) (l0 : Int) (s : Stt) : Rn d 136 37 [some (2, l0)] [] s = Rn d 136 41 [some (2, l0)] [(2, (s.1.1 + 1)), (2, l0)] (newS s 6 12) := by
  conv => lhs; rw [r12 tb136_ (pc := 37) (pc' := 38) (lo' := [some (2, l0)]) (z := l0) rfl rfl rfl rfl, r95 tb136_ (pc := 38) (pc' := 41) (lo' := [some (2, l0)]) (n := 12) rfl rfl rfl rfl]
theorem e136_41 (d : Nat) (l0 k0 k1 : Int) (s : Stt) : Rn d 136 41 [some (2, l0)] [(2, k1), (2, k0)] s = if kd s k1 = 6 then (cK (den d 91 [(2, k1)] s) (fun v s1 => Rn d 136 45 [some (2, l0)] (pushR v [(2, k1), (2, k0)]) s1)) else none := by
  conv => lhs; rw [r21_2 tb136_ (pc := 41) (pc' := 42) (lo' := [some (2, l0)]) rfl rfl rfl, r84 tb136_ (pc := 42) (pc' := 45) (lo' := [some (2, l0)]) (mm := 91) (as := [(2, k1)]) (rest := [(2, k1), (2, k0)]) (r := k1) (ci := 6) rfl rfl rfl rfl rfl rfl rfl rfl rfl]
theorem e136_45 (d : Nat) (l0 k0 k1 : Int) (s : Stt) : Rn d 136 45 [some (2, l0)] [(2, k1), (2, k0)] s = if oP s k0 10 then (Rn d 136 48 [some (2, l0)] [] (sU s k0 3 k1)) else none := by
  conv => lhs; rw [r56 tb136_ (pc := 45) (pc' := 48) (lo' := [some (2, l0)]) (t := 2) rfl rfl rfl rfl rfl]
theorem e136_48 (d : Nat) (l0 : Int) (s : Stt) : Rn d 136 48 [some (2, l0)] [] s = Rn d 136 52 [some (2, l0)] [(2, (s.1.1 + 1)), (2, l0)] (newS s 9 6) := by
  conv => lhs; rw [r12 tb136_ (pc := 48) (pc' := 49) (lo' := [some (2, l0)]) (z := l0) rfl rfl rfl rfl, r95 tb136_ (pc := 49) (pc' := 52) (lo' := [some (2, l0)]) (n := 6) rfl rfl rfl rfl]
theorem e136_52 (d : Nat) (l0 k0 k1 : Int) (s : Stt) : Rn d 136 52 [some (2, l0)] [(2, k1), (2, k0)] s = if oF s l0 10 then (if kd s k1 = 9 then (cK (den d 122 [(2, k1), (2, (s.2.2 l0 1))] s) (fun v s1 => Rn d 136 60 [some (2, l0)] (pushR v [(2, k1), (2, k0)]) s1)) else none) else none := by
  conv => lhs; rw [r21_2 tb136_ (pc := 52) (pc' := 53) (lo' := [some (2, l0)]) rfl rfl rfl, r12 tb136_ (pc := 53) (pc' := 54) (lo' := [some (2, l0)]) (z := l0) rfl rfl rfl rfl, r54 tb136_ (pc := 54) (pc' := 57) (lo' := [some (2, l0)]) (t := 2) rfl rfl rfl rfl, r82 tb136_ (pc := 57) (pc' := 60) (lo' := [some (2, l0)]) (mm := 122) (as := [(2, k1), (2, (s.2.2 l0 1))]) (rest := [(2, k1), (2, k0)]) (r := k1) (ci := 9) rfl rfl rfl rfl rfl rfl rfl rfl rfl]
theorem e136_60 (d : Nat) (l0 k0 k1 : Int) (s : Stt) : Rn d 136 60 [some (2, l0)] [(2, k1), (2, k0)] s = if oP s k0 10 then (Rn d 136 63 [some (2, l0)] [] (sU s k0 4 k1)) else none := by
  conv => lhs; rw [r56 tb136_ (pc := 60) (pc' := 63) (lo' := [some (2, l0)]) (t := 2) rfl rfl rfl rfl rfl]
theorem e136_63 (d : Nat) (l0 : Int) (s : Stt) : Rn d 136 63 [some (2, l0)] [] s = Rn d 136 67 [some (2, l0)] [(2, (s.1.1 + 1)), (2, l0)] (newS s 7 4) := by
  conv => lhs; rw [r12 tb136_ (pc := 63) (pc' := 64) (lo' := [some (2, l0)]) (z := l0) rfl rfl rfl rfl, r95 tb136_ (pc := 64) (pc' := 67) (lo' := [some (2, l0)]) (n := 4) rfl rfl rfl rfl]
theorem e136_67 (d : Nat) (l0 k0 k1 : Int) (s : Stt) : Rn d 136 67 [some (2, l0)] [(2, k1), (2, k0)] s = if oF s l0 10 then (if oF s (s.2.2 l0 1) 4 then (if kd s k1 = 7 then (cK (den d 95 [(2, k1), (2, (s.2.2 (s.2.2 l0 1) 3))] s) (fun v s1 => Rn d 136 78 [some (2, l0)] (pushR v [(2, k1), (2, k0)]) s1)) else none) else none) else none := by
  conv => lhs; rw [r21_2 tb136_ (pc := 67) (pc' := 68) (lo' := [some (2, l0)]) rfl rfl rfl, r12 tb136_ (pc := 68) (pc' := 69) (lo' := [some (2, l0)]) (z := l0) rfl rfl rfl rfl, r54 tb136_ (pc := 69) (pc' := 72) (lo' := [some (2, l0)]) (t := 2) rfl rfl rfl rfl, r54 tb136_ (pc := 72) (pc' := 75) (lo' := [some (2, l0)]) (t := 2) rfl rfl rfl rfl, r82 tb136_ (pc := 75) (pc' := 78) (lo' := [some (2, l0)]) (mm := 95) (as := [(2, k1), (2, (s.2.2 (s.2.2 l0 1) 3))]) (rest := [(2, k1), (2, k0)]) (r := k1) (ci := 7) rfl rfl rfl rfl rfl rfl rfl rfl rfl]
theorem e136_78 (d : Nat) (l0 k0 k1 : Int) (s : Stt) : Rn d 136 78 [some (2, l0)] [(2, k1), (2, k0)] s = if oP s k0 10 then (Rn d 136 81 [some (2, l0)] [] (sU s k0 5 k1)) else none := by
  conv => lhs; rw [r56 tb136_ (pc := 78) (pc' := 81) (lo' := [some (2, l0)]) (t := 2) rfl rfl rfl rfl rfl]
theorem e136_81 (d : Nat) (l0 : Int) (s : Stt) : Rn d 136 81 [some (2, l0)] [] s = Rn d 136 85 [some (2, l0)] [(2, (s.1.1 + 1)), (2, l0)] (newS s 3 11) := by
  conv => lhs; rw [r12 tb136_ (pc := 81) (pc' := 82) (lo' := [some (2, l0)]) (z := l0) rfl rfl rfl rfl, r95 tb136_ (pc := 82) (pc' := 85) (lo' := [some (2, l0)]) (n := 11) rfl rfl rfl rfl]
theorem e136_85 (d : Nat) (l0 k0 k1 : Int) (s : Stt) : Rn d 136 85 [some (2, l0)] [(2, k1), (2, k0)] s = if oF s l0 10 then (if kd s k1 = 3 then (cK (den d 50 [(2, k1), (2, (s.2.2 l0 5))] s) (fun v s1 => Rn d 136 93 [some (2, l0)] (pushR v [(2, k1), (2, k0)]) s1)) else none) else none := by
  conv => lhs; rw [r21_2 tb136_ (pc := 85) (pc' := 86) (lo' := [some (2, l0)]) rfl rfl rfl, r12 tb136_ (pc := 86) (pc' := 87) (lo' := [some (2, l0)]) (z := l0) rfl rfl rfl rfl, r54 tb136_ (pc := 87) (pc' := 90) (lo' := [some (2, l0)]) (t := 2) rfl rfl rfl rfl, r82 tb136_ (pc := 90) (pc' := 93) (lo' := [some (2, l0)]) (mm := 50) (as := [(2, k1), (2, (s.2.2 l0 5))]) (rest := [(2, k1), (2, k0)]) (r := k1) (ci := 3) rfl rfl rfl rfl rfl rfl rfl rfl rfl]
theorem e136_93 (d : Nat) (l0 k0 k1 : Int) (s : Stt) : Rn d 136 93 [some (2, l0)] [(2, k1), (2, k0)] s = if oP s k0 10 then (Rn d 136 96 [some (2, l0)] [] (sU s k0 6 k1)) else none := by
  conv => lhs; rw [r56 tb136_ (pc := 93) (pc' := 96) (lo' := [some (2, l0)]) (t := 2) rfl rfl rfl rfl rfl]
theorem e136_96 (d : Nat) (l0 : Int) (s : Stt) : Rn d 136 96 [some (2, l0)] [] s = Rn d 136 100 [some (2, l0)] [(2, (s.1.1 + 1)), (2, l0)] (newS s 1 5) := by
  conv => lhs; rw [r12 tb136_ (pc := 96) (pc' := 97) (lo' := [some (2, l0)]) (z := l0) rfl rfl rfl rfl, r95 tb136_ (pc := 97) (pc' := 100) (lo' := [some (2, l0)]) (n := 5) rfl rfl rfl rfl]
theorem e136_100 (d : Nat) (l0 k0 k1 : Int) (s : Stt) : Rn d 136 100 [some (2, l0)] [(2, k1), (2, k0)] s = if kd s k1 = 1 then (cK (den d 26 [(2, k1)] s) (fun v s1 => Rn d 136 104 [some (2, l0)] (pushR v [(2, k1), (2, k0)]) s1)) else none := by
  conv => lhs; rw [r21_2 tb136_ (pc := 100) (pc' := 101) (lo' := [some (2, l0)]) rfl rfl rfl, r82 tb136_ (pc := 101) (pc' := 104) (lo' := [some (2, l0)]) (mm := 26) (as := [(2, k1)]) (rest := [(2, k1), (2, k0)]) (r := k1) (ci := 1) rfl rfl rfl rfl rfl rfl rfl rfl rfl]
theorem e136_104 (d : Nat) (l0 k0 k1 : Int) (s : Stt) : Rn d 136 104 [some (2, l0)] [(2, k1), (2, k0)] s = if oP s k0 10 then (Rn d 136 107 [some (2, l0)] [] (sU s k0 7 k1)) else none := by
  conv => lhs; rw [r56 tb136_ (pc := 104) (pc' := 107) (lo' := [some (2, l0)]) (t := 2) rfl rfl rfl rfl rfl]
theorem e136_107 (d : Nat) (l0 : Int) (s : Stt) : Rn d 136 107 [some (2, l0)] [] s = if oP s l0 10 then (Rn d 136 112 [some (2, l0)] [] (sU s l0 8 0)) else none := by
  conv => lhs; rw [r12 tb136_ (pc := 107) (pc' := 108) (lo' := [some (2, l0)]) (z := l0) rfl rfl rfl rfl, r0 tb136_ (pc := 108) (pc' := 109) (lo' := [some (2, l0)]) rfl rfl rfl, r55 tb136_ (pc := 109) (pc' := 112) (lo' := [some (2, l0)]) (t := 0) rfl rfl rfl rfl rfl]
theorem e136_112 (d : Nat) (l0 : Int) (s : Stt) : Rn d 136 112 [some (2, l0)] [] s = if oP s l0 10 then (Rn d 136 117 [some (2, l0)] [] (sU s l0 9 (-1))) else none := by
  conv => lhs; rw [r12 tb136_ (pc := 112) (pc' := 113) (lo' := [some (2, l0)]) (z := l0) rfl rfl rfl rfl, r0 tb136_ (pc := 113) (pc' := 114) (lo' := [some (2, l0)]) rfl rfl rfl, r55 tb136_ (pc := 114) (pc' := 117) (lo' := [some (2, l0)]) (t := 0) rfl rfl rfl rfl rfl]
theorem e136_117 (d : Nat) (l0 : Int) (s : Stt) : Rn d 136 117 [some (2, l0)] [] s = some ((9, 0), s) := by
  conv => lhs; rw [r93 tb136_ (pc := 117) rfl]
/-- X13_init -/
theorem e183_0 (d : Nat) (l0 : Int) (s : Stt) : Rn d 183 0 [some (2, l0)] [] s = if 0 < l0 then (Rn d 183 10 [some (2, l0)] [(2, (s.1.1 + 1)), (2, l0)] (newS s 100 700)) else none := by
  conv => lhs; rw [r12 tb183_ (pc := 0) (pc' := 1) (lo' := [some (2, l0)]) (z := l0) rfl rfl rfl rfl, r85 tb183_ (pc := 1) (pc' := 4) (lo' := [some (2, l0)]) rfl rfl rfl rfl, r12 tb183_ (pc := 4) (pc' := 5) (lo' := [some (2, l0)]) (z := l0) rfl rfl rfl rfl, r2 tb183_ (pc := 5) (pc' := 8) (lo' := [some (2, l0)]) rfl rfl rfl, r96 tb183_ (pc := 8) (pc' := 10) (lo' := [some (2, l0)]) rfl rfl rfl rfl]
theorem e183_10 (d : Nat) (l0 k0 k1 : Int) (s : Stt) : Rn d 183 10 [some (2, l0)] [(2, k1), (2, k0)] s = if oP s k0 11 then (Rn d 183 13 [some (2, l0)] [] (sU s k0 1 k1)) else none := by
  conv => lhs; rw [r56 tb183_ (pc := 10) (pc' := 13) (lo' := [some (2, l0)]) (t := 2) rfl rfl rfl rfl rfl]
theorem e183_13 (d : Nat) (l0 : Int) (s : Stt) : Rn d 183 13 [some (2, l0)] [] s = Rn d 183 18 [some (2, l0)] [(2, (s.1.1 + 1)), (2, l0)] (newS s 100 14) := by
  conv => lhs; rw [r12 tb183_ (pc := 13) (pc' := 14) (lo' := [some (2, l0)]) (z := l0) rfl rfl rfl rfl, r1 tb183_ (pc := 14) (pc' := 16) (lo' := [some (2, l0)]) rfl rfl rfl, r96 tb183_ (pc := 16) (pc' := 18) (lo' := [some (2, l0)]) rfl rfl rfl rfl]
theorem e183_18 (d : Nat) (l0 k0 k1 : Int) (s : Stt) : Rn d 183 18 [some (2, l0)] [(2, k1), (2, k0)] s = if oP s k0 11 then (Rn d 183 21 [some (2, l0)] [] (sU s k0 3 k1)) else none := by
  conv => lhs; rw [r56 tb183_ (pc := 18) (pc' := 21) (lo' := [some (2, l0)]) (t := 2) rfl rfl rfl rfl rfl]
theorem e183_21 (d : Nat) (l0 : Int) (s : Stt) : Rn d 183 21 [some (2, l0)] [] s = Rn d 183 26 [some (2, l0)] [(2, (s.1.1 + 1)), (2, l0)] (newS s 100 16) := by
  conv => lhs; rw [r12 tb183_ (pc := 21) (pc' := 22) (lo' := [some (2, l0)]) (z := l0) rfl rfl rfl rfl, r1 tb183_ (pc := 22) (pc' := 24) (lo' := [some (2, l0)]) rfl rfl rfl, r96 tb183_ (pc := 24) (pc' := 26) (lo' := [some (2, l0)]) rfl rfl rfl rfl]
theorem e183_26 (d : Nat) (l0 k0 k1 : Int) (s : Stt) : Rn d 183 26 [some (2, l0)] [(2, k1), (2, k0)] s = if oP s k0 11 then (Rn d 183 29 [some (2, l0)] [] (sU s k0 4 k1)) else none := by
  conv => lhs; rw [r56 tb183_ (pc := 26) (pc' := 29) (lo' := [some (2, l0)]) (t := 2) rfl rfl rfl rfl rfl]
theorem e183_29 (d : Nat) (l0 : Int) (s : Stt) : Rn d 183 29 [some (2, l0)] [] s = Rn d 183 34 [some (2, l0)] [(2, (s.1.1 + 1)), (2, l0)] (newS s 100 16) := by
  conv => lhs; rw [r12 tb183_ (pc := 29) (pc' := 30) (lo' := [some (2, l0)]) (z := l0) rfl rfl rfl rfl, r1 tb183_ (pc := 30) (pc' := 32) (lo' := [some (2, l0)]) rfl rfl rfl, r96 tb183_ (pc := 32) (pc' := 34) (lo' := [some (2, l0)]) rfl rfl rfl rfl]
theorem e183_34 (d : Nat) (l0 k0 k1 : Int) (s : Stt) : Rn d 183 34 [some (2, l0)] [(2, k1), (2, k0)] s = if oP s k0 11 then (Rn d 183 37 [some (2, l0)] [] (sU s k0 5 k1)) else none := by
  conv => lhs; rw [r56 tb183_ (pc := 34) (pc' := 37) (lo' := [some (2, l0)]) (t := 2) rfl rfl rfl rfl rfl]
theorem e183_37 (d : Nat) (l0 : Int) (s : Stt) : Rn d 183 37 [some (2, l0)] [] s = Rn d 183 42 [some (2, l0)] [(2, (s.1.1 + 1)), (2, l0)] (newS s 100 16) := by
  conv => lhs; rw [r12 tb183_ (pc := 37) (pc' := 38) (lo' := [some (2, l0)]) (z := l0) rfl rfl rfl rfl, r1 tb183_ (pc := 38) (pc' := 40) (lo' := [some (2, l0)]) rfl rfl rfl, r96 tb183_ (pc := 40) (pc' := 42) (lo' := [some (2, l0)]) rfl rfl rfl rfl]
theorem e183_42 (d : Nat) (l0 k0 k1 : Int) (s : Stt) : Rn d 183 42 [some (2, l0)] [(2, k1), (2, k0)] s = if oP s k0 11 then (Rn d 183 45 [some (2, l0)] [] (sU s k0 6 k1)) else none := by
  conv => lhs; rw [r56 tb183_ (pc := 42) (pc' := 45) (lo' := [some (2, l0)]) (t := 2) rfl rfl rfl rfl rfl]
theorem e183_45 (d : Nat) (l0 : Int) (s : Stt) : Rn d 183 45 [some (2, l0)] [] s = Rn d 183 50 [some (2, l0)] [(2, (s.1.1 + 1)), (2, l0)] (newS s 100 16) := by
  conv => lhs; rw [r12 tb183_ (pc := 45) (pc' := 46) (lo' := [some (2, l0)]) (z := l0) rfl rfl rfl rfl, r1 tb183_ (pc := 46) (pc' := 48) (lo' := [some (2, l0)]) rfl rfl rfl, r96 tb183_ (pc := 48) (pc' := 50) (lo' := [some (2, l0)]) rfl rfl rfl rfl]
theorem e183_50 (d : Nat) (l0 k0 k1 : Int) (s : Stt) : Rn d 183 50 [some (2, l0)] [(2, k1), (2, k0)] s = if oP s k0 11 then (Rn d 183 53 [some (2, l0)] [] (sU s k0 7 k1)) else none := by
  conv => lhs; rw [r56 tb183_ (pc := 50) (pc' := 53) (lo' := [some (2, l0)]) (t := 2) rfl rfl rfl rfl rfl]
theorem e183_53 (d : Nat) (l0 : Int) (s : Stt) : Rn d 183 53 [some (2, l0)] [] s = Rn d 183 58 [some (2, l0)] [(2, (s.1.1 + 1)), (2, l0)] (newS s 100 32) := by
  conv => lhs; rw [r12 tb183_ (pc := 53) (pc' := 54) (lo' := [some (2, l0)]) (z := l0) rfl rfl rfl rfl, r1 tb183_ (pc := 54) (pc' := 56) (lo' := [some (2, l0)]) rfl rfl rfl, r96 tb183_ (pc := 56) (pc' := 58) (lo' := [some (2, l0)]) rfl rfl rfl rfl]
theorem e183_58 (d : Nat) (l0 k0 k1 : Int) (s : Stt) : Rn d 183 58 [some (2, l0)] [(2, k1), (2, k0)] s = if oP s k0 11 then (Rn d 183 61 [some (2, l0)] [] (sU s k0 8 k1)) else none := by
  conv => lhs; rw [r56 tb183_ (pc := 58) (pc' := 61) (lo' := [some (2, l0)]) (t := 2) rfl rfl rfl rfl rfl]
theorem e183_61 (d : Nat) (l0 : Int) (s : Stt) : Rn d 183 61 [some (2, l0)] [] s = Rn d 183 66 [some (2, l0)] [(2, (s.1.1 + 1)), (2, l0)] (newS s 100 32) := by
  conv => lhs; rw [r12 tb183_ (pc := 61) (pc' := 62) (lo' := [some (2, l0)]) (z := l0) rfl rfl rfl rfl, r1 tb183_ (pc := 62) (pc' := 64) (lo' := [some (2, l0)]) rfl rfl rfl, r96 tb183_ (pc := 64) (pc' := 66) (lo' := [some (2, l0)]) rfl rfl rfl rfl]
theorem e183_66 (d : Nat) (l0 k0 k1 : Int) (s : Stt) : Rn d 183 66 [some (2, l0)] [(2, k1), (2, k0)] s = if oP s k0 11 then (Rn d 183 69 [some (2, l0)] [] (sU s k0 9 k1)) else none := by
  conv => lhs; rw [r56 tb183_ (pc := 66) (pc' := 69) (lo' := [some (2, l0)]) (t := 2) rfl rfl rfl rfl rfl]
theorem e183_69 (d : Nat) (l0 : Int) (s : Stt) : Rn d 183 69 [some (2, l0)] [] s = Rn d 183 74 [some (2, l0)] [(2, (s.1.1 + 1)), (2, l0)] (newS s 100 6) := by
  conv => lhs; rw [r12 tb183_ (pc := 69) (pc' := 70) (lo' := [some (2, l0)]) (z := l0) rfl rfl rfl rfl, r1 tb183_ (pc := 70) (pc' := 72) (lo' := [some (2, l0)]) rfl rfl rfl, r96 tb183_ (pc := 72) (pc' := 74) (lo' := [some (2, l0)]) rfl rfl rfl rfl]
theorem e183_74 (d : Nat) (l0 k0 k1 : Int) (s : Stt) : Rn d 183 74 [some (2, l0)] [(2, k1), (2, k0)] s = if oP s k0 11 then (Rn d 183 77 [some (2, l0)] [] (sU s k0 10 k1)) else none := by
  conv => lhs; rw [r56 tb183_ (pc := 74) (pc' := 77) (lo' := [some (2, l0)]) (t := 2) rfl rfl rfl rfl rfl]
theorem e183_77 (d : Nat) (l0 : Int) (s : Stt) : Rn d 183 77 [some (2, l0)] [] s = Rn d 183 82 [some (2, l0)] [(2, (s.1.1 + 1)), (2, l0)] (newS s 100 6) := by
  conv => lhs; rw [r12 tb183_ (pc := 77) (pc' := 78) (lo' := [some (2, l0)]) (z := l0) rfl rfl rfl rfl, r1 tb183_ (pc := 78) (pc' := 80) (lo' := [some (2, l0)]) rfl rfl rfl, r96 tb183_ (pc := 80) (pc' := 82) (lo' := [some (2, l0)]) rfl rfl rfl rfl]
theorem e183_82 (d : Nat) (l0 k0 k1 : Int) (s : Stt) : Rn d 183 82 [some (2, l0)] [(2, k1), (2, k0)] s = if oP s k0 11 then (Rn d 183 85 [some (2, l0)] [] (sU s k0 11 k1)) else none := by
  conv => lhs; rw [r56 tb183_ (pc := 82) (pc' := 85) (lo' := [some (2, l0)]) (t := 2) rfl rfl rfl rfl rfl]
theorem e183_85 (d : Nat) (l0 : Int) (s : Stt) : Rn d 183 85 [some (2, l0)] [] s = Rn d 183 91 [some (2, l0)] [(2, (s.1.1 + 1)), (2, l0)] (newS s 100 128) := by
  conv => lhs; rw [r12 tb183_ (pc := 85) (pc' := 86) (lo' := [some (2, l0)]) (z := l0) rfl rfl rfl rfl, r2 tb183_ (pc := 86) (pc' := 89) (lo' := [some (2, l0)]) rfl rfl rfl, r96 tb183_ (pc := 89) (pc' := 91) (lo' := [some (2, l0)]) rfl rfl rfl rfl]
theorem e183_91 (d : Nat) (l0 k0 k1 : Int) (s : Stt) : Rn d 183 91 [some (2, l0)] [(2, k1), (2, k0)] s = if oP s k0 11 then (Rn d 183 94 [some (2, l0)] [] (sU s k0 12 k1)) else none := by
  conv => lhs; rw [r56 tb183_ (pc := 91) (pc' := 94) (lo' := [some (2, l0)]) (t := 2) rfl rfl rfl rfl rfl]
theorem e183_94 (d : Nat) (l0 : Int) (s : Stt) : Rn d 183 94 [some (2, l0)] [] s = Rn d 183 100 [some (2, l0)] [(2, (s.1.1 + 1)), (2, l0)] (newS s 100 128) := by
  conv => lhs; rw [r12 tb183_ (pc := 94) (pc' := 95) (lo' := [some (2, l0)]) (z := l0) rfl rfl rfl rfl, r2 tb183_ (pc := 95) (pc' := 98) (lo' := [some (2, l0)]) rfl rfl rfl, r96 tb183_ (pc := 98) (pc' := 100) (lo' := [some (2, l0)]) rfl rfl rfl rfl]
theorem e183_100 (d : Nat) (l0 k0 k1 : Int) (s : Stt) : Rn d 183 100 [some (2, l0)] [(2, k1), (2, k0)] s = if oP s k0 11 then (Rn d 183 103 [some (2, l0)] [] (sU s k0 13 k1)) else none := by
  conv => lhs; rw [r56 tb183_ (pc := 100) (pc' := 103) (lo' := [some (2, l0)]) (t := 2) rfl rfl rfl rfl rfl]
theorem e183_103 (d : Nat) (l0 : Int) (s : Stt) : Rn d 183 103 [some (2, l0)] [] s = if oP s l0 11 then (Rn d 183 108 [some (2, l0)] [] (sU s l0 24 (-1))) else none := by
  conv => lhs; rw [r12 tb183_ (pc := 103) (pc' := 104) (lo' := [some (2, l0)]) (z := l0) rfl rfl rfl rfl, r0 tb183_ (pc := 104) (pc' := 105) (lo' := [some (2, l0)]) rfl rfl rfl, r55 tb183_ (pc := 105) (pc' := 108) (lo' := [some (2, l0)]) (t := 0) rfl rfl rfl rfl rfl]
theorem e183_108 (d : Nat) (l0 : Int) (s : Stt) : Rn d 183 108 [some (2, l0)] [] s = Rn d 183 113 [some (2, l0)] [(2, (s.1.1 + 1)), (2, l0)] (newS s 101 7) := by
  conv => lhs; rw [r12 tb183_ (pc := 108) (pc' := 109) (lo' := [some (2, l0)]) (z := l0) rfl rfl rfl rfl, r1 tb183_ (pc := 109) (pc' := 111) (lo' := [some (2, l0)]) rfl rfl rfl, r96 tb183_ (pc := 111) (pc' := 113) (lo' := [some (2, l0)]) rfl rfl rfl rfl]
theorem e183_113 (d : Nat) (l0 k0 k1 : Int) (s : Stt) : Rn d 183 113 [some (2, l0)] [(2, k1), (2, k0)] s = if oP s k0 11 then (Rn d 183 116 [some (2, l0)] [] (sU s k0 27 k1)) else none := by
  conv => lhs; rw [r56 tb183_ (pc := 113) (pc' := 116) (lo' := [some (2, l0)]) (t := 2) rfl rfl rfl rfl rfl]
theorem e183_116 (d : Nat) (l0 : Int) (s : Stt) : Rn d 183 116 [some (2, l0)] [] s = Rn d 183 121 [some (2, l0)] [(2, (s.1.1 + 1)), (2, l0)] (newS s 101 64) := by
  conv => lhs; rw [r12 tb183_ (pc := 116) (pc' := 117) (lo' := [some (2, l0)]) (z := l0) rfl rfl rfl rfl, r1 tb183_ (pc := 117) (pc' := 119) (lo' := [some (2, l0)]) rfl rfl rfl, r96 tb183_ (pc := 119) (pc' := 121) (lo' := [some (2, l0)]) rfl rfl rfl rfl]
theorem e183_121 (d : Nat) (l0 k0 k1 : Int) (s : Stt) : Rn d 183 121 [some (2, l0)] [(2, k1), (2, k0)] s = if oP s k0 11 then (Rn d 183 124 [some (2, l0)] [] (sU s k0 28 k1)) else none := by
  conv => lhs; rw [r56 tb183_ (pc := 121) (pc' := 124) (lo' := [some (2, l0)]) (t := 2) rfl rfl rfl rfl rfl]
theorem e183_124 (d : Nat) (l0 : Int) (s : Stt) : Rn d 183 124 [some (2, l0)] [] s = Rn d 183 129 [some (2, l0)] [(2, (s.1.1 + 1)), (2, l0)] (newS s 100 23) := by
  conv => lhs; rw [r12 tb183_ (pc := 124) (pc' := 125) (lo' := [some (2, l0)]) (z := l0) rfl rfl rfl rfl, r1 tb183_ (pc := 125) (pc' := 127) (lo' := [some (2, l0)]) rfl rfl rfl, r96 tb183_ (pc := 127) (pc' := 129) (lo' := [some (2, l0)]) rfl rfl rfl rfl]
theorem e183_129 (d : Nat) (l0 k0 k1 : Int) (s : Stt) : Rn d 183 129 [some (2, l0)] [(2, k1), (2, k0)] s = if oP s k0 11 then (Rn d 183 132 [some (2, l0)] [] (sU s k0 30 k1)) else none := by
  conv => lhs; rw [r56 tb183_ (pc := 129) (pc' := 132) (lo' := [some (2, l0)]) (t := 2) rfl rfl rfl rfl rfl]
theorem e183_132 (d : Nat) (l0 : Int) (s : Stt) : Rn d 183 132 [some (2, l0)] [] s = Rn d 183 137 [some (2, l0)] [(2, (s.1.1 + 1)), (2, l0)] (newS s 100 23) := by
  conv => lhs; rw [r12 tb183_ (pc := 132) (pc' := 133) (lo' := [some (2, l0)]) (z := l0) rfl rfl rfl rfl, r1 tb183_ (pc := 133) (pc' := 135) (lo' := [some (2, l0)]) rfl rfl rfl, r96 tb183_ (pc := 135) (pc' := 137) (lo' := [some (2, l0)]) rfl rfl rfl rfl]
theorem e183_137 (d : Nat) (l0 k0 k1 : Int) (s : Stt) : Rn d 183 137 [some (2, l0)] [(2, k1), (2, k0)] s = if oP s k0 11 then (Rn d 183 140 [some (2, l0)] [] (sU s k0 31 k1)) else none := by
  conv => lhs; rw [r56 tb183_ (pc := 137) (pc' := 140) (lo' := [some (2, l0)]) (t := 2) rfl rfl rfl rfl rfl]
theorem e183_140 (d : Nat) (l0 : Int) (s : Stt) : Rn d 183 140 [some (2, l0)] [] s = Rn d 183 145 [some (2, l0)] [(2, (s.1.1 + 1)), (2, l0)] (newS s 100 23) := by
  conv => lhs; rw [r12 tb183_ (pc := 140) (pc' := 141) (lo' := [some (2, l0)]) (z := l0) rfl rfl rfl rfl, r1 tb183_ (pc := 141) (pc' := 143) (lo' := [some (2, l0)]) rfl rfl rfl, r96 tb183_ (pc := 143) (pc' := 145) (lo' := [some (2, l0)]) rfl rfl rfl rfl]
theorem e183_145 (d : Nat) (l0 k0 k1 : Int) (s : Stt) : Rn d 183 145 [some (2, l0)] [(2, k1), (2, k0)] s = if oP s k0 11 then (Rn d 183 148 [some (2, l0)] [] (sU s k0 32 k1)) else none := by
  conv => lhs; rw [r56 tb183_ (pc := 145) (pc' := 148) (lo' := [some (2, l0)]) (t := 2) rfl rfl rfl rfl rfl]
theorem e183_148 (d : Nat) (l0 : Int) (s : Stt) : Rn d 183 148 [some (2, l0)] [] s = Rn d 183 153 [some (2, l0)] [(2, (s.1.1 + 1)), (2, l0)] (newS s 100 23) := by
  conv => lhs; rw [r12 tb183_ (pc := 148) (pc' := 149) (lo' := [some (2, l0)]) (z := l0) rfl rfl rfl rfl, r1 tb183_ (pc := 149) (pc' := 151) (lo' := [some (2, l0)]) rfl rfl rfl, r96 tb183_ (pc := 151) (pc' := 153) (lo' := [some (2, l0)]) rfl rfl rfl rfl]
theorem e183_153 (d : Nat) (l0 k0 k1 : Int) (s : Stt) : Rn d 183 153 [some (2, l0)] [(2, k1), (2, k0)] s = if oP s k0 11 then (Rn d 183 156 [some (2, l0)] [] (sU s k0 33 k1)) else none := by
  conv => lhs; rw [r56 tb183_ (pc := 153) (pc' := 156) (lo' := [some (2, l0)]) (t := 2) rfl rfl rfl rfl rfl]
theorem e183_156 (d : Nat) (l0 : Int) (s : Stt) : Rn d 183 156 [some (2, l0)] [] s = Rn d 183 161 [some (2, l0)] [(2, (s.1.1 + 1)), (2, l0)] (newS s 100 23) := by
  conv => lhs; rw [r12 tb183_ (pc := 156) (pc' := 157) (lo' := [some (2, l0)]) (z := l0) rfl rfl rfl rfl, r1 tb183_ (pc := 157) (pc' := 159) (lo' := [some (2, l0)]) rfl rfl rfl, r96 tb183_ (pc := 159) (pc' := 161) (lo' := [some (2, l0)]) rfl rfl rfl rfl]
theorem e183_161 (d : Nat) (l0 k0 k1 : Int) (s : Stt) : Rn d 183 161 [some (2, l0)] [(2, k1), (2, k0)] s = if oP s k0 11 then (Rn d 183 164 [some (2, l0)] [] (sU s k0 34 k1)) else none := by
  conv => lhs; rw [r56 tb183_ (pc := 161) (pc' := 164) (lo' := [some (2, l0)]) (t := 2) rfl rfl rfl rfl rfl]
theorem e183_164 (d : Nat) (l0 : Int) (s : Stt) : Rn d 183 164 [some (2, l0)] [] s = Rn d 183 169 [some (2, l0)] [(2, (s.1.1 + 1)), (2, l0)] (newS s 100 23) := by
  conv => lhs; rw [r12 tb183_ (pc := 164) (pc' := 165) (lo' := [some (2, l0)]) (z := l0) rfl rfl rfl rfl, r1 tb183_ (pc := 165) (pc' := 167) (lo' := [some (2, l0)]) rfl rfl rfl, r96 tb183_ (pc := 167) (pc' := 169) (lo' := [some (2, l0)]) rfl rfl rfl rfl]
theorem e183_169 (d : Nat) (l0 k0 k1 : Int) (s : Stt) : Rn d 183 169 [some (2, l0)] [(2, k1), (2, k0)] s = if oP s k0 11 then (Rn d 183 172 [some (2, l0)] [] (sU s k0 35 k1)) else none := by
  conv => lhs; rw [r56 tb183_ (pc := 169) (pc' := 172) (lo' := [some (2, l0)]) (t := 2) rfl rfl rfl rfl rfl]
theorem e183_172 (d : Nat) (l0 : Int) (s : Stt) : Rn d 183 172 [some (2, l0)] [] s = Rn d 183 177 [some (2, l0)] [(2, (s.1.1 + 1)), (2, l0)] (newS s 100 23) := by
  conv => lhs; rw [r12 tb183_ (pc := 172) (pc' := 173) (lo' := [some (2, l0)]) (z := l0) rfl rfl rfl rfl, r1 tb183_ (pc := 173) (pc' := 175) (lo' := [some (2, l0)]) rfl rfl rfl, r96 tb183_ (pc := 175) (pc' := 177) (lo' := [some (2, l0)]) rfl rfl rfl rfl]
theorem e183_177 (d : Nat) (l0 k0 k1 : Int) (s : Stt) : Rn d 183 177 [some (2, l0)] [(2, k1), (2, k0)] s = if oP s k0 11 then (Rn d 183 180 [some (2, l0)] [] (sU s k0 36 k1)) else none := by
  conv => lhs; rw [r56 tb183_ (pc := 177) (pc' := 180) (lo' := [some (2, l0)]) (t := 2) rfl rfl rfl rfl rfl]
theorem e183_180 (d : Nat) (l0 : Int) (s : Stt) : Rn d 183 180 [some (2, l0)] [] s = Rn d 183 185 [some (2, l0)] [(2, (s.1.1 + 1)), (2, l0)] (newS s 100 23) := by
  conv => lhs; rw [r12 tb183_ (pc := 180) (pc' := 181) (lo' := [some (2, l0)]) (z := l0) rfl rfl rfl rfl, r1 tb183_ (pc := 181) (pc' := 183) (lo' := [some (2, l0)]) rfl rfl rfl, r96 tb183_ (pc := 183) (pc' := 185) (lo' := [some (2, l0)]) rfl rfl rfl rfl]
theorem e183_185 (d : Nat) (l0 k0 k1 : Int) (s : Stt) : Rn d 183 185 [some (2, l0)] [(2, k1), (2, k0)] s = if oP s k0 11 then (Rn d 183 188 [some (2, l0)] [] (sU s k0 37 k1)) else none := by
  conv => lhs; rw [r56 tb183_ (pc := 185) (pc' := 188) (lo' := [some (2, l0)]) (t := 2) rfl rfl rfl rfl rfl]
theorem e183_188 (d : Nat) (l0 : Int) (s : Stt) : Rn d 183 188 [some (2, l0)] [] s = Rn d 183 193 [some (2, l0)] [(2, (s.1.1 + 1)), (2, l0)] (newS s 100 23) := by
  conv => lhs; rw [r12 tb183_ (pc := 188) (pc' := 189) (lo' := [some (2, l0)]) (z := l0) rfl rfl rfl rfl, r1 tb183_ (pc := 189) (pc' := 191) (lo' := [some (2, l0)]) rfl rfl rfl, r96 tb183_ (pc := 191) (pc' := 193) (lo' := [some (2, l0)]) rfl rfl rfl rfl]
theorem e183_193 (d : Nat) (l0 k0 k1 : Int) (s : Stt) : Rn d 183 193 [some (2, l0)] [(2, k1), (2, k0)] s = if oP s k0 11 then (Rn d 183 196 [some (2, l0)] [] (sU s k0 38 k1)) else none := by
  conv => lhs; rw [r56 tb183_ (pc := 193) (pc' := 196) (lo' := [some (2, l0)]) (t := 2) rfl rfl rfl rfl rfl]
theorem e183_196 (d : Nat) (l0 : Int) (s : Stt) : Rn d 183 196 [some (2, l0)] [] s = Rn d 183 201 [some (2, l0)] [(2, (s.1.1 + 1)), (2, l0)] (newS s 100 23) := by
  conv => lhs; rw [r12 tb183_ (pc := 196) (pc' := 197) (lo' := [some (2, l0)]) (z := l0) rfl rfl rfl rfl, r1 tb183_ (pc := 197) (pc' := 199) (lo' := [some (2, l0)]) rfl rfl rfl, r96 tb183_ (pc := 199) (pc' := 201) (lo' := [some (2, l0)]) rfl rfl rfl rfl]
theorem e183_201 (d : Nat) (l0 k0 k1 : Int) (s : Stt) : Rn d 183 201 [some (2, l0)] [(2, k1), (2, k0)] s = if oP s k0 11 then (Rn d 183 204 [some (2, l0)] [] (sU s k0 39 k1)) else none := by
  conv => lhs; rw [r56 tb183_ (pc := 201) (pc' := 204) (lo' := [some (2, l0)]) (t := 2) rfl rfl rfl rfl rfl]
theorem e183_204 (d : Nat) (l0 : Int) (s : Stt) : Rn d 183 204 [some (2, l0)] [] s = Rn d 183 210 [some (2, l0)] [(2, (s.1.1 + 1)), (2, l0)] (newS s 100 184) := by
  conv => lhs; rw [r12 tb183_ (pc := 204) (pc' := 205) (lo' := [some (2, l0)]) (z := l0) rfl rfl rfl rfl, r2 tb183_ (pc := 205) (pc' := 208) (lo' := [some (2, l0)]) rfl rfl rfl, r96 tb183_ (pc := 208) (pc' := 210) (lo' := [some (2, l0)]) rfl rfl rfl rfl]
theorem e183_210 (d : Nat) (l0 k0 k1 : Int) (s : Stt) : Rn d 183 210 [some (2, l0)] [(2, k1), (2, k0)] s = if oP s k0 11 then (Rn d 183 213 [some (2, l0)] [] (sU s k0 40 k1)) else none := by
  conv => lhs; rw [r56 tb183_ (pc := 210) (pc' := 213) (lo' := [some (2, l0)]) (t := 2) rfl rfl rfl rfl rfl]
theorem e183_213 (d : Nat) (l0 : Int) (s : Stt) : Rn d 183 213 [some (2, l0)] [] s = Rn d 183 219 [some (2, l0)] [(2, (s.1.1 + 1)), (2, l0)] (newS s 100 184) := by
  conv => lhs; rw [r12 tb183_ (pc := 213) (pc' := 214) (lo' := [some (2, l0)]) (z := l0) rfl rfl rfl rfl, r2 tb183_ (pc := 214) (pc' := 217) (lo' := [some (2, l0)]) rfl rfl rfl, r96 tb183_ (pc := 217) (pc' := 219) (lo' := [some (2, l0)]) rfl rfl rfl rfl]
theorem e183_219 (d : Nat) (l0 k0 k1 : Int) (s : Stt) : Rn d 183 219 [some (2, l0)] [(2, k1), (2, k0)] s = if oP s k0 11 then (Rn d 183 222 [some (2, l0)] [] (sU s k0 41 k1)) else none := by
  conv => lhs; rw [r56 tb183_ (pc := 219) (pc' := 222) (lo' := [some (2, l0)]) (t := 2) rfl rfl rfl rfl rfl]
theorem e183_222 (d : Nat) (l0 : Int) (s : Stt) : Rn d 183 222 [some (2, l0)] [] s = Rn d 183 227 [some (2, l0)] [(2, (s.1.1 + 1)), (2, l0)] (newS s 100 8) := by
  conv => lhs; rw [r12 tb183_ (pc := 222) (pc' := 223) (lo' := [some (2, l0)]) (z := l0) rfl rfl rfl rfl, r1 tb183_ (pc := 223) (pc' := 225) (lo' := [some (2, l0)]) rfl rfl rfl, r96 tb183_ (pc := 225) (pc' := 227) (lo' := [some (2, l0)]) rfl rfl rfl rfl]
theorem e183_227 (d : Nat) (l0 k0 k1 : Int) (s : Stt) : Rn d 183 227 [some (2, l0)] [(2, k1), (2, k0)] s = if oP s k0 11 then (Rn d 183 230 [some (2, l0)] [] (sU s k0 44 k1)) else none := by
  conv => lhs; rw [r56 tb183_ (pc := 227) (pc' := 230) (lo' := [some (2, l0)]) (t := 2) rfl rfl rfl rfl rfl]
theorem e183_230 (d : Nat) (l0 : Int) (s : Stt) : Rn d 183 230 [some (2, l0)] [] s = if oP s l0 11 then (Rn d 183 235 [some (2, l0)] [] (sU s l0 46 (-1))) else none := by
  conv => lhs; rw [r12 tb183_ (pc := 230) (pc' := 231) (lo' := [some (2, l0)]) (z := l0) rfl rfl rfl rfl, r0 tb183_ (pc := 231) (pc' := 232) (lo' := [some (2, l0)]) rfl rfl rfl, r55 tb183_ (pc := 232) (pc' := 235) (lo' := [some (2, l0)]) (t := 0) rfl rfl rfl rfl rfl]
theorem e183_235 (d : Nat) (l0 : Int) (s : Stt) : Rn d 183 235 [some (2, l0)] [] s = if oP s l0 11 then (Rn d 183 240 [some (2, l0)] [] (sU s l0 49 (-1))) else none := by
  conv => lhs; rw [r12 tb183_ (pc := 235) (pc' := 236) (lo' := [some (2, l0)]) (z := l0) rfl rfl rfl rfl, r0 tb183_ (pc := 236) (pc' := 237) (lo' := [some (2, l0)]) rfl rfl rfl, r55 tb183_ (pc := 237) (pc' := 240) (lo' := [some (2, l0)]) (t := 0) rfl rfl rfl rfl rfl]
theorem e183_240 (d : Nat) (l0 : Int) (s : Stt) : Rn d 183 240 [some (2, l0)] [] s = Rn d 183 246 [some (2, l0)] [(2, (s.1.1 + 1)), (2, l0)] (newS s 100 600) := by
  conv => lhs; rw [r12 tb183_ (pc := 240) (pc' := 241) (lo' := [some (2, l0)]) (z := l0) rfl rfl rfl rfl, r2 tb183_ (pc := 241) (pc' := 244) (lo' := [some (2, l0)]) rfl rfl rfl, r96 tb183_ (pc := 244) (pc' := 246) (lo' := [some (2, l0)]) rfl rfl rfl rfl]
theorem e183_246 (d : Nat) (l0 k0 k1 : Int) (s : Stt) : Rn d 183 246 [some (2, l0)] [(2, k1), (2, k0)] s = if oP s k0 11 then (Rn d 183 249 [some (2, l0)] [] (sU s k0 50 k1)) else none := by
  conv => lhs; rw [r56 tb183_ (pc := 246) (pc' := 249) (lo' := [some (2, l0)]) (t := 2) rfl rfl rfl rfl rfl]
theorem e183_249 (d : Nat) (l0 : Int) (s : Stt) : Rn d 183 249 [some (2, l0)] [] s = Rn d 183 255 [some (2, l0)] [(2, (s.1.1 + 1)), (2, l0)] (newS s 100 600) := by
  conv => lhs; rw [r12 tb183_ (pc := 249) (pc' := 250) (lo' := [some (2, l0)]) (z := l0) rfl rfl rfl rfl, r2 tb183_ (pc := 250) (pc' := 253) (lo' := [some (2, l0)]) rfl rfl rfl, r96 tb183_ (pc := 253) (pc' := 255) (lo' := [some (2, l0)]) rfl rfl rfl rfl]
theorem e183_255 (d : Nat) (l0 k0 k1 : Int) (s : Stt) : Rn d 183 255 [some (2, l0)] [(2, k1), (2, k0)] s = if oP s k0 11 then (Rn d 183 258 [some (2, l0)] [] (sU s k0 51 k1)) else none := by
  conv => lhs; rw [r56 tb183_ (pc := 255) (pc' := 258) (lo' := [some (2, l0)]) (t := 2) rfl rfl rfl rfl rfl]
theorem e183_258 (d : Nat) (l0 : Int) (s : Stt) : Rn d 183 258 [some (2, l0)] [] s = Rn d 183 264 [some (2, l0)] [(2, (s.1.1 + 1)), (2, l0)] (newS s 100 600) := by
  conv => lhs; rw [r12 tb183_ (pc := 258) (pc' := 259) (lo' := [some (2, l0)]) (z := l0) rfl rfl rfl rfl, r2 tb183_ (pc := 259) (pc' := 262) (lo' := [some (2, l0)]) rfl rfl rfl, r96 tb183_ (pc := 262) (pc' := 264) (lo' := [some (2, l0)]) rfl rfl rfl rfl]
theorem e183_264 (d : Nat) (l0 k0 k1 : Int) (s : Stt) : Rn d 183 264 [some (2, l0)] [(2, k1), (2, k0)] s = if oP s k0 11 then (Rn d 183 267 [some (2, l0)] [] (sU s k0 52 k1)) else none := by
  conv => lhs; rw [r56 tb183_ (pc := 264) (pc' := 267) (lo' := [some (2, l0)]) (t := 2) rfl rfl rfl rfl rfl]
theorem e183_267 (d : Nat) (l0 : Int) (s : Stt) : Rn d 183 267 [some (2, l0)] [] s = Rn d 183 273 [some (2, l0)] [(2, (s.1.1 + 1)), (2, l0)] (newS s 100 600) := by
  conv => lhs; rw [r12 tb183_ (pc := 267) (pc' := 268) (lo' := [some (2, l0)]) (z := l0) rfl rfl rfl rfl, r2 tb183_ (pc := 268) (pc' := 271) (lo' := [some (2, l0)]) rfl rfl rfl, r96 tb183_ (pc := 271) (pc' := 273) (lo' := [some (2, l0)]) rfl rfl rfl rfl]
theorem e183_273 (d : Nat) (l0 k0 k1 : Int) (s : Stt) : Rn d 183 273 [some (2, l0)] [(2, k1), (2, k0)] s = if oP s k0 11 then (Rn d 183 276 [some (2, l0)] [] (sU s k0 53 k1)) else none := by
  conv => lhs; rw [r56 tb183_ (pc := 273) (pc' := 276) (lo' := [some (2, l0)]) (t := 2) rfl rfl rfl rfl rfl]
theorem e183_276 (d : Nat) (l0 : Int) (s : Stt) : Rn d 183 276 [some (2, l0)] [] s = Rn d 183 282 [some (2, l0)] [(2, (s.1.1 + 1)), (2, l0)] (newS s 100 600) := by
  conv => lhs; rw [r12 tb183_ (pc := 276) (pc' := 277) (lo' := [some (2, l0)]) (z := l0) rfl rfl rfl rfl, r2 tb183_ (pc := 277) (pc' := 280) (lo' := [some (2, l0)]) rfl rfl rfl, r96 tb183_ (pc := 280) (pc' := 282) (lo' := [some (2, l0)]) rfl rfl rfl rfl]
theorem e183_282 (d : Nat) (l0 k0 k1 : Int) (s : Stt) : Rn d 183 282 [some (2, l0)] [(2, k1), (2, k0)] s = if oP s k0 11 then (Rn d 183 285 [some (2, l0)] [] (sU s k0 54 k1)) else none := by
  conv => lhs; rw [r56 tb183_ (pc := 282) (pc' := 285) (lo' := [some (2, l0)]) (t := 2) rfl rfl rfl rfl rfl]
theorem e183_285 (d : Nat) (l0 : Int) (s : Stt) : Rn d 183 285 [some (2, l0)] [] s = Rn d 183 290 [some (2, l0)] [(2, (s.1.1 + 1)), (2, l0)] (newS s 100 16) := by
  conv => lhs; rw [r12 tb183_ (pc := 285) (pc' := 286) (lo' := [some (2, l0)]) (z := l0) rfl rfl rfl rfl, r1 tb183_ (pc := 286) (pc' := 288) (lo' := [some (2, l0)]) rfl rfl rfl, r96 tb183_ (pc := 288) (pc' := 290) (lo' := [some (2, l0)]) rfl rfl rfl rfl]
theorem e183_290 (d : Nat) (l0 k0 k1 : Int) (s : Stt) : Rn d 183 290 [some (2, l0)] [(2, k1), (2, k0)] s = if oP s k0 11 then (Rn d 183 293 [some (2, l0)] [] (sU s k0 57 k1)) else none := by
  conv => lhs; rw [r56 tb183_ (pc := 290) (pc' := 293) (lo' := [some (2, l0)]) (t := 2) rfl rfl rfl rfl rfl]
theorem e183_293 (d : Nat) (l0 : Int) (s : Stt) : Rn d 183 293 [some (2, l0)] [] s = Rn d 183 298 [some (2, l0)] [(2, (s.1.1 + 1)), (2, l0)] (newS s 100 8) := by
  conv => lhs; rw [r12 tb183_ (pc := 293) (pc' := 294) (lo' := [some (2, l0)]) (z := l0) rfl rfl rfl rfl, r1 tb183_ (pc := 294) (pc' := 296) (lo' := [some (2, l0)]) rfl rfl rfl, r96 tb183_ (pc := 296) (pc' := 298) (lo' := [some (2, l0)]) rfl rfl rfl rfl]
theorem e183_298 (d : Nat) (l0 k0 k1 : Int) (s : Stt) : Rn d 183 298 [some (2, l0)] [(2, k1), (2, k0)] s = if oP s k0 11 then (Rn d 183 301 [some (2, l0)] [] (sU s k0 58 k1)) else none := by
  conv => lhs; rw [r56 tb183_ (pc := 298) (pc' := 301) (lo' := [some (2, l0)]) (t := 2) rfl rfl rfl rfl rfl]
theorem e183_301 (d : Nat) (l0 : Int) (s : Stt) : Rn d 183 301 [some (2, l0)] [] s = Rn d 183 306 [some (2, l0)] [(2, (s.1.1 + 1)), (2, l0)] (newS s 102 8) := by
  conv => lhs; rw [r12 tb183_ (pc := 301) (pc' := 302) (lo' := [some (2, l0)]) (z := l0) rfl rfl rfl rfl, r1 tb183_ (pc := 302) (pc' := 304) (lo' := [some (2, l0)]) rfl rfl rfl, r96 tb183_ (pc := 304) (pc' := 306) (lo' := [some (2, l0)]) rfl rfl rfl rfl]
theorem e183_306 (d : Nat) (l0 k0 k1 : Int) (s : Stt) : Rn d 183 306 [some (2, l0)] [(2, k1), (2, k0)] s = if oP s k0 11 then (Rn d 183 309 [some (2, l0)] [] (sU s k0 59 k1)) else none := by
  conv => lhs; rw [r56 tb183_ (pc := 306) (pc' := 309) (lo' := [some (2, l0)]) (t := 2) rfl rfl rfl rfl rfl]
theorem e183_309 (d : Nat) (l0 : Int) (s : Stt) : Rn d 183 309 [some (2, l0)] [] s = Rn d 183 314 [some (2, l0)] [(2, (s.1.1 + 1)), (2, l0)] (newS s 100 8) := by
  conv => lhs; rw [r12 tb183_ (pc := 309) (pc' := 310) (lo' := [some (2, l0)]) (z := l0) rfl rfl rfl rfl, r1 tb183_ (pc := 310) (pc' := 312) (lo' := [some (2, l0)]) rfl rfl rfl, r96 tb183_ (pc := 312) (pc' := 314) (lo' := [some (2, l0)]) rfl rfl rfl rfl]
theorem e183_314 (d : Nat) (l0 k0 k1 : Int) (s : Stt) : Rn d 183 314 [some (2, l0)] [(2, k1), (2, k0)] s = if oP s k0 11 then (Rn d 183 317 [some (2, l0)] [] (sU s k0 60 k1)) else none := by
  conv => lhs; rw [r56 tb183_ (pc := 314) (pc' := 317) (lo' := [some (2, l0)]) (t := 2) rfl rfl rfl rfl rfl]
theorem e183_317 (d : Nat) (l0 : Int) (s : Stt) : Rn d 183 317 [some (2, l0)] [] s = Rn d 183 322 [some (2, l0)] [(2, (s.1.1 + 1)), (2, l0)] (newS s 100 24) := by
  conv => lhs; rw [r12 tb183_ (pc := 317) (pc' := 318) (lo' := [some (2, l0)]) (z := l0) rfl rfl rfl rfl, r1 tb183_ (pc := 318) (pc' := 320) (lo' := [some (2, l0)]) rfl rfl rfl, r96 tb183_ (pc := 320) (pc' := 322) (lo' := [some (2, l0)]) rfl rfl rfl rfl]
theorem e183_322 (d : Nat) (l0 k0 k1 : Int) (s : Stt) : Rn d 183 322 [some (2, l0)] [(2, k1), (2, k0)] s = if oP s k0 11 then (Rn d 183 325 [some (2, l0)] [] (sU s k0 61 k1)) else none := by
  conv => lhs; rw [r56 tb183_ (pc := 322) (pc' := 325) (lo' := [some (2, l0)]) (t := 2) rfl rfl rfl rfl rfl]
theorem e183_325 (d : Nat) (l0 : Int) (s : Stt) : Rn d 183 325 [some (2, l0)] [] s = Rn d 183 331 [some (2, l0)] [(2, (s.1.1 + 1)), (2, l0)] (newS s 102 128) := by
  conv => lhs; rw [r12 tb183_ (pc := 325) (pc' := 326) (lo' := [some (2, l0)]) (z := l0) rfl rfl rfl rfl, r2 tb183_ (pc := 326) (pc' := 329) (lo' := [some (2, l0)]) rfl rfl rfl, r96 tb183_ (pc := 329) (pc' := 331) (lo' := [some (2, l0)]) rfl rfl rfl rfl]
theorem e183_331 (d : Nat) (l0 k0 k1 : Int) (s : Stt) : Rn d 183 331 [some (2, l0)] [(2, k1), (2, k0)] s = if oP s k0 11 then (Rn d 183 334 [some (2, l0)] [] (sU s k0 62 k1)) else none := by
  conv => lhs; rw [r56 tb183_ (pc := 331) (pc' := 334) (lo' := [some (2, l0)]) (t := 2) rfl rfl rfl rfl rfl]
theorem e183_334 (d : Nat) (l0 : Int) (s : Stt) : Rn d 183 334 [some (2, l0)] [] s = Rn d 183 339 [some (2, l0)] [(2, (s.1.1 + 1)), (2, l0)] (newS s 100 8) := by
  conv => lhs; rw [r12 tb183_ (pc := 334) (pc' := 335) (lo' := [some (2, l0)]) (z := l0) rfl rfl rfl rfl, r1 tb183_ (pc := 335) (pc' := 337) (lo' := [some (2, l0)]) rfl rfl rfl, r96 tb183_ (pc := 337) (pc' := 339) (lo' := [some (2, l0)]) rfl rfl rfl rfl]
theorem e183_339 (d : Nat) (l0 k0 k1 : Int) (s : Stt) : Rn d 183 339 [some (2, l0)] [(2, k1), (2, k0)] s = if oP s k0 11 then (Rn d 183 342 [some (2, l0)] [] (sU s k0 63 k1)) else none := by
  conv => lhs; rw [r56 tb183_ (pc := 339) (pc' := 342) (lo' := [some (2, l0)]) (t := 2) rfl rfl rfl rfl rfl]
theorem e183_342 (d : Nat) (l0 : Int) (s : Stt) : Rn d 183 342 [some (2, l0)] [] s = if oP s l0 11 then (Rn d 183 347 [some (2, l0)] [] (sU s l0 65 (-1))) else none := by
  conv => lhs; rw [r12 tb183_ (pc := 342) (pc' := 343) (lo' := [some (2, l0)]) (z := l0) rfl rfl rfl rfl, r0 tb183_ (pc := 343) (pc' := 344) (lo' := [some (2, l0)]) rfl rfl rfl, r55 tb183_ (pc := 344) (pc' := 347) (lo' := [some (2, l0)]) (t := 0) rfl rfl rfl rfl rfl]
theorem e183_347 (d : Nat) (l0 : Int) (s : Stt) : Rn d 183 347 [some (2, l0)] [] s = Rn d 183 352 [some (2, l0)] [(2, (s.1.1 + 1)), (2, l0)] (newS s 100 24) := by
  conv => lhs; rw [r12 tb183_ (pc := 347) (pc' := 348) (lo' := [some (2, l0)]) (z := l0) rfl rfl rfl rfl, r1 tb183_ (pc := 348) (pc' := 350) (lo' := [some (2, l0)]) rfl rfl rfl, r96 tb183_ (pc := 350) (pc' := 352) (lo' := [some (2, l0)]) rfl rfl rfl rfl]
theorem e183_352 (d : Nat) (l0 k0 k1 : Int) (s : Stt) : Rn d 183 352 [some (2, l0)] [(2, k1), (2, k0)] s = if oP s k0 11 then (Rn d 183 355 [some (2, l0)] [] (sU s k0 66 k1)) else none := by
  conv => lhs; rw [r56 tb183_ (pc := 352) (pc' := 355) (lo' := [some (2, l0)]) (t := 2) rfl rfl rfl rfl rfl]
theorem e183_355 (d : Nat) (l0 : Int) (s : Stt) : Rn d 183 355 [some (2, l0)] [] s = Rn d 183 360 [some (2, l0)] [(2, (s.1.1 + 1)), (2, l0)] (newS s 100 24) := by
  conv => lhs; rw [r12 tb183_ (pc := 355) (pc' := 356) (lo' := [some (2, l0)]) (z := l0) rfl rfl rfl rfl, r1 tb183_ (pc := 356) (pc' := 358) (lo' := [some (2, l0)]) rfl rfl rfl, r96 tb183_ (pc := 358) (pc' := 360) (lo' := [some (2, l0)]) rfl rfl rfl rfl]
theorem e183_360 (d : Nat) (l0 k0 k1 : Int) (s : Stt) : Rn d 183 360 [some (2, l0)] [(2, k1), (2, k0)] s = if oP s k0 11 then (Rn d 183 363 [some (2, l0)] [] (sU s k0 67 k1)) else none := by
  conv => lhs; rw [r56 tb183_ (pc := 360) (pc' := 363) (lo' := [some (2, l0)]) (t := 2) rfl rfl rfl rfl rfl]
theorem e183_363 (d : Nat) (l0 : Int) (s : Stt) : Rn d 183 363 [some (2, l0)] [] s = Rn d 183 368 [some (2, l0)] [(2, (s.1.1 + 1)), (2, l0)] (newS s 102 24) := by
  conv => lhs; rw [r12 tb183_ (pc := 363) (pc' := 364) (lo' := [some (2, l0)]) (z := l0) rfl rfl rfl rfl, r1 tb183_ (pc := 364) (pc' := 366) (lo' := [some (2, l0)]) rfl rfl rfl, r96 tb183_ (pc := 366) (pc' := 368) (lo' := [some (2, l0)]) rfl rfl rfl rfl]
theorem e183_368 (d : Nat) (l0 k0 k1 : Int) (s : Stt) : Rn d 183 368 [some (2, l0)] [(2, k1), (2, k0)] s = if oP s k0 11 then (Rn d 183 371 [some (2, l0)] [] (sU s k0 68 k1)) else none := by
  conv => lhs; rw [r56 tb183_ (pc := 368) (pc' := 371) (lo' := [some (2, l0)]) (t := 2) rfl rfl rfl rfl rfl]
theorem e183_371 (d : Nat) (l0 : Int) (s : Stt) : Rn d 183 371 [some (2, l0)] [] s = Rn d 183 376 [some (2, l0)] [(2, (s.1.1 + 1)), (2, l0)] (newS s 100 24) := by
  conv => lhs; rw [r12 tb183_ (pc := 371) (pc' := 372) (lo' := [some (2, l0)]) (z := l0) rfl rfl rfl rfl, r1 tb183_ (pc := 372) (pc' := 374) (lo' := [some (2, l0)]) rfl rfl rfl, r96 tb183_ (pc := 374) (pc' := 376) (lo' := [some (2, l0)]) rfl rfl rfl rfl]
theorem e183_376 (d : Nat) (l0 k0 k1 : Int) (s : Stt) : Rn d 183 376 [some (2, l0)] [(2, k1), (2, k0)] s = if oP s k0 11 then (Rn d 183 379 [some (2, l0)] [] (sU s k0 69 k1)) else none := by
  conv => lhs; rw [r56 tb183_ (pc := 376) (pc' := 379) (lo' := [some (2, l0)]) (t := 2) rfl rfl rfl rfl rfl]
theorem e183_379 (d : Nat) (l0 : Int) (s : Stt) : Rn d 183 379 [some (2, l0)] [] s = Rn d 183 384 [some (2, l0)] [(2, (s.1.1 + 1)), (2, l0)] (newS s 102 24) := by
  conv => lhs; rw [r12 tb183_ (pc := 379) (pc' := 380) (lo' := [some (2, l0)]) (z := l0) rfl rfl rfl rfl, r1 tb183_ (pc := 380) (pc' := 382) (lo' := [some (2, l0)]) rfl rfl rfl, r96 tb183_ (pc := 382) (pc' := 384) (lo' := [some (2, l0)]) rfl rfl rfl rfl]
theorem e183_384 (d : Nat) (l0 k0 k1 : Int) (s : Stt) : Rn d 183 384 [some (2, l0)] [(2, k1), (2, k0)] s = if oP s k0 11 then (Rn d 183 387 [some (2, l0)] [] (sU s k0 70 k1)) else none := by
  conv => lhs; rw [r56 tb183_ (pc := 384) (pc' := 387) (lo' := [some (2, l0)]) (t := 2) rfl rfl rfl rfl rfl]
theorem e183_387 (d : Nat) (l0 : Int) (s : Stt) : Rn d 183 387 [some (2, l0)] [] s = Rn d 183 392 [some (2, l0)] [(2, (s.1.1 + 1)), (2, l0)] (newS s 100 16) := by
  conv => lhs; rw [r12 tb183_ (pc := 387) (pc' := 388) (lo' := [some (2, l0)]) (z := l0) rfl rfl rfl rfl, r1 tb183_ (pc := 388) (pc' := 390) (lo' := [some (2, l0)]) rfl rfl rfl, r96 tb183_ (pc := 390) (pc' := 392) (lo' := [some (2, l0)]) rfl rfl rfl rfl]
theorem e183_392 (d : Nat) (l0 k0 k1 : Int) (s : Stt) : Rn d 183 392 [some (2, l0)] [(2, k1), (2, k0)] s = if oP s k0 11 then (Rn d 183 395 [some (2, l0)] [] (sU s k0 71 k1)) else none := by
  conv => lhs; rw [r56 tb183_ (pc := 392) (pc' := 395) (lo' := [some (2, l0)]) (t := 2) rfl rfl rfl rfl rfl]
theorem e183_395 (d : Nat) (l0 : Int) (s : Stt) : Rn d 183 395 [some (2, l0)] [] s = if kd s l0 = 11 then (cK (den d 228 [(2, l0)] s) (fun v s1 => Rn d 183 399 [some (2, l0)] (pushR v []) s1)) else none := by
  conv => lhs; rw [r12 tb183_ (pc := 395) (pc' := 396) (lo' := [some (2, l0)]) (z := l0) rfl rfl rfl rfl, r80 tb183_ (pc := 396) (pc' := 399) (lo' := [some (2, l0)]) (mm := 228) (as := [(2, l0)]) (rest := []) (r := l0) (ci := 11) rfl rfl rfl rfl rfl rfl rfl rfl rfl]
theorem e183_399 (d : Nat) (l0 : Int) (s : Stt) : Rn d 183 399 [some (2, l0)] [] s = some ((9, 0), s) := by
  conv => lhs; rw [r93 tb183_ (pc := 399) rfl]
/-- L_law -/
theorem e326_0 (d : Nat) (l0 : Int) (s : Stt) : Rn d 326 0 [some (2, l0), none, none, none, none, none, none] [] s = Rn d 326 3 [some (2, l0), none, none, none, none, none, none] [(2, (s.1.1 + 1))] (newS s 10 10) := by
  conv => lhs; rw [r95 tb326_ (pc := 0) (pc' := 3) (lo' := [some (2, l0), none, none, none, none, none, none]) (n := 10) rfl rfl rfl rfl]
theorem e326_3 (d : Nat) (l0 k0 : Int) (s : Stt) : Rn d 326 3 [some (2, l0), none, none, none, none, none, none] [(2, k0)] s = if kd s k0 = 10 then (cK (den d 136 [(2, k0)] s) (fun v s1 => Rn d 326 7 [some (2, l0), none, none, none, none, none, none] (pushR v [(2, k0)]) s1)) else none := by
  conv => lhs; rw [r21_2 tb326_ (pc := 3) (pc' := 4) (lo' := [some (2, l0), none, none, none, none, none, none]) rfl rfl rfl, r82 tb326_ (pc := 4) (pc' := 7) (lo' := [some (2, l0), none, none, none, none, none, none]) (mm := 136) (as := [(2, k0)]) (rest := [(2, k0)]) (r := k0) (ci := 10) rfl rfl rfl rfl rfl rfl rfl rfl rfl]
theorem e326_7 (d : Nat) (l0 k0 : Int) (s : Stt) : Rn d 326 7 [some (2, l0), none, none, none, none, none, none] [(2, k0)] s = Rn d 326 11 [some (2, l0), some (2, k0), none, none, none, none, none] [(2, (s.1.1 + 1))] (newS s 11 72) := by
  conv => lhs; rw [r18 tb326_ (pc := 7) (pc' := 8) (lo' := [some (2, l0), none, none, none, none, none, none]) (z := k0) (lo2 := [some (2, l0), some (2, k0), none, none, none, none, none]) rfl rfl rfl rfl rfl, r95 tb326_ (pc := 8) (pc' := 11) (lo' := [some (2, l0), some (2, k0), none, none, none, none, none]) (n := 72) rfl rfl rfl rfl]
theorem e326_11 (d : Nat) (l0 l1 k0 : Int) (s : Stt) : Rn d 326 11 [some (2, l0), some (2, l1), none, none, none, none, none] [(2, k0)] s = if kd s k0 = 11 then (cK (den d 183 [(2, k0)] s) (fun v s1 => Rn d 326 15 [some (2, l0), some (2, l1), none, none, none, none, none] (pushR v [(2, k0)]) s1)) else none := by
  conv => lhs; rw [r21_2 tb326_ (pc := 11) (pc' := 12) (lo' := [some (2, l0), some (2, l1), none, none, none, none, none]) rfl rfl rfl, r82 tb326_ (pc := 12) (pc' := 15) (lo' := [some (2, l0), some (2, l1), none, none, none, none, none]) (mm := 183) (as := [(2, k0)]) (rest := [(2, k0)]) (r := k0) (ci := 11) rfl rfl rfl rfl rfl rfl rfl rfl rfl]
theorem e326_15 (d : Nat) (l0 l1 k0 : Int) (s : Stt) : Rn d 326 15 [some (2, l0), some (2, l1), none, none, none, none, none] [(2, k0)] s = Rn d 326 19 [some (2, l0), some (2, l1), some (2, k0), none, none, none, none] [(2, (s.1.1 + 1))] (newS s 101 1) := by
  conv => lhs; rw [r18 tb326_ (pc := 15) (pc' := 16) (lo' := [some (2, l0), some (2, l1), none, none, none, none, none]) (z := k0) (lo2 := [some (2, l0), some (2, l1), some (2, k0), none, none, none, none]) rfl rfl rfl rfl rfl, r0 tb326_ (pc := 16) (pc' := 17) (lo' := [some (2, l0), some (2, l1), some (2, k0), none, none, none, none]) rfl rfl rfl, r96 tb326_ (pc := 17) (pc' := 19) (lo' := [some (2, l0), some (2, l1), some (2, k0), none, none, none, none]) rfl rfl rfl rfl]
theorem e326_19 (d : Nat) (l0 l1 l2 k0 : Int) (s : Stt) : Rn d 326 19 [some (2, l0), some (2, l1), some (2, l2), none, none, none, none] [(2, k0)] s = Rn d 326 23 [some (2, l0), some (2, l1), some (2, l2), some (2, k0), some (0, 0), none, none] [] s := by
  conv => lhs; rw [r18 tb326_ (pc := 19) (pc' := 20) (lo' := [some (2, l0), some (2, l1), some (2, l2), none, none, none, none]) (z := k0) (lo2 := [some (2, l0), some (2, l1), some (2, l2), some (2, k0), none, none, none]) rfl rfl rfl rfl rfl, r0 tb326_ (pc := 20) (pc' := 21) (lo' := [some (2, l0), some (2, l1), some (2, l2), some (2, k0), none, none, none]) rfl rfl rfl, r15 tb326_ (pc := 21) (pc' := 23) (lo' := [some (2, l0), some (2, l1), some (2, l2), some (2, k0), none, none, none]) (z := 0) (lo2 := [some (2, l0), some (2, l1), some (2, l2), some (2, k0), some (0, 0), none, none]) rfl rfl rfl rfl rfl]
