/-! Every method keeps its rules -/
theorem mok_len : mtab.length = 327 := by decide +kernel
theorem mok_of {lo c k : Nat} (h : (List.range c).all (fun k => mOk (lo + k)) = true) (h1 : lo ≤ k) (h2 : k < lo + c) : mOk k = true := by
  have := List.all_eq_true.mp h (k - lo) (List.mem_range.mpr (by omega))
  rw [show lo + (k - lo) = k by omega] at this
  exact this
theorem mok_all : ∀ k, k < mtab.length → mOkF k = true := by
  intro k hk
  rw [mok_len] at hk
  rcases Nat.lt_or_ge k 2 with h | h0
  · exact mOkF_of (mok_of mokg_0 (by omega) (by omega))
  rcases Nat.lt_or_ge k 3 with h | h2
  · have e : k = 2 := by omega
    rw [e]
    exact mOkF_of mokw_2
  rcases Nat.lt_or_ge k 4 with h | h3
  · exact mOkF_of (mok_of mokg_3 (by omega) (by omega))
  rcases Nat.lt_or_ge k 5 with h | h4
  · have e : k = 4 := by omega
    rw [e]
    exact mOkF_of mokw_4
  rcases Nat.lt_or_ge k 10 with h | h5
  · exact mOkF_of (mok_of mokg_5 (by omega) (by omega))
  rcases Nat.lt_or_ge k 13 with h | h10
  · exact mOkF_of (mok_of mokg_10 (by omega) (by omega))
  rcases Nat.lt_or_ge k 16 with h | h13
  · exact mOkF_of (mok_of mokg_13 (by omega) (by omega))
  rcases Nat.lt_or_ge k 17 with h | h16
  · exact mOkF_of (mok_of mokg_16 (by omega) (by omega))
  rcases Nat.lt_or_ge k 19 with h | h17
  · exact mOkF_of (mok_of mokg_17 (by omega) (by omega))
  rcases Nat.lt_or_ge k 22 with h | h19
  · exact mOkF_of (mok_of mokg_19 (by omega) (by omega))
  rcases Nat.lt_or_ge k 24 with h | h22
  · exact mOkF_of (mok_of mokg_22 (by omega) (by omega))
  rcases Nat.lt_or_ge k 26 with h | h24
  · exact mOkF_of (mok_of mokg_24 (by omega) (by omega))
  rcases Nat.lt_or_ge k 29 with h | h26
  · exact mOkF_of (mok_of mokg_26 (by omega) (by omega))
  rcases Nat.lt_or_ge k 31 with h | h29
  · exact mOkF_of (mok_of mokg_29 (by omega) (by omega))
  rcases Nat.lt_or_ge k 35 with h | h31
  · exact mOkF_of (mok_of mokg_31 (by omega) (by omega))
  rcases Nat.lt_or_ge k 37 with h | h35
  · exact mOkF_of (mok_of mokg_35 (by omega) (by omega))
  rcases Nat.lt_or_ge k 40 with h | h37
  · exact mOkF_of (mok_of mokg_37 (by omega) (by omega))
  rcases Nat.lt_or_ge k 42 with h | h40
  · exact mOkF_of (mok_of mokg_40 (by omega) (by omega))
  rcases Nat.lt_or_ge k 43 with h | h42
  · have e : k = 42 := by omega
    rw [e]
    exact mOkF_of mokw_42
  rcases Nat.lt_or_ge k 46 with h | h43
  · exact mOkF_of (mok_of mokg_43 (by omega) (by omega))
  rcases Nat.lt_or_ge k 48 with h | h46
  · exact mOkF_of (mok_of mokg_46 (by omega) (by omega))
  rcases Nat.lt_or_ge k 49 with h | h48
  · exact mOkF_of (mok_of mokg_48 (by omega) (by omega))
  rcases Nat.lt_or_ge k 50 with h | h49
  · have e : k = 49 := by omega
    rw [e]
    exact mOkF_of mokw_49
  rcases Nat.lt_or_ge k 53 with h | h50
  · exact mOkF_of (mok_of mokg_50 (by omega) (by omega))
  rcases Nat.lt_or_ge k 56 with h | h53
  · exact mOkF_of (mok_of mokg_53 (by omega) (by omega))
  rcases Nat.lt_or_ge k 57 with h | h56
  · exact mOkF_of (mok_of mokg_56 (by omega) (by omega))
  rcases Nat.lt_or_ge k 58 with h | h57
  · exact mOkF_of (mok_of mokg_57 (by omega) (by omega))
  rcases Nat.lt_or_ge k 59 with h | h58
  · exact mOkF_of (mok_of mokg_58 (by omega) (by omega))
  rcases Nat.lt_or_ge k 60 with h | h59
  · exact mOkF_of (mok_of mokg_59 (by omega) (by omega))
  rcases Nat.lt_or_ge k 61 with h | h60
  · exact mOkF_of (mok_of mokg_60 (by omega) (by omega))
  rcases Nat.lt_or_ge k 62 with h | h61
  · exact mOkF_of (mok_of mokg_61 (by omega) (by omega))
  rcases Nat.lt_or_ge k 63 with h | h62
  · exact mOkF_of (mok_of mokg_62 (by omega) (by omega))
  rcases Nat.lt_or_ge k 64 with h | h63
  · have e : k = 63 := by omega
    rw [e]
    exact mOkF_of mokw_63
  rcases Nat.lt_or_ge k 67 with h | h64
  · exact mOkF_of (mok_of mokg_64 (by omega) (by omega))
  rcases Nat.lt_or_ge k 69 with h | h67
  · exact mOkF_of (mok_of mokg_67 (by omega) (by omega))
  rcases Nat.lt_or_ge k 70 with h | h69
  · exact mOkF_of (mok_of mokg_69 (by omega) (by omega))
  rcases Nat.lt_or_ge k 72 with h | h70
  · exact mOkF_of (mok_of mokg_70 (by omega) (by omega))
  rcases Nat.lt_or_ge k 73 with h | h72
  · have e : k = 72 := by omega
    rw [e]
    exact mOkF_of mokw_72
  rcases Nat.lt_or_ge k 74 with h | h73
  · have e : k = 73 := by omega
    rw [e]
    exact mOkF_of mokw_73
  rcases Nat.lt_or_ge k 76 with h | h74
  · exact mOkF_of (mok_of mokg_74 (by omega) (by omega))
  rcases Nat.lt_or_ge k 77 with h | h76
  · have e : k = 76 := by omega
    rw [e]
    exact mOkF_of mokw_76
  rcases Nat.lt_or_ge k 78 with h | h77
  · exact mOkF_of (mok_of mokg_77 (by omega) (by omega))
  rcases Nat.lt_or_ge k 79 with h | h78
  · have e : k = 78 := by omega
    rw [e]
    exact mOkF_of mokw_78
  rcases Nat.lt_or_ge k 80 with h | h79
  · exact mOkF_of (mok_of mokg_79 (by omega) (by omega))
  rcases Nat.lt_or_ge k 81 with h | h80
  · have e : k = 80 := by omega
    rw [e]
    exact mOkF_of mokw_80
  rcases Nat.lt_or_ge k 82 with h | h81
  · have e : k = 81 := by omega
    rw [e]
    exact mOkF_of mokw_81
  rcases Nat.lt_or_ge k 84 with h | h82
  · exact mOkF_of (mok_of mokg_82 (by omega) (by omega))
  rcases Nat.lt_or_ge k 85 with h | h84
  · exact mOkF_of (mok_of mokg_84 (by omega) (by omega))
  rcases Nat.lt_or_ge k 87 with h | h85
  · exact mOkF_of (mok_of mokg_85 (by omega) (by omega))
  rcases Nat.lt_or_ge k 90 with h | h87
  · exact mOkF_of (mok_of mokg_87 (by omega) (by omega))
  rcases Nat.lt_or_ge k 92 with h | h90
  · exact mOkF_of (mok_of mokg_90 (by omega) (by omega))
  rcases Nat.lt_or_ge k 93 with h | h92
  · exact mOkF_of (mok_of mokg_92 (by omega) (by omega))
  rcases Nat.lt_or_ge k 94 with h | h93
  · exact mOkF_of (mok_of mokg_93 (by omega) (by omega))
  rcases Nat.lt_or_ge k 95 with h | h94
  · exact mOkF_of (mok_of mokg_94 (by omega) (by omega))
  rcases Nat.lt_or_ge k 97 with h | h95
  · exact mOkF_of (mok_of mokg_95 (by omega) (by omega))
  rcases Nat.lt_or_ge k 100 with h | h97
  · exact mOkF_of (mok_of mokg_97 (by omega) (by omega))
  rcases Nat.lt_or_ge k 103 with h | h100
  · exact mOkF_of (mok_of mokg_100 (by omega) (by omega))
  rcases Nat.lt_or_ge k 104 with h | h103
  · exact mOkF_of (mok_of mokg_103 (by omega) (by omega))
  rcases Nat.lt_or_ge k 105 with h | h104
  · have e : k = 104 := by omega
    rw [e]
    exact mOkF_of mokw_104
  rcases Nat.lt_or_ge k 106 with h | h105
  · exact mOkF_of (mok_of mokg_105 (by omega) (by omega))
  rcases Nat.lt_or_ge k 108 with h | h106
  · exact mOkF_of (mok_of mokg_106 (by omega) (by omega))
  rcases Nat.lt_or_ge k 109 with h | h108
  · have e : k = 108 := by omega
    rw [e]
    exact mOkF_of mokw_108
  rcases Nat.lt_or_ge k 110 with h | h109
  · exact mOkF_of (mok_of mokg_109 (by omega) (by omega))
  rcases Nat.lt_or_ge k 113 with h | h110
  · exact mOkF_of (mok_of mokg_110 (by omega) (by omega))
  rcases Nat.lt_or_ge k 116 with h | h113
  · exact mOkF_of (mok_of mokg_113 (by omega) (by omega))
  rcases Nat.lt_or_ge k 117 with h | h116
  · have e : k = 116 := by omega
    rw [e]
    exact mOkF_of mokw_116
  rcases Nat.lt_or_ge k 119 with h | h117
  · exact mOkF_of (mok_of mokg_117 (by omega) (by omega))
  rcases Nat.lt_or_ge k 120 with h | h119
  · exact mOkF_of (mok_of mokg_119 (by omega) (by omega))
  rcases Nat.lt_or_ge k 121 with h | h120
  · exact mOkF_of (mok_of mokg_120 (by omega) (by omega))
  rcases Nat.lt_or_ge k 122 with h | h121
  · exact mOkF_of (mok_of mokg_121 (by omega) (by omega))
  rcases Nat.lt_or_ge k 126 with h | h122
  · exact mOkF_of (mok_of mokg_122 (by omega) (by omega))
  rcases Nat.lt_or_ge k 127 with h | h126
  · exact mOkF_of (mok_of mokg_126 (by omega) (by omega))
  rcases Nat.lt_or_ge k 128 with h | h127
  · have e : k = 127 := by omega
    rw [e]
    exact mOkF_of mokw_127
  rcases Nat.lt_or_ge k 129 with h | h128
  · exact mOkF_of (mok_of mokg_128 (by omega) (by omega))
  rcases Nat.lt_or_ge k 130 with h | h129
  · exact mOkF_of (mok_of mokg_129 (by omega) (by omega))
  rcases Nat.lt_or_ge k 132 with h | h130
  · exact mOkF_of (mok_of mokg_130 (by omega) (by omega))
  rcases Nat.lt_or_ge k 133 with h | h132
  · have e : k = 132 := by omega
    rw [e]
    exact mOkF_of mokw_132
  rcases Nat.lt_or_ge k 135 with h | h133
  · exact mOkF_of (mok_of mokg_133 (by omega) (by omega))
  rcases Nat.lt_or_ge k 136 with h | h135
  · have e : k = 135 := by omega
    rw [e]
    exact mOkF_of mokw_135
  rcases Nat.lt_or_ge k 137 with h | h136
  · have e : k = 136 := by omega
    rw [e]
    exact mOkF_of mokw_136
  rcases Nat.lt_or_ge k 138 with h | h137
  · exact mOkF_of (mok_of mokg_137 (by omega) (by omega))
  rcases Nat.lt_or_ge k 139 with h | h138
  · have e : k = 138 := by omega
    rw [e]
    exact mOkF_of mokw_138
  rcases Nat.lt_or_ge k 141 with h | h139
  · exact mOkF_of (mok_of mokg_139 (by omega) (by omega))
  rcases Nat.lt_or_ge k 142 with h | h141
  · have e : k = 141 := by omega
    rw [e]
    exact mOkF_of mokw_141
  rcases Nat.lt_or_ge k 143 with h | h142
  · exact mOkF_of (mok_of mokg_142 (by omega) (by omega))
  rcases Nat.lt_or_ge k 145 with h | h143
  · exact mOkF_of (mok_of mokg_143 (by omega) (by omega))
  rcases Nat.lt_or_ge k 146 with h | h145
  · exact mOkF_of (mok_of mokg_145 (by omega) (by omega))
  rcases Nat.lt_or_ge k 147 with h | h146
  · exact mOkF_of (mok_of mokg_146 (by omega) (by omega))
  rcases Nat.lt_or_ge k 148 with h | h147
  · exact mOkF_of (mok_of mokg_147 (by omega) (by omega))
  rcases Nat.lt_or_ge k 149 with h | h148
  · exact mOkF_of (mok_of mokg_148 (by omega) (by omega))
  rcases Nat.lt_or_ge k 150 with h | h149
  · exact mOkF_of (mok_of mokg_149 (by omega) (by omega))
  rcases Nat.lt_or_ge k 151 with h | h150
  · have e : k = 150 := by omega
    rw [e]
    exact mOkF_of mokw_150
  rcases Nat.lt_or_ge k 152 with h | h151
  · exact mOkF_of (mok_of mokg_151 (by omega) (by omega))
  rcases Nat.lt_or_ge k 154 with h | h152
  · exact mOkF_of (mok_of mokg_152 (by omega) (by omega))
  rcases Nat.lt_or_ge k 156 with h | h154
  · exact mOkF_of (mok_of mokg_154 (by omega) (by omega))
  rcases Nat.lt_or_ge k 157 with h | h156
  · have e : k = 156 := by omega
    rw [e]
    exact mOkF_of mokw_156
  rcases Nat.lt_or_ge k 159 with h | h157
  · exact mOkF_of (mok_of mokg_157 (by omega) (by omega))
  rcases Nat.lt_or_ge k 161 with h | h159
  · exact mOkF_of (mok_of mokg_159 (by omega) (by omega))
  rcases Nat.lt_or_ge k 163 with h | h161
  · exact mOkF_of (mok_of mokg_161 (by omega) (by omega))
  rcases Nat.lt_or_ge k 164 with h | h163
  · have e : k = 163 := by omega
    rw [e]
    exact mOkF_of mokw_163
  rcases Nat.lt_or_ge k 165 with h | h164
  · exact mOkF_of (mok_of mokg_164 (by omega) (by omega))
  rcases Nat.lt_or_ge k 167 with h | h165
  · exact mOkF_of (mok_of mokg_165 (by omega) (by omega))
  rcases Nat.lt_or_ge k 171 with h | h167
  · exact mOkF_of (mok_of mokg_167 (by omega) (by omega))
  rcases Nat.lt_or_ge k 172 with h | h171
  · exact mOkF_of (mok_of mokg_171 (by omega) (by omega))
  rcases Nat.lt_or_ge k 173 with h | h172
  · exact mOkF_of (mok_of mokg_172 (by omega) (by omega))
  rcases Nat.lt_or_ge k 174 with h | h173
  · have e : k = 173 := by omega
    rw [e]
    exact mOkF_of mokw_173
  rcases Nat.lt_or_ge k 177 with h | h174
  · exact mOkF_of (mok_of mokg_174 (by omega) (by omega))
  rcases Nat.lt_or_ge k 178 with h | h177
  · have e : k = 177 := by omega
    rw [e]
    exact mOkF_of mokw_177
  rcases Nat.lt_or_ge k 183 with h | h178
  · exact mOkF_of (mok_of mokg_178 (by omega) (by omega))
  rcases Nat.lt_or_ge k 184 with h | h183
  · have e : k = 183 := by omega
    rw [e]
    exact mOkF_of mokw_183
  rcases Nat.lt_or_ge k 188 with h | h184
  · exact mOkF_of (mok_of mokg_184 (by omega) (by omega))
  rcases Nat.lt_or_ge k 189 with h | h188
  · exact mOkF_of (mok_of mokg_188 (by omega) (by omega))
  rcases Nat.lt_or_ge k 190 with h | h189
  · have e : k = 189 := by omega
    rw [e]
    exact mOkF_of mokw_189
  rcases Nat.lt_or_ge k 191 with h | h190
  · have e : k = 190 := by omega
    rw [e]
    exact mOkF_of mokw_190
  rcases Nat.lt_or_ge k 192 with h | h191
  · have e : k = 191 := by omega
    rw [e]
    exact mOkF_of mokw_191
  rcases Nat.lt_or_ge k 197 with h | h192
  · exact mOkF_of (mok_of mokg_192 (by omega) (by omega))
  rcases Nat.lt_or_ge k 199 with h | h197
  · exact mOkF_of (mok_of mokg_197 (by omega) (by omega))
  rcases Nat.lt_or_ge k 202 with h | h199
  · exact mOkF_of (mok_of mokg_199 (by omega) (by omega))
  rcases Nat.lt_or_ge k 204 with h | h202
  · exact mOkF_of (mok_of mokg_202 (by omega) (by omega))
  rcases Nat.lt_or_ge k 205 with h | h204
  · exact mOkF_of (mok_of mokg_204 (by omega) (by omega))
  rcases Nat.lt_or_ge k 206 with h | h205
  · have e : k = 205 := by omega
    rw [e]
    exact mOkF_of mokw_205
  rcases Nat.lt_or_ge k 207 with h | h206
  · exact mOkF_of (mok_of mokg_206 (by omega) (by omega))
  rcases Nat.lt_or_ge k 208 with h | h207
  · have e : k = 207 := by omega
    rw [e]
    exact mOkF_of mokw_207
  rcases Nat.lt_or_ge k 209 with h | h208
  · exact mOkF_of (mok_of mokg_208 (by omega) (by omega))
  rcases Nat.lt_or_ge k 210 with h | h209
  · have e : k = 209 := by omega
    rw [e]
    exact mOkF_of mokw_209
  rcases Nat.lt_or_ge k 212 with h | h210
  · exact mOkF_of (mok_of mokg_210 (by omega) (by omega))
  rcases Nat.lt_or_ge k 213 with h | h212
  · exact mOkF_of (mok_of mokg_212 (by omega) (by omega))
  rcases Nat.lt_or_ge k 214 with h | h213
  · exact mOkF_of (mok_of mokg_213 (by omega) (by omega))
  rcases Nat.lt_or_ge k 215 with h | h214
  · have e : k = 214 := by omega
    rw [e]
    exact mOkF_of mokw_214
  rcases Nat.lt_or_ge k 216 with h | h215
  · exact mOkF_of (mok_of mokg_215 (by omega) (by omega))
  rcases Nat.lt_or_ge k 217 with h | h216
  · exact mOkF_of (mok_of mokg_216 (by omega) (by omega))
  rcases Nat.lt_or_ge k 218 with h | h217
  · have e : k = 217 := by omega
    rw [e]
    exact mOkF_of mokw_217
  rcases Nat.lt_or_ge k 219 with h | h218
  · exact mOkF_of (mok_of mokg_218 (by omega) (by omega))
  rcases Nat.lt_or_ge k 220 with h | h219
  · have e : k = 219 := by omega
    rw [e]
    exact mOkF_of mokw_219
  rcases Nat.lt_or_ge k 223 with h | h220
  · exact mOkF_of (mok_of mokg_220 (by omega) (by omega))
  rcases Nat.lt_or_ge k 224 with h | h223
  · have e : k = 223 := by omega
    rw [e]
    exact mOkF_of mokw_223
  rcases Nat.lt_or_ge k 226 with h | h224
  · exact mOkF_of (mok_of mokg_224 (by omega) (by omega))
  rcases Nat.lt_or_ge k 227 with h | h226
  · exact mOkF_of (mok_of mokg_226 (by omega) (by omega))
  rcases Nat.lt_or_ge k 228 with h | h227
  · exact mOkF_of (mok_of mokg_227 (by omega) (by omega))
  rcases Nat.lt_or_ge k 229 with h | h228
  · exact mOkF_of (mok_of mokg_228 (by omega) (by omega))
  rcases Nat.lt_or_ge k 230 with h | h229
  · have e : k = 229 := by omega
    rw [e]
    exact mOkF_of mokw_229
  rcases Nat.lt_or_ge k 236 with h | h230
  · exact mOkF_of (mok_of mokg_230 (by omega) (by omega))
  rcases Nat.lt_or_ge k 239 with h | h236
  · exact mOkF_of (mok_of mokg_236 (by omega) (by omega))
  rcases Nat.lt_or_ge k 241 with h | h239
  · exact mOkF_of (mok_of mokg_239 (by omega) (by omega))
  rcases Nat.lt_or_ge k 243 with h | h241
  · exact mOkF_of (mok_of mokg_241 (by omega) (by omega))
  rcases Nat.lt_or_ge k 245 with h | h243
  · exact mOkF_of (mok_of mokg_243 (by omega) (by omega))
  rcases Nat.lt_or_ge k 246 with h | h245
  · exact mOkF_of (mok_of mokg_245 (by omega) (by omega))
  rcases Nat.lt_or_ge k 247 with h | h246
  · have e : k = 246 := by omega
    rw [e]
    exact mOkF_of mokw_246
  rcases Nat.lt_or_ge k 248 with h | h247
  · exact mOkF_of (mok_of mokg_247 (by omega) (by omega))
  rcases Nat.lt_or_ge k 250 with h | h248
  · exact mOkF_of (mok_of mokg_248 (by omega) (by omega))
  rcases Nat.lt_or_ge k 251 with h | h250
  · exact mOkF_of (mok_of mokg_250 (by omega) (by omega))
  rcases Nat.lt_or_ge k 252 with h | h251
  · exact mOkF_of (mok_of mokg_251 (by omega) (by omega))
  rcases Nat.lt_or_ge k 254 with h | h252
  · exact mOkF_of (mok_of mokg_252 (by omega) (by omega))
  rcases Nat.lt_or_ge k 255 with h | h254
  · have e : k = 254 := by omega
    rw [e]
    exact mOkF_of mokw_254
  rcases Nat.lt_or_ge k 258 with h | h255
  · exact mOkF_of (mok_of mokg_255 (by omega) (by omega))
  rcases Nat.lt_or_ge k 259 with h | h258
  · exact mOkF_of (mok_of mokg_258 (by omega) (by omega))
  rcases Nat.lt_or_ge k 261 with h | h259
  · exact mOkF_of (mok_of mokg_259 (by omega) (by omega))
  rcases Nat.lt_or_ge k 263 with h | h261
  · exact mOkF_of (mok_of mokg_261 (by omega) (by omega))
  rcases Nat.lt_or_ge k 264 with h | h263
  · exact mOkF_of (mok_of mokg_263 (by omega) (by omega))
  rcases Nat.lt_or_ge k 265 with h | h264
  · have e : k = 264 := by omega
    rw [e]
    exact mOkF_of mokw_264
  rcases Nat.lt_or_ge k 267 with h | h265
  · exact mOkF_of (mok_of mokg_265 (by omega) (by omega))
  rcases Nat.lt_or_ge k 270 with h | h267
  · exact mOkF_of (mok_of mokg_267 (by omega) (by omega))
  rcases Nat.lt_or_ge k 271 with h | h270
  · exact mOkF_of (mok_of mokg_270 (by omega) (by omega))
  rcases Nat.lt_or_ge k 272 with h | h271
  · exact mOkF_of (mok_of mokg_271 (by omega) (by omega))
  rcases Nat.lt_or_ge k 273 with h | h272
  · have e : k = 272 := by omega
    rw [e]
    exact mOkF_of mokw_272
  rcases Nat.lt_or_ge k 276 with h | h273
  · exact mOkF_of (mok_of mokg_273 (by omega) (by omega))
  rcases Nat.lt_or_ge k 277 with h | h276
  · have e : k = 276 := by omega
    rw [e]
    exact mOkF_of mokw_276
  rcases Nat.lt_or_ge k 279 with h | h277
  · exact mOkF_of (mok_of mokg_277 (by omega) (by omega))
  rcases Nat.lt_or_ge k 280 with h | h279
  · have e : k = 279 := by omega
    rw [e]
    exact mOkF_of mokw_279
  rcases Nat.lt_or_ge k 283 with h | h280
  · exact mOkF_of (mok_of mokg_280 (by omega) (by omega))
  rcases Nat.lt_or_ge k 285 with h | h283
  · exact mOkF_of (mok_of mokg_283 (by omega) (by omega))
  rcases Nat.lt_or_ge k 286 with h | h285
  · exact mOkF_of (mok_of mokg_285 (by omega) (by omega))
  rcases Nat.lt_or_ge k 287 with h | h286
  · exact mOkF_of (mok_of mokg_286 (by omega) (by omega))
  rcases Nat.lt_or_ge k 288 with h | h287
  · exact mOkF_of (mok_of mokg_287 (by omega) (by omega))
  rcases Nat.lt_or_ge k 289 with h | h288
  · exact mOkF_of (mok_of mokg_288 (by omega) (by omega))
  rcases Nat.lt_or_ge k 290 with h | h289
  · exact mOkF_of (mok_of mokg_289 (by omega) (by omega))
  rcases Nat.lt_or_ge k 291 with h | h290
  · exact mOkF_of (mok_of mokg_290 (by omega) (by omega))
  rcases Nat.lt_or_ge k 293 with h | h291
  · exact mOkF_of (mok_of mokg_291 (by omega) (by omega))
  rcases Nat.lt_or_ge k 294 with h | h293
  · exact mOkF_of (mok_of mokg_293 (by omega) (by omega))
  rcases Nat.lt_or_ge k 296 with h | h294
  · exact mOkF_of (mok_of mokg_294 (by omega) (by omega))
  rcases Nat.lt_or_ge k 297 with h | h296
  · exact mOkF_of (mok_of mokg_296 (by omega) (by omega))
  rcases Nat.lt_or_ge k 298 with h | h297
  · exact mOkF_of (mok_of mokg_297 (by omega) (by omega))
  rcases Nat.lt_or_ge k 299 with h | h298
  · have e : k = 298 := by omega
    rw [e]
    exact mOkF_of mokw_298
  rcases Nat.lt_or_ge k 300 with h | h299
  · exact mOkF_of (mok_of mokg_299 (by omega) (by omega))
  rcases Nat.lt_or_ge k 302 with h | h300
  · exact mOkF_of (mok_of mokg_300 (by omega) (by omega))
  rcases Nat.lt_or_ge k 303 with h | h302
  · exact mOkF_of (mok_of mokg_302 (by omega) (by omega))
  rcases Nat.lt_or_ge k 304 with h | h303
  · exact mOkF_of (mok_of mokg_303 (by omega) (by omega))
  rcases Nat.lt_or_ge k 307 with h | h304
  · exact mOkF_of (mok_of mokg_304 (by omega) (by omega))
  rcases Nat.lt_or_ge k 308 with h | h307
  · exact mOkF_of (mok_of mokg_307 (by omega) (by omega))
  rcases Nat.lt_or_ge k 309 with h | h308
  · exact mOkF_of (mok_of mokg_308 (by omega) (by omega))
  rcases Nat.lt_or_ge k 310 with h | h309
  · exact mOkF_of (mok_of mokg_309 (by omega) (by omega))
  rcases Nat.lt_or_ge k 311 with h | h310
  · exact mOkF_of (mok_of mokg_310 (by omega) (by omega))
  rcases Nat.lt_or_ge k 312 with h | h311
  · have e : k = 311 := by omega
    rw [e]
    exact mOkF_of mokw_311
  rcases Nat.lt_or_ge k 313 with h | h312
  · exact mOkF_of (mok_of mokg_312 (by omega) (by omega))
  rcases Nat.lt_or_ge k 314 with h | h313
  · exact mOkF_of (mok_of mokg_313 (by omega) (by omega))
  rcases Nat.lt_or_ge k 317 with h | h314
  · exact mOkF_of (mok_of mokg_314 (by omega) (by omega))
  rcases Nat.lt_or_ge k 318 with h | h317
  · have e : k = 317 := by omega
    rw [e]
    exact mOkF_of mokw_317
  rcases Nat.lt_or_ge k 326 with h | h318
  · rcases Nat.lt_or_ge k 319 with q | q318
    · have e : k = 318 := by omega
      rw [e]
      exact mokf_318
    rcases Nat.lt_or_ge k 320 with q | q319
    · have e : k = 319 := by omega
      rw [e]
      exact mokf_319
    rcases Nat.lt_or_ge k 321 with q | q320
    · have e : k = 320 := by omega
      rw [e]
      exact mokf_320
    rcases Nat.lt_or_ge k 322 with q | q321
    · have e : k = 321 := by omega
      rw [e]
      exact mokf_321
    rcases Nat.lt_or_ge k 323 with q | q322
    · have e : k = 322 := by omega
      rw [e]
      exact mokf_322
    rcases Nat.lt_or_ge k 324 with q | q323
    · have e : k = 323 := by omega
      rw [e]
      exact mokf_323
    rcases Nat.lt_or_ge k 325 with q | q324
    · have e : k = 324 := by omega
      rw [e]
      exact mokf_324
    have e : k = 325 := by omega
    rw [e]
    exact mokf_325
  have e : k = 326 := by omega
  rw [e]
  exact mOkF_of mokw_326
