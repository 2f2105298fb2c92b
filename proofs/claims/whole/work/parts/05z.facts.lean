set_option maxRecDepth 100000 in
theorem lp_ok293 : lp_okM 293 = true := by
  show lp_c293.all (fun q => q.2.all (lp_okE 293)) = true
  simp only [lp_c293, List.all_cons, List.all_nil, Bool.and_true, lp_okL_0, lp_okL_1, lp_okL_2, lp_okL_3, lp_okL_4, lp_okL_5, lp_okL_6, lp_okL_7, lp_okL_8, lp_okL_9, lp_okL_10, lp_okL_11, lp_okL_12, lp_okL_13, lp_okL_14, lp_okL_15, lp_okL_16, lp_okL_17, lp_okL_18, lp_okL_19, lp_okL_20, lp_okL_21, lp_okL_22, lp_okL_23, lp_okL_24, lp_okL_25, lp_okL_26, lp_okL_27, lp_okL_28, lp_okL_29, lp_okL_30, lp_okL_31, lp_okL_32, lp_okL_33, lp_okL_34, lp_okL_35, lp_okL_36, lp_okL_37, lp_okL_38, lp_okL_39, lp_okL_40, lp_okL_41, lp_okL_42]
theorem lp_okg0 (m : Nat) (h1 : 0 ≤ m) (h2 : m < 16) : lp_okM m = true := by
  have h : m = 0 ∨ m = 1 ∨ m = 2 ∨ m = 3 ∨ m = 4 ∨ m = 5 ∨ m = 6 ∨ m = 7 ∨ m = 8 ∨ m = 9 ∨ m = 10 ∨ m = 11 ∨ m = 12 ∨ m = 13 ∨ m = 14 ∨ m = 15 := by omega
  rcases h with rfl | rfl | rfl | rfl | rfl | rfl | rfl | rfl | rfl | rfl | rfl | rfl | rfl | rfl | rfl | rfl
  · exact lp_ok0
  · exact lp_ok1
  · exact lp_ok2
  · exact lp_ok3
  · exact lp_ok4
  · exact lp_ok5
  · exact lp_ok6
  · exact lp_ok7
  · exact lp_ok8
  · exact lp_ok9
  · exact lp_ok10
  · exact lp_ok11
  · exact lp_ok12
  · exact lp_ok13
  · exact lp_ok14
  · exact lp_ok15
theorem lp_okg16 (m : Nat) (h1 : 16 ≤ m) (h2 : m < 32) : lp_okM m = true := by
  have h : m = 16 ∨ m = 17 ∨ m = 18 ∨ m = 19 ∨ m = 20 ∨ m = 21 ∨ m = 22 ∨ m = 23 ∨ m = 24 ∨ m = 25 ∨ m = 26 ∨ m = 27 ∨ m = 28 ∨ m = 29 ∨ m = 30 ∨ m = 31 := by omega
  rcases h with rfl | rfl | rfl | rfl | rfl | rfl | rfl | rfl | rfl | rfl | rfl | rfl | rfl | rfl | rfl | rfl
  · exact lp_ok16
  · exact lp_ok17
  · exact lp_ok18
  · exact lp_ok19
  · exact lp_ok20
  · exact lp_ok21
  · exact lp_ok22
  · exact lp_ok23
  · exact lp_ok24
  · exact lp_ok25
  · exact lp_ok26
  · exact lp_ok27
  · exact lp_ok28
  · exact lp_ok29
  · exact lp_ok30
  · exact lp_ok31
theorem lp_okg32 (m : Nat) (h1 : 32 ≤ m) (h2 : m < 48) : lp_okM m = true := by
  have h : m = 32 ∨ m = 33 ∨ m = 34 ∨ m = 35 ∨ m = 36 ∨ m = 37 ∨ m = 38 ∨ m = 39 ∨ m = 40 ∨ m = 41 ∨ m = 42 ∨ m = 43 ∨ m = 44 ∨ m = 45 ∨ m = 46 ∨ m = 47 := by omega
  rcases h with rfl | rfl | rfl | rfl | rfl | rfl | rfl | rfl | rfl | rfl | rfl | rfl | rfl | rfl | rfl | rfl
  · exact lp_ok32
  · exact lp_ok33
  · exact lp_ok34
  · exact lp_ok35
  · exact lp_ok36
  · exact lp_ok37
  · exact lp_ok38
  · exact lp_ok39
  · exact lp_ok40
  · exact lp_ok41
  · exact lp_ok42
  · exact lp_ok43
  · exact lp_ok44
  · exact lp_ok45
  · exact lp_ok46
  · exact lp_ok47
theorem lp_okg48 (m : Nat) (h1 : 48 ≤ m) (h2 : m < 64) : lp_okM m = true := by
  have h : m = 48 ∨ m = 49 ∨ m = 50 ∨ m = 51 ∨ m = 52 ∨ m = 53 ∨ m = 54 ∨ m = 55 ∨ m = 56 ∨ m = 57 ∨ m = 58 ∨ m = 59 ∨ m = 60 ∨ m = 61 ∨ m = 62 ∨ m = 63 := by omega
  rcases h with rfl | rfl | rfl | rfl | rfl | rfl | rfl | rfl | rfl | rfl | rfl | rfl | rfl | rfl | rfl | rfl
  · exact lp_ok48
  · exact lp_ok49
  · exact lp_ok50
  · exact lp_ok51
  · exact lp_ok52
  · exact lp_ok53
  · exact lp_ok54
  · exact lp_ok55
  · exact lp_ok56
  · exact lp_ok57
  · exact lp_ok58
  · exact lp_ok59
  · exact lp_ok60
  · exact lp_ok61
  · exact lp_ok62
  · exact lp_ok63
theorem lp_okg64 (m : Nat) (h1 : 64 ≤ m) (h2 : m < 80) : lp_okM m = true := by
  have h : m = 64 ∨ m = 65 ∨ m = 66 ∨ m = 67 ∨ m = 68 ∨ m = 69 ∨ m = 70 ∨ m = 71 ∨ m = 72 ∨ m = 73 ∨ m = 74 ∨ m = 75 ∨ m = 76 ∨ m = 77 ∨ m = 78 ∨ m = 79 := by omega
  rcases h with rfl | rfl | rfl | rfl | rfl | rfl | rfl | rfl | rfl | rfl | rfl | rfl | rfl | rfl | rfl | rfl
  · exact lp_ok64
  · exact lp_ok65
  · exact lp_ok66
  · exact lp_ok67
  · exact lp_ok68
  · exact lp_ok69
  · exact lp_ok70
  · exact lp_ok71
  · exact lp_ok72
  · exact lp_ok73
  · exact lp_ok74
  · exact lp_ok75
  · exact lp_ok76
  · exact lp_ok77
  · exact lp_ok78
  · exact lp_ok79
theorem lp_okg80 (m : Nat) (h1 : 80 ≤ m) (h2 : m < 96) : lp_okM m = true := by
  have h : m = 80 ∨ m = 81 ∨ m = 82 ∨ m = 83 ∨ m = 84 ∨ m = 85 ∨ m = 86 ∨ m = 87 ∨ m = 88 ∨ m = 89 ∨ m = 90 ∨ m = 91 ∨ m = 92 ∨ m = 93 ∨ m = 94 ∨ m = 95 := by omega
  rcases h with rfl | rfl | rfl | rfl | rfl | rfl | rfl | rfl | rfl | rfl | rfl | rfl | rfl | rfl | rfl | rfl
  · exact lp_ok80
  · exact lp_ok81
  · exact lp_ok82
  · exact lp_ok83
  · exact lp_ok84
  · exact lp_ok85
  · exact lp_ok86
  · exact lp_ok87
  · exact lp_ok88
  · exact lp_ok89
  · exact lp_ok90
  · exact lp_ok91
  · exact lp_ok92
  · exact lp_ok93
  · exact lp_ok94
  · exact lp_ok95
theorem lp_okg96 (m : Nat) (h1 : 96 ≤ m) (h2 : m < 112) : lp_okM m = true := by
  have h : m = 96 ∨ m = 97 ∨ m = 98 ∨ m = 99 ∨ m = 100 ∨ m = 101 ∨ m = 102 ∨ m = 103 ∨ m = 104 ∨ m = 105 ∨ m = 106 ∨ m = 107 ∨ m = 108 ∨ m = 109 ∨ m = 110 ∨ m = 111 := by omega
  rcases h with rfl | rfl | rfl | rfl | rfl | rfl | rfl | rfl | rfl | rfl | rfl | rfl | rfl | rfl | rfl | rfl
  · exact lp_ok96
  · exact lp_ok97
  · exact lp_ok98
  · exact lp_ok99
  · exact lp_ok100
  · exact lp_ok101
  · exact lp_ok102
  · exact lp_ok103
  · exact lp_ok104
  · exact lp_ok105
  · exact lp_ok106
  · exact lp_ok107
  · exact lp_ok108
  · exact lp_ok109
  · exact lp_ok110
  · exact lp_ok111
theorem lp_okg112 (m : Nat) (h1 : 112 ≤ m) (h2 : m < 128) : lp_okM m = true := by
  have h : m = 112 ∨ m = 113 ∨ m = 114 ∨ m = 115 ∨ m = 116 ∨ m = 117 ∨ m = 118 ∨ m = 119 ∨ m = 120 ∨ m = 121 ∨ m = 122 ∨ m = 123 ∨ m = 124 ∨ m = 125 ∨ m = 126 ∨ m = 127 := by omega
  rcases h with rfl | rfl | rfl | rfl | rfl | rfl | rfl | rfl | rfl | rfl | rfl | rfl | rfl | rfl | rfl | rfl
  · exact lp_ok112
  · exact lp_ok113
  · exact lp_ok114
  · exact lp_ok115
  · exact lp_ok116
  · exact lp_ok117
  · exact lp_ok118
  · exact lp_ok119
  · exact lp_ok120
  · exact lp_ok121
  · exact lp_ok122
  · exact lp_ok123
  · exact lp_ok124
  · exact lp_ok125
  · exact lp_ok126
  · exact lp_ok127
theorem lp_okg128 (m : Nat) (h1 : 128 ≤ m) (h2 : m < 144) : lp_okM m = true := by
  have h : m = 128 ∨ m = 129 ∨ m = 130 ∨ m = 131 ∨ m = 132 ∨ m = 133 ∨ m = 134 ∨ m = 135 ∨ m = 136 ∨ m = 137 ∨ m = 138 ∨ m = 139 ∨ m = 140 ∨ m = 141 ∨ m = 142 ∨ m = 143 := by omega
  rcases h with rfl | rfl | rfl | rfl | rfl | rfl | rfl | rfl | rfl | rfl | rfl | rfl | rfl | rfl | rfl | rfl
  · exact lp_ok128
  · exact lp_ok129
  · exact lp_ok130
  · exact lp_ok131
  · exact lp_ok132
  · exact lp_ok133
  · exact lp_ok134
  · exact lp_ok135
  · exact lp_ok136
  · exact lp_ok137
  · exact lp_ok138
  · exact lp_ok139
  · exact lp_ok140
  · exact lp_ok141
  · exact lp_ok142
  · exact lp_ok143
theorem lp_okg144 (m : Nat) (h1 : 144 ≤ m) (h2 : m < 160) : lp_okM m = true := by
  have h : m = 144 ∨ m = 145 ∨ m = 146 ∨ m = 147 ∨ m = 148 ∨ m = 149 ∨ m = 150 ∨ m = 151 ∨ m = 152 ∨ m = 153 ∨ m = 154 ∨ m = 155 ∨ m = 156 ∨ m = 157 ∨ m = 158 ∨ m = 159 := by omega
  rcases h with rfl | rfl | rfl | rfl | rfl | rfl | rfl | rfl | rfl | rfl | rfl | rfl | rfl | rfl | rfl | rfl
  · exact lp_ok144
  · exact lp_ok145
  · exact lp_ok146
  · exact lp_ok147
  · exact lp_ok148
  · exact lp_ok149
  · exact lp_ok150
  · exact lp_ok151
  · exact lp_ok152
  · exact lp_ok153
  · exact lp_ok154
  · exact lp_ok155
  · exact lp_ok156
  · exact lp_ok157
  · exact lp_ok158
  · exact lp_ok159
theorem lp_okg160 (m : Nat) (h1 : 160 ≤ m) (h2 : m < 176) : lp_okM m = true := by
  have h : m = 160 ∨ m = 161 ∨ m = 162 ∨ m = 163 ∨ m = 164 ∨ m = 165 ∨ m = 166 ∨ m = 167 ∨ m = 168 ∨ m = 169 ∨ m = 170 ∨ m = 171 ∨ m = 172 ∨ m = 173 ∨ m = 174 ∨ m = 175 := by omega
  rcases h with rfl | rfl | rfl | rfl | rfl | rfl | rfl | rfl | rfl | rfl | rfl | rfl | rfl | rfl | rfl | rfl
  · exact lp_ok160
  · exact lp_ok161
  · exact lp_ok162
  · exact lp_ok163
  · exact lp_ok164
  · exact lp_ok165
  · exact lp_ok166
  · exact lp_ok167
  · exact lp_ok168
  · exact lp_ok169
  · exact lp_ok170
  · exact lp_ok171
  · exact lp_ok172
  · exact lp_ok173
  · exact lp_ok174
  · exact lp_ok175
theorem lp_okg176 (m : Nat) (h1 : 176 ≤ m) (h2 : m < 192) : lp_okM m = true := by
  have h : m = 176 ∨ m = 177 ∨ m = 178 ∨ m = 179 ∨ m = 180 ∨ m = 181 ∨ m = 182 ∨ m = 183 ∨ m = 184 ∨ m = 185 ∨ m = 186 ∨ m = 187 ∨ m = 188 ∨ m = 189 ∨ m = 190 ∨ m = 191 := by omega
  rcases h with rfl | rfl | rfl | rfl | rfl | rfl | rfl | rfl | rfl | rfl | rfl | rfl | rfl | rfl | rfl | rfl
  · exact lp_ok176
  · exact lp_ok177
  · exact lp_ok178
  · exact lp_ok179
  · exact lp_ok180
  · exact lp_ok181
  · exact lp_ok182
  · exact lp_ok183
  · exact lp_ok184
  · exact lp_ok185
  · exact lp_ok186
  · exact lp_ok187
  · exact lp_ok188
  · exact lp_ok189
  · exact lp_ok190
  · exact lp_ok191
theorem lp_okg192 (m : Nat) (h1 : 192 ≤ m) (h2 : m < 208) : lp_okM m = true := by
  have h : m = 192 ∨ m = 193 ∨ m = 194 ∨ m = 195 ∨ m = 196 ∨ m = 197 ∨ m = 198 ∨ m = 199 ∨ m = 200 ∨ m = 201 ∨ m = 202 ∨ m = 203 ∨ m = 204 ∨ m = 205 ∨ m = 206 ∨ m = 207 := by omega
  rcases h with rfl | rfl | rfl | rfl | rfl | rfl | rfl | rfl | rfl | rfl | rfl | rfl | rfl | rfl | rfl | rfl
  · exact lp_ok192
  · exact lp_ok193
  · exact lp_ok194
  · exact lp_ok195
  · exact lp_ok196
  · exact lp_ok197
  · exact lp_ok198
  · exact lp_ok199
  · exact lp_ok200
  · exact lp_ok201
  · exact lp_ok202
  · exact lp_ok203
  · exact lp_ok204
  · exact lp_ok205
  · exact lp_ok206
  · exact lp_ok207
theorem lp_okg208 (m : Nat) (h1 : 208 ≤ m) (h2 : m < 224) : lp_okM m = true := by
  have h : m = 208 ∨ m = 209 ∨ m = 210 ∨ m = 211 ∨ m = 212 ∨ m = 213 ∨ m = 214 ∨ m = 215 ∨ m = 216 ∨ m = 217 ∨ m = 218 ∨ m = 219 ∨ m = 220 ∨ m = 221 ∨ m = 222 ∨ m = 223 := by omega
  rcases h with rfl | rfl | rfl | rfl | rfl | rfl | rfl | rfl | rfl | rfl | rfl | rfl | rfl | rfl | rfl | rfl
  · exact lp_ok208
  · exact lp_ok209
  · exact lp_ok210
  · exact lp_ok211
  · exact lp_ok212
  · exact lp_ok213
  · exact lp_ok214
  · exact lp_ok215
  · exact lp_ok216
  · exact lp_ok217
  · exact lp_ok218
  · exact lp_ok219
  · exact lp_ok220
  · exact lp_ok221
  · exact lp_ok222
  · exact lp_ok223
theorem lp_okg224 (m : Nat) (h1 : 224 ≤ m) (h2 : m < 240) : lp_okM m = true := by
  have h : m = 224 ∨ m = 225 ∨ m = 226 ∨ m = 227 ∨ m = 228 ∨ m = 229 ∨ m = 230 ∨ m = 231 ∨ m = 232 ∨ m = 233 ∨ m = 234 ∨ m = 235 ∨ m = 236 ∨ m = 237 ∨ m = 238 ∨ m = 239 := by omega
  rcases h with rfl | rfl | rfl | rfl | rfl | rfl | rfl | rfl | rfl | rfl | rfl | rfl | rfl | rfl | rfl | rfl
  · exact lp_ok224
  · exact lp_ok225
  · exact lp_ok226
  · exact lp_ok227
  · exact lp_ok228
  · exact lp_ok229
  · exact lp_ok230
  · exact lp_ok231
  · exact lp_ok232
  · exact lp_ok233
  · exact lp_ok234
  · exact lp_ok235
  · exact lp_ok236
  · exact lp_ok237
  · exact lp_ok238
  · exact lp_ok239
theorem lp_okg240 (m : Nat) (h1 : 240 ≤ m) (h2 : m < 256) : lp_okM m = true := by
  have h : m = 240 ∨ m = 241 ∨ m = 242 ∨ m = 243 ∨ m = 244 ∨ m = 245 ∨ m = 246 ∨ m = 247 ∨ m = 248 ∨ m = 249 ∨ m = 250 ∨ m = 251 ∨ m = 252 ∨ m = 253 ∨ m = 254 ∨ m = 255 := by omega
  rcases h with rfl | rfl | rfl | rfl | rfl | rfl | rfl | rfl | rfl | rfl | rfl | rfl | rfl | rfl | rfl | rfl
  · exact lp_ok240
  · exact lp_ok241
  · exact lp_ok242
  · exact lp_ok243
  · exact lp_ok244
  · exact lp_ok245
  · exact lp_ok246
  · exact lp_ok247
  · exact lp_ok248
  · exact lp_ok249
  · exact lp_ok250
  · exact lp_ok251
  · exact lp_ok252
  · exact lp_ok253
  · exact lp_ok254
  · exact lp_ok255
theorem lp_okg256 (m : Nat) (h1 : 256 ≤ m) (h2 : m < 272) : lp_okM m = true := by
  have h : m = 256 ∨ m = 257 ∨ m = 258 ∨ m = 259 ∨ m = 260 ∨ m = 261 ∨ m = 262 ∨ m = 263 ∨ m = 264 ∨ m = 265 ∨ m = 266 ∨ m = 267 ∨ m = 268 ∨ m = 269 ∨ m = 270 ∨ m = 271 := by omega
  rcases h with rfl | rfl | rfl | rfl | rfl | rfl | rfl | rfl | rfl | rfl | rfl | rfl | rfl | rfl | rfl | rfl
  · exact lp_ok256
  · exact lp_ok257
  · exact lp_ok258
  · exact lp_ok259
  · exact lp_ok260
  · exact lp_ok261
  · exact lp_ok262
  · exact lp_ok263
  · exact lp_ok264
  · exact lp_ok265
  · exact lp_ok266
  · exact lp_ok267
  · exact lp_ok268
  · exact lp_ok269
  · exact lp_ok270
  · exact lp_ok271
theorem lp_okg272 (m : Nat) (h1 : 272 ≤ m) (h2 : m < 288) : lp_okM m = true := by
  have h : m = 272 ∨ m = 273 ∨ m = 274 ∨ m = 275 ∨ m = 276 ∨ m = 277 ∨ m = 278 ∨ m = 279 ∨ m = 280 ∨ m = 281 ∨ m = 282 ∨ m = 283 ∨ m = 284 ∨ m = 285 ∨ m = 286 ∨ m = 287 := by omega
  rcases h with rfl | rfl | rfl | rfl | rfl | rfl | rfl | rfl | rfl | rfl | rfl | rfl | rfl | rfl | rfl | rfl
  · exact lp_ok272
  · exact lp_ok273
  · exact lp_ok274
  · exact lp_ok275
  · exact lp_ok276
  · exact lp_ok277
  · exact lp_ok278
  · exact lp_ok279
  · exact lp_ok280
  · exact lp_ok281
  · exact lp_ok282
  · exact lp_ok283
  · exact lp_ok284
  · exact lp_ok285
  · exact lp_ok286
  · exact lp_ok287
theorem lp_okg288 (m : Nat) (h1 : 288 ≤ m) (h2 : m < 294) : lp_okM m = true := by
  have h : m = 288 ∨ m = 289 ∨ m = 290 ∨ m = 291 ∨ m = 292 ∨ m = 293 := by omega
  rcases h with rfl | rfl | rfl | rfl | rfl | rfl
  · exact lp_ok288
  · exact lp_ok289
  · exact lp_ok290
  · exact lp_ok291
  · exact lp_ok292
  · exact lp_ok293
theorem lp_ok_all (m : Nat) (h : m < 294) : lp_okM m = true := by
  by_cases h0 : m < 16
  · exact lp_okg0 m (by omega) h0
  by_cases h16 : m < 32
  · exact lp_okg16 m (by omega) h16
  by_cases h32 : m < 48
  · exact lp_okg32 m (by omega) h32
  by_cases h48 : m < 64
  · exact lp_okg48 m (by omega) h48
  by_cases h64 : m < 80
  · exact lp_okg64 m (by omega) h64
  by_cases h80 : m < 96
  · exact lp_okg80 m (by omega) h80
  by_cases h96 : m < 112
  · exact lp_okg96 m (by omega) h96
  by_cases h112 : m < 128
  · exact lp_okg112 m (by omega) h112
  by_cases h128 : m < 144
  · exact lp_okg128 m (by omega) h128
  by_cases h144 : m < 160
  · exact lp_okg144 m (by omega) h144
  by_cases h160 : m < 176
  · exact lp_okg160 m (by omega) h160
  by_cases h176 : m < 192
  · exact lp_okg176 m (by omega) h176
  by_cases h192 : m < 208
  · exact lp_okg192 m (by omega) h192
  by_cases h208 : m < 224
  · exact lp_okg208 m (by omega) h208
  by_cases h224 : m < 240
  · exact lp_okg224 m (by omega) h224
  by_cases h240 : m < 256
  · exact lp_okg240 m (by omega) h240
  by_cases h256 : m < 272
  · exact lp_okg256 m (by omega) h256
  by_cases h272 : m < 288
  · exact lp_okg272 m (by omega) h272
  exact lp_okg288 m (by omega) (by omega)
