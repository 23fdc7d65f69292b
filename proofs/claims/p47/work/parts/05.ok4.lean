theorem z_okAllM {mi pc : Nat} {r : Instr × Nat × List Nat} (ho : z_okM mi = true) (h : z_at mi pc = some r) : z_ok mi (pc, r) = true := by
  unfold z_okM at ho
  have h1 : (pc, r) ∈ ((z_code mi).getD (pc / 256) []).getD (pc / 16 % 16) [] := by
    unfold z_at at h
    generalize ((z_code mi).getD (pc / 256) []).getD (pc / 16 % 16) [] = l at h
    induction l with
    | nil => simp at h
    | cons a t ih =>
      obtain ⟨a1, a2⟩ := a
      rw [List.lookup_cons] at h
      by_cases e : pc == a1
      · rw [e] at h
        simp only [Option.some.injEq] at h
        have e2 : pc = a1 := by simpa using e
        subst e2
        subst h
        exact List.mem_cons_self
      · simp only [Bool.not_eq_true] at e
        rw [e] at h
        exact List.mem_cons_of_mem _ (ih h)
  have key : ∀ {α : Type} (l : List (List α)) (i : Nat) (a : α), a ∈ l.getD i [] → l.getD i [] ∈ l := by
    intro α l i a ha
    by_cases hi : i < l.length
    · rw [List.getD_eq_getElem?_getD, List.getElem?_eq_getElem hi]
      exact List.getElem_mem hi
    · rw [List.getD_eq_getElem?_getD, List.getElem?_eq_none (by omega)] at ha
      cases ha
  have h2 := key _ _ _ h1
  have h3 := key _ _ _ h2
  have h4 := List.all_eq_true.mp ho _ h3
  have h5 := List.all_eq_true.mp h4 _ h2
  exact List.all_eq_true.mp h5 _ h1
theorem z_oM0 {mi : Nat} (h0 : 0 ≤ mi) (h1 : mi < 20) : z_okM mi = true := by
  rcases (by omega : mi = 0 ∨ mi = 1 ∨ mi = 2 ∨ mi = 3 ∨ mi = 4 ∨ mi = 5 ∨ mi = 6 ∨ mi = 7 ∨ mi = 8 ∨ mi = 9 ∨ mi = 10 ∨ mi = 11 ∨ mi = 12 ∨ mi = 13 ∨ mi = 14 ∨ mi = 15 ∨ mi = 16 ∨ mi = 17 ∨ mi = 18 ∨ mi = 19) with rfl | rfl | rfl | rfl | rfl | rfl | rfl | rfl | rfl | rfl | rfl | rfl | rfl | rfl | rfl | rfl | rfl | rfl | rfl | rfl
  · exact z_o0
  · exact z_o1
  · exact z_o2
  · exact z_o3
  · exact z_o4
  · exact z_o5
  · exact z_o6
  · exact z_o7
  · exact z_o8
  · exact z_o9
  · exact z_o10
  · exact z_o11
  · exact z_o12
  · exact z_o13
  · exact z_o14
  · exact z_o15
  · exact z_o16
  · exact z_o17
  · exact z_o18
  · exact z_o19
theorem z_oM20 {mi : Nat} (h0 : 20 ≤ mi) (h1 : mi < 40) : z_okM mi = true := by
  rcases (by omega : mi = 20 ∨ mi = 21 ∨ mi = 22 ∨ mi = 23 ∨ mi = 24 ∨ mi = 25 ∨ mi = 26 ∨ mi = 27 ∨ mi = 28 ∨ mi = 29 ∨ mi = 30 ∨ mi = 31 ∨ mi = 32 ∨ mi = 33 ∨ mi = 34 ∨ mi = 35 ∨ mi = 36 ∨ mi = 37 ∨ mi = 38 ∨ mi = 39) with rfl | rfl | rfl | rfl | rfl | rfl | rfl | rfl | rfl | rfl | rfl | rfl | rfl | rfl | rfl | rfl | rfl | rfl | rfl | rfl
  · exact z_o20
  · exact z_o21
  · exact z_o22
  · exact z_o23
  · exact z_o24
  · exact z_o25
  · exact z_o26
  · exact z_o27
  · exact z_o28
  · exact z_o29
  · exact z_o30
  · exact z_o31
  · exact z_o32
  · exact z_o33
  · exact z_o34
  · exact z_o35
  · exact z_o36
  · exact z_o37
  · exact z_o38
  · exact z_o39
theorem z_oM40 {mi : Nat} (h0 : 40 ≤ mi) (h1 : mi < 60) : z_okM mi = true := by
  rcases (by omega : mi = 40 ∨ mi = 41 ∨ mi = 42 ∨ mi = 43 ∨ mi = 44 ∨ mi = 45 ∨ mi = 46 ∨ mi = 47 ∨ mi = 48 ∨ mi = 49 ∨ mi = 50 ∨ mi = 51 ∨ mi = 52 ∨ mi = 53 ∨ mi = 54 ∨ mi = 55 ∨ mi = 56 ∨ mi = 57 ∨ mi = 58 ∨ mi = 59) with rfl | rfl | rfl | rfl | rfl | rfl | rfl | rfl | rfl | rfl | rfl | rfl | rfl | rfl | rfl | rfl | rfl | rfl | rfl | rfl
  · exact z_o40
  · exact z_o41
  · exact z_o42
  · exact z_o43
  · exact z_o44
  · exact z_o45
  · exact z_o46
  · exact z_o47
  · exact z_o48
  · exact z_o49
  · exact z_o50
  · exact z_o51
  · exact z_o52
  · exact z_o53
  · exact z_o54
  · exact z_o55
  · exact z_o56
  · exact z_o57
  · exact z_o58
  · exact z_o59
theorem z_oM60 {mi : Nat} (h0 : 60 ≤ mi) (h1 : mi < 80) : z_okM mi = true := by
  rcases (by omega : mi = 60 ∨ mi = 61 ∨ mi = 62 ∨ mi = 63 ∨ mi = 64 ∨ mi = 65 ∨ mi = 66 ∨ mi = 67 ∨ mi = 68 ∨ mi = 69 ∨ mi = 70 ∨ mi = 71 ∨ mi = 72 ∨ mi = 73 ∨ mi = 74 ∨ mi = 75 ∨ mi = 76 ∨ mi = 77 ∨ mi = 78 ∨ mi = 79) with rfl | rfl | rfl | rfl | rfl | rfl | rfl | rfl | rfl | rfl | rfl | rfl | rfl | rfl | rfl | rfl | rfl | rfl | rfl | rfl
  · exact z_o60
  · exact z_o61
  · exact z_o62
  · exact z_o63
  · exact z_o64
  · exact z_o65
  · exact z_o66
  · exact z_o67
  · exact z_o68
  · exact z_o69
  · exact z_o70
  · exact z_o71
  · exact z_o72
  · exact z_o73
  · exact z_o74
  · exact z_o75
  · exact z_o76
  · exact z_o77
  · exact z_o78
  · exact z_o79
theorem z_oM80 {mi : Nat} (h0 : 80 ≤ mi) (h1 : mi < 100) : z_okM mi = true := by
  rcases (by omega : mi = 80 ∨ mi = 81 ∨ mi = 82 ∨ mi = 83 ∨ mi = 84 ∨ mi = 85 ∨ mi = 86 ∨ mi = 87 ∨ mi = 88 ∨ mi = 89 ∨ mi = 90 ∨ mi = 91 ∨ mi = 92 ∨ mi = 93 ∨ mi = 94 ∨ mi = 95 ∨ mi = 96 ∨ mi = 97 ∨ mi = 98 ∨ mi = 99) with rfl | rfl | rfl | rfl | rfl | rfl | rfl | rfl | rfl | rfl | rfl | rfl | rfl | rfl | rfl | rfl | rfl | rfl | rfl | rfl
  · exact z_o80
  · exact z_o81
  · exact z_o82
  · exact z_o83
  · exact z_o84
  · exact z_o85
  · exact z_o86
  · exact z_o87
  · exact z_o88
  · exact z_o89
  · exact z_o90
  · exact z_o91
  · exact z_o92
  · exact z_o93
  · exact z_o94
  · exact z_o95
  · exact z_o96
  · exact z_o97
  · exact z_o98
  · exact z_o99
theorem z_oM100 {mi : Nat} (h0 : 100 ≤ mi) (h1 : mi < 120) : z_okM mi = true := by
  rcases (by omega : mi = 100 ∨ mi = 101 ∨ mi = 102 ∨ mi = 103 ∨ mi = 104 ∨ mi = 105 ∨ mi = 106 ∨ mi = 107 ∨ mi = 108 ∨ mi = 109 ∨ mi = 110 ∨ mi = 111 ∨ mi = 112 ∨ mi = 113 ∨ mi = 114 ∨ mi = 115 ∨ mi = 116 ∨ mi = 117 ∨ mi = 118 ∨ mi = 119) with rfl | rfl | rfl | rfl | rfl | rfl | rfl | rfl | rfl | rfl | rfl | rfl | rfl | rfl | rfl | rfl | rfl | rfl | rfl | rfl
  · exact z_o100
  · exact z_o101
  · exact z_o102
  · exact z_o103
  · exact z_o104
  · exact z_o105
  · exact z_o106
  · exact z_o107
  · exact z_o108
  · exact z_o109
  · exact z_o110
  · exact z_o111
  · exact z_o112
  · exact z_o113
  · exact z_o114
  · exact z_o115
  · exact z_o116
  · exact z_o117
  · exact z_o118
  · exact z_o119
theorem z_oM120 {mi : Nat} (h0 : 120 ≤ mi) (h1 : mi < 140) : z_okM mi = true := by
  rcases (by omega : mi = 120 ∨ mi = 121 ∨ mi = 122 ∨ mi = 123 ∨ mi = 124 ∨ mi = 125 ∨ mi = 126 ∨ mi = 127 ∨ mi = 128 ∨ mi = 129 ∨ mi = 130 ∨ mi = 131 ∨ mi = 132 ∨ mi = 133 ∨ mi = 134 ∨ mi = 135 ∨ mi = 136 ∨ mi = 137 ∨ mi = 138 ∨ mi = 139) with rfl | rfl | rfl | rfl | rfl | rfl | rfl | rfl | rfl | rfl | rfl | rfl | rfl | rfl | rfl | rfl | rfl | rfl | rfl | rfl
  · exact z_o120
  · exact z_o121
  · exact z_o122
  · exact z_o123
  · exact z_o124
  · exact z_o125
  · exact z_o126
  · exact z_o127
  · exact z_o128
  · exact z_o129
  · exact z_o130
  · exact z_o131
  · exact z_o132
  · exact z_o133
  · exact z_o134
  · exact z_o135
  · exact z_o136
  · exact z_o137
  · exact z_o138
  · exact z_o139
theorem z_oM140 {mi : Nat} (h0 : 140 ≤ mi) (h1 : mi < 160) : z_okM mi = true := by
  rcases (by omega : mi = 140 ∨ mi = 141 ∨ mi = 142 ∨ mi = 143 ∨ mi = 144 ∨ mi = 145 ∨ mi = 146 ∨ mi = 147 ∨ mi = 148 ∨ mi = 149 ∨ mi = 150 ∨ mi = 151 ∨ mi = 152 ∨ mi = 153 ∨ mi = 154 ∨ mi = 155 ∨ mi = 156 ∨ mi = 157 ∨ mi = 158 ∨ mi = 159) with rfl | rfl | rfl | rfl | rfl | rfl | rfl | rfl | rfl | rfl | rfl | rfl | rfl | rfl | rfl | rfl | rfl | rfl | rfl | rfl
  · exact z_o140
  · exact z_o141
  · exact z_o142
  · exact z_o143
  · exact z_o144
  · exact z_o145
  · exact z_o146
  · exact z_o147
  · exact z_o148
  · exact z_o149
  · exact z_o150
  · exact z_o151
  · exact z_o152
  · exact z_o153
  · exact z_o154
  · exact z_o155
  · exact z_o156
  · exact z_o157
  · exact z_o158
  · exact z_o159
theorem z_oM160 {mi : Nat} (h0 : 160 ≤ mi) (h1 : mi < 180) : z_okM mi = true := by
  rcases (by omega : mi = 160 ∨ mi = 161 ∨ mi = 162 ∨ mi = 163 ∨ mi = 164 ∨ mi = 165 ∨ mi = 166 ∨ mi = 167 ∨ mi = 168 ∨ mi = 169 ∨ mi = 170 ∨ mi = 171 ∨ mi = 172 ∨ mi = 173 ∨ mi = 174 ∨ mi = 175 ∨ mi = 176 ∨ mi = 177 ∨ mi = 178 ∨ mi = 179) with rfl | rfl | rfl | rfl | rfl | rfl | rfl | rfl | rfl | rfl | rfl | rfl | rfl | rfl | rfl | rfl | rfl | rfl | rfl | rfl
  · exact z_o160
  · exact z_o161
  · exact z_o162
  · exact z_o163
  · exact z_o164
  · exact z_o165
  · exact z_o166
  · exact z_o167
  · exact z_o168
  · exact z_o169
  · exact z_o170
  · exact z_o171
  · exact z_o172
  · exact z_o173
  · exact z_o174
  · exact z_o175
  · exact z_o176
  · exact z_o177
  · exact z_o178
  · exact z_o179
theorem z_oM180 {mi : Nat} (h0 : 180 ≤ mi) (h1 : mi < 200) : z_okM mi = true := by
  rcases (by omega : mi = 180 ∨ mi = 181 ∨ mi = 182 ∨ mi = 183 ∨ mi = 184 ∨ mi = 185 ∨ mi = 186 ∨ mi = 187 ∨ mi = 188 ∨ mi = 189 ∨ mi = 190 ∨ mi = 191 ∨ mi = 192 ∨ mi = 193 ∨ mi = 194 ∨ mi = 195 ∨ mi = 196 ∨ mi = 197 ∨ mi = 198 ∨ mi = 199) with rfl | rfl | rfl | rfl | rfl | rfl | rfl | rfl | rfl | rfl | rfl | rfl | rfl | rfl | rfl | rfl | rfl | rfl | rfl | rfl
  · exact z_o180
  · exact z_o181
  · exact z_o182
  · exact z_o183
  · exact z_o184
  · exact z_o185
  · exact z_o186
  · exact z_o187
  · exact z_o188
  · exact z_o189
  · exact z_o190
  · exact z_o191
  · exact z_o192
  · exact z_o193
  · exact z_o194
  · exact z_o195
  · exact z_o196
  · exact z_o197
  · exact z_o198
  · exact z_o199
theorem z_oM200 {mi : Nat} (h0 : 200 ≤ mi) (h1 : mi < 220) : z_okM mi = true := by
  rcases (by omega : mi = 200 ∨ mi = 201 ∨ mi = 202 ∨ mi = 203 ∨ mi = 204 ∨ mi = 205 ∨ mi = 206 ∨ mi = 207 ∨ mi = 208 ∨ mi = 209 ∨ mi = 210 ∨ mi = 211 ∨ mi = 212 ∨ mi = 213 ∨ mi = 214 ∨ mi = 215 ∨ mi = 216 ∨ mi = 217 ∨ mi = 218 ∨ mi = 219) with rfl | rfl | rfl | rfl | rfl | rfl | rfl | rfl | rfl | rfl | rfl | rfl | rfl | rfl | rfl | rfl | rfl | rfl | rfl | rfl
  · exact z_o200
  · exact z_o201
  · exact z_o202
  · exact z_o203
  · exact z_o204
  · exact z_o205
  · exact z_o206
  · exact z_o207
  · exact z_o208
  · exact z_o209
  · exact z_o210
  · exact z_o211
  · exact z_o212
  · exact z_o213
  · exact z_o214
  · exact z_o215
  · exact z_o216
  · exact z_o217
  · exact z_o218
  · exact z_o219
theorem z_oM220 {mi : Nat} (h0 : 220 ≤ mi) (h1 : mi < 240) : z_okM mi = true := by
  rcases (by omega : mi = 220 ∨ mi = 221 ∨ mi = 222 ∨ mi = 223 ∨ mi = 224 ∨ mi = 225 ∨ mi = 226 ∨ mi = 227 ∨ mi = 228 ∨ mi = 229 ∨ mi = 230 ∨ mi = 231 ∨ mi = 232 ∨ mi = 233 ∨ mi = 234 ∨ mi = 235 ∨ mi = 236 ∨ mi = 237 ∨ mi = 238 ∨ mi = 239) with rfl | rfl | rfl | rfl | rfl | rfl | rfl | rfl | rfl | rfl | rfl | rfl | rfl | rfl | rfl | rfl | rfl | rfl | rfl | rfl
  · exact z_o220
  · exact z_o221
  · exact z_o222
  · exact z_o223
  · exact z_o224
  · exact z_o225
  · exact z_o226
  · exact z_o227
  · exact z_o228
  · exact z_o229
  · exact z_o230
  · exact z_o231
  · exact z_o232
  · exact z_o233
  · exact z_o234
  · exact z_o235
  · exact z_o236
  · exact z_o237
  · exact z_o238
  · exact z_o239
theorem z_oM240 {mi : Nat} (h0 : 240 ≤ mi) (h1 : mi < 260) : z_okM mi = true := by
  rcases (by omega : mi = 240 ∨ mi = 241 ∨ mi = 242 ∨ mi = 243 ∨ mi = 244 ∨ mi = 245 ∨ mi = 246 ∨ mi = 247 ∨ mi = 248 ∨ mi = 249 ∨ mi = 250 ∨ mi = 251 ∨ mi = 252 ∨ mi = 253 ∨ mi = 254 ∨ mi = 255 ∨ mi = 256 ∨ mi = 257 ∨ mi = 258 ∨ mi = 259) with rfl | rfl | rfl | rfl | rfl | rfl | rfl | rfl | rfl | rfl | rfl | rfl | rfl | rfl | rfl | rfl | rfl | rfl | rfl | rfl
  · exact z_o240
  · exact z_o241
  · exact z_o242
  · exact z_o243
  · exact z_o244
  · exact z_o245
  · exact z_o246
  · exact z_o247
  · exact z_o248
  · exact z_o249
  · exact z_o250
  · exact z_o251
  · exact z_o252
  · exact z_o253
  · exact z_o254
  · exact z_o255
  · exact z_o256
  · exact z_o257
  · exact z_o258
  · exact z_o259
theorem z_oM260 {mi : Nat} (h0 : 260 ≤ mi) (h1 : mi < 280) : z_okM mi = true := by
  rcases (by omega : mi = 260 ∨ mi = 261 ∨ mi = 262 ∨ mi = 263 ∨ mi = 264 ∨ mi = 265 ∨ mi = 266 ∨ mi = 267 ∨ mi = 268 ∨ mi = 269 ∨ mi = 270 ∨ mi = 271 ∨ mi = 272 ∨ mi = 273 ∨ mi = 274 ∨ mi = 275 ∨ mi = 276 ∨ mi = 277 ∨ mi = 278 ∨ mi = 279) with rfl | rfl | rfl | rfl | rfl | rfl | rfl | rfl | rfl | rfl | rfl | rfl | rfl | rfl | rfl | rfl | rfl | rfl | rfl | rfl
  · exact z_o260
  · exact z_o261
  · exact z_o262
  · exact z_o263
  · exact z_o264
  · exact z_o265
  · exact z_o266
  · exact z_o267
  · exact z_o268
  · exact z_o269
  · exact z_o270
  · exact z_o271
  · exact z_o272
  · exact z_o273
  · exact z_o274
  · exact z_o275
  · exact z_o276
  · exact z_o277
  · exact z_o278
  · exact z_o279
theorem z_oM280 {mi : Nat} (h0 : 280 ≤ mi) (h1 : mi < 300) : z_okM mi = true := by
  rcases (by omega : mi = 280 ∨ mi = 281 ∨ mi = 282 ∨ mi = 283 ∨ mi = 284 ∨ mi = 285 ∨ mi = 286 ∨ mi = 287 ∨ mi = 288 ∨ mi = 289 ∨ mi = 290 ∨ mi = 291 ∨ mi = 292 ∨ mi = 293 ∨ mi = 294 ∨ mi = 295 ∨ mi = 296 ∨ mi = 297 ∨ mi = 298 ∨ mi = 299) with rfl | rfl | rfl | rfl | rfl | rfl | rfl | rfl | rfl | rfl | rfl | rfl | rfl | rfl | rfl | rfl | rfl | rfl | rfl | rfl
  · exact z_o280
  · exact z_o281
  · exact z_o282
  · exact z_o283
  · exact z_o284
  · exact z_o285
  · exact z_o286
  · exact z_o287
  · exact z_o288
  · exact z_o289
  · exact z_o290
  · exact z_o291
  · exact z_o292
  · exact z_o293
  · exact z_o294
  · exact z_o295
  · exact z_o296
  · exact z_o297
  · exact z_o298
  · exact z_o299
theorem z_oM300 {mi : Nat} (h0 : 300 ≤ mi) (h1 : mi < 320) : z_okM mi = true := by
  rcases (by omega : mi = 300 ∨ mi = 301 ∨ mi = 302 ∨ mi = 303 ∨ mi = 304 ∨ mi = 305 ∨ mi = 306 ∨ mi = 307 ∨ mi = 308 ∨ mi = 309 ∨ mi = 310 ∨ mi = 311 ∨ mi = 312 ∨ mi = 313 ∨ mi = 314 ∨ mi = 315 ∨ mi = 316 ∨ mi = 317 ∨ mi = 318 ∨ mi = 319) with rfl | rfl | rfl | rfl | rfl | rfl | rfl | rfl | rfl | rfl | rfl | rfl | rfl | rfl | rfl | rfl | rfl | rfl | rfl | rfl
  · exact z_o300
  · exact z_o301
  · exact z_o302
  · exact z_o303
  · exact z_o304
  · exact z_o305
  · exact z_o306
  · exact z_o307
  · exact z_o308
  · exact z_o309
  · exact z_o310
  · exact z_o311
  · exact z_o312
  · exact z_o313
  · exact z_o314
  · exact z_o315
  · exact z_o316
  · exact z_o317
  · exact z_o318
  · exact z_o319
theorem z_oM320 {mi : Nat} (h0 : 320 ≤ mi) (h1 : mi < 339) : z_okM mi = true := by
  rcases (by omega : mi = 320 ∨ mi = 321 ∨ mi = 322 ∨ mi = 323 ∨ mi = 324 ∨ mi = 325 ∨ mi = 326 ∨ mi = 327 ∨ mi = 328 ∨ mi = 329 ∨ mi = 330 ∨ mi = 331 ∨ mi = 332 ∨ mi = 333 ∨ mi = 334 ∨ mi = 335 ∨ mi = 336 ∨ mi = 337 ∨ mi = 338) with rfl | rfl | rfl | rfl | rfl | rfl | rfl | rfl | rfl | rfl | rfl | rfl | rfl | rfl | rfl | rfl | rfl | rfl | rfl
  · exact z_o320
  · exact z_o321
  · exact z_o322
  · exact z_o323
  · exact z_o324
  · exact z_o325
  · exact z_o326
  · exact z_o327
  · exact z_o328
  · exact z_o329
  · exact z_o330
  · exact z_o331
  · exact z_o332
  · exact z_o333
  · exact z_o334
  · exact z_o335
  · exact z_o336
  · exact z_o337
  · exact z_o338
theorem z_okMall {mi : Nat} (h : mi < 339) : z_okM mi = true := by
  rcases (by omega : (0 ≤ mi ∧ mi < 20) ∨ (20 ≤ mi ∧ mi < 40) ∨ (40 ≤ mi ∧ mi < 60) ∨ (60 ≤ mi ∧ mi < 80) ∨ (80 ≤ mi ∧ mi < 100) ∨ (100 ≤ mi ∧ mi < 120) ∨ (120 ≤ mi ∧ mi < 140) ∨ (140 ≤ mi ∧ mi < 160) ∨ (160 ≤ mi ∧ mi < 180) ∨ (180 ≤ mi ∧ mi < 200) ∨ (200 ≤ mi ∧ mi < 220) ∨ (220 ≤ mi ∧ mi < 240) ∨ (240 ≤ mi ∧ mi < 260) ∨ (260 ≤ mi ∧ mi < 280) ∨ (280 ≤ mi ∧ mi < 300) ∨ (300 ≤ mi ∧ mi < 320) ∨ (320 ≤ mi ∧ mi < 339)) with h | h | h | h | h | h | h | h | h | h | h | h | h | h | h | h | h
  · exact z_oM0 h.1 h.2
  · exact z_oM20 h.1 h.2
  · exact z_oM40 h.1 h.2
  · exact z_oM60 h.1 h.2
  · exact z_oM80 h.1 h.2
  · exact z_oM100 h.1 h.2
  · exact z_oM120 h.1 h.2
  · exact z_oM140 h.1 h.2
  · exact z_oM160 h.1 h.2
  · exact z_oM180 h.1 h.2
  · exact z_oM200 h.1 h.2
  · exact z_oM220 h.1 h.2
  · exact z_oM240 h.1 h.2
  · exact z_oM260 h.1 h.2
  · exact z_oM280 h.1 h.2
  · exact z_oM300 h.1 h.2
  · exact z_oM320 h.1 h.2
theorem z_okAll {mi pc : Nat} {r : Instr × Nat × List Nat} (h : z_at mi pc = some r) : z_ok mi (pc, r) = true := by
  by_cases hm : mi < 339
  · exact z_okAllM (z_okMall hm) h
  · exfalso
    have e : z_code mi = [] := by
      unfold z_code
      by_cases h2 : mi = 339
      · subst h2; rfl
      · rw [show z_tab.getD (mi / 20) [] = [] from ?_]
        · rfl
        · rw [List.getD_eq_getElem?_getD, List.getElem?_eq_none (show z_tab.length ≤ mi / 20 by show 17 ≤ mi / 20; omega)]
          rfl
    unfold z_at at h
    rw [e] at h
    have h3 : (none : Option (Instr × Nat × List Nat)) = some r := h
    cases h3
