/-! The law's own code, in stretches. Written by wip/whole/gen_ok.py -/
def it_mL : it_Mt := ((15, ⟨"GrantBoardLaw", "law", "([I)Z"⟩), (code, 4, some Jvm.ClassFile.FieldType.boolean), 1, 14, 356)
set_option maxRecDepth 100000 in
theorem it_qL0 : it_chkC it_mL 0 ((it_c363.drop 0).take 4) = true := by decide +kernel
set_option maxRecDepth 100000 in
theorem it_qL1 : it_chkC it_mL 64 ((it_c363.drop 4).take 4) = true := by decide +kernel
set_option maxRecDepth 100000 in
theorem it_qL2 : it_chkC it_mL 128 ((it_c363.drop 8).take 4) = true := by decide +kernel
set_option maxRecDepth 100000 in
theorem it_qL3 : it_chkC it_mL 192 ((it_c363.drop 12).take 4) = true := by decide +kernel
set_option maxRecDepth 100000 in
theorem it_qL4 : it_chkC it_mL 256 ((it_c363.drop 16).take 4) = true := by decide +kernel
set_option maxRecDepth 100000 in
theorem it_qL5 : it_chkC it_mL 320 ((it_c363.drop 20).take 4) = true := by decide +kernel
set_option maxRecDepth 100000 in
theorem it_qL6 : it_chkC it_mL 384 ((it_c363.drop 24).take 4) = true := by decide +kernel
set_option maxRecDepth 100000 in
theorem it_qL7 : it_chkC it_mL 448 ((it_c363.drop 28).take 4) = true := by decide +kernel
set_option maxRecDepth 100000 in
theorem it_qL8 : it_chkC it_mL 512 ((it_c363.drop 32).take 4) = true := by decide +kernel
set_option maxRecDepth 100000 in
theorem it_qL9 : it_chkC it_mL 576 ((it_c363.drop 36).take 4) = true := by decide +kernel
set_option maxRecDepth 100000 in
theorem it_qL10 : it_chkC it_mL 640 ((it_c363.drop 40).take 4) = true := by decide +kernel
set_option maxRecDepth 100000 in
theorem it_qL11 : it_chkC it_mL 704 ((it_c363.drop 44).take 4) = true := by decide +kernel
set_option maxRecDepth 100000 in
theorem it_qL12 : it_chkC it_mL 768 ((it_c363.drop 48).take 4) = true := by decide +kernel
set_option maxRecDepth 100000 in
theorem it_qL13 : it_chkC it_mL 832 ((it_c363.drop 52).take 4) = true := by decide +kernel
set_option maxRecDepth 100000 in
theorem it_qL14 : it_chkC it_mL 896 ((it_c363.drop 56).take 4) = true := by decide +kernel
theorem it_q363 : it_chkM 363 = true := by
  have z : it_chkC it_mL 960 (it_c363.drop 60) = true := by rw [List.drop_eq_nil_of_le (by decide)]; rfl
  have z : it_chkC it_mL 896 (it_c363.drop 56) = true := it_chkC_cut 4 it_qL14 (by rw [List.drop_drop]; exact z)
  have z : it_chkC it_mL 832 (it_c363.drop 52) = true := it_chkC_cut 4 it_qL13 (by rw [List.drop_drop]; exact z)
  have z : it_chkC it_mL 768 (it_c363.drop 48) = true := it_chkC_cut 4 it_qL12 (by rw [List.drop_drop]; exact z)
  have z : it_chkC it_mL 704 (it_c363.drop 44) = true := it_chkC_cut 4 it_qL11 (by rw [List.drop_drop]; exact z)
  have z : it_chkC it_mL 640 (it_c363.drop 40) = true := it_chkC_cut 4 it_qL10 (by rw [List.drop_drop]; exact z)
  have z : it_chkC it_mL 576 (it_c363.drop 36) = true := it_chkC_cut 4 it_qL9 (by rw [List.drop_drop]; exact z)
  have z : it_chkC it_mL 512 (it_c363.drop 32) = true := it_chkC_cut 4 it_qL8 (by rw [List.drop_drop]; exact z)
  have z : it_chkC it_mL 448 (it_c363.drop 28) = true := it_chkC_cut 4 it_qL7 (by rw [List.drop_drop]; exact z)
  have z : it_chkC it_mL 384 (it_c363.drop 24) = true := it_chkC_cut 4 it_qL6 (by rw [List.drop_drop]; exact z)
  have z : it_chkC it_mL 320 (it_c363.drop 20) = true := it_chkC_cut 4 it_qL5 (by rw [List.drop_drop]; exact z)
  have z : it_chkC it_mL 256 (it_c363.drop 16) = true := it_chkC_cut 4 it_qL4 (by rw [List.drop_drop]; exact z)
  have z : it_chkC it_mL 192 (it_c363.drop 12) = true := it_chkC_cut 4 it_qL3 (by rw [List.drop_drop]; exact z)
  have z : it_chkC it_mL 128 (it_c363.drop 8) = true := it_chkC_cut 4 it_qL2 (by rw [List.drop_drop]; exact z)
  have z : it_chkC it_mL 64 (it_c363.drop 4) = true := it_chkC_cut 4 it_qL1 (by rw [List.drop_drop]; exact z)
  have z : it_chkC it_mL 0 (it_c363.drop 0) = true := it_chkC_cut 4 it_qL0 (by rw [List.drop_drop]; exact z)
  exact z
theorem it_chk_all : ∀ y, it_chkM y = true := by
  intro y
  by_cases h : y < 364
  · match y, h with
    | 0, _ => exact it_q0
    | 1, _ => exact it_q1
    | 2, _ => exact it_q2
    | 3, _ => exact it_q3
    | 4, _ => exact it_q4
    | 5, _ => exact it_q5
    | 6, _ => exact it_q6
    | 7, _ => exact it_q7
    | 8, _ => exact it_q8
    | 9, _ => exact it_q9
    | 10, _ => exact it_q10
    | 11, _ => exact it_q11
    | 12, _ => exact it_q12
    | 13, _ => exact it_q13
    | 14, _ => exact it_q14
    | 15, _ => exact it_q15
    | 16, _ => exact it_q16
    | 17, _ => exact it_q17
    | 18, _ => exact it_q18
    | 19, _ => exact it_q19
    | 20, _ => exact it_q20
    | 21, _ => exact it_q21
    | 22, _ => exact it_q22
    | 23, _ => exact it_q23
    | 24, _ => exact it_q24
    | 25, _ => exact it_q25
    | 26, _ => exact it_q26
    | 27, _ => exact it_q27
    | 28, _ => exact it_q28
    | 29, _ => exact it_q29
    | 30, _ => exact it_q30
    | 31, _ => exact it_q31
    | 32, _ => exact it_q32
    | 33, _ => exact it_q33
    | 34, _ => exact it_q34
    | 35, _ => exact it_q35
    | 36, _ => exact it_q36
    | 37, _ => exact it_q37
    | 38, _ => exact it_q38
    | 39, _ => exact it_q39
    | 40, _ => exact it_q40
    | 41, _ => exact it_q41
    | 42, _ => exact it_q42
    | 43, _ => exact it_q43
    | 44, _ => exact it_q44
    | 45, _ => exact it_q45
    | 46, _ => exact it_q46
    | 47, _ => exact it_q47
    | 48, _ => exact it_q48
    | 49, _ => exact it_q49
    | 50, _ => exact it_q50
    | 51, _ => exact it_q51
    | 52, _ => exact it_q52
    | 53, _ => exact it_q53
    | 54, _ => exact it_q54
    | 55, _ => exact it_q55
    | 56, _ => exact it_q56
    | 57, _ => exact it_q57
    | 58, _ => exact it_q58
    | 59, _ => exact it_q59
    | 60, _ => exact it_q60
    | 61, _ => exact it_q61
    | 62, _ => exact it_q62
    | 63, _ => exact it_q63
    | 64, _ => exact it_q64
    | 65, _ => exact it_q65
    | 66, _ => exact it_q66
    | 67, _ => exact it_q67
    | 68, _ => exact it_q68
    | 69, _ => exact it_q69
    | 70, _ => exact it_q70
    | 71, _ => exact it_q71
    | 72, _ => exact it_q72
    | 73, _ => exact it_q73
    | 74, _ => exact it_q74
    | 75, _ => exact it_q75
    | 76, _ => exact it_q76
    | 77, _ => exact it_q77
    | 78, _ => exact it_q78
    | 79, _ => exact it_q79
    | 80, _ => exact it_q80
    | 81, _ => exact it_q81
    | 82, _ => exact it_q82
    | 83, _ => exact it_q83
    | 84, _ => exact it_q84
    | 85, _ => exact it_q85
    | 86, _ => exact it_q86
    | 87, _ => exact it_q87
    | 88, _ => exact it_q88
    | 89, _ => exact it_q89
    | 90, _ => exact it_q90
    | 91, _ => exact it_q91
    | 92, _ => exact it_q92
    | 93, _ => exact it_q93
    | 94, _ => exact it_q94
    | 95, _ => exact it_q95
    | 96, _ => exact it_q96
    | 97, _ => exact it_q97
    | 98, _ => exact it_q98
    | 99, _ => exact it_q99
    | 100, _ => exact it_q100
    | 101, _ => exact it_q101
    | 102, _ => exact it_q102
    | 103, _ => exact it_q103
    | 104, _ => exact it_q104
    | 105, _ => exact it_q105
    | 106, _ => exact it_q106
    | 107, _ => exact it_q107
    | 108, _ => exact it_q108
    | 109, _ => exact it_q109
    | 110, _ => exact it_q110
    | 111, _ => exact it_q111
    | 112, _ => exact it_q112
    | 113, _ => exact it_q113
    | 114, _ => exact it_q114
    | 115, _ => exact it_q115
    | 116, _ => exact it_q116
    | 117, _ => exact it_q117
    | 118, _ => exact it_q118
    | 119, _ => exact it_q119
    | 120, _ => exact it_q120
    | 121, _ => exact it_q121
    | 122, _ => exact it_q122
    | 123, _ => exact it_q123
    | 124, _ => exact it_q124
    | 125, _ => exact it_q125
    | 126, _ => exact it_q126
    | 127, _ => exact it_q127
    | 128, _ => exact it_q128
    | 129, _ => exact it_q129
    | 130, _ => exact it_q130
    | 131, _ => exact it_q131
    | 132, _ => exact it_q132
    | 133, _ => exact it_q133
    | 134, _ => exact it_q134
    | 135, _ => exact it_q135
    | 136, _ => exact it_q136
    | 137, _ => exact it_q137
    | 138, _ => exact it_q138
    | 139, _ => exact it_q139
    | 140, _ => exact it_q140
    | 141, _ => exact it_q141
    | 142, _ => exact it_q142
    | 143, _ => exact it_q143
    | 144, _ => exact it_q144
    | 145, _ => exact it_q145
    | 146, _ => exact it_q146
    | 147, _ => exact it_q147
    | 148, _ => exact it_q148
    | 149, _ => exact it_q149
    | 150, _ => exact it_q150
    | 151, _ => exact it_q151
    | 152, _ => exact it_q152
    | 153, _ => exact it_q153
    | 154, _ => exact it_q154
    | 155, _ => exact it_q155
    | 156, _ => exact it_q156
    | 157, _ => exact it_q157
    | 158, _ => exact it_q158
    | 159, _ => exact it_q159
    | 160, _ => exact it_q160
    | 161, _ => exact it_q161
    | 162, _ => exact it_q162
    | 163, _ => exact it_q163
    | 164, _ => exact it_q164
    | 165, _ => exact it_q165
    | 166, _ => exact it_q166
    | 167, _ => exact it_q167
    | 168, _ => exact it_q168
    | 169, _ => exact it_q169
    | 170, _ => exact it_q170
    | 171, _ => exact it_q171
    | 172, _ => exact it_q172
    | 173, _ => exact it_q173
    | 174, _ => exact it_q174
    | 175, _ => exact it_q175
    | 176, _ => exact it_q176
    | 177, _ => exact it_q177
    | 178, _ => exact it_q178
    | 179, _ => exact it_q179
    | 180, _ => exact it_q180
    | 181, _ => exact it_q181
    | 182, _ => exact it_q182
    | 183, _ => exact it_q183
    | 184, _ => exact it_q184
    | 185, _ => exact it_q185
    | 186, _ => exact it_q186
    | 187, _ => exact it_q187
    | 188, _ => exact it_q188
    | 189, _ => exact it_q189
    | 190, _ => exact it_q190
    | 191, _ => exact it_q191
    | 192, _ => exact it_q192
    | 193, _ => exact it_q193
    | 194, _ => exact it_q194
    | 195, _ => exact it_q195
    | 196, _ => exact it_q196
    | 197, _ => exact it_q197
    | 198, _ => exact it_q198
    | 199, _ => exact it_q199
    | 200, _ => exact it_q200
    | 201, _ => exact it_q201
    | 202, _ => exact it_q202
    | 203, _ => exact it_q203
    | 204, _ => exact it_q204
    | 205, _ => exact it_q205
    | 206, _ => exact it_q206
    | 207, _ => exact it_q207
    | 208, _ => exact it_q208
    | 209, _ => exact it_q209
    | 210, _ => exact it_q210
    | 211, _ => exact it_q211
    | 212, _ => exact it_q212
    | 213, _ => exact it_q213
    | 214, _ => exact it_q214
    | 215, _ => exact it_q215
    | 216, _ => exact it_q216
    | 217, _ => exact it_q217
    | 218, _ => exact it_q218
    | 219, _ => exact it_q219
    | 220, _ => exact it_q220
    | 221, _ => exact it_q221
    | 222, _ => exact it_q222
    | 223, _ => exact it_q223
    | 224, _ => exact it_q224
    | 225, _ => exact it_q225
    | 226, _ => exact it_q226
    | 227, _ => exact it_q227
    | 228, _ => exact it_q228
    | 229, _ => exact it_q229
    | 230, _ => exact it_q230
    | 231, _ => exact it_q231
    | 232, _ => exact it_q232
    | 233, _ => exact it_q233
    | 234, _ => exact it_q234
    | 235, _ => exact it_q235
    | 236, _ => exact it_q236
    | 237, _ => exact it_q237
    | 238, _ => exact it_q238
    | 239, _ => exact it_q239
    | 240, _ => exact it_q240
    | 241, _ => exact it_q241
    | 242, _ => exact it_q242
    | 243, _ => exact it_q243
    | 244, _ => exact it_q244
    | 245, _ => exact it_q245
    | 246, _ => exact it_q246
    | 247, _ => exact it_q247
    | 248, _ => exact it_q248
    | 249, _ => exact it_q249
    | 250, _ => exact it_q250
    | 251, _ => exact it_q251
    | 252, _ => exact it_q252
    | 253, _ => exact it_q253
    | 254, _ => exact it_q254
    | 255, _ => exact it_q255
    | 256, _ => exact it_q256
    | 257, _ => exact it_q257
    | 258, _ => exact it_q258
    | 259, _ => exact it_q259
    | 260, _ => exact it_q260
    | 261, _ => exact it_q261
    | 262, _ => exact it_q262
    | 263, _ => exact it_q263
    | 264, _ => exact it_q264
    | 265, _ => exact it_q265
    | 266, _ => exact it_q266
    | 267, _ => exact it_q267
    | 268, _ => exact it_q268
    | 269, _ => exact it_q269
    | 270, _ => exact it_q270
    | 271, _ => exact it_q271
    | 272, _ => exact it_q272
    | 273, _ => exact it_q273
    | 274, _ => exact it_q274
    | 275, _ => exact it_q275
    | 276, _ => exact it_q276
    | 277, _ => exact it_q277
    | 278, _ => exact it_q278
    | 279, _ => exact it_q279
    | 280, _ => exact it_q280
    | 281, _ => exact it_q281
    | 282, _ => exact it_q282
    | 283, _ => exact it_q283
    | 284, _ => exact it_q284
    | 285, _ => exact it_q285
    | 286, _ => exact it_q286
    | 287, _ => exact it_q287
    | 288, _ => exact it_q288
    | 289, _ => exact it_q289
    | 290, _ => exact it_q290
    | 291, _ => exact it_q291
    | 292, _ => exact it_q292
    | 293, _ => exact it_q293
    | 294, _ => exact it_q294
    | 295, _ => exact it_q295
    | 296, _ => exact it_q296
    | 297, _ => exact it_q297
    | 298, _ => exact it_q298
    | 299, _ => exact it_q299
    | 300, _ => exact it_q300
    | 301, _ => exact it_q301
    | 302, _ => exact it_q302
    | 303, _ => exact it_q303
    | 304, _ => exact it_q304
    | 305, _ => exact it_q305
    | 306, _ => exact it_q306
    | 307, _ => exact it_q307
    | 308, _ => exact it_q308
    | 309, _ => exact it_q309
    | 310, _ => exact it_q310
    | 311, _ => exact it_q311
    | 312, _ => exact it_q312
    | 313, _ => exact it_q313
    | 314, _ => exact it_q314
    | 315, _ => exact it_q315
    | 316, _ => exact it_q316
    | 317, _ => exact it_q317
    | 318, _ => exact it_q318
    | 319, _ => exact it_q319
    | 320, _ => exact it_q320
    | 321, _ => exact it_q321
    | 322, _ => exact it_q322
    | 323, _ => exact it_q323
    | 324, _ => exact it_q324
    | 325, _ => exact it_q325
    | 326, _ => exact it_q326
    | 327, _ => exact it_q327
    | 328, _ => exact it_q328
    | 329, _ => exact it_q329
    | 330, _ => exact it_q330
    | 331, _ => exact it_q331
    | 332, _ => exact it_q332
    | 333, _ => exact it_q333
    | 334, _ => exact it_q334
    | 335, _ => exact it_q335
    | 336, _ => exact it_q336
    | 337, _ => exact it_q337
    | 338, _ => exact it_q338
    | 339, _ => exact it_q339
    | 340, _ => exact it_q340
    | 341, _ => exact it_q341
    | 342, _ => exact it_q342
    | 343, _ => exact it_q343
    | 344, _ => exact it_q344
    | 345, _ => exact it_q345
    | 346, _ => exact it_q346
    | 347, _ => exact it_q347
    | 348, _ => exact it_q348
    | 349, _ => exact it_q349
    | 350, _ => exact it_q350
    | 351, _ => exact it_q351
    | 352, _ => exact it_q352
    | 353, _ => exact it_q353
    | 354, _ => exact it_q354
    | 355, _ => exact it_q355
    | 356, _ => exact it_q356
    | 357, _ => exact it_q357
    | 358, _ => exact it_q358
    | 359, _ => exact it_q359
    | 360, _ => exact it_q360
    | 361, _ => exact it_q361
    | 362, _ => exact it_q362
    | 363, _ => exact it_q363
    | n + 364, h => exact absurd h (by omega)
  · have hl : it_cds.length = 364 := by decide +kernel
    have hn : it_cds[y]? = none := List.getElem?_eq_none (by omega)
    simp only [it_chkM, hn]
