/-! My list of methods is so in the tables: by places. Written by wip/whole/gen_ok.py -/
theorem it_k0 : ∀ M, it_mt[0]? = some M → it_kP M 2 := fun M h => by cases h; exact ⟨rfl, (it_mem 0 7 rfl rfl), ⟨by decide +kernel, by decide +kernel⟩, by decide +kernel, rfl, fun _ => (it_mem 0 121 rfl rfl), (it_mem 0 120 rfl rfl), rfl, rfl⟩
theorem it_k1 : ∀ M, it_mt[1]? = some M → it_kP M 1 := fun M h => by cases h; exact ⟨rfl, (it_mem 0 7 rfl rfl), ⟨by decide +kernel, by decide +kernel⟩, by decide +kernel, rfl, fun _ => (it_mem 2 111 rfl rfl), (it_mem 2 109 rfl rfl), (it_mem 2 110 rfl rfl), _, rfl, rfl⟩
theorem it_k2 : ∀ M, it_mt[2]? = some M → it_kP M 1 := fun M h => by cases h; exact ⟨rfl, (it_mem 0 7 rfl rfl), ⟨by decide +kernel, by decide +kernel⟩, by decide +kernel, rfl, fun _ => (it_mem 2 122 rfl rfl), (it_mem 2 120 rfl rfl), (it_mem 2 121 rfl rfl), _, rfl, rfl⟩
theorem it_k3 : ∀ M, it_mt[3]? = some M → it_kP M 1 := fun M h => by cases h; exact ⟨rfl, (it_mem 0 7 rfl rfl), ⟨by decide +kernel, by decide +kernel⟩, by decide +kernel, rfl, fun _ => (it_mem 2 126 rfl rfl), (it_mem 2 125 rfl rfl), (it_mem 10 11 rfl rfl), _, rfl, rfl⟩
theorem it_k4 : ∀ M, it_mt[4]? = some M → it_kP M 1 := fun M h => by cases h; exact ⟨rfl, (it_mem 0 7 rfl rfl), ⟨by decide +kernel, by decide +kernel⟩, by decide +kernel, rfl, fun _ => (it_mem 2 133 rfl rfl), (it_mem 2 132 rfl rfl), (it_mem 10 12 rfl rfl), _, rfl, rfl⟩
theorem it_k5 : ∀ M, it_mt[5]? = some M → it_kP M 1 := fun M h => by cases h; exact ⟨rfl, (it_mem 0 7 rfl rfl), ⟨by decide +kernel, by decide +kernel⟩, by decide +kernel, rfl, fun _ => (it_mem 2 141 rfl rfl), (it_mem 2 139 rfl rfl), (it_mem 2 140 rfl rfl), _, rfl, rfl⟩
theorem it_k6 : ∀ M, it_mt[6]? = some M → it_kP M 1 := fun M h => by cases h; exact ⟨rfl, (it_mem 0 7 rfl rfl), ⟨by decide +kernel, by decide +kernel⟩, by decide +kernel, rfl, fun _ => (it_mem 2 137 rfl rfl), (it_mem 2 135 rfl rfl), (it_mem 2 136 rfl rfl), _, rfl, rfl⟩
theorem it_k7 : ∀ M, it_mt[7]? = some M → it_kP M 1 := fun M h => by cases h; exact ⟨rfl, (it_mem 0 7 rfl rfl), ⟨by decide +kernel, by decide +kernel⟩, by decide +kernel, rfl, fun _ => (it_mem 2 157 rfl rfl), (it_mem 2 155 rfl rfl), (it_mem 2 156 rfl rfl), _, rfl, rfl⟩
theorem it_k8 : ∀ M, it_mt[8]? = some M → it_kP M 1 := fun M h => by cases h; exact ⟨rfl, (it_mem 0 7 rfl rfl), ⟨by decide +kernel, by decide +kernel⟩, by decide +kernel, rfl, fun _ => (it_mem 2 165 rfl rfl), (it_mem 2 163 rfl rfl), (it_mem 2 164 rfl rfl), _, rfl, rfl⟩
theorem it_k9 : ∀ M, it_mt[9]? = some M → it_kP M 1 := fun M h => by cases h; exact ⟨rfl, (it_mem 0 7 rfl rfl), ⟨by decide +kernel, by decide +kernel⟩, by decide +kernel, rfl, fun _ => (it_mem 4 91 rfl rfl), (it_mem 4 89 rfl rfl), (it_mem 4 90 rfl rfl), _, rfl, rfl⟩
theorem it_k10 : ∀ M, it_mt[10]? = some M → it_kP M 1 := fun M h => by cases h; exact ⟨rfl, (it_mem 0 7 rfl rfl), ⟨by decide +kernel, by decide +kernel⟩, by decide +kernel, rfl, fun _ => (it_mem 2 173 rfl rfl), (it_mem 2 171 rfl rfl), (it_mem 2 172 rfl rfl), _, rfl, rfl⟩
theorem it_k11 : ∀ M, it_mt[11]? = some M → it_kP M 2 := fun M h => by cases h; exact ⟨rfl, (it_mem 0 2 rfl rfl), ⟨by decide +kernel, by decide +kernel⟩, by decide +kernel, rfl, fun _ => (it_mem 0 29 rfl rfl), (it_mem 0 28 rfl rfl), rfl, rfl⟩
theorem it_k12 : ∀ M, it_mt[12]? = some M → it_kP M 1 := fun M h => by cases h; exact ⟨rfl, (it_mem 0 2 rfl rfl), ⟨by decide +kernel, by decide +kernel⟩, by decide +kernel, rfl, fun _ => (it_mem 2 42 rfl rfl), (it_mem 2 40 rfl rfl), (it_mem 2 41 rfl rfl), _, rfl, rfl⟩
theorem it_k13 : ∀ M, it_mt[13]? = some M → it_kP M 1 := fun M h => by cases h; exact ⟨rfl, (it_mem 0 2 rfl rfl), ⟨by decide +kernel, by decide +kernel⟩, by decide +kernel, rfl, fun _ => (it_mem 2 57 rfl rfl), (it_mem 2 55 rfl rfl), (it_mem 2 56 rfl rfl), _, rfl, rfl⟩
theorem it_k14 : ∀ M, it_mt[14]? = some M → it_kP M 1 := fun M h => by cases h; exact ⟨rfl, (it_mem 0 2 rfl rfl), ⟨by decide +kernel, by decide +kernel⟩, by decide +kernel, rfl, fun _ => (it_mem 2 116 rfl rfl), (it_mem 2 114 rfl rfl), (it_mem 2 115 rfl rfl), _, rfl, rfl⟩
theorem it_k15 : ∀ M, it_mt[15]? = some M → it_kP M 1 := fun M h => by cases h; exact ⟨rfl, (it_mem 0 2 rfl rfl), ⟨by decide +kernel, by decide +kernel⟩, by decide +kernel, rfl, fun _ => (it_mem 3 203 rfl rfl), (it_mem 3 201 rfl rfl), (it_mem 3 202 rfl rfl), _, rfl, rfl⟩
theorem it_k16 : ∀ M, it_mt[16]? = some M → it_kP M 1 := fun M h => by cases h; exact ⟨rfl, (it_mem 0 2 rfl rfl), ⟨by decide +kernel, by decide +kernel⟩, by decide +kernel, rfl, fun _ => (it_mem 2 149 rfl rfl), (it_mem 2 147 rfl rfl), (it_mem 2 148 rfl rfl), _, rfl, rfl⟩
theorem it_k17 : ∀ M, it_mt[17]? = some M → it_kP M 1 := fun M h => by cases h; exact ⟨rfl, (it_mem 0 2 rfl rfl), ⟨by decide +kernel, by decide +kernel⟩, by decide +kernel, rfl, fun _ => (it_mem 2 22 rfl rfl), (it_mem 2 20 rfl rfl), (it_mem 2 21 rfl rfl), _, rfl, rfl⟩
theorem it_k18 : ∀ M, it_mt[18]? = some M → it_kP M 1 := fun M h => by cases h; exact ⟨rfl, (it_mem 0 2 rfl rfl), ⟨by decide +kernel, by decide +kernel⟩, by decide +kernel, rfl, fun _ => (it_mem 2 93 rfl rfl), (it_mem 2 91 rfl rfl), (it_mem 2 92 rfl rfl), _, rfl, rfl⟩
theorem it_k19 : ∀ M, it_mt[19]? = some M → it_kP M 1 := fun M h => by cases h; exact ⟨rfl, (it_mem 0 2 rfl rfl), ⟨by decide +kernel, by decide +kernel⟩, by decide +kernel, rfl, fun _ => (it_mem 4 228 rfl rfl), (it_mem 4 226 rfl rfl), (it_mem 4 227 rfl rfl), _, rfl, rfl⟩
theorem it_k20 : ∀ M, it_mt[20]? = some M → it_kP M 1 := fun M h => by cases h; exact ⟨rfl, (it_mem 0 2 rfl rfl), ⟨by decide +kernel, by decide +kernel⟩, by decide +kernel, rfl, fun _ => (it_mem 2 161 rfl rfl), (it_mem 2 159 rfl rfl), (it_mem 2 160 rfl rfl), _, rfl, rfl⟩
theorem it_k21 : ∀ M, it_mt[21]? = some M → it_kP M 1 := fun M h => by cases h; exact ⟨rfl, (it_mem 0 2 rfl rfl), ⟨by decide +kernel, by decide +kernel⟩, by decide +kernel, rfl, fun _ => (it_mem 2 145 rfl rfl), (it_mem 2 143 rfl rfl), (it_mem 2 144 rfl rfl), _, rfl, rfl⟩
theorem it_k22 : ∀ M, it_mt[22]? = some M → it_kP M 0 := fun M h => by cases h; exact ⟨rfl, (it_mem 0 15 rfl rfl), ⟨by decide +kernel, by decide +kernel⟩, by decide +kernel, rfl, fun _ => (it_mem 3 114 rfl rfl), (it_mem 3 113 rfl rfl)⟩
theorem it_k23 : ∀ M, it_mt[23]? = some M → it_kP M 0 := fun M h => by cases h; exact ⟨rfl, (it_mem 0 15 rfl rfl), ⟨by decide +kernel, by decide +kernel⟩, by decide +kernel, rfl, fun _ => (it_mem 3 120 rfl rfl), (it_mem 3 119 rfl rfl)⟩
theorem it_k24 : ∀ M, it_mt[24]? = some M → it_kP M 0 := fun M h => by cases h; exact ⟨rfl, (it_mem 0 15 rfl rfl), ⟨by decide +kernel, by decide +kernel⟩, by decide +kernel, rfl, fun _ => (it_mem 3 123 rfl rfl), (it_mem 3 122 rfl rfl)⟩
theorem it_k25 : ∀ M, it_mt[25]? = some M → it_kP M 0 := fun M h => by cases h; exact ⟨rfl, (it_mem 0 15 rfl rfl), ⟨by decide +kernel, by decide +kernel⟩, by decide +kernel, rfl, fun _ => (it_mem 3 126 rfl rfl), (it_mem 3 125 rfl rfl)⟩
theorem it_k26 : ∀ M, it_mt[26]? = some M → it_kP M 0 := fun M h => by cases h; exact ⟨rfl, (it_mem 0 15 rfl rfl), ⟨by decide +kernel, by decide +kernel⟩, by decide +kernel, rfl, fun _ => (it_mem 3 145 rfl rfl), (it_mem 3 144 rfl rfl)⟩
theorem it_k27 : ∀ M, it_mt[27]? = some M → it_kP M 0 := fun M h => by cases h; exact ⟨rfl, (it_mem 0 15 rfl rfl), ⟨by decide +kernel, by decide +kernel⟩, by decide +kernel, rfl, fun _ => (it_mem 3 129 rfl rfl), (it_mem 3 128 rfl rfl)⟩
theorem it_k28 : ∀ M, it_mt[28]? = some M → it_kP M 0 := fun M h => by cases h; exact ⟨rfl, (it_mem 0 15 rfl rfl), ⟨by decide +kernel, by decide +kernel⟩, by decide +kernel, rfl, fun _ => (it_mem 3 117 rfl rfl), (it_mem 3 116 rfl rfl)⟩
theorem it_k29 : ∀ M, it_mt[29]? = some M → it_kP M 0 := fun M h => by cases h; exact ⟨rfl, (it_mem 0 15 rfl rfl), ⟨by decide +kernel, by decide +kernel⟩, by decide +kernel, rfl, fun _ => (it_mem 3 132 rfl rfl), (it_mem 3 131 rfl rfl)⟩
theorem it_k30 : ∀ M, it_mt[30]? = some M → it_kP M 0 := fun M h => by cases h; exact ⟨rfl, (it_mem 0 15 rfl rfl), ⟨by decide +kernel, by decide +kernel⟩, by decide +kernel, rfl, fun _ => (it_mem 3 139 rfl rfl), (it_mem 3 138 rfl rfl)⟩
theorem it_k31 : ∀ M, it_mt[31]? = some M → it_kP M 0 := fun M h => by cases h; exact ⟨rfl, (it_mem 0 15 rfl rfl), ⟨by decide +kernel, by decide +kernel⟩, by decide +kernel, rfl, fun _ => (it_mem 3 135 rfl rfl), (it_mem 3 134 rfl rfl)⟩
theorem it_k32 : ∀ M, it_mt[32]? = some M → it_kP M 0 := fun M h => by cases h; exact ⟨rfl, (it_mem 0 15 rfl rfl), ⟨by decide +kernel, by decide +kernel⟩, by decide +kernel, rfl, fun _ => (it_mem 3 148 rfl rfl), (it_mem 3 147 rfl rfl)⟩
theorem it_k33 : ∀ M, it_mt[33]? = some M → it_kP M 0 := fun M h => by cases h; exact ⟨rfl, (it_mem 0 15 rfl rfl), ⟨by decide +kernel, by decide +kernel⟩, by decide +kernel, rfl, fun _ => (it_mem 3 142 rfl rfl), (it_mem 3 141 rfl rfl)⟩
theorem it_k34 : ∀ M, it_mt[34]? = some M → it_kP M 0 := fun M h => by cases h; exact ⟨rfl, (it_mem 0 15 rfl rfl), ⟨by decide +kernel, by decide +kernel⟩, by decide +kernel, rfl, fun _ => (it_mem 3 151 rfl rfl), (it_mem 3 150 rfl rfl)⟩
theorem it_k35 : ∀ M, it_mt[35]? = some M → it_kP M 2 := fun M h => by cases h; exact ⟨rfl, (it_mem 0 11 rfl rfl), ⟨by decide +kernel, by decide +kernel⟩, by decide +kernel, rfl, fun _ => (it_mem 1 146 rfl rfl), (it_mem 1 145 rfl rfl), rfl, rfl⟩
theorem it_k36 : ∀ M, it_mt[36]? = some M → it_kP M 1 := fun M h => by cases h; exact ⟨rfl, (it_mem 0 11 rfl rfl), ⟨by decide +kernel, by decide +kernel⟩, by decide +kernel, rfl, fun _ => (it_mem 2 32 rfl rfl), (it_mem 2 30 rfl rfl), (it_mem 2 31 rfl rfl), _, rfl, rfl⟩
theorem it_k37 : ∀ M, it_mt[37]? = some M → it_kP M 1 := fun M h => by cases h; exact ⟨rfl, (it_mem 0 11 rfl rfl), ⟨by decide +kernel, by decide +kernel⟩, by decide +kernel, rfl, fun _ => (it_mem 4 165 rfl rfl), (it_mem 4 163 rfl rfl), (it_mem 4 164 rfl rfl), _, rfl, rfl⟩
theorem it_k38 : ∀ M, it_mt[38]? = some M → it_kP M 1 := fun M h => by cases h; exact ⟨rfl, (it_mem 0 11 rfl rfl), ⟨by decide +kernel, by decide +kernel⟩, by decide +kernel, rfl, fun _ => (it_mem 5 134 rfl rfl), (it_mem 5 132 rfl rfl), (it_mem 5 133 rfl rfl), _, rfl, rfl⟩
theorem it_k39 : ∀ M, it_mt[39]? = some M → it_kP M 1 := fun M h => by cases h; exact ⟨rfl, (it_mem 0 11 rfl rfl), ⟨by decide +kernel, by decide +kernel⟩, by decide +kernel, rfl, fun _ => (it_mem 2 211 rfl rfl), (it_mem 2 209 rfl rfl), (it_mem 2 210 rfl rfl), _, rfl, rfl⟩
theorem it_k40 : ∀ M, it_mt[40]? = some M → it_kP M 1 := fun M h => by cases h; exact ⟨rfl, (it_mem 0 11 rfl rfl), ⟨by decide +kernel, by decide +kernel⟩, by decide +kernel, rfl, fun _ => (it_mem 2 215 rfl rfl), (it_mem 2 214 rfl rfl), (it_mem 10 14 rfl rfl), _, rfl, rfl⟩
theorem it_k41 : ∀ M, it_mt[41]? = some M → it_kP M 1 := fun M h => by cases h; exact ⟨rfl, (it_mem 0 11 rfl rfl), ⟨by decide +kernel, by decide +kernel⟩, by decide +kernel, rfl, fun _ => (it_mem 2 229 rfl rfl), (it_mem 2 228 rfl rfl), (it_mem 10 15 rfl rfl), _, rfl, rfl⟩
theorem it_k42 : ∀ M, it_mt[42]? = some M → it_kP M 1 := fun M h => by cases h; exact ⟨rfl, (it_mem 0 11 rfl rfl), ⟨by decide +kernel, by decide +kernel⟩, by decide +kernel, rfl, fun _ => (it_mem 4 169 rfl rfl), (it_mem 4 168 rfl rfl), (it_mem 13 5 rfl rfl), _, rfl, rfl⟩
theorem it_k43 : ∀ M, it_mt[43]? = some M → it_kP M 1 := fun M h => by cases h; exact ⟨rfl, (it_mem 0 11 rfl rfl), ⟨by decide +kernel, by decide +kernel⟩, by decide +kernel, rfl, fun _ => (it_mem 4 180 rfl rfl), (it_mem 4 179 rfl rfl), (it_mem 13 7 rfl rfl), _, rfl, rfl⟩
theorem it_k44 : ∀ M, it_mt[44]? = some M → it_kP M 1 := fun M h => by cases h; exact ⟨rfl, (it_mem 0 11 rfl rfl), ⟨by decide +kernel, by decide +kernel⟩, by decide +kernel, rfl, fun _ => (it_mem 4 174 rfl rfl), (it_mem 4 173 rfl rfl), (it_mem 13 6 rfl rfl), _, rfl, rfl⟩
theorem it_k45 : ∀ M, it_mt[45]? = some M → it_kP M 1 := fun M h => by cases h; exact ⟨rfl, (it_mem 0 11 rfl rfl), ⟨by decide +kernel, by decide +kernel⟩, by decide +kernel, rfl, fun _ => (it_mem 4 184 rfl rfl), (it_mem 4 183 rfl rfl), (it_mem 13 8 rfl rfl), _, rfl, rfl⟩
theorem it_k46 : ∀ M, it_mt[46]? = some M → it_kP M 1 := fun M h => by cases h; exact ⟨rfl, (it_mem 0 11 rfl rfl), ⟨by decide +kernel, by decide +kernel⟩, by decide +kernel, rfl, fun _ => (it_mem 4 192 rfl rfl), (it_mem 4 191 rfl rfl), (it_mem 13 9 rfl rfl), _, rfl, rfl⟩
theorem it_k47 : ∀ M, it_mt[47]? = some M → it_kP M 1 := fun M h => by cases h; exact ⟨rfl, (it_mem 0 11 rfl rfl), ⟨by decide +kernel, by decide +kernel⟩, by decide +kernel, rfl, fun _ => (it_mem 3 33 rfl rfl), (it_mem 3 32 rfl rfl), (it_mem 11 3 rfl rfl), _, rfl, rfl⟩
theorem it_k48 : ∀ M, it_mt[48]? = some M → it_kP M 1 := fun M h => by cases h; exact ⟨rfl, (it_mem 0 11 rfl rfl), ⟨by decide +kernel, by decide +kernel⟩, by decide +kernel, rfl, fun _ => (it_mem 3 29 rfl rfl), (it_mem 3 28 rfl rfl), (it_mem 11 2 rfl rfl), _, rfl, rfl⟩
theorem it_k49 : ∀ M, it_mt[49]? = some M → it_kP M 1 := fun M h => by cases h; exact ⟨rfl, (it_mem 0 11 rfl rfl), ⟨by decide +kernel, by decide +kernel⟩, by decide +kernel, rfl, fun _ => (it_mem 3 42 rfl rfl), (it_mem 3 41 rfl rfl), (it_mem 11 4 rfl rfl), _, rfl, rfl⟩
theorem it_k50 : ∀ M, it_mt[50]? = some M → it_kP M 1 := fun M h => by cases h; exact ⟨rfl, (it_mem 0 11 rfl rfl), ⟨by decide +kernel, by decide +kernel⟩, by decide +kernel, rfl, fun _ => (it_mem 5 56 rfl rfl), (it_mem 5 54 rfl rfl), (it_mem 5 55 rfl rfl), _, rfl, rfl⟩
theorem it_k51 : ∀ M, it_mt[51]? = some M → it_kP M 1 := fun M h => by cases h; exact ⟨rfl, (it_mem 0 11 rfl rfl), ⟨by decide +kernel, by decide +kernel⟩, by decide +kernel, rfl, fun _ => (it_mem 4 197 rfl rfl), (it_mem 4 196 rfl rfl), (it_mem 13 10 rfl rfl), _, rfl, rfl⟩
theorem it_k52 : ∀ M, it_mt[52]? = some M → it_kP M 1 := fun M h => by cases h; exact ⟨rfl, (it_mem 0 11 rfl rfl), ⟨by decide +kernel, by decide +kernel⟩, by decide +kernel, rfl, fun _ => (it_mem 4 201 rfl rfl), (it_mem 4 200 rfl rfl), (it_mem 13 11 rfl rfl), _, rfl, rfl⟩
theorem it_k53 : ∀ M, it_mt[53]? = some M → it_kP M 1 := fun M h => by cases h; exact ⟨rfl, (it_mem 0 11 rfl rfl), ⟨by decide +kernel, by decide +kernel⟩, by decide +kernel, rfl, fun _ => (it_mem 4 205 rfl rfl), (it_mem 4 204 rfl rfl), (it_mem 13 12 rfl rfl), _, rfl, rfl⟩
theorem it_k54 : ∀ M, it_mt[54]? = some M → it_kP M 1 := fun M h => by cases h; exact ⟨rfl, (it_mem 0 11 rfl rfl), ⟨by decide +kernel, by decide +kernel⟩, by decide +kernel, rfl, fun _ => (it_mem 5 48 rfl rfl), (it_mem 5 46 rfl rfl), (it_mem 5 47 rfl rfl), _, rfl, rfl⟩
theorem it_k55 : ∀ M, it_mt[55]? = some M → it_kP M 1 := fun M h => by cases h; exact ⟨rfl, (it_mem 0 11 rfl rfl), ⟨by decide +kernel, by decide +kernel⟩, by decide +kernel, rfl, fun _ => (it_mem 4 209 rfl rfl), (it_mem 4 208 rfl rfl), (it_mem 13 13 rfl rfl), _, rfl, rfl⟩
theorem it_k56 : ∀ M, it_mt[56]? = some M → it_kP M 1 := fun M h => by cases h; exact ⟨rfl, (it_mem 0 11 rfl rfl), ⟨by decide +kernel, by decide +kernel⟩, by decide +kernel, rfl, fun _ => (it_mem 4 216 rfl rfl), (it_mem 4 215 rfl rfl), (it_mem 13 14 rfl rfl), _, rfl, rfl⟩
theorem it_k57 : ∀ M, it_mt[57]? = some M → it_kP M 1 := fun M h => by cases h; exact ⟨rfl, (it_mem 0 11 rfl rfl), ⟨by decide +kernel, by decide +kernel⟩, by decide +kernel, rfl, fun _ => (it_mem 4 220 rfl rfl), (it_mem 4 219 rfl rfl), (it_mem 13 15 rfl rfl), _, rfl, rfl⟩
theorem it_k58 : ∀ M, it_mt[58]? = some M → it_kP M 1 := fun M h => by cases h; exact ⟨rfl, (it_mem 0 11 rfl rfl), ⟨by decide +kernel, by decide +kernel⟩, by decide +kernel, rfl, fun _ => (it_mem 4 233 rfl rfl), (it_mem 4 232 rfl rfl), (it_mem 14 0 rfl rfl), _, rfl, rfl⟩
theorem it_k59 : ∀ M, it_mt[59]? = some M → it_kP M 1 := fun M h => by cases h; exact ⟨rfl, (it_mem 0 11 rfl rfl), ⟨by decide +kernel, by decide +kernel⟩, by decide +kernel, rfl, fun _ => (it_mem 5 10 rfl rfl), (it_mem 5 9 rfl rfl), (it_mem 14 3 rfl rfl), _, rfl, rfl⟩
theorem it_k60 : ∀ M, it_mt[60]? = some M → it_kP M 1 := fun M h => by cases h; exact ⟨rfl, (it_mem 0 11 rfl rfl), ⟨by decide +kernel, by decide +kernel⟩, by decide +kernel, rfl, fun _ => (it_mem 5 6 rfl rfl), (it_mem 5 5 rfl rfl), (it_mem 14 2 rfl rfl), _, rfl, rfl⟩
theorem it_k61 : ∀ M, it_mt[61]? = some M → it_kP M 1 := fun M h => by cases h; exact ⟨rfl, (it_mem 0 11 rfl rfl), ⟨by decide +kernel, by decide +kernel⟩, by decide +kernel, rfl, fun _ => (it_mem 3 46 rfl rfl), (it_mem 3 45 rfl rfl), (it_mem 11 5 rfl rfl), _, rfl, rfl⟩
theorem it_k62 : ∀ M, it_mt[62]? = some M → it_kP M 1 := fun M h => by cases h; exact ⟨rfl, (it_mem 0 11 rfl rfl), ⟨by decide +kernel, by decide +kernel⟩, by decide +kernel, rfl, fun _ => (it_mem 3 50 rfl rfl), (it_mem 3 49 rfl rfl), (it_mem 11 6 rfl rfl), _, rfl, rfl⟩
theorem it_k63 : ∀ M, it_mt[63]? = some M → it_kP M 1 := fun M h => by cases h; exact ⟨rfl, (it_mem 0 11 rfl rfl), ⟨by decide +kernel, by decide +kernel⟩, by decide +kernel, rfl, fun _ => (it_mem 5 14 rfl rfl), (it_mem 5 13 rfl rfl), (it_mem 14 4 rfl rfl), _, rfl, rfl⟩
theorem it_k64 : ∀ M, it_mt[64]? = some M → it_kP M 1 := fun M h => by cases h; exact ⟨rfl, (it_mem 0 11 rfl rfl), ⟨by decide +kernel, by decide +kernel⟩, by decide +kernel, rfl, fun _ => (it_mem 5 19 rfl rfl), (it_mem 5 18 rfl rfl), (it_mem 14 5 rfl rfl), _, rfl, rfl⟩
theorem it_k65 : ∀ M, it_mt[65]? = some M → it_kP M 1 := fun M h => by cases h; exact ⟨rfl, (it_mem 0 11 rfl rfl), ⟨by decide +kernel, by decide +kernel⟩, by decide +kernel, rfl, fun _ => (it_mem 5 23 rfl rfl), (it_mem 5 22 rfl rfl), (it_mem 14 6 rfl rfl), _, rfl, rfl⟩
theorem it_k66 : ∀ M, it_mt[66]? = some M → it_kP M 1 := fun M h => by cases h; exact ⟨rfl, (it_mem 0 11 rfl rfl), ⟨by decide +kernel, by decide +kernel⟩, by decide +kernel, rfl, fun _ => (it_mem 5 29 rfl rfl), (it_mem 5 28 rfl rfl), (it_mem 14 7 rfl rfl), _, rfl, rfl⟩
theorem it_k67 : ∀ M, it_mt[67]? = some M → it_kP M 1 := fun M h => by cases h; exact ⟨rfl, (it_mem 0 11 rfl rfl), ⟨by decide +kernel, by decide +kernel⟩, by decide +kernel, rfl, fun _ => (it_mem 5 34 rfl rfl), (it_mem 5 33 rfl rfl), (it_mem 14 8 rfl rfl), _, rfl, rfl⟩
theorem it_k68 : ∀ M, it_mt[68]? = some M → it_kP M 2 := fun M h => by cases h; exact ⟨rfl, (it_mem 0 4 rfl rfl), ⟨by decide +kernel, by decide +kernel⟩, by decide +kernel, rfl, fun _ => (it_mem 0 51 rfl rfl), (it_mem 0 50 rfl rfl), rfl, rfl⟩
theorem it_k69 : ∀ M, it_mt[69]? = some M → it_kP M 1 := fun M h => by cases h; exact ⟨rfl, (it_mem 0 4 rfl rfl), ⟨by decide +kernel, by decide +kernel⟩, by decide +kernel, rfl, fun _ => (it_mem 3 8 rfl rfl), (it_mem 3 6 rfl rfl), (it_mem 3 7 rfl rfl), _, rfl, rfl⟩
theorem it_k70 : ∀ M, it_mt[70]? = some M → it_kP M 1 := fun M h => by cases h; exact ⟨rfl, (it_mem 0 4 rfl rfl), ⟨by decide +kernel, by decide +kernel⟩, by decide +kernel, rfl, fun _ => (it_mem 5 146 rfl rfl), (it_mem 5 144 rfl rfl), (it_mem 5 145 rfl rfl), _, rfl, rfl⟩
theorem it_k71 : ∀ M, it_mt[71]? = some M → it_kP M 2 := fun M h => by cases h; exact ⟨rfl, (it_mem 0 6 rfl rfl), ⟨by decide +kernel, by decide +kernel⟩, by decide +kernel, rfl, fun _ => (it_mem 0 113 rfl rfl), (it_mem 0 112 rfl rfl), rfl, rfl⟩
theorem it_k72 : ∀ M, it_mt[72]? = some M → it_kP M 1 := fun M h => by cases h; exact ⟨rfl, (it_mem 0 6 rfl rfl), ⟨by decide +kernel, by decide +kernel⟩, by decide +kernel, rfl, fun _ => (it_mem 3 62 rfl rfl), (it_mem 3 60 rfl rfl), (it_mem 3 61 rfl rfl), _, rfl, rfl⟩
theorem it_k73 : ∀ M, it_mt[73]? = some M → it_kP M 1 := fun M h => by cases h; exact ⟨rfl, (it_mem 0 6 rfl rfl), ⟨by decide +kernel, by decide +kernel⟩, by decide +kernel, rfl, fun _ => (it_mem 2 105 rfl rfl), (it_mem 2 103 rfl rfl), (it_mem 2 104 rfl rfl), _, rfl, rfl⟩
theorem it_k74 : ∀ M, it_mt[74]? = some M → it_kP M 1 := fun M h => by cases h; exact ⟨rfl, (it_mem 0 6 rfl rfl), ⟨by decide +kernel, by decide +kernel⟩, by decide +kernel, rfl, fun _ => (it_mem 2 153 rfl rfl), (it_mem 2 152 rfl rfl), (it_mem 10 13 rfl rfl), _, rfl, rfl⟩
theorem it_k75 : ∀ M, it_mt[75]? = some M → it_kP M 1 := fun M h => by cases h; exact ⟨rfl, (it_mem 0 6 rfl rfl), ⟨by decide +kernel, by decide +kernel⟩, by decide +kernel, rfl, fun _ => (it_mem 2 182 rfl rfl), (it_mem 2 180 rfl rfl), (it_mem 2 181 rfl rfl), _, rfl, rfl⟩
theorem it_k76 : ∀ M, it_mt[76]? = some M → it_kP M 1 := fun M h => by cases h; exact ⟨rfl, (it_mem 0 6 rfl rfl), ⟨by decide +kernel, by decide +kernel⟩, by decide +kernel, rfl, fun _ => (it_mem 4 161 rfl rfl), (it_mem 4 159 rfl rfl), (it_mem 4 160 rfl rfl), _, rfl, rfl⟩
theorem it_k77 : ∀ M, it_mt[77]? = some M → it_kP M 1 := fun M h => by cases h; exact ⟨rfl, (it_mem 0 6 rfl rfl), ⟨by decide +kernel, by decide +kernel⟩, by decide +kernel, rfl, fun _ => (it_mem 5 39 rfl rfl), (it_mem 5 37 rfl rfl), (it_mem 5 38 rfl rfl), _, rfl, rfl⟩
theorem it_k78 : ∀ M, it_mt[78]? = some M → it_kP M 1 := fun M h => by cases h; exact ⟨rfl, (it_mem 0 6 rfl rfl), ⟨by decide +kernel, by decide +kernel⟩, by decide +kernel, rfl, fun _ => (it_mem 4 152 rfl rfl), (it_mem 4 150 rfl rfl), (it_mem 4 151 rfl rfl), _, rfl, rfl⟩
theorem it_k79 : ∀ M, it_mt[79]? = some M → it_kP M 1 := fun M h => by cases h; exact ⟨rfl, (it_mem 0 6 rfl rfl), ⟨by decide +kernel, by decide +kernel⟩, by decide +kernel, rfl, fun _ => (it_mem 4 156 rfl rfl), (it_mem 4 155 rfl rfl), (it_mem 13 4 rfl rfl), _, rfl, rfl⟩
theorem it_k80 : ∀ M, it_mt[80]? = some M → it_kP M 1 := fun M h => by cases h; exact ⟨rfl, (it_mem 0 6 rfl rfl), ⟨by decide +kernel, by decide +kernel⟩, by decide +kernel, rfl, fun _ => (it_mem 2 236 rfl rfl), (it_mem 2 234 rfl rfl), (it_mem 2 235 rfl rfl), _, rfl, rfl⟩
theorem it_k81 : ∀ M, it_mt[81]? = some M → it_kP M 1 := fun M h => by cases h; exact ⟨rfl, (it_mem 0 6 rfl rfl), ⟨by decide +kernel, by decide +kernel⟩, by decide +kernel, rfl, fun _ => (it_mem 4 24 rfl rfl), (it_mem 4 22 rfl rfl), (it_mem 4 23 rfl rfl), _, rfl, rfl⟩
theorem it_k82 : ∀ M, it_mt[82]? = some M → it_kP M 1 := fun M h => by cases h; exact ⟨rfl, (it_mem 0 6 rfl rfl), ⟨by decide +kernel, by decide +kernel⟩, by decide +kernel, rfl, fun _ => (it_mem 4 20 rfl rfl), (it_mem 4 18 rfl rfl), (it_mem 4 19 rfl rfl), _, rfl, rfl⟩
theorem it_k83 : ∀ M, it_mt[83]? = some M → it_kP M 1 := fun M h => by cases h; exact ⟨rfl, (it_mem 0 6 rfl rfl), ⟨by decide +kernel, by decide +kernel⟩, by decide +kernel, rfl, fun _ => (it_mem 3 4 rfl rfl), (it_mem 3 3 rfl rfl), (it_mem 11 0 rfl rfl), _, rfl, rfl⟩
theorem it_k84 : ∀ M, it_mt[84]? = some M → it_kP M 1 := fun M h => by cases h; exact ⟨rfl, (it_mem 0 6 rfl rfl), ⟨by decide +kernel, by decide +kernel⟩, by decide +kernel, rfl, fun _ => (it_mem 3 19 rfl rfl), (it_mem 3 18 rfl rfl), (it_mem 11 1 rfl rfl), _, rfl, rfl⟩
theorem it_k85 : ∀ M, it_mt[85]? = some M → it_kP M 1 := fun M h => by cases h; exact ⟨rfl, (it_mem 0 6 rfl rfl), ⟨by decide +kernel, by decide +kernel⟩, by decide +kernel, rfl, fun _ => (it_mem 4 62 rfl rfl), (it_mem 4 60 rfl rfl), (it_mem 4 61 rfl rfl), _, rfl, rfl⟩
theorem it_k86 : ∀ M, it_mt[86]? = some M → it_kP M 0 := fun M h => by cases h; exact ⟨rfl, (it_mem 0 6 rfl rfl), ⟨by decide +kernel, by decide +kernel⟩, by decide +kernel, rfl, fun _ => (it_mem 4 65 rfl rfl), (it_mem 4 64 rfl rfl)⟩
theorem it_k87 : ∀ M, it_mt[87]? = some M → it_kP M 1 := fun M h => by cases h; exact ⟨rfl, (it_mem 0 6 rfl rfl), ⟨by decide +kernel, by decide +kernel⟩, by decide +kernel, rfl, fun _ => (it_mem 3 14 rfl rfl), (it_mem 3 12 rfl rfl), (it_mem 3 13 rfl rfl), _, rfl, rfl⟩
theorem it_k88 : ∀ M, it_mt[88]? = some M → it_kP M 1 := fun M h => by cases h; exact ⟨rfl, (it_mem 0 6 rfl rfl), ⟨by decide +kernel, by decide +kernel⟩, by decide +kernel, rfl, fun _ => (it_mem 3 37 rfl rfl), (it_mem 3 35 rfl rfl), (it_mem 3 36 rfl rfl), _, rfl, rfl⟩
theorem it_k89 : ∀ M, it_mt[89]? = some M → it_kP M 1 := fun M h => by cases h; exact ⟨rfl, (it_mem 0 6 rfl rfl), ⟨by decide +kernel, by decide +kernel⟩, by decide +kernel, rfl, fun _ => (it_mem 4 126 rfl rfl), (it_mem 4 124 rfl rfl), (it_mem 4 125 rfl rfl), _, rfl, rfl⟩
theorem it_k90 : ∀ M, it_mt[90]? = some M → it_kP M 1 := fun M h => by cases h; exact ⟨rfl, (it_mem 0 6 rfl rfl), ⟨by decide +kernel, by decide +kernel⟩, by decide +kernel, rfl, fun _ => (it_mem 2 219 rfl rfl), (it_mem 2 217 rfl rfl), (it_mem 2 218 rfl rfl), _, rfl, rfl⟩
theorem it_k91 : ∀ M, it_mt[91]? = some M → it_kP M 1 := fun M h => by cases h; exact ⟨rfl, (it_mem 0 6 rfl rfl), ⟨by decide +kernel, by decide +kernel⟩, by decide +kernel, rfl, fun _ => (it_mem 4 142 rfl rfl), (it_mem 4 140 rfl rfl), (it_mem 4 141 rfl rfl), _, rfl, rfl⟩
theorem it_k92 : ∀ M, it_mt[92]? = some M → it_kP M 1 := fun M h => by cases h; exact ⟨rfl, (it_mem 0 6 rfl rfl), ⟨by decide +kernel, by decide +kernel⟩, by decide +kernel, rfl, fun _ => (it_mem 5 99 rfl rfl), (it_mem 5 97 rfl rfl), (it_mem 5 98 rfl rfl), _, rfl, rfl⟩
theorem it_k93 : ∀ M, it_mt[93]? = some M → it_kP M 1 := fun M h => by cases h; exact ⟨rfl, (it_mem 0 6 rfl rfl), ⟨by decide +kernel, by decide +kernel⟩, by decide +kernel, rfl, fun _ => (it_mem 5 163 rfl rfl), (it_mem 5 161 rfl rfl), (it_mem 5 162 rfl rfl), _, rfl, rfl⟩
theorem it_k94 : ∀ M, it_mt[94]? = some M → it_kP M 1 := fun M h => by cases h; exact ⟨rfl, (it_mem 0 6 rfl rfl), ⟨by decide +kernel, by decide +kernel⟩, by decide +kernel, rfl, fun _ => (it_mem 5 109 rfl rfl), (it_mem 5 107 rfl rfl), (it_mem 5 108 rfl rfl), _, rfl, rfl⟩
theorem it_k95 : ∀ M, it_mt[95]? = some M → it_kP M 1 := fun M h => by cases h; exact ⟨rfl, (it_mem 0 6 rfl rfl), ⟨by decide +kernel, by decide +kernel⟩, by decide +kernel, rfl, fun _ => (it_mem 5 114 rfl rfl), (it_mem 5 113 rfl rfl), (it_mem 14 9 rfl rfl), _, rfl, rfl⟩
theorem it_k96 : ∀ M, it_mt[96]? = some M → it_kP M 1 := fun M h => by cases h; exact ⟨rfl, (it_mem 0 6 rfl rfl), ⟨by decide +kernel, by decide +kernel⟩, by decide +kernel, rfl, fun _ => (it_mem 5 118 rfl rfl), (it_mem 5 117 rfl rfl), (it_mem 14 10 rfl rfl), _, rfl, rfl⟩
theorem it_k97 : ∀ M, it_mt[97]? = some M → it_kP M 1 := fun M h => by cases h; exact ⟨rfl, (it_mem 0 6 rfl rfl), ⟨by decide +kernel, by decide +kernel⟩, by decide +kernel, rfl, fun _ => (it_mem 5 180 rfl rfl), (it_mem 5 179 rfl rfl), (it_mem 14 14 rfl rfl), _, rfl, rfl⟩
theorem it_k98 : ∀ M, it_mt[98]? = some M → it_kP M 1 := fun M h => by cases h; exact ⟨rfl, (it_mem 0 6 rfl rfl), ⟨by decide +kernel, by decide +kernel⟩, by decide +kernel, rfl, fun _ => (it_mem 5 185 rfl rfl), (it_mem 5 184 rfl rfl), (it_mem 14 15 rfl rfl), _, rfl, rfl⟩
theorem it_k99 : ∀ M, it_mt[99]? = some M → it_kP M 1 := fun M h => by cases h; exact ⟨rfl, (it_mem 0 6 rfl rfl), ⟨by decide +kernel, by decide +kernel⟩, by decide +kernel, rfl, fun _ => (it_mem 5 167 rfl rfl), (it_mem 5 166 rfl rfl), (it_mem 14 11 rfl rfl), _, rfl, rfl⟩
theorem it_k100 : ∀ M, it_mt[100]? = some M → it_kP M 1 := fun M h => by cases h; exact ⟨rfl, (it_mem 0 6 rfl rfl), ⟨by decide +kernel, by decide +kernel⟩, by decide +kernel, rfl, fun _ => (it_mem 5 171 rfl rfl), (it_mem 5 170 rfl rfl), (it_mem 14 12 rfl rfl), _, rfl, rfl⟩
theorem it_k101 : ∀ M, it_mt[101]? = some M → it_kP M 1 := fun M h => by cases h; exact ⟨rfl, (it_mem 0 6 rfl rfl), ⟨by decide +kernel, by decide +kernel⟩, by decide +kernel, rfl, fun _ => (it_mem 5 175 rfl rfl), (it_mem 5 174 rfl rfl), (it_mem 14 13 rfl rfl), _, rfl, rfl⟩
theorem it_k102 : ∀ M, it_mt[102]? = some M → it_kP M 1 := fun M h => by cases h; exact ⟨rfl, (it_mem 0 6 rfl rfl), ⟨by decide +kernel, by decide +kernel⟩, by decide +kernel, rfl, fun _ => (it_mem 4 119 rfl rfl), (it_mem 4 117 rfl rfl), (it_mem 4 118 rfl rfl), _, rfl, rfl⟩
theorem it_k103 : ∀ M, it_mt[103]? = some M → it_kP M 2 := fun M h => by cases h; exact ⟨rfl, (it_mem 0 10 rfl rfl), ⟨by decide +kernel, by decide +kernel⟩, by decide +kernel, rfl, fun _ => (it_mem 1 128 rfl rfl), (it_mem 1 127 rfl rfl), rfl, rfl⟩
theorem it_k104 : ∀ M, it_mt[104]? = some M → it_kP M 1 := fun M h => by cases h; exact ⟨rfl, (it_mem 0 10 rfl rfl), ⟨by decide +kernel, by decide +kernel⟩, by decide +kernel, rfl, fun _ => (it_mem 3 102 rfl rfl), (it_mem 3 100 rfl rfl), (it_mem 3 101 rfl rfl), _, rfl, rfl⟩
theorem it_k105 : ∀ M, it_mt[105]? = some M → it_kP M 1 := fun M h => by cases h; exact ⟨rfl, (it_mem 0 10 rfl rfl), ⟨by decide +kernel, by decide +kernel⟩, by decide +kernel, rfl, fun _ => (it_mem 3 110 rfl rfl), (it_mem 3 109 rfl rfl), (it_mem 11 14 rfl rfl), _, rfl, rfl⟩
theorem it_k106 : ∀ M, it_mt[106]? = some M → it_kP M 1 := fun M h => by cases h; exact ⟨rfl, (it_mem 0 10 rfl rfl), ⟨by decide +kernel, by decide +kernel⟩, by decide +kernel, rfl, fun _ => (it_mem 3 156 rfl rfl), (it_mem 3 155 rfl rfl), (it_mem 11 15 rfl rfl), _, rfl, rfl⟩
theorem it_k107 : ∀ M, it_mt[107]? = some M → it_kP M 0 := fun M h => by cases h; exact ⟨rfl, (it_mem 0 10 rfl rfl), ⟨by decide +kernel, by decide +kernel⟩, by decide +kernel, rfl, fun _ => (it_mem 3 159 rfl rfl), (it_mem 3 158 rfl rfl)⟩
theorem it_k108 : ∀ M, it_mt[108]? = some M → it_kP M 0 := fun M h => by cases h; exact ⟨rfl, (it_mem 0 10 rfl rfl), ⟨by decide +kernel, by decide +kernel⟩, by decide +kernel, rfl, fun _ => (it_mem 3 170 rfl rfl), (it_mem 3 169 rfl rfl)⟩
theorem it_k109 : ∀ M, it_mt[109]? = some M → it_kP M 0 := fun M h => by cases h; exact ⟨rfl, (it_mem 0 10 rfl rfl), ⟨by decide +kernel, by decide +kernel⟩, by decide +kernel, rfl, fun _ => (it_mem 3 173 rfl rfl), (it_mem 3 172 rfl rfl)⟩
theorem it_k110 : ∀ M, it_mt[110]? = some M → it_kP M 0 := fun M h => by cases h; exact ⟨rfl, (it_mem 0 10 rfl rfl), ⟨by decide +kernel, by decide +kernel⟩, by decide +kernel, rfl, fun _ => (it_mem 3 180 rfl rfl), (it_mem 3 179 rfl rfl)⟩
theorem it_k111 : ∀ M, it_mt[111]? = some M → it_kP M 0 := fun M h => by cases h; exact ⟨rfl, (it_mem 0 10 rfl rfl), ⟨by decide +kernel, by decide +kernel⟩, by decide +kernel, rfl, fun _ => (it_mem 3 162 rfl rfl), (it_mem 3 161 rfl rfl)⟩
theorem it_k112 : ∀ M, it_mt[112]? = some M → it_kP M 0 := fun M h => by cases h; exact ⟨rfl, (it_mem 0 10 rfl rfl), ⟨by decide +kernel, by decide +kernel⟩, by decide +kernel, rfl, fun _ => (it_mem 3 184 rfl rfl), (it_mem 3 183 rfl rfl)⟩
theorem it_k113 : ∀ M, it_mt[113]? = some M → it_kP M 1 := fun M h => by cases h; exact ⟨rfl, (it_mem 0 10 rfl rfl), ⟨by decide +kernel, by decide +kernel⟩, by decide +kernel, rfl, fun _ => (it_mem 3 167 rfl rfl), (it_mem 3 166 rfl rfl), (it_mem 12 0 rfl rfl), _, rfl, rfl⟩
theorem it_k114 : ∀ M, it_mt[114]? = some M → it_kP M 1 := fun M h => by cases h; exact ⟨rfl, (it_mem 0 10 rfl rfl), ⟨by decide +kernel, by decide +kernel⟩, by decide +kernel, rfl, fun _ => (it_mem 3 177 rfl rfl), (it_mem 3 176 rfl rfl), (it_mem 12 1 rfl rfl), _, rfl, rfl⟩
theorem it_k115 : ∀ M, it_mt[115]? = some M → it_kP M 1 := fun M h => by cases h; exact ⟨rfl, (it_mem 0 10 rfl rfl), ⟨by decide +kernel, by decide +kernel⟩, by decide +kernel, rfl, fun _ => (it_mem 3 188 rfl rfl), (it_mem 3 187 rfl rfl), (it_mem 12 2 rfl rfl), _, rfl, rfl⟩
theorem it_k116 : ∀ M, it_mt[116]? = some M → it_kP M 1 := fun M h => by cases h; exact ⟨rfl, (it_mem 0 10 rfl rfl), ⟨by decide +kernel, by decide +kernel⟩, by decide +kernel, rfl, fun _ => (it_mem 3 198 rfl rfl), (it_mem 3 197 rfl rfl), (it_mem 12 3 rfl rfl), _, rfl, rfl⟩
theorem it_k117 : ∀ M, it_mt[117]? = some M → it_kP M 1 := fun M h => by cases h; exact ⟨rfl, (it_mem 0 10 rfl rfl), ⟨by decide +kernel, by decide +kernel⟩, by decide +kernel, rfl, fun _ => (it_mem 3 208 rfl rfl), (it_mem 3 207 rfl rfl), (it_mem 12 4 rfl rfl), _, rfl, rfl⟩
theorem it_k118 : ∀ M, it_mt[118]? = some M → it_kP M 1 := fun M h => by cases h; exact ⟨rfl, (it_mem 0 10 rfl rfl), ⟨by decide +kernel, by decide +kernel⟩, by decide +kernel, rfl, fun _ => (it_mem 3 215 rfl rfl), (it_mem 3 214 rfl rfl), (it_mem 12 5 rfl rfl), _, rfl, rfl⟩
theorem it_k119 : ∀ M, it_mt[119]? = some M → it_kP M 0 := fun M h => by cases h; exact ⟨rfl, (it_mem 0 10 rfl rfl), ⟨by decide +kernel, by decide +kernel⟩, by decide +kernel, rfl, fun _ => (it_mem 3 211 rfl rfl), (it_mem 3 210 rfl rfl)⟩
theorem it_k120 : ∀ M, it_mt[120]? = some M → it_kP M 0 := fun M h => by cases h; exact ⟨rfl, (it_mem 0 10 rfl rfl), ⟨by decide +kernel, by decide +kernel⟩, by decide +kernel, rfl, fun _ => (it_mem 3 218 rfl rfl), (it_mem 3 217 rfl rfl)⟩
theorem it_k121 : ∀ M, it_mt[121]? = some M → it_kP M 1 := fun M h => by cases h; exact ⟨rfl, (it_mem 0 10 rfl rfl), ⟨by decide +kernel, by decide +kernel⟩, by decide +kernel, rfl, fun _ => (it_mem 3 223 rfl rfl), (it_mem 3 222 rfl rfl), (it_mem 12 6 rfl rfl), _, rfl, rfl⟩
theorem it_k122 : ∀ M, it_mt[122]? = some M → it_kP M 1 := fun M h => by cases h; exact ⟨rfl, (it_mem 0 10 rfl rfl), ⟨by decide +kernel, by decide +kernel⟩, by decide +kernel, rfl, fun _ => (it_mem 3 227 rfl rfl), (it_mem 3 226 rfl rfl), (it_mem 12 7 rfl rfl), _, rfl, rfl⟩
theorem it_k123 : ∀ M, it_mt[123]? = some M → it_kP M 0 := fun M h => by cases h; exact ⟨rfl, (it_mem 0 10 rfl rfl), ⟨by decide +kernel, by decide +kernel⟩, by decide +kernel, rfl, fun _ => (it_mem 3 230 rfl rfl), (it_mem 3 229 rfl rfl)⟩
theorem it_k124 : ∀ M, it_mt[124]? = some M → it_kP M 1 := fun M h => by cases h; exact ⟨rfl, (it_mem 0 10 rfl rfl), ⟨by decide +kernel, by decide +kernel⟩, by decide +kernel, rfl, fun _ => (it_mem 3 236 rfl rfl), (it_mem 3 235 rfl rfl), (it_mem 12 8 rfl rfl), _, rfl, rfl⟩
theorem it_k125 : ∀ M, it_mt[125]? = some M → it_kP M 1 := fun M h => by cases h; exact ⟨rfl, (it_mem 0 10 rfl rfl), ⟨by decide +kernel, by decide +kernel⟩, by decide +kernel, rfl, fun _ => (it_mem 4 0 rfl rfl), (it_mem 3 239 rfl rfl), (it_mem 12 9 rfl rfl), _, rfl, rfl⟩
theorem it_k126 : ∀ M, it_mt[126]? = some M → it_kP M 2 := fun M h => by cases h; exact ⟨rfl, (it_mem 0 8 rfl rfl), ⟨by decide +kernel, by decide +kernel⟩, by decide +kernel, rfl, fun _ => (it_mem 0 186 rfl rfl), (it_mem 0 185 rfl rfl), rfl, rfl⟩
theorem it_k127 : ∀ M, it_mt[127]? = some M → it_kP M 1 := fun M h => by cases h; exact ⟨rfl, (it_mem 0 8 rfl rfl), ⟨by decide +kernel, by decide +kernel⟩, by decide +kernel, rfl, fun _ => (it_mem 2 178 rfl rfl), (it_mem 2 176 rfl rfl), (it_mem 2 177 rfl rfl), _, rfl, rfl⟩
theorem it_k128 : ∀ M, it_mt[128]? = some M → it_kP M 1 := fun M h => by cases h; exact ⟨rfl, (it_mem 0 8 rfl rfl), ⟨by decide +kernel, by decide +kernel⟩, by decide +kernel, rfl, fun _ => (it_mem 2 187 rfl rfl), (it_mem 2 185 rfl rfl), (it_mem 2 186 rfl rfl), _, rfl, rfl⟩
theorem it_k129 : ∀ M, it_mt[129]? = some M → it_kP M 1 := fun M h => by cases h; exact ⟨rfl, (it_mem 0 8 rfl rfl), ⟨by decide +kernel, by decide +kernel⟩, by decide +kernel, rfl, fun _ => (it_mem 2 192 rfl rfl), (it_mem 2 190 rfl rfl), (it_mem 2 191 rfl rfl), _, rfl, rfl⟩
theorem it_k130 : ∀ M, it_mt[130]? = some M → it_kP M 1 := fun M h => by cases h; exact ⟨rfl, (it_mem 0 8 rfl rfl), ⟨by decide +kernel, by decide +kernel⟩, by decide +kernel, rfl, fun _ => (it_mem 3 66 rfl rfl), (it_mem 3 64 rfl rfl), (it_mem 3 65 rfl rfl), _, rfl, rfl⟩
theorem it_k131 : ∀ M, it_mt[131]? = some M → it_kP M 1 := fun M h => by cases h; exact ⟨rfl, (it_mem 0 8 rfl rfl), ⟨by decide +kernel, by decide +kernel⟩, by decide +kernel, rfl, fun _ => (it_mem 3 0 rfl rfl), (it_mem 2 238 rfl rfl), (it_mem 2 239 rfl rfl), _, rfl, rfl⟩
theorem it_k132 : ∀ M, it_mt[132]? = some M → it_kP M 1 := fun M h => by cases h; exact ⟨rfl, (it_mem 0 8 rfl rfl), ⟨by decide +kernel, by decide +kernel⟩, by decide +kernel, rfl, fun _ => (it_mem 3 192 rfl rfl), (it_mem 3 190 rfl rfl), (it_mem 3 191 rfl rfl), _, rfl, rfl⟩
theorem it_k133 : ∀ M, it_mt[133]? = some M → it_kP M 1 := fun M h => by cases h; exact ⟨rfl, (it_mem 0 8 rfl rfl), ⟨by decide +kernel, by decide +kernel⟩, by decide +kernel, rfl, fun _ => (it_mem 3 106 rfl rfl), (it_mem 3 104 rfl rfl), (it_mem 3 105 rfl rfl), _, rfl, rfl⟩
theorem it_k134 : ∀ M, it_mt[134]? = some M → it_kP M 1 := fun M h => by cases h; exact ⟨rfl, (it_mem 0 8 rfl rfl), ⟨by decide +kernel, by decide +kernel⟩, by decide +kernel, rfl, fun _ => (it_mem 5 86 rfl rfl), (it_mem 5 84 rfl rfl), (it_mem 5 85 rfl rfl), _, rfl, rfl⟩
theorem it_k135 : ∀ M, it_mt[135]? = some M → it_kP M 1 := fun M h => by cases h; exact ⟨rfl, (it_mem 0 8 rfl rfl), ⟨by decide +kernel, by decide +kernel⟩, by decide +kernel, rfl, fun _ => (it_mem 5 82 rfl rfl), (it_mem 5 80 rfl rfl), (it_mem 5 81 rfl rfl), _, rfl, rfl⟩
theorem it_k136 : ∀ M, it_mt[136]? = some M → it_kP M 1 := fun M h => by cases h; exact ⟨rfl, (it_mem 0 8 rfl rfl), ⟨by decide +kernel, by decide +kernel⟩, by decide +kernel, rfl, fun _ => (it_mem 4 44 rfl rfl), (it_mem 4 42 rfl rfl), (it_mem 4 43 rfl rfl), _, rfl, rfl⟩
theorem it_k137 : ∀ M, it_mt[137]? = some M → it_kP M 1 := fun M h => by cases h; exact ⟨rfl, (it_mem 0 8 rfl rfl), ⟨by decide +kernel, by decide +kernel⟩, by decide +kernel, rfl, fun _ => (it_mem 4 56 rfl rfl), (it_mem 4 54 rfl rfl), (it_mem 4 55 rfl rfl), _, rfl, rfl⟩
theorem it_k138 : ∀ M, it_mt[138]? = some M → it_kP M 1 := fun M h => by cases h; exact ⟨rfl, (it_mem 0 8 rfl rfl), ⟨by decide +kernel, by decide +kernel⟩, by decide +kernel, rfl, fun _ => (it_mem 4 100 rfl rfl), (it_mem 4 98 rfl rfl), (it_mem 4 99 rfl rfl), _, rfl, rfl⟩
theorem it_k139 : ∀ M, it_mt[139]? = some M → it_kP M 1 := fun M h => by cases h; exact ⟨rfl, (it_mem 0 8 rfl rfl), ⟨by decide +kernel, by decide +kernel⟩, by decide +kernel, rfl, fun _ => (it_mem 4 104 rfl rfl), (it_mem 4 102 rfl rfl), (it_mem 4 103 rfl rfl), _, rfl, rfl⟩
theorem it_k140 : ∀ M, it_mt[140]? = some M → it_kP M 1 := fun M h => by cases h; exact ⟨rfl, (it_mem 0 8 rfl rfl), ⟨by decide +kernel, by decide +kernel⟩, by decide +kernel, rfl, fun _ => (it_mem 4 83 rfl rfl), (it_mem 4 81 rfl rfl), (it_mem 4 82 rfl rfl), _, rfl, rfl⟩
theorem it_k141 : ∀ M, it_mt[141]? = some M → it_kP M 1 := fun M h => by cases h; exact ⟨rfl, (it_mem 0 8 rfl rfl), ⟨by decide +kernel, by decide +kernel⟩, by decide +kernel, rfl, fun _ => (it_mem 3 23 rfl rfl), (it_mem 3 21 rfl rfl), (it_mem 3 22 rfl rfl), _, rfl, rfl⟩
theorem it_k142 : ∀ M, it_mt[142]? = some M → it_kP M 1 := fun M h => by cases h; exact ⟨rfl, (it_mem 0 8 rfl rfl), ⟨by decide +kernel, by decide +kernel⟩, by decide +kernel, rfl, fun _ => (it_mem 4 39 rfl rfl), (it_mem 4 37 rfl rfl), (it_mem 4 38 rfl rfl), _, rfl, rfl⟩
theorem it_k143 : ∀ M, it_mt[143]? = some M → it_kP M 1 := fun M h => by cases h; exact ⟨rfl, (it_mem 0 8 rfl rfl), ⟨by decide +kernel, by decide +kernel⟩, by decide +kernel, rfl, fun _ => (it_mem 4 28 rfl rfl), (it_mem 4 26 rfl rfl), (it_mem 4 27 rfl rfl), _, rfl, rfl⟩
theorem it_k144 : ∀ M, it_mt[144]? = some M → it_kP M 1 := fun M h => by cases h; exact ⟨rfl, (it_mem 0 8 rfl rfl), ⟨by decide +kernel, by decide +kernel⟩, by decide +kernel, rfl, fun _ => (it_mem 4 71 rfl rfl), (it_mem 4 69 rfl rfl), (it_mem 4 70 rfl rfl), _, rfl, rfl⟩
theorem it_k145 : ∀ M, it_mt[145]? = some M → it_kP M 2 := fun M h => by cases h; exact ⟨rfl, (it_mem 0 9 rfl rfl), ⟨by decide +kernel, by decide +kernel⟩, by decide +kernel, rfl, fun _ => (it_mem 1 89 rfl rfl), (it_mem 1 88 rfl rfl), rfl, rfl⟩
theorem it_k146 : ∀ M, it_mt[146]? = some M → it_kP M 1 := fun M h => by cases h; exact ⟨rfl, (it_mem 0 9 rfl rfl), ⟨by decide +kernel, by decide +kernel⟩, by decide +kernel, rfl, fun _ => (it_mem 2 97 rfl rfl), (it_mem 2 95 rfl rfl), (it_mem 2 96 rfl rfl), _, rfl, rfl⟩
theorem it_k147 : ∀ M, it_mt[147]? = some M → it_kP M 1 := fun M h => by cases h; exact ⟨rfl, (it_mem 0 9 rfl rfl), ⟨by decide +kernel, by decide +kernel⟩, by decide +kernel, rfl, fun _ => (it_mem 2 101 rfl rfl), (it_mem 2 100 rfl rfl), (it_mem 10 10 rfl rfl), _, rfl, rfl⟩
theorem it_k148 : ∀ M, it_mt[148]? = some M → it_kP M 1 := fun M h => by cases h; exact ⟨rfl, (it_mem 0 9 rfl rfl), ⟨by decide +kernel, by decide +kernel⟩, by decide +kernel, rfl, fun _ => (it_mem 3 54 rfl rfl), (it_mem 3 52 rfl rfl), (it_mem 3 53 rfl rfl), _, rfl, rfl⟩
theorem it_k149 : ∀ M, it_mt[149]? = some M → it_kP M 1 := fun M h => by cases h; exact ⟨rfl, (it_mem 0 9 rfl rfl), ⟨by decide +kernel, by decide +kernel⟩, by decide +kernel, rfl, fun _ => (it_mem 3 58 rfl rfl), (it_mem 3 57 rfl rfl), (it_mem 11 7 rfl rfl), _, rfl, rfl⟩
theorem it_k150 : ∀ M, it_mt[150]? = some M → it_kP M 1 := fun M h => by cases h; exact ⟨rfl, (it_mem 0 9 rfl rfl), ⟨by decide +kernel, by decide +kernel⟩, by decide +kernel, rfl, fun _ => (it_mem 3 74 rfl rfl), (it_mem 3 73 rfl rfl), (it_mem 11 9 rfl rfl), _, rfl, rfl⟩
theorem it_k151 : ∀ M, it_mt[151]? = some M → it_kP M 1 := fun M h => by cases h; exact ⟨rfl, (it_mem 0 9 rfl rfl), ⟨by decide +kernel, by decide +kernel⟩, by decide +kernel, rfl, fun _ => (it_mem 3 78 rfl rfl), (it_mem 3 77 rfl rfl), (it_mem 11 10 rfl rfl), _, rfl, rfl⟩
theorem it_k152 : ∀ M, it_mt[152]? = some M → it_kP M 1 := fun M h => by cases h; exact ⟨rfl, (it_mem 0 9 rfl rfl), ⟨by decide +kernel, by decide +kernel⟩, by decide +kernel, rfl, fun _ => (it_mem 3 84 rfl rfl), (it_mem 3 83 rfl rfl), (it_mem 11 11 rfl rfl), _, rfl, rfl⟩
theorem it_k153 : ∀ M, it_mt[153]? = some M → it_kP M 1 := fun M h => by cases h; exact ⟨rfl, (it_mem 0 9 rfl rfl), ⟨by decide +kernel, by decide +kernel⟩, by decide +kernel, rfl, fun _ => (it_mem 3 88 rfl rfl), (it_mem 3 87 rfl rfl), (it_mem 11 12 rfl rfl), _, rfl, rfl⟩
theorem it_k154 : ∀ M, it_mt[154]? = some M → it_kP M 1 := fun M h => by cases h; exact ⟨rfl, (it_mem 0 9 rfl rfl), ⟨by decide +kernel, by decide +kernel⟩, by decide +kernel, rfl, fun _ => (it_mem 3 95 rfl rfl), (it_mem 3 94 rfl rfl), (it_mem 11 13 rfl rfl), _, rfl, rfl⟩
theorem it_k155 : ∀ M, it_mt[155]? = some M → it_kP M 1 := fun M h => by cases h; exact ⟨rfl, (it_mem 0 9 rfl rfl), ⟨by decide +kernel, by decide +kernel⟩, by decide +kernel, rfl, fun _ => (it_mem 3 70 rfl rfl), (it_mem 3 69 rfl rfl), (it_mem 11 8 rfl rfl), _, rfl, rfl⟩
theorem it_k156 : ∀ M, it_mt[156]? = some M → it_kP M 2 := fun M h => by cases h; exact ⟨rfl, (it_mem 0 5 rfl rfl), ⟨by decide +kernel, by decide +kernel⟩, by decide +kernel, rfl, fun _ => (it_mem 0 79 rfl rfl), (it_mem 0 78 rfl rfl), rfl, rfl⟩
theorem it_k157 : ∀ M, it_mt[157]? = some M → it_kP M 1 := fun M h => by cases h; exact ⟨rfl, (it_mem 0 5 rfl rfl), ⟨by decide +kernel, by decide +kernel⟩, by decide +kernel, rfl, fun _ => (it_mem 2 36 rfl rfl), (it_mem 2 34 rfl rfl), (it_mem 2 35 rfl rfl), _, rfl, rfl⟩
theorem it_k158 : ∀ M, it_mt[158]? = some M → it_kP M 1 := fun M h => by cases h; exact ⟨rfl, (it_mem 0 5 rfl rfl), ⟨by decide +kernel, by decide +kernel⟩, by decide +kernel, rfl, fun _ => (it_mem 5 154 rfl rfl), (it_mem 5 152 rfl rfl), (it_mem 5 153 rfl rfl), _, rfl, rfl⟩
theorem it_k159 : ∀ M, it_mt[159]? = some M → it_kP M 1 := fun M h => by cases h; exact ⟨rfl, (it_mem 0 5 rfl rfl), ⟨by decide +kernel, by decide +kernel⟩, by decide +kernel, rfl, fun _ => (it_mem 4 224 rfl rfl), (it_mem 4 222 rfl rfl), (it_mem 4 223 rfl rfl), _, rfl, rfl⟩
theorem it_k160 : ∀ M, it_mt[160]? = some M → it_kP M 1 := fun M h => by cases h; exact ⟨rfl, (it_mem 0 5 rfl rfl), ⟨by decide +kernel, by decide +kernel⟩, by decide +kernel, rfl, fun _ => (it_mem 4 237 rfl rfl), (it_mem 4 235 rfl rfl), (it_mem 4 236 rfl rfl), _, rfl, rfl⟩
theorem it_k161 : ∀ M, it_mt[161]? = some M → it_kP M 1 := fun M h => by cases h; exact ⟨rfl, (it_mem 0 5 rfl rfl), ⟨by decide +kernel, by decide +kernel⟩, by decide +kernel, rfl, fun _ => (it_mem 5 1 rfl rfl), (it_mem 5 0 rfl rfl), (it_mem 14 1 rfl rfl), _, rfl, rfl⟩
theorem it_k162 : ∀ M, it_mt[162]? = some M → it_kP M 0 := fun M h => by cases h; exact ⟨rfl, (it_mem 0 5 rfl rfl), ⟨by decide +kernel, by decide +kernel⟩, by decide +kernel, rfl, fun _ => (it_mem 2 72 rfl rfl), (it_mem 2 71 rfl rfl)⟩
theorem it_k163 : ∀ M, it_mt[163]? = some M → it_kP M 1 := fun M h => by cases h; exact ⟨rfl, (it_mem 0 5 rfl rfl), ⟨by decide +kernel, by decide +kernel⟩, by decide +kernel, rfl, fun _ => (it_mem 2 65 rfl rfl), (it_mem 2 64 rfl rfl), (it_mem 10 4 rfl rfl), _, rfl, rfl⟩
theorem it_k164 : ∀ M, it_mt[164]? = some M → it_kP M 1 := fun M h => by cases h; exact ⟨rfl, (it_mem 0 5 rfl rfl), ⟨by decide +kernel, by decide +kernel⟩, by decide +kernel, rfl, fun _ => (it_mem 2 69 rfl rfl), (it_mem 2 68 rfl rfl), (it_mem 10 5 rfl rfl), _, rfl, rfl⟩
theorem it_k165 : ∀ M, it_mt[165]? = some M → it_kP M 1 := fun M h => by cases h; exact ⟨rfl, (it_mem 0 5 rfl rfl), ⟨by decide +kernel, by decide +kernel⟩, by decide +kernel, rfl, fun _ => (it_mem 2 77 rfl rfl), (it_mem 2 76 rfl rfl), (it_mem 10 6 rfl rfl), _, rfl, rfl⟩
theorem it_k166 : ∀ M, it_mt[166]? = some M → it_kP M 1 := fun M h => by cases h; exact ⟨rfl, (it_mem 0 5 rfl rfl), ⟨by decide +kernel, by decide +kernel⟩, by decide +kernel, rfl, fun _ => (it_mem 2 81 rfl rfl), (it_mem 2 80 rfl rfl), (it_mem 10 7 rfl rfl), _, rfl, rfl⟩
theorem it_k167 : ∀ M, it_mt[167]? = some M → it_kP M 1 := fun M h => by cases h; exact ⟨rfl, (it_mem 0 5 rfl rfl), ⟨by decide +kernel, by decide +kernel⟩, by decide +kernel, rfl, fun _ => (it_mem 2 85 rfl rfl), (it_mem 2 84 rfl rfl), (it_mem 10 8 rfl rfl), _, rfl, rfl⟩
theorem it_k168 : ∀ M, it_mt[168]? = some M → it_kP M 1 := fun M h => by cases h; exact ⟨rfl, (it_mem 0 5 rfl rfl), ⟨by decide +kernel, by decide +kernel⟩, by decide +kernel, rfl, fun _ => (it_mem 2 61 rfl rfl), (it_mem 2 60 rfl rfl), (it_mem 10 3 rfl rfl), _, rfl, rfl⟩
theorem it_k169 : ∀ M, it_mt[169]? = some M → it_kP M 1 := fun M h => by cases h; exact ⟨rfl, (it_mem 0 5 rfl rfl), ⟨by decide +kernel, by decide +kernel⟩, by decide +kernel, rfl, fun _ => (it_mem 2 49 rfl rfl), (it_mem 2 48 rfl rfl), (it_mem 10 1 rfl rfl), _, rfl, rfl⟩
theorem it_k170 : ∀ M, it_mt[170]? = some M → it_kP M 1 := fun M h => by cases h; exact ⟨rfl, (it_mem 0 5 rfl rfl), ⟨by decide +kernel, by decide +kernel⟩, by decide +kernel, rfl, fun _ => (it_mem 2 53 rfl rfl), (it_mem 2 52 rfl rfl), (it_mem 10 2 rfl rfl), _, rfl, rfl⟩
theorem it_k171 : ∀ M, it_mt[171]? = some M → it_kP M 2 := fun M h => by cases h; exact ⟨rfl, (it_mem 0 12 rfl rfl), ⟨by decide +kernel, by decide +kernel⟩, by decide +kernel, rfl, fun _ => (it_mem 1 195 rfl rfl), (it_mem 1 194 rfl rfl), rfl, rfl⟩
theorem it_k172 : ∀ M, it_mt[172]? = some M → it_kP M 1 := fun M h => by cases h; exact ⟨rfl, (it_mem 0 12 rfl rfl), ⟨by decide +kernel, by decide +kernel⟩, by decide +kernel, rfl, fun _ => (it_mem 4 5 rfl rfl), (it_mem 4 3 rfl rfl), (it_mem 4 4 rfl rfl), _, rfl, rfl⟩
theorem it_k173 : ∀ M, it_mt[173]? = some M → it_kP M 0 := fun M h => by cases h; exact ⟨rfl, (it_mem 0 12 rfl rfl), ⟨by decide +kernel, by decide +kernel⟩, by decide +kernel, rfl, fun _ => (it_mem 4 52 rfl rfl), (it_mem 4 51 rfl rfl)⟩
theorem it_k174 : ∀ M, it_mt[174]? = some M → it_kP M 1 := fun M h => by cases h; exact ⟨rfl, (it_mem 0 12 rfl rfl), ⟨by decide +kernel, by decide +kernel⟩, by decide +kernel, rfl, fun _ => (it_mem 4 10 rfl rfl), (it_mem 4 9 rfl rfl), (it_mem 12 10 rfl rfl), _, rfl, rfl⟩
theorem it_k175 : ∀ M, it_mt[175]? = some M → it_kP M 1 := fun M h => by cases h; exact ⟨rfl, (it_mem 0 12 rfl rfl), ⟨by decide +kernel, by decide +kernel⟩, by decide +kernel, rfl, fun _ => (it_mem 4 14 rfl rfl), (it_mem 4 13 rfl rfl), (it_mem 12 11 rfl rfl), _, rfl, rfl⟩
theorem it_k176 : ∀ M, it_mt[176]? = some M → it_kP M 1 := fun M h => by cases h; exact ⟨rfl, (it_mem 0 12 rfl rfl), ⟨by decide +kernel, by decide +kernel⟩, by decide +kernel, rfl, fun _ => (it_mem 4 35 rfl rfl), (it_mem 4 34 rfl rfl), (it_mem 12 12 rfl rfl), _, rfl, rfl⟩
theorem it_k177 : ∀ M, it_mt[177]? = some M → it_kP M 1 := fun M h => by cases h; exact ⟨rfl, (it_mem 0 12 rfl rfl), ⟨by decide +kernel, by decide +kernel⟩, by decide +kernel, rfl, fun _ => (it_mem 4 48 rfl rfl), (it_mem 4 47 rfl rfl), (it_mem 12 13 rfl rfl), _, rfl, rfl⟩
theorem it_k178 : ∀ M, it_mt[178]? = some M → it_kP M 1 := fun M h => by cases h; exact ⟨rfl, (it_mem 0 12 rfl rfl), ⟨by decide +kernel, by decide +kernel⟩, by decide +kernel, rfl, fun _ => (it_mem 4 113 rfl rfl), (it_mem 4 112 rfl rfl), (it_mem 13 0 rfl rfl), _, rfl, rfl⟩
theorem it_k179 : ∀ M, it_mt[179]? = some M → it_kP M 1 := fun M h => by cases h; exact ⟨rfl, (it_mem 0 12 rfl rfl), ⟨by decide +kernel, by decide +kernel⟩, by decide +kernel, rfl, fun _ => (it_mem 4 77 rfl rfl), (it_mem 4 76 rfl rfl), (it_mem 12 14 rfl rfl), _, rfl, rfl⟩
theorem it_k180 : ∀ M, it_mt[180]? = some M → it_kP M 1 := fun M h => by cases h; exact ⟨rfl, (it_mem 0 12 rfl rfl), ⟨by decide +kernel, by decide +kernel⟩, by decide +kernel, rfl, fun _ => (it_mem 4 87 rfl rfl), (it_mem 4 86 rfl rfl), (it_mem 12 15 rfl rfl), _, rfl, rfl⟩
theorem it_k181 : ∀ M, it_mt[181]? = some M → it_kP M 0 := fun M h => by cases h; exact ⟨rfl, (it_mem 0 12 rfl rfl), ⟨by decide +kernel, by decide +kernel⟩, by decide +kernel, rfl, fun _ => (it_mem 4 96 rfl rfl), (it_mem 4 95 rfl rfl)⟩
theorem it_k182 : ∀ M, it_mt[182]? = some M → it_kP M 0 := fun M h => by cases h; exact ⟨rfl, (it_mem 0 12 rfl rfl), ⟨by decide +kernel, by decide +kernel⟩, by decide +kernel, rfl, fun _ => (it_mem 4 107 rfl rfl), (it_mem 4 106 rfl rfl)⟩
theorem it_k183 : ∀ M, it_mt[183]? = some M → it_kP M 1 := fun M h => by cases h; exact ⟨rfl, (it_mem 0 12 rfl rfl), ⟨by decide +kernel, by decide +kernel⟩, by decide +kernel, rfl, fun _ => (it_mem 4 131 rfl rfl), (it_mem 4 130 rfl rfl), (it_mem 13 1 rfl rfl), _, rfl, rfl⟩
theorem it_k184 : ∀ M, it_mt[184]? = some M → it_kP M 1 := fun M h => by cases h; exact ⟨rfl, (it_mem 0 12 rfl rfl), ⟨by decide +kernel, by decide +kernel⟩, by decide +kernel, rfl, fun _ => (it_mem 4 136 rfl rfl), (it_mem 4 135 rfl rfl), (it_mem 13 2 rfl rfl), _, rfl, rfl⟩
theorem it_k185 : ∀ M, it_mt[185]? = some M → it_kP M 1 := fun M h => by cases h; exact ⟨rfl, (it_mem 0 12 rfl rfl), ⟨by decide +kernel, by decide +kernel⟩, by decide +kernel, rfl, fun _ => (it_mem 4 148 rfl rfl), (it_mem 4 147 rfl rfl), (it_mem 13 3 rfl rfl), _, rfl, rfl⟩
theorem it_k186 : ∀ M, it_mt[186]? = some M → it_kP M 2 := fun M h => by cases h; exact ⟨rfl, (it_mem 0 1 rfl rfl), ⟨by decide +kernel, by decide +kernel⟩, by decide +kernel, rfl, fun _ => (it_mem 0 21 rfl rfl), (it_mem 0 20 rfl rfl), rfl, rfl⟩
theorem it_k187 : ∀ M, it_mt[187]? = some M → it_kP M 1 := fun M h => by cases h; exact ⟨rfl, (it_mem 0 1 rfl rfl), ⟨by decide +kernel, by decide +kernel⟩, by decide +kernel, rfl, fun _ => (it_mem 2 4 rfl rfl), (it_mem 2 2 rfl rfl), (it_mem 2 3 rfl rfl), _, rfl, rfl⟩
theorem it_k188 : ∀ M, it_mt[188]? = some M → it_kP M 1 := fun M h => by cases h; exact ⟨rfl, (it_mem 0 1 rfl rfl), ⟨by decide +kernel, by decide +kernel⟩, by decide +kernel, rfl, fun _ => (it_mem 2 12 rfl rfl), (it_mem 2 10 rfl rfl), (it_mem 2 11 rfl rfl), _, rfl, rfl⟩
theorem it_k189 : ∀ M, it_mt[189]? = some M → it_kP M 1 := fun M h => by cases h; exact ⟨rfl, (it_mem 0 1 rfl rfl), ⟨by decide +kernel, by decide +kernel⟩, by decide +kernel, rfl, fun _ => (it_mem 2 16 rfl rfl), (it_mem 2 14 rfl rfl), (it_mem 2 15 rfl rfl), _, rfl, rfl⟩
theorem it_k190 : ∀ M, it_mt[190]? = some M → it_kP M 1 := fun M h => by cases h; exact ⟨rfl, (it_mem 0 1 rfl rfl), ⟨by decide +kernel, by decide +kernel⟩, by decide +kernel, rfl, fun _ => (it_mem 2 28 rfl rfl), (it_mem 2 26 rfl rfl), (it_mem 2 27 rfl rfl), _, rfl, rfl⟩
theorem it_k191 : ∀ M, it_mt[191]? = some M → it_kP M 1 := fun M h => by cases h; exact ⟨rfl, (it_mem 0 1 rfl rfl), ⟨by decide +kernel, by decide +kernel⟩, by decide +kernel, rfl, fun _ => (it_mem 2 199 rfl rfl), (it_mem 2 197 rfl rfl), (it_mem 2 198 rfl rfl), _, rfl, rfl⟩
theorem it_k192 : ∀ M, it_mt[192]? = some M → it_kP M 1 := fun M h => by cases h; exact ⟨rfl, (it_mem 0 1 rfl rfl), ⟨by decide +kernel, by decide +kernel⟩, by decide +kernel, rfl, fun _ => (it_mem 2 203 rfl rfl), (it_mem 2 201 rfl rfl), (it_mem 2 202 rfl rfl), _, rfl, rfl⟩
theorem it_k193 : ∀ M, it_mt[193]? = some M → it_kP M 1 := fun M h => by cases h; exact ⟨rfl, (it_mem 0 1 rfl rfl), ⟨by decide +kernel, by decide +kernel⟩, by decide +kernel, rfl, fun _ => (it_mem 2 207 rfl rfl), (it_mem 2 205 rfl rfl), (it_mem 2 206 rfl rfl), _, rfl, rfl⟩
theorem it_k194 : ∀ M, it_mt[194]? = some M → it_kP M 1 := fun M h => by cases h; exact ⟨rfl, (it_mem 0 1 rfl rfl), ⟨by decide +kernel, by decide +kernel⟩, by decide +kernel, rfl, fun _ => (it_mem 5 44 rfl rfl), (it_mem 5 42 rfl rfl), (it_mem 5 43 rfl rfl), _, rfl, rfl⟩
theorem it_k195 : ∀ M, it_mt[195]? = some M → it_kP M 1 := fun M h => by cases h; exact ⟨rfl, (it_mem 0 1 rfl rfl), ⟨by decide +kernel, by decide +kernel⟩, by decide +kernel, rfl, fun _ => (it_mem 5 52 rfl rfl), (it_mem 5 50 rfl rfl), (it_mem 5 51 rfl rfl), _, rfl, rfl⟩
theorem it_k196 : ∀ M, it_mt[196]? = some M → it_kP M 1 := fun M h => by cases h; exact ⟨rfl, (it_mem 0 1 rfl rfl), ⟨by decide +kernel, by decide +kernel⟩, by decide +kernel, rfl, fun _ => (it_mem 5 60 rfl rfl), (it_mem 5 58 rfl rfl), (it_mem 5 59 rfl rfl), _, rfl, rfl⟩
theorem it_k197 : ∀ M, it_mt[197]? = some M → it_kP M 1 := fun M h => by cases h; exact ⟨rfl, (it_mem 0 1 rfl rfl), ⟨by decide +kernel, by decide +kernel⟩, by decide +kernel, rfl, fun _ => (it_mem 5 64 rfl rfl), (it_mem 5 62 rfl rfl), (it_mem 5 63 rfl rfl), _, rfl, rfl⟩
theorem it_k198 : ∀ M, it_mt[198]? = some M → it_kP M 1 := fun M h => by cases h; exact ⟨rfl, (it_mem 0 1 rfl rfl), ⟨by decide +kernel, by decide +kernel⟩, by decide +kernel, rfl, fun _ => (it_mem 5 69 rfl rfl), (it_mem 5 67 rfl rfl), (it_mem 5 68 rfl rfl), _, rfl, rfl⟩
theorem it_k199 : ∀ M, it_mt[199]? = some M → it_kP M 1 := fun M h => by cases h; exact ⟨rfl, (it_mem 0 1 rfl rfl), ⟨by decide +kernel, by decide +kernel⟩, by decide +kernel, rfl, fun _ => (it_mem 5 74 rfl rfl), (it_mem 5 72 rfl rfl), (it_mem 5 73 rfl rfl), _, rfl, rfl⟩
theorem it_k200 : ∀ M, it_mt[200]? = some M → it_kP M 1 := fun M h => by cases h; exact ⟨rfl, (it_mem 0 1 rfl rfl), ⟨by decide +kernel, by decide +kernel⟩, by decide +kernel, rfl, fun _ => (it_mem 5 78 rfl rfl), (it_mem 5 76 rfl rfl), (it_mem 5 77 rfl rfl), _, rfl, rfl⟩
theorem it_k201 : ∀ M, it_mt[201]? = some M → it_kP M 1 := fun M h => by cases h; exact ⟨rfl, (it_mem 0 1 rfl rfl), ⟨by decide +kernel, by decide +kernel⟩, by decide +kernel, rfl, fun _ => (it_mem 5 90 rfl rfl), (it_mem 5 88 rfl rfl), (it_mem 5 89 rfl rfl), _, rfl, rfl⟩
theorem it_k202 : ∀ M, it_mt[202]? = some M → it_kP M 1 := fun M h => by cases h; exact ⟨rfl, (it_mem 0 1 rfl rfl), ⟨by decide +kernel, by decide +kernel⟩, by decide +kernel, rfl, fun _ => (it_mem 5 94 rfl rfl), (it_mem 5 92 rfl rfl), (it_mem 5 93 rfl rfl), _, rfl, rfl⟩
theorem it_k203 : ∀ M, it_mt[203]? = some M → it_kP M 1 := fun M h => by cases h; exact ⟨rfl, (it_mem 0 1 rfl rfl), ⟨by decide +kernel, by decide +kernel⟩, by decide +kernel, rfl, fun _ => (it_mem 5 105 rfl rfl), (it_mem 5 103 rfl rfl), (it_mem 5 104 rfl rfl), _, rfl, rfl⟩
theorem it_k204 : ∀ M, it_mt[204]? = some M → it_kP M 1 := fun M h => by cases h; exact ⟨rfl, (it_mem 0 1 rfl rfl), ⟨by decide +kernel, by decide +kernel⟩, by decide +kernel, rfl, fun _ => (it_mem 5 122 rfl rfl), (it_mem 5 120 rfl rfl), (it_mem 5 121 rfl rfl), _, rfl, rfl⟩
theorem it_k205 : ∀ M, it_mt[205]? = some M → it_kP M 1 := fun M h => by cases h; exact ⟨rfl, (it_mem 0 1 rfl rfl), ⟨by decide +kernel, by decide +kernel⟩, by decide +kernel, rfl, fun _ => (it_mem 5 126 rfl rfl), (it_mem 5 124 rfl rfl), (it_mem 5 125 rfl rfl), _, rfl, rfl⟩
theorem it_k206 : ∀ M, it_mt[206]? = some M → it_kP M 1 := fun M h => by cases h; exact ⟨rfl, (it_mem 0 1 rfl rfl), ⟨by decide +kernel, by decide +kernel⟩, by decide +kernel, rfl, fun _ => (it_mem 5 130 rfl rfl), (it_mem 5 128 rfl rfl), (it_mem 5 129 rfl rfl), _, rfl, rfl⟩
theorem it_k207 : ∀ M, it_mt[207]? = some M → it_kP M 1 := fun M h => by cases h; exact ⟨rfl, (it_mem 0 1 rfl rfl), ⟨by decide +kernel, by decide +kernel⟩, by decide +kernel, rfl, fun _ => (it_mem 5 138 rfl rfl), (it_mem 5 136 rfl rfl), (it_mem 5 137 rfl rfl), _, rfl, rfl⟩
theorem it_k208 : ∀ M, it_mt[208]? = some M → it_kP M 1 := fun M h => by cases h; exact ⟨rfl, (it_mem 0 1 rfl rfl), ⟨by decide +kernel, by decide +kernel⟩, by decide +kernel, rfl, fun _ => (it_mem 5 142 rfl rfl), (it_mem 5 140 rfl rfl), (it_mem 5 141 rfl rfl), _, rfl, rfl⟩
theorem it_k209 : ∀ M, it_mt[209]? = some M → it_kP M 1 := fun M h => by cases h; exact ⟨rfl, (it_mem 0 1 rfl rfl), ⟨by decide +kernel, by decide +kernel⟩, by decide +kernel, rfl, fun _ => (it_mem 5 150 rfl rfl), (it_mem 5 148 rfl rfl), (it_mem 5 149 rfl rfl), _, rfl, rfl⟩
theorem it_k210 : ∀ M, it_mt[210]? = some M → it_kP M 1 := fun M h => by cases h; exact ⟨rfl, (it_mem 0 1 rfl rfl), ⟨by decide +kernel, by decide +kernel⟩, by decide +kernel, rfl, fun _ => (it_mem 5 159 rfl rfl), (it_mem 5 157 rfl rfl), (it_mem 5 158 rfl rfl), _, rfl, rfl⟩
theorem it_k211 : ∀ M, it_mt[211]? = some M → it_kP M 1 := fun M h => by cases h; exact ⟨rfl, (it_mem 0 1 rfl rfl), ⟨by decide +kernel, by decide +kernel⟩, by decide +kernel, rfl, fun _ => (it_mem 2 8 rfl rfl), (it_mem 2 7 rfl rfl), (it_mem 10 0 rfl rfl), _, rfl, rfl⟩
theorem it_k212 : ∀ M, it_mt[212]? = some M → it_kP M 1 := fun M h => by cases h; exact ⟨rfl, (it_mem 0 1 rfl rfl), ⟨by decide +kernel, by decide +kernel⟩, by decide +kernel, rfl, fun _ => (it_mem 2 89 rfl rfl), (it_mem 2 88 rfl rfl), (it_mem 10 9 rfl rfl), _, rfl, rfl⟩
theorem it_k213 : ∀ M, it_mt[213]? = some M → it_kP M 0 := fun M h => by cases h; exact ⟨rfl, (it_mem 0 1 rfl rfl), ⟨by decide +kernel, by decide +kernel⟩, by decide +kernel, rfl, fun _ => (it_mem 2 168 rfl rfl), (it_mem 2 167 rfl rfl)⟩
theorem it_k214 : ∀ M, it_mt[214]? = some M → it_kP M 0 := fun M h => by cases h; exact ⟨rfl, (it_mem 0 1 rfl rfl), ⟨by decide +kernel, by decide +kernel⟩, by decide +kernel, rfl, fun _ => (it_mem 4 187 rfl rfl), (it_mem 4 186 rfl rfl)⟩
theorem it_k215 : ∀ M, it_mt[215]? = some M → it_kP M 0 := fun M h => by cases h; exact ⟨rfl, (it_mem 0 1 rfl rfl), ⟨by decide +kernel, by decide +kernel⟩, by decide +kernel, rfl, fun _ => (it_mem 4 122 rfl rfl), (it_mem 4 121 rfl rfl)⟩
theorem it_k216 : ∀ M, it_mt[216]? = some M → it_kP M 0 := fun M h => by cases h; exact ⟨rfl, (it_mem 0 1 rfl rfl), ⟨by decide +kernel, by decide +kernel⟩, by decide +kernel, rfl, fun _ => (it_mem 2 129 rfl rfl), (it_mem 2 128 rfl rfl)⟩
theorem it_k217 : ∀ M, it_mt[217]? = some M → it_kP M 2 := fun M h => by cases h; exact ⟨rfl, (it_mem 0 13 rfl rfl), ⟨by decide +kernel, by decide +kernel⟩, by decide +kernel, rfl, fun _ => (it_mem 5 190 rfl rfl), (it_mem 5 189 rfl rfl), rfl, rfl⟩
theorem it_k218 : ∀ M, it_mt[218]? = some M → it_kP M 1 := fun M h => by cases h; exact ⟨rfl, (it_mem 0 13 rfl rfl), ⟨by decide +kernel, by decide +kernel⟩, by decide +kernel, rfl, fun _ => (it_mem 6 233 rfl rfl), (it_mem 6 232 rfl rfl), (it_mem 15 8 rfl rfl), _, rfl, rfl⟩
theorem it_k219 : ∀ M, it_mt[219]? = some M → it_kP M 1 := fun M h => by cases h; exact ⟨rfl, (it_mem 0 13 rfl rfl), ⟨by decide +kernel, by decide +kernel⟩, by decide +kernel, rfl, fun _ => (it_mem 6 229 rfl rfl), (it_mem 6 228 rfl rfl), (it_mem 15 7 rfl rfl), _, rfl, rfl⟩
theorem it_k220 : ∀ M, it_mt[220]? = some M → it_kP M 1 := fun M h => by cases h; exact ⟨rfl, (it_mem 0 13 rfl rfl), ⟨by decide +kernel, by decide +kernel⟩, by decide +kernel, rfl, fun _ => (it_mem 6 225 rfl rfl), (it_mem 6 224 rfl rfl), (it_mem 15 6 rfl rfl), _, rfl, rfl⟩
theorem it_k221 : ∀ M, it_mt[221]? = some M → it_kP M 1 := fun M h => by cases h; exact ⟨rfl, (it_mem 0 13 rfl rfl), ⟨by decide +kernel, by decide +kernel⟩, by decide +kernel, rfl, fun _ => (it_mem 7 27 rfl rfl), (it_mem 7 26 rfl rfl), (it_mem 15 14 rfl rfl), _, rfl, rfl⟩
theorem it_k222 : ∀ M, it_mt[222]? = some M → it_kP M 1 := fun M h => by cases h; exact ⟨rfl, (it_mem 0 13 rfl rfl), ⟨by decide +kernel, by decide +kernel⟩, by decide +kernel, rfl, fun _ => (it_mem 7 67 rfl rfl), (it_mem 7 66 rfl rfl), (it_mem 16 7 rfl rfl), _, rfl, rfl⟩
theorem it_k223 : ∀ M, it_mt[223]? = some M → it_kP M 1 := fun M h => by cases h; exact ⟨rfl, (it_mem 0 13 rfl rfl), ⟨by decide +kernel, by decide +kernel⟩, by decide +kernel, rfl, fun _ => (it_mem 6 176 rfl rfl), (it_mem 6 174 rfl rfl), (it_mem 6 175 rfl rfl), _, rfl, rfl⟩
theorem it_k224 : ∀ M, it_mt[224]? = some M → it_kP M 1 := fun M h => by cases h; exact ⟨rfl, (it_mem 0 13 rfl rfl), ⟨by decide +kernel, by decide +kernel⟩, by decide +kernel, rfl, fun _ => (it_mem 6 180 rfl rfl), (it_mem 6 179 rfl rfl), (it_mem 15 0 rfl rfl), _, rfl, rfl⟩
theorem it_k225 : ∀ M, it_mt[225]? = some M → it_kP M 1 := fun M h => by cases h; exact ⟨rfl, (it_mem 0 13 rfl rfl), ⟨by decide +kernel, by decide +kernel⟩, by decide +kernel, rfl, fun _ => (it_mem 6 184 rfl rfl), (it_mem 6 182 rfl rfl), (it_mem 6 183 rfl rfl), _, rfl, rfl⟩
theorem it_k226 : ∀ M, it_mt[226]? = some M → it_kP M 1 := fun M h => by cases h; exact ⟨rfl, (it_mem 0 13 rfl rfl), ⟨by decide +kernel, by decide +kernel⟩, by decide +kernel, rfl, fun _ => (it_mem 6 188 rfl rfl), (it_mem 6 186 rfl rfl), (it_mem 6 187 rfl rfl), _, rfl, rfl⟩
theorem it_k227 : ∀ M, it_mt[227]? = some M → it_kP M 1 := fun M h => by cases h; exact ⟨rfl, (it_mem 0 13 rfl rfl), ⟨by decide +kernel, by decide +kernel⟩, by decide +kernel, rfl, fun _ => (it_mem 6 192 rfl rfl), (it_mem 6 190 rfl rfl), (it_mem 6 191 rfl rfl), _, rfl, rfl⟩
theorem it_k228 : ∀ M, it_mt[228]? = some M → it_kP M 1 := fun M h => by cases h; exact ⟨rfl, (it_mem 0 13 rfl rfl), ⟨by decide +kernel, by decide +kernel⟩, by decide +kernel, rfl, fun _ => (it_mem 6 196 rfl rfl), (it_mem 6 195 rfl rfl), (it_mem 15 1 rfl rfl), _, rfl, rfl⟩
theorem it_k229 : ∀ M, it_mt[229]? = some M → it_kP M 1 := fun M h => by cases h; exact ⟨rfl, (it_mem 0 13 rfl rfl), ⟨by decide +kernel, by decide +kernel⟩, by decide +kernel, rfl, fun _ => (it_mem 6 200 rfl rfl), (it_mem 6 198 rfl rfl), (it_mem 6 199 rfl rfl), _, rfl, rfl⟩
theorem it_k230 : ∀ M, it_mt[230]? = some M → it_kP M 1 := fun M h => by cases h; exact ⟨rfl, (it_mem 0 13 rfl rfl), ⟨by decide +kernel, by decide +kernel⟩, by decide +kernel, rfl, fun _ => (it_mem 7 18 rfl rfl), (it_mem 7 17 rfl rfl), (it_mem 15 12 rfl rfl), _, rfl, rfl⟩
theorem it_k231 : ∀ M, it_mt[231]? = some M → it_kP M 1 := fun M h => by cases h; exact ⟨rfl, (it_mem 0 13 rfl rfl), ⟨by decide +kernel, by decide +kernel⟩, by decide +kernel, rfl, fun _ => (it_mem 7 23 rfl rfl), (it_mem 7 22 rfl rfl), (it_mem 15 13 rfl rfl), _, rfl, rfl⟩
theorem it_k232 : ∀ M, it_mt[232]? = some M → it_kP M 1 := fun M h => by cases h; exact ⟨rfl, (it_mem 0 13 rfl rfl), ⟨by decide +kernel, by decide +kernel⟩, by decide +kernel, rfl, fun _ => (it_mem 7 14 rfl rfl), (it_mem 7 13 rfl rfl), (it_mem 15 11 rfl rfl), _, rfl, rfl⟩
theorem it_k233 : ∀ M, it_mt[233]? = some M → it_kP M 1 := fun M h => by cases h; exact ⟨rfl, (it_mem 0 13 rfl rfl), ⟨by decide +kernel, by decide +kernel⟩, by decide +kernel, rfl, fun _ => (it_mem 6 216 rfl rfl), (it_mem 6 215 rfl rfl), (it_mem 15 4 rfl rfl), _, rfl, rfl⟩
theorem it_k234 : ∀ M, it_mt[234]? = some M → it_kP M 1 := fun M h => by cases h; exact ⟨rfl, (it_mem 0 13 rfl rfl), ⟨by decide +kernel, by decide +kernel⟩, by decide +kernel, rfl, fun _ => (it_mem 7 10 rfl rfl), (it_mem 7 9 rfl rfl), (it_mem 15 10 rfl rfl), _, rfl, rfl⟩
theorem it_k235 : ∀ M, it_mt[235]? = some M → it_kP M 1 := fun M h => by cases h; exact ⟨rfl, (it_mem 0 13 rfl rfl), ⟨by decide +kernel, by decide +kernel⟩, by decide +kernel, rfl, fun _ => (it_mem 6 221 rfl rfl), (it_mem 6 220 rfl rfl), (it_mem 15 5 rfl rfl), _, rfl, rfl⟩
theorem it_k236 : ∀ M, it_mt[236]? = some M → it_kP M 1 := fun M h => by cases h; exact ⟨rfl, (it_mem 0 13 rfl rfl), ⟨by decide +kernel, by decide +kernel⟩, by decide +kernel, rfl, fun _ => (it_mem 7 36 rfl rfl), (it_mem 7 35 rfl rfl), (it_mem 16 0 rfl rfl), _, rfl, rfl⟩
theorem it_k237 : ∀ M, it_mt[237]? = some M → it_kP M 1 := fun M h => by cases h; exact ⟨rfl, (it_mem 0 13 rfl rfl), ⟨by decide +kernel, by decide +kernel⟩, by decide +kernel, rfl, fun _ => (it_mem 7 32 rfl rfl), (it_mem 7 31 rfl rfl), (it_mem 15 15 rfl rfl), _, rfl, rfl⟩
theorem it_k238 : ∀ M, it_mt[238]? = some M → it_kP M 1 := fun M h => by cases h; exact ⟨rfl, (it_mem 0 13 rfl rfl), ⟨by decide +kernel, by decide +kernel⟩, by decide +kernel, rfl, fun _ => (it_mem 6 212 rfl rfl), (it_mem 6 211 rfl rfl), (it_mem 15 3 rfl rfl), _, rfl, rfl⟩
theorem it_k239 : ∀ M, it_mt[239]? = some M → it_kP M 1 := fun M h => by cases h; exact ⟨rfl, (it_mem 0 13 rfl rfl), ⟨by decide +kernel, by decide +kernel⟩, by decide +kernel, rfl, fun _ => (it_mem 6 208 rfl rfl), (it_mem 6 207 rfl rfl), (it_mem 15 2 rfl rfl), _, rfl, rfl⟩
theorem it_k240 : ∀ M, it_mt[240]? = some M → it_kP M 1 := fun M h => by cases h; exact ⟨rfl, (it_mem 0 13 rfl rfl), ⟨by decide +kernel, by decide +kernel⟩, by decide +kernel, rfl, fun _ => (it_mem 7 40 rfl rfl), (it_mem 7 39 rfl rfl), (it_mem 16 1 rfl rfl), _, rfl, rfl⟩
theorem it_k241 : ∀ M, it_mt[241]? = some M → it_kP M 1 := fun M h => by cases h; exact ⟨rfl, (it_mem 0 13 rfl rfl), ⟨by decide +kernel, by decide +kernel⟩, by decide +kernel, rfl, fun _ => (it_mem 7 6 rfl rfl), (it_mem 7 5 rfl rfl), (it_mem 15 9 rfl rfl), _, rfl, rfl⟩
theorem it_k242 : ∀ M, it_mt[242]? = some M → it_kP M 1 := fun M h => by cases h; exact ⟨rfl, (it_mem 0 13 rfl rfl), ⟨by decide +kernel, by decide +kernel⟩, by decide +kernel, rfl, fun _ => (it_mem 8 151 rfl rfl), (it_mem 8 150 rfl rfl), (it_mem 20 10 rfl rfl), _, rfl, rfl⟩
theorem it_k243 : ∀ M, it_mt[243]? = some M → it_kP M 1 := fun M h => by cases h; exact ⟨rfl, (it_mem 0 13 rfl rfl), ⟨by decide +kernel, by decide +kernel⟩, by decide +kernel, rfl, fun _ => (it_mem 6 204 rfl rfl), (it_mem 6 202 rfl rfl), (it_mem 6 203 rfl rfl), _, rfl, rfl⟩
theorem it_k244 : ∀ M, it_mt[244]? = some M → it_kP M 1 := fun M h => by cases h; exact ⟨rfl, (it_mem 0 13 rfl rfl), ⟨by decide +kernel, by decide +kernel⟩, by decide +kernel, rfl, fun _ => (it_mem 7 52 rfl rfl), (it_mem 7 51 rfl rfl), (it_mem 16 4 rfl rfl), _, rfl, rfl⟩
theorem it_k245 : ∀ M, it_mt[245]? = some M → it_kP M 1 := fun M h => by cases h; exact ⟨rfl, (it_mem 0 13 rfl rfl), ⟨by decide +kernel, by decide +kernel⟩, by decide +kernel, rfl, fun _ => (it_mem 7 58 rfl rfl), (it_mem 7 57 rfl rfl), (it_mem 16 5 rfl rfl), _, rfl, rfl⟩
theorem it_k246 : ∀ M, it_mt[246]? = some M → it_kP M 1 := fun M h => by cases h; exact ⟨rfl, (it_mem 0 13 rfl rfl), ⟨by decide +kernel, by decide +kernel⟩, by decide +kernel, rfl, fun _ => (it_mem 7 63 rfl rfl), (it_mem 7 62 rfl rfl), (it_mem 16 6 rfl rfl), _, rfl, rfl⟩
theorem it_k247 : ∀ M, it_mt[247]? = some M → it_kP M 1 := fun M h => by cases h; exact ⟨rfl, (it_mem 0 13 rfl rfl), ⟨by decide +kernel, by decide +kernel⟩, by decide +kernel, rfl, fun _ => (it_mem 7 76 rfl rfl), (it_mem 7 75 rfl rfl), (it_mem 16 9 rfl rfl), _, rfl, rfl⟩
theorem it_k248 : ∀ M, it_mt[248]? = some M → it_kP M 1 := fun M h => by cases h; exact ⟨rfl, (it_mem 0 13 rfl rfl), ⟨by decide +kernel, by decide +kernel⟩, by decide +kernel, rfl, fun _ => (it_mem 7 48 rfl rfl), (it_mem 7 47 rfl rfl), (it_mem 16 3 rfl rfl), _, rfl, rfl⟩
theorem it_k249 : ∀ M, it_mt[249]? = some M → it_kP M 1 := fun M h => by cases h; exact ⟨rfl, (it_mem 0 13 rfl rfl), ⟨by decide +kernel, by decide +kernel⟩, by decide +kernel, rfl, fun _ => (it_mem 7 72 rfl rfl), (it_mem 7 71 rfl rfl), (it_mem 16 8 rfl rfl), _, rfl, rfl⟩
theorem it_k250 : ∀ M, it_mt[250]? = some M → it_kP M 1 := fun M h => by cases h; exact ⟨rfl, (it_mem 0 13 rfl rfl), ⟨by decide +kernel, by decide +kernel⟩, by decide +kernel, rfl, fun _ => (it_mem 7 44 rfl rfl), (it_mem 7 43 rfl rfl), (it_mem 16 2 rfl rfl), _, rfl, rfl⟩
theorem it_k251 : ∀ M, it_mt[251]? = some M → it_kP M 1 := fun M h => by cases h; exact ⟨rfl, (it_mem 0 13 rfl rfl), ⟨by decide +kernel, by decide +kernel⟩, by decide +kernel, rfl, fun _ => (it_mem 7 2 rfl rfl), (it_mem 7 0 rfl rfl), (it_mem 7 1 rfl rfl), _, rfl, rfl⟩
theorem it_k252 : ∀ M, it_mt[252]? = some M → it_kP M 1 := fun M h => by cases h; exact ⟨rfl, (it_mem 0 13 rfl rfl), ⟨by decide +kernel, by decide +kernel⟩, by decide +kernel, rfl, fun _ => (it_mem 7 84 rfl rfl), (it_mem 7 83 rfl rfl), (it_mem 16 11 rfl rfl), _, rfl, rfl⟩
theorem it_k253 : ∀ M, it_mt[253]? = some M → it_kP M 1 := fun M h => by cases h; exact ⟨rfl, (it_mem 0 13 rfl rfl), ⟨by decide +kernel, by decide +kernel⟩, by decide +kernel, rfl, fun _ => (it_mem 7 80 rfl rfl), (it_mem 7 79 rfl rfl), (it_mem 16 10 rfl rfl), _, rfl, rfl⟩
theorem it_k254 : ∀ M, it_mt[254]? = some M → it_kP M 1 := fun M h => by cases h; exact ⟨rfl, (it_mem 0 13 rfl rfl), ⟨by decide +kernel, by decide +kernel⟩, by decide +kernel, rfl, fun _ => (it_mem 7 88 rfl rfl), (it_mem 7 87 rfl rfl), (it_mem 16 12 rfl rfl), _, rfl, rfl⟩
theorem it_k255 : ∀ M, it_mt[255]? = some M → it_kP M 1 := fun M h => by cases h; exact ⟨rfl, (it_mem 0 13 rfl rfl), ⟨by decide +kernel, by decide +kernel⟩, by decide +kernel, rfl, fun _ => (it_mem 7 201 rfl rfl), (it_mem 7 200 rfl rfl), (it_mem 17 15 rfl rfl), _, rfl, rfl⟩
theorem it_k256 : ∀ M, it_mt[256]? = some M → it_kP M 1 := fun M h => by cases h; exact ⟨rfl, (it_mem 0 13 rfl rfl), ⟨by decide +kernel, by decide +kernel⟩, by decide +kernel, rfl, fun _ => (it_mem 7 205 rfl rfl), (it_mem 7 204 rfl rfl), (it_mem 18 0 rfl rfl), _, rfl, rfl⟩
theorem it_k257 : ∀ M, it_mt[257]? = some M → it_kP M 1 := fun M h => by cases h; exact ⟨rfl, (it_mem 0 13 rfl rfl), ⟨by decide +kernel, by decide +kernel⟩, by decide +kernel, rfl, fun _ => (it_mem 7 146 rfl rfl), (it_mem 7 145 rfl rfl), (it_mem 17 3 rfl rfl), _, rfl, rfl⟩
theorem it_k258 : ∀ M, it_mt[258]? = some M → it_kP M 1 := fun M h => by cases h; exact ⟨rfl, (it_mem 0 13 rfl rfl), ⟨by decide +kernel, by decide +kernel⟩, by decide +kernel, rfl, fun _ => (it_mem 7 197 rfl rfl), (it_mem 7 196 rfl rfl), (it_mem 17 14 rfl rfl), _, rfl, rfl⟩
theorem it_k259 : ∀ M, it_mt[259]? = some M → it_kP M 1 := fun M h => by cases h; exact ⟨rfl, (it_mem 0 13 rfl rfl), ⟨by decide +kernel, by decide +kernel⟩, by decide +kernel, rfl, fun _ => (it_mem 7 193 rfl rfl), (it_mem 7 192 rfl rfl), (it_mem 17 13 rfl rfl), _, rfl, rfl⟩
theorem it_k260 : ∀ M, it_mt[260]? = some M → it_kP M 1 := fun M h => by cases h; exact ⟨rfl, (it_mem 0 13 rfl rfl), ⟨by decide +kernel, by decide +kernel⟩, by decide +kernel, rfl, fun _ => (it_mem 8 56 rfl rfl), (it_mem 8 55 rfl rfl), (it_mem 19 5 rfl rfl), _, rfl, rfl⟩
theorem it_k261 : ∀ M, it_mt[261]? = some M → it_kP M 1 := fun M h => by cases h; exact ⟨rfl, (it_mem 0 13 rfl rfl), ⟨by decide +kernel, by decide +kernel⟩, by decide +kernel, rfl, fun _ => (it_mem 8 84 rfl rfl), (it_mem 8 83 rfl rfl), (it_mem 19 12 rfl rfl), _, rfl, rfl⟩
theorem it_k262 : ∀ M, it_mt[262]? = some M → it_kP M 0 := fun M h => by cases h; exact ⟨rfl, (it_mem 0 13 rfl rfl), ⟨by decide +kernel, by decide +kernel⟩, by decide +kernel, rfl, fun _ => (it_mem 7 99 rfl rfl), (it_mem 7 98 rfl rfl)⟩
theorem it_k263 : ∀ M, it_mt[263]? = some M → it_kP M 1 := fun M h => by cases h; exact ⟨rfl, (it_mem 0 13 rfl rfl), ⟨by decide +kernel, by decide +kernel⟩, by decide +kernel, rfl, fun _ => (it_mem 7 92 rfl rfl), (it_mem 7 90 rfl rfl), (it_mem 7 91 rfl rfl), _, rfl, rfl⟩
theorem it_k264 : ∀ M, it_mt[264]? = some M → it_kP M 0 := fun M h => by cases h; exact ⟨rfl, (it_mem 0 13 rfl rfl), ⟨by decide +kernel, by decide +kernel⟩, by decide +kernel, rfl, fun _ => (it_mem 7 122 rfl rfl), (it_mem 7 121 rfl rfl)⟩
theorem it_k265 : ∀ M, it_mt[265]? = some M → it_kP M 0 := fun M h => by cases h; exact ⟨rfl, (it_mem 0 13 rfl rfl), ⟨by decide +kernel, by decide +kernel⟩, by decide +kernel, rfl, fun _ => (it_mem 7 125 rfl rfl), (it_mem 7 124 rfl rfl)⟩
theorem it_k266 : ∀ M, it_mt[266]? = some M → it_kP M 0 := fun M h => by cases h; exact ⟨rfl, (it_mem 0 13 rfl rfl), ⟨by decide +kernel, by decide +kernel⟩, by decide +kernel, rfl, fun _ => (it_mem 7 128 rfl rfl), (it_mem 7 127 rfl rfl)⟩
theorem it_k267 : ∀ M, it_mt[267]? = some M → it_kP M 0 := fun M h => by cases h; exact ⟨rfl, (it_mem 0 13 rfl rfl), ⟨by decide +kernel, by decide +kernel⟩, by decide +kernel, rfl, fun _ => (it_mem 7 131 rfl rfl), (it_mem 7 130 rfl rfl)⟩
theorem it_k268 : ∀ M, it_mt[268]? = some M → it_kP M 0 := fun M h => by cases h; exact ⟨rfl, (it_mem 0 13 rfl rfl), ⟨by decide +kernel, by decide +kernel⟩, by decide +kernel, rfl, fun _ => (it_mem 7 119 rfl rfl), (it_mem 7 118 rfl rfl)⟩
theorem it_k269 : ∀ M, it_mt[269]? = some M → it_kP M 0 := fun M h => by cases h; exact ⟨rfl, (it_mem 0 13 rfl rfl), ⟨by decide +kernel, by decide +kernel⟩, by decide +kernel, rfl, fun _ => (it_mem 7 134 rfl rfl), (it_mem 7 133 rfl rfl)⟩
theorem it_k270 : ∀ M, it_mt[270]? = some M → it_kP M 0 := fun M h => by cases h; exact ⟨rfl, (it_mem 0 13 rfl rfl), ⟨by decide +kernel, by decide +kernel⟩, by decide +kernel, rfl, fun _ => (it_mem 7 162 rfl rfl), (it_mem 7 161 rfl rfl)⟩
theorem it_k271 : ∀ M, it_mt[271]? = some M → it_kP M 0 := fun M h => by cases h; exact ⟨rfl, (it_mem 0 13 rfl rfl), ⟨by decide +kernel, by decide +kernel⟩, by decide +kernel, rfl, fun _ => (it_mem 8 126 rfl rfl), (it_mem 8 125 rfl rfl)⟩
theorem it_k272 : ∀ M, it_mt[272]? = some M → it_kP M 1 := fun M h => by cases h; exact ⟨rfl, (it_mem 0 13 rfl rfl), ⟨by decide +kernel, by decide +kernel⟩, by decide +kernel, rfl, fun _ => (it_mem 7 116 rfl rfl), (it_mem 7 115 rfl rfl), (it_mem 17 0 rfl rfl), _, rfl, rfl⟩
theorem it_k273 : ∀ M, it_mt[273]? = some M → it_kP M 1 := fun M h => by cases h; exact ⟨rfl, (it_mem 0 13 rfl rfl), ⟨by decide +kernel, by decide +kernel⟩, by decide +kernel, rfl, fun _ => (it_mem 8 91 rfl rfl), (it_mem 8 90 rfl rfl), (it_mem 19 13 rfl rfl), _, rfl, rfl⟩
theorem it_k274 : ∀ M, it_mt[274]? = some M → it_kP M 1 := fun M h => by cases h; exact ⟨rfl, (it_mem 0 13 rfl rfl), ⟨by decide +kernel, by decide +kernel⟩, by decide +kernel, rfl, fun _ => (it_mem 7 138 rfl rfl), (it_mem 7 137 rfl rfl), (it_mem 17 1 rfl rfl), _, rfl, rfl⟩
theorem it_k275 : ∀ M, it_mt[275]? = some M → it_kP M 1 := fun M h => by cases h; exact ⟨rfl, (it_mem 0 13 rfl rfl), ⟨by decide +kernel, by decide +kernel⟩, by decide +kernel, rfl, fun _ => (it_mem 7 142 rfl rfl), (it_mem 7 141 rfl rfl), (it_mem 17 2 rfl rfl), _, rfl, rfl⟩
theorem it_k276 : ∀ M, it_mt[276]? = some M → it_kP M 1 := fun M h => by cases h; exact ⟨rfl, (it_mem 0 13 rfl rfl), ⟨by decide +kernel, by decide +kernel⟩, by decide +kernel, rfl, fun _ => (it_mem 7 151 rfl rfl), (it_mem 7 150 rfl rfl), (it_mem 17 4 rfl rfl), _, rfl, rfl⟩
theorem it_k277 : ∀ M, it_mt[277]? = some M → it_kP M 1 := fun M h => by cases h; exact ⟨rfl, (it_mem 0 13 rfl rfl), ⟨by decide +kernel, by decide +kernel⟩, by decide +kernel, rfl, fun _ => (it_mem 8 64 rfl rfl), (it_mem 8 63 rfl rfl), (it_mem 19 7 rfl rfl), _, rfl, rfl⟩
theorem it_k278 : ∀ M, it_mt[278]? = some M → it_kP M 1 := fun M h => by cases h; exact ⟨rfl, (it_mem 0 13 rfl rfl), ⟨by decide +kernel, by decide +kernel⟩, by decide +kernel, rfl, fun _ => (it_mem 8 60 rfl rfl), (it_mem 8 59 rfl rfl), (it_mem 19 6 rfl rfl), _, rfl, rfl⟩
theorem it_k279 : ∀ M, it_mt[279]? = some M → it_kP M 1 := fun M h => by cases h; exact ⟨rfl, (it_mem 0 13 rfl rfl), ⟨by decide +kernel, by decide +kernel⟩, by decide +kernel, rfl, fun _ => (it_mem 8 76 rfl rfl), (it_mem 8 75 rfl rfl), (it_mem 19 10 rfl rfl), _, rfl, rfl⟩
theorem it_k280 : ∀ M, it_mt[280]? = some M → it_kP M 1 := fun M h => by cases h; exact ⟨rfl, (it_mem 0 13 rfl rfl), ⟨by decide +kernel, by decide +kernel⟩, by decide +kernel, rfl, fun _ => (it_mem 8 111 rfl rfl), (it_mem 8 110 rfl rfl), (it_mem 20 2 rfl rfl), _, rfl, rfl⟩
theorem it_k281 : ∀ M, it_mt[281]? = some M → it_kP M 1 := fun M h => by cases h; exact ⟨rfl, (it_mem 0 13 rfl rfl), ⟨by decide +kernel, by decide +kernel⟩, by decide +kernel, rfl, fun _ => (it_mem 8 107 rfl rfl), (it_mem 8 106 rfl rfl), (it_mem 20 1 rfl rfl), _, rfl, rfl⟩
theorem it_k282 : ∀ M, it_mt[282]? = some M → it_kP M 1 := fun M h => by cases h; exact ⟨rfl, (it_mem 0 13 rfl rfl), ⟨by decide +kernel, by decide +kernel⟩, by decide +kernel, rfl, fun _ => (it_mem 8 72 rfl rfl), (it_mem 8 71 rfl rfl), (it_mem 19 9 rfl rfl), _, rfl, rfl⟩
theorem it_k283 : ∀ M, it_mt[283]? = some M → it_kP M 1 := fun M h => by cases h; exact ⟨rfl, (it_mem 0 13 rfl rfl), ⟨by decide +kernel, by decide +kernel⟩, by decide +kernel, rfl, fun _ => (it_mem 8 95 rfl rfl), (it_mem 8 94 rfl rfl), (it_mem 19 14 rfl rfl), _, rfl, rfl⟩
theorem it_k284 : ∀ M, it_mt[284]? = some M → it_kP M 1 := fun M h => by cases h; exact ⟨rfl, (it_mem 0 13 rfl rfl), ⟨by decide +kernel, by decide +kernel⟩, by decide +kernel, rfl, fun _ => (it_mem 8 48 rfl rfl), (it_mem 8 47 rfl rfl), (it_mem 19 3 rfl rfl), _, rfl, rfl⟩
theorem it_k285 : ∀ M, it_mt[285]? = some M → it_kP M 1 := fun M h => by cases h; exact ⟨rfl, (it_mem 0 13 rfl rfl), ⟨by decide +kernel, by decide +kernel⟩, by decide +kernel, rfl, fun _ => (it_mem 8 52 rfl rfl), (it_mem 8 51 rfl rfl), (it_mem 19 4 rfl rfl), _, rfl, rfl⟩
theorem it_k286 : ∀ M, it_mt[286]? = some M → it_kP M 1 := fun M h => by cases h; exact ⟨rfl, (it_mem 0 13 rfl rfl), ⟨by decide +kernel, by decide +kernel⟩, by decide +kernel, rfl, fun _ => (it_mem 8 68 rfl rfl), (it_mem 8 67 rfl rfl), (it_mem 19 8 rfl rfl), _, rfl, rfl⟩
theorem it_k287 : ∀ M, it_mt[287]? = some M → it_kP M 0 := fun M h => by cases h; exact ⟨rfl, (it_mem 0 13 rfl rfl), ⟨by decide +kernel, by decide +kernel⟩, by decide +kernel, rfl, fun _ => (it_mem 8 87 rfl rfl), (it_mem 8 86 rfl rfl)⟩
theorem it_k288 : ∀ M, it_mt[288]? = some M → it_kP M 1 := fun M h => by cases h; exact ⟨rfl, (it_mem 0 13 rfl rfl), ⟨by decide +kernel, by decide +kernel⟩, by decide +kernel, rfl, fun _ => (it_mem 8 80 rfl rfl), (it_mem 8 79 rfl rfl), (it_mem 19 11 rfl rfl), _, rfl, rfl⟩
theorem it_k289 : ∀ M, it_mt[289]? = some M → it_kP M 1 := fun M h => by cases h; exact ⟨rfl, (it_mem 0 13 rfl rfl), ⟨by decide +kernel, by decide +kernel⟩, by decide +kernel, rfl, fun _ => (it_mem 8 172 rfl rfl), (it_mem 8 171 rfl rfl), (it_mem 20 15 rfl rfl), _, rfl, rfl⟩
theorem it_k290 : ∀ M, it_mt[290]? = some M → it_kP M 1 := fun M h => by cases h; exact ⟨rfl, (it_mem 0 13 rfl rfl), ⟨by decide +kernel, by decide +kernel⟩, by decide +kernel, rfl, fun _ => (it_mem 8 176 rfl rfl), (it_mem 8 175 rfl rfl), (it_mem 21 0 rfl rfl), _, rfl, rfl⟩
theorem it_k291 : ∀ M, it_mt[291]? = some M → it_kP M 1 := fun M h => by cases h; exact ⟨rfl, (it_mem 0 13 rfl rfl), ⟨by decide +kernel, by decide +kernel⟩, by decide +kernel, rfl, fun _ => (it_mem 8 180 rfl rfl), (it_mem 8 179 rfl rfl), (it_mem 21 1 rfl rfl), _, rfl, rfl⟩
theorem it_k292 : ∀ M, it_mt[292]? = some M → it_kP M 1 := fun M h => by cases h; exact ⟨rfl, (it_mem 0 13 rfl rfl), ⟨by decide +kernel, by decide +kernel⟩, by decide +kernel, rfl, fun _ => (it_mem 8 184 rfl rfl), (it_mem 8 183 rfl rfl), (it_mem 21 2 rfl rfl), _, rfl, rfl⟩
theorem it_k293 : ∀ M, it_mt[293]? = some M → it_kP M 1 := fun M h => by cases h; exact ⟨rfl, (it_mem 0 13 rfl rfl), ⟨by decide +kernel, by decide +kernel⟩, by decide +kernel, rfl, fun _ => (it_mem 8 188 rfl rfl), (it_mem 8 187 rfl rfl), (it_mem 21 3 rfl rfl), _, rfl, rfl⟩
theorem it_k294 : ∀ M, it_mt[294]? = some M → it_kP M 1 := fun M h => by cases h; exact ⟨rfl, (it_mem 0 13 rfl rfl), ⟨by decide +kernel, by decide +kernel⟩, by decide +kernel, rfl, fun _ => (it_mem 8 103 rfl rfl), (it_mem 8 102 rfl rfl), (it_mem 20 0 rfl rfl), _, rfl, rfl⟩
theorem it_k295 : ∀ M, it_mt[295]? = some M → it_kP M 1 := fun M h => by cases h; exact ⟨rfl, (it_mem 0 13 rfl rfl), ⟨by decide +kernel, by decide +kernel⟩, by decide +kernel, rfl, fun _ => (it_mem 8 115 rfl rfl), (it_mem 8 114 rfl rfl), (it_mem 20 3 rfl rfl), _, rfl, rfl⟩
theorem it_k296 : ∀ M, it_mt[296]? = some M → it_kP M 1 := fun M h => by cases h; exact ⟨rfl, (it_mem 0 13 rfl rfl), ⟨by decide +kernel, by decide +kernel⟩, by decide +kernel, rfl, fun _ => (it_mem 8 99 rfl rfl), (it_mem 8 98 rfl rfl), (it_mem 19 15 rfl rfl), _, rfl, rfl⟩
theorem it_k297 : ∀ M, it_mt[297]? = some M → it_kP M 0 := fun M h => by cases h; exact ⟨rfl, (it_mem 0 13 rfl rfl), ⟨by decide +kernel, by decide +kernel⟩, by decide +kernel, rfl, fun _ => (it_mem 8 129 rfl rfl), (it_mem 8 128 rfl rfl)⟩
theorem it_k298 : ∀ M, it_mt[298]? = some M → it_kP M 1 := fun M h => by cases h; exact ⟨rfl, (it_mem 0 13 rfl rfl), ⟨by decide +kernel, by decide +kernel⟩, by decide +kernel, rfl, fun _ => (it_mem 8 119 rfl rfl), (it_mem 8 118 rfl rfl), (it_mem 20 4 rfl rfl), _, rfl, rfl⟩
theorem it_k299 : ∀ M, it_mt[299]? = some M → it_kP M 1 := fun M h => by cases h; exact ⟨rfl, (it_mem 0 13 rfl rfl), ⟨by decide +kernel, by decide +kernel⟩, by decide +kernel, rfl, fun _ => (it_mem 8 123 rfl rfl), (it_mem 8 122 rfl rfl), (it_mem 20 5 rfl rfl), _, rfl, rfl⟩
theorem it_k300 : ∀ M, it_mt[300]? = some M → it_kP M 1 := fun M h => by cases h; exact ⟨rfl, (it_mem 0 13 rfl rfl), ⟨by decide +kernel, by decide +kernel⟩, by decide +kernel, rfl, fun _ => (it_mem 8 133 rfl rfl), (it_mem 8 132 rfl rfl), (it_mem 20 6 rfl rfl), _, rfl, rfl⟩
theorem it_k301 : ∀ M, it_mt[301]? = some M → it_kP M 1 := fun M h => by cases h; exact ⟨rfl, (it_mem 0 13 rfl rfl), ⟨by decide +kernel, by decide +kernel⟩, by decide +kernel, rfl, fun _ => (it_mem 8 137 rfl rfl), (it_mem 8 136 rfl rfl), (it_mem 20 7 rfl rfl), _, rfl, rfl⟩
theorem it_k302 : ∀ M, it_mt[302]? = some M → it_kP M 1 := fun M h => by cases h; exact ⟨rfl, (it_mem 0 13 rfl rfl), ⟨by decide +kernel, by decide +kernel⟩, by decide +kernel, rfl, fun _ => (it_mem 8 141 rfl rfl), (it_mem 8 140 rfl rfl), (it_mem 20 8 rfl rfl), _, rfl, rfl⟩
theorem it_k303 : ∀ M, it_mt[303]? = some M → it_kP M 1 := fun M h => by cases h; exact ⟨rfl, (it_mem 0 13 rfl rfl), ⟨by decide +kernel, by decide +kernel⟩, by decide +kernel, rfl, fun _ => (it_mem 8 147 rfl rfl), (it_mem 8 146 rfl rfl), (it_mem 20 9 rfl rfl), _, rfl, rfl⟩
theorem it_k304 : ∀ M, it_mt[304]? = some M → it_kP M 1 := fun M h => by cases h; exact ⟨rfl, (it_mem 0 13 rfl rfl), ⟨by decide +kernel, by decide +kernel⟩, by decide +kernel, rfl, fun _ => (it_mem 8 155 rfl rfl), (it_mem 8 154 rfl rfl), (it_mem 20 11 rfl rfl), _, rfl, rfl⟩
theorem it_k305 : ∀ M, it_mt[305]? = some M → it_kP M 1 := fun M h => by cases h; exact ⟨rfl, (it_mem 0 13 rfl rfl), ⟨by decide +kernel, by decide +kernel⟩, by decide +kernel, rfl, fun _ => (it_mem 8 160 rfl rfl), (it_mem 8 159 rfl rfl), (it_mem 20 12 rfl rfl), _, rfl, rfl⟩
theorem it_k306 : ∀ M, it_mt[306]? = some M → it_kP M 1 := fun M h => by cases h; exact ⟨rfl, (it_mem 0 13 rfl rfl), ⟨by decide +kernel, by decide +kernel⟩, by decide +kernel, rfl, fun _ => (it_mem 8 168 rfl rfl), (it_mem 8 167 rfl rfl), (it_mem 20 14 rfl rfl), _, rfl, rfl⟩
theorem it_k307 : ∀ M, it_mt[307]? = some M → it_kP M 1 := fun M h => by cases h; exact ⟨rfl, (it_mem 0 13 rfl rfl), ⟨by decide +kernel, by decide +kernel⟩, by decide +kernel, rfl, fun _ => (it_mem 8 164 rfl rfl), (it_mem 8 163 rfl rfl), (it_mem 20 13 rfl rfl), _, rfl, rfl⟩
theorem it_k308 : ∀ M, it_mt[308]? = some M → it_kP M 1 := fun M h => by cases h; exact ⟨rfl, (it_mem 0 13 rfl rfl), ⟨by decide +kernel, by decide +kernel⟩, by decide +kernel, rfl, fun _ => (it_mem 7 112 rfl rfl), (it_mem 7 111 rfl rfl), (it_mem 16 15 rfl rfl), _, rfl, rfl⟩
theorem it_k309 : ∀ M, it_mt[309]? = some M → it_kP M 1 := fun M h => by cases h; exact ⟨rfl, (it_mem 0 13 rfl rfl), ⟨by decide +kernel, by decide +kernel⟩, by decide +kernel, rfl, fun _ => (it_mem 7 159 rfl rfl), (it_mem 7 158 rfl rfl), (it_mem 17 6 rfl rfl), _, rfl, rfl⟩
theorem it_k310 : ∀ M, it_mt[310]? = some M → it_kP M 1 := fun M h => by cases h; exact ⟨rfl, (it_mem 0 13 rfl rfl), ⟨by decide +kernel, by decide +kernel⟩, by decide +kernel, rfl, fun _ => (it_mem 7 155 rfl rfl), (it_mem 7 154 rfl rfl), (it_mem 17 5 rfl rfl), _, rfl, rfl⟩
theorem it_k311 : ∀ M, it_mt[311]? = some M → it_kP M 1 := fun M h => by cases h; exact ⟨rfl, (it_mem 0 13 rfl rfl), ⟨by decide +kernel, by decide +kernel⟩, by decide +kernel, rfl, fun _ => (it_mem 7 167 rfl rfl), (it_mem 7 166 rfl rfl), (it_mem 17 7 rfl rfl), _, rfl, rfl⟩
theorem it_k312 : ∀ M, it_mt[312]? = some M → it_kP M 1 := fun M h => by cases h; exact ⟨rfl, (it_mem 0 13 rfl rfl), ⟨by decide +kernel, by decide +kernel⟩, by decide +kernel, rfl, fun _ => (it_mem 7 175 rfl rfl), (it_mem 7 174 rfl rfl), (it_mem 17 9 rfl rfl), _, rfl, rfl⟩
theorem it_k313 : ∀ M, it_mt[313]? = some M → it_kP M 1 := fun M h => by cases h; exact ⟨rfl, (it_mem 0 13 rfl rfl), ⟨by decide +kernel, by decide +kernel⟩, by decide +kernel, rfl, fun _ => (it_mem 7 179 rfl rfl), (it_mem 7 178 rfl rfl), (it_mem 17 10 rfl rfl), _, rfl, rfl⟩
theorem it_k314 : ∀ M, it_mt[314]? = some M → it_kP M 1 := fun M h => by cases h; exact ⟨rfl, (it_mem 0 13 rfl rfl), ⟨by decide +kernel, by decide +kernel⟩, by decide +kernel, rfl, fun _ => (it_mem 7 171 rfl rfl), (it_mem 7 170 rfl rfl), (it_mem 17 8 rfl rfl), _, rfl, rfl⟩
theorem it_k315 : ∀ M, it_mt[315]? = some M → it_kP M 1 := fun M h => by cases h; exact ⟨rfl, (it_mem 0 13 rfl rfl), ⟨by decide +kernel, by decide +kernel⟩, by decide +kernel, rfl, fun _ => (it_mem 7 183 rfl rfl), (it_mem 7 182 rfl rfl), (it_mem 17 11 rfl rfl), _, rfl, rfl⟩
theorem it_k316 : ∀ M, it_mt[316]? = some M → it_kP M 1 := fun M h => by cases h; exact ⟨rfl, (it_mem 0 13 rfl rfl), ⟨by decide +kernel, by decide +kernel⟩, by decide +kernel, rfl, fun _ => (it_mem 7 107 rfl rfl), (it_mem 7 106 rfl rfl), (it_mem 16 14 rfl rfl), _, rfl, rfl⟩
theorem it_k317 : ∀ M, it_mt[317]? = some M → it_kP M 1 := fun M h => by cases h; exact ⟨rfl, (it_mem 0 13 rfl rfl), ⟨by decide +kernel, by decide +kernel⟩, by decide +kernel, rfl, fun _ => (it_mem 7 103 rfl rfl), (it_mem 7 101 rfl rfl), (it_mem 7 102 rfl rfl), _, rfl, rfl⟩
theorem it_k318 : ∀ M, it_mt[318]? = some M → it_kP M 1 := fun M h => by cases h; exact ⟨rfl, (it_mem 0 13 rfl rfl), ⟨by decide +kernel, by decide +kernel⟩, by decide +kernel, rfl, fun _ => (it_mem 7 224 rfl rfl), (it_mem 7 223 rfl rfl), (it_mem 18 4 rfl rfl), _, rfl, rfl⟩
theorem it_k319 : ∀ M, it_mt[319]? = some M → it_kP M 1 := fun M h => by cases h; exact ⟨rfl, (it_mem 0 13 rfl rfl), ⟨by decide +kernel, by decide +kernel⟩, by decide +kernel, rfl, fun _ => (it_mem 7 232 rfl rfl), (it_mem 7 231 rfl rfl), (it_mem 18 6 rfl rfl), _, rfl, rfl⟩
theorem it_k320 : ∀ M, it_mt[320]? = some M → it_kP M 1 := fun M h => by cases h; exact ⟨rfl, (it_mem 0 13 rfl rfl), ⟨by decide +kernel, by decide +kernel⟩, by decide +kernel, rfl, fun _ => (it_mem 7 189 rfl rfl), (it_mem 7 188 rfl rfl), (it_mem 17 12 rfl rfl), _, rfl, rfl⟩
theorem it_k321 : ∀ M, it_mt[321]? = some M → it_kP M 1 := fun M h => by cases h; exact ⟨rfl, (it_mem 0 13 rfl rfl), ⟨by decide +kernel, by decide +kernel⟩, by decide +kernel, rfl, fun _ => (it_mem 7 220 rfl rfl), (it_mem 7 219 rfl rfl), (it_mem 18 3 rfl rfl), _, rfl, rfl⟩
theorem it_k322 : ∀ M, it_mt[322]? = some M → it_kP M 1 := fun M h => by cases h; exact ⟨rfl, (it_mem 0 13 rfl rfl), ⟨by decide +kernel, by decide +kernel⟩, by decide +kernel, rfl, fun _ => (it_mem 8 19 rfl rfl), (it_mem 8 18 rfl rfl), (it_mem 18 12 rfl rfl), _, rfl, rfl⟩
theorem it_k323 : ∀ M, it_mt[323]? = some M → it_kP M 1 := fun M h => by cases h; exact ⟨rfl, (it_mem 0 13 rfl rfl), ⟨by decide +kernel, by decide +kernel⟩, by decide +kernel, rfl, fun _ => (it_mem 8 23 rfl rfl), (it_mem 8 22 rfl rfl), (it_mem 18 13 rfl rfl), _, rfl, rfl⟩
theorem it_k324 : ∀ M, it_mt[324]? = some M → it_kP M 1 := fun M h => by cases h; exact ⟨rfl, (it_mem 0 13 rfl rfl), ⟨by decide +kernel, by decide +kernel⟩, by decide +kernel, rfl, fun _ => (it_mem 8 27 rfl rfl), (it_mem 8 26 rfl rfl), (it_mem 18 14 rfl rfl), _, rfl, rfl⟩
theorem it_k325 : ∀ M, it_mt[325]? = some M → it_kP M 1 := fun M h => by cases h; exact ⟨rfl, (it_mem 0 13 rfl rfl), ⟨by decide +kernel, by decide +kernel⟩, by decide +kernel, rfl, fun _ => (it_mem 7 236 rfl rfl), (it_mem 7 235 rfl rfl), (it_mem 18 7 rfl rfl), _, rfl, rfl⟩
theorem it_k326 : ∀ M, it_mt[326]? = some M → it_kP M 1 := fun M h => by cases h; exact ⟨rfl, (it_mem 0 13 rfl rfl), ⟨by decide +kernel, by decide +kernel⟩, by decide +kernel, rfl, fun _ => (it_mem 8 0 rfl rfl), (it_mem 7 239 rfl rfl), (it_mem 18 8 rfl rfl), _, rfl, rfl⟩
theorem it_k327 : ∀ M, it_mt[327]? = some M → it_kP M 1 := fun M h => by cases h; exact ⟨rfl, (it_mem 0 13 rfl rfl), ⟨by decide +kernel, by decide +kernel⟩, by decide +kernel, rfl, fun _ => (it_mem 8 31 rfl rfl), (it_mem 8 30 rfl rfl), (it_mem 18 15 rfl rfl), _, rfl, rfl⟩
theorem it_k328 : ∀ M, it_mt[328]? = some M → it_kP M 1 := fun M h => by cases h; exact ⟨rfl, (it_mem 0 13 rfl rfl), ⟨by decide +kernel, by decide +kernel⟩, by decide +kernel, rfl, fun _ => (it_mem 8 35 rfl rfl), (it_mem 8 34 rfl rfl), (it_mem 19 0 rfl rfl), _, rfl, rfl⟩
theorem it_k329 : ∀ M, it_mt[329]? = some M → it_kP M 1 := fun M h => by cases h; exact ⟨rfl, (it_mem 0 13 rfl rfl), ⟨by decide +kernel, by decide +kernel⟩, by decide +kernel, rfl, fun _ => (it_mem 8 39 rfl rfl), (it_mem 8 38 rfl rfl), (it_mem 19 1 rfl rfl), _, rfl, rfl⟩
theorem it_k330 : ∀ M, it_mt[330]? = some M → it_kP M 1 := fun M h => by cases h; exact ⟨rfl, (it_mem 0 13 rfl rfl), ⟨by decide +kernel, by decide +kernel⟩, by decide +kernel, rfl, fun _ => (it_mem 8 43 rfl rfl), (it_mem 8 42 rfl rfl), (it_mem 19 2 rfl rfl), _, rfl, rfl⟩
theorem it_k331 : ∀ M, it_mt[331]? = some M → it_kP M 1 := fun M h => by cases h; exact ⟨rfl, (it_mem 0 13 rfl rfl), ⟨by decide +kernel, by decide +kernel⟩, by decide +kernel, rfl, fun _ => (it_mem 8 193 rfl rfl), (it_mem 8 192 rfl rfl), (it_mem 21 4 rfl rfl), _, rfl, rfl⟩
theorem it_k332 : ∀ M, it_mt[332]? = some M → it_kP M 1 := fun M h => by cases h; exact ⟨rfl, (it_mem 0 13 rfl rfl), ⟨by decide +kernel, by decide +kernel⟩, by decide +kernel, rfl, fun _ => (it_mem 8 197 rfl rfl), (it_mem 8 196 rfl rfl), (it_mem 21 5 rfl rfl), _, rfl, rfl⟩
theorem it_k333 : ∀ M, it_mt[333]? = some M → it_kP M 0 := fun M h => by cases h; exact ⟨rfl, (it_mem 0 13 rfl rfl), ⟨by decide +kernel, by decide +kernel⟩, by decide +kernel, rfl, fun _ => (it_mem 7 216 rfl rfl), (it_mem 7 215 rfl rfl)⟩
theorem it_k334 : ∀ M, it_mt[334]? = some M → it_kP M 1 := fun M h => by cases h; exact ⟨rfl, (it_mem 0 13 rfl rfl), ⟨by decide +kernel, by decide +kernel⟩, by decide +kernel, rfl, fun _ => (it_mem 7 228 rfl rfl), (it_mem 7 227 rfl rfl), (it_mem 18 5 rfl rfl), _, rfl, rfl⟩
theorem it_k335 : ∀ M, it_mt[335]? = some M → it_kP M 0 := fun M h => by cases h; exact ⟨rfl, (it_mem 0 13 rfl rfl), ⟨by decide +kernel, by decide +kernel⟩, by decide +kernel, rfl, fun _ => (it_mem 8 7 rfl rfl), (it_mem 8 6 rfl rfl)⟩
theorem it_k336 : ∀ M, it_mt[336]? = some M → it_kP M 1 := fun M h => by cases h; exact ⟨rfl, (it_mem 0 13 rfl rfl), ⟨by decide +kernel, by decide +kernel⟩, by decide +kernel, rfl, fun _ => (it_mem 7 209 rfl rfl), (it_mem 7 208 rfl rfl), (it_mem 18 1 rfl rfl), _, rfl, rfl⟩
theorem it_k337 : ∀ M, it_mt[337]? = some M → it_kP M 1 := fun M h => by cases h; exact ⟨rfl, (it_mem 0 13 rfl rfl), ⟨by decide +kernel, by decide +kernel⟩, by decide +kernel, rfl, fun _ => (it_mem 7 213 rfl rfl), (it_mem 7 212 rfl rfl), (it_mem 18 2 rfl rfl), _, rfl, rfl⟩
theorem it_k338 : ∀ M, it_mt[338]? = some M → it_kP M 1 := fun M h => by cases h; exact ⟨rfl, (it_mem 0 13 rfl rfl), ⟨by decide +kernel, by decide +kernel⟩, by decide +kernel, rfl, fun _ => (it_mem 8 4 rfl rfl), (it_mem 8 3 rfl rfl), (it_mem 18 9 rfl rfl), _, rfl, rfl⟩
theorem it_k339 : ∀ M, it_mt[339]? = some M → it_kP M 1 := fun M h => by cases h; exact ⟨rfl, (it_mem 0 13 rfl rfl), ⟨by decide +kernel, by decide +kernel⟩, by decide +kernel, rfl, fun _ => (it_mem 8 11 rfl rfl), (it_mem 8 10 rfl rfl), (it_mem 18 10 rfl rfl), _, rfl, rfl⟩
theorem it_k340 : ∀ M, it_mt[340]? = some M → it_kP M 1 := fun M h => by cases h; exact ⟨rfl, (it_mem 0 13 rfl rfl), ⟨by decide +kernel, by decide +kernel⟩, by decide +kernel, rfl, fun _ => (it_mem 8 15 rfl rfl), (it_mem 8 14 rfl rfl), (it_mem 18 11 rfl rfl), _, rfl, rfl⟩
theorem it_k341 : ∀ M, it_mt[341]? = some M → it_kP M 1 := fun M h => by cases h; exact ⟨rfl, (it_mem 0 13 rfl rfl), ⟨by decide +kernel, by decide +kernel⟩, by decide +kernel, rfl, fun _ => (it_mem 7 96 rfl rfl), (it_mem 7 95 rfl rfl), (it_mem 16 13 rfl rfl), _, rfl, rfl⟩
theorem it_k342 : ∀ M, it_mt[342]? = some M → it_kP M 1 := fun M h => by cases h; exact ⟨rfl, (it_mem 0 13 rfl rfl), ⟨by decide +kernel, by decide +kernel⟩, by decide +kernel, rfl, fun _ => (it_mem 8 201 rfl rfl), (it_mem 8 199 rfl rfl), (it_mem 8 200 rfl rfl), _, rfl, rfl⟩
theorem it_k343 : ∀ M, it_mt[343]? = some M → it_kP M 1 := fun M h => by cases h; exact ⟨rfl, (it_mem 0 13 rfl rfl), ⟨by decide +kernel, by decide +kernel⟩, by decide +kernel, rfl, fun _ => (it_mem 8 205 rfl rfl), (it_mem 8 203 rfl rfl), (it_mem 8 204 rfl rfl), _, rfl, rfl⟩
theorem it_k344 : ∀ M, it_mt[344]? = some M → it_kP M 1 := fun M h => by cases h; exact ⟨rfl, (it_mem 0 13 rfl rfl), ⟨by decide +kernel, by decide +kernel⟩, by decide +kernel, rfl, fun _ => (it_mem 8 209 rfl rfl), (it_mem 8 207 rfl rfl), (it_mem 8 208 rfl rfl), _, rfl, rfl⟩
theorem it_k345 : ∀ M, it_mt[345]? = some M → it_kP M 1 := fun M h => by cases h; exact ⟨rfl, (it_mem 0 13 rfl rfl), ⟨by decide +kernel, by decide +kernel⟩, by decide +kernel, rfl, fun _ => (it_mem 8 213 rfl rfl), (it_mem 8 211 rfl rfl), (it_mem 8 212 rfl rfl), _, rfl, rfl⟩
theorem it_k346 : ∀ M, it_mt[346]? = some M → it_kP M 1 := fun M h => by cases h; exact ⟨rfl, (it_mem 0 13 rfl rfl), ⟨by decide +kernel, by decide +kernel⟩, by decide +kernel, rfl, fun _ => (it_mem 8 217 rfl rfl), (it_mem 8 215 rfl rfl), (it_mem 8 216 rfl rfl), _, rfl, rfl⟩
theorem it_k347 : ∀ M, it_mt[347]? = some M → it_kP M 1 := fun M h => by cases h; exact ⟨rfl, (it_mem 0 13 rfl rfl), ⟨by decide +kernel, by decide +kernel⟩, by decide +kernel, rfl, fun _ => (it_mem 8 221 rfl rfl), (it_mem 8 219 rfl rfl), (it_mem 8 220 rfl rfl), _, rfl, rfl⟩
theorem it_k348 : ∀ M, it_mt[348]? = some M → it_kP M 1 := fun M h => by cases h; exact ⟨rfl, (it_mem 0 13 rfl rfl), ⟨by decide +kernel, by decide +kernel⟩, by decide +kernel, rfl, fun _ => (it_mem 8 233 rfl rfl), (it_mem 8 232 rfl rfl), (it_mem 21 7 rfl rfl), _, rfl, rfl⟩
theorem it_k349 : ∀ M, it_mt[349]? = some M → it_kP M 1 := fun M h => by cases h; exact ⟨rfl, (it_mem 0 13 rfl rfl), ⟨by decide +kernel, by decide +kernel⟩, by decide +kernel, rfl, fun _ => (it_mem 8 229 rfl rfl), (it_mem 8 228 rfl rfl), (it_mem 21 6 rfl rfl), _, rfl, rfl⟩
theorem it_k350 : ∀ M, it_mt[350]? = some M → it_kP M 1 := fun M h => by cases h; exact ⟨rfl, (it_mem 0 13 rfl rfl), ⟨by decide +kernel, by decide +kernel⟩, by decide +kernel, rfl, fun _ => (it_mem 8 225 rfl rfl), (it_mem 8 223 rfl rfl), (it_mem 8 224 rfl rfl), _, rfl, rfl⟩
theorem it_k351 : ∀ M, it_mt[351]? = some M → it_kP M 1 := fun M h => by cases h; exact ⟨rfl, (it_mem 0 13 rfl rfl), ⟨by decide +kernel, by decide +kernel⟩, by decide +kernel, rfl, fun _ => (it_mem 8 237 rfl rfl), (it_mem 8 235 rfl rfl), (it_mem 8 236 rfl rfl), _, rfl, rfl⟩
theorem it_k352 : ∀ M, it_mt[352]? = some M → it_kP M 1 := fun M h => by cases h; exact ⟨rfl, (it_mem 0 13 rfl rfl), ⟨by decide +kernel, by decide +kernel⟩, by decide +kernel, rfl, fun _ => (it_mem 9 5 rfl rfl), (it_mem 9 4 rfl rfl), (it_mem 21 8 rfl rfl), _, rfl, rfl⟩
theorem it_k353 : ∀ M, it_mt[353]? = some M → it_kP M 1 := fun M h => by cases h; exact ⟨rfl, (it_mem 0 13 rfl rfl), ⟨by decide +kernel, by decide +kernel⟩, by decide +kernel, rfl, fun _ => (it_mem 9 1 rfl rfl), (it_mem 8 239 rfl rfl), (it_mem 9 0 rfl rfl), _, rfl, rfl⟩
theorem it_k354 : ∀ M, it_mt[354]? = some M → it_kP M 1 := fun M h => by cases h; exact ⟨rfl, (it_mem 0 13 rfl rfl), ⟨by decide +kernel, by decide +kernel⟩, by decide +kernel, rfl, fun _ => (it_mem 9 9 rfl rfl), (it_mem 9 7 rfl rfl), (it_mem 9 8 rfl rfl), _, rfl, rfl⟩
theorem it_k355 : ∀ M, it_mt[355]? = some M → it_kP M 1 := fun M h => by cases h; exact ⟨rfl, (it_mem 0 13 rfl rfl), ⟨by decide +kernel, by decide +kernel⟩, by decide +kernel, rfl, fun _ => (it_mem 9 13 rfl rfl), (it_mem 9 11 rfl rfl), (it_mem 9 12 rfl rfl), _, rfl, rfl⟩
theorem it_k356 : ∀ M, it_mt[356]? = some M → it_kP M 1 := fun M h => by cases h; exact ⟨rfl, (it_mem 0 13 rfl rfl), ⟨by decide +kernel, by decide +kernel⟩, by decide +kernel, rfl, fun _ => (it_mem 9 17 rfl rfl), (it_mem 9 15 rfl rfl), (it_mem 9 16 rfl rfl), _, rfl, rfl⟩
theorem it_k357 : ∀ M, it_mt[357]? = some M → it_kP M 1 := fun M h => by cases h; exact ⟨rfl, (it_mem 0 13 rfl rfl), ⟨by decide +kernel, by decide +kernel⟩, by decide +kernel, rfl, fun _ => (it_mem 9 21 rfl rfl), (it_mem 9 19 rfl rfl), (it_mem 9 20 rfl rfl), _, rfl, rfl⟩
theorem it_k358 : ∀ M, it_mt[358]? = some M → it_kP M 1 := fun M h => by cases h; exact ⟨rfl, (it_mem 0 13 rfl rfl), ⟨by decide +kernel, by decide +kernel⟩, by decide +kernel, rfl, fun _ => (it_mem 9 25 rfl rfl), (it_mem 9 23 rfl rfl), (it_mem 9 24 rfl rfl), _, rfl, rfl⟩
theorem it_k359 : ∀ M, it_mt[359]? = some M → it_kP M 1 := fun M h => by cases h; exact ⟨rfl, (it_mem 0 13 rfl rfl), ⟨by decide +kernel, by decide +kernel⟩, by decide +kernel, rfl, fun _ => (it_mem 9 29 rfl rfl), (it_mem 9 27 rfl rfl), (it_mem 9 28 rfl rfl), _, rfl, rfl⟩
theorem it_k360 : ∀ M, it_mt[360]? = some M → it_kP M 0 := fun M h => by cases h; exact ⟨rfl, (it_mem 0 3 rfl rfl), ⟨by decide +kernel, by decide +kernel⟩, by decide +kernel, rfl, fun _ => (it_mem 0 37 rfl rfl), (it_mem 0 36 rfl rfl)⟩
theorem it_k361 : ∀ M, it_mt[361]? = some M → it_kP M 0 := fun M h => by cases h; exact ⟨rfl, (it_mem 0 3 rfl rfl), ⟨by decide +kernel, by decide +kernel⟩, by decide +kernel, rfl, fun _ => (it_mem 2 195 rfl rfl), (it_mem 2 194 rfl rfl)⟩
theorem it_k362 : ∀ M, it_mt[362]? = some M → it_kP M 0 := fun M h => by cases h; exact ⟨rfl, (it_mem 0 3 rfl rfl), ⟨by decide +kernel, by decide +kernel⟩, by decide +kernel, rfl, fun _ => (it_mem 0 34 rfl rfl), (it_mem 0 33 rfl rfl)⟩
theorem it_k363 : ∀ M, it_mt[363]? = some M → it_kP M 3 := fun M h => by cases h; exact ⟨rfl, (it_mem 0 0 rfl rfl), ⟨by decide +kernel, by decide +kernel⟩, by decide +kernel, rfl, fun h => absurd h (by decide), trivial⟩
theorem it_k_ok : ∀ (y : Nat) (M : it_Mt), it_mt[y]? = some M → it_kP M (it_kd.getD y 9) := by
  intro y M h
  by_cases hy : y < 364
  · match y, hy, h with
    | 0, _, h => exact it_k0 M h
    | 1, _, h => exact it_k1 M h
    | 2, _, h => exact it_k2 M h
    | 3, _, h => exact it_k3 M h
    | 4, _, h => exact it_k4 M h
    | 5, _, h => exact it_k5 M h
    | 6, _, h => exact it_k6 M h
    | 7, _, h => exact it_k7 M h
    | 8, _, h => exact it_k8 M h
    | 9, _, h => exact it_k9 M h
    | 10, _, h => exact it_k10 M h
    | 11, _, h => exact it_k11 M h
    | 12, _, h => exact it_k12 M h
    | 13, _, h => exact it_k13 M h
    | 14, _, h => exact it_k14 M h
    | 15, _, h => exact it_k15 M h
    | 16, _, h => exact it_k16 M h
    | 17, _, h => exact it_k17 M h
    | 18, _, h => exact it_k18 M h
    | 19, _, h => exact it_k19 M h
    | 20, _, h => exact it_k20 M h
    | 21, _, h => exact it_k21 M h
    | 22, _, h => exact it_k22 M h
    | 23, _, h => exact it_k23 M h
    | 24, _, h => exact it_k24 M h
    | 25, _, h => exact it_k25 M h
    | 26, _, h => exact it_k26 M h
    | 27, _, h => exact it_k27 M h
    | 28, _, h => exact it_k28 M h
    | 29, _, h => exact it_k29 M h
    | 30, _, h => exact it_k30 M h
    | 31, _, h => exact it_k31 M h
    | 32, _, h => exact it_k32 M h
    | 33, _, h => exact it_k33 M h
    | 34, _, h => exact it_k34 M h
    | 35, _, h => exact it_k35 M h
    | 36, _, h => exact it_k36 M h
    | 37, _, h => exact it_k37 M h
    | 38, _, h => exact it_k38 M h
    | 39, _, h => exact it_k39 M h
    | 40, _, h => exact it_k40 M h
    | 41, _, h => exact it_k41 M h
    | 42, _, h => exact it_k42 M h
    | 43, _, h => exact it_k43 M h
    | 44, _, h => exact it_k44 M h
    | 45, _, h => exact it_k45 M h
    | 46, _, h => exact it_k46 M h
    | 47, _, h => exact it_k47 M h
    | 48, _, h => exact it_k48 M h
    | 49, _, h => exact it_k49 M h
    | 50, _, h => exact it_k50 M h
    | 51, _, h => exact it_k51 M h
    | 52, _, h => exact it_k52 M h
    | 53, _, h => exact it_k53 M h
    | 54, _, h => exact it_k54 M h
    | 55, _, h => exact it_k55 M h
    | 56, _, h => exact it_k56 M h
    | 57, _, h => exact it_k57 M h
    | 58, _, h => exact it_k58 M h
    | 59, _, h => exact it_k59 M h
    | 60, _, h => exact it_k60 M h
    | 61, _, h => exact it_k61 M h
    | 62, _, h => exact it_k62 M h
    | 63, _, h => exact it_k63 M h
    | 64, _, h => exact it_k64 M h
    | 65, _, h => exact it_k65 M h
    | 66, _, h => exact it_k66 M h
    | 67, _, h => exact it_k67 M h
    | 68, _, h => exact it_k68 M h
    | 69, _, h => exact it_k69 M h
    | 70, _, h => exact it_k70 M h
    | 71, _, h => exact it_k71 M h
    | 72, _, h => exact it_k72 M h
    | 73, _, h => exact it_k73 M h
    | 74, _, h => exact it_k74 M h
    | 75, _, h => exact it_k75 M h
    | 76, _, h => exact it_k76 M h
    | 77, _, h => exact it_k77 M h
    | 78, _, h => exact it_k78 M h
    | 79, _, h => exact it_k79 M h
    | 80, _, h => exact it_k80 M h
    | 81, _, h => exact it_k81 M h
    | 82, _, h => exact it_k82 M h
    | 83, _, h => exact it_k83 M h
    | 84, _, h => exact it_k84 M h
    | 85, _, h => exact it_k85 M h
    | 86, _, h => exact it_k86 M h
    | 87, _, h => exact it_k87 M h
    | 88, _, h => exact it_k88 M h
    | 89, _, h => exact it_k89 M h
    | 90, _, h => exact it_k90 M h
    | 91, _, h => exact it_k91 M h
    | 92, _, h => exact it_k92 M h
    | 93, _, h => exact it_k93 M h
    | 94, _, h => exact it_k94 M h
    | 95, _, h => exact it_k95 M h
    | 96, _, h => exact it_k96 M h
    | 97, _, h => exact it_k97 M h
    | 98, _, h => exact it_k98 M h
    | 99, _, h => exact it_k99 M h
    | 100, _, h => exact it_k100 M h
    | 101, _, h => exact it_k101 M h
    | 102, _, h => exact it_k102 M h
    | 103, _, h => exact it_k103 M h
    | 104, _, h => exact it_k104 M h
    | 105, _, h => exact it_k105 M h
    | 106, _, h => exact it_k106 M h
    | 107, _, h => exact it_k107 M h
    | 108, _, h => exact it_k108 M h
    | 109, _, h => exact it_k109 M h
    | 110, _, h => exact it_k110 M h
    | 111, _, h => exact it_k111 M h
    | 112, _, h => exact it_k112 M h
    | 113, _, h => exact it_k113 M h
    | 114, _, h => exact it_k114 M h
    | 115, _, h => exact it_k115 M h
    | 116, _, h => exact it_k116 M h
    | 117, _, h => exact it_k117 M h
    | 118, _, h => exact it_k118 M h
    | 119, _, h => exact it_k119 M h
    | 120, _, h => exact it_k120 M h
    | 121, _, h => exact it_k121 M h
    | 122, _, h => exact it_k122 M h
    | 123, _, h => exact it_k123 M h
    | 124, _, h => exact it_k124 M h
    | 125, _, h => exact it_k125 M h
    | 126, _, h => exact it_k126 M h
    | 127, _, h => exact it_k127 M h
    | 128, _, h => exact it_k128 M h
    | 129, _, h => exact it_k129 M h
    | 130, _, h => exact it_k130 M h
    | 131, _, h => exact it_k131 M h
    | 132, _, h => exact it_k132 M h
    | 133, _, h => exact it_k133 M h
    | 134, _, h => exact it_k134 M h
    | 135, _, h => exact it_k135 M h
    | 136, _, h => exact it_k136 M h
    | 137, _, h => exact it_k137 M h
    | 138, _, h => exact it_k138 M h
    | 139, _, h => exact it_k139 M h
    | 140, _, h => exact it_k140 M h
    | 141, _, h => exact it_k141 M h
    | 142, _, h => exact it_k142 M h
    | 143, _, h => exact it_k143 M h
    | 144, _, h => exact it_k144 M h
    | 145, _, h => exact it_k145 M h
    | 146, _, h => exact it_k146 M h
    | 147, _, h => exact it_k147 M h
    | 148, _, h => exact it_k148 M h
    | 149, _, h => exact it_k149 M h
    | 150, _, h => exact it_k150 M h
    | 151, _, h => exact it_k151 M h
    | 152, _, h => exact it_k152 M h
    | 153, _, h => exact it_k153 M h
    | 154, _, h => exact it_k154 M h
    | 155, _, h => exact it_k155 M h
    | 156, _, h => exact it_k156 M h
    | 157, _, h => exact it_k157 M h
    | 158, _, h => exact it_k158 M h
    | 159, _, h => exact it_k159 M h
    | 160, _, h => exact it_k160 M h
    | 161, _, h => exact it_k161 M h
    | 162, _, h => exact it_k162 M h
    | 163, _, h => exact it_k163 M h
    | 164, _, h => exact it_k164 M h
    | 165, _, h => exact it_k165 M h
    | 166, _, h => exact it_k166 M h
    | 167, _, h => exact it_k167 M h
    | 168, _, h => exact it_k168 M h
    | 169, _, h => exact it_k169 M h
    | 170, _, h => exact it_k170 M h
    | 171, _, h => exact it_k171 M h
    | 172, _, h => exact it_k172 M h
    | 173, _, h => exact it_k173 M h
    | 174, _, h => exact it_k174 M h
    | 175, _, h => exact it_k175 M h
    | 176, _, h => exact it_k176 M h
    | 177, _, h => exact it_k177 M h
    | 178, _, h => exact it_k178 M h
    | 179, _, h => exact it_k179 M h
    | 180, _, h => exact it_k180 M h
    | 181, _, h => exact it_k181 M h
    | 182, _, h => exact it_k182 M h
    | 183, _, h => exact it_k183 M h
    | 184, _, h => exact it_k184 M h
    | 185, _, h => exact it_k185 M h
    | 186, _, h => exact it_k186 M h
    | 187, _, h => exact it_k187 M h
    | 188, _, h => exact it_k188 M h
    | 189, _, h => exact it_k189 M h
    | 190, _, h => exact it_k190 M h
    | 191, _, h => exact it_k191 M h
    | 192, _, h => exact it_k192 M h
    | 193, _, h => exact it_k193 M h
    | 194, _, h => exact it_k194 M h
    | 195, _, h => exact it_k195 M h
    | 196, _, h => exact it_k196 M h
    | 197, _, h => exact it_k197 M h
    | 198, _, h => exact it_k198 M h
    | 199, _, h => exact it_k199 M h
    | 200, _, h => exact it_k200 M h
    | 201, _, h => exact it_k201 M h
    | 202, _, h => exact it_k202 M h
    | 203, _, h => exact it_k203 M h
    | 204, _, h => exact it_k204 M h
    | 205, _, h => exact it_k205 M h
    | 206, _, h => exact it_k206 M h
    | 207, _, h => exact it_k207 M h
    | 208, _, h => exact it_k208 M h
    | 209, _, h => exact it_k209 M h
    | 210, _, h => exact it_k210 M h
    | 211, _, h => exact it_k211 M h
    | 212, _, h => exact it_k212 M h
    | 213, _, h => exact it_k213 M h
    | 214, _, h => exact it_k214 M h
    | 215, _, h => exact it_k215 M h
    | 216, _, h => exact it_k216 M h
    | 217, _, h => exact it_k217 M h
    | 218, _, h => exact it_k218 M h
    | 219, _, h => exact it_k219 M h
    | 220, _, h => exact it_k220 M h
    | 221, _, h => exact it_k221 M h
    | 222, _, h => exact it_k222 M h
    | 223, _, h => exact it_k223 M h
    | 224, _, h => exact it_k224 M h
    | 225, _, h => exact it_k225 M h
    | 226, _, h => exact it_k226 M h
    | 227, _, h => exact it_k227 M h
    | 228, _, h => exact it_k228 M h
    | 229, _, h => exact it_k229 M h
    | 230, _, h => exact it_k230 M h
    | 231, _, h => exact it_k231 M h
    | 232, _, h => exact it_k232 M h
    | 233, _, h => exact it_k233 M h
    | 234, _, h => exact it_k234 M h
    | 235, _, h => exact it_k235 M h
    | 236, _, h => exact it_k236 M h
    | 237, _, h => exact it_k237 M h
    | 238, _, h => exact it_k238 M h
    | 239, _, h => exact it_k239 M h
    | 240, _, h => exact it_k240 M h
    | 241, _, h => exact it_k241 M h
    | 242, _, h => exact it_k242 M h
    | 243, _, h => exact it_k243 M h
    | 244, _, h => exact it_k244 M h
    | 245, _, h => exact it_k245 M h
    | 246, _, h => exact it_k246 M h
    | 247, _, h => exact it_k247 M h
    | 248, _, h => exact it_k248 M h
    | 249, _, h => exact it_k249 M h
    | 250, _, h => exact it_k250 M h
    | 251, _, h => exact it_k251 M h
    | 252, _, h => exact it_k252 M h
    | 253, _, h => exact it_k253 M h
    | 254, _, h => exact it_k254 M h
    | 255, _, h => exact it_k255 M h
    | 256, _, h => exact it_k256 M h
    | 257, _, h => exact it_k257 M h
    | 258, _, h => exact it_k258 M h
    | 259, _, h => exact it_k259 M h
    | 260, _, h => exact it_k260 M h
    | 261, _, h => exact it_k261 M h
    | 262, _, h => exact it_k262 M h
    | 263, _, h => exact it_k263 M h
    | 264, _, h => exact it_k264 M h
    | 265, _, h => exact it_k265 M h
    | 266, _, h => exact it_k266 M h
    | 267, _, h => exact it_k267 M h
    | 268, _, h => exact it_k268 M h
    | 269, _, h => exact it_k269 M h
    | 270, _, h => exact it_k270 M h
    | 271, _, h => exact it_k271 M h
    | 272, _, h => exact it_k272 M h
    | 273, _, h => exact it_k273 M h
    | 274, _, h => exact it_k274 M h
    | 275, _, h => exact it_k275 M h
    | 276, _, h => exact it_k276 M h
    | 277, _, h => exact it_k277 M h
    | 278, _, h => exact it_k278 M h
    | 279, _, h => exact it_k279 M h
    | 280, _, h => exact it_k280 M h
    | 281, _, h => exact it_k281 M h
    | 282, _, h => exact it_k282 M h
    | 283, _, h => exact it_k283 M h
    | 284, _, h => exact it_k284 M h
    | 285, _, h => exact it_k285 M h
    | 286, _, h => exact it_k286 M h
    | 287, _, h => exact it_k287 M h
    | 288, _, h => exact it_k288 M h
    | 289, _, h => exact it_k289 M h
    | 290, _, h => exact it_k290 M h
    | 291, _, h => exact it_k291 M h
    | 292, _, h => exact it_k292 M h
    | 293, _, h => exact it_k293 M h
    | 294, _, h => exact it_k294 M h
    | 295, _, h => exact it_k295 M h
    | 296, _, h => exact it_k296 M h
    | 297, _, h => exact it_k297 M h
    | 298, _, h => exact it_k298 M h
    | 299, _, h => exact it_k299 M h
    | 300, _, h => exact it_k300 M h
    | 301, _, h => exact it_k301 M h
    | 302, _, h => exact it_k302 M h
    | 303, _, h => exact it_k303 M h
    | 304, _, h => exact it_k304 M h
    | 305, _, h => exact it_k305 M h
    | 306, _, h => exact it_k306 M h
    | 307, _, h => exact it_k307 M h
    | 308, _, h => exact it_k308 M h
    | 309, _, h => exact it_k309 M h
    | 310, _, h => exact it_k310 M h
    | 311, _, h => exact it_k311 M h
    | 312, _, h => exact it_k312 M h
    | 313, _, h => exact it_k313 M h
    | 314, _, h => exact it_k314 M h
    | 315, _, h => exact it_k315 M h
    | 316, _, h => exact it_k316 M h
    | 317, _, h => exact it_k317 M h
    | 318, _, h => exact it_k318 M h
    | 319, _, h => exact it_k319 M h
    | 320, _, h => exact it_k320 M h
    | 321, _, h => exact it_k321 M h
    | 322, _, h => exact it_k322 M h
    | 323, _, h => exact it_k323 M h
    | 324, _, h => exact it_k324 M h
    | 325, _, h => exact it_k325 M h
    | 326, _, h => exact it_k326 M h
    | 327, _, h => exact it_k327 M h
    | 328, _, h => exact it_k328 M h
    | 329, _, h => exact it_k329 M h
    | 330, _, h => exact it_k330 M h
    | 331, _, h => exact it_k331 M h
    | 332, _, h => exact it_k332 M h
    | 333, _, h => exact it_k333 M h
    | 334, _, h => exact it_k334 M h
    | 335, _, h => exact it_k335 M h
    | 336, _, h => exact it_k336 M h
    | 337, _, h => exact it_k337 M h
    | 338, _, h => exact it_k338 M h
    | 339, _, h => exact it_k339 M h
    | 340, _, h => exact it_k340 M h
    | 341, _, h => exact it_k341 M h
    | 342, _, h => exact it_k342 M h
    | 343, _, h => exact it_k343 M h
    | 344, _, h => exact it_k344 M h
    | 345, _, h => exact it_k345 M h
    | 346, _, h => exact it_k346 M h
    | 347, _, h => exact it_k347 M h
    | 348, _, h => exact it_k348 M h
    | 349, _, h => exact it_k349 M h
    | 350, _, h => exact it_k350 M h
    | 351, _, h => exact it_k351 M h
    | 352, _, h => exact it_k352 M h
    | 353, _, h => exact it_k353 M h
    | 354, _, h => exact it_k354 M h
    | 355, _, h => exact it_k355 M h
    | 356, _, h => exact it_k356 M h
    | 357, _, h => exact it_k357 M h
    | 358, _, h => exact it_k358 M h
    | 359, _, h => exact it_k359 M h
    | 360, _, h => exact it_k360 M h
    | 361, _, h => exact it_k361 M h
    | 362, _, h => exact it_k362 M h
    | 363, _, h => exact it_k363 M h
    | n + 364, hy, h => exact absurd hy (by omega)
  · have hl : it_mt.length = 364 := by decide +kernel
    rw [List.getElem?_eq_none (by omega)] at h
    cases h
