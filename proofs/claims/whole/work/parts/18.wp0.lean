/-! The cells as they stand behind the constructors, and the rows that the methods' formulas use. Written by wip/whole/gen_wp0.py -/
def it_sh0 : it_Sh := [
  .inl (10, [some (some 1), some (some 4), some (some 7), some (some 9), some (some 54), some (some 58), some (some 59), some (some 64), some (some 65), none, none]),
  .inl (1, [some (some 2), some (some 3)]),
  .inr (.inl (0, 32768)),
  .inr (.inl (0, 256)),
  .inl (3, [none, some (some 5), some (some 6), none, none]),
  .inr (.inl (0, 12)),
  .inr (.inl (0, 800)),
  .inl (8, [some (some 1), some (some 4), none, none, none, some (some 8), none, none]),
  .inr (.inl (0, 128)),
  .inl (4, [some (some 1), some (some 4), some (some 10), some (some 13), some (some 11), some (some 12), none, none, none]),
  .inr (.inr [some 14, some 19, some 24, some 29, some 34, some 39, some 44, some 49]),
  .inr (.inl (0, 16)),
  .inr (.inl (0, 16)),
  .inl (0, [some (some 1), none, none, none, none, none, none, none, none, none, none, none, none, none, none]),
  .inl (6, [none, some (some 15), some (some 16), none, none, none, none, none, none, none, none, none, none, some (some 17), none, none, none, some (some 18), none]),
  .inl (0, [some (some 1), none, none, none, none, none, none, none, none, none, none, none, none, none, none]),
  .inr (.inl (0, 32)),
  .inr (.inl (0, 50)),
  .inr (.inl (0, 9)),
  .inl (6, [none, some (some 20), some (some 21), none, none, none, none, none, none, none, none, none, none, some (some 22), none, none, none, some (some 23), none]),
  .inl (0, [some (some 1), none, none, none, none, none, none, none, none, none, none, none, none, none, none]),
  .inr (.inl (0, 32)),
  .inr (.inl (0, 50)),
  .inr (.inl (0, 9)),
  .inl (6, [none, some (some 25), some (some 26), none, none, none, none, none, none, none, none, none, none, some (some 27), none, none, none, some (some 28), none]),
  .inl (0, [some (some 1), none, none, none, none, none, none, none, none, none, none, none, none, none, none]),
  .inr (.inl (0, 32)),
  .inr (.inl (0, 50)),
  .inr (.inl (0, 9)),
  .inl (6, [none, some (some 30), some (some 31), none, none, none, none, none, none, none, none, none, none, some (some 32), none, none, none, some (some 33), none]),
  .inl (0, [some (some 1), none, none, none, none, none, none, none, none, none, none, none, none, none, none]),
  .inr (.inl (0, 32)),
  .inr (.inl (0, 50)),
  .inr (.inl (0, 9)),
  .inl (6, [none, some (some 35), some (some 36), none, none, none, none, none, none, none, none, none, none, some (some 37), none, none, none, some (some 38), none]),
  .inl (0, [some (some 1), none, none, none, none, none, none, none, none, none, none, none, none, none, none]),
  .inr (.inl (0, 32)),
  .inr (.inl (0, 50)),
  .inr (.inl (0, 9)),
  .inl (6, [none, some (some 40), some (some 41), none, none, none, none, none, none, none, none, none, none, some (some 42), none, none, none, some (some 43), none]),
  .inl (0, [some (some 1), none, none, none, none, none, none, none, none, none, none, none, none, none, none]),
  .inr (.inl (0, 32)),
  .inr (.inl (0, 50)),
  .inr (.inl (0, 9)),
  .inl (6, [none, some (some 45), some (some 46), none, none, none, none, none, none, none, none, none, none, some (some 47), none, none, none, some (some 48), none]),
  .inl (0, [some (some 1), none, none, none, none, none, none, none, none, none, none, none, none, none, none]),
  .inr (.inl (0, 32)),
  .inr (.inl (0, 50)),
  .inr (.inl (0, 9)),
  .inl (6, [none, some (some 50), some (some 51), none, none, none, none, none, none, none, none, none, none, some (some 52), none, none, none, some (some 53), none]),
  .inl (0, [some (some 1), none, none, none, none, none, none, none, none, none, none, none, none, none, none]),
  .inr (.inl (0, 32)),
  .inr (.inl (0, 50)),
  .inr (.inl (0, 9)),
  .inl (7, [some (some 9), some (some 4), none, none, none, none, some (some 55), some (some 56), some (some 57), none]),
  .inr (.inl (0, 8)),
  .inr (.inl (0, 8)),
  .inr (.inl (0, 8)),
  .inl (5, [some (some 1), none, none]),
  .inl (2, [some (some 1), some (some 4), some (some 9), some (some 7), none, none, some (some 60), none, some (some 61), none, some (some 62), some (some 63), none]),
  .inr (.inl (0, 2)),
  .inr (.inl (1, 4000)),
  .inr (.inl (0, 8)),
  .inr (.inl (0, 8)),
  .inl (9, [some (some 1), some (some 4), some (some 9)]),
  .inr (.inl (1, 8192)),
  .inl (11, [some (some 67), some (some 68), none, none, none, none, none, none, none, none, none, some (some 69), some (some 70), some (some 71), some (some 72), some (some 73), some (some 74), none, none, none, none, none, none, none, none, none, none, none, none, some (some 75), some (some 76), some (some 77), some (some 78), none, none, some (some 79), some (some 80), some (some 81), some (some 82), some (some 83), some (some 84), some (some 85), some (some 86), some (some 87), some (some 88), some (some 89), some (some 90), some (some 91), some (some 92), some (some 93), some (some 94), some (some 95), some (some 96), some (some 97), some (some 98), some (some 99), some (some 100), some (some 101), some (some 102), some (some 103), some (some 104), some (some 105), some (some 106), some (some 107), some (some 108), some (some 109), some (some 110), some (some 111), some (some 112), none, none, none]),
  .inr (.inl (1, 196608)),
  .inr (.inl (1, 8192)),
  .inr (.inl (0, 12)),
  .inr (.inl (1, 4000)),
  .inr (.inl (2, 4)),
  .inr (.inl (2, 4)),
  .inr (.inl (0, 2)),
  .inr (.inl (0, 800)),
  .inr (.inl (0, 2048)),
  .inr (.inl (0, 2048)),
  .inr (.inl (0, 2048)),
  .inr (.inl (0, 2048)),
  .inr (.inl (0, 8)),
  .inr (.inl (0, 8)),
  .inr (.inl (0, 8)),
  .inr (.inl (0, 8)),
  .inr (.inl (0, 8)),
  .inr (.inl (0, 8)),
  .inr (.inl (0, 8)),
  .inr (.inl (0, 8)),
  .inr (.inl (0, 8)),
  .inr (.inl (0, 8)),
  .inr (.inl (0, 8)),
  .inr (.inl (0, 8)),
  .inr (.inl (0, 8)),
  .inr (.inl (0, 8)),
  .inr (.inl (0, 256)),
  .inr (.inl (0, 8)),
  .inr (.inl (0, 8)),
  .inr (.inl (2, 8)),
  .inr (.inl (0, 8)),
  .inr (.inl (0, 8)),
  .inr (.inl (0, 8)),
  .inr (.inl (0, 8)),
  .inr (.inl (0, 8)),
  .inr (.inl (0, 8)),
  .inr (.inl (0, 8)),
  .inr (.inl (0, 8)),
  .inr (.inl (0, 8)),
  .inr (.inl (0, 8)),
  .inr (.inl (0, 8)),
  .inr (.inl (0, 8)),
  .inr (.inl (0, 400)),
  .inr (.inl (0, 8)),
  .inr (.inl (0, 8)),
  .inr (.inl (0, 8))]
def it_shP (k : Nat) : List (Option (Option Nat)) := [none, some (some (k + 1)), some (some (k + 2)), none, none, none, none, none, none, none, none, none, none, some (some (k + 3)), none, none, none, some (some (k + 4)), none]
def it_shH : List (Option (Option Nat)) := [some (some 1), none, none, none, none, none, none, none, none, none, none, none, none, none, none]
def it_isR (k n : Nat) : Prop := it_sh0[k]? = some (.inr (.inl (0, n))) ∧ k < it_K
def it_isH (k : Nat) : Prop := it_sh0[k]? = some (.inl (0, it_shH))
def it_isP (k : Nat) : Prop := it_sh0[k]? = some (.inl (6, it_shP k)) ∧ it_isH (k + 1) ∧ it_isR (k + 2) 32 ∧ it_isR (k + 3) 50 ∧ it_isR (k + 4) 9
theorem it_h13 : it_isH 13 := rfl
theorem it_isP_lt : ∀ j, j < 8 → it_isP (14 + 5 * j) := by
  intro j hj
  match j, hj with
  | 0, _ => exact ⟨rfl, rfl, ⟨rfl, by decide⟩, ⟨rfl, by decide⟩, ⟨rfl, by decide⟩⟩
  | 1, _ => exact ⟨rfl, rfl, ⟨rfl, by decide⟩, ⟨rfl, by decide⟩, ⟨rfl, by decide⟩⟩
  | 2, _ => exact ⟨rfl, rfl, ⟨rfl, by decide⟩, ⟨rfl, by decide⟩, ⟨rfl, by decide⟩⟩
  | 3, _ => exact ⟨rfl, rfl, ⟨rfl, by decide⟩, ⟨rfl, by decide⟩, ⟨rfl, by decide⟩⟩
  | 4, _ => exact ⟨rfl, rfl, ⟨rfl, by decide⟩, ⟨rfl, by decide⟩, ⟨rfl, by decide⟩⟩
  | 5, _ => exact ⟨rfl, rfl, ⟨rfl, by decide⟩, ⟨rfl, by decide⟩, ⟨rfl, by decide⟩⟩
  | 6, _ => exact ⟨rfl, rfl, ⟨rfl, by decide⟩, ⟨rfl, by decide⟩, ⟨rfl, by decide⟩⟩
  | 7, _ => exact ⟨rfl, rfl, ⟨rfl, by decide⟩, ⟨rfl, by decide⟩, ⟨rfl, by decide⟩⟩
  | j + 8, h => exact absurd h (by omega)
theorem it_in_lt {i : Int32} {n : Nat} (h : vp_in i n) : i.toNatClampNeg < n := Nat.not_le.mp fun q => h (Or.inr q)
theorem it_isP_of {i : Int32} (h : vp_in i 8) : it_isP (14 + 5 * Int32.toNatClampNeg i) := it_isP_lt _ (it_in_lt h)
theorem it_recvP {k ci i : Nat} {fs : List (Option (Option Nat))} {vs : List Value} (h : it_sh0[k]? = some (.inl (ci, fs))) : it_recv it_sh0 ci (.invokevirtual i) (.ref k :: vs) = true := by
  simp only [it_recv, h, beq_self_eq_true]
def it_Pr (Φ : Option Nat → it_Me → Prop) : Option Value → it_Me → Prop := fun r m => ∃ o, r = some (va_rf o) ∧ (∀ q, o = some q → it_isP q) ∧ Φ o m
def it_gv (mem : it_Me) (k b : Nat) : Option (Option Nat) → Value
  | none => .int (mem k b)
  | some none => .null
  | some (some r) => .ref r
section ITW
variable {kc : it_Kc} {sh : it_Sh} {y pc : Nat} {ls : it_Ls} {st : List Value} {mem : it_Me} {Ψ : Option Value → it_Me → Prop} {c : List (List (Option it_En))} {M : it_Mt} {a b : Nat}
theorem it_V.at {pc1 : Nat} {ls1 : it_Ls} {st1 : List Value} {mem1 : it_Me} (h1 : pc = pc1) (h2 : ls = ls1) (h3 : st = st1) (h4 : mem = mem1) (v : it_V kc sh y pc1 ls1 st1 mem1 Ψ) : it_V kc sh y pc ls st mem Ψ := by
  subst h1 h2 h3 h4
  exact v
theorem it_V.getP (hc : it_cds[y]? = some c) (hM : it_mt[y]? = some M) {i : Nat} (hl : it_lk c pc = some (3, .getfield i, a, b)) {k : Nat} {fs : List (Option (Option Nat))} (hsh : sh[k]? = some (.inl (a, fs))) {f : Option (Option Nat)} (hf : fs[b]? = some f) (v : it_V kc sh y (pc + 3) ls (it_gv mem k b f :: st) mem Ψ) : it_V kc sh y pc ls (.ref k :: st) mem Ψ := by
  refine it_V.s1 hc hM ?_ v
  simp only [it_s1, hl, it_rd, hsh, if_true, hf]
  rcases f with _ | _ | r <;> rfl
theorem it_V.putP (hc : it_cds[y]? = some c) (hM : it_mt[y]? = some M) {i : Nat} (hl : it_lk c pc = some (4, .putfield i, a, b)) {k : Nat} {fs : List (Option (Option Nat))} {x : Int32} (hsh : sh[k]? = some (.inl (a, fs))) (hf : fs[b]? = some none) (h1 : it_flag it_ff a b = false) (h2 : it_fkd a b = some none) (hz : it_flag it_fz a b = false ∨ (x = 0 ∨ x = 1)) (v : it_V kc sh y (pc + 3) ls st (it_sv mem k b x) Ψ) : it_V kc sh y pc ls (.int x :: .ref k :: st) mem Ψ := by
  refine it_V.s1 hc hM ?_ v
  simp only [it_s1, hl, it_wm, hsh]
  rw [if_pos ⟨trivial, h1, hf, h2, hz⟩]
  rfl
theorem it_V.aald (hc : it_cds[y]? = some c) (hM : it_mt[y]? = some M) (hl : it_lk c pc = some (3, .aaload, a, b)) {i : Int32} (hi : vp_in i 8) (v : it_V kc it_sh0 y (pc + 1) ls (.ref (14 + 5 * Int32.toNatClampNeg i) :: st) mem Ψ) : it_V kc it_sh0 y pc ls (.int i :: .ref 10 :: st) mem Ψ := by
  refine it_V.s1 hc hM ?_ v
  have hl8 := it_in_lt hi
  have hsh : it_sh0[10]? = some (.inr (.inr [some 14, some 19, some 24, some 29, some 34, some 39, some 44, some 49])) := rfl
  simp only [it_s1, hl, it_rd, hsh]
  have hi' : ¬ (i < 0 ∨ ([some 14, some 19, some 24, some 29, some 34, some 39, some 44, some 49] : List (Option Nat)).length ≤ i.toNatClampNeg) := hi
  rw [if_pos hi']
  generalize Int32.toNatClampNeg i = j at hl8
  match j, hl8 with
  | 0, _ => rfl
  | 1, _ => rfl
  | 2, _ => rfl
  | 3, _ => rfl
  | 4, _ => rfl
  | 5, _ => rfl
  | 6, _ => rfl
  | 7, _ => rfl
  | j + 8, h => exact absurd h (by omega)
theorem it_V.len (hc : it_cds[y]? = some c) (hM : it_mt[y]? = some M) (hl : it_lk c pc = some (3, .arraylength, a, b)) {k n : Nat} (hk : it_isR k n) (v : it_V kc it_sh0 y (pc + 1) ls (.int (Int32.ofNat n) :: st) mem Ψ) : it_V kc it_sh0 y pc ls (.ref k :: st) mem Ψ := by
  refine it_V.s1 hc hM ?_ v
  simp only [it_s1, hl, it_rd, if_pos hk.2, hk.1]
  rfl
theorem it_V.cpy (hc : it_cds[y]? = some c) (hM : it_mt[y]? = some M) {i : Nat} (hl : it_lk c pc = some (4, .invokestatic i, a, b)) {k n0 : Nat} {sp dp n : Int32} (hsh : sh[k]? = some (.inr (.inl (0, n0)))) (h9 : a = 9999) (hfr : 1 ≤ M.2.2.2.1) (hlo : (st.map fun v => v.category).sum + (nativeFrameWords "java/lang/System" "arraycopy" 5 + 11) ≤ M.2.2.2.2) (g : ¬ sp < 0 ∧ ¬ dp < 0 ∧ ¬ n < 0 ∧ Int32.toNatClampNeg sp + Int32.toNatClampNeg n ≤ n0 ∧ Int32.toNatClampNeg dp + Int32.toNatClampNeg n ≤ n0) (v : it_V kc sh y (pc + 3) ls st (it_up mem k (va_cpy (mem k) (mem k) (Int32.toNatClampNeg sp) (Int32.toNatClampNeg dp) (Int32.toNatClampNeg n))) Ψ) : it_V kc sh y pc ls (.int n :: .int dp :: .ref k :: .int sp :: .ref k :: st) mem Ψ := by
  refine it_V.s1 hc hM ?_ v
  simp only [it_s1, hl, it_wm, hsh]
  rw [if_pos ⟨h9, trivial, trivial, hfr, hlo, g.1, g.2.1, g.2.2.1, g.2.2.2.1, g.2.2.2.2⟩]
  rfl
theorem it_V.retZ (hc : it_cds[y]? = some c) (hM : it_mt[y]? = some M) (hl : it_lk c pc = some (6, .ireturn, a, b)) (hr : M.2.1.2.2 = some .boolean) {v : Int32} (hv : v = 0 ∨ v = 1) (h : Ψ (some (.int v)) mem) : it_V kc sh y pc ls [.int v] mem Ψ := by
  refine it_V.ret hc hM hl ?_ h
  simp only [it_rt, hr, if_pos hv]
end ITW
def it_M0 : it_Mt := ((0, ⟨"GrantBoard$AppHead", "<init>", "(LGrantBoard$Cells;)V"⟩), (prog_2_method_1_code, 2, none), 1, 1, 20)
set_option maxRecDepth 100000 in
theorem it_m0 : it_mt[0]? = some it_M0 := rfl
set_option maxRecDepth 100000 in
theorem it_cd0 : it_cds[0]? = some it_c0 := rfl
def it_M1 : it_Mt := ((0, ⟨"GrantBoard$AppHead", "readFrame", "(I)Z"⟩), (prog_2_method_2_code, 4, (some Jvm.ClassFile.FieldType.boolean)), 1, 1, 21)
set_option maxRecDepth 100000 in
theorem it_m1 : it_mt[1]? = some it_M1 := rfl
set_option maxRecDepth 100000 in
theorem it_cd1 : it_cds[1]? = some it_c1 := rfl
def it_M2 : it_Mt := ((0, ⟨"GrantBoard$AppHead", "readRest", "()Z"⟩), (prog_2_method_3_code, 4, (some Jvm.ClassFile.FieldType.boolean)), 0, 2, 47)
set_option maxRecDepth 100000 in
theorem it_m2 : it_mt[2]? = some it_M2 := rfl
set_option maxRecDepth 100000 in
theorem it_cd2 : it_cds[2]? = some it_c2 := rfl
def it_M3 : it_Mt := ((0, ⟨"GrantBoard$AppHead", "readElements", "()Z"⟩), (prog_2_method_4_code, 5, (some Jvm.ClassFile.FieldType.boolean)), 0, 1, 23)
set_option maxRecDepth 100000 in
theorem it_m3 : it_mt[3]? = some it_M3 := rfl
set_option maxRecDepth 100000 in
theorem it_cd3 : it_cds[3]? = some it_c3 := rfl
def it_M4 : it_Mt := ((0, ⟨"GrantBoard$AppHead", "takeElement", "(III)V"⟩), (prog_2_method_5_code, 4, none), 3, 0, 0)
set_option maxRecDepth 100000 in
theorem it_m4 : it_mt[4]? = some it_M4 := rfl
set_option maxRecDepth 100000 in
theorem it_cd4 : it_cds[4]? = some it_c4 := rfl
def it_M5 : it_Mt := ((0, ⟨"GrantBoard$AppHead", "hasCredentials", "()Z"⟩), (prog_2_method_6_code, 3, (some Jvm.ClassFile.FieldType.boolean)), 0, 2, 45)
set_option maxRecDepth 100000 in
theorem it_m5 : it_mt[5]? = some it_M5 := rfl
set_option maxRecDepth 100000 in
theorem it_cd5 : it_cds[5]? = some it_c5 := rfl
def it_M6 : it_Mt := ((0, ⟨"GrantBoard$AppHead", "mayLoad", "(Z)Z"⟩), (prog_2_method_7_code, 2, (some Jvm.ClassFile.FieldType.boolean)), 1, 3, 67)
set_option maxRecDepth 100000 in
theorem it_m6 : it_mt[6]? = some it_M6 := rfl
set_option maxRecDepth 100000 in
theorem it_cd6 : it_cds[6]? = some it_c6 := rfl
def it_M7 : it_Mt := ((0, ⟨"GrantBoard$AppHead", "hasName", "(II)Z"⟩), (prog_2_method_8_code, 3, (some Jvm.ClassFile.FieldType.boolean)), 2, 2, 45)
set_option maxRecDepth 100000 in
theorem it_m7 : it_mt[7]? = some it_M7 := rfl
set_option maxRecDepth 100000 in
theorem it_cd7 : it_cds[7]? = some it_c7 := rfl
def it_M8 : it_Mt := ((0, ⟨"GrantBoard$AppHead", "goesBefore", "(LGrantBoard$AppHead;)Z"⟩), (prog_2_method_9_code, 2, (some Jvm.ClassFile.FieldType.boolean)), 1, 1, 21)
set_option maxRecDepth 100000 in
theorem it_m8 : it_mt[8]? = some it_M8 := rfl
set_option maxRecDepth 100000 in
theorem it_cd8 : it_cds[8]? = some it_c8 := rfl
def it_M9 : it_Mt := ((0, ⟨"GrantBoard$AppHead", "permits", "(II)Z"⟩), (prog_2_method_10_code, 5, (some Jvm.ClassFile.FieldType.boolean)), 2, 1, 21)
set_option maxRecDepth 100000 in
theorem it_m9 : it_mt[9]? = some it_M9 := rfl
set_option maxRecDepth 100000 in
theorem it_cd9 : it_cds[9]? = some it_c9 := rfl
def it_M10 : it_Mt := ((0, ⟨"GrantBoard$AppHead", "blockSize", "()I"⟩), (prog_2_method_11_code, 3, (some Jvm.ClassFile.FieldType.int)), 0, 0, 0)
set_option maxRecDepth 100000 in
theorem it_m10 : it_mt[10]? = some it_M10 := rfl
set_option maxRecDepth 100000 in
theorem it_cd10 : it_cds[10]? = some it_c10 := rfl
def it_M11 : it_Mt := ((1, ⟨"GrantBoard$Cells", "<init>", "()V"⟩), (prog_3_method_1_code, 4, none), 0, 2, 46)
set_option maxRecDepth 100000 in
theorem it_m11 : it_mt[11]? = some it_M11 := rfl
set_option maxRecDepth 100000 in
theorem it_cd11 : it_cds[11]? = some it_c11 := rfl
def it_M12 : it_Mt := ((1, ⟨"GrantBoard$Cells", "getWord", "(I)I"⟩), (prog_3_method_2_code, 2, (some Jvm.ClassFile.FieldType.int)), 1, 0, 0)
set_option maxRecDepth 100000 in
theorem it_m12 : it_mt[12]? = some it_M12 := rfl
set_option maxRecDepth 100000 in
theorem it_cd12 : it_cds[12]? = some it_c12 := rfl
def it_M13 : it_Mt := ((1, ⟨"GrantBoard$Cells", "setWord", "(II)V"⟩), (prog_3_method_3_code, 3, none), 2, 0, 0)
set_option maxRecDepth 100000 in
theorem it_m13 : it_mt[13]? = some it_M13 := rfl
set_option maxRecDepth 100000 in
theorem it_cd13 : it_cds[13]? = some it_c13 := rfl
def it_M14 : it_Mt := ((1, ⟨"GrantBoard$Cells", "getHalf", "(I)I"⟩), (prog_3_method_4_code, 2, (some Jvm.ClassFile.FieldType.int)), 1, 0, 0)
set_option maxRecDepth 100000 in
theorem it_m14 : it_mt[14]? = some it_M14 := rfl
set_option maxRecDepth 100000 in
theorem it_cd14 : it_cds[14]? = some it_c14 := rfl
def it_M15 : it_Mt := ((1, ⟨"GrantBoard$Cells", "setHalf", "(II)V"⟩), (prog_3_method_5_code, 5, none), 2, 0, 0)
set_option maxRecDepth 100000 in
theorem it_m15 : it_mt[15]? = some it_M15 := rfl
set_option maxRecDepth 100000 in
theorem it_cd15 : it_cds[15]? = some it_c15 := rfl
def it_M16 : it_Mt := ((1, ⟨"GrantBoard$Cells", "getByte", "(I)I"⟩), (prog_3_method_6_code, 2, (some Jvm.ClassFile.FieldType.int)), 1, 0, 0)
set_option maxRecDepth 100000 in
theorem it_m16 : it_mt[16]? = some it_M16 := rfl
set_option maxRecDepth 100000 in
theorem it_cd16 : it_cds[16]? = some it_c16 := rfl
def it_M17 : it_Mt := ((1, ⟨"GrantBoard$Cells", "setByte", "(II)V"⟩), (prog_3_method_7_code, 5, none), 2, 0, 0)
set_option maxRecDepth 100000 in
theorem it_m17 : it_mt[17]? = some it_M17 := rfl
set_option maxRecDepth 100000 in
theorem it_cd17 : it_cds[17]? = some it_c17 := rfl
def it_M18 : it_Mt := ((1, ⟨"GrantBoard$Cells", "fill", "(III)V"⟩), (prog_3_method_8_code, 5, none), 3, 2, 46)
set_option maxRecDepth 100000 in
theorem it_m18 : it_mt[18]? = some it_M18 := rfl
set_option maxRecDepth 100000 in
theorem it_cd18 : it_cds[18]? = some it_c18 := rfl
def it_M19 : it_Mt := ((1, ⟨"GrantBoard$Cells", "copy", "(III)V"⟩), (prog_3_method_9_code, 5, none), 3, 1, 24)
set_option maxRecDepth 100000 in
theorem it_m19 : it_mt[19]? = some it_M19 := rfl
set_option maxRecDepth 100000 in
theorem it_cd19 : it_cds[19]? = some it_c19 := rfl
def it_M20 : it_Mt := ((1, ⟨"GrantBoard$Cells", "sameBytes", "(III)Z"⟩), (prog_3_method_10_code, 5, (some Jvm.ClassFile.FieldType.boolean)), 3, 1, 21)
set_option maxRecDepth 100000 in
theorem it_m20 : it_mt[20]? = some it_M20 := rfl
set_option maxRecDepth 100000 in
theorem it_cd20 : it_cds[20]? = some it_c20 := rfl
def it_M21 : it_Mt := ((1, ⟨"GrantBoard$Cells", "crc", "(II)I"⟩), (prog_3_method_11_code, 5, (some Jvm.ClassFile.FieldType.int)), 2, 1, 21)
set_option maxRecDepth 100000 in
theorem it_m21 : it_mt[21]? = some it_M21 := rfl
set_option maxRecDepth 100000 in
theorem it_cd21 : it_cds[21]? = some it_c21 := rfl
def it_M22 : it_Mt := ((12, ⟨"GrantBoard$Compressed", "expand", "(I)I"⟩), (prog_4_method_2_code, 1, (some Jvm.ClassFile.FieldType.int)), 1, 3, 70)
set_option maxRecDepth 100000 in
theorem it_m22 : it_mt[22]? = some it_M22 := rfl
set_option maxRecDepth 100000 in
theorem it_cd22 : it_cds[22]? = some it_c22 := rfl
def it_M23 : it_Mt := ((12, ⟨"GrantBoard$Compressed", "bits", "(IIII)I"⟩), (prog_4_method_3_code, 4, (some Jvm.ClassFile.FieldType.int)), 4, 0, 0)
set_option maxRecDepth 100000 in
theorem it_m23 : it_mt[23]? = some it_M23 := rfl
set_option maxRecDepth 100000 in
theorem it_cd23 : it_cds[23]? = some it_c23 := rfl
def it_M24 : it_Mt := ((12, ⟨"GrantBoard$Compressed", "narrow", "(II)I"⟩), (prog_4_method_4_code, 2, (some Jvm.ClassFile.FieldType.int)), 2, 0, 0)
set_option maxRecDepth 100000 in
theorem it_m24 : it_mt[24]? = some it_M24 := rfl
set_option maxRecDepth 100000 in
theorem it_cd24 : it_cds[24]? = some it_c24 := rfl
def it_M25 : it_Mt := ((12, ⟨"GrantBoard$Compressed", "immediate", "(IIIII)I"⟩), (prog_4_method_5_code, 5, (some Jvm.ClassFile.FieldType.int)), 5, 0, 0)
set_option maxRecDepth 100000 in
theorem it_m25 : it_mt[25]? = some it_M25 := rfl
set_option maxRecDepth 100000 in
theorem it_cd25 : it_cds[25]? = some it_c25 := rfl
def it_M26 : it_Mt := ((12, ⟨"GrantBoard$Compressed", "registers", "(IIIII)I"⟩), (prog_4_method_6_code, 5, (some Jvm.ClassFile.FieldType.int)), 5, 0, 0)
set_option maxRecDepth 100000 in
theorem it_m26 : it_mt[26]? = some it_M26 := rfl
set_option maxRecDepth 100000 in
theorem it_cd26 : it_cds[26]? = some it_c26 := rfl
def it_M27 : it_Mt := ((12, ⟨"GrantBoard$Compressed", "saveWord", "(III)I"⟩), (prog_4_method_7_code, 3, (some Jvm.ClassFile.FieldType.int)), 3, 0, 0)
set_option maxRecDepth 100000 in
theorem it_m27 : it_mt[27]? = some it_M27 := rfl
set_option maxRecDepth 100000 in
theorem it_cd27 : it_cds[27]? = some it_c27 := rfl
def it_M28 : it_Mt := ((12, ⟨"GrantBoard$Compressed", "expandFirst", "(I)I"⟩), (prog_4_method_8_code, 3, (some Jvm.ClassFile.FieldType.int)), 1, 1, 24)
set_option maxRecDepth 100000 in
theorem it_m28 : it_mt[28]? = some it_M28 := rfl
set_option maxRecDepth 100000 in
theorem it_cd28 : it_cds[28]? = some it_c28 := rfl
def it_M29 : it_Mt := ((12, ⟨"GrantBoard$Compressed", "expandSecond", "(I)I"⟩), (prog_4_method_9_code, 3, (some Jvm.ClassFile.FieldType.int)), 1, 2, 48)
set_option maxRecDepth 100000 in
theorem it_m29 : it_mt[29]? = some it_M29 := rfl
set_option maxRecDepth 100000 in
theorem it_cd29 : it_cds[29]? = some it_c29 := rfl
def it_M30 : it_Mt := ((12, ⟨"GrantBoard$Compressed", "moveStack", "(I)I"⟩), (prog_4_method_10_code, 2, (some Jvm.ClassFile.FieldType.int)), 1, 1, 24)
set_option maxRecDepth 100000 in
theorem it_m30 : it_mt[30]? = some it_M30 := rfl
set_option maxRecDepth 100000 in
theorem it_cd30 : it_cds[30]? = some it_c30 := rfl
def it_M31 : it_Mt := ((12, ⟨"GrantBoard$Compressed", "jump", "(II)I"⟩), (prog_4_method_11_code, 3, (some Jvm.ClassFile.FieldType.int)), 2, 1, 23)
set_option maxRecDepth 100000 in
theorem it_m31 : it_mt[31]? = some it_M31 := rfl
set_option maxRecDepth 100000 in
theorem it_cd31 : it_cds[31]? = some it_c31 := rfl
def it_M32 : it_Mt := ((12, ⟨"GrantBoard$Compressed", "branch", "(II)I"⟩), (prog_4_method_12_code, 3, (some Jvm.ClassFile.FieldType.int)), 2, 1, 23)
set_option maxRecDepth 100000 in
theorem it_m32 : it_mt[32]? = some it_M32 := rfl
set_option maxRecDepth 100000 in
theorem it_cd32 : it_cds[32]? = some it_c32 := rfl
def it_M33 : it_Mt := ((12, ⟨"GrantBoard$Compressed", "calculate", "(II)I"⟩), (prog_4_method_13_code, 5, (some Jvm.ClassFile.FieldType.int)), 2, 1, 24)
set_option maxRecDepth 100000 in
theorem it_m33 : it_mt[33]? = some it_M33 := rfl
set_option maxRecDepth 100000 in
theorem it_cd33 : it_cds[33]? = some it_c33 := rfl
def it_M34 : it_Mt := ((12, ⟨"GrantBoard$Compressed", "expandThird", "(I)I"⟩), (prog_4_method_14_code, 5, (some Jvm.ClassFile.FieldType.int)), 1, 1, 24)
set_option maxRecDepth 100000 in
theorem it_m34 : it_mt[34]? = some it_M34 := rfl
set_option maxRecDepth 100000 in
theorem it_cd34 : it_cds[34]? = some it_c34 := rfl
def it_M35 : it_Mt := ((2, ⟨"GrantBoard$Drivers", "<init>", "(LGrantBoard$Cells;LGrantBoard$Journal;LGrantBoard$Kernel;LGrantBoard$Store;)V"⟩), (prog_5_method_1_code, 5, none), 4, 1, 20)
set_option maxRecDepth 100000 in
theorem it_m35 : it_mt[35]? = some it_M35 := rfl
set_option maxRecDepth 100000 in
theorem it_cd35 : it_cds[35]? = some it_c35 := rfl
def it_M36 : it_Mt := ((2, ⟨"GrantBoard$Drivers", "wake", "(I)V"⟩), (prog_5_method_2_code, 2, none), 1, 0, 0)
set_option maxRecDepth 100000 in
theorem it_m36 : it_mt[36]? = some it_M36 := rfl
set_option maxRecDepth 100000 in
theorem it_cd36 : it_cds[36]? = some it_c36 := rfl
def it_M37 : it_Mt := ((2, ⟨"GrantBoard$Drivers", "obey", "(LGrantBoard$Process;I)V"⟩), (prog_5_method_3_code, 6, none), 2, 6, 152)
set_option maxRecDepth 100000 in
theorem it_m37 : it_mt[37]? = some it_M37 := rfl
set_option maxRecDepth 100000 in
theorem it_cd37 : it_cds[37]? = some it_c37 := rfl
def it_M38 : it_Mt := ((2, ⟨"GrantBoard$Drivers", "tellOut", "(I)I"⟩), (prog_5_method_4_code, 2, (some Jvm.ClassFile.FieldType.int)), 1, 0, 0)
set_option maxRecDepth 100000 in
theorem it_m38 : it_mt[38]? = some it_M38 := rfl
set_option maxRecDepth 100000 in
theorem it_cd38 : it_cds[38]? = some it_c38 := rfl
def it_M39 : it_Mt := ((2, ⟨"GrantBoard$Drivers", "tick", "()V"⟩), (prog_5_method_5_code, 1, none), 0, 5, 123)
set_option maxRecDepth 100000 in
theorem it_m39 : it_mt[39]? = some it_M39 := rfl
set_option maxRecDepth 100000 in
theorem it_cd39 : it_cds[39]? = some it_c39 := rfl
def it_M40 : it_Mt := ((2, ⟨"GrantBoard$Drivers", "tickAlarm", "()V"⟩), (prog_5_method_6_code, 3, none), 0, 4, 101)
set_option maxRecDepth 100000 in
theorem it_m40 : it_mt[40]? = some it_M40 := rfl
set_option maxRecDepth 100000 in
theorem it_cd40 : it_cds[40]? = some it_c40 := rfl
def it_M41 : it_Mt := ((2, ⟨"GrantBoard$Drivers", "ringIfDue", "(LGrantBoard$Process;I)V"⟩), (prog_5_method_7_code, 5, none), 2, 3, 77)
set_option maxRecDepth 100000 in
theorem it_m41 : it_mt[41]? = some it_M41 := rfl
set_option maxRecDepth 100000 in
theorem it_cd41 : it_cds[41]? = some it_c41 := rfl
def it_M42 : it_Mt := ((2, ⟨"GrantBoard$Drivers", "commandAlarm", "(LGrantBoard$Process;III)V"⟩), (prog_5_method_8_code, 6, none), 4, 2, 46)
set_option maxRecDepth 100000 in
theorem it_m42 : it_mt[42]? = some it_M42 := rfl
set_option maxRecDepth 100000 in
theorem it_cd42 : it_cds[42]? = some it_c42 := rfl
def it_M43 : it_Mt := ((2, ⟨"GrantBoard$Drivers", "arm", "(LGrantBoard$Process;III)V"⟩), (prog_5_method_9_code, 5, none), 4, 1, 22)
set_option maxRecDepth 100000 in
theorem it_m43 : it_mt[43]? = some it_M43 := rfl
set_option maxRecDepth 100000 in
theorem it_cd43 : it_cds[43]? = some it_c43 := rfl
def it_M44 : it_Mt := ((2, ⟨"GrantBoard$Drivers", "answerEnd", "(LGrantBoard$Process;I)V"⟩), (prog_5_method_10_code, 3, none), 2, 1, 22)
set_option maxRecDepth 100000 in
theorem it_m44 : it_mt[44]? = some it_M44 := rfl
set_option maxRecDepth 100000 in
theorem it_cd44 : it_cds[44]? = some it_c44 := rfl
def it_M45 : it_Mt := ((2, ⟨"GrantBoard$Drivers", "commandConsole", "(LGrantBoard$Process;II)V"⟩), (prog_5_method_11_code, 5, none), 3, 4, 101)
set_option maxRecDepth 100000 in
theorem it_m45 : it_mt[45]? = some it_M45 := rfl
set_option maxRecDepth 100000 in
theorem it_cd45 : it_cds[45]? = some it_c45 := rfl
def it_M46 : it_Mt := ((2, ⟨"GrantBoard$Drivers", "ask", "(LGrantBoard$Process;II[I)V"⟩), (prog_5_method_12_code, 5, none), 4, 1, 22)
set_option maxRecDepth 100000 in
theorem it_m46 : it_mt[46]? = some it_M46 := rfl
set_option maxRecDepth 100000 in
theorem it_cd46 : it_cds[46]? = some it_c46 := rfl
def it_M47 : it_Mt := ((2, ⟨"GrantBoard$Drivers", "firstAsked", "(I[I)LGrantBoard$Process;"⟩), (prog_5_method_13_code, 7, (some (Jvm.ClassFile.FieldType.object "GrantBoard$Process"))), 2, 1, 23)
set_option maxRecDepth 100000 in
theorem it_m47 : it_mt[47]? = some it_M47 := rfl
set_option maxRecDepth 100000 in
theorem it_cd47 : it_cds[47]? = some it_c47 := rfl
def it_M48 : it_Mt := ((2, ⟨"GrantBoard$Drivers", "writeNextByte", "()V"⟩), (prog_5_method_14_code, 6, none), 0, 3, 77)
set_option maxRecDepth 100000 in
theorem it_m48 : it_mt[48]? = some it_M48 := rfl
set_option maxRecDepth 100000 in
theorem it_cd48 : it_cds[48]? = some it_c48 := rfl
def it_M49 : it_Mt := ((2, ⟨"GrantBoard$Drivers", "putOut", "(I)V"⟩), (prog_5_method_15_code, 2, none), 1, 0, 0)
set_option maxRecDepth 100000 in
theorem it_m49 : it_mt[49]? = some it_M49 := rfl
set_option maxRecDepth 100000 in
theorem it_cd49 : it_cds[49]? = some it_c49 := rfl
def it_M50 : it_Mt := ((2, ⟨"GrantBoard$Drivers", "takeTyped", "(I)Z"⟩), (prog_5_method_16_code, 7, (some Jvm.ClassFile.FieldType.boolean)), 1, 4, 101)
set_option maxRecDepth 100000 in
theorem it_m50 : it_mt[50]? = some it_M50 := rfl
set_option maxRecDepth 100000 in
theorem it_cd50 : it_cds[50]? = some it_c50 := rfl
def it_M51 : it_Mt := ((2, ⟨"GrantBoard$Drivers", "endRead", "(LGrantBoard$Process;II)V"⟩), (prog_5_method_17_code, 5, none), 3, 3, 77)
set_option maxRecDepth 100000 in
theorem it_m51 : it_mt[51]? = some it_M51 := rfl
set_option maxRecDepth 100000 in
theorem it_cd51 : it_cds[51]? = some it_c51 := rfl
def it_M52 : it_Mt := ((2, ⟨"GrantBoard$Drivers", "commandLamps", "(LGrantBoard$Process;II)V"⟩), (prog_5_method_18_code, 5, none), 3, 1, 21)
set_option maxRecDepth 100000 in
theorem it_m52 : it_mt[52]? = some it_M52 := rfl
set_option maxRecDepth 100000 in
theorem it_cd52 : it_cds[52]? = some it_c52 := rfl
def it_M53 : it_Mt := ((2, ⟨"GrantBoard$Drivers", "commandButtons", "(LGrantBoard$Process;II)V"⟩), (prog_5_method_19_code, 7, none), 3, 1, 23)
set_option maxRecDepth 100000 in
theorem it_m53 : it_mt[53]? = some it_M53 := rfl
set_option maxRecDepth 100000 in
theorem it_cd53 : it_cds[53]? = some it_c53 := rfl
def it_M54 : it_Mt := ((2, ⟨"GrantBoard$Drivers", "moveButton", "(IZ)Z"⟩), (prog_5_method_20_code, 6, (some Jvm.ClassFile.FieldType.boolean)), 2, 3, 77)
set_option maxRecDepth 100000 in
theorem it_m54 : it_mt[54]? = some it_M54 := rfl
set_option maxRecDepth 100000 in
theorem it_cd54 : it_cds[54]? = some it_c54 := rfl
def it_M55 : it_Mt := ((2, ⟨"GrantBoard$Drivers", "drawBytes", "(LGrantBoard$Process;I)V"⟩), (prog_5_method_21_code, 7, none), 2, 3, 77)
set_option maxRecDepth 100000 in
theorem it_m55 : it_mt[55]? = some it_M55 := rfl
set_option maxRecDepth 100000 in
theorem it_cd55 : it_cds[55]? = some it_c55 := rfl
def it_M56 : it_Mt := ((2, ⟨"GrantBoard$Drivers", "commandStore", "(LGrantBoard$Process;III)V"⟩), (prog_5_method_22_code, 6, none), 4, 5, 127)
set_option maxRecDepth 100000 in
theorem it_m56 : it_mt[56]? = some it_M56 := rfl
set_option maxRecDepth 100000 in
theorem it_cd56 : it_cds[56]? = some it_c56 := rfl
def it_M57 : it_Mt := ((2, ⟨"GrantBoard$Drivers", "fetchValue", "(LGrantBoard$Process;II)V"⟩), (prog_5_method_23_code, 7, none), 3, 4, 93)
set_option maxRecDepth 100000 in
theorem it_m57 : it_mt[57]? = some it_M57 := rfl
set_option maxRecDepth 100000 in
theorem it_cd57 : it_cds[57]? = some it_c57 := rfl
def it_M58 : it_Mt := ((2, ⟨"GrantBoard$Drivers", "keepValue", "(LGrantBoard$Process;III)V"⟩), (prog_5_method_24_code, 7, none), 4, 4, 101)
set_option maxRecDepth 100000 in
theorem it_m58 : it_mt[58]? = some it_M58 := rfl
set_option maxRecDepth 100000 in
theorem it_cd58 : it_cds[58]? = some it_c58 := rfl
def it_M59 : it_Mt := ((2, ⟨"GrantBoard$Drivers", "forgetValue", "(LGrantBoard$Process;II)V"⟩), (prog_5_method_25_code, 5, none), 3, 4, 101)
set_option maxRecDepth 100000 in
theorem it_m59 : it_mt[59]? = some it_M59 := rfl
set_option maxRecDepth 100000 in
theorem it_cd59 : it_cds[59]? = some it_c59 := rfl
def it_M60 : it_Mt := ((2, ⟨"GrantBoard$Drivers", "answerPut", "(LGrantBoard$Process;III)V"⟩), (prog_5_method_26_code, 5, none), 4, 3, 77)
set_option maxRecDepth 100000 in
theorem it_m60 : it_mt[60]? = some it_M60 := rfl
set_option maxRecDepth 100000 in
theorem it_cd60 : it_cds[60]? = some it_c60 := rfl
def it_M61 : it_Mt := ((2, ⟨"GrantBoard$Drivers", "tickSampler", "()V"⟩), (prog_5_method_27_code, 3, none), 0, 4, 100)
set_option maxRecDepth 100000 in
theorem it_m61 : it_mt[61]? = some it_M61 := rfl
set_option maxRecDepth 100000 in
theorem it_cd61 : it_cds[61]? = some it_c61 := rfl
def it_M62 : it_Mt := ((2, ⟨"GrantBoard$Drivers", "sampleIfDue", "(LGrantBoard$Process;I)V"⟩), (prog_5_method_28_code, 4, none), 2, 3, 77)
set_option maxRecDepth 100000 in
theorem it_m62 : it_mt[62]? = some it_M62 := rfl
set_option maxRecDepth 100000 in
theorem it_cd62 : it_cds[62]? = some it_c62 := rfl
def it_M63 : it_Mt := ((2, ⟨"GrantBoard$Drivers", "commandSampler", "(LGrantBoard$Process;III)V"⟩), (prog_5_method_29_code, 6, none), 4, 3, 77)
set_option maxRecDepth 100000 in
theorem it_m63 : it_mt[63]? = some it_M63 := rfl
set_option maxRecDepth 100000 in
theorem it_cd63 : it_cds[63]? = some it_c63 := rfl
def it_M64 : it_Mt := ((2, ⟨"GrantBoard$Drivers", "commandPost", "(LGrantBoard$Process;III)V"⟩), (prog_5_method_30_code, 5, none), 4, 4, 105)
set_option maxRecDepth 100000 in
theorem it_m64 : it_mt[64]? = some it_M64 := rfl
set_option maxRecDepth 100000 in
theorem it_cd64 : it_cds[64]? = some it_c64 := rfl
def it_M65 : it_Mt := ((2, ⟨"GrantBoard$Drivers", "sendPost", "(LGrantBoard$Process;II)V"⟩), (prog_5_method_31_code, 9, none), 3, 3, 77)
set_option maxRecDepth 100000 in
theorem it_m65 : it_mt[65]? = some it_M65 := rfl
set_option maxRecDepth 100000 in
theorem it_cd65 : it_cds[65]? = some it_c65 := rfl
def it_M66 : it_Mt := ((2, ⟨"GrantBoard$Drivers", "findByName", "(LGrantBoard$Process;I)V"⟩), (prog_5_method_32_code, 6, none), 2, 3, 67)
set_option maxRecDepth 100000 in
theorem it_m66 : it_mt[66]? = some it_M66 := rfl
set_option maxRecDepth 100000 in
theorem it_cd66 : it_cds[66]? = some it_c66 := rfl
def it_M67 : it_Mt := ((2, ⟨"GrantBoard$Drivers", "sumBytes", "(LGrantBoard$Process;I)V"⟩), (prog_5_method_33_code, 4, none), 2, 2, 45)
set_option maxRecDepth 100000 in
theorem it_m67 : it_mt[67]? = some it_M67 := rfl
set_option maxRecDepth 100000 in
theorem it_cd67 : it_cds[67]? = some it_c67 := rfl
def it_M68 : it_Mt := ((3, ⟨"GrantBoard$Journal", "<init>", "()V"⟩), (prog_6_method_1_code, 1, none), 0, 1, 20)
set_option maxRecDepth 100000 in
theorem it_m68 : it_mt[68]? = some it_M68 := rfl
set_option maxRecDepth 100000 in
theorem it_cd68 : it_cds[68]? = some it_c68 := rfl
def it_M69 : it_Mt := ((3, ⟨"GrantBoard$Journal", "note", "(III)V"⟩), (prog_6_method_2_code, 5, none), 3, 0, 0)
set_option maxRecDepth 100000 in
theorem it_m69 : it_mt[69]? = some it_M69 := rfl
set_option maxRecDepth 100000 in
theorem it_cd69 : it_cds[69]? = some it_c69 := rfl
def it_M70 : it_Mt := ((3, ⟨"GrantBoard$Journal", "tell", "(II)I"⟩), (prog_6_method_3_code, 4, (some Jvm.ClassFile.FieldType.int)), 2, 0, 0)
set_option maxRecDepth 100000 in
theorem it_m70 : it_mt[70]? = some it_M70 := rfl
set_option maxRecDepth 100000 in
theorem it_cd70 : it_cds[70]? = some it_c70 := rfl
def it_M71 : it_Mt := ((4, ⟨"GrantBoard$Kernel", "<init>", "(LGrantBoard$Cells;LGrantBoard$Journal;)V"⟩), (prog_7_method_1_code, 4, none), 2, 2, 42)
set_option maxRecDepth 100000 in
theorem it_m71 : it_mt[71]? = some it_M71 := rfl
set_option maxRecDepth 100000 in
theorem it_cd71 : it_cds[71]? = some it_c71 := rfl
def it_M72 : it_Mt := ((4, ⟨"GrantBoard$Kernel", "find", "(I)LGrantBoard$Process;"⟩), (prog_7_method_2_code, 2, (some (Jvm.ClassFile.FieldType.object "GrantBoard$Process"))), 1, 0, 0)
set_option maxRecDepth 100000 in
theorem it_m72 : it_mt[72]? = some it_M72 := rfl
set_option maxRecDepth 100000 in
theorem it_cd72 : it_cds[72]? = some it_c72 := rfl
def it_M73 : it_Mt := ((4, ⟨"GrantBoard$Kernel", "load", "(Z)V"⟩), (prog_7_method_3_code, 9, none), 1, 5, 112)
set_option maxRecDepth 100000 in
theorem it_m73 : it_mt[73]? = some it_M73 := rfl
set_option maxRecDepth 100000 in
theorem it_cd73 : it_cds[73]? = some it_c73 := rfl
def it_M74 : it_Mt := ((4, ⟨"GrantBoard$Kernel", "isOutdone", "(LGrantBoard$AppHead;Z)Z"⟩), (prog_7_method_4_code, 5, (some Jvm.ClassFile.FieldType.boolean)), 2, 4, 88)
set_option maxRecDepth 100000 in
theorem it_m74 : it_mt[74]? = some it_M74 := rfl
set_option maxRecDepth 100000 in
theorem it_cd74 : it_cds[74]? = some it_c74 := rfl
def it_M75 : it_Mt := ((4, ⟨"GrantBoard$Kernel", "start", "(LGrantBoard$Process;)V"⟩), (prog_7_method_5_code, 2, none), 1, 3, 70)
set_option maxRecDepth 100000 in
theorem it_m75 : it_mt[75]? = some it_M75 := rfl
set_option maxRecDepth 100000 in
theorem it_cd75 : it_cds[75]? = some it_c75 := rfl
def it_M76 : it_Mt := ((4, ⟨"GrantBoard$Kernel", "startAgain", "(LGrantBoard$Process;)V"⟩), (prog_7_method_6_code, 2, none), 1, 4, 91)
set_option maxRecDepth 100000 in
theorem it_m76 : it_mt[76]? = some it_M76 := rfl
set_option maxRecDepth 100000 in
theorem it_cd76 : it_cds[76]? = some it_c76 := rfl
def it_M77 : it_Mt := ((4, ⟨"GrantBoard$Kernel", "takeFault", "(LGrantBoard$Process;II)V"⟩), (prog_7_method_7_code, 5, none), 3, 5, 112)
set_option maxRecDepth 100000 in
theorem it_m77 : it_mt[77]? = some it_M77 := rfl
set_option maxRecDepth 100000 in
theorem it_cd77 : it_cds[77]? = some it_c77 := rfl
def it_M78 : it_Mt := ((4, ⟨"GrantBoard$Kernel", "endWith", "(LGrantBoard$Process;I)V"⟩), (prog_7_method_8_code, 3, none), 2, 4, 93)
set_option maxRecDepth 100000 in
theorem it_m78 : it_mt[78]? = some it_M78 := rfl
set_option maxRecDepth 100000 in
theorem it_cd78 : it_cds[78]? = some it_c78 := rfl
def it_M79 : it_Mt := ((4, ⟨"GrantBoard$Kernel", "stop", "(LGrantBoard$Process;I)V"⟩), (prog_7_method_9_code, 4, none), 2, 3, 70)
set_option maxRecDepth 100000 in
theorem it_m79 : it_mt[79]? = some it_M79 := rfl
set_option maxRecDepth 100000 in
theorem it_cd79 : it_cds[79]? = some it_c79 := rfl
def it_M80 : it_Mt := ((4, ⟨"GrantBoard$Kernel", "send", "(LGrantBoard$Process;IIIII)V"⟩), (prog_7_method_10_code, 8, none), 6, 2, 50)
set_option maxRecDepth 100000 in
theorem it_m80 : it_mt[80]? = some it_M80 := rfl
set_option maxRecDepth 100000 in
theorem it_cd80 : it_cds[80]? = some it_c80 := rfl
def it_M81 : it_Mt := ((4, ⟨"GrantBoard$Kernel", "giveWaiting", "(LGrantBoard$Process;I)V"⟩), (prog_7_method_11_code, 5, none), 2, 2, 71)
set_option maxRecDepth 100000 in
theorem it_m81 : it_mt[81]? = some it_M81 := rfl
set_option maxRecDepth 100000 in
theorem it_cd81 : it_cds[81]? = some it_c81 := rfl
def it_M82 : it_Mt := ((4, ⟨"GrantBoard$Kernel", "runFirst", "(LGrantBoard$Process;)V"⟩), (prog_7_method_12_code, 4, none), 1, 3, 95)
set_option maxRecDepth 100000 in
theorem it_m82 : it_mt[82]? = some it_M82 := rfl
set_option maxRecDepth 100000 in
theorem it_cd82 : it_cds[82]? = some it_c82 := rfl
def it_M83 : it_Mt := ((4, ⟨"GrantBoard$Kernel", "give", "(LGrantBoard$Process;IIIII)V"⟩), (prog_7_method_13_code, 7, none), 6, 1, 24)
set_option maxRecDepth 100000 in
theorem it_m83 : it_mt[83]? = some it_M83 := rfl
set_option maxRecDepth 100000 in
theorem it_cd83 : it_cds[83]? = some it_c83 := rfl
def it_M84 : it_Mt := ((4, ⟨"GrantBoard$Kernel", "enter", "(LGrantBoard$Process;II)V"⟩), (prog_7_method_14_code, 5, none), 3, 1, 23)
set_option maxRecDepth 100000 in
theorem it_m84 : it_mt[84]? = some it_M84 := rfl
set_option maxRecDepth 100000 in
theorem it_cd84 : it_cds[84]? = some it_c84 := rfl
def it_M85 : it_Mt := ((4, ⟨"GrantBoard$Kernel", "reachGrant", "(LGrantBoard$Process;I)Z"⟩), (prog_7_method_15_code, 5, (some Jvm.ClassFile.FieldType.boolean)), 2, 3, 70)
set_option maxRecDepth 100000 in
theorem it_m85 : it_mt[85]? = some it_M85 := rfl
set_option maxRecDepth 100000 in
theorem it_cd85 : it_cds[85]? = some it_c85 := rfl
def it_M86 : it_Mt := ((4, ⟨"GrantBoard$Kernel", "grantSize", "(I)I"⟩), (prog_7_method_16_code, 2, (some Jvm.ClassFile.FieldType.int)), 1, 0, 0)
set_option maxRecDepth 100000 in
theorem it_m86 : it_mt[86]? = some it_M86 := rfl
set_option maxRecDepth 100000 in
theorem it_cd86 : it_cds[86]? = some it_c86 := rfl
def it_M87 : it_Mt := ((4, ⟨"GrantBoard$Kernel", "subscriptionAt", "(LGrantBoard$Process;II)I"⟩), (prog_7_method_17_code, 4, (some Jvm.ClassFile.FieldType.int)), 3, 0, 0)
set_option maxRecDepth 100000 in
theorem it_m87 : it_mt[87]? = some it_M87 := rfl
set_option maxRecDepth 100000 in
theorem it_cd87 : it_cds[87]? = some it_c87 := rfl
def it_M88 : it_Mt := ((4, ⟨"GrantBoard$Kernel", "readBufferAt", "(LGrantBoard$Process;II)I"⟩), (prog_7_method_18_code, 4, (some Jvm.ClassFile.FieldType.int)), 3, 0, 0)
set_option maxRecDepth 100000 in
theorem it_m88 : it_mt[88]? = some it_M88 := rfl
set_option maxRecDepth 100000 in
theorem it_cd88 : it_cds[88]? = some it_c88 := rfl
def it_M89 : it_Mt := ((4, ⟨"GrantBoard$Kernel", "writeBufferAt", "(LGrantBoard$Process;II)I"⟩), (prog_7_method_19_code, 4, (some Jvm.ClassFile.FieldType.int)), 3, 0, 0)
set_option maxRecDepth 100000 in
theorem it_m89 : it_mt[89]? = some it_M89 := rfl
set_option maxRecDepth 100000 in
theorem it_cd89 : it_cds[89]? = some it_c89 := rfl
def it_M90 : it_Mt := ((4, ⟨"GrantBoard$Kernel", "ownAt", "(LGrantBoard$Process;I)I"⟩), (prog_7_method_20_code, 4, (some Jvm.ClassFile.FieldType.int)), 2, 0, 0)
set_option maxRecDepth 100000 in
theorem it_m90 : it_mt[90]? = some it_M90 := rfl
set_option maxRecDepth 100000 in
theorem it_cd90 : it_cds[90]? = some it_c90 := rfl
def it_M91 : it_Mt := ((4, ⟨"GrantBoard$Kernel", "buffersEnd", "(LGrantBoard$Process;)I"⟩), (prog_7_method_21_code, 9, (some Jvm.ClassFile.FieldType.int)), 1, 1, 48)
set_option maxRecDepth 100000 in
theorem it_m91 : it_mt[91]? = some it_M91 := rfl
set_option maxRecDepth 100000 in
theorem it_cd91 : it_cds[91]? = some it_c91 := rfl
def it_M92 : it_Mt := ((4, ⟨"GrantBoard$Kernel", "writeControls", "()V"⟩), (prog_7_method_22_code, 4, none), 0, 1, 22)
set_option maxRecDepth 100000 in
theorem it_m92 : it_mt[92]? = some it_M92 := rfl
set_option maxRecDepth 100000 in
theorem it_cd92 : it_cds[92]? = some it_c92 := rfl
def it_M93 : it_Mt := ((4, ⟨"GrantBoard$Kernel", "countBreaches", "(LGrantBoard$Process;)I"⟩), (prog_7_method_23_code, 4, (some Jvm.ClassFile.FieldType.int)), 1, 4, 93)
set_option maxRecDepth 100000 in
theorem it_m93 : it_mt[93]? = some it_M93 := rfl
set_option maxRecDepth 100000 in
theorem it_cd93 : it_cds[93]? = some it_c93 := rfl
def it_M94 : it_Mt := ((4, ⟨"GrantBoard$Kernel", "makePlan", "(LGrantBoard$Process;)V"⟩), (prog_7_method_24_code, 2, none), 1, 2, 46)
set_option maxRecDepth 100000 in
theorem it_m94 : it_mt[94]? = some it_M94 := rfl
set_option maxRecDepth 100000 in
theorem it_cd94 : it_cds[94]? = some it_c94 := rfl
def it_M95 : it_Mt := ((4, ⟨"GrantBoard$Kernel", "addRegion", "(III)V"⟩), (prog_7_method_25_code, 5, none), 3, 1, 22)
set_option maxRecDepth 100000 in
theorem it_m95 : it_mt[95]? = some it_M95 := rfl
set_option maxRecDepth 100000 in
theorem it_cd95 : it_cds[95]? = some it_c95 := rfl
def it_M96 : it_Mt := ((4, ⟨"GrantBoard$Kernel", "addEntry", "(II)V"⟩), (prog_7_method_26_code, 3, none), 2, 0, 0)
set_option maxRecDepth 100000 in
theorem it_m96 : it_mt[96]? = some it_M96 := rfl
set_option maxRecDepth 100000 in
theorem it_cd96 : it_cds[96]? = some it_c96 := rfl
def it_M97 : it_Mt := ((4, ⟨"GrantBoard$Kernel", "entriesAllowJust", "(LGrantBoard$Process;)Z"⟩), (prog_7_method_27_code, 7, (some Jvm.ClassFile.FieldType.boolean)), 1, 3, 67)
set_option maxRecDepth 100000 in
theorem it_m97 : it_mt[97]? = some it_M97 := rfl
set_option maxRecDepth 100000 in
theorem it_cd97 : it_cds[97]? = some it_c97 := rfl
def it_M98 : it_Mt := ((4, ⟨"GrantBoard$Kernel", "entryReaches", "(III)Z"⟩), (prog_7_method_28_code, 9, (some Jvm.ClassFile.FieldType.boolean)), 3, 0, 0)
set_option maxRecDepth 100000 in
theorem it_m98 : it_mt[98]? = some it_M98 := rfl
set_option maxRecDepth 100000 in
theorem it_cd98 : it_cds[98]? = some it_c98 := rfl
def it_M99 : it_Mt := ((4, ⟨"GrantBoard$Kernel", "blockStandsAlone", "(LGrantBoard$Process;)Z"⟩), (prog_7_method_29_code, 4, (some Jvm.ClassFile.FieldType.boolean)), 1, 1, 23)
set_option maxRecDepth 100000 in
theorem it_m99 : it_mt[99]? = some it_M99 := rfl
set_option maxRecDepth 100000 in
theorem it_cd99 : it_cds[99]? = some it_c99 := rfl
def it_M100 : it_Mt := ((4, ⟨"GrantBoard$Kernel", "grantsLieInOrder", "(LGrantBoard$Process;)Z"⟩), (prog_7_method_30_code, 6, (some Jvm.ClassFile.FieldType.boolean)), 1, 1, 21)
set_option maxRecDepth 100000 in
theorem it_m100 : it_mt[100]? = some it_M100 := rfl
set_option maxRecDepth 100000 in
theorem it_cd100 : it_cds[100]? = some it_c100 := rfl
def it_M101 : it_Mt := ((4, ⟨"GrantBoard$Kernel", "buffersLieInside", "(LGrantBoard$Process;)Z"⟩), (prog_7_method_31_code, 7, (some Jvm.ClassFile.FieldType.boolean)), 1, 2, 47)
set_option maxRecDepth 100000 in
theorem it_m101 : it_mt[101]? = some it_M101 := rfl
set_option maxRecDepth 100000 in
theorem it_cd101 : it_cds[101]? = some it_c101 := rfl
def it_M102 : it_Mt := ((4, ⟨"GrantBoard$Kernel", "bufferFits", "(LGrantBoard$Process;IIZ)Z"⟩), (prog_7_method_32_code, 5, (some Jvm.ClassFile.FieldType.boolean)), 4, 1, 23)
set_option maxRecDepth 100000 in
theorem it_m102 : it_mt[102]? = some it_M102 := rfl
set_option maxRecDepth 100000 in
theorem it_cd102 : it_cds[102]? = some it_c102 := rfl
def it_M103 : it_Mt := ((5, ⟨"GrantBoard$Machine", "<init>", "(LGrantBoard$Cells;)V"⟩), (prog_8_method_1_code, 2, none), 1, 1, 20)
set_option maxRecDepth 100000 in
theorem it_m103 : it_mt[103]? = some it_M103 := rfl
set_option maxRecDepth 100000 in
theorem it_cd103 : it_cds[103]? = some it_c103 := rfl
def it_M104 : it_Mt := ((5, ⟨"GrantBoard$Machine", "step", "(LGrantBoard$Process;)I"⟩), (prog_8_method_2_code, 5, (some Jvm.ClassFile.FieldType.int)), 1, 4, 121)
set_option maxRecDepth 100000 in
theorem it_m104 : it_mt[104]? = some it_M104 := rfl
set_option maxRecDepth 100000 in
theorem it_cd104 : it_cds[104]? = some it_c104 := rfl
def it_M105 : it_Mt := ((5, ⟨"GrantBoard$Machine", "fail", "(II)I"⟩), (prog_8_method_3_code, 3, (some Jvm.ClassFile.FieldType.int)), 2, 0, 0)
set_option maxRecDepth 100000 in
theorem it_m105 : it_mt[105]? = some it_M105 := rfl
set_option maxRecDepth 100000 in
theorem it_cd105 : it_cds[105]? = some it_c105 := rfl
def it_M106 : it_Mt := ((5, ⟨"GrantBoard$Machine", "execute", "(LGrantBoard$Process;II)I"⟩), (prog_8_method_4_code, 4, (some Jvm.ClassFile.FieldType.int)), 3, 3, 98)
set_option maxRecDepth 100000 in
theorem it_m106 : it_mt[106]? = some it_M106 := rfl
set_option maxRecDepth 100000 in
theorem it_cd106 : it_cds[106]? = some it_c106 := rfl
def it_M107 : it_Mt := ((5, ⟨"GrantBoard$Machine", "finish", "(LGrantBoard$Process;III)I"⟩), (prog_8_method_5_code, 5, (some Jvm.ClassFile.FieldType.int)), 4, 0, 0)
set_option maxRecDepth 100000 in
theorem it_m107 : it_mt[107]? = some it_M107 := rfl
set_option maxRecDepth 100000 in
theorem it_cd107 : it_cds[107]? = some it_c107 := rfl
def it_M108 : it_Mt := ((5, ⟨"GrantBoard$Machine", "kindOf", "(I)I"⟩), (prog_8_method_6_code, 1, (some Jvm.ClassFile.FieldType.int)), 1, 0, 0)
set_option maxRecDepth 100000 in
theorem it_m108 : it_mt[108]? = some it_M108 := rfl
set_option maxRecDepth 100000 in
theorem it_cd108 : it_cds[108]? = some it_c108 := rfl
def it_M109 : it_Mt := ((5, ⟨"GrantBoard$Machine", "first", "(LGrantBoard$Process;I)I"⟩), (prog_8_method_7_code, 2, (some Jvm.ClassFile.FieldType.int)), 2, 0, 0)
set_option maxRecDepth 100000 in
theorem it_m109 : it_mt[109]? = some it_M109 := rfl
set_option maxRecDepth 100000 in
theorem it_cd109 : it_cds[109]? = some it_c109 := rfl
def it_M110 : it_Mt := ((5, ⟨"GrantBoard$Machine", "second", "(LGrantBoard$Process;I)I"⟩), (prog_8_method_8_code, 2, (some Jvm.ClassFile.FieldType.int)), 2, 0, 0)
set_option maxRecDepth 100000 in
theorem it_m110 : it_mt[110]? = some it_M110 := rfl
set_option maxRecDepth 100000 in
theorem it_cd110 : it_cds[110]? = some it_c110 := rfl
def it_M111 : it_Mt := ((5, ⟨"GrantBoard$Machine", "jumpOffset", "(I)I"⟩), (prog_8_method_9_code, 1, (some Jvm.ClassFile.FieldType.int)), 1, 0, 0)
set_option maxRecDepth 100000 in
theorem it_m111 : it_mt[111]? = some it_M111 := rfl
set_option maxRecDepth 100000 in
theorem it_cd111 : it_cds[111]? = some it_c111 := rfl
def it_M112 : it_Mt := ((5, ⟨"GrantBoard$Machine", "branchOffset", "(I)I"⟩), (prog_8_method_10_code, 1, (some Jvm.ClassFile.FieldType.int)), 1, 0, 0)
set_option maxRecDepth 100000 in
theorem it_m112 : it_mt[112]? = some it_M112 := rfl
set_option maxRecDepth 100000 in
theorem it_cd112 : it_cds[112]? = some it_c112 := rfl
def it_M113 : it_Mt := ((5, ⟨"GrantBoard$Machine", "jumpToRegister", "(LGrantBoard$Process;II)I"⟩), (prog_8_method_11_code, 4, (some Jvm.ClassFile.FieldType.int)), 3, 1, 24)
set_option maxRecDepth 100000 in
theorem it_m113 : it_mt[113]? = some it_M113 := rfl
set_option maxRecDepth 100000 in
theorem it_cd113 : it_cds[113]? = some it_c113 := rfl
def it_M114 : it_Mt := ((5, ⟨"GrantBoard$Machine", "branch", "(LGrantBoard$Process;II)I"⟩), (prog_8_method_12_code, 7, (some Jvm.ClassFile.FieldType.int)), 3, 1, 22)
set_option maxRecDepth 100000 in
theorem it_m114 : it_mt[114]? = some it_M114 := rfl
set_option maxRecDepth 100000 in
theorem it_cd114 : it_cds[114]? = some it_c114 := rfl
def it_M115 : it_Mt := ((5, ⟨"GrantBoard$Machine", "load", "(LGrantBoard$Process;II)I"⟩), (prog_8_method_13_code, 6, (some Jvm.ClassFile.FieldType.int)), 3, 1, 24)
set_option maxRecDepth 100000 in
theorem it_m115 : it_mt[115]? = some it_M115 := rfl
set_option maxRecDepth 100000 in
theorem it_cd115 : it_cds[115]? = some it_c115 := rfl
def it_M116 : it_Mt := ((5, ⟨"GrantBoard$Machine", "save", "(LGrantBoard$Process;II)I"⟩), (prog_8_method_14_code, 7, (some Jvm.ClassFile.FieldType.int)), 3, 1, 24)
set_option maxRecDepth 100000 in
theorem it_m116 : it_mt[116]? = some it_M116 := rfl
set_option maxRecDepth 100000 in
theorem it_cd116 : it_cds[116]? = some it_c116 := rfl
def it_M117 : it_Mt := ((5, ⟨"GrantBoard$Machine", "operateImmediate", "(LGrantBoard$Process;II)I"⟩), (prog_8_method_15_code, 7, (some Jvm.ClassFile.FieldType.int)), 3, 2, 44)
set_option maxRecDepth 100000 in
theorem it_m117 : it_mt[117]? = some it_M117 := rfl
set_option maxRecDepth 100000 in
theorem it_cd117 : it_cds[117]? = some it_c117 := rfl
def it_M118 : it_Mt := ((5, ⟨"GrantBoard$Machine", "operate", "(LGrantBoard$Process;II)I"⟩), (prog_8_method_16_code, 8, (some Jvm.ClassFile.FieldType.int)), 3, 2, 44)
set_option maxRecDepth 100000 in
theorem it_m118 : it_mt[118]? = some it_M118 := rfl
set_option maxRecDepth 100000 in
theorem it_cd118 : it_cds[118]? = some it_c118 := rfl
def it_M119 : it_Mt := ((5, ⟨"GrantBoard$Machine", "compute", "(IZII)I"⟩), (prog_8_method_17_code, 4, (some Jvm.ClassFile.FieldType.int)), 4, 1, 21)
set_option maxRecDepth 100000 in
theorem it_m119 : it_mt[119]? = some it_M119 := rfl
set_option maxRecDepth 100000 in
theorem it_cd119 : it_cds[119]? = some it_c119 := rfl
def it_M120 : it_Mt := ((5, ⟨"GrantBoard$Machine", "multiply", "(III)I"⟩), (prog_8_method_18_code, 7, (some Jvm.ClassFile.FieldType.int)), 3, 0, 0)
set_option maxRecDepth 100000 in
theorem it_m120 : it_mt[120]? = some it_M120 := rfl
set_option maxRecDepth 100000 in
theorem it_cd120 : it_cds[120]? = some it_c120 := rfl
def it_M121 : it_Mt := ((5, ⟨"GrantBoard$Machine", "doAtomic", "(LGrantBoard$Process;II)I"⟩), (prog_8_method_19_code, 9, (some Jvm.ClassFile.FieldType.int)), 3, 2, 70)
set_option maxRecDepth 100000 in
theorem it_m121 : it_mt[121]? = some it_M121 := rfl
set_option maxRecDepth 100000 in
theorem it_cd121 : it_cds[121]? = some it_c121 := rfl
def it_M122 : it_Mt := ((5, ⟨"GrantBoard$Machine", "saveReserved", "(LGrantBoard$Process;II)I"⟩), (prog_8_method_20_code, 6, (some Jvm.ClassFile.FieldType.int)), 3, 1, 24)
set_option maxRecDepth 100000 in
theorem it_m122 : it_mt[122]? = some it_M122 := rfl
set_option maxRecDepth 100000 in
theorem it_cd122 : it_cds[122]? = some it_c122 := rfl
def it_M123 : it_Mt := ((5, ⟨"GrantBoard$Machine", "combine", "(III)I"⟩), (prog_8_method_21_code, 3, (some Jvm.ClassFile.FieldType.int)), 3, 1, 48)
set_option maxRecDepth 100000 in
theorem it_m123 : it_mt[123]? = some it_M123 := rfl
set_option maxRecDepth 100000 in
theorem it_cd123 : it_cds[123]? = some it_c123 := rfl
def it_M124 : it_Mt := ((5, ⟨"GrantBoard$Machine", "fence", "(LGrantBoard$Process;II)I"⟩), (prog_8_method_22_code, 4, (some Jvm.ClassFile.FieldType.int)), 3, 1, 22)
set_option maxRecDepth 100000 in
theorem it_m124 : it_mt[124]? = some it_M124 := rfl
set_option maxRecDepth 100000 in
theorem it_cd124 : it_cds[124]? = some it_c124 := rfl
def it_M125 : it_Mt := ((5, ⟨"GrantBoard$Machine", "callKernel", "(LGrantBoard$Process;II)I"⟩), (prog_8_method_23_code, 4, (some Jvm.ClassFile.FieldType.int)), 3, 1, 22)
set_option maxRecDepth 100000 in
theorem it_m125 : it_mt[125]? = some it_M125 := rfl
set_option maxRecDepth 100000 in
theorem it_cd125 : it_cds[125]? = some it_c125 := rfl
def it_M126 : it_Mt := ((6, ⟨"GrantBoard$Process", "<init>", "(ILGrantBoard$AppHead;)V"⟩), (prog_9_method_1_code, 3, none), 2, 1, 20)
set_option maxRecDepth 100000 in
theorem it_m126 : it_mt[126]? = some it_M126 := rfl
set_option maxRecDepth 100000 in
theorem it_cd126 : it_cds[126]? = some it_c126 := rfl
def it_M127 : it_Mt := ((6, ⟨"GrantBoard$Process", "settle", "(II)V"⟩), (prog_9_method_2_code, 3, none), 2, 0, 0)
set_option maxRecDepth 100000 in
theorem it_m127 : it_mt[127]? = some it_M127 := rfl
set_option maxRecDepth 100000 in
theorem it_cd127 : it_cds[127]? = some it_c127 := rfl
def it_M128 : it_Mt := ((6, ⟨"GrantBoard$Process", "reset", "()V"⟩), (prog_9_method_3_code, 1, none), 0, 1, 23)
set_option maxRecDepth 100000 in
theorem it_m128 : it_mt[128]? = some it_M128 := rfl
set_option maxRecDepth 100000 in
theorem it_cd128 : it_cds[128]? = some it_c128 := rfl
def it_M129 : it_Mt := ((6, ⟨"GrantBoard$Process", "control", "()I"⟩), (prog_9_method_4_code, 1, (some Jvm.ClassFile.FieldType.int)), 0, 0, 0)
set_option maxRecDepth 100000 in
theorem it_m129 : it_mt[129]? = some it_M129 := rfl
set_option maxRecDepth 100000 in
theorem it_cd129 : it_cds[129]? = some it_c129 := rfl
def it_M130 : it_Mt := ((6, ⟨"GrantBoard$Process", "canRun", "()Z"⟩), (prog_9_method_5_code, 1, (some Jvm.ClassFile.FieldType.boolean)), 0, 0, 0)
set_option maxRecDepth 100000 in
theorem it_m130 : it_mt[130]? = some it_M130 := rfl
set_option maxRecDepth 100000 in
theorem it_cd130 : it_cds[130]? = some it_c130 := rfl
def it_M131 : it_Mt := ((6, ⟨"GrantBoard$Process", "isOver", "()Z"⟩), (prog_9_method_6_code, 1, (some Jvm.ClassFile.FieldType.boolean)), 0, 0, 0)
set_option maxRecDepth 100000 in
theorem it_m131 : it_mt[131]? = some it_M131 := rfl
set_option maxRecDepth 100000 in
theorem it_cd131 : it_cds[131]? = some it_c131 := rfl
def it_M132 : it_Mt := ((6, ⟨"GrantBoard$Process", "ownsRam", "(I)Z"⟩), (prog_9_method_7_code, 2, (some Jvm.ClassFile.FieldType.boolean)), 1, 0, 0)
set_option maxRecDepth 100000 in
theorem it_m132 : it_mt[132]? = some it_M132 := rfl
set_option maxRecDepth 100000 in
theorem it_cd132 : it_cds[132]? = some it_c132 := rfl
def it_M133 : it_Mt := ((6, ⟨"GrantBoard$Process", "ownsApp", "(I)Z"⟩), (prog_9_method_8_code, 2, (some Jvm.ClassFile.FieldType.boolean)), 1, 0, 0)
set_option maxRecDepth 100000 in
theorem it_m133 : it_mt[133]? = some it_M133 := rfl
set_option maxRecDepth 100000 in
theorem it_cd133 : it_cds[133]? = some it_c133 := rfl
def it_M134 : it_Mt := ((6, ⟨"GrantBoard$Process", "stateTold", "()I"⟩), (prog_9_method_9_code, 1, (some Jvm.ClassFile.FieldType.int)), 0, 0, 0)
set_option maxRecDepth 100000 in
theorem it_m134 : it_mt[134]? = some it_M134 := rfl
set_option maxRecDepth 100000 in
theorem it_cd134 : it_cds[134]? = some it_c134 := rfl
def it_M135 : it_Mt := ((6, ⟨"GrantBoard$Process", "tell", "(I)I"⟩), (prog_9_method_10_code, 2, (some Jvm.ClassFile.FieldType.int)), 1, 1, 20)
set_option maxRecDepth 100000 in
theorem it_m135 : it_mt[135]? = some it_M135 := rfl
set_option maxRecDepth 100000 in
theorem it_cd135 : it_cds[135]? = some it_c135 := rfl
def it_M136 : it_Mt := ((6, ⟨"GrantBoard$Process", "fail", "(I)V"⟩), (prog_9_method_11_code, 2, none), 1, 0, 0)
set_option maxRecDepth 100000 in
theorem it_m136 : it_mt[136]? = some it_M136 := rfl
set_option maxRecDepth 100000 in
theorem it_cd136 : it_cds[136]? = some it_c136 := rfl
def it_M137 : it_Mt := ((6, ⟨"GrantBoard$Process", "failBack", "(I)V"⟩), (prog_9_method_12_code, 2, none), 1, 0, 0)
set_option maxRecDepth 100000 in
theorem it_m137 : it_mt[137]? = some it_M137 := rfl
set_option maxRecDepth 100000 in
theorem it_cd137 : it_cds[137]? = some it_c137 := rfl
def it_M138 : it_Mt := ((6, ⟨"GrantBoard$Process", "ok", "()V"⟩), (prog_9_method_13_code, 1, none), 0, 0, 0)
set_option maxRecDepth 100000 in
theorem it_m138 : it_mt[138]? = some it_M138 := rfl
set_option maxRecDepth 100000 in
theorem it_cd138 : it_cds[138]? = some it_c138 := rfl
def it_M139 : it_Mt := ((6, ⟨"GrantBoard$Process", "ok1", "(I)V"⟩), (prog_9_method_14_code, 2, none), 1, 0, 0)
set_option maxRecDepth 100000 in
theorem it_m139 : it_mt[139]? = some it_M139 := rfl
set_option maxRecDepth 100000 in
theorem it_cd139 : it_cds[139]? = some it_c139 := rfl
def it_M140 : it_Mt := ((6, ⟨"GrantBoard$Process", "ok2", "(II)V"⟩), (prog_9_method_15_code, 3, none), 2, 0, 0)
set_option maxRecDepth 100000 in
theorem it_m140 : it_mt[140]? = some it_M140 := rfl
set_option maxRecDepth 100000 in
theorem it_cd140 : it_cds[140]? = some it_c140 := rfl
def it_M141 : it_Mt := ((6, ⟨"GrantBoard$Process", "addUpcall", "(IIIII)V"⟩), (prog_9_method_16_code, 7, none), 5, 0, 0)
set_option maxRecDepth 100000 in
theorem it_m141 : it_mt[141]? = some it_M141 := rfl
set_option maxRecDepth 100000 in
theorem it_cd141 : it_cds[141]? = some it_c141 := rfl
def it_M142 : it_Mt := ((6, ⟨"GrantBoard$Process", "findUpcall", "(II)I"⟩), (prog_9_method_17_code, 5, (some Jvm.ClassFile.FieldType.int)), 2, 0, 0)
set_option maxRecDepth 100000 in
theorem it_m142 : it_mt[142]? = some it_M142 := rfl
set_option maxRecDepth 100000 in
theorem it_cd142 : it_cds[142]? = some it_c142 := rfl
def it_M143 : it_Mt := ((6, ⟨"GrantBoard$Process", "removeUpcall", "(I)V"⟩), (prog_9_method_18_code, 4, none), 1, 1, 48)
set_option maxRecDepth 100000 in
theorem it_m143 : it_mt[143]? = some it_M143 := rfl
set_option maxRecDepth 100000 in
theorem it_cd143 : it_cds[143]? = some it_c143 := rfl
def it_M144 : it_Mt := ((6, ⟨"GrantBoard$Process", "removeUpcalls", "(II)V"⟩), (prog_9_method_19_code, 5, none), 2, 2, 71)
set_option maxRecDepth 100000 in
theorem it_m144 : it_mt[144]? = some it_M144 := rfl
set_option maxRecDepth 100000 in
theorem it_cd144 : it_cds[144]? = some it_c144 := rfl
def it_M145 : it_Mt := ((7, ⟨"GrantBoard$Scheduler", "<init>", "(LGrantBoard$Kernel;LGrantBoard$Journal;)V"⟩), (prog_10_method_1_code, 3, none), 2, 1, 20)
set_option maxRecDepth 100000 in
theorem it_m145 : it_mt[145]? = some it_M145 := rfl
set_option maxRecDepth 100000 in
theorem it_cd145 : it_cds[145]? = some it_c145 := rfl
def it_M146 : it_Mt := ((7, ⟨"GrantBoard$Scheduler", "reset", "(II)V"⟩), (prog_10_method_2_code, 3, none), 2, 1, 21)
set_option maxRecDepth 100000 in
theorem it_m146 : it_mt[146]? = some it_M146 := rfl
set_option maxRecDepth 100000 in
theorem it_cd146 : it_cds[146]? = some it_c146 := rfl
def it_M147 : it_Mt := ((7, ⟨"GrantBoard$Scheduler", "forget", "()V"⟩), (prog_10_method_3_code, 2, none), 0, 0, 0)
set_option maxRecDepth 100000 in
theorem it_m147 : it_mt[147]? = some it_M147 := rfl
set_option maxRecDepth 100000 in
theorem it_cd147 : it_cds[147]? = some it_c147 := rfl
def it_M148 : it_Mt := ((7, ⟨"GrantBoard$Scheduler", "choose", "()LGrantBoard$Process;"⟩), (prog_10_method_4_code, 1, (some (Jvm.ClassFile.FieldType.object "GrantBoard$Process"))), 0, 3, 92)
set_option maxRecDepth 100000 in
theorem it_m148 : it_mt[148]? = some it_M148 := rfl
set_option maxRecDepth 100000 in
theorem it_cd148 : it_cds[148]? = some it_c148 := rfl
def it_M149 : it_Mt := ((7, ⟨"GrantBoard$Scheduler", "chooseNext", "()LGrantBoard$Process;"⟩), (prog_10_method_5_code, 5, (some (Jvm.ClassFile.FieldType.object "GrantBoard$Process"))), 0, 1, 21)
set_option maxRecDepth 100000 in
theorem it_m149 : it_mt[149]? = some it_M149 := rfl
set_option maxRecDepth 100000 in
theorem it_cd149 : it_cds[149]? = some it_c149 := rfl
def it_M150 : it_Mt := ((7, ⟨"GrantBoard$Scheduler", "chooseFirst", "()LGrantBoard$Process;"⟩), (prog_10_method_6_code, 3, (some (Jvm.ClassFile.FieldType.object "GrantBoard$Process"))), 0, 1, 21)
set_option maxRecDepth 100000 in
theorem it_m150 : it_mt[150]? = some it_M150 := rfl
set_option maxRecDepth 100000 in
theorem it_cd150 : it_cds[150]? = some it_c150 := rfl
def it_M151 : it_Mt := ((7, ⟨"GrantBoard$Scheduler", "chooseByLevel", "()LGrantBoard$Process;"⟩), (prog_10_method_7_code, 3, (some (Jvm.ClassFile.FieldType.object "GrantBoard$Process"))), 0, 2, 70)
set_option maxRecDepth 100000 in
theorem it_m151 : it_mt[151]? = some it_M151 := rfl
set_option maxRecDepth 100000 in
theorem it_cd151 : it_cds[151]? = some it_c151 := rfl
def it_M152 : it_Mt := ((7, ⟨"GrantBoard$Scheduler", "someCanRun", "()Z"⟩), (prog_10_method_8_code, 2, (some Jvm.ClassFile.FieldType.boolean)), 0, 1, 20)
set_option maxRecDepth 100000 in
theorem it_m152 : it_mt[152]? = some it_M152 := rfl
set_option maxRecDepth 100000 in
theorem it_cd152 : it_cds[152]? = some it_c152 := rfl
def it_M153 : it_Mt := ((7, ⟨"GrantBoard$Scheduler", "endTurn", "(Z)V"⟩), (prog_10_method_9_code, 2, none), 1, 1, 48)
set_option maxRecDepth 100000 in
theorem it_m153 : it_mt[153]? = some it_M153 := rfl
set_option maxRecDepth 100000 in
theorem it_cd153 : it_cds[153]? = some it_c153 := rfl
def it_M154 : it_Mt := ((7, ⟨"GrantBoard$Scheduler", "leastPlaced", "()I"⟩), (prog_10_method_10_code, 3, (some Jvm.ClassFile.FieldType.int)), 0, 1, 48)
set_option maxRecDepth 100000 in
theorem it_m154 : it_mt[154]? = some it_M154 := rfl
set_option maxRecDepth 100000 in
theorem it_cd154 : it_cds[154]? = some it_c154 := rfl
def it_M155 : it_Mt := ((7, ⟨"GrantBoard$Scheduler", "begin", "(LGrantBoard$Process;)LGrantBoard$Process;"⟩), (prog_10_method_11_code, 2, (some (Jvm.ClassFile.FieldType.object "GrantBoard$Process"))), 1, 0, 0)
set_option maxRecDepth 100000 in
theorem it_m155 : it_mt[155]? = some it_M155 := rfl
set_option maxRecDepth 100000 in
theorem it_cd155 : it_cds[155]? = some it_c155 := rfl
def it_M156 : it_Mt := ((8, ⟨"GrantBoard$Store", "<init>", "(LGrantBoard$Cells;LGrantBoard$Journal;)V"⟩), (prog_11_method_1_code, 3, none), 2, 1, 20)
set_option maxRecDepth 100000 in
theorem it_m156 : it_mt[156]? = some it_M156 := rfl
set_option maxRecDepth 100000 in
theorem it_cd156 : it_cds[156]? = some it_c156 := rfl
def it_M157 : it_Mt := ((8, ⟨"GrantBoard$Store", "open", "()V"⟩), (prog_11_method_2_code, 7, none), 0, 3, 72)
set_option maxRecDepth 100000 in
theorem it_m157 : it_mt[157]? = some it_M157 := rfl
set_option maxRecDepth 100000 in
theorem it_cd157 : it_cds[157]? = some it_c157 := rfl
def it_M158 : it_Mt := ((8, ⟨"GrantBoard$Store", "tell", "(III)I"⟩), (prog_11_method_3_code, 6, (some Jvm.ClassFile.FieldType.int)), 3, 4, 93)
set_option maxRecDepth 100000 in
theorem it_m158 : it_mt[158]? = some it_M158 := rfl
set_option maxRecDepth 100000 in
theorem it_cd158 : it_cds[158]? = some it_c158 := rfl
def it_M159 : it_Mt := ((8, ⟨"GrantBoard$Store", "find", "(II)I"⟩), (prog_11_method_4_code, 5, (some Jvm.ClassFile.FieldType.int)), 2, 3, 69)
set_option maxRecDepth 100000 in
theorem it_m159 : it_mt[159]? = some it_M159 := rfl
set_option maxRecDepth 100000 in
theorem it_cd159 : it_cds[159]? = some it_c159 := rfl
def it_M160 : it_Mt := ((8, ⟨"GrantBoard$Store", "put", "(IIII)Z"⟩), (prog_11_method_5_code, 10, (some Jvm.ClassFile.FieldType.boolean)), 4, 3, 72)
set_option maxRecDepth 100000 in
theorem it_m160 : it_mt[160]? = some it_M160 := rfl
set_option maxRecDepth 100000 in
theorem it_cd160 : it_cds[160]? = some it_c160 := rfl
def it_M161 : it_Mt := ((8, ⟨"GrantBoard$Store", "valueWord", "(II)I"⟩), (prog_11_method_6_code, 5, (some Jvm.ClassFile.FieldType.int)), 2, 1, 21)
set_option maxRecDepth 100000 in
theorem it_m161 : it_mt[161]? = some it_M161 := rfl
set_option maxRecDepth 100000 in
theorem it_cd161 : it_cds[161]? = some it_c161 := rfl
def it_M162 : it_Mt := ((8, ⟨"GrantBoard$Store", "sizeFor", "(I)I"⟩), (prog_11_method_7_code, 1, (some Jvm.ClassFile.FieldType.int)), 1, 0, 0)
set_option maxRecDepth 100000 in
theorem it_m162 : it_mt[162]? = some it_M162 := rfl
set_option maxRecDepth 100000 in
theorem it_cd162 : it_cds[162]? = some it_c162 := rfl
def it_M163 : it_Mt := ((8, ⟨"GrantBoard$Store", "scan", "()V"⟩), (prog_11_method_8_code, 3, none), 0, 2, 47)
set_option maxRecDepth 100000 in
theorem it_m163 : it_mt[163]? = some it_M163 := rfl
set_option maxRecDepth 100000 in
theorem it_cd163 : it_cds[163]? = some it_c163 := rfl
def it_M164 : it_Mt := ((8, ⟨"GrantBoard$Store", "recordSize", "(I)I"⟩), (prog_11_method_9_code, 7, (some Jvm.ClassFile.FieldType.int)), 1, 1, 21)
set_option maxRecDepth 100000 in
theorem it_m164 : it_mt[164]? = some it_M164 := rfl
set_option maxRecDepth 100000 in
theorem it_cd164 : it_cds[164]? = some it_c164 := rfl
def it_M165 : it_Mt := ((8, ⟨"GrantBoard$Store", "isClean", "()Z"⟩), (prog_11_method_10_code, 2, (some Jvm.ClassFile.FieldType.boolean)), 0, 1, 21)
set_option maxRecDepth 100000 in
theorem it_m165 : it_mt[165]? = some it_M165 := rfl
set_option maxRecDepth 100000 in
theorem it_cd165 : it_cds[165]? = some it_c165 := rfl
def it_M166 : it_Mt := ((8, ⟨"GrantBoard$Store", "compact", "()V"⟩), (prog_11_method_11_code, 8, none), 0, 2, 45)
set_option maxRecDepth 100000 in
theorem it_m166 : it_mt[166]? = some it_M166 := rfl
set_option maxRecDepth 100000 in
theorem it_cd166 : it_cds[166]? = some it_c166 := rfl
def it_M167 : it_Mt := ((8, ⟨"GrantBoard$Store", "isLatest", "(I)Z"⟩), (prog_11_method_12_code, 5, (some Jvm.ClassFile.FieldType.boolean)), 1, 1, 21)
set_option maxRecDepth 100000 in
theorem it_m167 : it_mt[167]? = some it_M167 := rfl
set_option maxRecDepth 100000 in
theorem it_cd167 : it_cds[167]? = some it_c167 := rfl
def it_M168 : it_Mt := ((8, ⟨"GrantBoard$Store", "putWord", "(II)V"⟩), (prog_11_method_13_code, 3, none), 2, 1, 22)
set_option maxRecDepth 100000 in
theorem it_m168 : it_mt[168]? = some it_M168 := rfl
set_option maxRecDepth 100000 in
theorem it_cd168 : it_cds[168]? = some it_c168 := rfl
def it_M169 : it_Mt := ((8, ⟨"GrantBoard$Store", "eraseBank", "(I)V"⟩), (prog_11_method_14_code, 4, none), 1, 1, 22)
set_option maxRecDepth 100000 in
theorem it_m169 : it_mt[169]? = some it_M169 := rfl
set_option maxRecDepth 100000 in
theorem it_cd169 : it_cds[169]? = some it_c169 := rfl
def it_M170 : it_Mt := ((8, ⟨"GrantBoard$Store", "spendWrite", "()Z"⟩), (prog_11_method_15_code, 1, (some Jvm.ClassFile.FieldType.boolean)), 0, 0, 0)
set_option maxRecDepth 100000 in
theorem it_m170 : it_mt[170]? = some it_M170 := rfl
set_option maxRecDepth 100000 in
theorem it_cd170 : it_cds[170]? = some it_c170 := rfl
def it_M171 : it_Mt := ((9, ⟨"GrantBoard$SystemCalls", "<init>", "(LGrantBoard$Cells;LGrantBoard$Journal;LGrantBoard$Kernel;)V"⟩), (prog_12_method_1_code, 4, none), 3, 1, 20)
set_option maxRecDepth 100000 in
theorem it_m171 : it_mt[171]? = some it_M171 := rfl
set_option maxRecDepth 100000 in
theorem it_cd171 : it_cds[171]? = some it_c171 := rfl
def it_M172 : it_Mt := ((9, ⟨"GrantBoard$SystemCalls", "serve", "(LGrantBoard$Process;)I"⟩), (prog_12_method_2_code, 3, (some Jvm.ClassFile.FieldType.int)), 1, 6, 162)
set_option maxRecDepth 100000 in
theorem it_m172 : it_mt[172]? = some it_M172 := rfl
set_option maxRecDepth 100000 in
theorem it_cd172 : it_cds[172]? = some it_c172 := rfl
def it_M173 : it_Mt := ((9, ⟨"GrantBoard$SystemCalls", "isDriver", "(I)Z"⟩), (prog_12_method_3_code, 1, (some Jvm.ClassFile.FieldType.boolean)), 1, 0, 0)
set_option maxRecDepth 100000 in
theorem it_m173 : it_mt[173]? = some it_M173 := rfl
set_option maxRecDepth 100000 in
theorem it_cd173 : it_cds[173]? = some it_c173 := rfl
def it_M174 : it_Mt := ((9, ⟨"GrantBoard$SystemCalls", "yieldBy", "(LGrantBoard$Process;)V"⟩), (prog_12_method_4_code, 2, none), 1, 5, 141)
set_option maxRecDepth 100000 in
theorem it_m174 : it_mt[174]? = some it_M174 := rfl
set_option maxRecDepth 100000 in
theorem it_cd174 : it_cds[174]? = some it_c174 := rfl
def it_M175 : it_Mt := ((9, ⟨"GrantBoard$SystemCalls", "yieldAtOnce", "(LGrantBoard$Process;)V"⟩), (prog_12_method_5_code, 4, none), 1, 4, 118)
set_option maxRecDepth 100000 in
theorem it_m175 : it_mt[175]? = some it_M175 := rfl
set_option maxRecDepth 100000 in
theorem it_cd175 : it_cds[175]? = some it_c175 := rfl
def it_M176 : it_Mt := ((9, ⟨"GrantBoard$SystemCalls", "yieldFor", "(LGrantBoard$Process;II)V"⟩), (prog_12_method_6_code, 5, none), 3, 3, 95)
set_option maxRecDepth 100000 in
theorem it_m176 : it_mt[176]? = some it_M176 := rfl
set_option maxRecDepth 100000 in
theorem it_cd176 : it_cds[176]? = some it_c176 := rfl
def it_M177 : it_Mt := ((9, ⟨"GrantBoard$SystemCalls", "subscribe", "(LGrantBoard$Process;)V"⟩), (prog_12_method_7_code, 6, none), 1, 4, 95)
set_option maxRecDepth 100000 in
theorem it_m177 : it_mt[177]? = some it_M177 := rfl
set_option maxRecDepth 100000 in
theorem it_cd177 : it_cds[177]? = some it_c177 := rfl
def it_M178 : it_Mt := ((9, ⟨"GrantBoard$SystemCalls", "allow", "(LGrantBoard$Process;Z)V"⟩), (prog_12_method_8_code, 6, none), 2, 4, 94)
set_option maxRecDepth 100000 in
theorem it_m178 : it_mt[178]? = some it_M178 := rfl
set_option maxRecDepth 100000 in
theorem it_cd178 : it_cds[178]? = some it_c178 := rfl
def it_M179 : it_Mt := ((9, ⟨"GrantBoard$SystemCalls", "exchange", "(LGrantBoard$Process;I)V"⟩), (prog_12_method_9_code, 5, none), 2, 1, 22)
set_option maxRecDepth 100000 in
theorem it_m179 : it_mt[179]? = some it_M179 := rfl
set_option maxRecDepth 100000 in
theorem it_cd179 : it_cds[179]? = some it_c179 := rfl
def it_M180 : it_Mt := ((9, ⟨"GrantBoard$SystemCalls", "checkCommand", "(LGrantBoard$Process;)I"⟩), (prog_12_method_10_code, 4, (some Jvm.ClassFile.FieldType.int)), 1, 4, 94)
set_option maxRecDepth 100000 in
theorem it_m180 : it_mt[180]? = some it_M180 := rfl
set_option maxRecDepth 100000 in
theorem it_cd180 : it_cds[180]? = some it_c180 := rfl
def it_M181 : it_Mt := ((9, ⟨"GrantBoard$SystemCalls", "answerZero", "(LGrantBoard$Process;I)V"⟩), (prog_12_method_11_code, 2, none), 2, 1, 21)
set_option maxRecDepth 100000 in
theorem it_m181 : it_mt[181]? = some it_M181 := rfl
set_option maxRecDepth 100000 in
theorem it_cd181 : it_cds[181]? = some it_c181 := rfl
def it_M182 : it_Mt := ((9, ⟨"GrantBoard$SystemCalls", "hasCommand", "(LGrantBoard$Process;II)Z"⟩), (prog_12_method_12_code, 3, (some Jvm.ClassFile.FieldType.boolean)), 3, 0, 0)
set_option maxRecDepth 100000 in
theorem it_m182 : it_mt[182]? = some it_M182 := rfl
set_option maxRecDepth 100000 in
theorem it_cd182 : it_cds[182]? = some it_c182 := rfl
def it_M183 : it_Mt := ((9, ⟨"GrantBoard$SystemCalls", "askMemory", "(LGrantBoard$Process;)V"⟩), (prog_12_method_13_code, 3, none), 1, 3, 103)
set_option maxRecDepth 100000 in
theorem it_m183 : it_mt[183]? = some it_M183 := rfl
set_option maxRecDepth 100000 in
theorem it_cd183 : it_cds[183]? = some it_c183 := rfl
def it_M184 : it_Mt := ((9, ⟨"GrantBoard$SystemCalls", "moveBreak", "(LGrantBoard$Process;JZ)V"⟩), (prog_12_method_14_code, 8, none), 3, 2, 76)
set_option maxRecDepth 100000 in
theorem it_m184 : it_mt[184]? = some it_M184 := rfl
set_option maxRecDepth 100000 in
theorem it_cd184 : it_cds[184]? = some it_c184 := rfl
def it_M185 : it_Mt := ((9, ⟨"GrantBoard$SystemCalls", "exit", "(LGrantBoard$Process;)V"⟩), (prog_12_method_15_code, 2, none), 1, 5, 115)
set_option maxRecDepth 100000 in
theorem it_m185 : it_mt[185]? = some it_M185 := rfl
set_option maxRecDepth 100000 in
theorem it_cd185 : it_cds[185]? = some it_c185 := rfl
def it_M186 : it_Mt := ((10, ⟨"GrantBoard", "<init>", "()V"⟩), (prog_1_method_1_code, 1, none), 0, 3, 69)
set_option maxRecDepth 100000 in
theorem it_m186 : it_mt[186]? = some it_M186 := rfl
set_option maxRecDepth 100000 in
theorem it_cd186 : it_cds[186]? = some it_c186 := rfl
def it_M187 : it_Mt := ((10, ⟨"GrantBoard", "feed", "(IIIII)I"⟩), (prog_1_method_2_code, 6, (some Jvm.ClassFile.FieldType.int)), 5, 1, 22)
set_option maxRecDepth 100000 in
theorem it_m187 : it_mt[187]? = some it_M187 := rfl
set_option maxRecDepth 100000 in
theorem it_cd187 : it_cds[187]? = some it_c187 := rfl
def it_M188 : it_Mt := ((10, ⟨"GrantBoard", "end", "(I)I"⟩), (prog_1_method_3_code, 2, (some Jvm.ClassFile.FieldType.int)), 1, 0, 0)
set_option maxRecDepth 100000 in
theorem it_m188 : it_mt[188]? = some it_M188 := rfl
set_option maxRecDepth 100000 in
theorem it_cd188 : it_cds[188]? = some it_c188 := rfl
def it_M189 : it_Mt := ((10, ⟨"GrantBoard", "burn", "(I)I"⟩), (prog_1_method_4_code, 4, (some Jvm.ClassFile.FieldType.int)), 1, 1, 24)
set_option maxRecDepth 100000 in
theorem it_m189 : it_mt[189]? = some it_M189 := rfl
set_option maxRecDepth 100000 in
theorem it_cd189 : it_cds[189]? = some it_c189 := rfl
def it_M190 : it_Mt := ((10, ⟨"GrantBoard", "boot", "(IIIZI)I"⟩), (prog_1_method_5_code, 6, (some Jvm.ClassFile.FieldType.int)), 5, 6, 140)
set_option maxRecDepth 100000 in
theorem it_m190 : it_mt[190]? = some it_M190 := rfl
set_option maxRecDepth 100000 in
theorem it_cd190 : it_cds[190]? = some it_c190 := rfl
def it_M191 : it_Mt := ((10, ⟨"GrantBoard", "off", "()I"⟩), (prog_1_method_6_code, 1, (some Jvm.ClassFile.FieldType.int)), 0, 4, 90)
set_option maxRecDepth 100000 in
theorem it_m191 : it_mt[191]? = some it_M191 := rfl
set_option maxRecDepth 100000 in
theorem it_cd191 : it_cds[191]? = some it_c191 := rfl
def it_M192 : it_Mt := ((10, ⟨"GrantBoard", "cut", "(I)I"⟩), (prog_1_method_7_code, 2, (some Jvm.ClassFile.FieldType.int)), 1, 0, 0)
set_option maxRecDepth 100000 in
theorem it_m192 : it_mt[192]? = some it_M192 := rfl
set_option maxRecDepth 100000 in
theorem it_cd192 : it_cds[192]? = some it_c192 := rfl
def it_M193 : it_Mt := ((10, ⟨"GrantBoard", "run", "(I)I"⟩), (prog_1_method_8_code, 6, (some Jvm.ClassFile.FieldType.int)), 1, 7, 184)
set_option maxRecDepth 100000 in
theorem it_m193 : it_mt[193]? = some it_M193 := rfl
set_option maxRecDepth 100000 in
theorem it_cd193 : it_cds[193]? = some it_c193 := rfl
def it_M194 : it_Mt := ((10, ⟨"GrantBoard", "press", "(IZ)I"⟩), (prog_1_method_9_code, 3, (some Jvm.ClassFile.FieldType.int)), 2, 4, 102)
set_option maxRecDepth 100000 in
theorem it_m194 : it_mt[194]? = some it_M194 := rfl
set_option maxRecDepth 100000 in
theorem it_cd194 : it_cds[194]? = some it_c194 := rfl
def it_M195 : it_Mt := ((10, ⟨"GrantBoard", "type", "(I)I"⟩), (prog_1_method_10_code, 2, (some Jvm.ClassFile.FieldType.int)), 1, 5, 127)
set_option maxRecDepth 100000 in
theorem it_m195 : it_mt[195]? = some it_M195 := rfl
set_option maxRecDepth 100000 in
theorem it_cd195 : it_cds[195]? = some it_c195 := rfl
def it_M196 : it_Mt := ((10, ⟨"GrantBoard", "level", "(II)I"⟩), (prog_1_method_11_code, 3, (some Jvm.ClassFile.FieldType.int)), 2, 0, 0)
set_option maxRecDepth 100000 in
theorem it_m196 : it_mt[196]? = some it_M196 := rfl
set_option maxRecDepth 100000 in
theorem it_cd196 : it_cds[196]? = some it_c196 := rfl
def it_M197 : it_Mt := ((10, ⟨"GrantBoard", "hold", "(IZ)I"⟩), (prog_1_method_12_code, 4, (some Jvm.ClassFile.FieldType.int)), 2, 1, 21)
set_option maxRecDepth 100000 in
theorem it_m197 : it_mt[197]? = some it_M197 := rfl
set_option maxRecDepth 100000 in
theorem it_cd197 : it_cds[197]? = some it_c197 := rfl
def it_M198 : it_Mt := ((10, ⟨"GrantBoard", "restart", "(I)I"⟩), (prog_1_method_13_code, 3, (some Jvm.ClassFile.FieldType.int)), 1, 5, 112)
set_option maxRecDepth 100000 in
theorem it_m198 : it_mt[198]? = some it_M198 := rfl
set_option maxRecDepth 100000 in
theorem it_cd198 : it_cds[198]? = some it_c198 := rfl
def it_M199 : it_Mt := ((10, ⟨"GrantBoard", "count", "(I)I"⟩), (prog_1_method_14_code, 2, (some Jvm.ClassFile.FieldType.int)), 1, 0, 0)
set_option maxRecDepth 100000 in
theorem it_m199 : it_mt[199]? = some it_M199 := rfl
set_option maxRecDepth 100000 in
theorem it_cd199 : it_cds[199]? = some it_c199 := rfl
def it_M200 : it_Mt := ((10, ⟨"GrantBoard", "process", "(II)I"⟩), (prog_1_method_15_code, 4, (some Jvm.ClassFile.FieldType.int)), 2, 2, 41)
set_option maxRecDepth 100000 in
theorem it_m200 : it_mt[200]? = some it_M200 := rfl
set_option maxRecDepth 100000 in
theorem it_cd200 : it_cds[200]? = some it_c200 := rfl
def it_M201 : it_Mt := ((10, ⟨"GrantBoard", "register", "(II)I"⟩), (prog_1_method_16_code, 4, (some Jvm.ClassFile.FieldType.int)), 2, 1, 21)
set_option maxRecDepth 100000 in
theorem it_m201 : it_mt[201]? = some it_M201 := rfl
set_option maxRecDepth 100000 in
theorem it_cd201 : it_cds[201]? = some it_c201 := rfl
def it_M202 : it_Mt := ((10, ⟨"GrantBoard", "memory", "(I)I"⟩), (prog_1_method_17_code, 2, (some Jvm.ClassFile.FieldType.int)), 1, 2, 45)
set_option maxRecDepth 100000 in
theorem it_m202 : it_mt[202]? = some it_M202 := rfl
set_option maxRecDepth 100000 in
theorem it_cd202 : it_cds[202]? = some it_c202 := rfl
def it_M203 : it_Mt := ((10, ⟨"GrantBoard", "entry", "(III)I"⟩), (prog_1_method_18_code, 5, (some Jvm.ClassFile.FieldType.int)), 3, 3, 67)
set_option maxRecDepth 100000 in
theorem it_m203 : it_mt[203]? = some it_M203 := rfl
set_option maxRecDepth 100000 in
theorem it_cd203 : it_cds[203]? = some it_c203 := rfl
def it_M204 : it_Mt := ((10, ⟨"GrantBoard", "upcall", "(III)I"⟩), (prog_1_method_19_code, 5, (some Jvm.ClassFile.FieldType.int)), 3, 1, 21)
set_option maxRecDepth 100000 in
theorem it_m204 : it_mt[204]? = some it_M204 := rfl
set_option maxRecDepth 100000 in
theorem it_cd204 : it_cds[204]? = some it_c204 := rfl
def it_M205 : it_Mt := ((10, ⟨"GrantBoard", "grant", "(II)I"⟩), (prog_1_method_20_code, 4, (some Jvm.ClassFile.FieldType.int)), 2, 1, 21)
set_option maxRecDepth 100000 in
theorem it_m205 : it_mt[205]? = some it_M205 := rfl
set_option maxRecDepth 100000 in
theorem it_cd205 : it_cds[205]? = some it_c205 := rfl
def it_M206 : it_Mt := ((10, ⟨"GrantBoard", "out", "(I)I"⟩), (prog_1_method_21_code, 2, (some Jvm.ClassFile.FieldType.int)), 1, 1, 21)
set_option maxRecDepth 100000 in
theorem it_m206 : it_mt[206]? = some it_M206 := rfl
set_option maxRecDepth 100000 in
theorem it_cd206 : it_cds[206]? = some it_c206 := rfl
def it_M207 : it_Mt := ((10, ⟨"GrantBoard", "lamp", "(I)I"⟩), (prog_1_method_22_code, 2, (some Jvm.ClassFile.FieldType.int)), 1, 0, 0)
set_option maxRecDepth 100000 in
theorem it_m207 : it_mt[207]? = some it_M207 := rfl
set_option maxRecDepth 100000 in
theorem it_cd207 : it_cds[207]? = some it_c207 := rfl
def it_M208 : it_Mt := ((10, ⟨"GrantBoard", "event", "(II)I"⟩), (prog_1_method_23_code, 3, (some Jvm.ClassFile.FieldType.int)), 2, 1, 23)
set_option maxRecDepth 100000 in
theorem it_m208 : it_mt[208]? = some it_M208 := rfl
set_option maxRecDepth 100000 in
theorem it_cd208 : it_cds[208]? = some it_c208 := rfl
def it_M209 : it_Mt := ((10, ⟨"GrantBoard", "stored", "(III)I"⟩), (prog_1_method_24_code, 4, (some Jvm.ClassFile.FieldType.int)), 3, 5, 118)
set_option maxRecDepth 100000 in
theorem it_m209 : it_mt[209]? = some it_M209 := rfl
set_option maxRecDepth 100000 in
theorem it_cd209 : it_cds[209]? = some it_c209 := rfl
def it_M210 : it_Mt := ((10, ⟨"GrantBoard", "audit", "()I"⟩), (prog_1_method_25_code, 3, (some Jvm.ClassFile.FieldType.int)), 0, 5, 116)
set_option maxRecDepth 100000 in
theorem it_m210 : it_mt[210]? = some it_M210 := rfl
set_option maxRecDepth 100000 in
theorem it_cd210 : it_cds[210]? = some it_c210 := rfl
def it_M211 : it_Mt := ((10, ⟨"GrantBoard", "addToTape", "(I)V"⟩), (prog_1_method_26_code, 3, none), 1, 0, 0)
set_option maxRecDepth 100000 in
theorem it_m211 : it_mt[211]? = some it_M211 := rfl
set_option maxRecDepth 100000 in
theorem it_cd211 : it_cds[211]? = some it_c211 := rfl
def it_M212 : it_Mt := ((10, ⟨"GrantBoard", "powerDown", "()V"⟩), (prog_1_method_27_code, 1, none), 0, 3, 70)
set_option maxRecDepth 100000 in
theorem it_m212 : it_mt[212]? = some it_M212 := rfl
set_option maxRecDepth 100000 in
theorem it_cd212 : it_cds[212]? = some it_c212 := rfl
def it_M213 : it_Mt := ((10, ⟨"GrantBoard", "below", "(II)Z"⟩), (prog_1_method_28_code, 2, (some Jvm.ClassFile.FieldType.boolean)), 2, 0, 0)
set_option maxRecDepth 100000 in
theorem it_m213 : it_mt[213]? = some it_M213 := rfl
set_option maxRecDepth 100000 in
theorem it_cd213 : it_cds[213]? = some it_c213 := rfl
def it_M214 : it_Mt := ((10, ⟨"GrantBoard", "atMost", "(II)I"⟩), (prog_1_method_29_code, 2, (some Jvm.ClassFile.FieldType.int)), 2, 1, 21)
set_option maxRecDepth 100000 in
theorem it_m214 : it_mt[214]? = some it_M214 := rfl
set_option maxRecDepth 100000 in
theorem it_cd214 : it_cds[214]? = some it_c214 := rfl
def it_M215 : it_Mt := ((10, ⟨"GrantBoard", "liesIn", "(IIII)Z"⟩), (prog_1_method_30_code, 4, (some Jvm.ClassFile.FieldType.boolean)), 4, 0, 0)
set_option maxRecDepth 100000 in
theorem it_m215 : it_mt[215]? = some it_M215 := rfl
set_option maxRecDepth 100000 in
theorem it_cd215 : it_cds[215]? = some it_c215 := rfl
def it_M216 : it_Mt := ((10, ⟨"GrantBoard", "roundUp", "(I)I"⟩), (prog_1_method_31_code, 1, (some Jvm.ClassFile.FieldType.int)), 1, 0, 0)
set_option maxRecDepth 100000 in
theorem it_m216 : it_mt[216]? = some it_M216 := rfl
set_option maxRecDepth 100000 in
theorem it_cd216 : it_cds[216]? = some it_c216 := rfl
def it_M217 : it_Mt := ((11, ⟨"GrantBoardModel", "<init>", "()V"⟩), (prog_14_method_1_code, 2, none), 0, 1, 20)
set_option maxRecDepth 100000 in
theorem it_m217 : it_mt[217]? = some it_M217 := rfl
set_option maxRecDepth 100000 in
theorem it_cd217 : it_cds[217]? = some it_c217 := rfl
def it_M218 : it_Mt := ((11, ⟨"GrantBoardModel", "byteAt", "(I)I"⟩), (prog_14_method_2_code, 2, (some Jvm.ClassFile.FieldType.int)), 1, 0, 0)
set_option maxRecDepth 100000 in
theorem it_m218 : it_mt[218]? = some it_M218 := rfl
set_option maxRecDepth 100000 in
theorem it_cd218 : it_cds[218]? = some it_c218 := rfl
def it_M219 : it_Mt := ((11, ⟨"GrantBoardModel", "half", "(I)I"⟩), (prog_14_method_3_code, 2, (some Jvm.ClassFile.FieldType.int)), 1, 1, 21)
set_option maxRecDepth 100000 in
theorem it_m219 : it_mt[219]? = some it_M219 := rfl
set_option maxRecDepth 100000 in
theorem it_cd219 : it_cds[219]? = some it_c219 := rfl
def it_M220 : it_Mt := ((11, ⟨"GrantBoardModel", "word", "(I)I"⟩), (prog_14_method_4_code, 2, (some Jvm.ClassFile.FieldType.int)), 1, 2, 42)
set_option maxRecDepth 100000 in
theorem it_m220 : it_mt[220]? = some it_M220 := rfl
set_option maxRecDepth 100000 in
theorem it_cd220 : it_cds[220]? = some it_c220 := rfl
def it_M221 : it_Mt := ((11, ⟨"GrantBoardModel", "setWord", "(II)V"⟩), (prog_14_method_5_code, 4, none), 2, 0, 0)
set_option maxRecDepth 100000 in
theorem it_m221 : it_mt[221]? = some it_M221 := rfl
set_option maxRecDepth 100000 in
theorem it_cd221 : it_cds[221]? = some it_c221 := rfl
def it_M222 : it_Mt := ((11, ⟨"GrantBoardModel", "crc", "(II)I"⟩), (prog_14_method_6_code, 6, (some Jvm.ClassFile.FieldType.int)), 2, 1, 21)
set_option maxRecDepth 100000 in
theorem it_m222 : it_mt[222]? = some it_M222 := rfl
set_option maxRecDepth 100000 in
theorem it_cd222 : it_cds[222]? = some it_c222 := rfl
def it_M223 : it_Mt := ((11, ⟨"GrantBoardModel", "feed", "(IIIII)I"⟩), (prog_14_method_7_code, 6, (some Jvm.ClassFile.FieldType.int)), 5, 1, 22)
set_option maxRecDepth 100000 in
theorem it_m223 : it_mt[223]? = some it_M223 := rfl
set_option maxRecDepth 100000 in
theorem it_cd223 : it_cds[223]? = some it_c223 := rfl
def it_M224 : it_Mt := ((11, ⟨"GrantBoardModel", "feedWord", "(I)V"⟩), (prog_14_method_8_code, 3, none), 1, 0, 0)
set_option maxRecDepth 100000 in
theorem it_m224 : it_mt[224]? = some it_M224 := rfl
set_option maxRecDepth 100000 in
theorem it_cd224 : it_cds[224]? = some it_c224 := rfl
def it_M225 : it_Mt := ((11, ⟨"GrantBoardModel", "end", "(I)I"⟩), (prog_14_method_9_code, 2, (some Jvm.ClassFile.FieldType.int)), 1, 0, 0)
set_option maxRecDepth 100000 in
theorem it_m225 : it_mt[225]? = some it_M225 := rfl
set_option maxRecDepth 100000 in
theorem it_cd225 : it_cds[225]? = some it_c225 := rfl
def it_M226 : it_Mt := ((11, ⟨"GrantBoardModel", "burn", "(I)I"⟩), (prog_14_method_10_code, 4, (some Jvm.ClassFile.FieldType.int)), 1, 0, 0)
set_option maxRecDepth 100000 in
theorem it_m226 : it_mt[226]? = some it_M226 := rfl
set_option maxRecDepth 100000 in
theorem it_cd226 : it_cds[226]? = some it_c226 := rfl
def it_M227 : it_Mt := ((11, ⟨"GrantBoardModel", "off", "()I"⟩), (prog_14_method_11_code, 1, (some Jvm.ClassFile.FieldType.int)), 0, 1, 21)
set_option maxRecDepth 100000 in
theorem it_m227 : it_mt[227]? = some it_M227 := rfl
set_option maxRecDepth 100000 in
theorem it_cd227 : it_cds[227]? = some it_c227 := rfl
def it_M228 : it_Mt := ((11, ⟨"GrantBoardModel", "goOff", "()V"⟩), (prog_14_method_12_code, 2, none), 0, 0, 0)
set_option maxRecDepth 100000 in
theorem it_m228 : it_mt[228]? = some it_M228 := rfl
set_option maxRecDepth 100000 in
theorem it_cd228 : it_cds[228]? = some it_c228 := rfl
def it_M229 : it_Mt := ((11, ⟨"GrantBoardModel", "cut", "(I)I"⟩), (prog_14_method_13_code, 2, (some Jvm.ClassFile.FieldType.int)), 1, 0, 0)
set_option maxRecDepth 100000 in
theorem it_m229 : it_mt[229]? = some it_M229 := rfl
set_option maxRecDepth 100000 in
theorem it_cd229 : it_cds[229]? = some it_c229 := rfl
def it_M230 : it_Mt := ((11, ⟨"GrantBoardModel", "writes", "()Z"⟩), (prog_14_method_14_code, 1, (some Jvm.ClassFile.FieldType.boolean)), 0, 0, 0)
set_option maxRecDepth 100000 in
theorem it_m230 : it_mt[230]? = some it_M230 := rfl
set_option maxRecDepth 100000 in
theorem it_cd230 : it_cds[230]? = some it_c230 := rfl
def it_M231 : it_Mt := ((11, ⟨"GrantBoardModel", "putWord", "(II)V"⟩), (prog_14_method_15_code, 3, none), 2, 1, 23)
set_option maxRecDepth 100000 in
theorem it_m231 : it_mt[231]? = some it_M231 := rfl
set_option maxRecDepth 100000 in
theorem it_cd231 : it_cds[231]? = some it_c231 := rfl
def it_M232 : it_Mt := ((11, ⟨"GrantBoardModel", "erase", "(I)V"⟩), (prog_14_method_16_code, 4, none), 1, 1, 20)
set_option maxRecDepth 100000 in
theorem it_m232 : it_mt[232]? = some it_M232 := rfl
set_option maxRecDepth 100000 in
theorem it_cd232 : it_cds[232]? = some it_c232 := rfl
def it_M233 : it_Mt := ((11, ⟨"GrantBoardModel", "base", "(I)I"⟩), (prog_14_method_17_code, 2, (some Jvm.ClassFile.FieldType.int)), 1, 0, 0)
set_option maxRecDepth 100000 in
theorem it_m233 : it_mt[233]? = some it_M233 := rfl
set_option maxRecDepth 100000 in
theorem it_cd233 : it_cds[233]? = some it_c233 := rfl
def it_M234 : it_Mt := ((11, ⟨"GrantBoardModel", "isGood", "(I)Z"⟩), (prog_14_method_18_code, 2, (some Jvm.ClassFile.FieldType.boolean)), 1, 3, 63)
set_option maxRecDepth 100000 in
theorem it_m234 : it_mt[234]? = some it_M234 := rfl
set_option maxRecDepth 100000 in
theorem it_cd234 : it_cds[234]? = some it_c234 := rfl
def it_M235 : it_Mt := ((11, ⟨"GrantBoardModel", "recordEnd", "(II)I"⟩), (prog_14_method_19_code, 10, (some Jvm.ClassFile.FieldType.int)), 2, 3, 63)
set_option maxRecDepth 100000 in
theorem it_m235 : it_mt[235]? = some it_M235 := rfl
set_option maxRecDepth 100000 in
theorem it_cd235 : it_cds[235]? = some it_c235 := rfl
def it_M236 : it_Mt := ((11, ⟨"GrantBoardModel", "storeEnd", "(I)I"⟩), (prog_14_method_20_code, 4, (some Jvm.ClassFile.FieldType.int)), 1, 4, 92)
set_option maxRecDepth 100000 in
theorem it_m236 : it_mt[236]? = some it_M236 := rfl
set_option maxRecDepth 100000 in
theorem it_cd236 : it_cds[236]? = some it_c236 := rfl
def it_M237 : it_Mt := ((11, ⟨"GrantBoardModel", "isClean", "(I)Z"⟩), (prog_14_method_21_code, 3, (some Jvm.ClassFile.FieldType.boolean)), 1, 5, 115)
set_option maxRecDepth 100000 in
theorem it_m237 : it_mt[237]? = some it_M237 := rfl
set_option maxRecDepth 100000 in
theorem it_cd237 : it_cds[237]? = some it_c237 := rfl
def it_M238 : it_Mt := ((11, ⟨"GrantBoardModel", "lastRecord", "(III)I"⟩), (prog_14_method_22_code, 7, (some Jvm.ClassFile.FieldType.int)), 3, 4, 92)
set_option maxRecDepth 100000 in
theorem it_m238 : it_mt[238]? = some it_M238 := rfl
set_option maxRecDepth 100000 in
theorem it_cd238 : it_cds[238]? = some it_c238 := rfl
def it_M239 : it_Mt := ((11, ⟨"GrantBoardModel", "valueOf", "(II)I"⟩), (prog_14_method_23_code, 4, (some Jvm.ClassFile.FieldType.int)), 2, 5, 118)
set_option maxRecDepth 100000 in
theorem it_m239 : it_mt[239]? = some it_M239 := rfl
set_option maxRecDepth 100000 in
theorem it_cd239 : it_cds[239]? = some it_c239 := rfl
def it_M240 : it_Mt := ((11, ⟨"GrantBoardModel", "compact", "()V"⟩), (prog_14_method_24_code, 9, none), 0, 5, 118)
set_option maxRecDepth 100000 in
theorem it_m240 : it_mt[240]? = some it_M240 := rfl
set_option maxRecDepth 100000 in
theorem it_cd240 : it_cds[240]? = some it_c240 := rfl
def it_M241 : it_Mt := ((11, ⟨"GrantBoardModel", "bootStore", "()V"⟩), (prog_14_method_25_code, 4, none), 0, 6, 146)
set_option maxRecDepth 100000 in
theorem it_m241 : it_mt[241]? = some it_M241 := rfl
set_option maxRecDepth 100000 in
theorem it_cd241 : it_cds[241]? = some it_c241 := rfl
def it_M242 : it_Mt := ((11, ⟨"GrantBoardModel", "putRecord", "(IIII)Z"⟩), (prog_14_method_26_code, 12, (some Jvm.ClassFile.FieldType.boolean)), 4, 6, 146)
set_option maxRecDepth 100000 in
theorem it_m242 : it_mt[242]? = some it_M242 := rfl
set_option maxRecDepth 100000 in
theorem it_cd242 : it_cds[242]? = some it_c242 := rfl
def it_M243 : it_Mt := ((11, ⟨"GrantBoardModel", "stored", "(III)I"⟩), (prog_14_method_27_code, 6, (some Jvm.ClassFile.FieldType.int)), 3, 6, 141)
set_option maxRecDepth 100000 in
theorem it_m243 : it_mt[243]? = some it_M243 := rfl
set_option maxRecDepth 100000 in
theorem it_cd243 : it_cds[243]? = some it_c243 := rfl
def it_M244 : it_Mt := ((11, ⟨"GrantBoardModel", "isApp", "(I)Z"⟩), (prog_14_method_28_code, 4, (some Jvm.ClassFile.FieldType.boolean)), 1, 3, 63)
set_option maxRecDepth 100000 in
theorem it_m244 : it_mt[244]? = some it_M244 := rfl
set_option maxRecDepth 100000 in
theorem it_cd244 : it_cds[244]? = some it_c244 := rfl
def it_M245 : it_Mt := ((11, ⟨"GrantBoardModel", "readHead", "(I)Z"⟩), (prog_14_method_29_code, 10, (some Jvm.ClassFile.FieldType.boolean)), 1, 3, 63)
set_option maxRecDepth 100000 in
theorem it_m245 : it_mt[245]? = some it_M245 := rfl
set_option maxRecDepth 100000 in
theorem it_cd245 : it_cds[245]? = some it_c245 := rfl
def it_M246 : it_Mt := ((11, ⟨"GrantBoardModel", "hasCredentials", "(I)Z"⟩), (prog_14_method_30_code, 5, (some Jvm.ClassFile.FieldType.boolean)), 1, 3, 63)
set_option maxRecDepth 100000 in
theorem it_m246 : it_mt[246]? = some it_M246 := rfl
set_option maxRecDepth 100000 in
theorem it_cd246 : it_cds[246]? = some it_c246 := rfl
def it_M247 : it_Mt := ((11, ⟨"GrantBoardModel", "isLess", "(II)Z"⟩), (prog_14_method_31_code, 3, (some Jvm.ClassFile.FieldType.boolean)), 2, 0, 0)
set_option maxRecDepth 100000 in
theorem it_m247 : it_mt[247]? = some it_M247 := rfl
set_option maxRecDepth 100000 in
theorem it_cd247 : it_cds[247]? = some it_c247 := rfl
def it_M248 : it_Mt := ((11, ⟨"GrantBoardModel", "find", "(Z)V"⟩), (prog_14_method_32_code, 4, none), 1, 4, 92)
set_option maxRecDepth 100000 in
theorem it_m248 : it_mt[248]? = some it_M248 := rfl
set_option maxRecDepth 100000 in
theorem it_cd248 : it_cds[248]? = some it_c248 := rfl
def it_M249 : it_Mt := ((11, ⟨"GrantBoardModel", "isOutdone", "(I)Z"⟩), (prog_14_method_33_code, 5, (some Jvm.ClassFile.FieldType.boolean)), 1, 1, 22)
set_option maxRecDepth 100000 in
theorem it_m249 : it_mt[249]? = some it_M249 := rfl
set_option maxRecDepth 100000 in
theorem it_cd249 : it_cds[249]? = some it_c249 := rfl
def it_M250 : it_Mt := ((11, ⟨"GrantBoardModel", "loadApps", "(Z)V"⟩), (prog_14_method_34_code, 9, none), 1, 5, 115)
set_option maxRecDepth 100000 in
theorem it_m250 : it_mt[250]? = some it_M250 := rfl
set_option maxRecDepth 100000 in
theorem it_cd250 : it_cds[250]? = some it_c250 := rfl
def it_M251 : it_Mt := ((11, ⟨"GrantBoardModel", "boot", "(IIIZI)I"⟩), (prog_14_method_35_code, 7, (some Jvm.ClassFile.FieldType.int)), 5, 7, 169)
set_option maxRecDepth 100000 in
theorem it_m251 : it_mt[251]? = some it_M251 := rfl
set_option maxRecDepth 100000 in
theorem it_cd251 : it_cds[251]? = some it_c251 := rfl
def it_M252 : it_Mt := ((11, ⟨"GrantBoardModel", "control", "(I)I"⟩), (prog_14_method_36_code, 2, (some Jvm.ClassFile.FieldType.int)), 1, 0, 0)
set_option maxRecDepth 100000 in
theorem it_m252 : it_mt[252]? = some it_M252 := rfl
set_option maxRecDepth 100000 in
theorem it_cd252 : it_cds[252]? = some it_c252 := rfl
def it_M253 : it_Mt := ((11, ⟨"GrantBoardModel", "begin", "(I)V"⟩), (prog_14_method_37_code, 3, none), 1, 3, 63)
set_option maxRecDepth 100000 in
theorem it_m253 : it_mt[253]? = some it_M253 := rfl
set_option maxRecDepth 100000 in
theorem it_cd253 : it_cds[253]? = some it_c253 := rfl
def it_M254 : it_Mt := ((11, ⟨"GrantBoardModel", "appStart", "(I)I"⟩), (prog_14_method_38_code, 2, (some Jvm.ClassFile.FieldType.int)), 1, 2, 42)
set_option maxRecDepth 100000 in
theorem it_m254 : it_mt[254]? = some it_M254 := rfl
set_option maxRecDepth 100000 in
theorem it_cd254 : it_cds[254]? = some it_c254 := rfl
def it_M255 : it_Mt := ((11, ⟨"GrantBoardModel", "startAgain", "(I)V"⟩), (prog_14_method_39_code, 2, none), 1, 4, 85)
set_option maxRecDepth 100000 in
theorem it_m255 : it_mt[255]? = some it_M255 := rfl
set_option maxRecDepth 100000 in
theorem it_cd255 : it_cds[255]? = some it_c255 := rfl
def it_M256 : it_Mt := ((11, ⟨"GrantBoardModel", "over", "(II)V"⟩), (prog_14_method_40_code, 7, none), 2, 3, 63)
set_option maxRecDepth 100000 in
theorem it_m256 : it_mt[256]? = some it_M256 := rfl
set_option maxRecDepth 100000 in
theorem it_cd256 : it_cds[256]? = some it_c256 := rfl
def it_M257 : it_Mt := ((11, ⟨"GrantBoardModel", "note", "(III)V"⟩), (prog_14_method_41_code, 5, none), 3, 0, 0)
set_option maxRecDepth 100000 in
theorem it_m257 : it_mt[257]? = some it_M257 := rfl
set_option maxRecDepth 100000 in
theorem it_cd257 : it_cds[257]? = some it_c257 := rfl
def it_M258 : it_Mt := ((11, ⟨"GrantBoardModel", "fault", "(III)V"⟩), (prog_14_method_42_code, 4, none), 3, 5, 106)
set_option maxRecDepth 100000 in
theorem it_m258 : it_mt[258]? = some it_M258 := rfl
set_option maxRecDepth 100000 in
theorem it_cd258 : it_cds[258]? = some it_c258 := rfl
def it_M259 : it_Mt := ((11, ⟨"GrantBoardModel", "may", "(IIII)Z"⟩), (prog_14_method_43_code, 9, (some Jvm.ClassFile.FieldType.boolean)), 4, 0, 0)
set_option maxRecDepth 100000 in
theorem it_m259 : it_mt[259]? = some it_M259 := rfl
set_option maxRecDepth 100000 in
theorem it_cd259 : it_cds[259]? = some it_c259 := rfl
def it_M260 : it_Mt := ((11, ⟨"GrantBoardModel", "isOwn", "(IJJ)Z"⟩), (prog_14_method_44_code, 6, (some Jvm.ClassFile.FieldType.boolean)), 3, 0, 0)
set_option maxRecDepth 100000 in
theorem it_m260 : it_mt[260]? = some it_M260 := rfl
set_option maxRecDepth 100000 in
theorem it_cd260 : it_cds[260]? = some it_c260 := rfl
def it_M261 : it_Mt := ((11, ⟨"GrantBoardModel", "isInApp", "(IJJ)Z"⟩), (prog_14_method_45_code, 6, (some Jvm.ClassFile.FieldType.boolean)), 3, 0, 0)
set_option maxRecDepth 100000 in
theorem it_m261 : it_mt[261]? = some it_M261 := rfl
set_option maxRecDepth 100000 in
theorem it_cd261 : it_cds[261]? = some it_c261 := rfl
def it_M262 : it_Mt := ((11, ⟨"GrantBoardModel", "isPower", "(I)Z"⟩), (prog_14_method_46_code, 1, (some Jvm.ClassFile.FieldType.boolean)), 1, 0, 0)
set_option maxRecDepth 100000 in
theorem it_m262 : it_mt[262]? = some it_M262 := rfl
set_option maxRecDepth 100000 in
theorem it_cd262 : it_cds[262]? = some it_c262 := rfl
def it_M263 : it_Mt := ((11, ⟨"GrantBoardModel", "entry", "(III)I"⟩), (prog_14_method_47_code, 10, (some Jvm.ClassFile.FieldType.int)), 3, 1, 21)
set_option maxRecDepth 100000 in
theorem it_m263 : it_mt[263]? = some it_M263 := rfl
set_option maxRecDepth 100000 in
theorem it_cd263 : it_cds[263]? = some it_c263 := rfl
def it_M264 : it_Mt := ((11, ⟨"GrantBoardModel", "subscriptions", "(I)I"⟩), (prog_14_method_48_code, 1, (some Jvm.ClassFile.FieldType.int)), 1, 0, 0)
set_option maxRecDepth 100000 in
theorem it_m264 : it_mt[264]? = some it_M264 := rfl
set_option maxRecDepth 100000 in
theorem it_cd264 : it_cds[264]? = some it_c264 := rfl
def it_M265 : it_Mt := ((11, ⟨"GrantBoardModel", "readBuffers", "(I)I"⟩), (prog_14_method_49_code, 1, (some Jvm.ClassFile.FieldType.int)), 1, 0, 0)
set_option maxRecDepth 100000 in
theorem it_m265 : it_mt[265]? = some it_M265 := rfl
set_option maxRecDepth 100000 in
theorem it_cd265 : it_cds[265]? = some it_c265 := rfl
def it_M266 : it_Mt := ((11, ⟨"GrantBoardModel", "writeBuffers", "(I)I"⟩), (prog_14_method_50_code, 1, (some Jvm.ClassFile.FieldType.int)), 1, 0, 0)
set_option maxRecDepth 100000 in
theorem it_m266 : it_mt[266]? = some it_M266 := rfl
set_option maxRecDepth 100000 in
theorem it_cd266 : it_cds[266]? = some it_c266 := rfl
def it_M267 : it_Mt := ((11, ⟨"GrantBoardModel", "ownWords", "(I)I"⟩), (prog_14_method_51_code, 1, (some Jvm.ClassFile.FieldType.int)), 1, 0, 0)
set_option maxRecDepth 100000 in
theorem it_m267 : it_mt[267]? = some it_M267 := rfl
set_option maxRecDepth 100000 in
theorem it_cd267 : it_cds[267]? = some it_c267 := rfl
def it_M268 : it_Mt := ((11, ⟨"GrantBoardModel", "size", "(I)I"⟩), (prog_14_method_52_code, 1, (some Jvm.ClassFile.FieldType.int)), 1, 1, 20)
set_option maxRecDepth 100000 in
theorem it_m268 : it_mt[268]? = some it_M268 := rfl
set_option maxRecDepth 100000 in
theorem it_cd268 : it_cds[268]? = some it_c268 := rfl
def it_M269 : it_Mt := ((11, ⟨"GrantBoardModel", "own", "(II)I"⟩), (prog_14_method_53_code, 2, (some Jvm.ClassFile.FieldType.int)), 2, 1, 20)
set_option maxRecDepth 100000 in
theorem it_m269 : it_mt[269]? = some it_M269 := rfl
set_option maxRecDepth 100000 in
theorem it_cd269 : it_cds[269]? = some it_c269 := rfl
def it_M270 : it_Mt := ((11, ⟨"GrantBoardModel", "readBuffer", "(III)I"⟩), (prog_14_method_54_code, 3, (some Jvm.ClassFile.FieldType.int)), 3, 1, 20)
set_option maxRecDepth 100000 in
theorem it_m270 : it_mt[270]? = some it_M270 := rfl
set_option maxRecDepth 100000 in
theorem it_cd270 : it_cds[270]? = some it_c270 := rfl
def it_M271 : it_Mt := ((11, ⟨"GrantBoardModel", "writeBuffer", "(III)I"⟩), (prog_14_method_55_code, 3, (some Jvm.ClassFile.FieldType.int)), 3, 1, 20)
set_option maxRecDepth 100000 in
theorem it_m271 : it_mt[271]? = some it_M271 := rfl
set_option maxRecDepth 100000 in
theorem it_cd271 : it_cds[271]? = some it_c271 := rfl
def it_M272 : it_Mt := ((11, ⟨"GrantBoardModel", "grantOf", "(II)I"⟩), (prog_14_method_56_code, 4, (some Jvm.ClassFile.FieldType.int)), 2, 3, 63)
set_option maxRecDepth 100000 in
theorem it_m272 : it_mt[272]? = some it_M272 := rfl
set_option maxRecDepth 100000 in
theorem it_cd272 : it_cds[272]? = some it_c272 := rfl
def it_M273 : it_Mt := ((11, ⟨"GrantBoardModel", "needGrant", "(II)I"⟩), (prog_14_method_57_code, 6, (some Jvm.ClassFile.FieldType.int)), 2, 4, 86)
set_option maxRecDepth 100000 in
theorem it_m273 : it_mt[273]? = some it_M273 := rfl
set_option maxRecDepth 100000 in
theorem it_cd273 : it_cds[273]? = some it_c273 := rfl
def it_M274 : it_Mt := ((11, ⟨"GrantBoardModel", "comes", "(IIIIII)V"⟩), (prog_14_method_58_code, 9, none), 6, 5, 113)
set_option maxRecDepth 100000 in
theorem it_m274 : it_mt[274]? = some it_M274 := rfl
set_option maxRecDepth 100000 in
theorem it_cd274 : it_cds[274]? = some it_c274 := rfl
def it_M275 : it_Mt := ((11, ⟨"GrantBoardModel", "give", "(IIIIII)V"⟩), (prog_14_method_59_code, 7, none), 6, 1, 24)
set_option maxRecDepth 100000 in
theorem it_m275 : it_mt[275]? = some it_M275 := rfl
set_option maxRecDepth 100000 in
theorem it_cd275 : it_cds[275]? = some it_c275 := rfl
def it_M276 : it_Mt := ((11, ⟨"GrantBoardModel", "runs", "(IIIIII)V"⟩), (prog_14_method_60_code, 8, none), 6, 4, 86)
set_option maxRecDepth 100000 in
theorem it_m276 : it_mt[276]? = some it_M276 := rfl
set_option maxRecDepth 100000 in
theorem it_cd276 : it_cds[276]? = some it_c276 := rfl
def it_M277 : it_Mt := ((11, ⟨"GrantBoardModel", "removeCall", "(II)V"⟩), (prog_14_method_61_code, 4, none), 2, 0, 0)
set_option maxRecDepth 100000 in
theorem it_m277 : it_mt[277]? = some it_M277 := rfl
set_option maxRecDepth 100000 in
theorem it_cd277 : it_cds[277]? = some it_c277 := rfl
def it_M278 : it_Mt := ((11, ⟨"GrantBoardModel", "runFirst", "(I)V"⟩), (prog_14_method_62_code, 8, none), 1, 5, 113)
set_option maxRecDepth 100000 in
theorem it_m278 : it_mt[278]? = some it_M278 := rfl
set_option maxRecDepth 100000 in
theorem it_cd278 : it_cds[278]? = some it_c278 := rfl
def it_M279 : it_Mt := ((11, ⟨"GrantBoardModel", "answer", "(IIII)V"⟩), (prog_14_method_63_code, 5, none), 4, 0, 0)
set_option maxRecDepth 100000 in
theorem it_m279 : it_mt[279]? = some it_M279 := rfl
set_option maxRecDepth 100000 in
theorem it_cd279 : it_cds[279]? = some it_c279 := rfl
def it_M280 : it_Mt := ((11, ⟨"GrantBoardModel", "ok", "(I)V"⟩), (prog_14_method_64_code, 2, none), 1, 1, 24)
set_option maxRecDepth 100000 in
theorem it_m280 : it_mt[280]? = some it_M280 := rfl
set_option maxRecDepth 100000 in
theorem it_cd280 : it_cds[280]? = some it_c280 := rfl
def it_M281 : it_Mt := ((11, ⟨"GrantBoardModel", "ok1", "(II)V"⟩), (prog_14_method_65_code, 3, none), 2, 1, 24)
set_option maxRecDepth 100000 in
theorem it_m281 : it_mt[281]? = some it_M281 := rfl
set_option maxRecDepth 100000 in
theorem it_cd281 : it_cds[281]? = some it_c281 := rfl
def it_M282 : it_Mt := ((11, ⟨"GrantBoardModel", "fail", "(II)V"⟩), (prog_14_method_66_code, 3, none), 2, 1, 24)
set_option maxRecDepth 100000 in
theorem it_m282 : it_mt[282]? = some it_M282 := rfl
set_option maxRecDepth 100000 in
theorem it_cd282 : it_cds[282]? = some it_c282 := rfl
def it_M283 : it_Mt := ((11, ⟨"GrantBoardModel", "fail2", "(IIII)V"⟩), (prog_14_method_67_code, 5, none), 4, 0, 0)
set_option maxRecDepth 100000 in
theorem it_m283 : it_mt[283]? = some it_M283 := rfl
set_option maxRecDepth 100000 in
theorem it_cd283 : it_cds[283]? = some it_c283 := rfl
def it_M284 : it_Mt := ((11, ⟨"GrantBoardModel", "systemCall", "(I)V"⟩), (prog_14_method_68_code, 7, none), 1, 9, 235)
set_option maxRecDepth 100000 in
theorem it_m284 : it_mt[284]? = some it_M284 := rfl
set_option maxRecDepth 100000 in
theorem it_cd284 : it_cds[284]? = some it_c284 := rfl
def it_M285 : it_Mt := ((11, ⟨"GrantBoardModel", "yields", "(IIII)V"⟩), (prog_14_method_69_code, 6, none), 4, 6, 140)
set_option maxRecDepth 100000 in
theorem it_m285 : it_mt[285]? = some it_M285 := rfl
set_option maxRecDepth 100000 in
theorem it_cd285 : it_cds[285]? = some it_c285 := rfl
def it_M286 : it_Mt := ((11, ⟨"GrantBoardModel", "waitFor", "(III)V"⟩), (prog_14_method_70_code, 9, none), 3, 2, 50)
set_option maxRecDepth 100000 in
theorem it_m286 : it_mt[286]? = some it_M286 := rfl
set_option maxRecDepth 100000 in
theorem it_cd286 : it_cds[286]? = some it_c286 := rfl
def it_M287 : it_Mt := ((11, ⟨"GrantBoardModel", "isDriver", "(I)Z"⟩), (prog_14_method_71_code, 1, (some Jvm.ClassFile.FieldType.boolean)), 1, 0, 0)
set_option maxRecDepth 100000 in
theorem it_m287 : it_mt[287]? = some it_M287 := rfl
set_option maxRecDepth 100000 in
theorem it_cd287 : it_cds[287]? = some it_c287 := rfl
def it_M288 : it_Mt := ((11, ⟨"GrantBoardModel", "subscribe", "(IIIII)V"⟩), (prog_14_method_72_code, 13, none), 5, 5, 111)
set_option maxRecDepth 100000 in
theorem it_m288 : it_mt[288]? = some it_M288 := rfl
set_option maxRecDepth 100000 in
theorem it_cd288 : it_cds[288]? = some it_c288 := rfl
def it_M289 : it_Mt := ((11, ⟨"GrantBoardModel", "allow", "(IZIIII)V"⟩), (prog_14_method_73_code, 12, none), 6, 5, 111)
set_option maxRecDepth 100000 in
theorem it_m289 : it_mt[289]? = some it_M289 := rfl
set_option maxRecDepth 100000 in
theorem it_cd289 : it_cds[289]? = some it_c289 := rfl
def it_M290 : it_Mt := ((11, ⟨"GrantBoardModel", "moveMemory", "(III)V"⟩), (prog_14_method_74_code, 4, none), 3, 5, 117)
set_option maxRecDepth 100000 in
theorem it_m290 : it_mt[290]? = some it_M290 := rfl
set_option maxRecDepth 100000 in
theorem it_cd290 : it_cds[290]? = some it_c290 := rfl
def it_M291 : it_Mt := ((11, ⟨"GrantBoardModel", "move", "(IJZ)V"⟩), (prog_14_method_75_code, 8, none), 3, 4, 90)
set_option maxRecDepth 100000 in
theorem it_m291 : it_mt[291]? = some it_M291 := rfl
set_option maxRecDepth 100000 in
theorem it_cd291 : it_cds[291]? = some it_c291 := rfl
def it_M292 : it_Mt := ((11, ⟨"GrantBoardModel", "buffersEnd", "(I)I"⟩), (prog_14_method_76_code, 8, (some Jvm.ClassFile.FieldType.int)), 1, 3, 63)
set_option maxRecDepth 100000 in
theorem it_m292 : it_mt[292]? = some it_M292 := rfl
set_option maxRecDepth 100000 in
theorem it_cd292 : it_cds[292]? = some it_c292 := rfl
def it_M293 : it_Mt := ((11, ⟨"GrantBoardModel", "exit", "(III)V"⟩), (prog_14_method_77_code, 4, none), 3, 5, 106)
set_option maxRecDepth 100000 in
theorem it_m293 : it_mt[293]? = some it_M293 := rfl
set_option maxRecDepth 100000 in
theorem it_cd293 : it_cds[293]? = some it_c293 := rfl
def it_M294 : it_Mt := ((11, ⟨"GrantBoardModel", "isBarred", "(III)Z"⟩), (prog_14_method_78_code, 7, (some Jvm.ClassFile.FieldType.boolean)), 3, 3, 63)
set_option maxRecDepth 100000 in
theorem it_m294 : it_mt[294]? = some it_M294 := rfl
set_option maxRecDepth 100000 in
theorem it_cd294 : it_cds[294]? = some it_c294 := rfl
def it_M295 : it_Mt := ((11, ⟨"GrantBoardModel", "commands", "(II)I"⟩), (prog_14_method_79_code, 3, (some Jvm.ClassFile.FieldType.int)), 2, 0, 0)
set_option maxRecDepth 100000 in
theorem it_m295 : it_mt[295]? = some it_M295 := rfl
set_option maxRecDepth 100000 in
theorem it_cd295 : it_cds[295]? = some it_c295 := rfl
def it_M296 : it_Mt := ((11, ⟨"GrantBoardModel", "command", "(IIIII)V"⟩), (prog_14_method_80_code, 8, none), 5, 8, 208)
set_option maxRecDepth 100000 in
theorem it_m296 : it_mt[296]? = some it_M296 := rfl
set_option maxRecDepth 100000 in
theorem it_cd296 : it_cds[296]? = some it_c296 := rfl
def it_M297 : it_Mt := ((11, ⟨"GrantBoardModel", "least", "(II)I"⟩), (prog_14_method_81_code, 2, (some Jvm.ClassFile.FieldType.int)), 2, 0, 0)
set_option maxRecDepth 100000 in
theorem it_m297 : it_mt[297]? = some it_M297 := rfl
set_option maxRecDepth 100000 in
theorem it_cd297 : it_cds[297]? = some it_c297 := rfl
def it_M298 : it_Mt := ((11, ⟨"GrantBoardModel", "alarm", "(IIIII)V"⟩), (prog_14_method_82_code, 8, none), 5, 3, 63)
set_option maxRecDepth 100000 in
theorem it_m298 : it_mt[298]? = some it_M298 := rfl
set_option maxRecDepth 100000 in
theorem it_cd298 : it_cds[298]? = some it_c298 := rfl
def it_M299 : it_Mt := ((11, ⟨"GrantBoardModel", "console", "(IIII)V"⟩), (prog_14_method_83_code, 8, none), 4, 6, 141)
set_option maxRecDepth 100000 in
theorem it_m299 : it_mt[299]? = some it_M299 := rfl
set_option maxRecDepth 100000 in
theorem it_cd299 : it_cds[299]? = some it_c299 := rfl
def it_M300 : it_Mt := ((11, ⟨"GrantBoardModel", "lamps", "(III)V"⟩), (prog_14_method_84_code, 4, none), 3, 2, 46)
set_option maxRecDepth 100000 in
theorem it_m300 : it_mt[300]? = some it_M300 := rfl
set_option maxRecDepth 100000 in
theorem it_cd300 : it_cds[300]? = some it_c300 := rfl
def it_M301 : it_Mt := ((11, ⟨"GrantBoardModel", "buttons", "(IIII)V"⟩), (prog_14_method_85_code, 5, none), 4, 3, 63)
set_option maxRecDepth 100000 in
theorem it_m301 : it_mt[301]? = some it_M301 := rfl
set_option maxRecDepth 100000 in
theorem it_cd301 : it_cds[301]? = some it_c301 := rfl
def it_M302 : it_Mt := ((11, ⟨"GrantBoardModel", "random", "(III)V"⟩), (prog_14_method_86_code, 7, none), 3, 6, 141)
set_option maxRecDepth 100000 in
theorem it_m302 : it_mt[302]? = some it_M302 := rfl
set_option maxRecDepth 100000 in
theorem it_cd302 : it_cds[302]? = some it_c302 := rfl
def it_M303 : it_Mt := ((11, ⟨"GrantBoardModel", "store", "(IIIII)V"⟩), (prog_14_method_87_code, 12, none), 5, 7, 177)
set_option maxRecDepth 100000 in
theorem it_m303 : it_mt[303]? = some it_M303 := rfl
set_option maxRecDepth 100000 in
theorem it_cd303 : it_cds[303]? = some it_c303 := rfl
def it_M304 : it_Mt := ((11, ⟨"GrantBoardModel", "sampler", "(IIIII)V"⟩), (prog_14_method_88_code, 7, none), 5, 6, 141)
set_option maxRecDepth 100000 in
theorem it_m304 : it_mt[304]? = some it_M304 := rfl
set_option maxRecDepth 100000 in
theorem it_cd304 : it_cds[304]? = some it_c304 := rfl
def it_M305 : it_Mt := ((11, ⟨"GrantBoardModel", "post", "(IIIII)V"⟩), (prog_14_method_89_code, 8, none), 5, 7, 170)
set_option maxRecDepth 100000 in
theorem it_m305 : it_mt[305]? = some it_M305 := rfl
set_option maxRecDepth 100000 in
theorem it_cd305 : it_cds[305]? = some it_c305 := rfl
def it_M306 : it_Mt := ((11, ⟨"GrantBoardModel", "named", "(II)I"⟩), (prog_14_method_90_code, 6, (some Jvm.ClassFile.FieldType.int)), 2, 0, 0)
set_option maxRecDepth 100000 in
theorem it_m306 : it_mt[306]? = some it_M306 := rfl
set_option maxRecDepth 100000 in
theorem it_cd306 : it_cds[306]? = some it_c306 := rfl
def it_M307 : it_Mt := ((11, ⟨"GrantBoardModel", "send", "(IIII)V"⟩), (prog_14_method_91_code, 10, none), 4, 6, 141)
set_option maxRecDepth 100000 in
theorem it_m307 : it_mt[307]? = some it_M307 := rfl
set_option maxRecDepth 100000 in
theorem it_cd307 : it_cds[307]? = some it_c307 := rfl
def it_M308 : it_Mt := ((11, ⟨"GrantBoardModel", "tickAlarms", "()V"⟩), (prog_14_method_92_code, 4, none), 0, 6, 141)
set_option maxRecDepth 100000 in
theorem it_m308 : it_mt[308]? = some it_M308 := rfl
set_option maxRecDepth 100000 in
theorem it_cd308 : it_cds[308]? = some it_c308 := rfl
def it_M309 : it_Mt := ((11, ⟨"GrantBoardModel", "first", "(Z)I"⟩), (prog_14_method_93_code, 6, (some Jvm.ClassFile.FieldType.int)), 1, 4, 86)
set_option maxRecDepth 100000 in
theorem it_m309 : it_mt[309]? = some it_M309 := rfl
set_option maxRecDepth 100000 in
theorem it_cd309 : it_cds[309]? = some it_c309 := rfl
def it_M310 : it_Mt := ((11, ⟨"GrantBoardModel", "tickConsole", "()V"⟩), (prog_14_method_94_code, 7, none), 0, 6, 141)
set_option maxRecDepth 100000 in
theorem it_m310 : it_mt[310]? = some it_M310 := rfl
set_option maxRecDepth 100000 in
theorem it_cd310 : it_cds[310]? = some it_c310 := rfl
def it_M311 : it_Mt := ((11, ⟨"GrantBoardModel", "tickSampler", "()V"⟩), (prog_14_method_95_code, 5, none), 0, 6, 141)
set_option maxRecDepth 100000 in
theorem it_m311 : it_mt[311]? = some it_M311 := rfl
set_option maxRecDepth 100000 in
theorem it_cd311 : it_cds[311]? = some it_c311 := rfl
def it_M312 : it_Mt := ((11, ⟨"GrantBoardModel", "canRun", "(I)Z"⟩), (prog_14_method_96_code, 2, (some Jvm.ClassFile.FieldType.boolean)), 1, 0, 0)
set_option maxRecDepth 100000 in
theorem it_m312 : it_mt[312]? = some it_M312 := rfl
set_option maxRecDepth 100000 in
theorem it_cd312 : it_cds[312]? = some it_c312 := rfl
def it_M313 : it_Mt := ((11, ⟨"GrantBoardModel", "beginTurn", "(I)V"⟩), (prog_14_method_97_code, 2, none), 1, 0, 0)
set_option maxRecDepth 100000 in
theorem it_m313 : it_mt[313]? = some it_M313 := rfl
set_option maxRecDepth 100000 in
theorem it_cd313 : it_cds[313]? = some it_c313 := rfl
def it_M314 : it_Mt := ((11, ⟨"GrantBoardModel", "choose", "()I"⟩), (prog_14_method_98_code, 3, (some Jvm.ClassFile.FieldType.int)), 0, 2, 71)
set_option maxRecDepth 100000 in
theorem it_m314 : it_mt[314]? = some it_M314 := rfl
set_option maxRecDepth 100000 in
theorem it_cd314 : it_cds[314]? = some it_c314 := rfl
def it_M315 : it_Mt := ((11, ⟨"GrantBoardModel", "chooseLevel", "()V"⟩), (prog_14_method_99_code, 4, none), 0, 1, 48)
set_option maxRecDepth 100000 in
theorem it_m315 : it_mt[315]? = some it_M315 := rfl
set_option maxRecDepth 100000 in
theorem it_cd315 : it_cds[315]? = some it_c315 := rfl
def it_M316 : it_Mt := ((11, ⟨"GrantBoardModel", "tick", "()V"⟩), (prog_14_method_100_code, 2, none), 0, 12, 313)
set_option maxRecDepth 100000 in
theorem it_m316 : it_mt[316]? = some it_M316 := rfl
set_option maxRecDepth 100000 in
theorem it_cd316 : it_cds[316]? = some it_c316 := rfl
def it_M317 : it_Mt := ((11, ⟨"GrantBoardModel", "run", "(I)I"⟩), (prog_14_method_101_code, 3, (some Jvm.ClassFile.FieldType.int)), 1, 13, 334)
set_option maxRecDepth 100000 in
theorem it_m317 : it_mt[317]? = some it_M317 := rfl
set_option maxRecDepth 100000 in
theorem it_cd317 : it_cds[317]? = some it_c317 := rfl
def it_M318 : it_Mt := ((11, ⟨"GrantBoardModel", "reg", "(II)I"⟩), (prog_14_method_102_code, 3, (some Jvm.ClassFile.FieldType.int)), 2, 0, 0)
set_option maxRecDepth 100000 in
theorem it_m318 : it_mt[318]? = some it_M318 := rfl
set_option maxRecDepth 100000 in
theorem it_cd318 : it_cds[318]? = some it_c318 := rfl
def it_M319 : it_Mt := ((11, ⟨"GrantBoardModel", "set", "(III)V"⟩), (prog_14_method_103_code, 4, none), 3, 0, 0)
set_option maxRecDepth 100000 in
theorem it_m319 : it_mt[319]? = some it_M319 := rfl
set_option maxRecDepth 100000 in
theorem it_cd319 : it_cds[319]? = some it_c319 := rfl
def it_M320 : it_Mt := ((11, ⟨"GrantBoardModel", "step", "(I)V"⟩), (prog_14_method_104_code, 4, none), 1, 11, 290)
set_option maxRecDepth 100000 in
theorem it_m320 : it_mt[320]? = some it_M320 := rfl
set_option maxRecDepth 100000 in
theorem it_cd320 : it_cds[320]? = some it_c320 := rfl
def it_M321 : it_Mt := ((11, ⟨"GrantBoardModel", "none", "(II)V"⟩), (prog_14_method_105_code, 3, none), 2, 6, 129)
set_option maxRecDepth 100000 in
theorem it_m321 : it_mt[321]? = some it_M321 := rfl
set_option maxRecDepth 100000 in
theorem it_cd321 : it_cds[321]? = some it_c321 := rfl
def it_M322 : it_Mt := ((11, ⟨"GrantBoardModel", "full", "(II)V"⟩), (prog_14_method_106_code, 10, none), 2, 10, 261)
set_option maxRecDepth 100000 in
theorem it_m322 : it_mt[322]? = some it_M322 := rfl
set_option maxRecDepth 100000 in
theorem it_cd322 : it_cds[322]? = some it_c322 := rfl
def it_M323 : it_Mt := ((11, ⟨"GrantBoardModel", "go", "(III)V"⟩), (prog_14_method_107_code, 4, none), 3, 1, 23)
set_option maxRecDepth 100000 in
theorem it_m323 : it_mt[323]? = some it_M323 := rfl
set_option maxRecDepth 100000 in
theorem it_cd323 : it_cds[323]? = some it_c323 := rfl
def it_M324 : it_Mt := ((11, ⟨"GrantBoardModel", "branch", "(IIIII)V"⟩), (prog_14_method_108_code, 8, none), 5, 7, 151)
set_option maxRecDepth 100000 in
theorem it_m324 : it_mt[324]? = some it_M324 := rfl
set_option maxRecDepth 100000 in
theorem it_cd324 : it_cds[324]? = some it_c324 := rfl
def it_M325 : it_Mt := ((11, ⟨"GrantBoardModel", "load", "(IIIII)V"⟩), (prog_14_method_109_code, 8, none), 5, 6, 129)
set_option maxRecDepth 100000 in
theorem it_m325 : it_mt[325]? = some it_M325 := rfl
set_option maxRecDepth 100000 in
theorem it_cd325 : it_cds[325]? = some it_c325 := rfl
def it_M326 : it_Mt := ((11, ⟨"GrantBoardModel", "keep", "(IIIII)V"⟩), (prog_14_method_110_code, 8, none), 5, 6, 129)
set_option maxRecDepth 100000 in
theorem it_m326 : it_mt[326]? = some it_M326 := rfl
set_option maxRecDepth 100000 in
theorem it_cd326 : it_cds[326]? = some it_c326 := rfl
def it_M327 : it_Mt := ((11, ⟨"GrantBoardModel", "immediate", "(IIIII)V"⟩), (prog_14_method_111_code, 8, none), 5, 7, 151)
set_option maxRecDepth 100000 in
theorem it_m327 : it_mt[327]? = some it_M327 := rfl
set_option maxRecDepth 100000 in
theorem it_cd327 : it_cds[327]? = some it_c327 := rfl
def it_M328 : it_Mt := ((11, ⟨"GrantBoardModel", "work", "(IZII)I"⟩), (prog_14_method_112_code, 5, (some Jvm.ClassFile.FieldType.int)), 4, 1, 22)
set_option maxRecDepth 100000 in
theorem it_m328 : it_mt[328]? = some it_M328 := rfl
set_option maxRecDepth 100000 in
theorem it_cd328 : it_cds[328]? = some it_c328 := rfl
def it_M329 : it_Mt := ((11, ⟨"GrantBoardModel", "operation", "(IIIIII)V"⟩), (prog_14_method_113_code, 8, none), 6, 7, 151)
set_option maxRecDepth 100000 in
theorem it_m329 : it_mt[329]? = some it_M329 := rfl
set_option maxRecDepth 100000 in
theorem it_cd329 : it_cds[329]? = some it_c329 := rfl
def it_M330 : it_Mt := ((11, ⟨"GrantBoardModel", "multiply", "(III)I"⟩), (prog_14_method_114_code, 4, (some Jvm.ClassFile.FieldType.int)), 3, 0, 0)
set_option maxRecDepth 100000 in
theorem it_m330 : it_mt[330]? = some it_M330 := rfl
set_option maxRecDepth 100000 in
theorem it_cd330 : it_cds[330]? = some it_c330 := rfl
def it_M331 : it_Mt := ((11, ⟨"GrantBoardModel", "atomic", "(IIIIII)V"⟩), (prog_14_method_115_code, 10, none), 6, 7, 151)
set_option maxRecDepth 100000 in
theorem it_m331 : it_mt[331]? = some it_M331 := rfl
set_option maxRecDepth 100000 in
theorem it_cd331 : it_cds[331]? = some it_c331 := rfl
def it_M332 : it_Mt := ((11, ⟨"GrantBoardModel", "swapped", "(III)I"⟩), (prog_14_method_116_code, 4, (some Jvm.ClassFile.FieldType.int)), 3, 1, 48)
set_option maxRecDepth 100000 in
theorem it_m332 : it_mt[332]? = some it_M332 := rfl
set_option maxRecDepth 100000 in
theorem it_cd332 : it_cds[332]? = some it_c332 := rfl
def it_M333 : it_Mt := ((11, ⟨"GrantBoardModel", "bit", "(III)I"⟩), (prog_14_method_117_code, 3, (some Jvm.ClassFile.FieldType.int)), 3, 0, 0)
set_option maxRecDepth 100000 in
theorem it_m333 : it_mt[333]? = some it_M333 := rfl
set_option maxRecDepth 100000 in
theorem it_cd333 : it_cds[333]? = some it_c333 := rfl
def it_M334 : it_Mt := ((11, ⟨"GrantBoardModel", "go2", "(III)V"⟩), (prog_14_method_118_code, 4, none), 3, 1, 23)
set_option maxRecDepth 100000 in
theorem it_m334 : it_mt[334]? = some it_M334 := rfl
set_option maxRecDepth 100000 in
theorem it_cd334 : it_cds[334]? = some it_c334 := rfl
def it_M335 : it_Mt := ((11, ⟨"GrantBoardModel", "six", "(I)I"⟩), (prog_14_method_119_code, 1, (some Jvm.ClassFile.FieldType.int)), 1, 1, 22)
set_option maxRecDepth 100000 in
theorem it_m335 : it_mt[335]? = some it_M335 := rfl
set_option maxRecDepth 100000 in
theorem it_cd335 : it_cds[335]? = some it_c335 := rfl
def it_M336 : it_Mt := ((11, ⟨"GrantBoardModel", "compressed", "(II)V"⟩), (prog_14_method_120_code, 4, none), 2, 9, 206)
set_option maxRecDepth 100000 in
theorem it_m336 : it_mt[336]? = some it_M336 := rfl
set_option maxRecDepth 100000 in
theorem it_cd336 : it_cds[336]? = some it_c336 := rfl
def it_M337 : it_Mt := ((11, ⟨"GrantBoardModel", "quarter0", "(III)V"⟩), (prog_14_method_121_code, 8, none), 3, 7, 156)
set_option maxRecDepth 100000 in
theorem it_m337 : it_mt[337]? = some it_M337 := rfl
set_option maxRecDepth 100000 in
theorem it_cd337 : it_cds[337]? = some it_c337 := rfl
def it_M338 : it_Mt := ((11, ⟨"GrantBoardModel", "quarter1", "(III)V"⟩), (prog_14_method_122_code, 8, none), 3, 8, 179)
set_option maxRecDepth 100000 in
theorem it_m338 : it_mt[338]? = some it_M338 := rfl
set_option maxRecDepth 100000 in
theorem it_cd338 : it_cds[338]? = some it_c338 := rfl
def it_M339 : it_Mt := ((11, ⟨"GrantBoardModel", "arithmetic", "(II)V"⟩), (prog_14_method_123_code, 9, none), 2, 7, 151)
set_option maxRecDepth 100000 in
theorem it_m339 : it_mt[339]? = some it_M339 := rfl
set_option maxRecDepth 100000 in
theorem it_cd339 : it_cds[339]? = some it_c339 := rfl
def it_M340 : it_Mt := ((11, ⟨"GrantBoardModel", "quarter2", "(III)V"⟩), (prog_14_method_124_code, 9, none), 3, 7, 156)
set_option maxRecDepth 100000 in
theorem it_m340 : it_mt[340]? = some it_M340 := rfl
set_option maxRecDepth 100000 in
theorem it_cd340 : it_cds[340]? = some it_c340 := rfl
def it_M341 : it_Mt := ((11, ⟨"GrantBoardModel", "isProcess", "(I)Z"⟩), (prog_14_method_125_code, 2, (some Jvm.ClassFile.FieldType.boolean)), 1, 0, 0)
set_option maxRecDepth 100000 in
theorem it_m341 : it_mt[341]? = some it_M341 := rfl
set_option maxRecDepth 100000 in
theorem it_cd341 : it_cds[341]? = some it_c341 := rfl
def it_M342 : it_Mt := ((11, ⟨"GrantBoardModel", "press", "(IZ)I"⟩), (prog_14_method_126_code, 5, (some Jvm.ClassFile.FieldType.int)), 2, 6, 141)
set_option maxRecDepth 100000 in
theorem it_m342 : it_mt[342]? = some it_M342 := rfl
set_option maxRecDepth 100000 in
theorem it_cd342 : it_cds[342]? = some it_c342 := rfl
def it_M343 : it_Mt := ((11, ⟨"GrantBoardModel", "type", "(I)I"⟩), (prog_14_method_127_code, 7, (some Jvm.ClassFile.FieldType.int)), 1, 6, 141)
set_option maxRecDepth 100000 in
theorem it_m343 : it_mt[343]? = some it_M343 := rfl
set_option maxRecDepth 100000 in
theorem it_cd343 : it_cds[343]? = some it_c343 := rfl
def it_M344 : it_Mt := ((11, ⟨"GrantBoardModel", "level", "(II)I"⟩), (prog_14_method_128_code, 3, (some Jvm.ClassFile.FieldType.int)), 2, 0, 0)
set_option maxRecDepth 100000 in
theorem it_m344 : it_mt[344]? = some it_M344 := rfl
set_option maxRecDepth 100000 in
theorem it_cd344 : it_cds[344]? = some it_c344 := rfl
def it_M345 : it_Mt := ((11, ⟨"GrantBoardModel", "hold", "(IZ)I"⟩), (prog_14_method_129_code, 4, (some Jvm.ClassFile.FieldType.int)), 2, 1, 21)
set_option maxRecDepth 100000 in
theorem it_m345 : it_mt[345]? = some it_M345 := rfl
set_option maxRecDepth 100000 in
theorem it_cd345 : it_cds[345]? = some it_c345 := rfl
def it_M346 : it_Mt := ((11, ⟨"GrantBoardModel", "restart", "(I)I"⟩), (prog_14_method_130_code, 2, (some Jvm.ClassFile.FieldType.int)), 1, 5, 106)
set_option maxRecDepth 100000 in
theorem it_m346 : it_mt[346]? = some it_M346 := rfl
set_option maxRecDepth 100000 in
theorem it_cd346 : it_cds[346]? = some it_c346 := rfl
def it_M347 : it_Mt := ((11, ⟨"GrantBoardModel", "count", "(I)I"⟩), (prog_14_method_131_code, 2, (some Jvm.ClassFile.FieldType.int)), 1, 0, 0)
set_option maxRecDepth 100000 in
theorem it_m347 : it_mt[347]? = some it_M347 := rfl
set_option maxRecDepth 100000 in
theorem it_cd347 : it_cds[347]? = some it_c347 := rfl
def it_M348 : it_Mt := ((11, ⟨"GrantBoardModel", "grants", "(I)I"⟩), (prog_14_method_132_code, 4, (some Jvm.ClassFile.FieldType.int)), 1, 3, 63)
set_option maxRecDepth 100000 in
theorem it_m348 : it_mt[348]? = some it_M348 := rfl
set_option maxRecDepth 100000 in
theorem it_cd348 : it_cds[348]? = some it_c348 := rfl
def it_M349 : it_Mt := ((11, ⟨"GrantBoardModel", "stateOf", "(I)I"⟩), (prog_14_method_133_code, 2, (some Jvm.ClassFile.FieldType.int)), 1, 0, 0)
set_option maxRecDepth 100000 in
theorem it_m349 : it_mt[349]? = some it_M349 := rfl
set_option maxRecDepth 100000 in
theorem it_cd349 : it_cds[349]? = some it_c349 := rfl
def it_M350 : it_Mt := ((11, ⟨"GrantBoardModel", "process", "(II)I"⟩), (prog_14_method_134_code, 4, (some Jvm.ClassFile.FieldType.int)), 2, 4, 86)
set_option maxRecDepth 100000 in
theorem it_m350 : it_mt[350]? = some it_M350 := rfl
set_option maxRecDepth 100000 in
theorem it_cd350 : it_cds[350]? = some it_c350 := rfl
def it_M351 : it_Mt := ((11, ⟨"GrantBoardModel", "register", "(II)I"⟩), (prog_14_method_135_code, 3, (some Jvm.ClassFile.FieldType.int)), 2, 1, 21)
set_option maxRecDepth 100000 in
theorem it_m351 : it_mt[351]? = some it_M351 := rfl
set_option maxRecDepth 100000 in
theorem it_cd351 : it_cds[351]? = some it_c351 := rfl
def it_M352 : it_Mt := ((11, ⟨"GrantBoardModel", "tellControl", "(I)V"⟩), (prog_14_method_136_code, 3, none), 1, 1, 23)
set_option maxRecDepth 100000 in
theorem it_m352 : it_mt[352]? = some it_M352 := rfl
set_option maxRecDepth 100000 in
theorem it_cd352 : it_cds[352]? = some it_c352 := rfl
def it_M353 : it_Mt := ((11, ⟨"GrantBoardModel", "memory", "(I)I"⟩), (prog_14_method_137_code, 3, (some Jvm.ClassFile.FieldType.int)), 1, 2, 45)
set_option maxRecDepth 100000 in
theorem it_m353 : it_mt[353]? = some it_M353 := rfl
set_option maxRecDepth 100000 in
theorem it_cd353 : it_cds[353]? = some it_c353 := rfl
def it_M354 : it_Mt := ((11, ⟨"GrantBoardModel", "upcall", "(III)I"⟩), (prog_14_method_138_code, 4, (some Jvm.ClassFile.FieldType.int)), 3, 1, 21)
set_option maxRecDepth 100000 in
theorem it_m354 : it_mt[354]? = some it_M354 := rfl
set_option maxRecDepth 100000 in
theorem it_cd354 : it_cds[354]? = some it_c354 := rfl
def it_M355 : it_Mt := ((11, ⟨"GrantBoardModel", "grant", "(II)I"⟩), (prog_14_method_139_code, 3, (some Jvm.ClassFile.FieldType.int)), 2, 4, 86)
set_option maxRecDepth 100000 in
theorem it_m355 : it_mt[355]? = some it_M355 := rfl
set_option maxRecDepth 100000 in
theorem it_cd355 : it_cds[355]? = some it_c355 := rfl
def it_M356 : it_Mt := ((11, ⟨"GrantBoardModel", "out", "(I)I"⟩), (prog_14_method_140_code, 2, (some Jvm.ClassFile.FieldType.int)), 1, 0, 0)
set_option maxRecDepth 100000 in
theorem it_m356 : it_mt[356]? = some it_M356 := rfl
set_option maxRecDepth 100000 in
theorem it_cd356 : it_cds[356]? = some it_c356 := rfl
def it_M357 : it_Mt := ((11, ⟨"GrantBoardModel", "lamp", "(I)I"⟩), (prog_14_method_141_code, 2, (some Jvm.ClassFile.FieldType.int)), 1, 0, 0)
set_option maxRecDepth 100000 in
theorem it_m357 : it_mt[357]? = some it_M357 := rfl
set_option maxRecDepth 100000 in
theorem it_cd357 : it_cds[357]? = some it_c357 := rfl
def it_M358 : it_Mt := ((11, ⟨"GrantBoardModel", "event", "(II)I"⟩), (prog_14_method_142_code, 3, (some Jvm.ClassFile.FieldType.int)), 2, 0, 0)
set_option maxRecDepth 100000 in
theorem it_m358 : it_mt[358]? = some it_M358 := rfl
set_option maxRecDepth 100000 in
theorem it_cd358 : it_cds[358]? = some it_c358 := rfl
def it_M359 : it_Mt := ((11, ⟨"GrantBoardModel", "audit", "()I"⟩), (prog_14_method_143_code, 1, (some Jvm.ClassFile.FieldType.int)), 0, 0, 0)
set_option maxRecDepth 100000 in
theorem it_m359 : it_mt[359]? = some it_M359 := rfl
set_option maxRecDepth 100000 in
theorem it_cd359 : it_cds[359]? = some it_c359 := rfl
def it_M360 : it_Mt := ((14, ⟨"java/util/Arrays", "rangeCheck", "(III)V"⟩), (prog_17_method_30_code, 3, none), 3, 0, 0)
set_option maxRecDepth 100000 in
theorem it_m360 : it_mt[360]? = some it_M360 := rfl
set_option maxRecDepth 100000 in
theorem it_cd360 : it_cds[360]? = some it_c360 := rfl
def it_M361 : it_Mt := ((14, ⟨"java/util/Arrays", "fill", "([II)V"⟩), (prog_17_method_103_code, 4, none), 2, 0, 0)
set_option maxRecDepth 100000 in
theorem it_m361 : it_mt[361]? = some it_M361 := rfl
set_option maxRecDepth 100000 in
theorem it_cd361 : it_cds[361]? = some it_c361 := rfl
def it_M362 : it_Mt := ((14, ⟨"java/util/Arrays", "fill", "([IIII)V"⟩), (prog_17_method_104_code, 5, none), 4, 1, 22)
set_option maxRecDepth 100000 in
theorem it_m362 : it_mt[362]? = some it_M362 := rfl
set_option maxRecDepth 100000 in
theorem it_cd362 : it_cds[362]? = some it_c362 := rfl
def it_M363 : it_Mt := ((15, ⟨"GrantBoardLaw", "law", "([I)Z"⟩), (code, 4, (some Jvm.ClassFile.FieldType.boolean)), 1, 14, 356)
set_option maxRecDepth 100000 in
theorem it_m363 : it_mt[363]? = some it_M363 := rfl
set_option maxRecDepth 100000 in
theorem it_cd363 : it_cds[363]? = some it_c363 := rfl
