/-! Runs of the small machine, goal first: it_V, from a place with locals, stack and memory it comes to an end with Ψ; a row a kind of step. No cell is made here. -/
theorem it_more1 (kc : it_Kc) : ∀ (n y pc : Nat) (ls : it_Ls) (st : List Value) (sh : it_Sh) (mem : it_Me) (x : Option Value × it_Sh × it_Me), it_run kc n y pc ls st sh mem = some x → it_run kc (n + 1) y pc ls st sh mem = some x
  | 0, _, _, _, _, _, _, _, h => by simp [it_run] at h
  | n + 1, y, pc, ls, st, sh, mem, x, h => by
    rw [it_run] at h ⊢
    split at h
    · split at h
      · split at h
        · exact it_more1 kc n _ _ _ _ _ _ _ h
        · cases h
      · split at h
        · exact it_more1 kc n _ _ _ _ _ _ _ h
        · cases h
      · split at h
        · exact it_more1 kc n _ _ _ _ _ _ _ h
        · cases h
      · split at h
        · exact it_more1 kc n _ _ _ _ _ _ _ h
        · cases h
      · split at h
        · exact it_more1 kc n _ _ _ _ _ _ _ h
        · cases h
      · split at h
        · split at h
          · rename_i h2
            split at h
            · rename_i h3
              simp only [if_pos h2]
              rw [it_more1 kc n _ _ _ _ _ _ _ h3]
              exact it_more1 kc n _ _ _ _ _ _ _ h
            · cases h
          · cases h
        · cases h
      · split at h
        · exact h
        · cases h
      · split at h
        · exact it_more1 kc n _ _ _ _ _ _ _ h
        · cases h
      · cases h
    · cases h
theorem it_more {kc : it_Kc} {n m y pc : Nat} {ls : it_Ls} {st : List Value} {sh : it_Sh} {mem : it_Me} {x : Option Value × it_Sh × it_Me} (h : it_run kc n y pc ls st sh mem = some x) (hm : n ≤ m) : it_run kc m y pc ls st sh mem = some x := by
  induction hm with
  | refl => exact h
  | step _ ih => exact it_more1 kc _ _ _ _ _ _ _ _ ih
def it_V (kc : it_Kc) (sh : it_Sh) (y pc : Nat) (ls : it_Ls) (st : List Value) (mem : it_Me) (Ψ : Option Value → it_Me → Prop) : Prop := ∃ n r mem', it_run kc n y pc ls st sh mem = some (r, sh, mem') ∧ Ψ r mem'
def it_lk (c : List (List (Option it_En))) (pc : Nat) : Option it_En := match c[pc / 16]? with
  | some r => (match r[pc % 16]? with
    | some e => e
    | none => none)
  | none => none
theorem it_lk_code {y pc : Nat} {c : List (List (Option it_En))} (hc : it_cds[y]? = some c) : it_code y pc = it_lk c pc := by
  simp only [it_code, hc]
  rfl
/-- writes that change no shape -/
def it_wm (fr lo : Nat) (sh : it_Sh) (mem : it_Me) (ins : Instr) (a b : Nat) (st : List Value) : Option (List Value × it_Me) :=
  match ins, st with
  | .putfield _, .int x :: .ref k :: st => (match sh[k]? with
    | some (.inl (ci, fs)) => if ci = a ∧ it_flag it_ff a b = false ∧ fs[b]? = some none ∧ it_fkd a b = some none ∧ (it_flag it_fz a b = false ∨ x = 0 ∨ x = 1) then some (st, it_up mem k (upd (mem k) b x)) else none
    | _ => none)
  | .iastore, .int x :: .int i :: .ref k :: st => (match sh[k]? with
    | some (.inr (.inl (t, n))) => if t = 0 ∧ ¬ (i < 0 ∨ n ≤ i.toNatClampNeg) then some (st, it_up mem k (upd (mem k) i.toNatClampNeg x)) else none
    | _ => none)
  | .bastore, .int x :: .int i :: .ref k :: st => (match sh[k]? with
    | some (.inr (.inl (t, n))) => if t = 1 ∧ ¬ (i < 0 ∨ n ≤ i.toNatClampNeg) then some (st, it_up mem k (upd (mem k) i.toNatClampNeg x.toInt8.toInt32))
      else if t = 2 ∧ ¬ (i < 0 ∨ n ≤ i.toNatClampNeg) then some (st, it_up mem k (upd (mem k) i.toNatClampNeg (x &&& 1))) else none
    | _ => none)
  | .invokestatic _, .int n :: .int dp :: .ref k1 :: .int sp :: .ref k0 :: st => (match sh[k0]? with
    | some (.inr (.inl (t, n0))) => if a = 9999 ∧ k1 = k0 ∧ t = 0 ∧ 1 ≤ fr ∧ (st.map fun v => v.category).sum + (nativeFrameWords "java/lang/System" "arraycopy" 5 + 11) ≤ lo ∧ ¬ sp < 0 ∧ ¬ dp < 0 ∧ ¬ n < 0 ∧ sp.toNatClampNeg + n.toNatClampNeg ≤ n0 ∧ dp.toNatClampNeg + n.toNatClampNeg ≤ n0
      then some (st, it_up mem k0 (va_cpy (mem k0) (mem k0) sp.toNatClampNeg dp.toNatClampNeg n.toNatClampNeg)) else none
    | _ => none)
  | _, _ => none
theorem it_wm_wr {o fr lo a b : Nat} {init : Bool} {sh : it_Sh} {mem mem1 : it_Me} {ins : Instr} {st st1 : List Value} (h : it_wm fr lo sh mem ins a b st = some (st1, mem1)) : it_wr o init fr lo sh mem ins a b st = some (st1, sh, mem1) := by
  unfold it_wm at h
  split at h
  · split at h
    · rename_i hsh
      split at h
      · rename_i hc
        obtain ⟨rfl, h1, h2, h3, h4⟩ := hc
        cases h
        simp only [it_wr, hsh]
        rw [if_pos ⟨trivial, Or.inl h1⟩, h2, h3]
        simp only [if_pos h4]
      · cases h
    · cases h
  · split at h
    · rename_i hsh
      split at h
      · rename_i hc
        cases h
        simp only [it_wr, hsh]
        rw [if_pos hc]
      · cases h
    · cases h
  · split at h
    · rename_i hsh
      split at h
      · rename_i hc
        cases h
        simp only [it_wr, hsh]
        rw [if_pos hc]
      · rename_i hc
        split at h
        · rename_i hc2
          cases h
          simp only [it_wr, hsh]
          rw [if_neg hc, if_pos hc2]
        · cases h
    · cases h
  · split at h
    · rename_i hsh
      split at h
      · rename_i hc
        cases h
        simp only [it_wr, hsh]
        rw [if_pos hc]
      · cases h
    · cases h
  · cases h
/-- one step that is no call and no end -/
def it_s1 (kc : it_Kc) (sh : it_Sh) (c : List (List (Option it_En))) (fr lo pc : Nat) (ls : it_Ls) (st : List Value) (mem : it_Me) : Option (Nat × it_Ls × List Value × it_Me) :=
  match it_lk c pc with
  | some (g, ins, a, b) => (match g with
    | 0 => (match it_ops ins b st with
      | some st1 => some (pc + it_len ins, ls, st1, mem)
      | none => none)
    | 1 => (match it_loc ins ls st with
      | some (ls1, st1) => some (pc + it_len ins, ls1, st1, mem)
      | none => none)
    | 2 => (match it_br pc a sh.length ins st with
      | some (pc1, st1) => some (pc1, ls, st1, mem)
      | none => none)
    | 3 => (match it_rd kc sh mem ins a b st with
      | some st1 => some (pc + it_len ins, ls, st1, mem)
      | none => none)
    | 4 => (match it_wm fr lo sh mem ins a b st with
      | some (st1, mem1) => some (pc + it_len ins, ls, st1, mem1)
      | none => none)
    | 7 => (match it_mth fr lo a ins st with
      | some st1 => some (pc + it_len ins, ls, st1, mem)
      | none => none)
    | _ => none)
  | none => none
def it_sN (kc : it_Kc) (sh : it_Sh) (c : List (List (Option it_En))) (fr lo : Nat) : Nat → Nat → it_Ls → List Value → it_Me → Option (Nat × it_Ls × List Value × it_Me)
  | 0, pc, ls, st, mem => some (pc, ls, st, mem)
  | k + 1, pc, ls, st, mem => match it_s1 kc sh c fr lo pc ls st mem with
    | some (pc1, ls1, st1, mem1) => it_sN kc sh c fr lo k pc1 ls1 st1 mem1
    | none => none
section ITV
variable {kc : it_Kc} {sh : it_Sh} {y pc : Nat} {ls : it_Ls} {st : List Value} {mem : it_Me} {Ψ : Option Value → it_Me → Prop} {c : List (List (Option it_En))} {M : it_Mt}
theorem it_V.mono {Ψ' : Option Value → it_Me → Prop} (h : it_V kc sh y pc ls st mem Ψ) (hm : ∀ r m, Ψ r m → Ψ' r m) : it_V kc sh y pc ls st mem Ψ' := by
  obtain ⟨n, r, m, h1, h2⟩ := h
  exact ⟨n, r, m, h1, hm r m h2⟩
theorem it_V.s1 (hc : it_cds[y]? = some c) (hM : it_mt[y]? = some M) {pc1 : Nat} {ls1 : it_Ls} {st1 : List Value} {mem1 : it_Me} (h : it_s1 kc sh c M.2.2.2.1 M.2.2.2.2 pc ls st mem = some (pc1, ls1, st1, mem1)) (k : it_V kc sh y pc1 ls1 st1 mem1 Ψ) : it_V kc sh y pc ls st mem Ψ := by
  obtain ⟨n, r, m, h1, h2⟩ := k
  refine ⟨n + 1, r, m, ?_, h2⟩
  rw [it_run, it_lk_code hc, hM]
  unfold it_s1 at h
  split at h
  · rename_i g ins a b hl
    rw [hl]
    dsimp only
    split at h
    · split at h
      · rename_i h3; cases h; rw [h3]; exact h1
      · cases h
    · split at h
      · rename_i h3; cases h; rw [h3]; exact h1
      · cases h
    · split at h
      · rename_i h3; cases h; rw [h3]; exact h1
      · cases h
    · split at h
      · rename_i h3; cases h; rw [h3]; exact h1
      · cases h
    · split at h
      · rename_i h3; cases h; rw [it_wm_wr h3]; exact h1
      · cases h
    · split at h
      · rename_i h3; cases h; rw [h3]; exact h1
      · cases h
    · cases h
  · cases h
theorem it_V.sN (hc : it_cds[y]? = some c) (hM : it_mt[y]? = some M) (k : Nat) {pc1 : Nat} {ls1 : it_Ls} {st1 : List Value} {mem1 : it_Me} (h : it_sN kc sh c M.2.2.2.1 M.2.2.2.2 k pc ls st mem = some (pc1, ls1, st1, mem1)) (v : it_V kc sh y pc1 ls1 st1 mem1 Ψ) : it_V kc sh y pc ls st mem Ψ := by
  induction k generalizing pc ls st mem with
  | zero => cases h; exact v
  | succ k ih =>
    rw [it_sN] at h
    split at h
    · rename_i h1
      exact it_V.s1 hc hM h1 (ih h)
    · cases h
theorem it_V.ite {P : Prop} [Decidable P] {a b : Nat} (h1 : P → it_V kc sh y a ls st mem Ψ) (h2 : ¬ P → it_V kc sh y b ls st mem Ψ) : it_V kc sh y (if P then a else b) ls st mem Ψ := by
  split
  · rename_i h; exact h1 h
  · rename_i h; exact h2 h
/-- the end -/
theorem it_V.ret (hc : it_cds[y]? = some c) (hM : it_mt[y]? = some M) {ins : Instr} {a b : Nat} (hl : it_lk c pc = some (6, ins, a, b)) {r : Option Value} (hr : it_rt M.2.1.2.2 ins st = some r) (h : Ψ r mem) : it_V kc sh y pc ls st mem Ψ := by
  refine ⟨1, r, mem, ?_, h⟩
  rw [it_run, it_lk_code hc, hM, hl]
  dsimp only
  rw [hr]
  rfl
/-- a call -/
theorem it_V.call (hc : it_cds[y]? = some c) (hM : it_mt[y]? = some M) {ins : Instr} {a b : Nat} (hl : it_lk c pc = some (5, ins, a, b)) {M1 : it_Mt} (hM1 : it_mt[a]? = some M1) {Ψ1 : Option Value → it_Me → Prop} (vs rest : List Value) (hst : st = vs.reverse ++ rest) (hn : vs.length = M1.2.2.1 + it_nst ins)
    (hcond : M1.2.2.2.1 + 1 ≤ M.2.2.2.1 ∧ 8 + (M1.2.1.2.1 + 11) + M1.2.2.2.2 ≤ M.2.2.2.2 ∧ (rest.map fun v => v.category).sum ≤ 8 ∧ (it_ent vs).length ≤ M1.2.1.2.1 ∧ it_recv sh M1.1.1 ins vs = true)
    (hv : it_V kc sh a 0 (it_loc0 vs M1.2.1.2.1) [] mem Ψ1) (k : ∀ r m, Ψ1 r m → it_V kc sh y (pc + 3) ls (r.toList ++ rest) m Ψ) : it_V kc sh y pc ls st mem Ψ := by
  obtain ⟨n1, r1, m1, h1, h2⟩ := hv
  obtain ⟨n2, r2, m2, h3, h4⟩ := k r1 m1 h2
  refine ⟨max n1 n2 + 1, r2, m2, ?_, h4⟩
  have ht : st.take (M1.2.2.1 + it_nst ins) = vs.reverse := by rw [hst, ← hn, ← List.length_reverse, List.take_left']; rfl
  have hd : st.drop (M1.2.2.1 + it_nst ins) = rest := by rw [hst, ← hn, ← List.length_reverse, List.drop_left']; rfl
  rw [it_run, it_lk_code hc, hM, hl]
  dsimp only
  rw [hM1]
  dsimp only
  rw [ht, hd, List.reverse_reverse, if_pos ⟨by rw [hst]; simp; omega, hcond.1, hcond.2.1, hcond.2.2.1, hcond.2.2.2.1, hcond.2.2.2.2⟩]
  rw [it_more h1 (Nat.le_max_left n1 n2)]
  exact it_more h3 (Nat.le_max_right n1 n2)
end ITV
/-- a write into a cell -/
def it_sv (mem : it_Me) (k i : Nat) (x : Int32) : it_Me := it_up mem k (upd (mem k) i x)
def it_Pi (Φ : Int32 → it_Me → Prop) : Option Value → it_Me → Prop := fun r m => ∃ x, r = some (.int x) ∧ Φ x m
def it_Pv (Φ : it_Me → Prop) : Option Value → it_Me → Prop := fun r m => r = none ∧ Φ m
section ITA
variable {kc : it_Kc} {sh : it_Sh} {y pc : Nat} {ls : it_Ls} {st : List Value} {mem : it_Me} {Ψ : Option Value → it_Me → Prop} {c : List (List (Option it_En))} {M : it_Mt} {a b : Nat}
theorem it_V.iald (hc : it_cds[y]? = some c) (hM : it_mt[y]? = some M) (hl : it_lk c pc = some (3, .iaload, a, b)) {k n : Nat} {i : Int32} (hk : k < it_K) (hsh : sh[k]? = some (.inr (.inl (0, n)))) (hi : vp_in i n) (v : it_V kc sh y (pc + 1) ls (.int (mem k i.toNatClampNeg) :: st) mem Ψ) : it_V kc sh y pc ls (.int i :: .ref k :: st) mem Ψ := by
  refine it_V.s1 hc hM ?_ v
  simp only [it_s1, hl, it_rd, if_pos hk, hsh]
  rw [if_pos ⟨trivial, hi⟩]
  rfl
theorem it_V.bald (hc : it_cds[y]? = some c) (hM : it_mt[y]? = some M) (hl : it_lk c pc = some (3, .baload, a, b)) {k t n : Nat} {i : Int32} (hsh : sh[k]? = some (.inr (.inl (t, n)))) (ht : t = 1 ∨ t = 2) (hi : vp_in i n) (v : it_V kc sh y (pc + 1) ls (.int (mem k i.toNatClampNeg) :: st) mem Ψ) : it_V kc sh y pc ls (.int i :: .ref k :: st) mem Ψ := by
  refine it_V.s1 hc hM ?_ v
  simp only [it_s1, hl, it_rd, hsh]
  rw [if_pos ⟨ht, hi⟩]
  rfl
theorem it_V.kald (hc : it_cds[y]? = some c) (hM : it_mt[y]? = some M) (hl : it_lk c pc = some (3, .iaload, a, b)) {j : Nat} {i : Int32} (hj : j < 8) (hi : vp_in i (kc j).1) (v : it_V kc sh y (pc + 1) ls (.int ((kc j).2 i.toNatClampNeg) :: st) mem Ψ) : it_V kc sh y pc ls (.int i :: .ref (it_K + j) :: st) mem Ψ := by
  refine it_V.s1 hc hM ?_ v
  simp only [it_s1, hl, it_rd, if_neg (show ¬ it_K + j < it_K by omega), Nat.add_sub_cancel_left]
  rw [if_pos ⟨hj, hi⟩]
  rfl
theorem it_V.iast (hc : it_cds[y]? = some c) (hM : it_mt[y]? = some M) (hl : it_lk c pc = some (4, .iastore, a, b)) {k n : Nat} {i x : Int32} (hsh : sh[k]? = some (.inr (.inl (0, n)))) (hi : vp_in i n) (v : it_V kc sh y (pc + 1) ls st (it_sv mem k i.toNatClampNeg x) Ψ) : it_V kc sh y pc ls (.int x :: .int i :: .ref k :: st) mem Ψ := by
  refine it_V.s1 hc hM ?_ v
  simp only [it_s1, hl, it_wm, hsh]
  rw [if_pos ⟨trivial, hi⟩]
  rfl
theorem it_V.bast (hc : it_cds[y]? = some c) (hM : it_mt[y]? = some M) (hl : it_lk c pc = some (4, .bastore, a, b)) {k n : Nat} {i x : Int32} (hsh : sh[k]? = some (.inr (.inl (1, n)))) (hi : vp_in i n) (v : it_V kc sh y (pc + 1) ls st (it_sv mem k i.toNatClampNeg x.toInt8.toInt32) Ψ) : it_V kc sh y pc ls (.int x :: .int i :: .ref k :: st) mem Ψ := by
  refine it_V.s1 hc hM ?_ v
  simp only [it_s1, hl, it_wm, hsh]
  rw [if_pos ⟨trivial, hi⟩]
  rfl
theorem it_V.zast (hc : it_cds[y]? = some c) (hM : it_mt[y]? = some M) (hl : it_lk c pc = some (4, .bastore, a, b)) {k n : Nat} {i x : Int32} (hsh : sh[k]? = some (.inr (.inl (2, n)))) (hi : vp_in i n) (v : it_V kc sh y (pc + 1) ls st (it_sv mem k i.toNatClampNeg (x &&& 1)) Ψ) : it_V kc sh y pc ls (.int x :: .int i :: .ref k :: st) mem Ψ := by
  refine it_V.s1 hc hM ?_ v
  simp only [it_s1, hl, it_wm, hsh]
  rw [if_neg (by simp), if_pos ⟨trivial, hi⟩]
  rfl
end ITA
