/-! Constructors with loops; the law up to its loop. (Its two long memories are written by a program out of /tmp/ctor2.json, gen_ctor.py.) -/
def it_E (kc : it_Kc) (y pc : Nat) (ls : it_Ls) (st : List Value) (sh : it_Sh) (mem : it_Me) (Ψ : Option Value → it_Sh → it_Me → Prop) : Prop := ∃ n r sh' mem', it_run kc n y pc ls st sh mem = some (r, sh', mem') ∧ Ψ r sh' mem'
theorem it_E.run {kc : it_Kc} {n y pc : Nat} {ls : it_Ls} {st : List Value} {sh sh' : it_Sh} {mem mem' : it_Me} {r : Option Value} {Ψ : Option Value → it_Sh → it_Me → Prop} (h : it_run kc n y pc ls st sh mem = some (r, sh', mem')) (hp : Ψ r sh' mem') : it_E kc y pc ls st sh mem Ψ := ⟨n, r, sh', mem', h, hp⟩
theorem it_E.ofV {kc : it_Kc} {y pc : Nat} {ls : it_Ls} {st : List Value} {sh : it_Sh} {mem : it_Me} {Ψ : Option Value → it_Sh → it_Me → Prop} (h : it_V kc sh y pc ls st mem (fun r m => Ψ r sh m)) : it_E kc y pc ls st sh mem Ψ := by
  obtain ⟨n, r, m, h1, h2⟩ := h
  exact ⟨n, r, sh, m, h1, h2⟩
/-- one step that is no call and no end, cells may be made -/
def it_t1 (kc : it_Kc) (c : List (List (Option it_En))) (own : Nat) (init : Bool) (fr lo pc : Nat) (ls : it_Ls) (st : List Value) (sh : it_Sh) (mem : it_Me) : Option (Nat × it_Ls × List Value × it_Sh × it_Me) :=
  match it_lk c pc with
  | some (g, ins, a, b) => (match g with
    | 0 => (match it_ops ins b st with
      | some st1 => some (pc + it_len ins, ls, st1, sh, mem)
      | none => none)
    | 1 => (match it_loc ins ls st with
      | some (ls1, st1) => some (pc + it_len ins, ls1, st1, sh, mem)
      | none => none)
    | 3 => (match it_rd kc sh mem ins a b st with
      | some st1 => some (pc + it_len ins, ls, st1, sh, mem)
      | none => none)
    | 4 => (match it_wr own init fr lo sh mem ins a b st with
      | some (st1, sh1, mem1) => some (pc + it_len ins, ls, st1, sh1, mem1)
      | none => none)
    | _ => none)
  | none => none
def it_tN (kc : it_Kc) (c : List (List (Option it_En))) (own : Nat) (init : Bool) (fr lo : Nat) : Nat → Nat → it_Ls → List Value → it_Sh → it_Me → Option (Nat × it_Ls × List Value × it_Sh × it_Me)
  | 0, pc, ls, st, sh, mem => some (pc, ls, st, sh, mem)
  | k + 1, pc, ls, st, sh, mem => match it_t1 kc c own init fr lo pc ls st sh mem with
    | some (pc1, ls1, st1, sh1, mem1) => it_tN kc c own init fr lo k pc1 ls1 st1 sh1 mem1
    | none => none
section ITE
variable {kc : it_Kc} {y pc : Nat} {ls : it_Ls} {st : List Value} {sh : it_Sh} {mem : it_Me} {Ψ : Option Value → it_Sh → it_Me → Prop} {c : List (List (Option it_En))} {M : it_Mt}
theorem it_E.t1 (hc : it_cds[y]? = some c) (hM : it_mt[y]? = some M) {init : Bool} (hi : (M.1.2.name == "<init>") = init) {pc1 : Nat} {ls1 : it_Ls} {st1 : List Value} {sh1 : it_Sh} {mem1 : it_Me} (h : it_t1 kc c M.1.1 init M.2.2.2.1 M.2.2.2.2 pc ls st sh mem = some (pc1, ls1, st1, sh1, mem1)) (k : it_E kc y pc1 ls1 st1 sh1 mem1 Ψ) : it_E kc y pc ls st sh mem Ψ := by
  obtain ⟨n, r, sh', m, h1, h2⟩ := k
  refine ⟨n + 1, r, sh', m, ?_, h2⟩
  rw [it_run, it_lk_code hc, hM]
  unfold it_t1 at h
  split at h
  · rename_i g ins a b hl
    rw [hl]
    dsimp only
    rw [hi]
    split at h
    · split at h
      · rename_i h3; cases h; rw [h3]; exact h1
      · cases h
    · split at h
      · rename_i h3; cases h; rw [h3]; exact h1
      · cases h
    · split at h
      · rename_i h3; cases h; rw [h3]; exact h1
      · cases h
    · split at h
      · rename_i h3; cases h; rw [h3]; exact h1
      · cases h
    · cases h
  · cases h
theorem it_E.tN (hc : it_cds[y]? = some c) (hM : it_mt[y]? = some M) {init : Bool} (hi : (M.1.2.name == "<init>") = init) (k : Nat) {pc1 : Nat} {ls1 : it_Ls} {st1 : List Value} {sh1 : it_Sh} {mem1 : it_Me} (h : it_tN kc c M.1.1 init M.2.2.2.1 M.2.2.2.2 k pc ls st sh mem = some (pc1, ls1, st1, sh1, mem1)) (v : it_E kc y pc1 ls1 st1 sh1 mem1 Ψ) : it_E kc y pc ls st sh mem Ψ := by
  induction k generalizing pc ls st sh mem with
  | zero => cases h; exact v
  | succ k ih =>
    rw [it_tN] at h
    split at h
    · rename_i h1
      exact it_E.t1 hc hM hi h1 (ih h)
    · cases h
theorem it_E.call (hc : it_cds[y]? = some c) (hM : it_mt[y]? = some M) {ins : Instr} {a b : Nat} (hl : it_lk c pc = some (5, ins, a, b)) {M1 : it_Mt} (hM1 : it_mt[a]? = some M1) {Ψ1 : Option Value → it_Sh → it_Me → Prop} (vs rest : List Value) (hst : st = vs.reverse ++ rest) (hn : vs.length = M1.2.2.1 + it_nst ins)
    (hcond : M1.2.2.2.1 + 1 ≤ M.2.2.2.1 ∧ 8 + (M1.2.1.2.1 + 11) + M1.2.2.2.2 ≤ M.2.2.2.2 ∧ (rest.map fun v => v.category).sum ≤ 8 ∧ (it_ent vs).length ≤ M1.2.1.2.1 ∧ it_recv sh M1.1.1 ins vs = true)
    (hv : it_E kc a 0 (it_loc0 vs M1.2.1.2.1) [] sh mem Ψ1) (k : ∀ r sh1 m, Ψ1 r sh1 m → it_E kc y (pc + 3) ls (r.toList ++ rest) sh1 m Ψ) : it_E kc y pc ls st sh mem Ψ := by
  obtain ⟨n1, r1, sh1, m1, h1, h2⟩ := hv
  obtain ⟨n2, r2, sh2, m2, h3, h4⟩ := k r1 sh1 m1 h2
  refine ⟨max n1 n2 + 1, r2, sh2, m2, ?_, h4⟩
  have ht : st.take (M1.2.2.1 + it_nst ins) = vs.reverse := by rw [hst, ← hn, ← List.length_reverse, List.take_left']; rfl
  have hd : st.drop (M1.2.2.1 + it_nst ins) = rest := by rw [hst, ← hn, ← List.length_reverse, List.drop_left']; rfl
  rw [it_run, it_lk_code hc, hM, hl]
  dsimp only
  rw [hM1]
  dsimp only
  rw [ht, hd, List.reverse_reverse, if_pos ⟨by rw [hst]; simp; omega, hcond.1, hcond.2.1, hcond.2.2.1, hcond.2.2.2.1, hcond.2.2.2.2⟩]
  rw [it_more h1 (Nat.le_max_left n1 n2)]
  exact it_more h3 (Nat.le_max_right n1 n2)
end ITE
/-- Arrays.fill where the cells aren't yet all made -/
theorem it_V.len2 {kc : it_Kc} {sh : it_Sh} {y pc : Nat} {ls : it_Ls} {st : List Value} {mem : it_Me} {Ψ : Option Value → it_Me → Prop} {c : List (List (Option it_En))} {M : it_Mt} {a b : Nat} (hc : it_cds[y]? = some c) (hM : it_mt[y]? = some M) (hl : it_lk c pc = some (3, .arraylength, a, b)) {k t n : Nat} (hk : k < it_K) (hsh : sh[k]? = some (.inr (.inl (t, n)))) (v : it_V kc sh y (pc + 1) ls (.int (Int32.ofNat n) :: st) mem Ψ) : it_V kc sh y pc ls (.ref k :: st) mem Ψ := by
  refine it_V.s1 hc hM ?_ v
  simp only [it_s1, hl, it_rd, if_pos hk, hsh]
  rfl
set_option maxRecDepth 100000 in
set_option maxHeartbeats 4000000 in
theorem s_360g (kc : it_Kc) (sh : it_Sh) (x0 x1 x2 : Int32) (m : it_Me) (Φ : it_Me → Prop) (h1 : x1 ≤ x2) (h2 : 0 ≤ x1) (h3 : x2 ≤ x0) (h : Φ m) : it_V kc sh 360 0 (it_loc0 [(.int x0), (.int x1), (.int x2)] 3) [] m (it_Pv Φ) := by
  refine it_V.at (pc1 := 0) (ls1 := [some (.int x0), some (.int x1), some (.int x2)]) (st1 := []) (mem1 := m) rfl rfl rfl rfl ?_
  refine it_V.sN it_cd360 it_m360 3 (pc1 := (if x1 ≤ x2 then 46 else 5)) (ls1 := [some (.int x0), some (.int x1), some (.int x2)]) (st1 := []) (mem1 := m) rfl ?_
  rw [if_pos h1]
  refine it_V.sN it_cd360 it_m360 2 (pc1 := (if 0 ≤ x1 then 59 else 50)) (ls1 := [some (.int x0), some (.int x1), some (.int x2)]) (st1 := []) (mem1 := m) rfl ?_
  rw [if_pos h2]
  refine it_V.sN it_cd360 it_m360 3 (pc1 := (if x2 ≤ x0 then 73 else 64)) (ls1 := [some (.int x0), some (.int x1), some (.int x2)]) (st1 := []) (mem1 := m) rfl ?_
  rw [if_pos h3]
  exact it_V.ret it_cd360 it_m360 rfl rfl ⟨rfl, h⟩
set_option maxRecDepth 100000 in
set_option maxHeartbeats 4000000 in
theorem s_362g (kc : it_Kc) (sh : it_Sh) (x0 a b n : Nat) (x3 : Int32) (hk : x0 < it_K) (hsh : sh[x0]? = some (.inr (.inl (0, n)))) (hn : n ≤ 1000000) (hab : a ≤ b) (hbn : b ≤ n) (m : it_Me) (Φ : it_Me → Prop) (h : Φ (it_fil m x0 a b x3)) : it_V kc sh 362 0 (it_loc0 [(.ref x0), (.int (nI a)), (.int (nI b)), (.int x3)] 5) [] m (it_Pv Φ) := by
  have loop : ∀ k i : Nat, a ≤ i → i + k = b → it_V kc sh 362 10 [some (.ref x0), some (.int (nI a)), some (.int (nI b)), some (.int x3), some (.int (nI i))] [] (it_fil m x0 a i x3) (it_Pv Φ) := by
    intro k
    induction k with
    | zero =>
      intro i hai hi
      refine it_V.sN it_cd362 it_m362 3 (pc1 := (if nI b ≤ nI i then 27 else 16)) (ls1 := [some (.ref x0), some (.int (nI a)), some (.int (nI b)), some (.int x3), some (.int (nI i))]) (st1 := []) (mem1 := it_fil m x0 a i x3) rfl ?_
      have hi : i = b := by omega
      subst hi
      rw [if_pos (nI_le (Nat.le_refl _) (by omega))]
      exact it_V.ret it_cd362 it_m362 rfl rfl ⟨rfl, h⟩
    | succ k ih =>
      intro i hai hi
      refine it_V.sN it_cd362 it_m362 3 (pc1 := (if nI b ≤ nI i then 27 else 16)) (ls1 := [some (.ref x0), some (.int (nI a)), some (.int (nI b)), some (.int x3), some (.int (nI i))]) (st1 := []) (mem1 := it_fil m x0 a i x3) rfl ?_
      rw [if_neg (nI_ge (by omega) (by omega))]
      refine it_V.sN it_cd362 it_m362 3 (pc1 := 20) (ls1 := [some (.ref x0), some (.int (nI a)), some (.int (nI b)), some (.int x3), some (.int (nI i))]) (st1 := [.int x3, .int (nI i), .ref x0]) (mem1 := it_fil m x0 a i x3) rfl ?_
      refine it_V.iast it_cd362 it_m362 rfl hsh (vp_in_nI (by omega) (by omega)) ?_
      rw [nI_clamp (by omega), it_fil_s _ _ _ _ _ hai]
      refine it_V.sN it_cd362 it_m362 2 (pc1 := 10) (ls1 := [some (.ref x0), some (.int (nI a)), some (.int (nI b)), some (.int x3), some (.int (nI i + 1))]) (st1 := []) (mem1 := it_fil m x0 a (i + 1) x3) rfl ?_
      rw [nI_1]
      exact ih (i + 1) (by omega) (by omega)
  refine it_V.at (pc1 := 0) (ls1 := [some (.ref x0), some (.int (nI a)), some (.int (nI b)), some (.int x3), none]) (st1 := []) (mem1 := m) rfl rfl rfl rfl ?_
  refine it_V.sN it_cd362 it_m362 1 (pc1 := 1) (ls1 := [some (.ref x0), some (.int (nI a)), some (.int (nI b)), some (.int x3), none]) (st1 := [.ref x0]) (mem1 := m) rfl ?_
  refine it_V.len2 it_cd362 it_m362 rfl hk hsh ?_
  refine it_V.sN it_cd362 it_m362 2 (pc1 := 4) (ls1 := [some (.ref x0), some (.int (nI a)), some (.int (nI b)), some (.int x3), none]) (st1 := [.int (nI b), .int (nI a), .int (nI n)]) (mem1 := m) rfl ?_
  refine it_V.call it_cd362 it_m362 rfl it_m360 [.int (nI n), .int (nI a), .int (nI b)] [] rfl rfl ⟨Nat.le_of_ble_eq_true rfl, Nat.le_of_ble_eq_true rfl, Nat.le_of_ble_eq_true rfl, Nat.le_of_ble_eq_true rfl, rfl⟩ (s_360g kc sh (nI n) (nI a) (nI b) m (fun m2 => m2 = m) (nI_le hab (by omega)) (nI_pos' (by omega)) (nI_le hbn (by omega)) rfl) ?_
  rintro _ m2 ⟨rfl, rfl⟩
  refine it_V.sN it_cd362 it_m362 2 (pc1 := 10) (ls1 := [some (.ref x0), some (.int (nI a)), some (.int (nI b)), some (.int x3), some (.int (nI a))]) (st1 := []) (mem1 := m2) rfl ?_
  have := loop (b - a) a (Nat.le_refl _) (by omega)
  rw [it_fil_0] at this
  exact this
/-- the CRC of one bit, of eight, and the row of all bytes -/
def it_crc1 (c : Int32) : Int32 := if (c &&& 1) = 0 then it_us c 1 else it_us c 1 ^^^ (-306674912 : Int32)
def it_crcK : Nat → Int32 → Int32
  | 0, c => c
  | k + 1, c => it_crcK k (it_crc1 c)
def it_tab (i : Nat) : Int32 := it_crcK 8 (nI i)
def it_crcm (m : it_Me) (n : Nat) : it_Me := it_up m 3 (fun i => if i < n then it_tab i else m 3 i)
theorem it_crcm_0 (m : it_Me) : it_crcm m 0 = m := by
  funext k
  simp only [it_crcm, it_up]
  split
  · rename_i hk; subst hk; funext i; rw [if_neg (by omega)]
  · rfl
theorem it_crcm_s (m : it_Me) (n : Nat) : it_sv (it_crcm m n) 3 n (it_tab n) = it_crcm m (n + 1) := by
  funext k
  simp only [it_sv, it_crcm, it_up]
  split
  · funext i
    simp only [upd]
    by_cases hi : i = n
    · subst hi; rw [if_pos rfl, if_pos (by omega)]
    · rw [if_neg hi]
      simp only [if_true]
      by_cases hb : i < n
      · rw [if_pos hb, if_pos (by omega)]
      · rw [if_neg hb, if_neg (by omega)]
  · rfl
set_option maxRecDepth 100000 in
set_option maxHeartbeats 4000000 in
theorem ct_11 (kc : it_Kc) (m : it_Me) (Ψ : Option Value → it_Sh → it_Me → Prop) (h : Ψ none it_shB (it_crcm (it_fil (it_up (it_up m 2 (fun _ => 0)) 3 (fun _ => 0)) 2 0 16384 (-1)) 256)) : it_E kc 11 0 (it_loc0 [.ref 1] 4) [] it_shA m Ψ := by
  refine it_E.tN it_cd11 it_m11 (init := true) (by decide) 15 (pc1 := 30) (ls1 := [some (.ref 1), none, none, none]) (st1 := [.int (-1 : Int32), .int (16384 : Int32), .int (0 : Int32), .ref 2]) (sh1 := it_shB) (mem1 := it_up (it_up m 2 (fun _ => 0)) 3 (fun _ => 0)) rfl ?_
  refine it_E.ofV ?_
  refine it_V.call it_cd11 it_m11 rfl it_m362 [.ref 2, .int (nI 0), .int (nI 16384), .int (-1 : Int32)] [] rfl rfl ⟨Nat.le_of_ble_eq_true rfl, Nat.le_of_ble_eq_true rfl, Nat.le_of_ble_eq_true rfl, Nat.le_of_ble_eq_true rfl, rfl⟩ (s_362g kc it_shB 2 0 16384 32768 (-1) (by decide) rfl (by decide) (by decide) (by decide) _ (fun m2 => m2 = it_fil (it_up (it_up m 2 (fun _ => 0)) 3 (fun _ => 0)) 2 0 16384 (-1)) rfl) ?_
  rintro _ m2 ⟨rfl, rfl⟩
  generalize it_fil (it_up (it_up m 2 (fun _ => 0)) 3 (fun _ => 0)) 2 0 16384 (-1) = m2 at h ⊢
  have inner : ∀ (k b : Nat) (i c : Int32) (mm : it_Me), b + k = 8 → it_V kc it_shB 11 79 [some (.ref 1), some (.int i), some (.int (it_crcK k c)), none] [] mm (fun r m => Ψ r it_shB m) → it_V kc it_shB 11 48 [some (.ref 1), some (.int i), some (.int c), some (.int (nI b))] [] mm (fun r m => Ψ r it_shB m) := by
    intro k
    induction k with
    | zero =>
      intro b i c mm hb hv
      refine it_V.sN it_cd11 it_m11 3 (pc1 := (if (8 : Int32) ≤ nI b then 79 else 54)) (ls1 := [some (.ref 1), some (.int i), some (.int c), some (.int (nI b))]) (st1 := []) (mem1 := mm) rfl ?_
      have hb : b = 8 := by omega
      subst hb
      rw [if_pos (by decide)]
      exact it_V.weak (l := [some (.ref 1), some (.int i), some (.int c), none]) ⟨rfl, ⟨rfl, ⟨rfl, trivial⟩⟩⟩ hv
    | succ k ih =>
      intro b i c mm hb hv
      refine it_V.sN it_cd11 it_m11 3 (pc1 := (if (8 : Int32) ≤ nI b then 79 else 54)) (ls1 := [some (.ref 1), some (.int i), some (.int c), some (.int (nI b))]) (st1 := []) (mem1 := mm) rfl ?_
      rw [if_neg (show ¬ (8 : Int32) ≤ nI b from nI_ge (a := b) (b := 8) (by omega) (by omega))]
      have hv2 : it_V kc it_shB 11 72 [some (.ref 1), some (.int i), some (.int c), some (.int (nI b))] [.int (it_crc1 c)] mm (fun r m => Ψ r it_shB m) := by
        refine it_V.sN it_cd11 it_m11 3 (pc1 := 48) (ls1 := [some (.ref 1), some (.int i), some (.int (it_crc1 c)), some (.int (nI b + 1))]) (st1 := []) (mem1 := mm) rfl ?_
        rw [nI_1]
        exact ih (b + 1) i (it_crc1 c) mm (by omega) hv
      refine it_V.sN it_cd11 it_m11 4 (pc1 := (if (c &&& (1 : Int32)) = 0 then 69 else 60)) (ls1 := [some (.ref 1), some (.int i), some (.int c), some (.int (nI b))]) (st1 := []) (mem1 := mm) rfl ?_
      refine it_V.ite (fun hc => ?_) (fun hc => ?_)
      · rw [it_crc1, if_pos hc] at hv2
        exact it_V.sN it_cd11 it_m11 3 (pc1 := 72) (ls1 := [some (.ref 1), some (.int i), some (.int c), some (.int (nI b))]) (st1 := [.int (it_us c 1)]) (mem1 := mm) rfl hv2
      · rw [it_crc1, if_neg hc] at hv2
        exact it_V.sN it_cd11 it_m11 6 (pc1 := 72) (ls1 := [some (.ref 1), some (.int i), some (.int c), some (.int (nI b))]) (st1 := [.int (it_us c 1 ^^^ (-306674912 : Int32))]) (mem1 := mm) rfl hv2
  have outer : ∀ k i : Nat, i + k = 256 → it_V kc it_shB 11 35 [some (.ref 1), some (.int (nI i)), none, none] [] (it_crcm m2 i) (fun r m => Ψ r it_shB m) := by
    intro k
    induction k with
    | zero =>
      intro i hi
      refine it_V.sN it_cd11 it_m11 5 (pc1 := (if (256 : Int32) ≤ nI i then 92 else 44)) (ls1 := [some (.ref 1), some (.int (nI i)), none, none]) (st1 := []) (mem1 := it_crcm m2 i) rfl ?_
      have hi : i = 256 := by omega
      subst hi
      rw [if_pos (by decide)]
      exact it_V.ret it_cd11 it_m11 rfl rfl h
    | succ k ih =>
      intro i hi
      refine it_V.sN it_cd11 it_m11 5 (pc1 := (if (256 : Int32) ≤ nI i then 92 else 44)) (ls1 := [some (.ref 1), some (.int (nI i)), none, none]) (st1 := []) (mem1 := it_crcm m2 i) rfl ?_
      rw [if_neg (show ¬ (256 : Int32) ≤ nI i from nI_ge (a := i) (b := 256) (by omega) (by omega))]
      refine it_V.sN it_cd11 it_m11 4 (pc1 := 48) (ls1 := [some (.ref 1), some (.int (nI i)), some (.int (nI i)), some (.int (nI 0))]) (st1 := []) (mem1 := it_crcm m2 i) rfl ?_
      refine inner 8 0 (nI i) (nI i) _ rfl ?_
      refine it_V.sN it_cd11 it_m11 4 (pc1 := 85) (ls1 := [some (.ref 1), some (.int (nI i)), some (.int (it_crcK 8 (nI i))), none]) (st1 := [.int (it_crcK 8 (nI i)), .int (nI i), .ref 3]) (mem1 := it_crcm m2 i) rfl ?_
      refine it_V.iast (k := 3) (n := 256) it_cd11 it_m11 rfl rfl (vp_in_nI (by omega) (by omega)) ?_
      rw [nI_clamp (by omega)]
      have e := it_crcm_s m2 i
      rw [it_tab] at e
      rw [e]
      refine it_V.sN it_cd11 it_m11 2 (pc1 := 35) (ls1 := [some (.ref 1), some (.int (nI i + 1)), some (.int (it_crcK 8 (nI i))), none]) (st1 := []) (mem1 := it_crcm m2 (i + 1)) rfl ?_
      rw [nI_1]
      exact it_V.weak (l := [some (.ref 1), some (.int (nI (i+1))), none, none]) ⟨rfl, ⟨rfl, trivial⟩⟩ (ih (i + 1) (by omega))
  refine it_V.sN it_cd11 it_m11 2 (pc1 := 35) (ls1 := [some (.ref 1), some (.int (nI 0)), none, none]) (st1 := []) (mem1 := m2) rfl ?_
  have := outer 256 0 rfl
  rw [it_crcm_0] at this
  exact this
def it_memB (m : it_Me) : it_Me := it_crcm (it_fil (it_up (it_up m 2 (fun _ => 0)) 3 (fun _ => 0)) 2 0 16384 (-1)) 256
def it_memC (m : it_Me) : it_Me := (it_up (it_up (it_up (it_up (it_up (it_up (it_up (it_up (it_up (it_up (it_up (it_up (it_sv (it_up (it_up (it_up (it_up (it_up (it_sv (it_up (it_up (it_up (it_up (it_up (it_sv (it_up (it_up (it_up (it_up (it_up (it_sv (it_up (it_up (it_up (it_up (it_up (it_sv (it_up (it_up (it_up (it_up (it_up (it_sv (it_up (it_up (it_up (it_up (it_up (it_sv (it_up (it_up (it_up (it_up (it_up (it_sv (it_up (it_up (it_up (it_up (it_up (it_up (it_up (it_up (it_up (it_up (it_sv (it_up (it_up (it_up (it_up m 4 (fun _ => 0)) 5 (fun _ => 0)) 6 (fun _ => 0)) 7 (fun _ => 0)) 7 3 (-1 : Int32)) 8 (fun _ => 0)) 9 (fun _ => 0)) 11 (fun _ => 0)) 12 (fun _ => 0)) 13 (fun _ => 0)) 14 (fun _ => 0)) 15 (fun _ => 0)) 16 (fun _ => 0)) 17 (fun _ => 0)) 18 (fun _ => 0)) 14 0 (0 : Int32)) 19 (fun _ => 0)) 20 (fun _ => 0)) 21 (fun _ => 0)) 22 (fun _ => 0)) 23 (fun _ => 0)) 19 0 (1 : Int32)) 24 (fun _ => 0)) 25 (fun _ => 0)) 26 (fun _ => 0)) 27 (fun _ => 0)) 28 (fun _ => 0)) 24 0 (2 : Int32)) 29 (fun _ => 0)) 30 (fun _ => 0)) 31 (fun _ => 0)) 32 (fun _ => 0)) 33 (fun _ => 0)) 29 0 (3 : Int32)) 34 (fun _ => 0)) 35 (fun _ => 0)) 36 (fun _ => 0)) 37 (fun _ => 0)) 38 (fun _ => 0)) 34 0 (4 : Int32)) 39 (fun _ => 0)) 40 (fun _ => 0)) 41 (fun _ => 0)) 42 (fun _ => 0)) 43 (fun _ => 0)) 39 0 (5 : Int32)) 44 (fun _ => 0)) 45 (fun _ => 0)) 46 (fun _ => 0)) 47 (fun _ => 0)) 48 (fun _ => 0)) 44 0 (6 : Int32)) 49 (fun _ => 0)) 50 (fun _ => 0)) 51 (fun _ => 0)) 52 (fun _ => 0)) 53 (fun _ => 0)) 49 0 (7 : Int32)) 54 (fun _ => 0)) 55 (fun _ => 0)) 56 (fun _ => 0)) 57 (fun _ => 0)) 58 (fun _ => 0)) 59 (fun _ => 0)) 60 (fun _ => 0)) 61 (fun _ => 0)) 62 (fun _ => 0)) 63 (fun _ => 0)) 64 (fun _ => 0)) 65 (fun _ => 0))
def it_memD (m : it_Me) : it_Me := (it_up (it_up (it_up (it_up (it_up (it_up (it_up (it_up (it_up (it_up (it_up (it_up (it_up (it_up (it_up (it_up (it_up (it_up (it_up (it_up (it_up (it_up (it_up (it_up (it_up (it_up (it_up (it_up (it_up (it_up (it_up (it_up (it_up (it_up (it_up (it_up (it_up (it_up (it_sv (it_up (it_up (it_up (it_up (it_up (it_up (it_sv (it_up (it_up m 67 (fun _ => 0)) 68 (fun _ => 0)) 66 5 (-1 : Int32)) 69 (fun _ => 0)) 70 (fun _ => 0)) 71 (fun _ => 0)) 72 (fun _ => 0)) 73 (fun _ => 0)) 74 (fun _ => 0)) 66 17 (-1 : Int32)) 75 (fun _ => 0)) 76 (fun _ => 0)) 77 (fun _ => 0)) 78 (fun _ => 0)) 79 (fun _ => 0)) 80 (fun _ => 0)) 81 (fun _ => 0)) 82 (fun _ => 0)) 83 (fun _ => 0)) 84 (fun _ => 0)) 85 (fun _ => 0)) 86 (fun _ => 0)) 87 (fun _ => 0)) 88 (fun _ => 0)) 89 (fun _ => 0)) 90 (fun _ => 0)) 91 (fun _ => 0)) 92 (fun _ => 0)) 93 (fun _ => 0)) 94 (fun _ => 0)) 95 (fun _ => 0)) 96 (fun _ => 0)) 97 (fun _ => 0)) 98 (fun _ => 0)) 99 (fun _ => 0)) 100 (fun _ => 0)) 101 (fun _ => 0)) 102 (fun _ => 0)) 103 (fun _ => 0)) 104 (fun _ => 0)) 105 (fun _ => 0)) 106 (fun _ => 0)) 107 (fun _ => 0)) 108 (fun _ => 0)) 109 (fun _ => 0)) 110 (fun _ => 0)) 111 (fun _ => 0)) 112 (fun _ => 0))
set_option maxRecDepth 1000000 in
set_option maxHeartbeats 4000000 in
theorem ct_186 (kc : it_Kc) (m : it_Me) (Ψ : Option Value → it_Sh → it_Me → Prop) (h : Ψ none it_shC (it_memC (it_memB (it_up m 1 (fun _ => 0))))) (sh : it_Sh) (hsh : sh = [it_shA0]) : it_E kc 186 0 (it_loc0 [.ref 0] 1) [] sh m Ψ := by
  subst hsh
  refine it_E.tN it_cd186 it_m186 (init := true) (by decide) 5 (pc1 := 9) (ls1 := [some (.ref 0)]) (st1 := [.ref 1, .ref 1, .ref 0]) (sh1 := it_shA) (mem1 := it_up m 1 (fun _ => 0)) rfl ?_
  refine it_E.call it_cd186 it_m186 rfl it_m11 [.ref 1] [.ref 1, .ref 0] rfl rfl ⟨Nat.le_of_ble_eq_true rfl, Nat.le_of_ble_eq_true rfl, Nat.le_of_ble_eq_true rfl, Nat.le_of_ble_eq_true rfl, rfl⟩ (ct_11 kc _ (fun r sh m2 => r = none ∧ sh = it_shB ∧ m2 = it_memB (it_up m 1 (fun _ => 0))) ⟨rfl, rfl, rfl⟩) ?_
  rintro _ _ _ ⟨rfl, rfl, rfl⟩
  exact it_E.run (ct_rest kc _) h
set_option maxRecDepth 1000000 in
set_option maxHeartbeats 40000000 in
theorem ct_217 (kc : it_Kc) (m : it_Me) (Ψ : Option Value → it_Sh → it_Me → Prop) (h : Ψ none it_sh0 (it_fil (it_memD m) 67 65536 131072 (-1))) : it_E kc 217 0 (it_loc0 [.ref 66] 2) [] it_shD m Ψ := by
  refine it_E.tN it_cd217 it_m217 (init := true) (by decide) 194 (pc1 := 391) (ls1 := [some (.ref 66), some (.int (nI 65536))]) (st1 := []) (sh1 := it_sh0) (mem1 := it_memD m) rfl ?_
  refine it_E.ofV ?_
  generalize it_memD m = m2 at h ⊢
  have loop : ∀ k i : Nat, 65536 ≤ i → i + k = 131072 → it_V kc it_sh0 217 391 [some (.ref 66), some (.int (nI i))] [] (it_fil m2 67 65536 i (-1)) (fun r m => Ψ r it_sh0 m) := by
    intro k
    induction k with
    | zero =>
      intro i hai hi
      refine it_V.sN it_cd217 it_m217 3 (pc1 := (if (131072 : Int32) ≤ nI i then 410 else 397)) (ls1 := [some (.ref 66), some (.int (nI i))]) (st1 := []) (mem1 := it_fil m2 67 65536 i (-1)) rfl ?_
      have hi : i = 131072 := by omega
      subst hi
      rw [if_pos (by decide)]
      exact it_V.ret it_cd217 it_m217 rfl rfl h
    | succ k ih =>
      intro i hai hi
      refine it_V.sN it_cd217 it_m217 3 (pc1 := (if (131072 : Int32) ≤ nI i then 410 else 397)) (ls1 := [some (.ref 66), some (.int (nI i))]) (st1 := []) (mem1 := it_fil m2 67 65536 i (-1)) rfl ?_
      rw [if_neg (show ¬ (131072 : Int32) ≤ nI i from nI_ge (a := i) (b := 131072) (by omega) (by omega))]
      refine it_V.sN it_cd217 it_m217 4 (pc1 := 403) (ls1 := [some (.ref 66), some (.int (nI i))]) (st1 := [.int (-1 : Int32), .int (nI i), .ref 67]) (mem1 := it_fil m2 67 65536 i (-1)) rfl ?_
      refine it_V.bast (k := 67) (n := 196608) it_cd217 it_m217 rfl rfl (vp_in_nI (by omega) (by omega)) ?_
      rw [nI_clamp (by omega), show (-1 : Int32).toInt8.toInt32 = -1 from rfl, it_fil_s _ _ _ _ _ hai]
      refine it_V.sN it_cd217 it_m217 2 (pc1 := 391) (ls1 := [some (.ref 66), some (.int (nI i + 1))]) (st1 := []) (mem1 := it_fil m2 67 65536 (i + 1) (-1)) rfl ?_
      rw [nI_1]
      exact ih (i + 1) (by omega) (by omega)
  have := loop 65536 65536 (by omega) (by omega)
  rw [it_fil_0] at this
  exact this
/-- the memory behind the constructors -/
def it_mem0 : it_Me := it_fil (it_memD (it_up (it_memC (it_memB (it_up (it_up (fun _ _ => 0) 0 (fun _ => 0)) 1 (fun _ => 0)))) 66 (fun _ => 0))) 67 65536 131072 (-1)
set_option maxRecDepth 1000000 in
set_option maxHeartbeats 4000000 in
/-- THE LAW, up to its loop -/
theorem ct_law (kc : it_Kc) (Φ : Int32 → it_Me → Prop) (h : w_363 kc 0 it_mem0 Φ) : it_E kc 363 0 (it_loc0 [.ref (it_K + 7)] 4) [] [] (fun _ _ => 0) (fun r sh m => sh = it_sh0 ∧ it_Pi Φ r m) := by
  refine it_E.tN it_cd363 it_m363 (init := false) (by decide) 2 (pc1 := 4) (ls1 := [some (.ref (it_K + 7)), none, none, none]) (st1 := [.ref 0, .ref 0]) (sh1 := [it_shA0]) (mem1 := it_up (fun _ _ => 0) 0 (fun _ => 0)) rfl ?_
  refine it_E.call it_cd363 it_m363 rfl it_m186 [.ref 0] [.ref 0] rfl rfl ⟨Nat.le_of_ble_eq_true rfl, Nat.le_of_ble_eq_true rfl, Nat.le_of_ble_eq_true rfl, Nat.le_of_ble_eq_true rfl, rfl⟩ (ct_186 kc _ (fun r sh m2 => r = none ∧ sh = it_shC ∧ m2 = it_memC (it_memB (it_up (it_up (fun _ _ => 0) 0 (fun _ => 0)) 1 (fun _ => 0)))) ⟨rfl, rfl, rfl⟩ _ rfl) ?_
  rintro _ _ _ ⟨rfl, rfl, rfl⟩
  refine it_E.tN it_cd363 it_m363 (init := false) (by decide) 3 (pc1 := 12) (ls1 := [some (.ref (it_K + 7)), some (.ref 0), none, none]) (st1 := [.ref 66, .ref 66]) (sh1 := it_shD) (mem1 := it_up (it_memC (it_memB (it_up (it_up (fun _ _ => 0) 0 (fun _ => 0)) 1 (fun _ => 0)))) 66 (fun _ => 0)) rfl ?_
  refine it_E.call it_cd363 it_m363 rfl it_m217 [.ref 66] [.ref 66] rfl rfl ⟨Nat.le_of_ble_eq_true rfl, Nat.le_of_ble_eq_true rfl, Nat.le_of_ble_eq_true rfl, Nat.le_of_ble_eq_true rfl, rfl⟩ (ct_217 kc _ (fun r sh m2 => r = none ∧ sh = it_sh0 ∧ m2 = it_mem0) ⟨rfl, rfl, rfl⟩) ?_
  rintro _ _ _ ⟨rfl, rfl, rfl⟩
  refine it_E.tN it_cd363 it_m363 (init := false) (by decide) 3 (pc1 := 18) (ls1 := [some (.ref (it_K + 7)), some (.ref 0), some (.ref 66), some (.int (0 : Int32))]) (st1 := []) (sh1 := it_sh0) (mem1 := it_mem0) rfl ?_
  refine it_E.ofV ?_
  exact it_V.mono (s_363 kc 0 it_mem0 Φ h) (fun r m hr => ⟨rfl, hr⟩)
/-- THE CLAIM, pure: from the memory behind the constructors the law's formula holds with the answer 1 -/
theorem it_claim_of (H : ∀ (L : Nat) (xs : Nat → Int32), L ≤ 384 → w_363 (it_kc0 L xs) 0 it_mem0 (fun r _ => r = 1)) : it_Claim := by
  intro L xs hL
  obtain ⟨n, r, sh', mem', h1, h2, x, rfl, rfl⟩ := ct_law (it_kc0 L xs) _ (H L xs hL)
  subst h2
  exact ⟨n, _, _, h1, by decide, by decide +kernel⟩
