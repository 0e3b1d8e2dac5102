/-! Apps in flash: the elements of a head. -/
def uS (σ : Nat → Int32) (i : Nat) (v : Int32) : Nat → Int32 := fun j => if j = i then v else σ j
theorem uS_s (σ : Nat → Int32) (i : Nat) (v : Int32) : uS σ i v i = v := by unfold uS; rw [if_pos rfl]
theorem uS_n (σ : Nat → Int32) {i j : Nat} (v : Int32) (h : j ≠ i) : uS σ i v j = σ j := by unfold uS; rw [if_neg h]
theorem sv_up (m : it_Me) (k i : Nat) (v : Int32) : it_sv m k i v = it_up m k (uS (m k) i v) := up_up m k i v
theorem up_id (m : it_Me) (k : Nat) : it_up m k (m k) = m := by
  funext c
  by_cases h : c = k
  · subst h; rw [up_same]
  · rw [up_cell _ _ _ h]
theorem up_up2 (m : it_Me) (k : Nat) (f g : Nat → Int32) : it_up (it_up m k f) k g = it_up m k g := by
  funext c
  by_cases h : c = k
  · subst h; rw [up_same, up_same]
  · rw [up_cell _ _ _ h, up_cell _ _ _ h, up_cell _ _ _ h]
def tkE (σ : Nat → Int32) (t l a : Int32) : Nat → Int32 :=
  if t = 1 ∧ l = 12 ∧ σ 8 = 0 then uS σ 8 a
  else if t = 9 ∧ l = 20 ∧ σ 9 = 0 then uS σ 9 a
  else if t = 3 ∧ ¬ l < 1 ∧ ¬ 16 < l ∧ σ 10 = 0 then uS (uS σ 10 a) 11 l
  else if t = 7 ∧ l = 4 ∧ σ 12 = 0 then uS σ 12 a
  else if t = 8 ∧ ¬ l < 8 ∧ ¬ 64 < l ∧ l &&& 7 = 0 ∧ σ 13 = 0 then uS (uS σ 13 a) 14 l
  else σ
theorem c_4 {kc : it_Kc} {k : Nat} {t l a : Int32} {m : it_Me} {Φ : it_Me → Prop} (h : Φ (it_up m k (tkE (m k) t l a))) : w_4 kc k t l a m Φ := by
  unfold tkE at h
  have s115 : ¬ (t = 1 ∧ l = 12 ∧ m k 8 = 0) → ¬ (t = 9 ∧ l = 20 ∧ m k 9 = 0) → ¬ (t = 3 ∧ ¬ l < 1 ∧ ¬ 16 < l ∧ m k 10 = 0) → ¬ (t = 7 ∧ l = 4 ∧ m k 12 = 0) → w_4_115 kc Φ k t l a m := fun n1 n2 n3 n4 => by
    rw [if_neg n1, if_neg n2, if_neg n3, if_neg n4] at h
    unfold w_4_115 w_4_157
    have no : ¬ (t = 8 ∧ ¬ l < 8 ∧ ¬ 64 < l ∧ l &&& 7 = 0 ∧ m k 13 = 0) → Φ m := fun n5 => by
      rw [if_neg n5, up_id] at h
      exact h
    refine ⟨fun q1 => ⟨fun q2 => no (fun y => y.2.1 q2), fun q2 => ⟨fun q3 => no (fun y => y.2.2.1 q3), fun q3 => ⟨fun q4 => ⟨fun q5 => ?_, fun q5 => no (fun y => q5 y.2.2.2.2)⟩, fun q4 => no (fun y => q4 y.2.2.2.1)⟩⟩⟩, fun q1 => no (fun y => q1 y.1)⟩
    rw [if_pos ⟨q1, q2, q3, q4, q5⟩] at h
    rw [sv_up, sv_up, up_same, up_up2]
    exact h
  have s89 : ¬ (t = 1 ∧ l = 12 ∧ m k 8 = 0) → ¬ (t = 9 ∧ l = 20 ∧ m k 9 = 0) → ¬ (t = 3 ∧ ¬ l < 1 ∧ ¬ 16 < l ∧ m k 10 = 0) → w_4_89 kc Φ k t l a m := fun n1 n2 n3 => by
    unfold w_4_89 w_4_157
    refine ⟨fun q1 => ⟨fun q2 => ⟨fun q3 => ?_, fun q3 => s115 n1 n2 n3 (fun y => q3 y.2.2)⟩, fun q2 => s115 n1 n2 n3 (fun y => q2 y.2.1)⟩, fun q1 => s115 n1 n2 n3 (fun y => q1 y.1)⟩
    rw [if_neg n1, if_neg n2, if_neg n3, if_pos ⟨q1, q2, q3⟩] at h
    rw [sv_up]
    exact h
  have s53 : ¬ (t = 1 ∧ l = 12 ∧ m k 8 = 0) → ¬ (t = 9 ∧ l = 20 ∧ m k 9 = 0) → w_4_53 kc Φ k t l a m := fun n1 n2 => by
    unfold w_4_53 w_4_157
    refine ⟨fun q1 => ⟨fun q2 => s89 n1 n2 (fun y => y.2.1 q2), fun q2 => ⟨fun q3 => s89 n1 n2 (fun y => y.2.2.1 q3), fun q3 => ⟨fun q4 => ?_, fun q4 => s89 n1 n2 (fun y => q4 y.2.2.2)⟩⟩⟩, fun q1 => s89 n1 n2 (fun y => q1 y.1)⟩
    rw [if_neg n1, if_neg n2, if_pos ⟨q1, q2, q3, q4⟩] at h
    rw [sv_up, sv_up, up_same, up_up2]
    exact h
  have s26 : ¬ (t = 1 ∧ l = 12 ∧ m k 8 = 0) → w_4_26 kc Φ k t l a m := fun n1 => by
    unfold w_4_26 w_4_157
    refine ⟨fun q1 => ⟨fun q2 => ⟨fun q3 => ?_, fun q3 => s53 n1 (fun y => q3 y.2.2)⟩, fun q2 => s53 n1 (fun y => q2 y.2.1)⟩, fun q1 => s53 n1 (fun y => q1 y.1)⟩
    rw [if_neg n1, if_pos ⟨q1, q2, q3⟩] at h
    rw [sv_up]
    exact h
  unfold w_4 w_4_157
  refine ⟨fun q1 => ⟨fun q2 => ⟨fun q3 => ?_, fun q3 => s26 (fun y => q3 y.2.2)⟩, fun q2 => s26 (fun y => q2 y.2.1)⟩, fun q1 => s26 (fun y => q1 y.1)⟩
  rw [if_pos ⟨q1, q2, q3⟩] at h
  rw [sv_up]
  exact h
/-- what an element changes, field by field -/
theorem tk8 (σ : Nat → Int32) (t l a : Int32) : tkE σ t l a 8 = if t = 1 ∧ l = 12 ∧ σ 8 = 0 then a else σ 8 := by
  unfold tkE
  split
  · rw [uS_s]
  · split
    · rw [uS_n _ _ (by omega)]
    · split
      · rw [uS_n _ _ (by omega), uS_n _ _ (by omega)]
      · split
        · rw [uS_n _ _ (by omega)]
        · split
          · rw [uS_n _ _ (by omega), uS_n _ _ (by omega)]
          · rfl
theorem tk9 (σ : Nat → Int32) (t l a : Int32) : tkE σ t l a 9 = if t = 9 ∧ l = 20 ∧ σ 9 = 0 then a else σ 9 := by
  unfold tkE
  split
  · rename_i h
    rw [uS_n _ _ (by omega), if_neg (fun y => absurd (h.1.symm.trans y.1) (by decide))]
  · split
    · rw [uS_s]
    · split
      · rw [uS_n _ _ (by omega), uS_n _ _ (by omega)]
      · split
        · rw [uS_n _ _ (by omega)]
        · split
          · rw [uS_n _ _ (by omega), uS_n _ _ (by omega)]
          · rfl
theorem tkO {σ : Nat → Int32} {t l a : Int32} {i : Nat} (hi : i = 10 ∨ i = 11) (h : ¬ (t = 3 ∧ ¬ l < 1 ∧ ¬ 16 < l ∧ σ 10 = 0)) : tkE σ t l a i = σ i := by
  unfold tkE
  split
  · rw [uS_n _ _ (by omega)]
  · split
    · rw [uS_n _ _ (by omega)]
    · split
      · rw [uS_n _ _ (by omega)]
      · split
        · rw [uS_n _ _ (by omega), uS_n _ _ (by omega)]
        · rfl
theorem tkN {σ : Nat → Int32} {t l a : Int32} (h : t = 3 ∧ ¬ l < 1 ∧ ¬ 16 < l ∧ σ 10 = 0) : tkE σ t l a = uS (uS σ 10 a) 11 l := by
  unfold tkE
  rw [if_neg (fun y => absurd (h.1.symm.trans y.1) (by decide)), if_neg (fun y => absurd (h.1.symm.trans y.1) (by decide)), if_pos h]
theorem tk12 (σ : Nat → Int32) (t l a : Int32) : tkE σ t l a 12 = if t = 7 ∧ l = 4 ∧ σ 12 = 0 then a else σ 12 := by
  unfold tkE
  split
  · rename_i h
    rw [uS_n _ _ (by omega), if_neg (fun y => absurd (h.1.symm.trans y.1) (by decide))]
  · split
    · rename_i h
      rw [uS_n _ _ (by omega), if_neg (fun y => absurd (h.1.symm.trans y.1) (by decide))]
    · split
      · rename_i h
        rw [uS_n _ _ (by omega), uS_n _ _ (by omega), if_neg (fun y => absurd (h.1.symm.trans y.1) (by decide))]
      · split
        · rw [uS_s]
        · split
          · rw [uS_n _ _ (by omega), uS_n _ _ (by omega)]
          · rfl
theorem tkP {σ : Nat → Int32} {t l a : Int32} {i : Nat} (hi : i = 13 ∨ i = 14) (h : ¬ (t = 8 ∧ ¬ l < 8 ∧ ¬ 64 < l ∧ l &&& 7 = 0 ∧ σ 13 = 0)) : tkE σ t l a i = σ i := by
  unfold tkE
  split
  · rw [uS_n _ _ (by omega)]
  · split
    · rw [uS_n _ _ (by omega)]
    · split
      · rw [uS_n _ _ (by omega), uS_n _ _ (by omega)]
      · split
        · rw [uS_n _ _ (by omega)]
        · rfl
theorem tkQ {σ : Nat → Int32} {t l a : Int32} (h : t = 8 ∧ ¬ l < 8 ∧ ¬ 64 < l ∧ l &&& 7 = 0 ∧ σ 13 = 0) : tkE σ t l a = uS (uS σ 13 a) 14 l := by
  unfold tkE
  rw [if_neg (fun y => absurd (h.1.symm.trans y.1) (by decide)), if_neg (fun y => absurd (h.1.symm.trans y.1) (by decide)), if_neg (fun y => absurd (h.1.symm.trans y.1) (by decide)), if_neg (fun y => absurd (h.1.symm.trans y.1) (by decide)), if_pos h]
def nl (x y : Int32) : Int32 := if x = 0 then 0 else y
/-- the reference's places for the elements -/
def rT (N : it_Me) (a b c d e : Int32) : it_Me := fun k j => if k = 66 ∧ j = 24 then a else if k = 66 ∧ j = 25 then b else if k = 66 ∧ j = 26 then c else if k = 66 ∧ j = 27 then d else if k = 66 ∧ j = 28 then e else N k j
theorem rT_f (N : it_Me) (a b c d e : Int32) {k : Nat} (h : k ≠ 66) : rT N a b c d e k = N k := by
  funext j
  unfold rT
  rw [if_neg (by omega), if_neg (by omega), if_neg (by omega), if_neg (by omega), if_neg (by omega)]
theorem rT_j (N : it_Me) (a b c d e : Int32) {j : Nat} (h : j < 24 ∨ 28 < j) : rT N a b c d e 66 j = N 66 j := by
  unfold rT
  rw [if_neg (by omega), if_neg (by omega), if_neg (by omega), if_neg (by omega), if_neg (by omega)]
theorem rT_24 (N : it_Me) (a b c d e v : Int32) : it_sv (rT N a b c d e) 66 24 v = rT N v b c d e := by
  funext k j
  rw [sv_rd]
  unfold rT
  by_cases h : k = 66 ∧ j = 24
  · rw [if_pos h, if_pos h]
  · rw [if_neg h, if_neg h, if_neg h]
theorem rT_25 (N : it_Me) (a b c d e v : Int32) : it_sv (rT N a b c d e) 66 25 v = rT N a v c d e := by
  funext k j
  rw [sv_rd]
  unfold rT
  by_cases h : k = 66 ∧ j = 25
  · rw [if_pos h, if_neg (by omega), if_pos h]
  · rw [if_neg h]
    simp only [if_neg h]
theorem rT_26 (N : it_Me) (a b c d e v : Int32) : it_sv (rT N a b c d e) 66 26 v = rT N a b v d e := by
  funext k j
  rw [sv_rd]
  unfold rT
  by_cases h : k = 66 ∧ j = 26
  · rw [if_pos h, if_neg (by omega), if_neg (by omega), if_pos h]
  · rw [if_neg h]
    simp only [if_neg h]
theorem rT_27 (N : it_Me) (a b c d e v : Int32) : it_sv (rT N a b c d e) 66 27 v = rT N a b c v e := by
  funext k j
  rw [sv_rd]
  unfold rT
  by_cases h : k = 66 ∧ j = 27
  · rw [if_pos h, if_neg (by omega), if_neg (by omega), if_neg (by omega), if_pos h]
  · rw [if_neg h]
    simp only [if_neg h]
theorem rT_28 (N : it_Me) (a b c d e v : Int32) : it_sv (rT N a b c d e) 66 28 v = rT N a b c d v := by
  funext k j
  rw [sv_rd]
  unfold rT
  by_cases h : k = 66 ∧ j = 28
  · rw [if_pos h, if_neg (by omega), if_neg (by omega), if_neg (by omega), if_neg (by omega), if_pos h]
  · rw [if_neg h]
    simp only [if_neg h]
def rE (N : it_Me) (σ : Nat → Int32) : it_Me := rT N (nz (σ 10)) (nl (σ 10) (σ 11)) (nz (σ 12)) (nz (σ 13)) (nl (σ 13) (σ 14))
theorem nz_1 (x : Int32) (h : x ≠ -1) : nz x = -1 ↔ x = 0 := by
  unfold nz
  by_cases q : x = 0
  · rw [if_pos q]; exact ⟨fun _ => q, fun _ => rfl⟩
  · rw [if_neg q]; exact ⟨fun y => absurd y h, fun y => absurd y q⟩
/-- no field is -1 -/
def noM (σ : Nat → Int32) : Prop := ∀ i, i = 8 ∨ i = 9 ∨ i = 10 ∨ i = 12 ∨ i = 13 → σ i ≠ -1
theorem rm8 : ∀ k, k < 65 → (it_rem (nI k) 8 = 0 ↔ nI k &&& 7 = 0) := by decide +kernel
