/-! The list of candidates is in order. -/
theorem csL_i {F : Nat → Int32} {s : Int32} : ∀ (n A : Nat), 65536 ≤ A → A ≤ 126976 → A % 4 = 0 → (32 * (csL F s n A).length + A ≤ 126976) ∧ (∀ i, i < (csL F s n A).length → A ≤ (csL F s n A).getD i 0 ∧ (csL F s n A).getD i 0 % 4 = 0 ∧ frP F ((csL F s n A).getD i 0) ∧ cand F s ((csL F s n A).getD i 0)) ∧ ∀ i j, i < j → j < (csL F s n A).length → (csL F s n A).getD i 0 < (csL F s n A).getD j 0 := by
  intro n
  induction n with
  | zero =>
    intro A h1 h2 h4
    rw [csL]
    exact ⟨by show 32 * 0 + A ≤ _; omega, fun i hi => absurd hi (Nat.not_lt_zero _), fun i j _ hj => absurd hj (Nat.not_lt_zero _)⟩
  | succ n ih =>
    intro A h1 h2 h4
    rw [csL]
    by_cases fr : frP F A
    · obtain ⟨f1, f2, f3, f4, f5, f6, f7, f8⟩ := frF fr h1
      obtain ⟨a1, a2, a3⟩ := ih (A + tsz F A) (by omega) (by omega) (by omega)
      rw [if_pos fr]
      by_cases cd : cand F s A
      · rw [if_pos cd]
        have t32 := rs32 h4 h1 fr cd.1
        have g0 : (A :: csL F s n (A + tsz F A)).getD 0 0 = A := rfl
        have gs : ∀ i, (A :: csL F s n (A + tsz F A)).getD (i + 1) 0 = (csL F s n (A + tsz F A)).getD i 0 := fun i => rfl
        have ln : (A :: csL F s n (A + tsz F A)).length = (csL F s n (A + tsz F A)).length + 1 := rfl
        rw [ln]
        refine ⟨by omega, fun i hi => ?_, fun i j hij hj => ?_⟩
        · cases i with
          | zero => rw [g0]; exact ⟨Nat.le_refl _, h4, fr, cd⟩
          | succ i =>
            rw [gs]
            have := a2 i (by omega)
            exact ⟨by omega, this.2⟩
        · cases j with
          | zero => exact absurd hij (Nat.not_lt_zero _)
          | succ j =>
            rw [gs]
            cases i with
            | zero =>
              rw [g0]
              have := a2 j (by omega)
              omega
            | succ i =>
              rw [gs]
              exact a3 i j (by omega) (by omega)
      · rw [if_neg cd]
        refine ⟨by omega, fun i hi => ?_, a3⟩
        have := a2 i hi
        exact ⟨by omega, this.2⟩
    · rw [if_neg fr]
      exact ⟨by show 32 * 0 + A ≤ _; omega, fun i hi => absurd hi (Nat.not_lt_zero _), fun i j _ hj => absurd hj (Nat.not_lt_zero _)⟩
theorem csL_ok (F : Nat → Int32) (s : Int32) : okL F (csL F s 3840 65536) := by
  obtain ⟨a1, a2, a3⟩ := csL_i (F := F) (s := s) 3840 65536 (by omega) (by omega) (by omega)
  refine ⟨by omega, fun i hi => ?_, a3⟩
  obtain ⟨b1, b2, b3, b4⟩ := a2 i hi
  obtain ⟨f1, f2, f3, f4, f5, f6, f7, f8⟩ := frF b3 b1
  exact ⟨b1, b2, by omega⟩
/-- the size of the block: the least of 1024 .. 16384 with 512 bytes to spare -/
def bkS (r : Int32) : Nat := if r.toInt + 512 ≤ 1024 then 1024 else if r.toInt + 512 ≤ 2048 then 2048 else if r.toInt + 512 ≤ 4096 then 4096 else if r.toInt + 512 ≤ 8192 then 8192 else 16384
theorem bkS_m (r : Int32) : (bkS r : Nat) ∈ ([1024, 2048, 4096, 8192, 16384] : List Nat) := by
  unfold bkS
  split
  · simp
  · split
    · simp
    · split
      · simp
      · split <;> simp
theorem bkS_le {r : Int32} (h : r.toInt ≤ 15872) : r.toInt + 512 ≤ (bkS r : Int) := by
  unfold bkS
  split
  · omega
  · split
    · omega
    · split
      · omega
      · split <;> omega
theorem r512 {r : Int32} (h : 0 ≤ r.toInt ∧ r.toInt ≤ 15872) {k : Nat} (hk : k < 2147483648) : r + 512 ≤ nI k ↔ r.toInt + 512 ≤ (k : Int) := by
  have e : (r + 512).toInt = r.toInt + 512 := add_I (by show _ ≤ _ + (512 : Int); omega) (by show _ + (512 : Int) < _; omega)
  rw [Int32.le_iff_toInt_le, e, nI_toInt (by omega)]
theorem n2k (k : Nat) (h : k < 32769) : nI k * 2 = nI (2 * k) := by
  refine Int32.toInt_inj.mp ?_
  rw [Int32.toInt_mul, nI_toInt (by omega), nI_toInt (by omega)]
  show Int.bmod ((k : Int) * 2) (2 ^ 32) = _
  rw [bmI' (by omega) (by omega)]
  omega
theorem c_10 {kc : it_Kc} {m : it_Me} {k : Nat} (h : 0 ≤ (m k 5).toInt ∧ (m k 5).toInt ≤ 15872) {Φ : Int32 → it_Me → Prop} (hp : Φ (nI (bkS (m k 5))) m) : w_10 kc k m Φ := by
  have r := fun (x : Nat) (hx : x < 2147483648) => r512 h hx
  have st : ∀ (n x c : Nat), x < 32769 → c < 5 → ((m k 5).toInt + 512 ≤ (x : Int) → Φ (nI x) m) → (¬ (m k 5).toInt + 512 ≤ (x : Int) → w_10_6 kc Φ (fun v1 m => w_10_33 kc Φ v1 m) n k (nI (2 * x)) (nI (c + 1)) m) → w_10_6 kc Φ (fun v1 m => w_10_33 kc Φ v1 m) (n + 1) k (nI x) (nI c) m := fun n x c hx hc h1 h2 => by
    rw [w_10_6]
    refine ⟨fun q => absurd ((nLe (a := 5) (by omega) (by omega)).1 q) (by omega), fun _ => ⟨fun q => h1 ((r x (by omega)).1 q), fun q => ?_⟩⟩
    rw [n2k x hx, nI_s1]
    exact h2 (fun y => q ((r x (by omega)).2 y))
  unfold bkS at hp
  refine ⟨5, st 4 1024 0 (by omega) (by omega) (fun q => ?_) (fun q => st 3 2048 1 (by omega) (by omega) (fun q2 => ?_) (fun q2 => st 2 4096 2 (by omega) (by omega) (fun q3 => ?_) (fun q3 => st 1 8192 3 (by omega) (by omega) (fun q4 => ?_) (fun q4 => st 0 16384 4 (by omega) (by omega) (fun q5 => ?_) (fun q5 => absurd q5 (by omega))))))⟩
  · rw [if_pos (by omega)] at hp; exact hp
  · rw [if_neg (by omega), if_pos (by omega)] at hp; exact hp
  · rw [if_neg (by omega), if_neg (by omega), if_pos (by omega)] at hp; exact hp
  · rw [if_neg (by omega), if_neg (by omega), if_neg (by omega), if_pos (by omega)] at hp; exact hp
  · rw [if_neg (by omega), if_neg (by omega), if_neg (by omega), if_neg (by omega)] at hp; exact hp
theorem r_250b {kc : it_Kc} {N : it_Me} (h : 0 ≤ (N 66 21).toInt ∧ (N 66 21).toInt ≤ 15872) {v2 v3 v4 v5 : Int32} {Φ : it_Me → Prop} {K : Int32 → Int32 → Int32 → Int32 → Int32 → it_Me → Prop} (hp : K v2 v3 v4 v5 (nI (bkS (N 66 21))) N) : ∃ e, w_250_65 kc Φ K e v2 v3 v4 v5 1024 N := by
  have r := fun (x : Nat) (hx : x < 2147483648) => r512 h hx
  have st : ∀ (n x : Nat), x < 32769 → ((N 66 21).toInt + 512 ≤ (x : Int) → K v2 v3 v4 v5 (nI x) N) → (¬ (N 66 21).toInt + 512 ≤ (x : Int) → w_250_65 kc Φ K n v2 v3 v4 v5 (nI (2 * x)) N) → w_250_65 kc Φ K (n + 1) v2 v3 v4 v5 (nI x) N := fun n x hx h1 h2 => by
    rw [w_250_65]
    refine ⟨fun q => h1 ((r x (by omega)).1 q), fun q => ?_⟩
    rw [n2k x hx]
    exact h2 (fun y => q ((r x (by omega)).2 y))
  unfold bkS at hp
  refine ⟨5, st 4 1024 (by omega) (fun q => ?_) (fun q => st 3 2048 (by omega) (fun q2 => ?_) (fun q2 => st 2 4096 (by omega) (fun q3 => ?_) (fun q3 => st 1 8192 (by omega) (fun q4 => ?_) (fun q4 => st 0 16384 (by omega) (fun q5 => ?_) (fun q5 => absurd q5 (by omega))))))⟩
  · rw [if_pos (by omega)] at hp; exact hp
  · rw [if_neg (by omega), if_pos (by omega)] at hp; exact hp
  · rw [if_neg (by omega), if_neg (by omega), if_pos (by omega)] at hp; exact hp
  · rw [if_neg (by omega), if_neg (by omega), if_neg (by omega), if_pos (by omega)] at hp; exact hp
  · rw [if_neg (by omega), if_neg (by omega), if_neg (by omega), if_neg (by omega)] at hp; exact hp
/-- where the next block begins -/
def plS (R b : Nat) : Nat := (R + b - 1) / b * b
theorem plS_f {R b : Nat} (hb : 0 < b) : R ≤ plS R b ∧ plS R b < R + b ∧ plS R b % b = 0 := by
  unfold plS
  have h1 := Nat.div_add_mod (R + b - 1) b
  have h2 := Nat.mod_lt (R + b - 1) hb
  have e : (R + b - 1) / b * b = b * ((R + b - 1) / b) := Nat.mul_comm _ _
  refine ⟨by omega, by omega, Nat.mul_mod_left _ _⟩
theorem and_mpN (n k p : Nat) (h : n < 2 ^ k) (hp : p ≤ k) : n &&& ((2 ^ (k - p) - 1) <<< p) = n / 2 ^ p * 2 ^ p := by
  apply Nat.eq_of_testBit_eq
  intro i
  rw [Nat.testBit_and, Nat.testBit_shiftLeft, Nat.testBit_two_pow_sub_one, show n / 2 ^ p * 2 ^ p = (n >>> p) <<< p by rw [Nat.shiftRight_eq_div_pow, Nat.shiftLeft_eq], Nat.testBit_shiftLeft, Nat.testBit_shiftRight]
  by_cases hi : p ≤ i
  · rw [show p + (i - p) = i by omega]
    by_cases h2 : i - p < k - p
    · simp [hi, h2]
    · have : n.testBit i = false := Nat.testBit_lt_two_pow (Nat.lt_of_lt_of_le h (Nat.pow_le_pow_right (by omega) (by omega)))
      simp [this]
  · simp [hi]
theorem and_mp {x p : Nat} (hx : x < 2147483648) (hp : p ≤ 32) {b : Int32} (hb : b.toBitVec.toNat = (2 ^ (32 - p) - 1) <<< p) : nI x &&& b = nI (x / 2 ^ p * 2 ^ p) := by
  have l : x / 2 ^ p * 2 ^ p ≤ x := Nat.div_mul_le_self _ _
  have h1 := toNatI (nI x &&& b)
  have h2 := toNatI (nI x)
  have e0 := nI_toInt (n := x) (by omega)
  have nx : (nI x).toBitVec.toNat = x := by omega
  have e : (nI x &&& b).toBitVec.toNat = x / 2 ^ p * 2 ^ p := by
    rw [Int32.toBitVec_and, BitVec.toNat_and, hb, nx]
    exact and_mpN _ 32 p (by omega) hp
  rw [e] at h1
  refine Int32.toInt_inj.mp ?_
  rw [nI_toInt (by omega)]
  have := tlo (nI x &&& b)
  have := thi (nI x &&& b)
  omega
theorem bk5 {b : Nat} (h : b ∈ ([1024, 2048, 4096, 8192, 16384] : List Nat)) : b = 1024 ∨ b = 2048 ∨ b = 4096 ∨ b = 8192 ∨ b = 16384 := by
  simp only [List.mem_cons, List.not_mem_nil, or_false] at h
  exact h
theorem pl_s {R b : Nat} (hb : 0 < b) : nI R + nI b - 1 = nI (R + b - 1) := by
  rw [show nI R + nI b = nI (R + b) from nI_add _ _]
  exact nSub (C := 1) (by omega)
theorem pl_c {R b : Nat} (hR : R ≤ 196608) (hb : b ∈ ([1024, 2048, 4096, 8192, 16384] : List Nat)) : (nI R + nI b - 1) &&& (-(nI b)) = nI (plS R b) := by
  have h5 := bk5 hb
  rw [pl_s (by omega)]
  unfold plS
  rcases h5 with rfl | rfl | rfl | rfl | rfl
  · exact and_mp (p := 10) (by omega) (by omega) (by decide)
  · exact and_mp (p := 11) (by omega) (by omega) (by decide)
  · exact and_mp (p := 12) (by omega) (by omega) (by decide)
  · exact and_mp (p := 13) (by omega) (by omega) (by decide)
  · exact and_mp (p := 14) (by omega) (by omega) (by decide)
theorem pl_r {R b : Nat} (hR : R ≤ 196608) (hb : b ∈ ([1024, 2048, 4096, 8192, 16384] : List Nat)) : (nI R + nI b - 1) / nI b * nI b = nI (plS R b) := by
  have h5 := bk5 hb
  rw [pl_s (by omega)]
  have l : (R + b - 1) / b * b ≤ R + b - 1 := Nat.div_mul_le_self _ _
  have l2 : (R + b - 1) / b ≤ R + b - 1 := Nat.div_le_self _ _
  have eb := nI_toInt (n := b) (by omega)
  have ex := nI_toInt (n := R + b - 1) (by omega)
  unfold plS
  have e4 : (nI (R + b - 1) / nI b).toInt = (((R + b - 1) / b : Nat) : Int) := by
    rw [Int32.toInt_div, ex, eb, Int.tdiv_eq_ediv_of_nonneg (by omega), ← Int.natCast_ediv]
    generalize (R + b - 1) / b = q at l2
    exact bmI' (by omega) (by omega)
  refine Int32.toInt_inj.mp ?_
  rw [Int32.toInt_mul, e4, eb]
  generalize (R + b - 1) / b = q at l l2
  have e5 : (q : Int) * (b : Int) = ((q * b : Nat) : Int) := (Int.natCast_mul q b).symm
  rw [e5]
  generalize q * b = z at l
  rw [bmI' (by omega) (by omega), nI_toInt (by omega)]
