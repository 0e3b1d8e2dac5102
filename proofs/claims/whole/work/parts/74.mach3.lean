/-! The machine: arithmetic, atomics, instructions of 32 bits. Written by wip/whole/gen_m3.py -/
theorem k8 {x : Int32} (y : Int32) (h : x = y &&& 7) : ∃ k, k < 8 ∧ x = nI k := by
  obtain ⟨k, k1, k2⟩ := numN (x := x) (k := 8) (by omega) (by rw [h, and7]; omega)
  exact ⟨k, k1, k2⟩
theorem shm (x y : Int32) : it_shl x (y &&& 31) = it_shl x y := by
  unfold it_shl
  rw [Int32.and_assoc, Int32.and_self]
theorem srm (x y : Int32) : it_shr x (y &&& 31) = it_shr x y := by
  unfold it_shr
  rw [Int32.and_assoc, Int32.and_self]
theorem usm (x y : Int32) : it_us x (y &&& 31) = it_us x y := by
  unfold it_us
  rw [Int32.toUInt32_and, UInt32.and_assoc, UInt32.and_self]
/-- the values of work and compute -/
theorem alu {kc : it_Kc} {f : Int32} {k : Nat} (hk : k < 8) (hf : f = nI k) (o a b : Int32) : ∃ v, (∀ (m : it_Me) (Φ : Int32 → it_Me → Prop), Φ v m → w_119 kc f o a b m Φ) ∧ ∀ (M : it_Me) (Φ : Int32 → it_Me → Prop), Φ v M → w_328 kc f o a b M Φ := by
  subst hf
  unfold w_119 w_328 w_119_57 w_119_75 w_119_89 w_119_113 w_328_59 w_328_76 w_328_92 w_328_113
  rw [shm, usm, srm]
  rcases (by omega : k = 0 ∨ k = 1 ∨ k = 2 ∨ k = 3 ∨ k = 4 ∨ k = 5 ∨ k = 6 ∨ k = 7) with e | e | e | e | e | e | e | e <;> subst e
  · by_cases y : o = 0
    · exact ⟨a + b, fun m Φ h => ⟨fun _ => ⟨fun _ => h, fun q => absurd y q⟩, fun q => absurd rfl q⟩, fun M Φ h => ⟨fun _ => ⟨fun _ => h, fun q => absurd y q⟩, fun q => absurd rfl q⟩⟩
    · exact ⟨a - b, fun m Φ h => ⟨fun _ => ⟨fun q => absurd q y, fun _ => h⟩, fun q => absurd rfl q⟩, fun M Φ h => ⟨fun _ => ⟨fun q => absurd q y, fun _ => h⟩, fun q => absurd rfl q⟩⟩
  · exact ⟨it_shl a b, fun m Φ h => ⟨fun q => absurd q (by decide), fun _ => ⟨fun _ => h, fun q => absurd rfl q⟩⟩, fun M Φ h => ⟨fun q => absurd q (by decide), fun _ => ⟨fun _ => h, fun q => absurd rfl q⟩⟩⟩
  · by_cases y : b ≤ a
    · exact ⟨0, fun m Φ h => ⟨fun q => absurd q (by decide), fun _ => ⟨fun q => absurd q (by decide), fun _ => ⟨fun _ => ⟨fun _ => h, fun q => absurd y q⟩, fun q => absurd rfl q⟩⟩⟩, fun M Φ h => ⟨fun q => absurd q (by decide), fun _ => ⟨fun q => absurd q (by decide), fun _ => ⟨fun _ => ⟨fun _ => h, fun q => absurd y q⟩, fun q => absurd rfl q⟩⟩⟩⟩
    · exact ⟨1, fun m Φ h => ⟨fun q => absurd q (by decide), fun _ => ⟨fun q => absurd q (by decide), fun _ => ⟨fun _ => ⟨fun q => absurd q y, fun _ => h⟩, fun q => absurd rfl q⟩⟩⟩, fun M Φ h => ⟨fun q => absurd q (by decide), fun _ => ⟨fun q => absurd q (by decide), fun _ => ⟨fun _ => ⟨fun q => absurd q y, fun _ => h⟩, fun q => absurd rfl q⟩⟩⟩⟩
  · by_cases y : ult a b
    · refine ⟨1, fun m Φ h => ⟨fun q => absurd q (by decide), fun _ => ⟨fun q => absurd q (by decide), fun _ => ⟨fun q => absurd q (by decide), fun _ => ⟨fun _ => c_213 ?_, fun q => absurd rfl q⟩⟩⟩⟩, fun M Φ h => ⟨fun q => absurd q (by decide), fun _ => ⟨fun q => absurd q (by decide), fun _ => ⟨fun q => absurd q (by decide), fun _ => ⟨fun _ => r_247 ?_, fun q => absurd rfl q⟩⟩⟩⟩⟩
      · rw [bI_t y]
        exact ⟨fun q => absurd q (by decide), fun _ => h⟩
      · rw [bI_t y]
        exact ⟨fun q => absurd q (by decide), fun _ => h⟩
    · refine ⟨0, fun m Φ h => ⟨fun q => absurd q (by decide), fun _ => ⟨fun q => absurd q (by decide), fun _ => ⟨fun q => absurd q (by decide), fun _ => ⟨fun _ => c_213 ?_, fun q => absurd rfl q⟩⟩⟩⟩, fun M Φ h => ⟨fun q => absurd q (by decide), fun _ => ⟨fun q => absurd q (by decide), fun _ => ⟨fun q => absurd q (by decide), fun _ => ⟨fun _ => r_247 ?_, fun q => absurd rfl q⟩⟩⟩⟩⟩
      · rw [bI_f y]
        exact ⟨fun _ => h, fun q => absurd rfl q⟩
      · rw [bI_f y]
        exact ⟨fun _ => h, fun q => absurd rfl q⟩
  · exact ⟨a ^^^ b, fun m Φ h => ⟨fun q => absurd q (by decide), fun _ => ⟨fun q => absurd q (by decide), fun _ => ⟨fun q => absurd q (by decide), fun _ => ⟨fun q => absurd q (by decide), fun _ => ⟨fun _ => h, fun q => absurd rfl q⟩⟩⟩⟩⟩, fun M Φ h => ⟨fun q => absurd q (by decide), fun _ => ⟨fun q => absurd q (by decide), fun _ => ⟨fun q => absurd q (by decide), fun _ => ⟨fun q => absurd q (by decide), fun _ => ⟨fun _ => h, fun q => absurd rfl q⟩⟩⟩⟩⟩⟩
  · by_cases y : o = 0
    · exact ⟨it_us a b, fun m Φ h => ⟨fun q => absurd q (by decide), fun _ => ⟨fun q => absurd q (by decide), fun _ => ⟨fun q => absurd q (by decide), fun _ => ⟨fun q => absurd q (by decide), fun _ => ⟨fun q => absurd q (by decide), fun _ => ⟨fun _ => ⟨fun _ => h, fun q => absurd y q⟩, fun q => absurd rfl q⟩⟩⟩⟩⟩⟩, fun M Φ h => ⟨fun q => absurd q (by decide), fun _ => ⟨fun q => absurd q (by decide), fun _ => ⟨fun q => absurd q (by decide), fun _ => ⟨fun q => absurd q (by decide), fun _ => ⟨fun q => absurd q (by decide), fun _ => ⟨fun _ => ⟨fun _ => h, fun q => absurd y q⟩, fun q => absurd rfl q⟩⟩⟩⟩⟩⟩⟩
    · exact ⟨it_shr a b, fun m Φ h => ⟨fun q => absurd q (by decide), fun _ => ⟨fun q => absurd q (by decide), fun _ => ⟨fun q => absurd q (by decide), fun _ => ⟨fun q => absurd q (by decide), fun _ => ⟨fun q => absurd q (by decide), fun _ => ⟨fun _ => ⟨fun q => absurd q y, fun _ => h⟩, fun q => absurd rfl q⟩⟩⟩⟩⟩⟩, fun M Φ h => ⟨fun q => absurd q (by decide), fun _ => ⟨fun q => absurd q (by decide), fun _ => ⟨fun q => absurd q (by decide), fun _ => ⟨fun q => absurd q (by decide), fun _ => ⟨fun q => absurd q (by decide), fun _ => ⟨fun _ => ⟨fun q => absurd q y, fun _ => h⟩, fun q => absurd rfl q⟩⟩⟩⟩⟩⟩⟩
  · exact ⟨a ||| b, fun m Φ h => ⟨fun q => absurd q (by decide), fun _ => ⟨fun q => absurd q (by decide), fun _ => ⟨fun q => absurd q (by decide), fun _ => ⟨fun q => absurd q (by decide), fun _ => ⟨fun q => absurd q (by decide), fun _ => ⟨fun q => absurd q (by decide), fun _ => ⟨fun _ => h, fun q => absurd rfl q⟩⟩⟩⟩⟩⟩⟩, fun M Φ h => ⟨fun q => absurd q (by decide), fun _ => ⟨fun q => absurd q (by decide), fun _ => ⟨fun q => absurd q (by decide), fun _ => ⟨fun q => absurd q (by decide), fun _ => ⟨fun q => absurd q (by decide), fun _ => ⟨fun q => absurd q (by decide), fun _ => ⟨fun _ => h, fun q => absurd rfl q⟩⟩⟩⟩⟩⟩⟩⟩
  · exact ⟨a &&& b, fun m Φ h => ⟨fun q => absurd q (by decide), fun _ => ⟨fun q => absurd q (by decide), fun _ => ⟨fun q => absurd q (by decide), fun _ => ⟨fun q => absurd q (by decide), fun _ => ⟨fun q => absurd q (by decide), fun _ => ⟨fun q => absurd q (by decide), fun _ => ⟨fun q => absurd q (by decide), fun _ => h⟩⟩⟩⟩⟩⟩⟩, fun M Φ h => ⟨fun q => absurd q (by decide), fun _ => ⟨fun q => absurd q (by decide), fun _ => ⟨fun q => absurd q (by decide), fun _ => ⟨fun q => absurd q (by decide), fun _ => ⟨fun q => absurd q (by decide), fun _ => ⟨fun q => absurd q (by decide), fun _ => ⟨fun q => absurd q (by decide), fun _ => h⟩⟩⟩⟩⟩⟩⟩⟩
theorem dvm : (-2147483648 : Int32) / (-1) = -2147483648 := by decide
theorem div_m1 (x : Int32) : x / (-1) = -x := by
  apply Int32.toInt_inj.mp
  rw [Int32.toInt_div, show (-1 : Int32).toInt = -1 by decide, Int32.toInt_neg, Int.tdiv_neg, Int.tdiv_one]
theorem rem_m1 (x : Int32) : it_rem x (-1) = 0 := by
  unfold it_rem
  rw [div_m1, Int32.neg_mul, Int32.mul_neg, Int32.neg_neg, Int32.mul_one, Int32.sub_self]
theorem u64_0 {x : Int32} (h : ¬ x = 0) : ¬ ((Int32.toInt64 x) &&& (4294967295 : Int64)) = 0 := fun q => by
  have := u32 x
  rw [q] at this
  have z0 : (0 : Int64).toInt = 0 := by decide
  have t1 := tlo x
  have t2 := thi x
  exact h (Int32.toInt_inj.mp (by show x.toInt = 0; omega))
/-- the values of multiply -/
theorem mul {kc : it_Kc} {f : Int32} {k : Nat} (hk : k < 8) (hf : f = nI k) (a b : Int32) : ∃ v, (∀ (m : it_Me) (Φ : Int32 → it_Me → Prop), Φ v m → w_120 kc f a b m Φ) ∧ ∀ (M : it_Me) (Φ : Int32 → it_Me → Prop), Φ v M → w_330 kc f a b M Φ := by
  subst hf
  unfold w_120 w_330 w_120_104 w_120_118 w_120_130 w_120_144 w_330_114 w_330_117 w_330_140 w_330_161 w_330_184
  rcases (by omega : k = 0 ∨ k = 1 ∨ k = 2 ∨ k = 3 ∨ k = 4 ∨ k = 5 ∨ k = 6 ∨ k = 7) with e | e | e | e | e | e | e | e <;> subst e
  · exact ⟨_, fun m Φ h => ⟨fun _ => h, fun q => absurd rfl q⟩, fun M Φ h => ⟨fun _ => h, fun q => absurd rfl q⟩⟩
  · exact ⟨_, fun m Φ h => ⟨fun q => absurd q (by decide), fun _ => ⟨fun _ => h, fun q => absurd rfl q⟩⟩, fun M Φ h => ⟨fun q => absurd q (by decide), fun _ => ⟨fun _ => h, fun q => absurd rfl q⟩⟩⟩
  · exact ⟨_, fun m Φ h => ⟨fun q => absurd q (by decide), fun _ => ⟨fun q => absurd q (by decide), fun _ => ⟨fun _ => h, fun q => absurd rfl q⟩⟩⟩, fun M Φ h => ⟨fun q => absurd q (by decide), fun _ => ⟨fun q => absurd q (by decide), fun _ => ⟨fun _ => h, fun q => absurd rfl q⟩⟩⟩⟩
  · exact ⟨_, fun m Φ h => ⟨fun q => absurd q (by decide), fun _ => ⟨fun q => absurd q (by decide), fun _ => ⟨fun q => absurd q (by decide), fun _ => ⟨fun _ => h, fun q => absurd rfl q⟩⟩⟩⟩, fun M Φ h => ⟨fun q => absurd q (by decide), fun _ => ⟨fun q => absurd q (by decide), fun _ => ⟨fun q => absurd q (by decide), fun _ => ⟨fun _ => h, fun q => absurd rfl q⟩⟩⟩⟩⟩
  · by_cases y : b = 0
    · exact ⟨-1, fun m Φ h => ⟨fun q => absurd q (by decide), fun _ => ⟨fun q => absurd q (by decide), fun _ => ⟨fun q => absurd q (by decide), fun _ => ⟨fun q => absurd q (by decide), fun _ => ⟨fun _ => ⟨fun _ => h, fun q => absurd y q⟩, fun q => absurd rfl q⟩⟩⟩⟩⟩, fun M Φ h => ⟨fun q => absurd q (by decide), fun _ => ⟨fun q => absurd q (by decide), fun _ => ⟨fun q => absurd q (by decide), fun _ => ⟨fun q => absurd q (by decide), fun _ => ⟨fun _ => ⟨fun _ => h, fun q => absurd y q⟩, fun q => absurd rfl q⟩⟩⟩⟩⟩⟩
    · refine ⟨a / b, fun m Φ h => ⟨fun q => absurd q (by decide), fun _ => ⟨fun q => absurd q (by decide), fun _ => ⟨fun q => absurd q (by decide), fun _ => ⟨fun q => absurd q (by decide), fun _ => ⟨fun _ => ⟨fun q => absurd q y, fun _ => ⟨y, h⟩⟩, fun q => absurd rfl q⟩⟩⟩⟩⟩, fun M Φ h => ⟨fun q => absurd q (by decide), fun _ => ⟨fun q => absurd q (by decide), fun _ => ⟨fun q => absurd q (by decide), fun _ => ⟨fun q => absurd q (by decide), fun _ => ⟨fun _ => ⟨fun q => absurd q y, fun _ => ⟨fun q1 => ⟨fun q2 => ?_, fun _ => ⟨y, h⟩⟩, fun _ => ⟨y, h⟩⟩⟩, fun q => absurd rfl q⟩⟩⟩⟩⟩⟩
      rw [q1, q2, dvm] at h
      rw [q1]
      exact h
  · by_cases y : b = 0
    · exact ⟨-1, fun m Φ h => ⟨fun q => absurd q (by decide), fun _ => ⟨fun q => absurd q (by decide), fun _ => ⟨fun q => absurd q (by decide), fun _ => ⟨fun q => absurd q (by decide), fun _ => ⟨fun q => absurd q (by decide), fun _ => ⟨fun _ => ⟨fun _ => h, fun q => absurd y q⟩, fun q => absurd rfl q⟩⟩⟩⟩⟩⟩, fun M Φ h => ⟨fun q => absurd q (by decide), fun _ => ⟨fun q => absurd q (by decide), fun _ => ⟨fun q => absurd q (by decide), fun _ => ⟨fun q => absurd q (by decide), fun _ => ⟨fun q => absurd q (by decide), fun _ => ⟨fun _ => ⟨fun _ => h, fun q => absurd y q⟩, fun q => absurd rfl q⟩⟩⟩⟩⟩⟩⟩
    · exact ⟨_, fun m Φ h => ⟨fun q => absurd q (by decide), fun _ => ⟨fun q => absurd q (by decide), fun _ => ⟨fun q => absurd q (by decide), fun _ => ⟨fun q => absurd q (by decide), fun _ => ⟨fun q => absurd q (by decide), fun _ => ⟨fun _ => ⟨fun q => absurd q y, fun _ => ⟨u64_0 y, h⟩⟩, fun q => absurd rfl q⟩⟩⟩⟩⟩⟩, fun M Φ h => ⟨fun q => absurd q (by decide), fun _ => ⟨fun q => absurd q (by decide), fun _ => ⟨fun q => absurd q (by decide), fun _ => ⟨fun q => absurd q (by decide), fun _ => ⟨fun q => absurd q (by decide), fun _ => ⟨fun _ => ⟨fun q => absurd q y, fun _ => ⟨u64_0 y, h⟩⟩, fun q => absurd rfl q⟩⟩⟩⟩⟩⟩⟩
  · by_cases y : b = 0
    · exact ⟨a, fun m Φ h => ⟨fun q => absurd q (by decide), fun _ => ⟨fun q => absurd q (by decide), fun _ => ⟨fun q => absurd q (by decide), fun _ => ⟨fun q => absurd q (by decide), fun _ => ⟨fun q => absurd q (by decide), fun _ => ⟨fun q => absurd q (by decide), fun _ => ⟨fun _ => ⟨fun _ => h, fun q => absurd y q⟩, fun q => absurd rfl q⟩⟩⟩⟩⟩⟩⟩, fun M Φ h => ⟨fun q => absurd q (by decide), fun _ => ⟨fun q => absurd q (by decide), fun _ => ⟨fun q => absurd q (by decide), fun _ => ⟨fun q => absurd q (by decide), fun _ => ⟨fun q => absurd q (by decide), fun _ => ⟨fun q => absurd q (by decide), fun _ => ⟨fun _ => ⟨fun _ => h, fun q => absurd y q⟩, fun q => absurd rfl q⟩⟩⟩⟩⟩⟩⟩⟩
    · refine ⟨it_rem a b, fun m Φ h => ⟨fun q => absurd q (by decide), fun _ => ⟨fun q => absurd q (by decide), fun _ => ⟨fun q => absurd q (by decide), fun _ => ⟨fun q => absurd q (by decide), fun _ => ⟨fun q => absurd q (by decide), fun _ => ⟨fun q => absurd q (by decide), fun _ => ⟨fun _ => ⟨fun q => absurd q y, fun _ => ⟨y, h⟩⟩, fun q => absurd rfl q⟩⟩⟩⟩⟩⟩⟩, fun M Φ h => ⟨fun q => absurd q (by decide), fun _ => ⟨fun q => absurd q (by decide), fun _ => ⟨fun q => absurd q (by decide), fun _ => ⟨fun q => absurd q (by decide), fun _ => ⟨fun q => absurd q (by decide), fun _ => ⟨fun q => absurd q (by decide), fun _ => ⟨fun _ => ⟨fun q => absurd q y, fun _ => ⟨fun q1 => ?_, fun _ => ⟨y, h⟩⟩⟩, fun q => absurd rfl q⟩⟩⟩⟩⟩⟩⟩⟩
      rw [q1, rem_m1] at h
      exact h
  · by_cases y : b = 0
    · exact ⟨a, fun m Φ h => ⟨fun q => absurd q (by decide), fun _ => ⟨fun q => absurd q (by decide), fun _ => ⟨fun q => absurd q (by decide), fun _ => ⟨fun q => absurd q (by decide), fun _ => ⟨fun q => absurd q (by decide), fun _ => ⟨fun q => absurd q (by decide), fun _ => ⟨fun q => absurd q (by decide), fun _ => ⟨fun _ => h, fun q => absurd y q⟩⟩⟩⟩⟩⟩⟩⟩, fun M Φ h => ⟨fun q => absurd q (by decide), fun _ => ⟨fun q => absurd q (by decide), fun _ => ⟨fun q => absurd q (by decide), fun _ => ⟨fun q => absurd q (by decide), fun _ => ⟨fun q => absurd q (by decide), fun _ => ⟨fun q => absurd q (by decide), fun _ => ⟨fun q => absurd q (by decide), fun _ => ⟨fun _ => h, fun q => absurd y q⟩⟩⟩⟩⟩⟩⟩⟩⟩
    · exact ⟨_, fun m Φ h => ⟨fun q => absurd q (by decide), fun _ => ⟨fun q => absurd q (by decide), fun _ => ⟨fun q => absurd q (by decide), fun _ => ⟨fun q => absurd q (by decide), fun _ => ⟨fun q => absurd q (by decide), fun _ => ⟨fun q => absurd q (by decide), fun _ => ⟨fun q => absurd q (by decide), fun _ => ⟨fun q => absurd q y, fun _ => ⟨u64_0 y, h⟩⟩⟩⟩⟩⟩⟩⟩⟩, fun M Φ h => ⟨fun q => absurd q (by decide), fun _ => ⟨fun q => absurd q (by decide), fun _ => ⟨fun q => absurd q (by decide), fun _ => ⟨fun q => absurd q (by decide), fun _ => ⟨fun q => absurd q (by decide), fun _ => ⟨fun q => absurd q (by decide), fun _ => ⟨fun q => absurd q (by decide), fun _ => ⟨fun q => absurd q y, fun _ => ⟨u64_0 y, h⟩⟩⟩⟩⟩⟩⟩⟩⟩⟩
/-- the values of combine and swapped -/
theorem cmb {kc : it_Kc} {f : Int32} {k : Nat} (hk : k = 0 ∨ k = 1 ∨ k = 4 ∨ k = 8 ∨ k = 12 ∨ k = 16 ∨ k = 20 ∨ k = 24 ∨ k = 28) (hf : f = nI k) (a b : Int32) : ∃ v, (∀ (m : it_Me) (Φ : Int32 → it_Me → Prop), Φ v m → w_123 kc f a b m Φ) ∧ ∀ (M : it_Me) (Φ : Int32 → it_Me → Prop), Φ v M → w_332 kc f a b M Φ := by
  subst hf
  unfold w_123 w_332 w_123_173 w_123_187 w_332_160 w_332_175
  rcases hk with e | e | e | e | e | e | e | e | e <;> subst e
  · refine ⟨a + b, fun m Φ h => ?_, fun M Φ h => ?_⟩
    · (repeat' (first | exact h | (intro q; first | exact absurd q (by decide) | skip) | constructor))
    · (repeat' (first | exact h | (intro q; first | exact absurd q (by decide) | skip) | constructor))
  · refine ⟨b, fun m Φ h => ?_, fun M Φ h => ?_⟩
    · (repeat' (first | exact h | (intro q; first | exact absurd q (by decide) | skip) | constructor))
    · (repeat' (first | exact h | (intro q; first | exact absurd q (by decide) | skip) | constructor))
  · refine ⟨a ^^^ b, fun m Φ h => ?_, fun M Φ h => ?_⟩
    · (repeat' (first | exact h | (intro q; first | exact absurd q (by decide) | skip) | constructor))
    · (repeat' (first | exact h | (intro q; first | exact absurd q (by decide) | skip) | constructor))
  · refine ⟨a ||| b, fun m Φ h => ?_, fun M Φ h => ?_⟩
    · (repeat' (first | exact h | (intro q; first | exact absurd q (by decide) | skip) | constructor))
    · (repeat' (first | exact h | (intro q; first | exact absurd q (by decide) | skip) | constructor))
  · refine ⟨a &&& b, fun m Φ h => ?_, fun M Φ h => ?_⟩
    · (repeat' (first | exact h | (intro q; first | exact absurd q (by decide) | skip) | constructor))
    · (repeat' (first | exact h | (intro q; first | exact absurd q (by decide) | skip) | constructor))
  · refine ⟨it_min a b, fun m Φ h => ?_, fun M Φ h => ?_⟩
    · (repeat' (first | exact h | (intro q; first | exact absurd q (by decide) | skip) | constructor))
    · (repeat' (first | exact h | (intro q; first | exact absurd q (by decide) | skip) | constructor))
  · refine ⟨it_max a b, fun m Φ h => ?_, fun M Φ h => ?_⟩
    · (repeat' (first | exact h | (intro q; first | exact absurd q (by decide) | skip) | constructor))
    · (repeat' (first | exact h | (intro q; first | exact absurd q (by decide) | skip) | constructor))
  · by_cases y : ult a b
    · refine ⟨a, fun m Φ h => ?_, fun M Φ h => ?_⟩
      · have t : w_213 kc a b m (fun r1 m2 => (r1 = 0 → Φ b m2) ∧ (¬ r1 = 0 → Φ a m2)) := c_213 (by rw [bI_t y]; exact ⟨fun q => absurd q (by decide), fun _ => h⟩)
        (repeat' (first | exact t | (intro q; first | exact absurd q (by decide) | skip) | constructor))
      · have t : w_247 kc a b M (fun r1 m2 => (r1 = 0 → Φ b m2) ∧ (¬ r1 = 0 → Φ a m2)) := r_247 (by rw [bI_t y]; exact ⟨fun q => absurd q (by decide), fun _ => h⟩)
        (repeat' (first | exact t | (intro q; first | exact absurd q (by decide) | skip) | constructor))
    · refine ⟨b, fun m Φ h => ?_, fun M Φ h => ?_⟩
      · have t : w_213 kc a b m (fun r1 m2 => (r1 = 0 → Φ b m2) ∧ (¬ r1 = 0 → Φ a m2)) := c_213 (by rw [bI_f y]; exact ⟨fun _ => h, fun q => absurd rfl q⟩)
        (repeat' (first | exact t | (intro q; first | exact absurd q (by decide) | skip) | constructor))
      · have t : w_247 kc a b M (fun r1 m2 => (r1 = 0 → Φ b m2) ∧ (¬ r1 = 0 → Φ a m2)) := r_247 (by rw [bI_f y]; exact ⟨fun _ => h, fun q => absurd rfl q⟩)
        (repeat' (first | exact t | (intro q; first | exact absurd q (by decide) | skip) | constructor))
  · by_cases y : ult a b
    · refine ⟨b, fun m Φ h => ?_, fun M Φ h => ?_⟩
      · have t : w_213 kc a b m (fun r1 m2 => (r1 = 0 → Φ a m2) ∧ (¬ r1 = 0 → Φ b m2)) := c_213 (by rw [bI_t y]; exact ⟨fun q => absurd q (by decide), fun _ => h⟩)
        (repeat' (first | exact t | (intro q; first | exact absurd q (by decide) | skip) | constructor))
      · have t : w_247 kc a b M (fun r1 m2 => (r1 = 0 → Φ a m2) ∧ (¬ r1 = 0 → Φ b m2)) := r_247 (by rw [bI_t y]; exact ⟨fun q => absurd q (by decide), fun _ => h⟩)
        (repeat' (first | exact t | (intro q; first | exact absurd q (by decide) | skip) | constructor))
    · refine ⟨a, fun m Φ h => ?_, fun M Φ h => ?_⟩
      · have t : w_213 kc a b m (fun r1 m2 => (r1 = 0 → Φ a m2) ∧ (¬ r1 = 0 → Φ b m2)) := c_213 (by rw [bI_f y]; exact ⟨fun _ => h, fun q => absurd rfl q⟩)
        (repeat' (first | exact t | (intro q; first | exact absurd q (by decide) | skip) | constructor))
      · have t : w_247 kc a b M (fun r1 m2 => (r1 = 0 → Φ a m2) ∧ (¬ r1 = 0 → Φ b m2)) := r_247 (by rw [bI_f y]; exact ⟨fun _ => h, fun q => absurd rfl q⟩)
        (repeat' (first | exact t | (intro q; first | exact absurd q (by decide) | skip) | constructor))
