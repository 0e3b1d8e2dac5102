/-! The machine: instructions of 32 bits. Written by wip/whole/gen_m5.py -/
theorem evB {x : Int32} (h : bt x 0 = false) : x.toInt % 2 = 0 := by
  have t := and1 x
  have eb : x &&& 1 = b01 (bt x 0) := by
    have := bit_of x (k := 0) (by omega) rfl
    rw [us_0] at this
    exact this
  rw [eb, h] at t
  exact t.symm
theorem boff (w : Int32) : ((((it_shl (it_shr w (31 : Int32)) (12 : Int32)) ||| (it_shl ((it_us w (7 : Int32)) &&& (1 : Int32)) (11 : Int32))) ||| (it_shl ((it_us w (25 : Int32)) &&& (63 : Int32)) (5 : Int32))) ||| (it_shl ((it_us w (8 : Int32)) &&& (15 : Int32)) (1 : Int32))).toInt % 2 = 0 := evB (by
  rw [b_or, b_or, b_or, bl_12 _ (by omega), bl_11 _ (by omega), bl_5 _ (by omega), bl_1 _ (by omega)]
  rfl)
theorem joff (w : Int32) : ((((it_shl (it_shr w (31 : Int32)) (20 : Int32)) ||| (w &&& (1044480 : Int32))) ||| (it_shl ((it_us w (20 : Int32)) &&& (1 : Int32)) (11 : Int32))) ||| (it_shl ((it_us w (21 : Int32)) &&& (1023 : Int32)) (1 : Int32))).toInt % 2 = 0 := evB (by
  rw [b_or, b_or, b_or, bl_20 _ (by omega), bl_11 _ (by omega), bl_1 _ (by omega), b_and, show bt 1044480 0 = false by decide, Bool.and_false]
  rfl)
theorem jmid (w : Int32) : it_shl ((it_us w (12 : Int32)) &&& (255 : Int32)) (12 : Int32) = w &&& (1044480 : Int32) := b_ext (fun i hi => by
  rw [bl_12 _ hi, b_and, b_and, bu_12]
  by_cases h : 12 ≤ i
  · rw [show 12 + (i - 12) = i by omega, ← (by decide +kernel : ∀ i, i < 32 → (decide (12 ≤ i) && bt 255 (i - 12)) = bt 1044480 i) i hi, decide_eq_true h, Bool.true_and, Bool.true_and]
  · rw [← (by decide +kernel : ∀ i, i < 32 → (decide (12 ≤ i) && bt 255 (i - 12)) = bt 1044480 i) i hi, decide_eq_false h, Bool.false_and, Bool.false_and, Bool.and_false])
theorem c_117 {kc : it_Kc} {m : it_Me} {x0 : Nat} {w p : Int32} {Φ : Int32 → it_Me → Prop} (g1 : ¬ (it_us w 12 &&& 7 = 1 ∧ ¬ it_us w 25 = 0)) (g2 : ¬ (it_us w 12 &&& 7 = 5 ∧ ¬ it_us w 25 = 0 ∧ ¬ it_us w 25 = 32)) (h : w_117_66 kc Φ x0 w p (it_us w 12 &&& 7) (if it_us w 12 &&& 7 = 5 ∧ it_us w 25 = 32 then 1 else 0) m) : w_117 kc x0 w p m Φ := by
  have s48 : w_117_48 kc Φ x0 w p (it_us w 12 &&& 7) (it_us w 25) m := by
    unfold w_117_48 w_117_65
    refine ⟨fun q => ⟨fun q1 => ?_, fun q1 => ?_⟩, fun q => ?_⟩
    · rw [if_pos ⟨q, q1⟩] at h; exact h
    · rw [if_neg (fun y => q1 y.2)] at h; exact h
    · rw [if_neg (fun y => q y.1)] at h; exact h
  have s23 : w_117_23 kc Φ x0 w p (it_us w 12 &&& 7) (it_us w 25) m := by
    unfold w_117_23
    exact ⟨fun q => ⟨fun _ => s48, fun q1 => ⟨fun _ => s48, fun q2 => absurd ⟨q, q1, q2⟩ g2⟩⟩, fun _ => s48⟩
  unfold w_117 w_108
  exact ⟨fun q => ⟨fun _ => s23, fun q1 => absurd ⟨q, q1⟩ g1⟩, fun _ => s23⟩
theorem r_327 {kc : it_Kc} {M : it_Me} {x0 w rd a : Int32} {Φ : it_Me → Prop} (g1 : ¬ (it_us w 12 &&& 7 = 1 ∧ ¬ it_us w 25 = 0)) (g2 : ¬ (it_us w 12 &&& 7 = 5 ∧ ¬ it_us w 25 = 0 ∧ ¬ it_us w 25 = 32)) (h : w_327_72 kc Φ a (it_shr w 20) x0 rd (it_us w 12 &&& 7) (if it_us w 12 &&& 7 = 5 ∧ it_us w 25 = 32 then 1 else 0) M) : w_327 kc x0 w rd (it_us w 12 &&& 7) a M Φ := by
  have s48 : w_327_48 kc Φ x0 rd (it_us w 12 &&& 7) a (it_shr w 20) (it_us w 25) M := by
    unfold w_327_48 w_327_71
    refine ⟨fun q => ⟨fun q1 => ?_, fun q1 => ?_⟩, fun q => ?_⟩
    · rw [if_pos ⟨q, q1⟩] at h; exact h
    · rw [if_neg (fun y => q1 y.2)] at h; exact h
    · rw [if_neg (fun y => q y.1)] at h; exact h
  have s23 : w_327_23 kc Φ x0 w rd (it_us w 12 &&& 7) a (it_shr w 20) (it_us w 25) M := by
    unfold w_327_23
    exact ⟨fun q => ⟨fun _ => s48, fun q1 => ⟨fun _ => s48, fun q2 => absurd ⟨q, q1, q2⟩ g2⟩⟩, fun _ => s48⟩
  unfold w_327
  exact ⟨fun q => ⟨fun _ => s23, fun q1 => absurd ⟨q, q1⟩ g1⟩, fun _ => s23⟩
/-- branches -/
theorem x_br {kc : it_Kc} (hk : KC kc) {B : Nat} {m : it_Me} (hI : Inv B m) (hB : B + 1 < 2147483000) {i : Nat} (hi : i < cnt m) (w : Int32) : Lo kc i (w_114 kc (14 + 5 * i) w (m (14 + 5 * i) 3 + 4)) (w_324 kc (nI i) w (it_us w 12 &&& 7) (m (14 + 5 * i + 2) (Int32.toNatClampNeg (it_us w 15 &&& 31))) (m (14 + 5 * i + 2) (Int32.toNatClampNeg (it_us w 20 &&& 31)))) (B + 2) m := by
  have h8 := cnt_le hI
  have i8 : i < 8 := by omega
  have hP := hI.p hi
  have ep : (m (14 + 5 * i) 3 + 4).toInt % 2 = 0 := evA hP.pce (by decide)
  have eo : (m (14 + 5 * i) 3 + ((((it_shl (it_shr w (31 : Int32)) (12 : Int32)) ||| (it_shl ((it_us w (7 : Int32)) &&& (1 : Int32)) (11 : Int32))) ||| (it_shl ((it_us w (25 : Int32)) &&& (63 : Int32)) (5 : Int32))) ||| (it_shl ((it_us w (8 : Int32)) &&& (15 : Int32)) (1 : Int32)))).toInt % 2 = 0 := evA hP.pce (boff w)
  obtain ⟨k, hk8, ek⟩ := k8 (it_us w 12) rfl
  obtain ⟨a, ea⟩ : ∃ x, x = (m (14 + 5 * i + 2) (Int32.toNatClampNeg (it_us w 15 &&& 31))) := ⟨_, rfl⟩
  obtain ⟨b, eb⟩ : ∃ x, x = (m (14 + 5 * i + 2) (Int32.toNatClampNeg (it_us w 20 &&& 31))) := ⟨_, rfl⟩
  rw [← ea, ← eb]
  -- taken, not taken
  have yes : ∀ {C : it_Me → (Int32 → it_Me → Prop) → Prop} {R : it_Me → (it_Me → Prop) → Prop}, (∀ Φ, w_114_171 kc Φ (14 + 5 * i) w (m (14 + 5 * i) 3 + 4) 1 m → C m Φ) → (∀ M, Rel m M → ∀ Φ, w_324_137 kc Φ (nI i) (M 94 i) ((((it_shl (it_shr w (31 : Int32)) (12 : Int32)) ||| (it_shl ((it_us w (7 : Int32)) &&& (1 : Int32)) (11 : Int32))) ||| (it_shl ((it_us w (25 : Int32)) &&& (63 : Int32)) (5 : Int32))) ||| (it_shl ((it_us w (8 : Int32)) &&& (15 : Int32)) (1 : Int32))) M → R M Φ) → Lo kc i C R (B + 2) m := fun h1 h2 => x_fin hI hi (x := 0) R32_0 0 _ eo (fun Φ h => h1 Φ (by
    rw [wr0] at h
    unfold w_114_171 w_112 w_114_190
    exact ⟨fun q => absurd q (by decide), fun _ => h⟩)) (fun M hM Φ h => h2 M hM Φ (by
    rw [wrM0] at h
    unfold w_324_137
    rw [cI i8, hM.pc hi]
    exact ⟨vI i8, h⟩))
  have no : ∀ {C : it_Me → (Int32 → it_Me → Prop) → Prop} {R : it_Me → (it_Me → Prop) → Prop}, (∀ Φ, w_114_171 kc Φ (14 + 5 * i) w (m (14 + 5 * i) 3 + 4) 0 m → C m Φ) → (∀ M, Rel m M → ∀ Φ, w_324_137 kc Φ (nI i) (M 94 i) 4 M → R M Φ) → Lo kc i C R (B + 2) m := fun h1 h2 => x_fin hI hi (x := 0) R32_0 0 _ ep (fun Φ h => h1 Φ (by
    rw [wr0] at h
    unfold w_114_171 w_114_190
    exact ⟨fun _ => h, fun q => absurd rfl q⟩)) (fun M hM Φ h => h2 M hM Φ (by
    rw [wrM0] at h
    unfold w_324_137
    rw [cI i8, hM.pc hi]
    exact ⟨vI i8, h⟩))
  -- the reference's last words: u0 whether it is so, the kind's lowest bit
  have r66 : ∀ (u : Int32) (M : it_Me) (Φ : it_Me → Prop), (u = 0 ∨ u = 1) → (((nI k &&& 1 = 1) ↔ u = 1) → w_324_137 kc Φ (nI i) (M 94 i) 4 M) → (¬ ((nI k &&& 1 = 1) ↔ u = 1) → w_324_137 kc Φ (nI i) (M 94 i) ((((it_shl (it_shr w (31 : Int32)) (12 : Int32)) ||| (it_shl ((it_us w (7 : Int32)) &&& (1 : Int32)) (11 : Int32))) ||| (it_shl ((it_us w (25 : Int32)) &&& (63 : Int32)) (5 : Int32))) ||| (it_shl ((it_us w (8 : Int32)) &&& (15 : Int32)) (1 : Int32))) M) → w_324_66 kc Φ (nI i) w (nI k) u M := fun u M Φ hu h1 h2 => by
    unfold w_324_66 w_324_128
    rw [cI i8]
    refine ⟨vI i8, fun q => ⟨fun q1 => h1 ⟨fun _ => q1, fun _ => q⟩, fun q1 => h2 (fun y => q1 (y.1 q))⟩, fun q => ⟨fun q1 => h1 ⟨fun y => absurd y q, fun y => ?_⟩, fun q1 => h2 (fun y => ?_)⟩⟩
    · rw [q1] at y
      exact absurd y (by decide)
    · rcases hu with z | z
      · exact q1 z
      · exact q (y.2 z)
  rw [ek]
  have kl : ∀ n : Nat, n < 8 → (nI n ≤ nI k ↔ n ≤ k) := fun n hn => nLe (by omega) (by omega)
  have cls : ∀ Φ : Int32 → it_Me → Prop, ((nI k = (0 : Int32) → (a = b → w_114_171 kc Φ (14 + 5 * i) w (m (14 + 5 * i) 3 + 4) (1 : Int32) m) ∧ (¬ a = b → w_114_171 kc Φ (14 + 5 * i) w (m (14 + 5 * i) 3 + 4) (0 : Int32) m)) ∧ (¬ nI k = (0 : Int32) → (nI k = (1 : Int32) → (a = b → w_114_171 kc Φ (14 + 5 * i) w (m (14 + 5 * i) 3 + 4) (0 : Int32) m) ∧ (¬ a = b → w_114_171 kc Φ (14 + 5 * i) w (m (14 + 5 * i) 3 + 4) (1 : Int32) m)) ∧ (¬ nI k = (1 : Int32) → (nI k = (2 : Int32) → w_105 kc (2 : Int32) w m (fun r7 m8 => Φ r7 m8)) ∧ (¬ nI k = (2 : Int32) → (nI k = (3 : Int32) → w_105 kc (2 : Int32) w m (fun r9 m10 => Φ r9 m10)) ∧ (¬ nI k = (3 : Int32) → (nI k = (4 : Int32) → (b ≤ a → w_114_171 kc Φ (14 + 5 * i) w (m (14 + 5 * i) 3 + 4) (0 : Int32) m) ∧ (¬ b ≤ a → w_114_171 kc Φ (14 + 5 * i) w (m (14 + 5 * i) 3 + 4) (1 : Int32) m)) ∧ (¬ nI k = (4 : Int32) → (nI k = (5 : Int32) → (a < b → w_114_171 kc Φ (14 + 5 * i) w (m (14 + 5 * i) 3 + 4) (0 : Int32) m) ∧ (¬ a < b → w_114_171 kc Φ (14 + 5 * i) w (m (14 + 5 * i) 3 + 4) (1 : Int32) m)) ∧ (¬ nI k = (5 : Int32) → (nI k = (6 : Int32) → w_213 kc a b m (fun r11 m12 => w_114_171 kc Φ (14 + 5 * i) w (m (14 + 5 * i) 3 + 4) r11 m12)) ∧ (¬ nI k = (6 : Int32) → (nI k = (7 : Int32) → w_213 kc a b m (fun r13 m14 => (r13 = 0 → w_114_171 kc Φ (14 + 5 * i) w (m (14 + 5 * i) 3 + 4) (1 : Int32) m14) ∧ (¬ r13 = 0 → w_114_171 kc Φ (14 + 5 * i) w (m (14 + 5 * i) 3 + 4) (0 : Int32) m14))) ∧ (¬ nI k = (7 : Int32) → w_105 kc (2 : Int32) w m (fun r15 m16 => Φ r15 m16)))))))))) → w_114 kc (14 + 5 * i) w (m (14 + 5 * i) 3 + 4) m Φ := fun Φ h => by
    unfold w_114 w_108 w_114_76 w_114_93 w_114_110 w_114_127 w_114_159
    refine c_109 (c_110 ?_)
    rw [← ea, ← eb, ek]
    exact h
  rcases (by omega : k = 0 ∨ k = 1 ∨ k = 2 ∨ k = 3 ∨ k = 4 ∨ k = 5 ∨ k = 6 ∨ k = 7) with e | e | e | e | e | e | e | e <;> subst e
  · by_cases y : a = b
    · refine yes (fun Φ h => cls Φ ⟨fun _ => ⟨fun _ => h, fun q => absurd y q⟩, fun q => absurd rfl q⟩) (fun M hM Φ h => ?_)
      unfold w_324 w_324_10 w_321
      exact ⟨fun q => absurd q (by decide), fun _ => ⟨fun q => absurd q (by decide), fun _ => ⟨fun q => absurd q (by decide), fun _ => ⟨fun _ => r66 1 M Φ (by decide) (fun g => absurd g (by decide)) (fun _ => h), fun q => absurd y q⟩⟩⟩⟩
    · refine no (fun Φ h => cls Φ ⟨fun _ => ⟨fun q => absurd q y, fun _ => h⟩, fun q => absurd rfl q⟩) (fun M hM Φ h => ?_)
      unfold w_324 w_324_10 w_321
      exact ⟨fun q => absurd q (by decide), fun _ => ⟨fun q => absurd q (by decide), fun _ => ⟨fun q => absurd q (by decide), fun _ => ⟨fun q => absurd q y, fun _ => r66 0 M Φ (by decide) (fun _ => h) (fun g => absurd (by decide) g)⟩⟩⟩⟩
  · by_cases y : a = b
    · refine no (fun Φ h => cls Φ ⟨fun q => absurd q (by decide), fun _ => ⟨fun _ => ⟨fun _ => h, fun q => absurd y q⟩, fun q => absurd rfl q⟩⟩) (fun M hM Φ h => ?_)
      unfold w_324 w_324_10 w_321
      exact ⟨fun q => absurd q (by decide), fun _ => ⟨fun q => absurd q (by decide), fun _ => ⟨fun q => absurd q (by decide), fun _ => ⟨fun _ => r66 1 M Φ (by decide) (fun _ => h) (fun g => absurd (by decide) g), fun q => absurd y q⟩⟩⟩⟩
    · refine yes (fun Φ h => cls Φ ⟨fun q => absurd q (by decide), fun _ => ⟨fun _ => ⟨fun q => absurd q y, fun _ => h⟩, fun q => absurd rfl q⟩⟩) (fun M hM Φ h => ?_)
      unfold w_324 w_324_10 w_321
      exact ⟨fun q => absurd q (by decide), fun _ => ⟨fun q => absurd q (by decide), fun _ => ⟨fun q => absurd q (by decide), fun _ => ⟨fun q => absurd q y, fun _ => r66 0 M Φ (by decide) (fun g => absurd g (by decide)) (fun _ => h)⟩⟩⟩⟩
  · refine x_flt hk hI hB hi 2 w (fun Φ h => cls Φ ⟨fun q => absurd q (by decide), fun _ => ⟨fun q => absurd q (by decide), fun _ => ⟨fun _ => h, fun q => absurd rfl q⟩⟩⟩) (fun M hM Φ h => ?_)
    unfold w_324 w_324_10 w_321
    exact ⟨fun _ => h, fun q => absurd rfl q⟩
  · refine x_flt hk hI hB hi 2 w (fun Φ h => cls Φ ⟨fun q => absurd q (by decide), fun _ => ⟨fun q => absurd q (by decide), fun _ => ⟨fun q => absurd q (by decide), fun _ => ⟨fun _ => h, fun q => absurd rfl q⟩⟩⟩⟩) (fun M hM Φ h => ?_)
    unfold w_324 w_324_10 w_321
    exact ⟨fun q => absurd q (by decide), fun _ => ⟨fun _ => h, fun q => absurd rfl q⟩⟩
  · by_cases y : b ≤ a
    · refine no (fun Φ h => cls Φ ⟨fun q => absurd q (by decide), fun _ => ⟨fun q => absurd q (by decide), fun _ => ⟨fun q => absurd q (by decide), fun _ => ⟨fun q => absurd q (by decide), fun _ => ⟨fun _ => ⟨fun _ => h, fun q => absurd y q⟩, fun q => absurd rfl q⟩⟩⟩⟩⟩) (fun M hM Φ h => ?_)
      unfold w_324 w_324_10 w_321
      exact ⟨fun q => absurd q (by decide), fun _ => ⟨fun q => absurd q (by decide), fun _ => ⟨fun _ => ⟨fun q => absurd q (by decide), fun _ => ⟨fun _ => r66 0 M Φ (by decide) (fun _ => h) (fun g => absurd (by decide) g), fun q => absurd y q⟩⟩, fun q => absurd (by decide) q⟩⟩⟩
    · refine yes (fun Φ h => cls Φ ⟨fun q => absurd q (by decide), fun _ => ⟨fun q => absurd q (by decide), fun _ => ⟨fun q => absurd q (by decide), fun _ => ⟨fun q => absurd q (by decide), fun _ => ⟨fun _ => ⟨fun q => absurd q y, fun _ => h⟩, fun q => absurd rfl q⟩⟩⟩⟩⟩) (fun M hM Φ h => ?_)
      unfold w_324 w_324_10 w_321
      exact ⟨fun q => absurd q (by decide), fun _ => ⟨fun q => absurd q (by decide), fun _ => ⟨fun _ => ⟨fun q => absurd q (by decide), fun _ => ⟨fun q => absurd q y, fun _ => r66 1 M Φ (by decide) (fun g => absurd g (by decide)) (fun _ => h)⟩⟩, fun q => absurd (by decide) q⟩⟩⟩
  · by_cases y : b ≤ a
    · refine yes (fun Φ h => cls Φ ⟨fun q => absurd q (by decide), fun _ => ⟨fun q => absurd q (by decide), fun _ => ⟨fun q => absurd q (by decide), fun _ => ⟨fun q => absurd q (by decide), fun _ => ⟨fun q => absurd q (by decide), fun _ => ⟨fun _ => ⟨fun q => absurd q (Int32.not_lt.mpr y), fun _ => h⟩, fun q => absurd rfl q⟩⟩⟩⟩⟩⟩) (fun M hM Φ h => ?_)
      unfold w_324 w_324_10 w_321
      exact ⟨fun q => absurd q (by decide), fun _ => ⟨fun q => absurd q (by decide), fun _ => ⟨fun _ => ⟨fun q => absurd q (by decide), fun _ => ⟨fun _ => r66 0 M Φ (by decide) (fun g => absurd g (by decide)) (fun _ => h), fun q => absurd y q⟩⟩, fun q => absurd (by decide) q⟩⟩⟩
    · refine no (fun Φ h => cls Φ ⟨fun q => absurd q (by decide), fun _ => ⟨fun q => absurd q (by decide), fun _ => ⟨fun q => absurd q (by decide), fun _ => ⟨fun q => absurd q (by decide), fun _ => ⟨fun q => absurd q (by decide), fun _ => ⟨fun _ => ⟨fun _ => h, fun q => absurd (Int32.not_le.mp y) q⟩, fun q => absurd rfl q⟩⟩⟩⟩⟩⟩) (fun M hM Φ h => ?_)
      unfold w_324 w_324_10 w_321
      exact ⟨fun q => absurd q (by decide), fun _ => ⟨fun q => absurd q (by decide), fun _ => ⟨fun _ => ⟨fun q => absurd q (by decide), fun _ => ⟨fun q => absurd q y, fun _ => r66 1 M Φ (by decide) (fun _ => h) (fun g => absurd (by decide) g)⟩⟩, fun q => absurd (by decide) q⟩⟩⟩
  · by_cases y : ult a b
    · refine yes (fun Φ h => cls Φ ⟨fun q => absurd q (by decide), fun _ => ⟨fun q => absurd q (by decide), fun _ => ⟨fun q => absurd q (by decide), fun _ => ⟨fun q => absurd q (by decide), fun _ => ⟨fun q => absurd q (by decide), fun _ => ⟨fun q => absurd q (by decide), fun _ => ⟨fun _ => c_213 (by rw [bI_t y]; exact h), fun q => absurd rfl q⟩⟩⟩⟩⟩⟩⟩) (fun M hM Φ h => ?_)
      unfold w_324 w_324_10 w_321
      exact ⟨fun q => absurd q (by decide), fun _ => ⟨fun q => absurd q (by decide), fun _ => ⟨fun _ => ⟨fun _ => r_247 (by rw [bI_t y]; exact r66 1 M Φ (by decide) (fun g => absurd g (by decide)) (fun _ => h)), fun q => absurd (by decide) q⟩, fun q => absurd (by decide) q⟩⟩⟩
    · refine no (fun Φ h => cls Φ ⟨fun q => absurd q (by decide), fun _ => ⟨fun q => absurd q (by decide), fun _ => ⟨fun q => absurd q (by decide), fun _ => ⟨fun q => absurd q (by decide), fun _ => ⟨fun q => absurd q (by decide), fun _ => ⟨fun q => absurd q (by decide), fun _ => ⟨fun _ => c_213 (by rw [bI_f y]; exact h), fun q => absurd rfl q⟩⟩⟩⟩⟩⟩⟩) (fun M hM Φ h => ?_)
      unfold w_324 w_324_10 w_321
      exact ⟨fun q => absurd q (by decide), fun _ => ⟨fun q => absurd q (by decide), fun _ => ⟨fun _ => ⟨fun _ => r_247 (by rw [bI_f y]; exact r66 0 M Φ (by decide) (fun _ => h) (fun g => absurd (by decide) g)), fun q => absurd (by decide) q⟩, fun q => absurd (by decide) q⟩⟩⟩
  · by_cases y : ult a b
    · refine no (fun Φ h => cls Φ ⟨fun q => absurd q (by decide), fun _ => ⟨fun q => absurd q (by decide), fun _ => ⟨fun q => absurd q (by decide), fun _ => ⟨fun q => absurd q (by decide), fun _ => ⟨fun q => absurd q (by decide), fun _ => ⟨fun q => absurd q (by decide), fun _ => ⟨fun q => absurd q (by decide), fun _ => ⟨fun _ => c_213 (by rw [bI_t y]; exact ⟨fun q => absurd q (by decide), fun _ => h⟩), fun q => absurd rfl q⟩⟩⟩⟩⟩⟩⟩⟩) (fun M hM Φ h => ?_)
      unfold w_324 w_324_10 w_321
      exact ⟨fun q => absurd q (by decide), fun _ => ⟨fun q => absurd q (by decide), fun _ => ⟨fun _ => ⟨fun _ => r_247 (by rw [bI_t y]; exact r66 1 M Φ (by decide) (fun _ => h) (fun g => absurd (by decide) g)), fun q => absurd (by decide) q⟩, fun q => absurd (by decide) q⟩⟩⟩
    · refine yes (fun Φ h => cls Φ ⟨fun q => absurd q (by decide), fun _ => ⟨fun q => absurd q (by decide), fun _ => ⟨fun q => absurd q (by decide), fun _ => ⟨fun q => absurd q (by decide), fun _ => ⟨fun q => absurd q (by decide), fun _ => ⟨fun q => absurd q (by decide), fun _ => ⟨fun q => absurd q (by decide), fun _ => ⟨fun _ => c_213 (by rw [bI_f y]; exact ⟨fun _ => h, fun q => absurd rfl q⟩), fun q => absurd rfl q⟩⟩⟩⟩⟩⟩⟩⟩) (fun M hM Φ h => ?_)
      unfold w_324 w_324_10 w_321
      exact ⟨fun q => absurd q (by decide), fun _ => ⟨fun q => absurd q (by decide), fun _ => ⟨fun _ => ⟨fun _ => r_247 (by rw [bI_f y]; exact r66 0 M Φ (by decide) (fun g => absurd g (by decide)) (fun _ => h)), fun q => absurd (by decide) q⟩, fun q => absurd (by decide) q⟩⟩⟩
theorem x_full {kc : it_Kc} (hk : KC kc) {B : Nat} {m : it_Me} (hI : Inv B m) (hB : B + 1 < 2147483000) (hl : m 7 4 = 0) {i : Nat} (hi : i < cnt m) (hs : m (14 + 5 * i) 9 = 1) (w : Int32) : Lo kc i (w_106 kc (14 + 5 * i) w (m (14 + 5 * i) 3 + 4)) (w_322 kc (nI i) w) (B + 2) m := by
  have h8 := cnt_le hI
  have i8 : i < 8 := by omega
  have hP := hI.p hi
  have ep : (m (14 + 5 * i) 3 + 4).toInt % 2 = 0 := evA hP.pce (by decide)
  obtain ⟨k, hk8, ek⟩ := k8 (it_us w 12) rfl
  have kE : ∀ n : Nat, n < 8 → (it_us w 12 &&& 7 = nI n ↔ k = n) := fun n hn => by rw [ek, nEq (by omega) (by omega)]
  have kL : ∀ n : Nat, n < 8 → (it_us w 12 &&& 7 ≤ nI n ↔ k ≤ n) := fun n hn => by rw [ek, nLe (by omega) (by omega)]
  have bad : ∀ {C : it_Me → (Int32 → it_Me → Prop) → Prop} {R : it_Me → (it_Me → Prop) → Prop}, (∀ Φ, Φ 2 (it_sv (it_sv m 58 1 2) 58 2 w) → C m Φ) → (∀ M, Rel m M → ∀ Φ, w_258 kc (nI i) 2 w M Φ → R M Φ) → Lo kc i C R (B + 2) m := fun h1 h2 => x_flt hk hI hB hi 2 w h1 h2
  by_cases n3 : w &&& 127 = 3
  · have e := n3
    by_cases g : k = 3 ∨ 5 < k
    · refine bad (fun Φ h => ?_) (fun M hM Φ h => ?_)
      · unfold w_106
        refine ⟨fun _ => ?_, fun q => absurd e q⟩
        unfold w_115 w_108 w_115_18
        exact ⟨fun _ => h, fun q => ⟨fun q1 => absurd ((kL 5 (by omega)).1 q1) (fun y => g.elim (fun z => q ((kE 3 (by omega)).2 z)) (fun z => absurd z (by omega))), fun _ => h⟩⟩
      · unfold w_322
        refine r_318 hM i8 hi (R32_and _) (r_318 hM i8 hi (R32_and _) ⟨vI i8, ⟨fun _ => ?_, fun q => absurd e q⟩⟩)
        unfold w_322_335 w_321 w_322_523
        exact ⟨fun _ => h, fun q => ⟨fun q1 => absurd ((kL 5 (by omega)).1 q1) (fun y => g.elim (fun z => q ((kE 3 (by omega)).2 z)) (fun z => absurd z (by omega))), fun _ => h⟩⟩
    · have hf : it_us w 12 &&& 7 = 0 ∨ it_us w 12 &&& 7 = 1 ∨ it_us w 12 &&& 7 = 2 ∨ it_us w 12 &&& 7 = 4 ∨ it_us w 12 &&& 7 = 5 := by
        rcases (by omega : k = 0 ∨ k = 1 ∨ k = 2 ∨ k = 4 ∨ k = 5) with y | y | y | y | y <;> rw [ek, y] <;> decide
      refine x_map (x_ld hk hI hB hi w hf (m (14 + 5 * i + 2) (Int32.toNatClampNeg (it_us w 15 &&& 31)) + it_shr w 20) (L := 4) (Or.inr rfl)) (fun Φ h => ?_) (fun M hM Φ h => ?_)
      · unfold w_106
        refine ⟨fun _ => ?_, fun q => absurd e q⟩
        unfold w_115 w_108
        have e3 : ¬ it_us w 12 &&& 7 = 3 := fun q => absurd ((kE 3 (by omega)).1 q) (by omega)
        have e5 : it_us w 12 &&& 7 ≤ 5 := (kL 5 (by omega)).2 (by omega)
        exact ⟨fun q => absurd q e3, fun _ => ⟨fun _ => c_109 h, fun q => absurd e5 q⟩⟩
      · unfold w_322
        refine r_318 hM i8 hi (R32_and _) (r_318 hM i8 hi (R32_and _) ⟨vI i8, ⟨fun _ => ?_, fun q => absurd e q⟩⟩)
        unfold w_322_523
        have e3 : ¬ it_us w 12 &&& 7 = 3 := fun q => absurd ((kE 3 (by omega)).1 q) (by omega)
        have e5 : it_us w 12 &&& 7 ≤ 5 := (kL 5 (by omega)).2 (by omega)
        exact ⟨fun q => absurd q e3, fun _ => ⟨fun _ => h, fun q => absurd e5 q⟩⟩
  by_cases n15 : w &&& 127 = 15
  · have e := n15
    by_cases g : it_us w 12 &&& 7 ≤ 1
    · refine x_fin hI hi (x := 0) R32_0 0 (m (14 + 5 * i) 3 + 4) ep (fun Φ h => ?_) (fun M hM Φ h => ?_)
      · rw [wr0] at h
        unfold w_106
        refine ⟨fun q => absurd q (by rw [e]; decide), fun _ => ⟨fun _ => ?_, fun q => absurd e q⟩⟩
        unfold w_124 w_108
        exact ⟨fun _ => h, fun q => absurd g q⟩
      · rw [wrM0] at h
        unfold w_322
        refine r_318 hM i8 hi (R32_and _) (r_318 hM i8 hi (R32_and _) ⟨vI i8, ⟨fun q => absurd q (by rw [e]; decide), fun _ => ⟨fun _ => ?_, fun q => absurd e q⟩⟩⟩)
        unfold w_322_523
        rw [cI i8, hM.pc hi]
        exact ⟨fun _ => ⟨vI i8, h⟩, fun q => absurd g q⟩
    · refine bad (fun Φ h => ?_) (fun M hM Φ h => ?_)
      · unfold w_106
        refine ⟨fun q => absurd q (by rw [e]; decide), fun _ => ⟨fun _ => ?_, fun q => absurd e q⟩⟩
        unfold w_124 w_108
        exact ⟨fun q => absurd q g, fun _ => h⟩
      · unfold w_322
        refine r_318 hM i8 hi (R32_and _) (r_318 hM i8 hi (R32_and _) ⟨vI i8, ⟨fun q => absurd q (by rw [e]; decide), fun _ => ⟨fun _ => ?_, fun q => absurd e q⟩⟩⟩)
        unfold w_321 w_322_523
        exact ⟨fun q => absurd q g, fun _ => h⟩
  by_cases n19 : w &&& 127 = 19
  · have e := n19
    by_cases g1 : it_us w 12 &&& 7 = 1 ∧ ¬ it_us w 25 = 0
    · refine bad (fun Φ h => ?_) (fun M hM Φ h => ?_)
      · unfold w_106
        refine ⟨fun q => absurd q (by rw [e]; decide), fun _ => ⟨fun q => absurd q (by rw [e]; decide), fun _ => ⟨fun _ => ?_, fun q => absurd e q⟩⟩⟩
        unfold w_117 w_108 w_117_41
        exact ⟨fun _ => ⟨fun q => absurd q g1.2, fun _ => h⟩, fun q => absurd g1.1 q⟩
      · unfold w_322
        refine r_318 hM i8 hi (R32_and _) (r_318 hM i8 hi (R32_and _) ⟨vI i8, ⟨fun q => absurd q (by rw [e]; decide), fun _ => ⟨fun q => absurd q (by rw [e]; decide), fun _ => ⟨fun _ => ?_, fun q => absurd e q⟩⟩⟩⟩)
        unfold w_327 w_327_41 w_321 w_322_523
        exact ⟨fun _ => ⟨fun q => absurd q g1.2, fun _ => h⟩, fun q => absurd g1.1 q⟩
    by_cases g2 : it_us w 12 &&& 7 = 5 ∧ ¬ it_us w 25 = 0 ∧ ¬ it_us w 25 = 32
    · have n1 : ¬ it_us w 12 &&& 7 = 1 := by rw [g2.1]; decide
      refine bad (fun Φ h => ?_) (fun M hM Φ h => ?_)
      · unfold w_106
        refine ⟨fun q => absurd q (by rw [e]; decide), fun _ => ⟨fun q => absurd q (by rw [e]; decide), fun _ => ⟨fun _ => ?_, fun q => absurd e q⟩⟩⟩
        unfold w_117 w_108 w_117_23 w_117_41
        exact ⟨fun q => absurd q n1, fun _ => ⟨fun _ => ⟨fun q => absurd q g2.2.1, fun _ => ⟨fun q => absurd q g2.2.2, fun _ => h⟩⟩, fun q => absurd g2.1 q⟩⟩
      · unfold w_322
        refine r_318 hM i8 hi (R32_and _) (r_318 hM i8 hi (R32_and _) ⟨vI i8, ⟨fun q => absurd q (by rw [e]; decide), fun _ => ⟨fun q => absurd q (by rw [e]; decide), fun _ => ⟨fun _ => ?_, fun q => absurd e q⟩⟩⟩⟩)
        unfold w_327 w_327_23 w_327_41 w_321 w_322_523
        exact ⟨fun q => absurd q n1, fun _ => ⟨fun _ => ⟨fun q => absurd q g2.2.1, fun _ => ⟨fun q => absurd q g2.2.2, fun _ => h⟩⟩, fun q => absurd g2.1 q⟩⟩
    · obtain ⟨v, v1, v2⟩ := alu (kc := kc) hk8 ek (if it_us w 12 &&& 7 = 5 ∧ it_us w 25 = 32 then 1 else 0) (m (14 + 5 * i + 2) (Int32.toNatClampNeg (it_us w 15 &&& 31))) (it_shr w 20)
      refine x_fin hI hi (x := it_us w 7 &&& 31) (R32_and _) v (m (14 + 5 * i) 3 + 4) ep (fun Φ h => ?_) (fun M hM Φ h => ?_)
      · unfold w_106
        refine ⟨fun q => absurd q (by rw [e]; decide), fun _ => ⟨fun q => absurd q (by rw [e]; decide), fun _ => ⟨fun _ => c_117 g1 g2 ?_, fun q => absurd e q⟩⟩⟩
        unfold w_117_66
        exact c_109 (v1 _ _ (c_107 h))
      · unfold w_322
        refine r_318 hM i8 hi (R32_and _) (r_318 hM i8 hi (R32_and _) ⟨vI i8, ⟨fun q => absurd q (by rw [e]; decide), fun _ => ⟨fun q => absurd q (by rw [e]; decide), fun _ => ⟨fun _ => r_327 g1 g2 ?_, fun q => absurd e q⟩⟩⟩⟩)
        unfold w_327_72 w_322_523
        refine v2 _ _ (r_323 i8 (R32_and _) ?_)
        rw [hM.pc hi]
        exact h
  by_cases n23 : w &&& 127 = 23
  · have e := n23
    refine x_fin hI hi (x := it_us w 7 &&& 31) (R32_and _) (m (14 + 5 * i) 3 + (w &&& (-4096 : Int32))) (m (14 + 5 * i) 3 + 4) ep (fun Φ h => ?_) (fun M hM Φ h => ?_)
    · unfold w_106
      exact ⟨fun q => absurd q (by rw [e]; decide), fun _ => ⟨fun q => absurd q (by rw [e]; decide), fun _ => ⟨fun q => absurd q (by rw [e]; decide), fun _ => ⟨fun _ => c_107 h, fun q => absurd e q⟩⟩⟩⟩
    · unfold w_322
      refine r_318 hM i8 hi (R32_and _) (r_318 hM i8 hi (R32_and _) ⟨vI i8, ⟨fun q => absurd q (by rw [e]; decide), fun _ => ⟨fun q => absurd q (by rw [e]; decide), fun _ => ⟨fun q => absurd q (by rw [e]; decide), fun _ => ⟨fun _ => ?_, fun q => absurd e q⟩⟩⟩⟩⟩)
      unfold w_322_523
      refine r_323 i8 (R32_and _) ?_
      rw [cI i8, hM.pc hi]
      exact h
  by_cases n35 : w &&& 127 = 35
  · have e := n35
    by_cases g : k ≤ 2
    · have hf : it_us w 12 &&& 7 = 0 ∨ it_us w 12 &&& 7 = 1 ∨ it_us w 12 &&& 7 = 2 := by
        rcases (by omega : k = 0 ∨ k = 1 ∨ k = 2) with y | y | y <;> rw [ek, y] <;> decide
      have e2 : it_us w 12 &&& 7 ≤ 2 := (kL 2 (by omega)).2 g
      refine x_map (x_st hk hI hB hi w hf (m (14 + 5 * i + 2) (Int32.toNatClampNeg (it_us w 15 &&& 31)) + ((it_shl (it_shr w (25 : Int32)) (5 : Int32)) ||| ((it_us w (7 : Int32)) &&& (31 : Int32)))) (L := 4) (Or.inr rfl)) (fun Φ h => ?_) (fun M hM Φ h => ?_)
      · unfold w_106
        refine ⟨fun q => absurd q (by rw [e]; decide), fun _ => ⟨fun q => absurd q (by rw [e]; decide), fun _ => ⟨fun q => absurd q (by rw [e]; decide), fun _ => ⟨fun q => absurd q (by rw [e]; decide), fun _ => ⟨fun _ => ?_, fun q => absurd e q⟩⟩⟩⟩⟩
        unfold w_116 w_108
        exact ⟨fun _ => c_109 h, fun q => absurd e2 q⟩
      · unfold w_322
        refine r_318 hM i8 hi (R32_and _) (r_318 hM i8 hi (R32_and _) ⟨vI i8, ⟨fun q => absurd q (by rw [e]; decide), fun _ => ⟨fun q => absurd q (by rw [e]; decide), fun _ => ⟨fun q => absurd q (by rw [e]; decide), fun _ => ⟨fun q => absurd q (by rw [e]; decide), fun _ => ⟨fun _ => ?_, fun q => absurd e q⟩⟩⟩⟩⟩⟩)
        unfold w_322_523
        exact ⟨fun _ => h, fun q => absurd e2 q⟩
    · have e2 : ¬ it_us w 12 &&& 7 ≤ 2 := fun q => g ((kL 2 (by omega)).1 q)
      refine bad (fun Φ h => ?_) (fun M hM Φ h => ?_)
      · unfold w_106
        refine ⟨fun q => absurd q (by rw [e]; decide), fun _ => ⟨fun q => absurd q (by rw [e]; decide), fun _ => ⟨fun q => absurd q (by rw [e]; decide), fun _ => ⟨fun q => absurd q (by rw [e]; decide), fun _ => ⟨fun _ => ?_, fun q => absurd e q⟩⟩⟩⟩⟩
        unfold w_116 w_108
        exact ⟨fun q => absurd q e2, fun _ => h⟩
      · unfold w_322
        refine r_318 hM i8 hi (R32_and _) (r_318 hM i8 hi (R32_and _) ⟨vI i8, ⟨fun q => absurd q (by rw [e]; decide), fun _ => ⟨fun q => absurd q (by rw [e]; decide), fun _ => ⟨fun q => absurd q (by rw [e]; decide), fun _ => ⟨fun q => absurd q (by rw [e]; decide), fun _ => ⟨fun _ => ?_, fun q => absurd e q⟩⟩⟩⟩⟩⟩)
        unfold w_321 w_322_523
        exact ⟨fun q => absurd q e2, fun _ => h⟩
  by_cases n47 : w &&& 127 = 47
  · have e := n47
    refine x_map (x_am hk hI hB hi hs w) (fun Φ h => ?_) (fun M hM Φ h => ?_)
    · unfold w_106
      exact ⟨fun q => absurd q (by rw [e]; decide), fun _ => ⟨fun q => absurd q (by rw [e]; decide), fun _ => ⟨fun q => absurd q (by rw [e]; decide), fun _ => ⟨fun q => absurd q (by rw [e]; decide), fun _ => ⟨fun q => absurd q (by rw [e]; decide), fun _ => ⟨fun _ => h, fun q => absurd e q⟩⟩⟩⟩⟩⟩
    · unfold w_322
      refine r_318 hM i8 hi (R32_and _) (r_318 hM i8 hi (R32_and _) ⟨vI i8, ⟨fun q => absurd q (by rw [e]; decide), fun _ => ⟨fun q => absurd q (by rw [e]; decide), fun _ => ⟨fun q => absurd q (by rw [e]; decide), fun _ => ⟨fun q => absurd q (by rw [e]; decide), fun _ => ⟨fun q => absurd q (by rw [e]; decide), fun _ => ⟨fun _ => ?_, fun q => absurd e q⟩⟩⟩⟩⟩⟩⟩)
      unfold w_322_523
      exact h
  by_cases n51 : w &&& 127 = 51
  · have e := n51
    by_cases g1 : it_us w 25 = 1
    · obtain ⟨v, v1, v2⟩ := mul (kc := kc) hk8 ek (m (14 + 5 * i + 2) (Int32.toNatClampNeg (it_us w 15 &&& 31))) (m (14 + 5 * i + 2) (Int32.toNatClampNeg (it_us w 20 &&& 31)))
      refine x_fin hI hi (x := it_us w 7 &&& 31) (R32_and _) v (m (14 + 5 * i) 3 + 4) ep (fun Φ h => ?_) (fun M hM Φ h => ?_)
      · unfold w_106
        refine ⟨fun q => absurd q (by rw [e]; decide), fun _ => ⟨fun q => absurd q (by rw [e]; decide), fun _ => ⟨fun q => absurd q (by rw [e]; decide), fun _ => ⟨fun q => absurd q (by rw [e]; decide), fun _ => ⟨fun q => absurd q (by rw [e]; decide), fun _ => ⟨fun q => absurd q (by rw [e]; decide), fun _ => ⟨fun _ => ?_, fun q => absurd e q⟩⟩⟩⟩⟩⟩⟩
        unfold w_118 w_108
        exact c_109 (c_110 ⟨fun _ => v1 _ _ (c_107 h), fun q => absurd g1 q⟩)
      · unfold w_322
        refine r_318 hM i8 hi (R32_and _) (r_318 hM i8 hi (R32_and _) ⟨vI i8, ⟨fun q => absurd q (by rw [e]; decide), fun _ => ⟨fun q => absurd q (by rw [e]; decide), fun _ => ⟨fun q => absurd q (by rw [e]; decide), fun _ => ⟨fun q => absurd q (by rw [e]; decide), fun _ => ⟨fun q => absurd q (by rw [e]; decide), fun _ => ⟨fun q => absurd q (by rw [e]; decide), fun _ => ⟨fun _ => ?_, fun q => absurd e q⟩⟩⟩⟩⟩⟩⟩⟩)
        unfold w_329 w_329_91 w_322_523
        refine ⟨fun _ => v2 _ _ (r_323 i8 (R32_and _) ?_), fun q => absurd g1 q⟩
        rw [hM.pc hi]
        exact h
    by_cases g2 : it_us w 25 = 0 ∨ it_us w 25 = 32 ∧ (it_us w 12 &&& 7 = 0 ∨ it_us w 12 &&& 7 = 5)
    · obtain ⟨v, v1, v2⟩ := alu (kc := kc) hk8 ek (if it_us w 25 = 32 then 1 else 0) (m (14 + 5 * i + 2) (Int32.toNatClampNeg (it_us w 15 &&& 31))) (m (14 + 5 * i + 2) (Int32.toNatClampNeg (it_us w 20 &&& 31)))
      refine x_fin hI hi (x := it_us w 7 &&& 31) (R32_and _) v (m (14 + 5 * i) 3 + 4) ep (fun Φ h => ?_) (fun M hM Φ h => ?_)
      · unfold w_106
        refine ⟨fun q => absurd q (by rw [e]; decide), fun _ => ⟨fun q => absurd q (by rw [e]; decide), fun _ => ⟨fun q => absurd q (by rw [e]; decide), fun _ => ⟨fun q => absurd q (by rw [e]; decide), fun _ => ⟨fun q => absurd q (by rw [e]; decide), fun _ => ⟨fun q => absurd q (by rw [e]; decide), fun _ => ⟨fun _ => ?_, fun q => absurd e q⟩⟩⟩⟩⟩⟩⟩
        unfold w_118 w_108
        have t : w_118_78 kc Φ (14 + 5 * i) w (m (14 + 5 * i) 3 + 4) (it_us w 12 &&& 7) (it_us w 25) (m (14 + 5 * i + 2) (Int32.toNatClampNeg (it_us w 15 &&& 31))) (m (14 + 5 * i + 2) (Int32.toNatClampNeg (it_us w 20 &&& 31))) m := by
          unfold w_118_78 w_118_94
          refine ⟨fun q => ?_, fun q => ?_⟩
          · rw [if_pos q] at v1
            exact v1 _ _ (c_107 h)
          · rw [if_neg q] at v1
            exact v1 _ _ (c_107 h)
        refine c_109 (c_110 ⟨fun q => absurd q g1, fun _ => ⟨fun _ => t, fun q0 => ⟨fun q1 => ⟨fun _ => t, fun q2 => ⟨fun _ => t, fun q3 => ?_⟩⟩, fun q1 => ?_⟩⟩⟩)
        · rcases g2 with y | y
          · exact absurd y q0
          · exact absurd y.2 (fun z => z.elim q2 q3)
        · rcases g2 with y | y
          · exact absurd y q0
          · exact absurd y.1 q1
      · unfold w_322
        refine r_318 hM i8 hi (R32_and _) (r_318 hM i8 hi (R32_and _) ⟨vI i8, ⟨fun q => absurd q (by rw [e]; decide), fun _ => ⟨fun q => absurd q (by rw [e]; decide), fun _ => ⟨fun q => absurd q (by rw [e]; decide), fun _ => ⟨fun q => absurd q (by rw [e]; decide), fun _ => ⟨fun q => absurd q (by rw [e]; decide), fun _ => ⟨fun q => absurd q (by rw [e]; decide), fun _ => ⟨fun _ => ?_, fun q => absurd e q⟩⟩⟩⟩⟩⟩⟩⟩)
        unfold w_329 w_322_523
        have t : w_329_54 kc Φ (nI i) (it_us w 7 &&& 31) (it_us w 12 &&& 7) (m (14 + 5 * i + 2) (Int32.toNatClampNeg (it_us w 15 &&& 31))) (m (14 + 5 * i + 2) (Int32.toNatClampNeg (it_us w 20 &&& 31))) (it_us w 25) M := by
          unfold w_329_54 w_329_72 w_329_91
          refine ⟨fun q => ?_, fun q => ?_⟩
          · rw [if_pos q] at v2
            refine v2 _ _ (r_323 i8 (R32_and _) ?_)
            rw [hM.pc hi]
            exact h
          · rw [if_neg q] at v2
            refine v2 _ _ (r_323 i8 (R32_and _) ?_)
            rw [hM.pc hi]
            exact h
        refine ⟨fun q => absurd q g1, fun _ => ⟨fun _ => t, fun q0 => ⟨fun q1 => ⟨fun _ => t, fun q2 => ⟨fun _ => t, fun q3 => ?_⟩⟩, fun q1 => ?_⟩⟩⟩
        · rcases g2 with y | y
          · exact absurd y q0
          · exact absurd y.2 (fun z => z.elim q2 q3)
        · rcases g2 with y | y
          · exact absurd y q0
          · exact absurd y.1 q1
    · have g0 : ¬ it_us w 25 = 0 := fun y => g2 (Or.inl y)
      have gx : ∀ P : Prop, it_us w 25 = 32 → (it_us w 12 &&& 7 = 0 ∨ it_us w 12 &&& 7 = 5) → P := fun P y z => absurd (Or.inr ⟨y, z⟩) g2
      refine bad (fun Φ h => ?_) (fun M hM Φ h => ?_)
      · unfold w_106
        refine ⟨fun q => absurd q (by rw [e]; decide), fun _ => ⟨fun q => absurd q (by rw [e]; decide), fun _ => ⟨fun q => absurd q (by rw [e]; decide), fun _ => ⟨fun q => absurd q (by rw [e]; decide), fun _ => ⟨fun q => absurd q (by rw [e]; decide), fun _ => ⟨fun q => absurd q (by rw [e]; decide), fun _ => ⟨fun _ => ?_, fun q => absurd e q⟩⟩⟩⟩⟩⟩⟩
        unfold w_118 w_108 w_118_71
        exact c_109 (c_110 ⟨fun q => absurd q g1, fun _ => ⟨fun q => absurd q g0, fun _ => ⟨fun q1 => ⟨fun q2 => gx _ q1 (Or.inl q2), fun q2 => ⟨fun q3 => gx _ q1 (Or.inr q3), fun _ => h⟩⟩, fun _ => h⟩⟩⟩)
      · unfold w_322
        refine r_318 hM i8 hi (R32_and _) (r_318 hM i8 hi (R32_and _) ⟨vI i8, ⟨fun q => absurd q (by rw [e]; decide), fun _ => ⟨fun q => absurd q (by rw [e]; decide), fun _ => ⟨fun q => absurd q (by rw [e]; decide), fun _ => ⟨fun q => absurd q (by rw [e]; decide), fun _ => ⟨fun q => absurd q (by rw [e]; decide), fun _ => ⟨fun q => absurd q (by rw [e]; decide), fun _ => ⟨fun _ => ?_, fun q => absurd e q⟩⟩⟩⟩⟩⟩⟩⟩)
        unfold w_329 w_329_85 w_329_91 w_321 w_322_523
        exact ⟨fun q => absurd q g1, fun _ => ⟨fun q => absurd q g0, fun _ => ⟨fun q1 => ⟨fun q2 => gx _ q1 (Or.inl q2), fun q2 => ⟨fun q3 => gx _ q1 (Or.inr q3), fun _ => h⟩⟩, fun _ => h⟩⟩⟩
  by_cases n55 : w &&& 127 = 55
  · have e := n55
    refine x_fin hI hi (x := it_us w 7 &&& 31) (R32_and _) (w &&& (-4096 : Int32)) (m (14 + 5 * i) 3 + 4) ep (fun Φ h => ?_) (fun M hM Φ h => ?_)
    · unfold w_106
      exact ⟨fun q => absurd q (by rw [e]; decide), fun _ => ⟨fun q => absurd q (by rw [e]; decide), fun _ => ⟨fun q => absurd q (by rw [e]; decide), fun _ => ⟨fun q => absurd q (by rw [e]; decide), fun _ => ⟨fun q => absurd q (by rw [e]; decide), fun _ => ⟨fun q => absurd q (by rw [e]; decide), fun _ => ⟨fun q => absurd q (by rw [e]; decide), fun _ => ⟨fun _ => c_107 h, fun q => absurd e q⟩⟩⟩⟩⟩⟩⟩⟩
    · unfold w_322
      refine r_318 hM i8 hi (R32_and _) (r_318 hM i8 hi (R32_and _) ⟨vI i8, ⟨fun q => absurd q (by rw [e]; decide), fun _ => ⟨fun q => absurd q (by rw [e]; decide), fun _ => ⟨fun q => absurd q (by rw [e]; decide), fun _ => ⟨fun q => absurd q (by rw [e]; decide), fun _ => ⟨fun q => absurd q (by rw [e]; decide), fun _ => ⟨fun q => absurd q (by rw [e]; decide), fun _ => ⟨fun q => absurd q (by rw [e]; decide), fun _ => ⟨fun _ => ?_, fun q => absurd e q⟩⟩⟩⟩⟩⟩⟩⟩⟩)
      unfold w_322_523
      refine r_323 i8 (R32_and _) ?_
      rw [hM.pc hi]
      exact h
  by_cases n99 : w &&& 127 = 99
  · have e := n99
    refine x_map (x_br hk hI hB hi w) (fun Φ h => ?_) (fun M hM Φ h => ?_)
    · unfold w_106
      exact ⟨fun q => absurd q (by rw [e]; decide), fun _ => ⟨fun q => absurd q (by rw [e]; decide), fun _ => ⟨fun q => absurd q (by rw [e]; decide), fun _ => ⟨fun q => absurd q (by rw [e]; decide), fun _ => ⟨fun q => absurd q (by rw [e]; decide), fun _ => ⟨fun q => absurd q (by rw [e]; decide), fun _ => ⟨fun q => absurd q (by rw [e]; decide), fun _ => ⟨fun q => absurd q (by rw [e]; decide), fun _ => ⟨fun _ => h, fun q => absurd e q⟩⟩⟩⟩⟩⟩⟩⟩⟩
    · unfold w_322
      refine r_318 hM i8 hi (R32_and _) (r_318 hM i8 hi (R32_and _) ⟨vI i8, ⟨fun q => absurd q (by rw [e]; decide), fun _ => ⟨fun q => absurd q (by rw [e]; decide), fun _ => ⟨fun q => absurd q (by rw [e]; decide), fun _ => ⟨fun q => absurd q (by rw [e]; decide), fun _ => ⟨fun q => absurd q (by rw [e]; decide), fun _ => ⟨fun q => absurd q (by rw [e]; decide), fun _ => ⟨fun q => absurd q (by rw [e]; decide), fun _ => ⟨fun q => absurd q (by rw [e]; decide), fun _ => ⟨fun _ => ?_, fun q => absurd e q⟩⟩⟩⟩⟩⟩⟩⟩⟩⟩)
      unfold w_322_523
      exact h
  by_cases n103 : w &&& 127 = 103
  · have e := n103
    by_cases g : it_us w 12 &&& 7 = 0
    · refine x_fin hI hi (x := it_us w 7 &&& 31) (R32_and _) (m (14 + 5 * i) 3 + 4) ((m (14 + 5 * i + 2) (Int32.toNatClampNeg (it_us w 15 &&& 31)) + it_shr w 20) &&& (-2 : Int32)) (and_m2 _) (fun Φ h => ?_) (fun M hM Φ h => ?_)
      · unfold w_106
        refine ⟨fun q => absurd q (by rw [e]; decide), fun _ => ⟨fun q => absurd q (by rw [e]; decide), fun _ => ⟨fun q => absurd q (by rw [e]; decide), fun _ => ⟨fun q => absurd q (by rw [e]; decide), fun _ => ⟨fun q => absurd q (by rw [e]; decide), fun _ => ⟨fun q => absurd q (by rw [e]; decide), fun _ => ⟨fun q => absurd q (by rw [e]; decide), fun _ => ⟨fun q => absurd q (by rw [e]; decide), fun _ => ⟨fun q => absurd q (by rw [e]; decide), fun _ => ⟨fun _ => ?_, fun q => absurd e q⟩⟩⟩⟩⟩⟩⟩⟩⟩⟩
        unfold w_113 w_108
        exact ⟨fun _ => c_109 (c_107 h), fun q => absurd g q⟩
      · unfold w_322
        refine r_318 hM i8 hi (R32_and _) (r_318 hM i8 hi (R32_and _) ⟨vI i8, ⟨fun q => absurd q (by rw [e]; decide), fun _ => ⟨fun q => absurd q (by rw [e]; decide), fun _ => ⟨fun q => absurd q (by rw [e]; decide), fun _ => ⟨fun q => absurd q (by rw [e]; decide), fun _ => ⟨fun q => absurd q (by rw [e]; decide), fun _ => ⟨fun q => absurd q (by rw [e]; decide), fun _ => ⟨fun q => absurd q (by rw [e]; decide), fun _ => ⟨fun q => absurd q (by rw [e]; decide), fun _ => ⟨fun q => absurd q (by rw [e]; decide), fun _ => ⟨fun _ => ?_, fun q => absurd e q⟩⟩⟩⟩⟩⟩⟩⟩⟩⟩⟩)
        unfold w_322_523
        rw [cI i8, hM.pc hi]
        exact ⟨fun _ => r_319 i8 (R32_and _) ⟨vI i8, h⟩, fun q => absurd g q⟩
    · refine bad (fun Φ h => ?_) (fun M hM Φ h => ?_)
      · unfold w_106
        refine ⟨fun q => absurd q (by rw [e]; decide), fun _ => ⟨fun q => absurd q (by rw [e]; decide), fun _ => ⟨fun q => absurd q (by rw [e]; decide), fun _ => ⟨fun q => absurd q (by rw [e]; decide), fun _ => ⟨fun q => absurd q (by rw [e]; decide), fun _ => ⟨fun q => absurd q (by rw [e]; decide), fun _ => ⟨fun q => absurd q (by rw [e]; decide), fun _ => ⟨fun q => absurd q (by rw [e]; decide), fun _ => ⟨fun q => absurd q (by rw [e]; decide), fun _ => ⟨fun _ => ?_, fun q => absurd e q⟩⟩⟩⟩⟩⟩⟩⟩⟩⟩
        unfold w_113 w_108
        exact ⟨fun q => absurd q g, fun _ => h⟩
      · unfold w_322
        refine r_318 hM i8 hi (R32_and _) (r_318 hM i8 hi (R32_and _) ⟨vI i8, ⟨fun q => absurd q (by rw [e]; decide), fun _ => ⟨fun q => absurd q (by rw [e]; decide), fun _ => ⟨fun q => absurd q (by rw [e]; decide), fun _ => ⟨fun q => absurd q (by rw [e]; decide), fun _ => ⟨fun q => absurd q (by rw [e]; decide), fun _ => ⟨fun q => absurd q (by rw [e]; decide), fun _ => ⟨fun q => absurd q (by rw [e]; decide), fun _ => ⟨fun q => absurd q (by rw [e]; decide), fun _ => ⟨fun q => absurd q (by rw [e]; decide), fun _ => ⟨fun _ => ?_, fun q => absurd e q⟩⟩⟩⟩⟩⟩⟩⟩⟩⟩⟩)
        unfold w_321 w_322_523
        exact ⟨fun q => absurd q g, fun _ => h⟩
  by_cases n111 : w &&& 127 = 111
  · have e := n111
    refine x_fin hI hi (x := it_us w 7 &&& 31) (R32_and _) (m (14 + 5 * i) 3 + 4) (m (14 + 5 * i) 3 + ((((it_shl (it_shr w (31 : Int32)) (20 : Int32)) ||| (w &&& (1044480 : Int32))) ||| (it_shl ((it_us w (20 : Int32)) &&& (1 : Int32)) (11 : Int32))) ||| (it_shl ((it_us w (21 : Int32)) &&& (1023 : Int32)) (1 : Int32)))) (evA hP.pce (joff w)) (fun Φ h => ?_) (fun M hM Φ h => ?_)
    · unfold w_106
      refine ⟨fun q => absurd q (by rw [e]; decide), fun _ => ⟨fun q => absurd q (by rw [e]; decide), fun _ => ⟨fun q => absurd q (by rw [e]; decide), fun _ => ⟨fun q => absurd q (by rw [e]; decide), fun _ => ⟨fun q => absurd q (by rw [e]; decide), fun _ => ⟨fun q => absurd q (by rw [e]; decide), fun _ => ⟨fun q => absurd q (by rw [e]; decide), fun _ => ⟨fun q => absurd q (by rw [e]; decide), fun _ => ⟨fun q => absurd q (by rw [e]; decide), fun _ => ⟨fun q => absurd q (by rw [e]; decide), fun _ => ⟨fun _ => ?_, fun q => absurd e q⟩⟩⟩⟩⟩⟩⟩⟩⟩⟩⟩
      unfold w_111
      exact c_107 h
    · unfold w_322
      refine r_318 hM i8 hi (R32_and _) (r_318 hM i8 hi (R32_and _) ⟨vI i8, ⟨fun q => absurd q (by rw [e]; decide), fun _ => ⟨fun q => absurd q (by rw [e]; decide), fun _ => ⟨fun q => absurd q (by rw [e]; decide), fun _ => ⟨fun q => absurd q (by rw [e]; decide), fun _ => ⟨fun q => absurd q (by rw [e]; decide), fun _ => ⟨fun q => absurd q (by rw [e]; decide), fun _ => ⟨fun q => absurd q (by rw [e]; decide), fun _ => ⟨fun q => absurd q (by rw [e]; decide), fun _ => ⟨fun q => absurd q (by rw [e]; decide), fun _ => ⟨fun q => absurd q (by rw [e]; decide), fun _ => ⟨fun _ => ?_, fun q => absurd e q⟩⟩⟩⟩⟩⟩⟩⟩⟩⟩⟩⟩)
      unfold w_322_523
      rw [cI i8, hM.pc hi, jmid]
      exact r_319 i8 (R32_and _) ⟨vI i8, h⟩
  by_cases n115 : w &&& 127 = 115
  · have e := n115
    by_cases g : w = 115
    · obtain ⟨m', a1, a2, a3, a4, a5⟩ := sc hk hI hB hl hi hs
      refine ⟨m', fun Φ h => ?_, a2, a3, a4, fun M hM Φ h => ?_⟩
      · show w_106 kc (14 + 5 * i) w (m (14 + 5 * i) 3 + 4) m (aft kc (14 + 5 * i) Φ)
        unfold w_106
        refine ⟨fun q => absurd q (by rw [e]; decide), fun _ => ⟨fun q => absurd q (by rw [e]; decide), fun _ => ⟨fun q => absurd q (by rw [e]; decide), fun _ => ⟨fun q => absurd q (by rw [e]; decide), fun _ => ⟨fun q => absurd q (by rw [e]; decide), fun _ => ⟨fun q => absurd q (by rw [e]; decide), fun _ => ⟨fun q => absurd q (by rw [e]; decide), fun _ => ⟨fun q => absurd q (by rw [e]; decide), fun _ => ⟨fun q => absurd q (by rw [e]; decide), fun _ => ⟨fun q => absurd q (by rw [e]; decide), fun _ => ⟨fun q => absurd q (by rw [e]; decide), fun _ => ⟨fun _ => ?_, fun q => absurd e q⟩⟩⟩⟩⟩⟩⟩⟩⟩⟩⟩⟩
        unfold w_125
        refine ⟨fun _ => ?_, fun q => absurd g q⟩
        unfold aft
        exact ⟨fun _ => a1 Φ h, fun q => absurd rfl q⟩
      · unfold w_322
        refine r_318 hM i8 hi (R32_and _) (r_318 hM i8 hi (R32_and _) ⟨vI i8, ⟨fun q => absurd q (by rw [e]; decide), fun _ => ⟨fun q => absurd q (by rw [e]; decide), fun _ => ⟨fun q => absurd q (by rw [e]; decide), fun _ => ⟨fun q => absurd q (by rw [e]; decide), fun _ => ⟨fun q => absurd q (by rw [e]; decide), fun _ => ⟨fun q => absurd q (by rw [e]; decide), fun _ => ⟨fun q => absurd q (by rw [e]; decide), fun _ => ⟨fun q => absurd q (by rw [e]; decide), fun _ => ⟨fun q => absurd q (by rw [e]; decide), fun _ => ⟨fun q => absurd q (by rw [e]; decide), fun _ => ⟨fun q => absurd q (by rw [e]; decide), fun _ => ⟨fun _ => ?_, fun q => absurd e q⟩⟩⟩⟩⟩⟩⟩⟩⟩⟩⟩⟩⟩)
        unfold w_322_523
        exact ⟨fun _ => a5 M hM Φ h, fun q => absurd g q⟩
    by_cases g2 : w = 1048691
    · refine x_flt hk hI hB hi 3 (m (14 + 5 * i) 3) (fun Φ h => ?_) (fun M hM Φ h => ?_)
      · unfold w_106
        refine ⟨fun q => absurd q (by rw [e]; decide), fun _ => ⟨fun q => absurd q (by rw [e]; decide), fun _ => ⟨fun q => absurd q (by rw [e]; decide), fun _ => ⟨fun q => absurd q (by rw [e]; decide), fun _ => ⟨fun q => absurd q (by rw [e]; decide), fun _ => ⟨fun q => absurd q (by rw [e]; decide), fun _ => ⟨fun q => absurd q (by rw [e]; decide), fun _ => ⟨fun q => absurd q (by rw [e]; decide), fun _ => ⟨fun q => absurd q (by rw [e]; decide), fun _ => ⟨fun q => absurd q (by rw [e]; decide), fun _ => ⟨fun q => absurd q (by rw [e]; decide), fun _ => ⟨fun _ => ?_, fun q => absurd e q⟩⟩⟩⟩⟩⟩⟩⟩⟩⟩⟩⟩
        unfold w_125 w_125_37
        exact ⟨fun q => absurd q g, fun _ => ⟨fun _ => h, fun q => absurd g2 q⟩⟩
      · unfold w_322
        refine r_318 hM i8 hi (R32_and _) (r_318 hM i8 hi (R32_and _) ⟨vI i8, ⟨fun q => absurd q (by rw [e]; decide), fun _ => ⟨fun q => absurd q (by rw [e]; decide), fun _ => ⟨fun q => absurd q (by rw [e]; decide), fun _ => ⟨fun q => absurd q (by rw [e]; decide), fun _ => ⟨fun q => absurd q (by rw [e]; decide), fun _ => ⟨fun q => absurd q (by rw [e]; decide), fun _ => ⟨fun q => absurd q (by rw [e]; decide), fun _ => ⟨fun q => absurd q (by rw [e]; decide), fun _ => ⟨fun q => absurd q (by rw [e]; decide), fun _ => ⟨fun q => absurd q (by rw [e]; decide), fun _ => ⟨fun q => absurd q (by rw [e]; decide), fun _ => ⟨fun _ => ?_, fun q => absurd e q⟩⟩⟩⟩⟩⟩⟩⟩⟩⟩⟩⟩⟩)
        unfold w_322_523
        rw [cI i8, hM.pc hi]
        exact ⟨fun q => absurd q g, fun _ => ⟨fun _ => h, fun q => absurd g2 q⟩⟩
    · refine bad (fun Φ h => ?_) (fun M hM Φ h => ?_)
      · unfold w_106
        refine ⟨fun q => absurd q (by rw [e]; decide), fun _ => ⟨fun q => absurd q (by rw [e]; decide), fun _ => ⟨fun q => absurd q (by rw [e]; decide), fun _ => ⟨fun q => absurd q (by rw [e]; decide), fun _ => ⟨fun q => absurd q (by rw [e]; decide), fun _ => ⟨fun q => absurd q (by rw [e]; decide), fun _ => ⟨fun q => absurd q (by rw [e]; decide), fun _ => ⟨fun q => absurd q (by rw [e]; decide), fun _ => ⟨fun q => absurd q (by rw [e]; decide), fun _ => ⟨fun q => absurd q (by rw [e]; decide), fun _ => ⟨fun q => absurd q (by rw [e]; decide), fun _ => ⟨fun _ => ?_, fun q => absurd e q⟩⟩⟩⟩⟩⟩⟩⟩⟩⟩⟩⟩
        unfold w_125 w_125_37
        exact ⟨fun q => absurd q g, fun _ => ⟨fun q => absurd q g2, fun _ => h⟩⟩
      · unfold w_322
        refine r_318 hM i8 hi (R32_and _) (r_318 hM i8 hi (R32_and _) ⟨vI i8, ⟨fun q => absurd q (by rw [e]; decide), fun _ => ⟨fun q => absurd q (by rw [e]; decide), fun _ => ⟨fun q => absurd q (by rw [e]; decide), fun _ => ⟨fun q => absurd q (by rw [e]; decide), fun _ => ⟨fun q => absurd q (by rw [e]; decide), fun _ => ⟨fun q => absurd q (by rw [e]; decide), fun _ => ⟨fun q => absurd q (by rw [e]; decide), fun _ => ⟨fun q => absurd q (by rw [e]; decide), fun _ => ⟨fun q => absurd q (by rw [e]; decide), fun _ => ⟨fun q => absurd q (by rw [e]; decide), fun _ => ⟨fun q => absurd q (by rw [e]; decide), fun _ => ⟨fun _ => ?_, fun q => absurd e q⟩⟩⟩⟩⟩⟩⟩⟩⟩⟩⟩⟩⟩)
        unfold w_321 w_322_523
        exact ⟨fun q => absurd q g, fun _ => ⟨fun q => absurd q g2, fun _ => h⟩⟩
  refine bad (fun Φ h => ?_) (fun M hM Φ h => ?_)
  · unfold w_106
    exact ⟨fun q => absurd q n3, fun _ => ⟨fun q => absurd q n15, fun _ => ⟨fun q => absurd q n19, fun _ => ⟨fun q => absurd q n23, fun _ => ⟨fun q => absurd q n35, fun _ => ⟨fun q => absurd q n47, fun _ => ⟨fun q => absurd q n51, fun _ => ⟨fun q => absurd q n55, fun _ => ⟨fun q => absurd q n99, fun _ => ⟨fun q => absurd q n103, fun _ => ⟨fun q => absurd q n111, fun _ => ⟨fun q => absurd q n115, fun _ => h⟩⟩⟩⟩⟩⟩⟩⟩⟩⟩⟩⟩
  · unfold w_322
    refine r_318 hM i8 hi (R32_and _) (r_318 hM i8 hi (R32_and _) ⟨vI i8, ⟨fun q => absurd q n3, fun _ => ⟨fun q => absurd q n15, fun _ => ⟨fun q => absurd q n19, fun _ => ⟨fun q => absurd q n23, fun _ => ⟨fun q => absurd q n35, fun _ => ⟨fun q => absurd q n47, fun _ => ⟨fun q => absurd q n51, fun _ => ⟨fun q => absurd q n55, fun _ => ⟨fun q => absurd q n99, fun _ => ⟨fun q => absurd q n103, fun _ => ⟨fun q => absurd q n111, fun _ => ⟨fun q => absurd q n115, fun _ => ?_⟩⟩⟩⟩⟩⟩⟩⟩⟩⟩⟩⟩⟩)
    unfold w_321 w_322_523
    exact h
