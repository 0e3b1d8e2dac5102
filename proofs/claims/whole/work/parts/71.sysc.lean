/-! System calls. Written by wip/whole/gen_sc.py -/
/-- what the board does behind an instruction -/
def aft (kc : it_Kc) (q : Nat) (K : it_Me → Prop) (r : Int32) (m6 : it_Me) : Prop := (r = (1 : Int32) → w_172 kc q m6 (fun r7 m8 => (r7 = (-1 : Int32) → K m8) ∧ (¬ r7 = (-1 : Int32) → w_37 kc q r7 m8 K))) ∧ (¬ r = (1 : Int32) → (r = (2 : Int32) → w_77 kc q (m6 58 1) (m6 58 2) m6 K) ∧ (¬ r = (2 : Int32) → K m6))
theorem rs1 : rsI 1 = 0 := by decide
theorem evA {x y : Int32} (hx : x.toInt % 2 = 0) (hy : y.toInt % 2 = 0) : (x + y).toInt % 2 = 0 := by
  rw [Int32.toInt_add, bm32]
  omega
theorem sc {kc : it_Kc} (hk : KC kc) {B : Nat} {m : it_Me} (hI : Inv B m) (hB : B + 1 < 2147483000) (hl : m 7 4 = 0) {i : Nat} (hi : i < cnt m) (hs : m (14 + 5 * i) 9 = 1) : Lv (fun m Φ => w_172 kc (14 + 5 * i) (it_sv m (14 + 5 * i) 3 (m (14 + 5 * i) 3 + 4)) (fun r m1 => (r = (-1 : Int32) → Φ m1) ∧ (¬ r = (-1 : Int32) → w_37 kc (14 + 5 * i) r m1 Φ))) (w_284 kc (nI i)) (B + 2) m (Kq m) := by
  have h8 := cnt_le hI
  have i8 : i < 8 := by omega
  obtain ⟨a4, ea4⟩ : ∃ x, x = m (14 + 5 * i + 2) 14 := ⟨_, rfl⟩
  have I1 : Inv B (it_sv m (14 + 5 * i) 3 (m (14 + 5 * i) 3 + 4)) := hI.fld hi (by omega) (fun q => absurd q (by omega)) (fun q => absurd q (by omega)) (fun _ => evA (hI.p hi).pce (by decide))
  have ct1 : cnt (it_sv m (14 + 5 * i) 3 (m (14 + 5 * i) 3 + 4)) = cnt m := cnt_sv _ _ _ (by omega)
  have I2 : Inv B (it_sv (it_sv m (14 + 5 * i) 3 (m (14 + 5 * i) 3 + 4)) (14 + 5 * i) 4 1) := I1.fld (by rw [ct1]; exact hi) (by omega) (fun q => absurd q (by omega)) (fun q => absurd q (by omega))
  have I3 := I2.note (B' := B + 1) (by omega) (by omega) (nI i) (k := 0) (by omega) a4
  obtain ⟨m3, em3⟩ : ∃ x, x = nt (it_sv (it_sv m (14 + 5 * i) 3 (m (14 + 5 * i) 3 + 4)) (14 + 5 * i) 4 1) (nI i) 0 a4 := ⟨_, rfl⟩
  rw [← em3] at I3
  have oc : ∀ k, k ≠ 4 → k ≠ 5 → k ≠ 6 → k ≠ 14 + 5 * i → m3 k = m k := fun k k1 k2 k3 k4 => by
    rw [em3, nt_c _ _ _ _ ⟨k1, k2, k3⟩, sv_cell _ _ _ _ k4, sv_cell _ _ _ _ k4]
  have r3 : m3 (14 + 5 * i + 2) = m (14 + 5 * i + 2) := oc _ (by omega) (by omega) (by omega) (by omega)
  have s3 : m3 (14 + 5 * i) 9 = 1 := by
    rw [em3, nt_c _ _ _ _ (by omega), sv_n2 _ _ _ _ (by omega), sv_n2 _ _ _ _ (by omega)]
    exact hs
  have c3 : cnt m3 = cnt m := cnt_cg (by rw [oc 9 (by omega) (by omega) (by omega) (by omega)])
  have l3 : m3 7 4 = 0 := by rw [oc 7 (by omega) (by omega) (by omega) (by omega)]; exact hl
  have hi3 : i < cnt m3 := by rw [c3]; exact hi
  have fr3 : FrC m m3 := fun k hk => oc k (by omega) (by omega) (by omega) (by omega)
  have kq3 : Kq m m3 := ⟨oc 0 (by omega) (by omega) (by omega) (by omega), oc 9 (by omega) (by omega) (by omega) (by omega)⟩
  have cls : ∀ Ψ : Int32 → it_Me → Prop, ((a4 = (0 : Int32) → w_174 kc (14 + 5 * i) m3 (fun m2 => Ψ (-1 : Int32) m2)) ∧ (¬ a4 = (0 : Int32) → (a4 = (1 : Int32) → w_177 kc (14 + 5 * i) m3 (fun m3 => Ψ (-1 : Int32) m3)) ∧ (¬ a4 = (1 : Int32) → (a4 = (2 : Int32) → w_180 kc (14 + 5 * i) m3 (fun r4 m5 => Ψ r4 m5)) ∧ (¬ a4 = (2 : Int32) → (a4 = (3 : Int32) → w_178 kc (14 + 5 * i) (1 : Int32) m3 (fun m6 => Ψ (-1 : Int32) m6)) ∧ (¬ a4 = (3 : Int32) → (a4 = (4 : Int32) → w_178 kc (14 + 5 * i) (0 : Int32) m3 (fun m7 => Ψ (-1 : Int32) m7)) ∧ (¬ a4 = (4 : Int32) → (a4 = (5 : Int32) → w_183 kc (14 + 5 * i) m3 (fun m8 => Ψ (-1 : Int32) m8)) ∧ (¬ a4 = (5 : Int32) → (a4 = (6 : Int32) → w_185 kc (14 + 5 * i) m3 (fun m9 => Ψ (-1 : Int32) m9)) ∧ (¬ a4 = (6 : Int32) → w_136 kc (14 + 5 * i) (10 : Int32) m3 (fun m10 => Ψ (-1 : Int32) m10))))))))) → w_172 kc (14 + 5 * i) (it_sv m (14 + 5 * i) 3 (m (14 + 5 * i) 3 + 4)) Ψ := fun Ψ h => by
    have e2 : it_sv m (14 + 5 * i) 3 (m (14 + 5 * i) 3 + 4) (14 + 5 * i + 2) 14 = a4 := by rw [sv_n1 _ _ _ _ _ (by omega), ea4]
    have e0 : it_sv m (14 + 5 * i) 3 (m (14 + 5 * i) 3 + 4) (14 + 5 * i) 0 = nI i := by rw [sv_n2 _ _ _ _ (by omega)]; exact hI.num i i8
    unfold w_172
    rw [cl_14, e2, e0]
    refine ⟨v32_14, c_69 hk I1 (k := 0) (by omega) ?_⟩
    rw [← nt_sv _ _ _ _ _ (by omega), ← em3]
    exact h
  have ref : ∀ M, Rel m M → ∃ M3, Rel m3 M3 ∧ FrM M M3 ∧ ∀ Φ : it_Me → Prop, ((a4 = (0 : Int32) → w_285 kc (nI i) (m (14 + 5 * i + 2) 10) (m (14 + 5 * i + 2) 11) (m (14 + 5 * i + 2) 12) M3 Φ) ∧ (¬ a4 = (0 : Int32) → (a4 = (1 : Int32) → w_288 kc (nI i) (m (14 + 5 * i + 2) 10) (m (14 + 5 * i + 2) 11) (m (14 + 5 * i + 2) 12) (m (14 + 5 * i + 2) 13) M3 Φ) ∧ (¬ a4 = (1 : Int32) → (a4 = (2 : Int32) → w_296 kc (nI i) (m (14 + 5 * i + 2) 10) (m (14 + 5 * i + 2) 11) (m (14 + 5 * i + 2) 12) (m (14 + 5 * i + 2) 13) M3 Φ) ∧ (¬ a4 = (2 : Int32) → (a4 = (3 : Int32) → w_289 kc (nI i) 1 (m (14 + 5 * i + 2) 10) (m (14 + 5 * i + 2) 11) (m (14 + 5 * i + 2) 12) (m (14 + 5 * i + 2) 13) M3 Φ) ∧ (¬ a4 = (3 : Int32) → (a4 = (4 : Int32) → w_289 kc (nI i) 0 (m (14 + 5 * i + 2) 10) (m (14 + 5 * i + 2) 11) (m (14 + 5 * i + 2) 12) (m (14 + 5 * i + 2) 13) M3 Φ) ∧ (¬ a4 = (4 : Int32) → (a4 = (5 : Int32) → w_290 kc (nI i) (m (14 + 5 * i + 2) 10) (m (14 + 5 * i + 2) 11) M3 Φ) ∧ (¬ a4 = (5 : Int32) → (a4 = (6 : Int32) → w_293 kc (nI i) (m (14 + 5 * i + 2) 10) (m (14 + 5 * i + 2) 11) M3 Φ) ∧ (¬ a4 = (6 : Int32) → w_282 kc (nI i) (10 : Int32) M3 Φ)))))))) → w_284 kc (nI i) M Φ := fun M hM => by
    have R1 := hM.ps1 h8 hi (a := 94) (c := 3) (by decide) (by omega) (by omega) (m (14 + 5 * i) 3 + 4) (fun q => absurd q (by omega)) (fun q => absurd q (by omega))
    have R2 := R1.rs (by rw [ct1]; exact h8) (by rw [ct1]; exact hi) 1
    have R3 := R2.note I2 (nI i) (k := 0) (by omega) (by omega) a4
    rw [← em3, rs1] at R3
    have f3 : FrM M (ntM (it_sv (it_sv (it_sv M 94 i (m (14 + 5 * i) 3 + 4)) 97 i 0) 69 (cof 0) (it_sv (it_sv M 94 i (m (14 + 5 * i) 3 + 4)) 97 i 0 69 (cof 0) + 1)) (nI i) (nI 0) a4) := fun k hk => by rw [ntM_c _ _ _ _ (by omega), sv_cell _ _ _ _ (by omega), sv_cell _ _ _ _ (by omega), sv_cell _ _ _ _ (by omega)]
    refine ⟨_, R3, f3, fun Φ h => ?_⟩
    have e10 : M 93 (32 * i + 10) = m (14 + 5 * i + 2) 10 := hM.regs i hi 10 (by omega)
    have e11 : M 93 (32 * i + 11) = m (14 + 5 * i + 2) 11 := hM.regs i hi 11 (by omega)
    have e12 : M 93 (32 * i + 12) = m (14 + 5 * i + 2) 12 := hM.regs i hi 12 (by omega)
    have e13 : M 93 (32 * i + 13) = m (14 + 5 * i + 2) 13 := hM.regs i hi 13 (by omega)
    have e14 : M 93 (32 * i + 14) = a4 := by rw [ea4]; exact hM.regs i hi 14 (by omega)
    unfold w_284 w_284_201 w_284_240
    rw [ix_10 i8, ix_11 i8, ix_12 i8, ix_13 i8, ix_14 i8, e10, e11, e12, e13, e14, cI i8, hM.pc hi, cl_5]
    refine ⟨vx_10 i8, vx_11 i8, vx_12 i8, vx_13 i8, vx_14 i8, vI i8, vI i8, vI i8, v12_5, v12_5, r_257 hI ?_ ?_⟩
    · rw [sv_n2 _ _ _ _ (by omega), sv_n1 _ _ _ _ _ (by omega), sv_n1 _ _ _ _ _ (by omega)]
      exact hM.counts 11 (by omega)
    · obtain ⟨h0, h⟩ := h
      refine ⟨h0, fun n0 => ?_⟩
      obtain ⟨h1, h⟩ := h n0
      refine ⟨h1, fun n1 => ?_⟩
      obtain ⟨h2, h⟩ := h n1
      refine ⟨h2, fun n2 => ?_⟩
      obtain ⟨h3, h⟩ := h n2
      refine ⟨fun q => ⟨fun _ => h3 q, fun y => absurd q y⟩, fun n3 => ?_⟩
      obtain ⟨h4, h⟩ := h n3
      refine ⟨fun q => ⟨fun y => absurd y n3, fun _ => h4 q⟩, fun n4 => ?_⟩
      exact h n4
  by_cases n0 : a4 = 0
  · have e := n0
    obtain ⟨m', a1, a2, a3, a5, a6⟩ := yl hk I3 (by omega) hi3 s3
    rw [r3] at a6
    refine ⟨m', fun Φ h => cls _ ?_, a2.mono (by omega), fr3.trans a3, Kq.trans kq3 a5.q, fun M hM Φ h => ?_⟩
    · have t := a1 (fun m2 => ((-1 : Int32) = (-1 : Int32) → Φ m2) ∧ (¬ (-1 : Int32) = (-1 : Int32) → w_37 kc (14 + 5 * i) (-1) m2 Φ)) ⟨fun _ => h, fun q => absurd rfl q⟩
      exact ⟨fun _ => t, fun q => absurd e q⟩
    · obtain ⟨M3, R3, f3, g⟩ := ref M hM
      refine g Φ ?_
      have t := a6 M3 R3 Φ (fun M' r f => h M' r (f3.trans f))
      exact ⟨fun _ => t, fun q => absurd e q⟩
  by_cases n1 : a4 = 1
  · have e := n1
    obtain ⟨m', a1, a2, a3, a5, a6⟩ := sb hk I3 hi3
    rw [r3] at a6
    refine ⟨m', fun Φ h => cls _ ?_, a2.mono (by omega), fr3.trans a3, Kq.trans kq3 a5.q, fun M hM Φ h => ?_⟩
    · have t := a1 (fun m2 => ((-1 : Int32) = (-1 : Int32) → Φ m2) ∧ (¬ (-1 : Int32) = (-1 : Int32) → w_37 kc (14 + 5 * i) (-1) m2 Φ)) ⟨fun _ => h, fun q => absurd rfl q⟩
      exact ⟨fun q => absurd q (by rw [e]; decide), fun _ => ⟨fun _ => t, fun q => absurd e q⟩⟩
    · obtain ⟨M3, R3, f3, g⟩ := ref M hM
      refine g Φ ?_
      have t := a6 M3 R3 Φ (fun M' r f => h M' r (f3.trans f))
      exact ⟨fun q => absurd q (by rw [e]; decide), fun _ => ⟨fun _ => t, fun q => absurd e q⟩⟩
  by_cases n2 : a4 = 2
  · have e := n2
    obtain ⟨m', a1, a2, a3, a5, a6⟩ := cmd hk I3 (by omega) l3 hi3 s3
    rw [r3] at a6
    refine ⟨m', fun Φ h => cls _ ?_, a2.mono (by omega), fr3.trans a3, Kq.trans kq3 a5, fun M hM Φ h => ?_⟩
    · have t := a1 Φ h
      exact ⟨fun q => absurd q (by rw [e]; decide), fun _ => ⟨fun q => absurd q (by rw [e]; decide), fun _ => ⟨fun _ => t, fun q => absurd e q⟩⟩⟩
    · obtain ⟨M3, R3, f3, g⟩ := ref M hM
      refine g Φ ?_
      have t := a6 M3 R3 Φ (fun M' r f => h M' r (f3.trans f))
      exact ⟨fun q => absurd q (by rw [e]; decide), fun _ => ⟨fun q => absurd q (by rw [e]; decide), fun _ => ⟨fun _ => t, fun q => absurd e q⟩⟩⟩
  by_cases n3 : a4 = 3
  · have e := n3
    obtain ⟨m', a1, a2, a3, a5, a6⟩ := al hk I3 hi3 1
    rw [r3] at a6
    refine ⟨m', fun Φ h => cls _ ?_, a2.mono (by omega), fr3.trans a3, Kq.trans kq3 a5.q, fun M hM Φ h => ?_⟩
    · have t := a1 (fun m2 => ((-1 : Int32) = (-1 : Int32) → Φ m2) ∧ (¬ (-1 : Int32) = (-1 : Int32) → w_37 kc (14 + 5 * i) (-1) m2 Φ)) ⟨fun _ => h, fun q => absurd rfl q⟩
      exact ⟨fun q => absurd q (by rw [e]; decide), fun _ => ⟨fun q => absurd q (by rw [e]; decide), fun _ => ⟨fun q => absurd q (by rw [e]; decide), fun _ => ⟨fun _ => t, fun q => absurd e q⟩⟩⟩⟩
    · obtain ⟨M3, R3, f3, g⟩ := ref M hM
      refine g Φ ?_
      have t := a6 M3 R3 Φ (fun M' r f => h M' r (f3.trans f))
      exact ⟨fun q => absurd q (by rw [e]; decide), fun _ => ⟨fun q => absurd q (by rw [e]; decide), fun _ => ⟨fun q => absurd q (by rw [e]; decide), fun _ => ⟨fun _ => t, fun q => absurd e q⟩⟩⟩⟩
  by_cases n4 : a4 = 4
  · have e := n4
    obtain ⟨m', a1, a2, a3, a5, a6⟩ := al hk I3 hi3 0
    rw [r3] at a6
    refine ⟨m', fun Φ h => cls _ ?_, a2.mono (by omega), fr3.trans a3, Kq.trans kq3 a5.q, fun M hM Φ h => ?_⟩
    · have t := a1 (fun m2 => ((-1 : Int32) = (-1 : Int32) → Φ m2) ∧ (¬ (-1 : Int32) = (-1 : Int32) → w_37 kc (14 + 5 * i) (-1) m2 Φ)) ⟨fun _ => h, fun q => absurd rfl q⟩
      exact ⟨fun q => absurd q (by rw [e]; decide), fun _ => ⟨fun q => absurd q (by rw [e]; decide), fun _ => ⟨fun q => absurd q (by rw [e]; decide), fun _ => ⟨fun q => absurd q (by rw [e]; decide), fun _ => ⟨fun _ => t, fun q => absurd e q⟩⟩⟩⟩⟩
    · obtain ⟨M3, R3, f3, g⟩ := ref M hM
      refine g Φ ?_
      have t := a6 M3 R3 Φ (fun M' r f => h M' r (f3.trans f))
      exact ⟨fun q => absurd q (by rw [e]; decide), fun _ => ⟨fun q => absurd q (by rw [e]; decide), fun _ => ⟨fun q => absurd q (by rw [e]; decide), fun _ => ⟨fun q => absurd q (by rw [e]; decide), fun _ => ⟨fun _ => t, fun q => absurd e q⟩⟩⟩⟩⟩
  by_cases n5 : a4 = 5
  · have e := n5
    obtain ⟨m', a1, a2, a3, a5, a6⟩ := am hk I3 hi3
    rw [r3] at a6
    refine ⟨m', fun Φ h => cls _ ?_, a2.mono (by omega), fr3.trans a3, Kq.trans kq3 a5.q, fun M hM Φ h => ?_⟩
    · have t := a1 (fun m2 => ((-1 : Int32) = (-1 : Int32) → Φ m2) ∧ (¬ (-1 : Int32) = (-1 : Int32) → w_37 kc (14 + 5 * i) (-1) m2 Φ)) ⟨fun _ => h, fun q => absurd rfl q⟩
      exact ⟨fun q => absurd q (by rw [e]; decide), fun _ => ⟨fun q => absurd q (by rw [e]; decide), fun _ => ⟨fun q => absurd q (by rw [e]; decide), fun _ => ⟨fun q => absurd q (by rw [e]; decide), fun _ => ⟨fun q => absurd q (by rw [e]; decide), fun _ => ⟨fun _ => t, fun q => absurd e q⟩⟩⟩⟩⟩⟩
    · obtain ⟨M3, R3, f3, g⟩ := ref M hM
      refine g Φ ?_
      have t := a6 M3 R3 Φ (fun M' r f => h M' r (f3.trans f))
      exact ⟨fun q => absurd q (by rw [e]; decide), fun _ => ⟨fun q => absurd q (by rw [e]; decide), fun _ => ⟨fun q => absurd q (by rw [e]; decide), fun _ => ⟨fun q => absurd q (by rw [e]; decide), fun _ => ⟨fun q => absurd q (by rw [e]; decide), fun _ => ⟨fun _ => t, fun q => absurd e q⟩⟩⟩⟩⟩⟩
  by_cases n6 : a4 = 6
  · have e := n6
    obtain ⟨m', a1, a2, a3, a5, a6⟩ := xt hk I3 (by omega) hi3
    rw [r3] at a6
    refine ⟨m', fun Φ h => cls _ ?_, a2.mono (by omega), fr3.trans a3, Kq.trans kq3 a5.q, fun M hM Φ h => ?_⟩
    · have t := a1 (fun m2 => ((-1 : Int32) = (-1 : Int32) → Φ m2) ∧ (¬ (-1 : Int32) = (-1 : Int32) → w_37 kc (14 + 5 * i) (-1) m2 Φ)) ⟨fun _ => h, fun q => absurd rfl q⟩
      exact ⟨fun q => absurd q (by rw [e]; decide), fun _ => ⟨fun q => absurd q (by rw [e]; decide), fun _ => ⟨fun q => absurd q (by rw [e]; decide), fun _ => ⟨fun q => absurd q (by rw [e]; decide), fun _ => ⟨fun q => absurd q (by rw [e]; decide), fun _ => ⟨fun q => absurd q (by rw [e]; decide), fun _ => ⟨fun _ => t, fun q => absurd e q⟩⟩⟩⟩⟩⟩⟩
    · obtain ⟨M3, R3, f3, g⟩ := ref M hM
      refine g Φ ?_
      have t := a6 M3 R3 Φ (fun M' r f => h M' r (f3.trans f))
      exact ⟨fun q => absurd q (by rw [e]; decide), fun _ => ⟨fun q => absurd q (by rw [e]; decide), fun _ => ⟨fun q => absurd q (by rw [e]; decide), fun _ => ⟨fun q => absurd q (by rw [e]; decide), fun _ => ⟨fun q => absurd q (by rw [e]; decide), fun _ => ⟨fun q => absurd q (by rw [e]; decide), fun _ => ⟨fun _ => t, fun q => absurd e q⟩⟩⟩⟩⟩⟩⟩
  obtain ⟨m', a1, a2, a3, a5, a6⟩ := lv_fail (kc := kc) I3 hi3 10
  refine ⟨m', fun Φ h => cls _ ?_, a2.mono (by omega), fr3.trans a3, Kq.trans kq3 a5.q, fun M hM Φ h => ?_⟩
  · have t := a1 (fun m2 => ((-1 : Int32) = (-1 : Int32) → Φ m2) ∧ (¬ (-1 : Int32) = (-1 : Int32) → w_37 kc (14 + 5 * i) (-1) m2 Φ)) ⟨fun _ => h, fun q => absurd rfl q⟩
    exact ⟨fun q => absurd q n0, fun _ => ⟨fun q => absurd q n1, fun _ => ⟨fun q => absurd q n2, fun _ => ⟨fun q => absurd q n3, fun _ => ⟨fun q => absurd q n4, fun _ => ⟨fun q => absurd q n5, fun _ => ⟨fun q => absurd q n6, fun _ => t⟩⟩⟩⟩⟩⟩⟩
  · obtain ⟨M3, R3, f3, g⟩ := ref M hM
    refine g Φ ?_
    have t := a6 M3 R3 Φ (fun M' r f => h M' r (f3.trans f))
    exact ⟨fun q => absurd q n0, fun _ => ⟨fun q => absurd q n1, fun _ => ⟨fun q => absurd q n2, fun _ => ⟨fun q => absurd q n3, fun _ => ⟨fun q => absurd q n4, fun _ => ⟨fun q => absurd q n5, fun _ => ⟨fun q => absurd q n6, fun _ => t⟩⟩⟩⟩⟩⟩⟩
