/-! One instruction in lockstep. -/
theorem gh16 (m : it_Me) (a : Int32) : ∃ H, H < 65536 ∧ gh m a = nI H := by
  have k : ∀ y : Int32, ∃ H, H < 65536 ∧ y &&& 65535 = nI H := fun y => by
    have e : (y &&& 65535).toInt = y.toInt % 65536 := andI y 16 (by omega) rfl
    refine ⟨(y.toInt % 65536).toNat, by omega, Int32.toInt_inj.mp ?_⟩
    rw [e, nI_toInt (by omega)]
    omega
  have z : ∃ H, H < 65536 ∧ (0 : Int32) = nI H := ⟨0, by omega, rfl⟩
  unfold gh
  split
  · exact z
  · split
    · unfold hf
      exact k _
    · exact z
theorem x_step {kc : it_Kc} (hk : KC kc) {B : Nat} {m : it_Me} (hI : Inv B m) (hB : B + 1 < 2147483000) (hl : m 7 4 = 0) {i : Nat} (hi : i < cnt m) (hs : m (14 + 5 * i) 9 = 1) : Lo kc i (w_104 kc (14 + 5 * i)) (w_320 kc (nI i)) (B + 2) m := by
  have h8 := cnt_le hI
  have i8 : i < 8 := by omega
  have hP := hI.p hi
  have ev := hP.pce
  have ev2 : (m (14 + 5 * i) 3 + 2).toInt % 2 = 0 := evA hP.pce (by decide)
  have m1 := may_x hI hi ev
  have m2 := may_x hI hi ev2
  have rx : ∀ {M : it_Me} {a : Int32} {p : Prop} {Ψ : Int32 → it_Me → Prop}, Rel m M → (mayP m i (a.toInt % 4294967296) 2 4 ↔ p) → Ψ (bI p) M → w_259 kc (nI i) a 2 4 M Ψ := fun hM e h => r_259 hI hM hi (by decide) (by rw [show (2 : Int32).toInt = 2 from rfl, bI_cg e]; exact h)
  by_cases a1 : inA m i (m (14 + 5 * i) 3)
  · have A1 := may_A hI hi (Or.inr a1)
    by_cases e3 : gh m (m (14 + 5 * i) 3) &&& 3 = 3
    · by_cases a2 : inA m i (m (14 + 5 * i) 3 + 2)
      · have A2 := may_A hI hi (Or.inr a2)
        refine x_map (x_full hk hI hB hl hi hs (gh m (m (14 + 5 * i) 3) ||| it_shl (gh m (m (14 + 5 * i) 3 + 2)) 16)) (fun Φ h => ?_) (fun M hM Φ h => ?_)
        · unfold w_104
          refine cA hP ?_
          rw [bI_t a1]
          refine ⟨fun q => absurd q (by decide), fun _ => c_14 ⟨fun _ => cA hP ?_, fun q => absurd e3 q⟩⟩
          rw [bI_t a2]
          exact ⟨fun q => absurd q (by decide), fun _ => c_14 h⟩
        · unfold w_320
          rw [cI i8, hM.pc hi]
          refine ⟨vI i8, rx hM m1 ?_⟩
          rw [bI_t a1]
          refine ⟨fun q => absurd q (by decide), fun _ => r_219 hM A1.1 ev A1.2 ⟨fun _ => rx hM m2 ?_, fun q => absurd e3 q⟩⟩
          rw [bI_t a2]
          exact ⟨fun q => absurd q (by decide), fun _ => r_219 hM A2.1 ev2 A2.2 h⟩
      · refine x_flt hk hI hB hi 1 (m (14 + 5 * i) 3 + 2) (fun Φ h => ?_) (fun M hM Φ h => ?_)
        · unfold w_104
          refine cA hP ?_
          rw [bI_t a1]
          refine ⟨fun q => absurd q (by decide), fun _ => c_14 ⟨fun _ => cA hP ?_, fun q => absurd e3 q⟩⟩
          rw [bI_f a2]
          exact ⟨fun _ => h, fun q => absurd rfl q⟩
        · unfold w_320
          rw [cI i8, hM.pc hi]
          refine ⟨vI i8, rx hM m1 ?_⟩
          rw [bI_t a1]
          refine ⟨fun q => absurd q (by decide), fun _ => r_219 hM A1.1 ev A1.2 ⟨fun _ => rx hM m2 ?_, fun q => absurd e3 q⟩⟩
          rw [bI_f a2]
          exact ⟨fun _ => h, fun q => absurd rfl q⟩
    · obtain ⟨H, hH, eH⟩ := gh16 m (m (14 + 5 * i) 3)
      have h3 : H % 4 ≠ 3 := fun q => e3 (by
        have e : (nI H &&& 3).toInt = (nI H).toInt % 4 := andI _ 2 (by omega) rfl
        rw [nI_toInt (by omega)] at e
        rw [eH]
        refine Int32.toInt_inj.mp ?_
        rw [e]
        show _ = (3 : Int)
        omega)
      refine x_map (x_cmp hk hI hB hi h3 hH) (fun Φ h => ?_) (fun M hM Φ h => ?_)
      · unfold w_104
        refine cA hP ?_
        rw [bI_t a1]
        refine ⟨fun q => absurd q (by decide), fun _ => c_14 ⟨fun q => absurd q e3, fun _ => c_22 ?_⟩⟩
        rw [eH]
        exact h
      · unfold w_320
        rw [cI i8, hM.pc hi]
        refine ⟨vI i8, rx hM m1 ?_⟩
        rw [bI_t a1]
        refine ⟨fun q => absurd q (by decide), fun _ => r_219 hM A1.1 ev A1.2 ⟨fun q => absurd q e3, fun _ => ?_⟩⟩
        rw [eH]
        exact h
  · refine x_flt hk hI hB hi 1 (m (14 + 5 * i) 3) (fun Φ h => ?_) (fun M hM Φ h => ?_)
    · unfold w_104
      refine cA hP ?_
      rw [bI_f a1]
      exact ⟨fun _ => h, fun q => absurd rfl q⟩
    · unfold w_320
      rw [cI i8, hM.pc hi]
      refine ⟨vI i8, rx hM m1 ?_⟩
      rw [bI_f a1]
      exact ⟨fun _ => h, fun q => absurd rfl q⟩
