/-! Drivers: sampler; the ticks of alarm and sampler; the buttons move. -/
theorem e4_16 (g : Int32) : g + nI 16 + 4 = g + nI 20 := by rw [Int32.add_assoc]; rfl
theorem e8_16 (g : Int32) : g + nI 16 + 8 = g + nI 24 := by rw [Int32.add_assoc]; rfl
theorem d_sampler {kc : it_Kc} (hk : KC kc) {B : Nat} {m : it_Me} (hI : Inv B m) (hB : B < 2147483000) {i : Nat} (hi : i < cnt m) (hg : m (14 + 5 * i + 4) 6 ≠ 0) (hs : ¬ (m (14 + 5 * i) 9 = 4 ∨ m (14 + 5 * i) 9 = 5)) (c v w : Int32) : Lv (w_63 kc (14 + 5 * i) c v w) (fun M Φ => w_269 kc (m (14 + 5 * i + 4) 6) 6 M (fun r12 m13 => w_304 kc (nI i) r12 c v w m13 Φ)) (B + 1) m (Kp m) := by
  have h8 := cnt_le hI
  have i8 : i < 8 := by omega
  have z : owA 6 = 16 ∧ gsz 6 = 28 ∧ sbN 6 = 1 := by decide
  have v01 : ∀ M Φ, (0 ≤ v.toInt ∧ v.toInt ≤ 1 → w_304_16 kc Φ (nI i) (m (14 + 5 * i + 4) 6 + nI 16) c v w 1 M) → (¬ (0 ≤ v.toInt ∧ v.toInt ≤ 1) → w_304_16 kc Φ (nI i) (m (14 + 5 * i + 4) 6 + nI 16) c v w 0 M) → w_304 kc (nI i) (m (14 + 5 * i + 4) 6 + nI 16) c v w M Φ := fun M Φ h1 h0 => by
    unfold w_304 w_304_11
    have z0 : (0 : Int32).toInt = 0 := rfl
    have z1 : (1 : Int32).toInt = 1 := rfl
    refine ⟨fun q => h1 (by rw [q, z0]; omega), fun q => ⟨fun q2 => h1 (by rw [q2, z1]; omega), fun q2 => h0 (fun y => ?_)⟩⟩
    have n0 : v.toInt ≠ 0 := fun y => q (Int32.toInt_inj.mp y)
    have n1 : v.toInt ≠ 1 := fun y => q2 (Int32.toInt_inj.mp y)
    omega
  by_cases a3 : c = 3
  · obtain ⟨m', c1, c2, c3, c4, c5⟩ := ae (kc := kc) hI hi (d := 6) (k := 16) (by omega) (by omega) hg (by omega)
    refine ⟨m', fun Φ h => ?_, c2.mono (by omega), c3, c4, fun M hM Φ h => r_269 (d := 6) (by omega) (v01 M Φ (fun _ => ?_) (fun _ => ?_))⟩
    · unfold w_63
      exact c_90 hk (d := 6) (by omega) ⟨fun _ => c1 _ h, fun q => absurd a3 q⟩
    · unfold w_304_16
      exact ⟨fun _ => c5 M hM _ h, fun q => absurd a3 q⟩
    · unfold w_304_16
      exact ⟨fun _ => c5 M hM _ h, fun q => absurd a3 q⟩
  have cls : ∀ Φ, (0 ≤ v.toInt ∧ v.toInt ≤ 1 → (c = 2 → (w < 1 → w_63_54 kc Φ (14 + 5 * i) m) ∧ (¬ w < 1 → (w ≤ 100000 → w_63_63 kc Φ (14 + 5 * i) c v w (m (14 + 5 * i + 4) 6 + nI 16) m) ∧ (¬ w ≤ 100000 → w_63_54 kc Φ (14 + 5 * i) m))) ∧ (¬ c = 2 → w_63_63 kc Φ (14 + 5 * i) c v w (m (14 + 5 * i + 4) 6 + nI 16) m)) → (¬ (0 ≤ v.toInt ∧ v.toInt ≤ 1) → w_63_54 kc Φ (14 + 5 * i) m) → w_63 kc (14 + 5 * i) c v w m Φ := fun Φ h1 h0 => by
    unfold w_63
    have z0 : (0 : Int32).toInt = 0 := rfl
    have z1 : (1 : Int32).toInt = 1 := rfl
    refine c_90 hk (d := 6) (by omega) ⟨fun q => absurd q a3, fun _ => ⟨fun q => h0 ?_, fun q => ⟨fun q2 => h0 ?_, fun q2 => h1 ?_⟩⟩⟩
    · rw [Int32.lt_iff_toInt_lt] at q; omega
    · rw [Int32.lt_iff_toInt_lt] at q2; omega
    · rw [Int32.lt_iff_toInt_lt] at q q2; omega
  have bad : Lv (fun m Φ => w_63_54 kc Φ (14 + 5 * i) m) (fun M Φ => w_304_78 kc Φ (nI i) M) B m (Kp m) := lv_fail (kc := kc) hI hi 6
  by_cases hv : 0 ≤ v.toInt ∧ v.toInt ≤ 1
  · by_cases hw : c = 2 ∧ (w < 1 ∨ ¬ w ≤ 100000)
    · obtain ⟨m', c1, c2, c3, c4, c5⟩ := bad
      refine ⟨m', fun Φ h => cls Φ (fun _ => ⟨fun _ => ⟨fun _ => c1 Φ h, fun q => ⟨fun q2 => ?_, fun _ => c1 Φ h⟩⟩, fun q => absurd hw.1 q⟩) (fun q => absurd hv q), c2.mono (by omega), c3, c4, fun M hM Φ h => r_269 (d := 6) (by omega) (v01 M Φ (fun _ => ?_) (fun q => absurd hv q))⟩
      · rcases hw.2 with y | y
        · exact absurd y q
        · exact absurd q2 y
      · unfold w_304_16
        refine ⟨fun q => absurd q a3, fun _ => ⟨fun q => absurd q (by decide), fun _ => ⟨fun _ => ⟨fun _ => c5 M hM Φ h, fun q => ⟨fun q2 => ?_, fun _ => c5 M hM Φ h⟩⟩, fun q => absurd hw.1 q⟩⟩⟩
        rcases hw.2 with y | y
        · exact absurd y q
        · exact absurd q2 y
    · -- sound
      have clsS : ∀ Φ, w_63_63 kc Φ (14 + 5 * i) c v w (m (14 + 5 * i + 4) 6 + nI 16) m → w_63 kc (14 + 5 * i) c v w m Φ := fun Φ h => cls Φ (fun _ => ⟨fun q => ⟨fun q1 => absurd ⟨q, Or.inl q1⟩ hw, fun _ => ⟨fun _ => h, fun q2 => absurd ⟨q, Or.inr q2⟩ hw⟩⟩, fun _ => h⟩) (fun q => absurd hv q)
      have refS : ∀ M Φ, w_304_88 kc Φ (nI i) (m (14 + 5 * i + 4) 6 + nI 16) c v w M → w_269 kc (m (14 + 5 * i + 4) 6) 6 M (fun r12 m13 => w_304 kc (nI i) r12 c v w m13 Φ) := fun M Φ h => r_269 (d := 6) (by omega) (v01 M Φ (fun _ => by
        unfold w_304_16
        exact ⟨fun q => absurd q a3, fun _ => ⟨fun q => absurd q (by decide), fun _ => ⟨fun q => ⟨fun q1 => absurd ⟨q, Or.inl q1⟩ hw, fun _ => ⟨fun _ => h, fun q2 => absurd ⟨q, Or.inr q2⟩ hw⟩⟩, fun _ => h⟩⟩⟩) (fun q => absurd hv q))
      obtain ⟨n, hn, en⟩ := numN (k := 2) (by omega) (x := v) (by omega)
      subst en
      have v2 : vp_in (nI n) 2 := by rw [vp_in_iff, nI_toInt (by omega)]; omega
      by_cases a1 : c = 1
      · obtain ⟨m1, c1, c2, c3, c4, c5⟩ := lv_ok (kc := kc) hI hi
        have hi1 : i < cnt m1 := by rw [cnt_cg (by rw [c4.2.1])]; exact hi
        obtain ⟨m', d1, d2, d3, d4, d5⟩ := sd hk c2 hB (i := i) (d := 6) (n := 0) hi1 (by omega) (by omega) (nI n) (m1 60 n) 1
        refine ⟨m', fun Φ h => clsS Φ ?_, d2, c3.trans d3, c4.trans d4, fun M hM Φ h => refS M Φ ?_⟩
        · unfold w_63_63
          refine ⟨fun _ => c1 _ ⟨v2, ?_⟩, fun q => absurd a1 q⟩
          rw [nI_clamp (by omega)]
          exact d1 _ h
        · unfold w_304_88
          refine ⟨fun _ => c5 M hM _ (fun M1 r1 f1 => ⟨v2, ?_⟩), fun q => absurd a1 q⟩
          rw [nI_clamp (by omega), r1.lev n hn]
          exact d5 M1 r1 _ (fun M' r f => h M' r (f1.trans f))
      · by_cases y : gw m (m (14 + 5 * i + 4) 6 + nI 16) = 0
        · obtain ⟨b1, b2, b3⟩ := lv_w (kc := kc) hI hi (d := 6) (k := 16) (by omega) (by omega) hg (by omega) (v := 1 + nI n) (fun q => absurd q hs) (fun _ _ => by
            have := nI_toInt (n := n) (by omega)
            have z1 : (1 : Int32).toInt = 1 := rfl
            rw [add_I] <;> omega)
          have g1 : pw m (m (14 + 5 * i + 4) 6 + nI 16) (1 + nI n) (14 + 5 * i + 4) = m (14 + 5 * i + 4) := pw_c _ _ _ (by omega)
          have s1 : pw m (m (14 + 5 * i + 4) 6 + nI 16) (1 + nI n) (14 + 5 * i) = m (14 + 5 * i) := pw_c _ _ _ (by omega)
          obtain ⟨d1, d2, d3⟩ := lv_w (kc := kc) b1 (i := i) (d := 6) (k := 20) (by rw [cnt_pw]; exact hi) (by omega) (by omega) (by rw [g1]; exact hg) (by omega) (v := w) (fun q => by rw [s1] at q; exact absurd q hs) (fun _ e => absurd e (by omega))
          rw [g1] at d1 d2 d3
          have g2 : pw (pw m (m (14 + 5 * i + 4) 6 + nI 16) (1 + nI n)) (m (14 + 5 * i + 4) 6 + nI 20) w (14 + 5 * i + 4) = m (14 + 5 * i + 4) := by rw [pw_c _ _ _ (by omega), g1]
          have s2 : pw (pw m (m (14 + 5 * i + 4) 6 + nI 16) (1 + nI n)) (m (14 + 5 * i + 4) 6 + nI 20) w (14 + 5 * i) = m (14 + 5 * i) := by rw [pw_c _ _ _ (by omega), s1]
          have t2 : pw (pw m (m (14 + 5 * i + 4) 6 + nI 16) (1 + nI n)) (m (14 + 5 * i + 4) 6 + nI 20) w 4 0 = m 4 0 := by rw [pw_c _ _ _ (by omega), pw_c _ _ _ (by omega)]
          obtain ⟨f1, f2, f3⟩ := lv_w (kc := kc) d1 (i := i) (d := 6) (k := 24) (by rw [cnt_pw, cnt_pw]; exact hi) (by omega) (by omega) (by rw [g2]; exact hg) (by omega) (v := m 4 0 + w) (fun q => by rw [s2] at q; exact absurd q hs) (fun _ e => absurd e (by omega))
          rw [g2] at f1 f2 f3
          obtain ⟨m', c1, c2, c3, c4, c5⟩ := lv_ok (kc := kc) f1 (i := i) (by rw [cnt_pw, cnt_pw, cnt_pw]; exact hi)
          refine ⟨m', fun Φ h => clsS Φ ?_, c2.mono (by omega), FrC.trans (((FrC.rfl.pwF _ _).pwF _ _).pwF _ _) c3, (((Kp.rfl.pwK _ _).pwK _ _).pwK _ _).trans c4, fun M hM Φ h => refS M Φ ?_⟩
          · unfold w_63_63
            rw [e4_16, e8_16]
            refine ⟨fun q => absurd q a1, fun _ => c_12 ⟨fun _ => b2 _ (d2 _ ?_), fun q => absurd y q⟩⟩
            rw [t2]
            exact f2 _ (c1 _ h)
          · unfold w_304_88
            rw [e4_16, e8_16]
            have R1 := b3 M hM
            have R2 := d3 _ R1.1
            have R3 := f3 _ R2.1
            refine ⟨fun q => absurd q a1, fun _ => r_220g hI hM hi (by omega) hg (by omega) (by omega) ⟨fun _ => R1.2 _ (R2.2 _ ?_), fun q => absurd y q⟩⟩
            rw [R2.1.time, t2]
            exact R3.2 _ (c5 _ R3.1 _ (fun M' r f => h M' r (FrM.trans (((FrM.rfl.pwF _ _).pwF _ _).pwF _ _) f)))
        · obtain ⟨m', c1, c2, c3, c4, c5⟩ := lv_fail (kc := kc) hI hi 2
          refine ⟨m', fun Φ h => clsS Φ ?_, c2.mono (by omega), c3, c4, fun M hM Φ h => refS M Φ ?_⟩
          · unfold w_63_63
            exact ⟨fun q => absurd q a1, fun _ => c_12 ⟨fun q => absurd q y, fun _ => c1 _ h⟩⟩
          · unfold w_304_88
            exact ⟨fun q => absurd q a1, fun _ => r_220g hI hM hi (by omega) hg (by omega) (by omega) ⟨fun q => absurd q y, fun _ => c5 M hM _ h⟩⟩
  · obtain ⟨m', c1, c2, c3, c4, c5⟩ := bad
    refine ⟨m', fun Φ h => cls Φ (fun q => absurd q hv) (fun _ => c1 Φ h), c2.mono (by omega), c3, c4, fun M hM Φ h => r_269 (d := 6) (by omega) (v01 M Φ (fun q => absurd q hv) (fun _ => ?_))⟩
    unfold w_304_16
    exact ⟨fun q => absurd q a3, fun _ => ⟨fun _ => c5 M hM Φ h, fun q => absurd rfl q⟩⟩
/-- the alarm of one process in a tick -/
theorem rgA {kc : it_Kc} (hk : KC kc) {B : Nat} {m : it_Me} (hI : Inv B m) (hB : B < 2147483000) {i : Nat} (hi : i < cnt m) : ∃ m', (∀ C : it_Me → Prop, C m' → (m (14 + 5 * i + 4) 0 = 0 → C m) ∧ (¬ m (14 + 5 * i + 4) 0 = 0 → w_90 kc (14 + 5 * i) 0 m (fun r1 m2 => w_41 kc (14 + 5 * i) r1 m2 (fun m3 => C m3)))) ∧ Inv (B + 1) m' ∧ FrC m m' ∧ Kp m m' ∧ ∀ M, Rel m M → ∀ (Φ : it_Me → Prop) K2 K113, (∀ M', Rel m' M' → FrM M M' → K2 (nI i + 1) M') → w_272 kc (nI i) 0 M (fun r1 m2 => (r1 = -1 → w_308_31 kc Φ K2 K113 (nI i) r1 0 m2) ∧ (¬ r1 = -1 → w_269 kc r1 0 m2 (fun r3 m4 => w_308_31 kc Φ K2 K113 (nI i) r1 r3 m4))) := by
  have h8 := cnt_le hI
  have i8 : i < 8 := by omega
  have hP := hI.p hi
  have z : owA 0 = 16 ∧ gsz 0 = 28 ∧ sbN 0 = 1 := by decide
  by_cases hg : m (14 + 5 * i + 4) 0 = 0
  · refine ⟨m, fun C h => ⟨fun _ => h, fun q => absurd hg q⟩, hI.mono (by omega), FrC.rfl, Kp.rfl, fun M hM Φ K2 K113 h => r_272 hI hM hi (d := 0) (by omega) ?_⟩
    rw [if_pos hg]
    unfold w_308_31 w_308_107
    exact ⟨fun _ => ⟨fun _ => h M hM FrM.rfl, fun q => absurd rfl q⟩, fun q => absurd rfl q⟩
  have n1 := gN1 hP (d := 0) (by omega) hg
  have fin : ∀ M, Rel m M → ∀ (Φ : it_Me → Prop) K2 K113, (w_220 kc (m (14 + 5 * i + 4) 0 + nI 16) M (fun r1 m2 => (r1 = 1 → w_220 kc (m (14 + 5 * i + 4) 0 + nI 20) m2 (fun r3 m4 => w_220 kc (m (14 + 5 * i + 4) 0 + nI 24) m4 (fun r5 m6 => w_247 kc ((m2 66 6) - r3) r5 m6 (fun r7 m8 => (r7 = 0 → w_221 kc (m (14 + 5 * i + 4) 0 + nI 16) 0 m8 (fun m9 => w_220 kc (m (14 + 5 * i + 4) 0 + nI 20) m9 (fun r10 m11 => w_220 kc (m (14 + 5 * i + 4) 0 + nI 24) m11 (fun r12 m13 => w_274 kc (nI i) 0 0 (m9 66 6) (r10 + r12) 0 m13 (fun m14 => K2 (nI i + 1) m14))))) ∧ (¬ r7 = 0 → K2 (nI i + 1) m8))))) ∧ (¬ r1 = 1 → K2 (nI i + 1) m2))) → w_272 kc (nI i) 0 M (fun r1 m2 => (r1 = -1 → w_308_31 kc Φ K2 K113 (nI i) r1 0 m2) ∧ (¬ r1 = -1 → w_269 kc r1 0 m2 (fun r3 m4 => w_308_31 kc Φ K2 K113 (nI i) r1 r3 m4))) := fun M hM Φ K2 K113 h => by
    refine r_272 hI hM hi (d := 0) (by omega) ?_
    rw [if_neg hg]
    refine ⟨fun q => absurd q n1, fun _ => r_269 (d := 0) (by omega) ?_⟩
    unfold w_308_31 w_308_107
    rw [show owA 0 = 16 from rfl, e4_16, e8_16]
    exact ⟨fun q => absurd q n1, fun _ => h⟩
  have cls : ∀ C : it_Me → Prop, (gw m (m (14 + 5 * i + 4) 0 + nI 16) = 1 → (ult (m 4 0 - gw m (m (14 + 5 * i + 4) 0 + nI 20)) (gw m (m (14 + 5 * i + 4) 0 + nI 24)) → C m) ∧ (¬ ult (m 4 0 - gw m (m (14 + 5 * i + 4) 0 + nI 20)) (gw m (m (14 + 5 * i + 4) 0 + nI 24)) → w_13 kc (m (14 + 5 * i + 4) 0 + nI 16) 0 m (fun m9 => w_80 kc (14 + 5 * i) 0 0 (m9 4 0) (gw m (m (14 + 5 * i + 4) 0 + nI 20) + gw m (m (14 + 5 * i + 4) 0 + nI 24)) 0 m9 C))) → (¬ gw m (m (14 + 5 * i + 4) 0 + nI 16) = 1 → C m) → (m (14 + 5 * i + 4) 0 = 0 → C m) ∧ (¬ m (14 + 5 * i + 4) 0 = 0 → w_90 kc (14 + 5 * i) 0 m (fun r1 m2 => w_41 kc (14 + 5 * i) r1 m2 (fun m3 => C m3))) := fun C h1 h0 => by
    refine ⟨fun q => absurd q hg, fun _ => c_90 hk (d := 0) (by omega) ?_⟩
    unfold w_41 w_41_84
    rw [show owA 0 = 16 from rfl, e4_16, e8_16]
    refine c_12 (c_12 (c_12 ⟨fun q => c_213 ?_, fun q => h0 q⟩))
    by_cases y : ult (m 4 0 - gw m (m (14 + 5 * i + 4) 0 + nI 20)) (gw m (m (14 + 5 * i + 4) 0 + nI 24))
    · rw [bI_t y]
      exact ⟨fun e => absurd e (by decide), fun _ => (h1 q).1 y⟩
    · rw [bI_f y]
      exact ⟨fun _ => (h1 q).2 y, fun e => absurd rfl e⟩
  by_cases w0 : gw m (m (14 + 5 * i + 4) 0 + nI 16) = 1
  · by_cases y : ult (m 4 0 - gw m (m (14 + 5 * i + 4) 0 + nI 20)) (gw m (m (14 + 5 * i + 4) 0 + nI 24))
    · refine ⟨m, fun C h => cls C (fun _ => ⟨fun _ => h, fun q => absurd y q⟩) (fun q => absurd w0 q), hI.mono (by omega), FrC.rfl, Kp.rfl, fun M hM Φ K2 K113 h => fin M hM Φ K2 K113 (r_220g hI hM hi (by omega) hg (by omega) (by omega) ⟨fun _ => r_220g hI hM hi (by omega) hg (by omega) (by omega) (r_220g hI hM hi (by omega) hg (by omega) (by omega) (r_247 ?_)), fun q => absurd w0 q⟩)⟩
      rw [hM.time, bI_t y]
      exact ⟨fun e => absurd e (by decide), fun _ => h M hM FrM.rfl⟩
    · obtain ⟨b1, b2, b3⟩ := lv_w (kc := kc) hI hi (d := 0) (k := 16) (by omega) (by omega) hg (by omega) (v := 0) (fun _ => rfl) (fun e => absurd e (by omega))
      have hi1 : i < cnt (pw m (m (14 + 5 * i + 4) 0 + nI 16) 0) := by rw [cnt_pw]; exact hi
      have g1 : pw m (m (14 + 5 * i + 4) 0 + nI 16) 0 (14 + 5 * i + 4) = m (14 + 5 * i + 4) := pw_c _ _ _ (by omega)
      have t1 : pw m (m (14 + 5 * i + 4) 0 + nI 16) 0 4 0 = m 4 0 := by rw [pw_c _ _ _ (by omega)]
      have r20 := gw_gr hI hi (d := 0) (k := 16) (by omega) hg (by omega) (by omega) 0 (k' := 20) (by omega) (by omega)
      have r24 := gw_gr hI hi (d := 0) (k := 16) (by omega) hg (by omega) (by omega) 0 (k' := 24) (by omega) (by omega)
      rw [if_neg (by omega)] at r20 r24
      obtain ⟨m', d1, d2, d3, d4, d5⟩ := sd hk b1 hB (i := i) (d := 0) (n := 0) hi1 (by omega) (by omega) (m 4 0) (gw m (m (14 + 5 * i + 4) 0 + nI 20) + gw m (m (14 + 5 * i + 4) 0 + nI 24)) 0
      refine ⟨m', fun C h => cls C (fun _ => ⟨fun q => absurd q y, fun _ => b2 _ ?_⟩) (fun q => absurd w0 q), d2, FrC.trans (FrC.rfl.pwF _ _) d3, (Kp.rfl.pwK _ _).trans d4, fun M hM Φ K2 K113 h => fin M hM Φ K2 K113 (r_220g hI hM hi (by omega) hg (by omega) (by omega) ⟨fun _ => r_220g hI hM hi (by omega) hg (by omega) (by omega) (r_220g hI hM hi (by omega) hg (by omega) (by omega) (r_247 ?_)), fun q => absurd w0 q⟩)⟩
      · rw [t1]
        exact d1 _ h
      · rw [hM.time, bI_f y]
        have R1 := b3 M hM
        refine ⟨fun _ => R1.2 _ (r_220h b1 R1.1 hi1 (d := 0) (k := 20) (by omega) (by rw [g1]; exact hg) (by omega) (by omega) (by rw [g1]) (r_220h b1 R1.1 hi1 (d := 0) (k := 24) (by omega) (by rw [g1]; exact hg) (by omega) (by omega) (by rw [g1]) ?_)), fun e => absurd rfl e⟩
        rw [r20, r24, R1.1.time, t1]
        exact d5 _ R1.1 _ (fun M' r f => h M' r (FrM.trans (FrM.rfl.pwF _ _) f))
  · exact ⟨m, fun C h => cls C (fun q => absurd q w0) (fun _ => h), hI.mono (by omega), FrC.rfl, Kp.rfl, fun M hM Φ K2 K113 h => fin M hM Φ K2 K113 (r_220g hI hM hi (by omega) hg (by omega) (by omega) ⟨fun q => absurd q w0, fun _ => h M hM FrM.rfl⟩)⟩
theorem Kp.cnt {m m' : it_Me} (h : Kp m m') : cnt m' = cnt m := cnt_cg (by rw [h.2.1])
theorem v9_0 : vp_in 0 9 := by rw [vp_in_iff]; decide
theorem v9_6 : vp_in 6 9 := by rw [vp_in_iff]; decide
theorem tkA {kc : it_Kc} (hk : KC kc) : ∀ (r k : Nat) {B : Nat} (m : it_Me), Inv B m → k + r = cnt m → B + r < 2147483000 → ∃ m', (∀ (Φ K : it_Me → Prop), K m' → w_40_2 kc Φ K (r + 1) (nI k) m) ∧ Inv (B + r) m' ∧ FrC m m' ∧ Kp m m' ∧ ∀ M, Rel m M → ∀ (Φ K : it_Me → Prop), (∀ M', Rel m' M' → FrM M M' → K M') → w_308_2 kc Φ K (r + 1) (nI k) M := by
  intro r
  induction r with
  | zero =>
    intro k B m hI hc hB
    have h8 := cnt_le hI
    have hce := cnt_eq hI
    have le : m 9 7 ≤ nI k := by rw [Int32.le_iff_toInt_le, nI_toInt (by omega)]; omega
    refine ⟨m, fun Φ K h => ?_, hI, FrC.rfl, Kp.rfl, fun M hM Φ K h => ?_⟩
    · unfold w_40_2
      exact ⟨fun _ => h, fun q => absurd le q⟩
    · unfold w_308_2
      rw [hM.count]
      exact ⟨fun _ => h M hM FrM.rfl, fun q => absurd le q⟩
  | succ r ih =>
    intro k B m hI hc hB
    have h8 := cnt_le hI
    have hce := cnt_eq hI
    have nle : ¬ m 9 7 ≤ nI k := by rw [Int32.le_iff_toInt_le, nI_toInt (by omega)]; omega
    obtain ⟨m1, a1, a2, a3, a4, a5⟩ := rgA (kc := kc) hk hI (by omega) (i := k) (by omega)
    obtain ⟨m', b1, b2, b3, b4, b5⟩ := ih (k + 1) m1 a2 (by rw [a4.cnt]; omega) (by omega)
    refine ⟨m', fun Φ K h => ?_, b2.mono (by omega), a3.trans b3, a4.trans b4, fun M hM Φ K h => ?_⟩
    · unfold w_40_2 w_40_46
      rw [nI_clamp (by omega), cl_0]
      refine ⟨fun q => absurd q nle, fun _ => ⟨vI (by omega), v9_0, a1 _ ?_⟩⟩
      rw [nI_1]
      exact b1 Φ K h
    · unfold w_308_2
      rw [hM.count]
      refine ⟨fun q => absurd q nle, fun _ => a5 M hM Φ _ _ (fun M1 r1 f1 => ?_)⟩
      rw [nI_1]
      exact b5 M1 r1 Φ K (fun M' r2 f2 => h M' r2 (f1.trans f2))
/-- the sampler of one process in a tick -/
theorem rgS {kc : it_Kc} (hk : KC kc) {B : Nat} {m : it_Me} (hI : Inv B m) (hB : B < 2147483000) {i : Nat} (hi : i < cnt m) : ∃ m', (∀ C : it_Me → Prop, C m' → (m (14 + 5 * i + 4) 6 = 0 → C m) ∧ (¬ m (14 + 5 * i + 4) 6 = 0 → w_90 kc (14 + 5 * i) 6 m (fun r1 m2 => w_62 kc (14 + 5 * i) r1 m2 (fun m3 => C m3)))) ∧ Inv (B + 1) m' ∧ FrC m m' ∧ Kp m m' ∧ ∀ M, Rel m M → ∀ (Φ : it_Me → Prop) K2 K115, (∀ M', Rel m' M' → FrM M M' → K2 (nI i + 1) M') → w_272 kc (nI i) 6 M (fun r1 m2 => (r1 = -1 → w_311_33 kc Φ K2 K115 (nI i) r1 0 m2) ∧ (¬ r1 = -1 → w_269 kc r1 6 m2 (fun r3 m4 => w_311_33 kc Φ K2 K115 (nI i) r1 r3 m4))) := by
  have h8 := cnt_le hI
  have i8 : i < 8 := by omega
  have hP := hI.p hi
  have z : owA 6 = 16 ∧ gsz 6 = 28 ∧ sbN 6 = 1 := by decide
  by_cases hg : m (14 + 5 * i + 4) 6 = 0
  · refine ⟨m, fun C h => ⟨fun _ => h, fun q => absurd hg q⟩, hI.mono (by omega), FrC.rfl, Kp.rfl, fun M hM Φ K2 K113 h => r_272 hI hM hi (d := 6) (by omega) ?_⟩
    rw [if_pos hg]
    unfold w_311_33 w_311_109
    exact ⟨fun _ => ⟨fun _ => h M hM FrM.rfl, fun q => absurd rfl q⟩, fun q => absurd rfl q⟩
  have n1 := gN1 hP (d := 6) (by omega) hg
  have o6 : 0 ≤ (gw m (m (14 + 5 * i + 4) 6 + nI 16)).toInt ∧ (gw m (m (14 + 5 * i + 4) 6 + nI 16)).toInt ≤ 2 := hP.ow6 hg
  have z0 : (0 : Int32).toInt = 0 := rfl
  have z1 : (1 : Int32).toInt = 1 := rfl
  have es : (gw m (m (14 + 5 * i + 4) 6 + nI 16) - 1).toInt = (gw m (m (14 + 5 * i + 4) 6 + nI 16)).toInt - 1 := by rw [sub_I] <;> omega
  have fin : ∀ M, Rel m M → ∀ (Φ : it_Me → Prop) K2 K115, (gw m (m (14 + 5 * i + 4) 6 + nI 16) = 0 → K2 (nI i + 1) M) → (¬ gw m (m (14 + 5 * i + 4) 6 + nI 16) = 0 → ¬ gw m (m (14 + 5 * i + 4) 6 + nI 24) = m 4 0 → K2 (nI i + 1) M) → (¬ gw m (m (14 + 5 * i + 4) 6 + nI 16) = 0 → gw m (m (14 + 5 * i + 4) 6 + nI 24) = m 4 0 → w_221 kc (m (14 + 5 * i + 4) 6 + nI 24) (m 4 0 + gw m (m (14 + 5 * i + 4) 6 + nI 20)) M (fun m9 => vp_in (gw m (m (14 + 5 * i + 4) 6 + nI 16) - 1) 2 ∧ (w_274 kc (nI i) 6 0 (gw m (m (14 + 5 * i + 4) 6 + nI 16) - 1) (m9 73 (Int32.toNatClampNeg (gw m (m (14 + 5 * i + 4) 6 + nI 16) - 1))) 0 m9 (fun m10 => K2 (nI i + 1) m10)))) → w_272 kc (nI i) 6 M (fun r1 m2 => (r1 = -1 → w_311_33 kc Φ K2 K115 (nI i) r1 0 m2) ∧ (¬ r1 = -1 → w_269 kc r1 6 m2 (fun r3 m4 => w_311_33 kc Φ K2 K115 (nI i) r1 r3 m4))) := fun M hM Φ K2 K115 h1 h2 h3 => by
    refine r_272 hI hM hi (d := 6) (by omega) ?_
    rw [if_neg hg]
    refine ⟨fun q => absurd q n1, fun _ => r_269 (d := 6) (by omega) ?_⟩
    unfold w_311_33 w_311_109
    rw [show owA 6 = 16 from rfl, e4_16, e8_16]
    refine ⟨fun q => absurd q n1, fun _ => r_220g hI hM hi (by omega) hg (by omega) (by omega) ⟨fun q => h1 q, fun q => r_220g hI hM hi (by omega) hg (by omega) (by omega) ?_⟩⟩
    rw [hM.time]
    refine ⟨fun q2 => r_220g hI hM hi (by omega) hg (by omega) (by omega) (r_220g hI hM hi (by omega) hg (by omega) (by omega) ?_), fun q2 => h2 q q2⟩
    rw [hM.time]
    exact h3 q q2
  have cls : ∀ C : it_Me → Prop, (gw m (m (14 + 5 * i + 4) 6 + nI 16) = 0 → C m) → (¬ gw m (m (14 + 5 * i + 4) 6 + nI 16) = 0 → ¬ gw m (m (14 + 5 * i + 4) 6 + nI 24) = m 4 0 → C m) → (¬ gw m (m (14 + 5 * i + 4) 6 + nI 16) = 0 → gw m (m (14 + 5 * i + 4) 6 + nI 24) = m 4 0 → w_13 kc (m (14 + 5 * i + 4) 6 + nI 24) (m 4 0 + gw m (m (14 + 5 * i + 4) 6 + nI 20)) m (fun m7 => vp_in (gw m (m (14 + 5 * i + 4) 6 + nI 16) - 1) 2 ∧ w_80 kc (14 + 5 * i) 6 0 (gw m (m (14 + 5 * i + 4) 6 + nI 16) - 1) (m7 60 (Int32.toNatClampNeg (gw m (m (14 + 5 * i + 4) 6 + nI 16) - 1))) 0 m7 C)) → (m (14 + 5 * i + 4) 6 = 0 → C m) ∧ (¬ m (14 + 5 * i + 4) 6 = 0 → w_90 kc (14 + 5 * i) 6 m (fun r1 m2 => w_62 kc (14 + 5 * i) r1 m2 (fun m3 => C m3))) := fun C h1 h2 h3 => by
    refine ⟨fun q => absurd q hg, fun _ => c_90 hk (d := 6) (by omega) ?_⟩
    unfold w_62 w_62_89
    rw [show owA 6 = 16 from rfl, e4_16, e8_16]
    refine c_12 ⟨fun q => h1 ?_, fun q => ⟨fun q2 => ?_, fun q2 => c_12 ?_⟩⟩
    · rw [Int32.lt_iff_toInt_lt, es] at q
      exact Int32.toInt_inj.mp (by omega)
    · exfalso; rw [Int32.lt_iff_toInt_lt, es] at q2; omega
    · have ne : ¬ gw m (m (14 + 5 * i + 4) 6 + nI 16) = 0 := fun y => by
        rw [Int32.lt_iff_toInt_lt, es, y] at q
        omega
      exact ⟨fun q3 => c_12 (h3 ne q3), fun q3 => h2 ne q3⟩
  by_cases w0 : gw m (m (14 + 5 * i + 4) 6 + nI 16) = 0
  · exact ⟨m, fun C h => cls C (fun _ => h) (fun q => absurd w0 q) (fun q => absurd w0 q), hI.mono (by omega), FrC.rfl, Kp.rfl, fun M hM Φ K2 K115 h => fin M hM Φ K2 K115 (fun _ => h M hM FrM.rfl) (fun q => absurd w0 q) (fun q => absurd w0 q)⟩
  by_cases w1 : gw m (m (14 + 5 * i + 4) 6 + nI 24) = m 4 0
  · have hs : ¬ (m (14 + 5 * i) 9 = 4 ∨ m (14 + 5 * i) 9 = 5) := fun q => w0 ((hP.ovr q).2 6 (by omega) hg 0 (by decide))
    obtain ⟨b1, b2, b3⟩ := lv_w (kc := kc) hI hi (d := 6) (k := 24) (by omega) (by omega) hg (by omega) (v := m 4 0 + gw m (m (14 + 5 * i + 4) 6 + nI 20)) (fun q => absurd q hs) (fun _ e => absurd e (by omega))
    have hi1 : i < cnt (pw m (m (14 + 5 * i + 4) 6 + nI 24) (m 4 0 + gw m (m (14 + 5 * i + 4) 6 + nI 20))) := by rw [cnt_pw]; exact hi
    have n0 : (gw m (m (14 + 5 * i + 4) 6 + nI 16)).toInt ≠ 0 := fun y => w0 (Int32.toInt_inj.mp y)
    obtain ⟨n, hn, en⟩ := numN (k := 2) (by omega) (x := gw m (m (14 + 5 * i + 4) 6 + nI 16) - 1) (by omega)
    have v2 : vp_in (nI n) 2 := by rw [vp_in_iff, nI_toInt (by omega)]; omega
    rw [en] at fin cls
    rw [nI_clamp (by omega)] at fin cls
    have l1 : pw m (m (14 + 5 * i + 4) 6 + nI 24) (m 4 0 + gw m (m (14 + 5 * i + 4) 6 + nI 20)) 60 n = m 60 n := by rw [pw_c _ _ _ (by omega)]
    obtain ⟨m', d1, d2, d3, d4, d5⟩ := sd hk b1 hB (i := i) (d := 6) (n := 0) hi1 (by omega) (by omega) (nI n) (m 60 n) 0
    refine ⟨m', fun C h => cls C (fun q => absurd q w0) (fun _ q => absurd w1 q) (fun _ _ => b2 _ ⟨v2, ?_⟩), d2, FrC.trans (FrC.rfl.pwF _ _) d3, (Kp.rfl.pwK _ _).trans d4, fun M hM Φ K2 K115 h => fin M hM Φ K2 K115 (fun q => absurd q w0) (fun _ q => absurd w1 q) (fun _ _ => ?_)⟩
    · rw [l1]
      exact d1 _ h
    · have R1 := b3 M hM
      refine R1.2 _ ⟨v2, ?_⟩
      rw [R1.1.lev n hn, l1]
      exact d5 _ R1.1 _ (fun M' r f => h M' r (FrM.trans (FrM.rfl.pwF _ _) f))
  · exact ⟨m, fun C h => cls C (fun q => absurd q w0) (fun _ _ => h) (fun _ q => absurd q w1), hI.mono (by omega), FrC.rfl, Kp.rfl, fun M hM Φ K2 K115 h => fin M hM Φ K2 K115 (fun q => absurd q w0) (fun _ _ => h M hM FrM.rfl) (fun _ q => absurd q w1)⟩
theorem tkS {kc : it_Kc} (hk : KC kc) : ∀ (r k : Nat) {B : Nat} (m : it_Me), Inv B m → k + r = cnt m → B + r < 2147483000 → ∃ m', (∀ (Φ K : it_Me → Prop), K m' → w_61_2 kc Φ K (r + 1) (nI k) m) ∧ Inv (B + r) m' ∧ FrC m m' ∧ Kp m m' ∧ ∀ M, Rel m M → ∀ (Φ K : it_Me → Prop), (∀ M', Rel m' M' → FrM M M' → K M') → w_311_2 kc Φ K (r + 1) (nI k) M := by
  intro r
  induction r with
  | zero =>
    intro k B m hI hc hB
    have h8 := cnt_le hI
    have hce := cnt_eq hI
    have le : m 9 7 ≤ nI k := by rw [Int32.le_iff_toInt_le, nI_toInt (by omega)]; omega
    refine ⟨m, fun Φ K h => ?_, hI, FrC.rfl, Kp.rfl, fun M hM Φ K h => ?_⟩
    · unfold w_61_2
      exact ⟨fun _ => h, fun q => absurd le q⟩
    · unfold w_311_2
      rw [hM.count]
      exact ⟨fun _ => h M hM FrM.rfl, fun q => absurd le q⟩
  | succ r ih =>
    intro k B m hI hc hB
    have h8 := cnt_le hI
    have hce := cnt_eq hI
    have nle : ¬ m 9 7 ≤ nI k := by rw [Int32.le_iff_toInt_le, nI_toInt (by omega)]; omega
    obtain ⟨m1, a1, a2, a3, a4, a5⟩ := rgS (kc := kc) hk hI (by omega) (i := k) (by omega)
    obtain ⟨m', b1, b2, b3, b4, b5⟩ := ih (k + 1) m1 a2 (by rw [a4.cnt]; omega) (by omega)
    refine ⟨m', fun Φ K h => ?_, b2.mono (by omega), a3.trans b3, a4.trans b4, fun M hM Φ K h => ?_⟩
    · unfold w_61_2 w_61_48
      rw [nI_clamp (by omega), cl_6]
      refine ⟨fun q => absurd q nle, fun _ => ⟨vI (by omega), v9_6, a1 _ ?_⟩⟩
      rw [nI_1]
      exact b1 Φ K h
    · unfold w_311_2
      rw [hM.count]
      refine ⟨fun q => absurd q nle, fun _ => a5 M hM Φ _ _ (fun M1 r1 f1 => ?_)⟩
      rw [nI_1]
      exact b5 M1 r1 Φ K (fun M' r2 f2 => h M' r2 (f1.trans f2))
