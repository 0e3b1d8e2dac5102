/-! Drivers: a byte typed, a button pressed, random bytes. -/
theorem pb_gw {B : Nat} {m : it_Me} (hI : Inv B m) {i d k : Nat} (hi : i < cnt m) (hd : d < 9) (hg : m (14 + 5 * i + 4) d ≠ 0) (hk : k < gsz d) {a : Int32} (ha : (m (14 + 5 * i) 5).toInt ≤ a.toInt ∧ a.toInt < (m (14 + 5 * i) 7).toInt) (v : Int32) : gw (pb m a v) (m (14 + 5 * i + 4) d + nI k) = gw m (m (14 + 5 * i + 4) d + nI k) := by
  have hP := hI.p hi
  have g := hP.gI hd hg
  have o := hP.ord
  have s := hP.szI
  have cl := hP.ctlI
  have aX := gadr hI hi hd hg hk
  have hA : InM a := ⟨by omega, by omega⟩
  have w1 := wi_eq aX.2.1
  have w2 := wi_eq hA
  rw [gw_in aX.2.1, gw_in aX.2.1, pb_in hA, sv_ne _ _ _ _ (Or.inr (by omega))]
theorem a_type {kc : it_Kc} (hk : KC kc) {B : Nat} {m : it_Me} (hI : Inv B m) (hB : B + 1 < 2147483000) (hl : m 7 4 = 0) (b : Int32) : Lk (w_195 kc b) (w_343 kc b) (B + 1) m := by
  have h8 := cnt_le hI
  have z : owA 1 = 64 ∧ gsz 1 = 80 ∧ sbN 1 = 3 ∧ rbN 1 = 2 ∧ wbN 1 = 2 := by decide
  have hI' : Inv (B + 1) m := hI.mono (by omega)
  by_cases hon : m 0 10 = 0
  · refine Lk.ro hI' hl (-3) (fun Φ hp => ?_) (fun M hM Φ hp => ?_)
    · unfold w_195
      exact ⟨fun _ => hp, fun h => absurd hon h⟩
    · unfold w_343
      rw [hM.on]
      exact ⟨fun _ => hp, fun h => absurd hon h⟩
  by_cases hb' : ¬ (¬ b < 0 ∧ b ≤ 255)
  · refine Lk.ro hI' hl (-2) (fun Φ hp => ?_) (fun M hM Φ hp => ?_)
    · unfold w_195 w_195_21
      exact ⟨fun h => absurd h hon, fun _ => ⟨fun _ => hp, fun q => ⟨fun q2 => absurd ⟨q, q2⟩ hb', fun _ => hp⟩⟩⟩
    · unfold w_343 w_343_21
      rw [hM.on]
      exact ⟨fun h => absurd h hon, fun _ => ⟨fun _ => hp, fun q => ⟨fun q2 => absurd ⟨q, q2⟩ hb', fun _ => hp⟩⟩⟩
  have hb : ¬ b < 0 ∧ b ≤ 255 := Classical.byContradiction hb'
  have cls0 : ∀ Φ : Int32 → it_Me → Prop, w_50 kc b m (fun r1 m2 => (r1 = 0 → w_195_40 kc Φ 0 m2) ∧ (¬ r1 = 0 → w_195_40 kc Φ 1 m2)) → w_195 kc b m Φ := fun Φ h => by
    unfold w_195
    exact ⟨fun h => absurd h hon, fun _ => ⟨fun q => absurd q hb.1, fun _ => ⟨fun _ => h, fun q => absurd hb.2 q⟩⟩⟩
  obtain ⟨o, a1, a2, a3⟩ := faR (kc := kc) hk hI (cnt m) 0 none (by omega) (fun j hj => by cases hj)
  cases ho : o with
  | none =>
    rw [ho] at a2 a3
    refine Lk.ro hI' hl 0 (fun Φ h => cls0 Φ ?_) (fun M hM Φ h => ?_)
    · unfold w_50
      refine ⟨_, a2 _ _ ?_⟩
      exact cm_none ⟨fun _ => h, fun q => absurd rfl q⟩
    · unfold w_343
      rw [hM.on]
      refine ⟨fun q => absurd q hon, fun _ => ⟨fun q => absurd q hb.1, fun _ => ⟨fun _ => ⟨_, a3 M hM _ _ ?_⟩, fun q => absurd hb.2 q⟩⟩⟩
      unfold w_309_112
      exact ⟨fun _ => h, fun q => absurd rfl q⟩
  | some i =>
    rw [ho] at a2 a3
    obtain ⟨hi, hu⟩ := a1 i ho
    have i8 : i < 8 := by omega
    have hP := hI.p hi
    have hg : m (14 + 5 * i + 4) 1 ≠ 0 := hu.1
    have hs := und_1R hP hu
    have o76 : 0 ≤ (gw m (m (14 + 5 * i + 4) 1 + nI 76)).toInt ∧ (gw m (m (14 + 5 * i + 4) 1 + nI 76)).toInt ≤ 65536 := hP.ow1 hg 3 (by omega)
    have cls : ∀ Φ : Int32 → it_Me → Prop, (gw m (m (14 + 5 * i + 4) 1 + nI 76) < gw m (m (14 + 5 * i + 4) 1 + nI 60) → w_50_74 kc (fun r1 m2 => (r1 = 0 → w_195_40 kc Φ 0 m2) ∧ (¬ r1 = 0 → w_195_40 kc Φ 1 m2)) b (14 + 5 * i) (m (14 + 5 * i + 4) 1 + nI 72) (m (14 + 5 * i + 4) 1 + nI 56) (gw m (m (14 + 5 * i + 4) 1 + nI 76)) 1 m) → (¬ gw m (m (14 + 5 * i + 4) 1 + nI 76) < gw m (m (14 + 5 * i + 4) 1 + nI 60) → w_50_74 kc (fun r1 m2 => (r1 = 0 → w_195_40 kc Φ 0 m2) ∧ (¬ r1 = 0 → w_195_40 kc Φ 1 m2)) b (14 + 5 * i) (m (14 + 5 * i + 4) 1 + nI 72) (m (14 + 5 * i + 4) 1 + nI 56) (gw m (m (14 + 5 * i + 4) 1 + nI 76)) 0 m) → w_195 kc b m Φ := fun Φ h1 h0 => cls0 Φ (by
      unfold w_50
      refine ⟨_, a2 _ _ ?_⟩
      refine cm_some ?_
      refine c_90 hk (d := 1) (by omega) (c_89 hk (d := 1) (n := 1) (by omega) (c_12 (c_12 ?_)))
      rw [show owA 1 = 64 from rfl, n8_64, n4_72, ga4]
      refine ⟨fun q => h0 ?_, fun q => h1 ?_⟩
      · rw [Int32.not_lt]; exact q
      · rw [Int32.not_le] at q; exact q)
    have ref : ∀ M, Rel m M → ∀ Φ : Int32 → it_Me → Prop, (gw m (m (14 + 5 * i + 4) 1 + nI 76) < gw m (m (14 + 5 * i + 4) 1 + nI 60) → w_343_86 kc Φ b (nI i) (m (14 + 5 * i + 4) 1) (m (14 + 5 * i + 4) 1 + nI 72) (gw m (m (14 + 5 * i + 4) 1 + nI 76)) 1 M) → (¬ gw m (m (14 + 5 * i + 4) 1 + nI 76) < gw m (m (14 + 5 * i + 4) 1 + nI 60) → w_343_86 kc Φ b (nI i) (m (14 + 5 * i + 4) 1) (m (14 + 5 * i + 4) 1 + nI 72) (gw m (m (14 + 5 * i + 4) 1 + nI 76)) 0 M) → w_343 kc b M Φ := fun M hM Φ h1 h0 => by
      unfold w_343
      rw [hM.on]
      refine ⟨fun q => absurd q hon, fun _ => ⟨fun q => absurd q hb.1, fun _ => ⟨fun _ => ⟨_, a3 M hM _ _ ?_⟩, fun q => absurd hb.2 q⟩⟩⟩
      unfold w_309_112
      refine ⟨fun q => absurd q (enc_n1 i8), fun _ => r_272 hI hM hi (d := 1) (by omega) ?_⟩
      rw [if_neg hg]
      refine r_269 (d := 1) (by omega) ?_
      rw [show owA 1 = 64 from rfl, n8_64, n4_72]
      refine r_220g hI hM hi (by omega) hg (by omega) (by omega) (r_271 (d := 1) (k := 1) (by omega) ?_)
      rw [ga4]
      refine r_220g hI hM hi (d := 1) (k := 60) (by omega) hg (by omega) (by omega) ⟨fun q => h0 ?_, fun q => h1 ?_⟩
      · rw [Int32.not_lt]; exact q
      · rw [Int32.not_le] at q; exact q
    by_cases hw : gw m (m (14 + 5 * i + 4) 1 + nI 76) < gw m (m (14 + 5 * i + 4) 1 + nI 60)
    · have hw' := Int32.lt_iff_toInt_lt.mp hw
      have bb := bfB hI hi (d := 1) (k := 3) (by omega) hg (by omega) o76.1 hw'
      have br : (m (14 + 5 * i) 5).toInt ≤ (gw m (m (14 + 5 * i + 4) 1 + nI 56) + gw m (m (14 + 5 * i + 4) 1 + nI 76)).toInt ∧ (gw m (m (14 + 5 * i + 4) 1 + nI 56) + gw m (m (14 + 5 * i + 4) 1 + nI 76)).toInt < (m (14 + 5 * i) 7).toInt := bb.2.2.2 (by omega)
      have ow := own_b hI hi br b
      have pg : ∀ k, k < 80 → gw (pb m (gw m (m (14 + 5 * i + 4) 1 + nI 56) + gw m (m (14 + 5 * i + 4) 1 + nI 76)) b) (m (14 + 5 * i + 4) 1 + nI k) = gw m (m (14 + 5 * i + 4) 1 + nI k) := fun k hk' => pb_gw hI hi (d := 1) (by omega) hg (by omega) br b
      have g1 : pb m (gw m (m (14 + 5 * i + 4) 1 + nI 56) + gw m (m (14 + 5 * i + 4) 1 + nI 76)) b (14 + 5 * i + 4) = m (14 + 5 * i + 4) := pb_c _ _ _ (by omega)
      have s1 : pb m (gw m (m (14 + 5 * i + 4) 1 + nI 56) + gw m (m (14 + 5 * i + 4) 1 + nI 76)) b (14 + 5 * i) = m (14 + 5 * i) := pb_c _ _ _ (by omega)
      have c1' : cnt (pb m (gw m (m (14 + 5 * i + 4) 1 + nI 56) + gw m (m (14 + 5 * i + 4) 1 + nI 76)) b) = cnt m := cnt_cg (by rw [pb_c _ _ _ (by omega)])
      have z1 : (1 : Int32).toInt = 1 := rfl
      have ea : (gw m (m (14 + 5 * i + 4) 1 + nI 76) + 1).toInt = (gw m (m (14 + 5 * i + 4) 1 + nI 76)).toInt + 1 := by rw [add_I] <;> omega
      have s60 : (gw m (m (14 + 5 * i + 4) 1 + nI 60)).toInt ≤ 65536 := by
        have bf := hP.bf 1 (by omega) hg 3 (by omega)
        have s := hP.szI
        have o := hP.ord
        have cl := hP.ctlI
        rcases bf with bf | ⟨_, b2 | ⟨b3, _⟩⟩
        · have b' : gw m (m (14 + 5 * i + 4) 1 + nI 60) = 0 := bf
          rw [b']; decide
        · have c2 : (m (14 + 5 * i) 5).toInt ≤ (gw m (m (14 + 5 * i + 4) 1 + nI 56)).toInt ∧ (gw m (m (14 + 5 * i + 4) 1 + nI 56)).toInt + (gw m (m (14 + 5 * i + 4) 1 + nI 60)).toInt ≤ (m (14 + 5 * i) 7).toInt := b2
          omega
        · exact absurd (by omega) b3
      obtain ⟨d1, d2, d3⟩ := cw (kc := kc) ow.2.1 (i := i) (k := 76) (by rw [c1']; exact hi) (by rw [g1]; exact hg) (by omega) (v := gw m (m (14 + 5 * i + 4) 1 + nI 76) + 1) (fun q => by rw [s1] at q; exact absurd q hs) (by omega) (Or.inr (Or.inr rfl))
      rw [g1] at d1 d2 d3
      have g2 : pw (pb m (gw m (m (14 + 5 * i + 4) 1 + nI 56) + gw m (m (14 + 5 * i + 4) 1 + nI 76)) b) (m (14 + 5 * i + 4) 1 + nI 76) (gw m (m (14 + 5 * i + 4) 1 + nI 76) + 1) (14 + 5 * i + 4) = m (14 + 5 * i + 4) := by rw [pw_c _ _ _ (by omega), g1]
      have hi2 : i < cnt (pw (pb m (gw m (m (14 + 5 * i + 4) 1 + nI 56) + gw m (m (14 + 5 * i + 4) 1 + nI 76)) b) (m (14 + 5 * i + 4) 1 + nI 76) (gw m (m (14 + 5 * i + 4) 1 + nI 76) + 1)) := by rw [cnt_pw, c1']; exact hi
      have rr : ∀ k, k < 80 → k % 4 = 0 → gw (pw (pb m (gw m (m (14 + 5 * i + 4) 1 + nI 56) + gw m (m (14 + 5 * i + 4) 1 + nI 76)) b) (m (14 + 5 * i + 4) 1 + nI 76) (gw m (m (14 + 5 * i + 4) 1 + nI 76) + 1)) (m (14 + 5 * i + 4) 1 + nI k) = if k = 76 then gw m (m (14 + 5 * i + 4) 1 + nI 76) + 1 else gw m (m (14 + 5 * i + 4) 1 + nI k) := fun k hk1 hk2 => by
        have := gw_gr ow.2.1 (i := i) (d := 1) (k := 76) (by rw [c1']; exact hi) (by omega) (by rw [g1]; exact hg) (by omega) (by omega) (gw m (m (14 + 5 * i + 4) 1 + nI 76) + 1) (k' := k) (by omega) hk2
        rw [g1, pg k hk1] at this
        exact this
      have r72 := rr 72 (by omega) (by omega)
      have r76 := rr 76 (by omega) (by omega)
      rw [if_neg (by omega)] at r72
      rw [if_pos rfl] at r76
      have fS : FrC m (pw (pb m (gw m (m (14 + 5 * i + 4) 1 + nI 56) + gw m (m (14 + 5 * i + 4) 1 + nI 76)) b) (m (14 + 5 * i + 4) 1 + nI 76) (gw m (m (14 + 5 * i + 4) 1 + nI 76) + 1)) := fun k hk' => by rw [pw_c _ _ _ (by omega), pb_c _ _ _ (by omega)]
      have l7 : pw (pb m (gw m (m (14 + 5 * i + 4) 1 + nI 56) + gw m (m (14 + 5 * i + 4) 1 + nI 76)) b) (m (14 + 5 * i + 4) 1 + nI 76) (gw m (m (14 + 5 * i + 4) 1 + nI 76) + 1) 7 = m 7 := by rw [pw_c _ _ _ (by omega), pb_c _ _ _ (by omega)]
      have cls2 : ∀ Φ : Int32 → it_Me → Prop, w_50_116 kc (fun r1 m2 => (r1 = 0 → w_195_40 kc Φ 0 m2) ∧ (¬ r1 = 0 → w_195_40 kc Φ 1 m2)) (14 + 5 * i) (m (14 + 5 * i + 4) 1 + nI 72) (gw m (m (14 + 5 * i + 4) 1 + nI 76) + 1) 1 (pw (pb m (gw m (m (14 + 5 * i + 4) 1 + nI 56) + gw m (m (14 + 5 * i + 4) 1 + nI 76)) b) (m (14 + 5 * i + 4) 1 + nI 76) (gw m (m (14 + 5 * i + 4) 1 + nI 76) + 1)) → w_195 kc b m Φ := fun Φ h => cls Φ (fun _ => by
        unfold w_50_74
        rw [n4_72]
        exact ⟨fun q => absurd q (by decide), fun _ => c_12 (c_17 (d2 _ h))⟩) (fun q => absurd hw q)
      have ref2 : ∀ M, Rel m M → ∀ Φ : Int32 → it_Me → Prop, (∀ M2, Rel (pw (pb m (gw m (m (14 + 5 * i + 4) 1 + nI 56) + gw m (m (14 + 5 * i + 4) 1 + nI 76)) b) (m (14 + 5 * i + 4) 1 + nI 76) (gw m (m (14 + 5 * i + 4) 1 + nI 76) + 1)) M2 → FrM M M2 → w_343_126 kc Φ (nI i) (m (14 + 5 * i + 4) 1 + nI 72) (gw m (m (14 + 5 * i + 4) 1 + nI 76) + 1) 1 M2) → w_343 kc b M Φ := fun M hM Φ h => ref M hM Φ (fun _ => by
        have R2 := d3 _ (ow.2.2 M hM)
        have fin := R2.2 (fun m1 => w_343_126 kc Φ (nI i) (m (14 + 5 * i + 4) 1 + nI 72) (gw m (m (14 + 5 * i + 4) 1 + nI 76) + 1) 1 m1) (h _ R2.1 (FrM.trans (FrM.rfl.sv (by omega)) (FrM.rfl.pwF _ _)))
        unfold w_343_86
        rw [n4_72]
        refine ⟨fun q => absurd q (by decide), fun _ => r_271 (d := 1) (k := 1) (by omega) (r_220g hI hM hi (d := 1) (k := 56) (by omega) hg (by omega) (by omega) ⟨?_, ?_⟩)⟩
        · have : InM (gw m (m (14 + 5 * i + 4) 1 + nI 56) + gw m (m (14 + 5 * i + 4) 1 + nI 76)) := bb.2.1
          rw [vp_in_iff]
          exact ⟨by have := this.1; omega, this.2⟩
        · rw [i2b_i2b]; exact fin) (fun q => absurd hw q)
      by_cases hf : gw m (m (14 + 5 * i + 4) 1 + nI 76) + 1 = gw m (m (14 + 5 * i + 4) 1 + nI 72)
      · obtain ⟨m', b1, b2, b3, b4, b5⟩ := cz2 (kc := kc) hk d1 (by omega) (i := i) (k := 72) (n := 2) hi2 (by rw [g2]; exact hg) (Or.inr rfl) (by omega) 0 (gw m (m (14 + 5 * i + 4) 1 + nI 76) + 1) 0
        refine ⟨1, m', fun Φ h => cls2 Φ ?_, b2, fS.trans b3, by rw [b4.2.2.1, l7]; exact hl, fun M hM Φ h => ref2 M hM Φ (fun M2 R2 F2 => ?_)⟩
        · unfold w_50_116 w_50_134 w_50_141
          refine ⟨fun q => absurd q (by decide), fun _ => c_12 ⟨fun _ => ?_, fun q => ?_⟩⟩
          · unfold w_51
            rw [n4_72]
            refine c_12 ?_
            rw [r76]
            have := b1 (fun m1 => ((1 : Int32) = 0 ∨ (1 : Int32) = 1) ∧ (((1 : Int32) = 0 → w_195_40 kc Φ 0 m1) ∧ (¬ (1 : Int32) = 0 → w_195_40 kc Φ 1 m1))) ⟨Or.inr rfl, fun q => absurd q (by decide), fun _ => h⟩
            dsimp only at this
            rw [g2] at this
            exact this
          · rw [r72] at q; exact absurd hf q
        · unfold w_343_126 w_343_142
          rw [n4_72]
          refine ⟨fun q => absurd q (by decide), fun _ => r_220h d1 R2 hi2 (d := 1) (k := 72) (by omega) (by rw [g2]; exact hg) (by omega) (by omega) (by rw [g2]) ⟨fun _ => ?_, fun q => ?_⟩⟩
          · have := b5 M2 R2 (fun m3 => w_343_169 kc Φ 1 m3) (fun M' r f => by
              unfold w_343_169
              exact ⟨fun q => absurd q (by decide), fun _ => h M' r (F2.trans f)⟩)
            dsimp only at this
            rw [g2] at this
            exact this
          · rw [r72] at q; exact absurd hf q
      · refine ⟨1, _, fun Φ h => cls2 Φ ?_, d1.mono (by omega), fS, by rw [l7]; exact hl, fun M hM Φ h => ref2 M hM Φ (fun M2 R2 F2 => ?_)⟩
        · unfold w_50_116 w_50_141
          refine ⟨fun q => absurd q (by decide), fun _ => c_12 ⟨fun q => ?_, fun _ => ⟨Or.inr rfl, fun q => absurd q (by decide), fun _ => h⟩⟩⟩
          rw [r72] at q; exact absurd q hf
        · unfold w_343_126 w_343_169
          refine ⟨fun q => absurd q (by decide), fun _ => r_220h d1 R2 hi2 (d := 1) (k := 72) (by omega) (by rw [g2]; exact hg) (by omega) (by omega) (by rw [g2]) ⟨fun q => ?_, fun _ => ⟨fun q => absurd q (by decide), fun _ => h M2 R2 F2⟩⟩⟩
          rw [r72] at q; exact absurd q hf
    · obtain ⟨m', b1, b2, b3, b4, b5⟩ := cz2 (kc := kc) hk hI (by omega) hi hg (k := 72) (n := 2) (Or.inr rfl) (by omega) 0 (gw m (m (14 + 5 * i + 4) 1 + nI 76)) 0
      refine ⟨0, m', fun Φ h => cls Φ (fun q => absurd q hw) (fun _ => ?_), b2, b3, by rw [b4.2.2.1]; exact hl, fun M hM Φ h => ref M hM Φ (fun q => absurd q hw) (fun _ => ?_)⟩
      · unfold w_50_74 w_50_116 w_50_134 w_50_141
        refine ⟨fun _ => ⟨fun _ => ?_, fun q => absurd rfl q⟩, fun q => absurd rfl q⟩
        unfold w_51
        rw [n4_72]
        exact c_12 (b1 _ ⟨Or.inl rfl, fun _ => h, fun q => absurd rfl q⟩)
      · unfold w_343_86 w_343_126 w_343_142
        rw [n4_72]
        refine ⟨fun _ => ⟨fun _ => b5 M hM _ (fun M' r f => ?_), fun q => absurd rfl q⟩, fun q => absurd rfl q⟩
        unfold w_343_169
        exact ⟨fun _ => h M' r f, fun q => absurd rfl q⟩
