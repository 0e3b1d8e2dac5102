/-! Drivers: the next byte out, a byte typed; the buttons move. -/
theorem und_1W {m : it_Me} {i : Nat} (h : PI m i) (hu : undW m i) : ¬ (m (14 + 5 * i) 9 = 4 ∨ m (14 + 5 * i) 9 = 5) := fun q => hu.2 ((h.ovr q).2 1 (by omega) hu.1 0 (by decide))
theorem und_1R {m : it_Me} {i : Nat} (h : PI m i) (hu : undR m i) : ¬ (m (14 + 5 * i) 9 = 4 ∨ m (14 + 5 * i) 9 = 5) := fun q => hu.2 ((h.ovr q).2 1 (by omega) hu.1 2 (by decide))
/-- a byte of a buffer for reading -/
theorem bfB {B : Nat} {m : it_Me} (hI : Inv B m) {i d k : Nat} (hi : i < cnt m) (hd : d < 9) (hg : m (14 + 5 * i + 4) d ≠ 0) (hk : k < rbN d + wbN d) {x : Int32} (h0 : 0 ≤ x.toInt) (hx : x.toInt < (gw m (m (14 + 5 * i + 4) d + nI (8 * (1 + sbN d + k) + 4))).toInt) : (gw m (m (14 + 5 * i + 4) d + nI (8 * (1 + sbN d + k))) + x).toInt = (gw m (m (14 + 5 * i + 4) d + nI (8 * (1 + sbN d + k)))).toInt + x.toInt ∧ InM (gw m (m (14 + 5 * i + 4) d + nI (8 * (1 + sbN d + k))) + x) ∧ ¬ excl m (wi (gw m (m (14 + 5 * i + 4) d + nI (8 * (1 + sbN d + k))) + x)) ∧ (rbN d ≤ k → (m (14 + 5 * i) 5).toInt ≤ (gw m (m (14 + 5 * i + 4) d + nI (8 * (1 + sbN d + k))) + x).toInt ∧ (gw m (m (14 + 5 * i + 4) d + nI (8 * (1 + sbN d + k))) + x).toInt < (m (14 + 5 * i) 7).toInt) := by
  have hP := hI.p hi
  have b := hP.bf d hd hg k hk
  have ap := hP.app
  have s := hP.szI
  have o := hP.ord
  have cl := hP.ctlI
  rcases b with b | ⟨b1, b2 | ⟨bw, b2⟩⟩
  · rw [b] at hx; simp only [Int32.reduceToInt] at hx; omega
  · have e : (gw m (m (14 + 5 * i + 4) d + nI (8 * (1 + sbN d + k))) + x).toInt = (gw m (m (14 + 5 * i + 4) d + nI (8 * (1 + sbN d + k)))).toInt + x.toInt := by rw [add_I] <;> omega
    have n := nexA hI (a := gw m (m (14 + 5 * i + 4) d + nI (8 * (1 + sbN d + k))) + x) (Or.inr ⟨i, hi, by omega, by omega⟩)
    exact ⟨e, n.1, n.2, fun _ => ⟨by omega, by omega⟩⟩
  · have e : (gw m (m (14 + 5 * i + 4) d + nI (8 * (1 + sbN d + k))) + x).toInt = (gw m (m (14 + 5 * i + 4) d + nI (8 * (1 + sbN d + k)))).toInt + x.toInt := by rw [add_I] <;> omega
    have n := nexA hI (a := gw m (m (14 + 5 * i + 4) d + nI (8 * (1 + sbN d + k))) + x) (Or.inl ⟨by omega, by omega⟩)
    exact ⟨e, n.1, n.2, fun q => absurd q bw⟩
theorem cm_someP {Q : Prop} {P : Nat → Prop} {o : Option Nat} {x : Nat} (e : o = some x) (h : P x) : (o = none → Q) ∧ ∀ q, o = some q → P q := by
  subst e
  exact ⟨fun h => (by cases h), fun q h => by cases h; assumption⟩
/-- writeNextByte -/
theorem wn {kc : it_Kc} (hk : KC kc) {B : Nat} {m : it_Me} (hI : Inv B m) (hB : B + 1 < 2147483000) : Lv (w_48 kc) (fun M Φ => w_309 kc 1 M (fun r1 m2 => w_310_19 kc Φ r1 m2)) (B + 2) m (Ks m) := by
  have h8 := cnt_le hI
  have z : owA 1 = 64 ∧ gsz 1 = 80 ∧ sbN 1 = 3 ∧ rbN 1 = 2 ∧ wbN 1 = 2 := by decide
  obtain ⟨o, a1, a2, a3⟩ := faW (kc := kc) hk hI (cnt m) 0 none (by omega) (fun j hj => by cases hj)
  cases ho : o with
  | none =>
    rw [ho] at a2 a3
    refine ⟨m, fun Φ h => ?_, hI.mono (by omega), FrC.rfl, Ks.rfl, fun M hM Φ h => ⟨_, a3 M hM _ _ ?_⟩⟩
    · unfold w_48
      refine ⟨_, a2 _ _ ?_⟩
      exact cm_none h
    · unfold w_309_112 w_310_19
      exact ⟨fun _ => h M hM FrM.rfl, fun q => absurd rfl q⟩
  | some i =>
    rw [ho] at a2 a3
    obtain ⟨hi, hu⟩ := a1 i ho
    have i8 : i < 8 := by omega
    have hP := hI.p hi
    have hg : m (14 + 5 * i + 4) 1 ≠ 0 := hu.1
    have hs := und_1W hP hu
    have o68 : 0 ≤ (gw m (m (14 + 5 * i + 4) 1 + nI 68)).toInt ∧ (gw m (m (14 + 5 * i + 4) 1 + nI 68)).toInt ≤ 65536 := hP.ow1 hg 1 (by omega)
    have cls : ∀ Φ, (gw m (m (14 + 5 * i + 4) 1 + nI 68) < gw m (m (14 + 5 * i + 4) 1 + nI 44) → w_48_68 kc Φ (14 + 5 * i) (m (14 + 5 * i + 4) 1 + nI 64) (m (14 + 5 * i + 4) 1 + nI 40) (gw m (m (14 + 5 * i + 4) 1 + nI 68)) 0 m) → (¬ gw m (m (14 + 5 * i + 4) 1 + nI 68) < gw m (m (14 + 5 * i + 4) 1 + nI 44) → w_48_68 kc Φ (14 + 5 * i) (m (14 + 5 * i + 4) 1 + nI 64) (m (14 + 5 * i + 4) 1 + nI 40) (gw m (m (14 + 5 * i + 4) 1 + nI 68)) 1 m) → w_48 kc m Φ := fun Φ h1 h0 => by
      unfold w_48
      refine ⟨_, a2 _ _ ?_⟩
      refine cm_some ?_
      refine c_90 hk (d := 1) (by omega) (c_88 hk (d := 1) (n := 1) (by omega) (c_12 (c_12 ?_)))
      rw [show owA 1 = 64 from rfl, n4_64, ga4]
      exact ⟨h1, h0⟩
    have ref : ∀ M, Rel m M → ∀ Φ : it_Me → Prop, (gw m (m (14 + 5 * i + 4) 1 + nI 68) < gw m (m (14 + 5 * i + 4) 1 + nI 44) → w_310_70 kc Φ (nI i) (m (14 + 5 * i + 4) 1) (m (14 + 5 * i + 4) 1 + nI 64) (gw m (m (14 + 5 * i + 4) 1 + nI 68)) 1 M) → (¬ gw m (m (14 + 5 * i + 4) 1 + nI 68) < gw m (m (14 + 5 * i + 4) 1 + nI 44) → w_310_70 kc Φ (nI i) (m (14 + 5 * i + 4) 1) (m (14 + 5 * i + 4) 1 + nI 64) (gw m (m (14 + 5 * i + 4) 1 + nI 68)) 0 M) → w_309 kc 1 M (fun r1 m2 => w_310_19 kc Φ r1 m2) := fun M hM Φ h1 h0 => by
      refine ⟨_, a3 M hM _ _ ?_⟩
      unfold w_309_112 w_310_19
      refine ⟨fun q => absurd q (enc_n1 i8), fun _ => r_272 hI hM hi (d := 1) (by omega) ?_⟩
      rw [if_neg hg]
      refine r_269 (d := 1) (by omega) ?_
      rw [show owA 1 = 64 from rfl, n4_64]
      refine r_220g hI hM hi (by omega) hg (by omega) (by omega) (r_270 (d := 1) (k := 1) (by omega) ?_)
      rw [ga4]
      refine r_220g hI hM hi (d := 1) (k := 44) (by omega) hg (by omega) (by omega) ⟨fun q => h0 ?_, fun q => h1 ?_⟩
      · rw [Int32.not_lt]; exact q
      · rw [Int32.not_le] at q; exact q
    by_cases hw : gw m (m (14 + 5 * i + 4) 1 + nI 68) < gw m (m (14 + 5 * i + 4) 1 + nI 44)
    · have hw' := Int32.lt_iff_toInt_lt.mp hw
      have bb := bfB hI hi (d := 1) (k := 1) (by omega) hg (by omega) o68.1 hw'
      obtain ⟨m1, p1, p2, p3, p4, p5⟩ := po (kc := kc) hI (by omega) (gb m (gw m (m (14 + 5 * i + 4) 1 + nI 40) + gw m (m (14 + 5 * i + 4) 1 + nI 68)))
      have g1 : m1 (14 + 5 * i + 4) = m (14 + 5 * i + 4) := p3 _ (by omega) (by omega) (by omega)
      have s1 : m1 (14 + 5 * i) = m (14 + 5 * i) := p3 _ (by omega) (by omega) (by omega)
      have c1' : cnt m1 = cnt m := cnt_cg (by rw [p3 9 (by omega) (by omega) (by omega)])
      have gw1 : ∀ a, gw m1 a = gw m a := fun a => gw_cg (p3 2 (by omega) (by omega) (by omega)) a
      have z1 : (1 : Int32).toInt = 1 := rfl
      have ea : (gw m (m (14 + 5 * i + 4) 1 + nI 68) + 1).toInt = (gw m (m (14 + 5 * i + 4) 1 + nI 68)).toInt + 1 := by rw [add_I] <;> omega
      have s44 : (gw m (m (14 + 5 * i + 4) 1 + nI 44)).toInt ≤ 65536 := by
        have b := hP.bf 1 (by omega) hg 1 (by omega)
        have ap := hP.app
        have s := hP.szI
        have o := hP.ord
        have cl := hP.ctlI
        rcases b with b | ⟨b1, b2 | ⟨_, b2⟩⟩
        · have b' : gw m (m (14 + 5 * i + 4) 1 + nI 44) = 0 := b
          rw [b']; decide
        · have c2 : (m (14 + 5 * i) 5).toInt ≤ (gw m (m (14 + 5 * i + 4) 1 + nI 40)).toInt ∧ (gw m (m (14 + 5 * i + 4) 1 + nI 40)).toInt + (gw m (m (14 + 5 * i + 4) 1 + nI 44)).toInt ≤ (m (14 + 5 * i) 7).toInt := b2
          omega
        · have c2 : (m (14 + 5 * i + 1) 1).toInt ≤ (gw m (m (14 + 5 * i + 4) 1 + nI 40)).toInt ∧ (gw m (m (14 + 5 * i + 4) 1 + nI 40)).toInt + (gw m (m (14 + 5 * i + 4) 1 + nI 44)).toInt ≤ (m (14 + 5 * i + 1) 1).toInt + (m (14 + 5 * i + 1) 3).toInt := b2
          omega
      obtain ⟨d1, d2, d3⟩ := cw (kc := kc) p2 (i := i) (k := 68) (by rw [c1']; exact hi) (by rw [g1]; exact hg) (by omega) (v := gw m (m (14 + 5 * i + 4) 1 + nI 68) + 1) (fun q => by rw [s1] at q; exact absurd q hs) (by omega) (Or.inr (Or.inl rfl))
      rw [g1] at d1 d2 d3
      have g2 : pw m1 (m (14 + 5 * i + 4) 1 + nI 68) (gw m (m (14 + 5 * i + 4) 1 + nI 68) + 1) (14 + 5 * i + 4) = m (14 + 5 * i + 4) := by rw [pw_c _ _ _ (by omega), g1]
      have hi2 : i < cnt (pw m1 (m (14 + 5 * i + 4) 1 + nI 68) (gw m (m (14 + 5 * i + 4) 1 + nI 68) + 1)) := by rw [cnt_pw, c1']; exact hi
      have r64 : gw (pw m1 (m (14 + 5 * i + 4) 1 + nI 68) (gw m (m (14 + 5 * i + 4) 1 + nI 68) + 1)) (m (14 + 5 * i + 4) 1 + nI 64) = gw m (m (14 + 5 * i + 4) 1 + nI 64) := by
        have := gw_gr p2 (i := i) (d := 1) (k := 68) (by rw [c1']; exact hi) (by omega) (by rw [g1]; exact hg) (by omega) (by omega) (gw m (m (14 + 5 * i + 4) 1 + nI 68) + 1) (k' := 64) (by omega) (by omega)
        rw [g1, if_neg (by omega), gw1] at this
        exact this
      have kS : Ks m (pw m1 (m (14 + 5 * i + 4) 1 + nI 68) (gw m (m (14 + 5 * i + 4) 1 + nI 68) + 1)) := ⟨by rw [pw_c _ _ _ (by omega), p3 _ (by omega) (by omega) (by omega)], by rw [pw_c _ _ _ (by omega), p3 _ (by omega) (by omega) (by omega)], by rw [pw_c _ _ _ (by omega), p3 _ (by omega) (by omega) (by omega)], by rw [pw_c _ _ _ (by omega), p3 _ (by omega) (by omega) (by omega)], by rw [pw_c _ _ _ (by omega), p3 _ (by omega) (by omega) (by omega)]⟩
      have fS : FrC m (pw m1 (m (14 + 5 * i + 4) 1 + nI 68) (gw m (m (14 + 5 * i + 4) 1 + nI 68) + 1)) := fun k hk' => by rw [pw_c _ _ _ (by omega), p3 _ (by omega) (by omega) (by omega)]
      have cls2 : ∀ Φ, w_48_112 kc Φ (14 + 5 * i) (m (14 + 5 * i + 4) 1 + nI 64) (gw m (m (14 + 5 * i + 4) 1 + nI 68) + 1) 0 (pw m1 (m (14 + 5 * i + 4) 1 + nI 68) (gw m (m (14 + 5 * i + 4) 1 + nI 68) + 1)) → w_48 kc m Φ := fun Φ h => cls Φ (fun _ => by
        unfold w_48_68
        rw [n4_64]
        exact ⟨fun _ => c_12 (c_16 (p1 _ (d2 _ h))), fun q => absurd rfl q⟩) (fun q => absurd hw q)
      have ref2 : ∀ M, Rel m M → ∀ Φ : it_Me → Prop, (∀ M2, Rel (pw m1 (m (14 + 5 * i + 4) 1 + nI 68) (gw m (m (14 + 5 * i + 4) 1 + nI 68) + 1)) M2 → FrM M M2 → w_310_150 kc Φ (nI i) (m (14 + 5 * i + 4) 1 + nI 64) (gw m (m (14 + 5 * i + 4) 1 + nI 68) + 1) 1 M2) → w_309 kc 1 M (fun r1 m2 => w_310_19 kc Φ r1 m2) := fun M hM Φ h => ref M hM Φ (fun _ => by
        obtain ⟨M0, e1, e2, e3, e4⟩ := p5 M hM
        have R2 := d3 _ e3
        have fin := R2.2 (fun m1 => w_310_150 kc Φ (nI i) (m (14 + 5 * i + 4) 1 + nI 64) (gw m (m (14 + 5 * i + 4) 1 + nI 68) + 1) 1 m1) (h _ R2.1 (FrM.trans e4 (FrM.rfl.pwF _ _)))
        unfold w_310_70 w_310_128
        rw [n4_64]
        refine ⟨fun q => absurd q (by decide), fun _ => r_270 (d := 1) (k := 1) (by omega) (r_220g hI hM hi (d := 1) (k := 40) (by omega) hg (by omega) (by omega) (r_218 hM bb.2.1 bb.2.2.1 ⟨v12_3, fun q => ⟨v12_3, v12_3, ?_⟩, fun q => ⟨v12_3, ?_, v12_3, v12_3, ?_⟩⟩))⟩
        · rw [cl_3] at q ⊢
          rw [← e1 q]; exact fin
        · rw [cl_3] at q ⊢
          exact (e2 q).1
        · rw [cl_3] at q ⊢
          rw [(e2 q).2] at fin
          exact fin) (fun q => absurd hw q)
      by_cases hf : gw m (m (14 + 5 * i + 4) 1 + nI 68) + 1 = gw m (m (14 + 5 * i + 4) 1 + nI 64)
      · obtain ⟨m', b1, b2, b3, b4, b5⟩ := cz2 (kc := kc) hk d1 (by omega) (i := i) (k := 64) (n := 1) hi2 (by rw [g2]; exact hg) (Or.inl rfl) (by omega) (gw m (m (14 + 5 * i + 4) 1 + nI 68) + 1) 0 0
        refine ⟨m', fun Φ h => cls2 Φ ?_, b2, fS.trans b3, kS.trans b4.s, fun M hM Φ h => ref2 M hM Φ (fun M2 R2 F2 => ?_)⟩
        · unfold w_48_112 w_48_130
          rw [n4_64]
          refine ⟨fun _ => c_12 ⟨fun _ => ?_, fun q => ?_⟩, fun q => absurd rfl q⟩
          · have := b1 Φ h
            dsimp only at this
            rw [g2] at this
            exact this
          · rw [r64] at q; exact absurd hf q
        · unfold w_310_150 w_310_165
          rw [n4_64]
          refine ⟨fun q => absurd q (by decide), fun _ => r_220h d1 R2 hi2 (d := 1) (k := 64) (by omega) (by rw [g2]; exact hg) (by omega) (by omega) (by rw [g2]) ⟨fun _ => ?_, fun q => ?_⟩⟩
          · have := b5 M2 R2 Φ (fun M' r f => h M' r (F2.trans f))
            dsimp only at this
            rw [g2] at this
            exact this
          · rw [r64] at q; exact absurd hf q
      · refine ⟨_, fun Φ h => cls2 Φ ?_, d1.mono (by omega), fS, kS, fun M hM Φ h => ref2 M hM Φ (fun M2 R2 F2 => ?_)⟩
        · unfold w_48_112
          refine ⟨fun _ => c_12 ⟨fun q => ?_, fun _ => h⟩, fun q => absurd rfl q⟩
          rw [r64] at q; exact absurd q hf
        · unfold w_310_150
          refine ⟨fun q => absurd q (by decide), fun _ => r_220h d1 R2 hi2 (d := 1) (k := 64) (by omega) (by rw [g2]; exact hg) (by omega) (by omega) (by rw [g2]) ⟨fun q => ?_, fun _ => h M2 R2 F2⟩⟩
          rw [r64] at q; exact absurd q hf
    · obtain ⟨m', b1, b2, b3, b4, b5⟩ := cz2 (kc := kc) hk hI (by omega) hi hg (k := 64) (n := 1) (Or.inl rfl) (by omega) (gw m (m (14 + 5 * i + 4) 1 + nI 68)) 0 0
      refine ⟨m', fun Φ h => cls Φ (fun q => absurd q hw) (fun _ => ?_), b2.mono (by omega), b3, b4.s, fun M hM Φ h => ref M hM Φ (fun q => absurd q hw) (fun _ => ?_)⟩
      · unfold w_48_68 w_48_112 w_48_130
        rw [n4_64]
        exact ⟨fun q => absurd q (by decide), fun _ => ⟨fun q => absurd q (by decide), fun _ => b1 Φ h⟩⟩
      · unfold w_310_70 w_310_150 w_310_165
        rw [n4_64]
        exact ⟨fun _ => ⟨fun _ => b5 M hM Φ h, fun q => absurd rfl q⟩, fun q => absurd rfl q⟩
/-- the drivers' tick -/
theorem tk {kc : it_Kc} (hk : KC kc) {B : Nat} {m : it_Me} (hI : Inv B m) (hB : B + 18 < 2147483000) : Lv (w_39 kc) (fun M Φ => w_308 kc M (fun m1 => w_310 kc m1 (fun m2 => w_311 kc m2 Φ))) (B + 18) m (Ks m) := by
  have h8 := cnt_le hI
  obtain ⟨m1, a1, a2, a3, a4, a5⟩ := tkA (kc := kc) hk (cnt m) 0 m hI (by omega) (by omega)
  have c1 : cnt m1 = cnt m := a4.cnt
  have a2' : Inv (B + 8) m1 := a2.mono (by omega)
  have H : ∃ m2, (∀ Φ, Φ m2 → ((m1 4 0 &&& 7) = 0 → w_48 kc m1 Φ) ∧ (¬ (m1 4 0 &&& 7) = 0 → Φ m1)) ∧ Inv (B + 10) m2 ∧ FrC m1 m2 ∧ Ks m1 m2 ∧ ∀ M, Rel m1 M → ∀ Φ, (∀ M', Rel m2 M' → FrM M M' → Φ M') → w_310 kc M Φ := by
    by_cases q : (m1 4 0 &&& 7) = 0
    · obtain ⟨m2, b1, b2, b3, b4, b5⟩ := wn (kc := kc) hk a2' (by omega)
      refine ⟨m2, fun Φ h => ⟨fun _ => b1 Φ h, fun y => absurd q y⟩, b2, b3, b4, fun M hM Φ h => ?_⟩
      unfold w_310
      rw [hM.time]
      exact ⟨fun _ => b5 M hM Φ h, fun y => absurd q y⟩
    · refine ⟨m1, fun Φ h => ⟨fun y => absurd y q, fun _ => h⟩, a2'.mono (by omega), FrC.rfl, Ks.rfl, fun M hM Φ h => ?_⟩
      unfold w_310 w_310_19
      rw [hM.time]
      exact ⟨fun y => absurd y q, fun _ => ⟨fun _ => h M hM FrM.rfl, fun y => absurd rfl y⟩⟩
  obtain ⟨m2, b1, b2, b3, b4, b5⟩ := H
  have c2 : cnt m2 = cnt m := by rw [b4.cnt, c1]
  obtain ⟨m3, d1, d2, d3, d4, d5⟩ := tkS (kc := kc) hk (cnt m) 0 m2 b2 (by omega) (by omega)
  refine ⟨m3, fun Φ h => ?_, d2.mono (by omega), (a3.trans b3).trans d3, (a4.s.trans b4).trans d4.s, fun M hM Φ h => ⟨_, a5 M hM _ _ (fun M1 r1 f1 => b5 M1 r1 _ (fun M2 r2 f2 => ⟨_, d5 M2 r2 _ _ (fun M3 r3 f3 => h M3 r3 ((f1.trans f2).trans f3))⟩))⟩⟩
  unfold w_39 w_39_21
  have fin : w_61 kc m2 Φ := ⟨_, d1 _ _ h⟩
  exact ⟨_, a1 _ _ (b1 (fun m2 => w_61 kc m2 (fun m1 => Φ m1)) fin)⟩
