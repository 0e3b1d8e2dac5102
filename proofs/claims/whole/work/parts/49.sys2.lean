/-! System calls: allow. -/
theorem Bf_reg {m m' : it_Me} {i : Nat} (h5 : m' (14 + 5 * i) 5 = m (14 + 5 * i) 5) (h7 : m' (14 + 5 * i) 7 = m (14 + 5 * i) 7) (h1 : m' (14 + 5 * i + 1) = m (14 + 5 * i + 1)) (a n : Int32) (w : Prop) : Bf m' i a n w ↔ Bf m i a n w := by unfold Bf; rw [h5, h7, h1]
theorem al2 {kc : it_Kc} (hk : KC kc) {B : Nat} {m : it_Me} (hI : Inv B m) {i d n : Nat} {w : Int32} (hi : i < cnt m) (hd : d < 9) (hg : m (14 + 5 * i + 4) d ≠ 0) (hn : n < if w = 0 then rbN d else wbN d) (hf : Bf m i (m (14 + 5 * i + 2) 12) (m (14 + 5 * i + 2) 13) (w ≠ 0)) : ∃ m', (∀ Φ, Φ m' → (w = 0 → w_88 kc (14 + 5 * i) (nI d) (nI n) m (fun r8 m9 => w_179 kc (14 + 5 * i) r8 m9 (fun m10 => w_178_155 kc Φ m10))) ∧ (¬ w = 0 → w_89 kc (14 + 5 * i) (nI d) (nI n) m (fun r11 m12 => w_179 kc (14 + 5 * i) r11 m12 (fun m13 => w_178_155 kc Φ m13)))) ∧ Inv B m' ∧ FrC m m' ∧ Kp m m' ∧ ∀ M, Rel m M → ∀ Φ, (∀ M', Rel m' M' → FrM M M' → Φ M') → (w = 0 → w_270 kc (m (14 + 5 * i + 4) d) (nI d) (nI n) M (fun r1 m2 => w_289_195 kc Φ (nI i) (m (14 + 5 * i + 2) 12) (m (14 + 5 * i + 2) 13) r1 m2)) ∧ (¬ w = 0 → w_271 kc (m (14 + 5 * i + 4) d) (nI d) (nI n) M (fun r3 m4 => w_289_195 kc Φ (nI i) (m (14 + 5 * i + 2) 12) (m (14 + 5 * i + 2) 13) r3 m4)) := by
  have kk := kN hd
  by_cases hw : w = 0
  · rw [if_pos hw] at hn
    obtain ⟨b1, b2, b3, b4⟩ := ex (kc := kc) hI (d := d) (k := 8 * (1 + sbN d + n)) hi hd hg (by omega) (fun x hx e => by
      have : x = n := by omega
      subst this
      rcases hf with z | ⟨z1, z2 | ⟨_, z3⟩⟩
      · exact Or.inl z
      · exact Or.inr ⟨z1, Or.inl z2⟩
      · exact Or.inr ⟨z1, Or.inr ⟨by omega, z3⟩⟩) (fun x hx e => by omega)
    refine ⟨_, fun Φ h => ⟨fun _ => c_88 hk hd (c_179 h), fun q => absurd hw q⟩, b1, b3, b2, fun M hM Φ h => ⟨fun _ => r_270 hd ?_, fun q => absurd hw q⟩⟩
    unfold w_289_195
    exact b4 M hM Φ h
  · rw [if_neg hw] at hn
    obtain ⟨b1, b2, b3, b4⟩ := ex (kc := kc) hI (d := d) (k := 8 * (1 + sbN d + rbN d + n)) hi hd hg (by omega) (fun x hx e => by
      have : x = rbN d + n := by omega
      subst this
      rcases hf with z | ⟨z1, z2 | ⟨z4, z3⟩⟩
      · exact Or.inl z
      · exact Or.inr ⟨z1, Or.inl z2⟩
      · exact absurd hw z4) (fun x hx e => by omega)
    refine ⟨_, fun Φ h => ⟨fun q => absurd q hw, fun _ => c_89 hk hd (c_179 h)⟩, b1, b3, b2, fun M hM Φ h => ⟨fun q => absurd q hw, fun _ => r_271 hd ?_⟩⟩
    unfold w_289_195
    exact b4 M hM Φ h
theorem al {kc : it_Kc} (hk : KC kc) {B : Nat} {m : it_Me} (hI : Inv B m) {i : Nat} (hi : i < cnt m) (w : Int32) : Lv (w_178 kc (14 + 5 * i) w) (w_289 kc (nI i) w (m (14 + 5 * i + 2) 10) (m (14 + 5 * i + 2) 11) (m (14 + 5 * i + 2) 12) (m (14 + 5 * i + 2) 13)) B m (Kp m) := by
  have h8 := cnt_le hI
  have i8 : i < 8 := by omega
  have hP := hI.p hi
  have ap := hP.app
  have s := hP.szI
  have o := hP.ord
  have cl := hP.ctlI
  have t1 := tlo (m (14 + 5 * i + 2) 12)
  have t2 := thi (m (14 + 5 * i + 2) 12)
  have t3 := tlo (m (14 + 5 * i + 2) 13)
  have t4 := thi (m (14 + 5 * i + 2) 13)
  have bad : ∀ e : Int32, e ≠ 0 → Lv (w_137 kc (14 + 5 * i) e) (fun M Φ => w_289_127 kc Φ (nI i) w (m (14 + 5 * i + 2) 10) (m (14 + 5 * i + 2) 11) (m (14 + 5 * i + 2) 12) (m (14 + 5 * i + 2) 13) e M) B m (Kp m) := fun e he => by
    obtain ⟨m', c1, c2, c3, c4, c5⟩ := lv_back (kc := kc) hI hi e (f := m (14 + 5 * i + 2) 12) (g := m (14 + 5 * i + 2) 13) rfl rfl
    refine ⟨m', c1, c2, c3, c4, fun M hM Φ h => ?_⟩
    unfold w_289_127 w_289_142 w_289_164
    exact ⟨fun q => absurd q he, fun _ => ⟨fun _ => ⟨fun q => absurd q he, fun _ => c5 M hM _ h⟩, fun q => absurd rfl q⟩⟩
  -- the reference's 'well'
  have well : ∀ (M : it_Me) (Φ : it_Me → Prop) (u d n : Int32), Rel m M → (Bf m i (m (14 + 5 * i + 2) 12) (m (14 + 5 * i + 2) 13) (w ≠ 0) → w_289_107 kc Φ (nI i) w d n (m (14 + 5 * i + 2) 12) (m (14 + 5 * i + 2) 13) u 1 M) → (¬ Bf m i (m (14 + 5 * i + 2) 12) (m (14 + 5 * i + 2) 13) (w ≠ 0) → w_289_107 kc Φ (nI i) w d n (m (14 + 5 * i + 2) 12) (m (14 + 5 * i + 2) 13) u 0 M) → w_289_47 kc Φ (nI i) w d n (m (14 + 5 * i + 2) 12) (m (14 + 5 * i + 2) 13) u M := fun M Φ u d n hM h1 h0 => by
    unfold w_289_47 w_289_102 w_289_106
    refine ⟨fun q => h1 (Or.inl q), fun q => r_260 hI hM hi (by rw [u32]; omega) (by rw [u32]; omega) ?_⟩
    have q0 : (m (14 + 5 * i + 2) 13).toInt ≠ 0 := fun z => q (Int32.toInt_inj.mp z)
    rw [u32, u32]
    by_cases z1 : (m (14 + 5 * i) 5).toInt ≤ (m (14 + 5 * i + 2) 12).toInt % 4294967296 ∧ (m (14 + 5 * i + 2) 12).toInt % 4294967296 + (m (14 + 5 * i + 2) 13).toInt % 4294967296 ≤ (m (14 + 5 * i) 7).toInt
    · rw [bI_t z1]
      exact ⟨fun e => absurd e (by decide), fun _ => h1 (Or.inr ⟨by omega, Or.inl ⟨by omega, by omega⟩⟩)⟩
    rw [bI_f z1]
    refine ⟨fun _ => ⟨fun hw => r_261 hI hM hi (by rw [u32]; omega) (by rw [u32]; omega) ?_, fun hw => ?_⟩, fun e => absurd rfl e⟩
    · rw [u32, u32]
      by_cases z2 : (m (14 + 5 * i + 1) 1).toInt ≤ (m (14 + 5 * i + 2) 12).toInt % 4294967296 ∧ (m (14 + 5 * i + 2) 12).toInt % 4294967296 + (m (14 + 5 * i + 2) 13).toInt % 4294967296 ≤ (m (14 + 5 * i + 1) 1).toInt + (m (14 + 5 * i + 1) 3).toInt
      · rw [bI_t z2]
        exact ⟨fun e => absurd e (by decide), fun _ => h1 (Or.inr ⟨by omega, Or.inr ⟨fun z => z hw, by omega, by omega⟩⟩)⟩
      · rw [bI_f z2]
        refine ⟨fun _ => h0 ?_, fun e => absurd rfl e⟩
        rintro (z | ⟨y1, y2 | ⟨_, y3, y4⟩⟩)
        · exact q z
        · exact z1 ⟨by omega, by omega⟩
        · exact z2 ⟨by omega, by omega⟩
    · refine h0 ?_
      rintro (z | ⟨y1, y2 | ⟨y5, y3, y4⟩⟩)
      · exact q z
      · exact z1 ⟨by omega, by omega⟩
      · exact y5 hw
  by_cases hd : 0 ≤ (m (14 + 5 * i + 2) 10).toInt ∧ (m (14 + 5 * i + 2) 10).toInt < 9
  · obtain ⟨d, hd9, ed⟩ := drv hd
    have kk := kN hd9
    have bt' : bI (0 ≤ (nI d).toInt ∧ (nI d).toInt < 9) = 1 := bI_t (by rw [← ed]; exact hd)
    have c3v : (kc 3).2 (Int32.toNatClampNeg (nI d)) = nI (rbN d) ∧ vp_in (nI d) (kc 3).1 := by
      rw [hk.k3, nI_clamp (by omega)]
      exact ⟨kT3 hd9, v9 hd9⟩
    have c4v : (kc 4).2 (Int32.toNatClampNeg (nI d)) = nI (wbN d) ∧ vp_in (nI d) (kc 4).1 := by
      rw [hk.k4, nI_clamp (by omega)]
      exact ⟨kT4 hd9, v9 hd9⟩
    -- both up to the test of the number
    have clsH : ∀ Φ, w_178_48 kc Φ (14 + 5 * i) w (nI d) (m (14 + 5 * i + 2) 11) (nI (if w = 0 then rbN d else wbN d)) m → w_178 kc (14 + 5 * i) w m Φ := fun Φ h => by
      unfold w_178
      rw [cl_10, cl_11, ed]
      refine ⟨v32_10, v32_11, c_173 ?_⟩
      rw [bt', c3v.1, c4v.1]
      refine ⟨fun q => absurd q (by decide), fun _ => ⟨fun q => ⟨c3v.2, ?_⟩, fun q => ⟨c4v.2, ?_⟩⟩⟩
      · rw [if_pos q] at h; exact h
      · rw [if_neg q] at h; exact h
    have refH : ∀ M Φ, Rel m M → (0 ≤ (m (14 + 5 * i + 2) 11).toInt ∧ (m (14 + 5 * i + 2) 11).toInt < (if w = 0 then rbN d else wbN d : Nat) → w_289_47 kc Φ (nI i) w (nI d) (m (14 + 5 * i + 2) 11) (m (14 + 5 * i + 2) 12) (m (14 + 5 * i + 2) 13) 1 M) → (¬ (0 ≤ (m (14 + 5 * i + 2) 11).toInt ∧ (m (14 + 5 * i + 2) 11).toInt < (if w = 0 then rbN d else wbN d : Nat)) → w_289_47 kc Φ (nI i) w (nI d) (m (14 + 5 * i + 2) 11) (m (14 + 5 * i + 2) 12) (m (14 + 5 * i + 2) 13) 0 M) → w_289 kc (nI i) w (m (14 + 5 * i + 2) 10) (m (14 + 5 * i + 2) 11) (m (14 + 5 * i + 2) 12) (m (14 + 5 * i + 2) 13) M Φ := fun M Φ hM h1 h0 => by
      unfold w_289 w_289_39 w_289_46
      rw [ed]
      refine r_287 ?_
      rw [bt']
      refine ⟨fun q => absurd q (by decide), fun _ => ⟨fun q => h0 ?_, fun q => ⟨fun qw => r_265 hd9 ⟨fun q2 => h0 ?_, fun q2 => h1 ?_⟩, fun qw => r_266 hd9 ⟨fun q2 => h0 ?_, fun q2 => h1 ?_⟩⟩⟩⟩
      · rw [Int32.lt_iff_toInt_lt] at q; simp only [Int32.reduceToInt] at q; omega
      · rw [Int32.le_iff_toInt_le, nI_toInt (by omega)] at q2; rw [if_pos qw]; omega
      · rw [Int32.lt_iff_toInt_lt] at q; simp only [Int32.reduceToInt] at q
        rw [Int32.le_iff_toInt_le, nI_toInt (by omega)] at q2; rw [if_pos qw]; omega
      · rw [Int32.le_iff_toInt_le, nI_toInt (by omega)] at q2; rw [if_neg qw]; omega
      · rw [Int32.lt_iff_toInt_lt] at q; simp only [Int32.reduceToInt] at q
        rw [Int32.le_iff_toInt_le, nI_toInt (by omega)] at q2; rw [if_neg qw]; omega
    have hlim : (if w = 0 then rbN d else wbN d) < 100 := by split <;> omega
    have bad6 : Lv (w_137 kc (14 + 5 * i) 6) (fun M Φ => w_289_123 kc Φ (nI i) w (nI d) (m (14 + 5 * i + 2) 11) (m (14 + 5 * i + 2) 12) (m (14 + 5 * i + 2) 13) M) B m (Kp m) := by
      have := bad 6 (by decide)
      rw [ed] at this
      exact this
    by_cases hn : 0 ≤ (m (14 + 5 * i + 2) 11).toInt ∧ (m (14 + 5 * i + 2) 11).toInt < (if w = 0 then rbN d else wbN d : Nat)
    · by_cases hf : Bf m i (m (14 + 5 * i + 2) 12) (m (14 + 5 * i + 2) 13) (w ≠ 0)
      · obtain ⟨n, hnn, en⟩ := numN hlim hn
        have hd2 : d ≠ 2 := fun e => by
          subst e
          have z1 : rbN 2 = 0 := by decide
          have z2 : wbN 2 = 0 := by decide
          rw [z1, z2] at hnn
          split at hnn <;> omega
        have clsE : ∀ Φ, w_85 kc (14 + 5 * i) (nI d) m (fun r5 m6 => (r5 = 0 → w_137 kc (14 + 5 * i) 9 m6 (fun m7 => w_178_155 kc Φ m7)) ∧ (¬ r5 = 0 → (w = 0 → w_88 kc (14 + 5 * i) (nI d) (nI n) m6 (fun r8 m9 => w_179 kc (14 + 5 * i) r8 m9 (fun m10 => w_178_155 kc Φ m10))) ∧ (¬ w = 0 → w_89 kc (14 + 5 * i) (nI d) (nI n) m6 (fun r11 m12 => w_179 kc (14 + 5 * i) r11 m12 (fun m13 => w_178_155 kc Φ m13))))) → w_178 kc (14 + 5 * i) w m Φ := fun Φ h => by
          refine clsH Φ ?_
          unfold w_178_48
          rw [cl_12, cl_13]
          refine c_213 ?_
          rw [bI_t ((ultN hlim).mpr hn)]
          refine ⟨fun q => absurd q (by decide), fun _ => ⟨v32_12, v32_13, c_102 hP ?_⟩⟩
          rw [bI_t hf, en]
          exact ⟨fun q => absurd q (by decide), fun _ => h⟩
        have refE : ∀ M Φ, Rel m M → w_273 kc (nI i) (nI d) M (fun r1 m2 => w_289_142 kc Φ (nI i) w (nI d) (nI n) (m (14 + 5 * i + 2) 12) (m (14 + 5 * i + 2) 13) 0 r1 m2) → w_289 kc (nI i) w (m (14 + 5 * i + 2) 10) (m (14 + 5 * i + 2) 11) (m (14 + 5 * i + 2) 12) (m (14 + 5 * i + 2) 13) M Φ := fun M Φ hM h => by
          refine refH M Φ hM (fun _ => well M Φ 1 _ _ hM (fun _ => ?_) (fun q => absurd hf q)) (fun q => absurd hn q)
          unfold w_289_107 w_289_125 w_289_127
          rw [en]
          exact ⟨fun q => absurd q (by decide), fun _ => ⟨fun q => absurd q (by decide), fun _ => ⟨fun _ => h, fun q => absurd rfl q⟩⟩⟩
        by_cases hg : m (14 + 5 * i + 4) d = 0
        · by_cases hb : (m (14 + 5 * i) 7).toInt ≤ (nAt m i d).toInt
          · have I1 := ng_I hI hi hd9 hd2 hg hb
            have hP1 : cnt (ngC m i d) = cnt m := cnt_cg (by unfold ngC; rw [sv_n1 _ _ _ _ _ (by omega), sv_n1 _ _ _ _ _ (by omega), sv_n1 _ _ _ _ _ (by omega), ng3_c _ _ _ (by omega)])
            have g1 : ngC m i d (14 + 5 * i + 4) d = nAt m i d := by unfold ngC; rw [sv_n1 _ _ _ _ _ (by omega), sv_same]
            have cc : ∀ k, k ≠ 2 → k ≠ 14 + 5 * i → k ≠ 14 + 5 * i + 4 → ngC m i d k = m k := fun k q1 q2 q3 => by unfold ngC; rw [sv_cell _ _ _ _ q2, sv_cell _ _ _ _ q3, sv_cell _ _ _ _ q2, ng3_c _ _ _ q1]
            have c5' : ∀ c, c ≠ 8 → c ≠ 18 → ngC m i d (14 + 5 * i) c = m (14 + 5 * i) c := fun c q1 q2 => by unfold ngC; rw [sv_n2 _ _ _ _ q2, sv_n1 _ _ _ _ _ (by omega), sv_n2 _ _ _ _ q1, ng3_c _ _ _ (by omega)]
            have r1 : ngC m i d (14 + 5 * i + 2) = m (14 + 5 * i + 2) := cc _ (by omega) (by omega) (by omega)
            have a := nAt_I hP hd9 hb
            have nz : nAt m i d ≠ 0 := fun q => by have := a.2.1.1; rw [q] at this; simp only [Int32.reduceToInt] at this; omega
            have e1 : (-1 : Int32).toInt = -1 := by decide
            have n1 : ¬ nAt m i d = -1 := fun q => by have := a.2.1.1; rw [q] at this; omega
            obtain ⟨m', c1, c2, c3, c4, c5⟩ := al2 (kc := kc) hk I1 (i := i) (d := d) (n := n) (w := w) (by rw [hP1]; exact hi) hd9 (by rw [g1]; exact nz) hnn (by rw [r1]; exact (Bf_reg (c5' 5 (by omega) (by omega)) (c5' 7 (by omega) (by omega)) (cc _ (by omega) (by omega) (by omega)) _ _ _).mpr hf)
            have fr1 : FrC m (ngC m i d) := fun k hk => cc k (by omega) (by omega) (by omega)
            have kp1 : Kp m (ngC m i d) := Kp.of (fun k hk => cc k (by omega) (by omega) (by omega)) (by rw [cc 4 (by omega) (by omega) (by omega)])
            refine ⟨m', fun Φ h => clsE Φ (c_85 hk hI hi hd9 (fun q => ?_) (fun _ _ q => by omega) (fun _ _ _ => ⟨fun q => absurd q (by decide), fun _ => c1 Φ h⟩)), c2, fr1.trans c3, kp1.trans c4, fun M hM Φ h => refE M Φ hM (r_273 hI hM hi hd9 hd2 (fun q => absurd hg q) (fun _ q => by omega) (fun _ _ M' hR' hF' => ?_))⟩
            · rcases q with q | q
              · exact absurd q hd2
              · exact absurd hg q
            · unfold w_289_142
              refine ⟨fun q => absurd q n1, fun _ => ?_⟩
              have := c5 M' hR' Φ (fun M'' hR'' hF'' => h M'' hR'' (hF'.trans hF''))
              rw [g1, r1] at this
              exact this
          · obtain ⟨m', c1, c2, c3, c4, c5⟩ := lv_back (kc := kc) hI hi 9 (f := m (14 + 5 * i + 2) 12) (g := m (14 + 5 * i + 2) 13) rfl rfl
            refine ⟨m', fun Φ h => clsE Φ (c_85 hk hI hi hd9 (fun q => ?_) (fun _ _ _ => ⟨fun _ => c1 _ h, fun q => absurd rfl q⟩) (fun _ _ q => absurd q hb)), c2, c3, c4, fun M hM Φ h => refE M Φ hM (r_273 hI hM hi hd9 hd2 (fun q => absurd hg q) (fun _ _ => ?_) (fun _ q => absurd q hb))⟩
            · rcases q with q | q
              · exact absurd q hd2
              · exact absurd hg q
            · unfold w_289_142 w_289_164
              exact ⟨fun _ => ⟨fun _ => c5 M hM _ h, fun q => absurd rfl q⟩, fun q => absurd rfl q⟩
        · obtain ⟨m', c1, c2, c3, c4, c5⟩ := al2 (kc := kc) hk hI hi hd9 hg hnn hf
          refine ⟨m', fun Φ h => clsE Φ (c_85 hk hI hi hd9 (fun _ => ⟨fun q => absurd q (by decide), fun _ => c1 Φ h⟩) (fun _ q => absurd q hg) (fun _ q => absurd q hg)), c2, c3, c4, fun M hM Φ h => refE M Φ hM (r_273 hI hM hi hd9 hd2 (fun _ => ?_) (fun q => absurd q hg) (fun q => absurd q hg))⟩
          unfold w_289_142
          exact ⟨fun q => absurd q (gN1 hP hd9 hg), fun _ => c5 M hM Φ h⟩
      · obtain ⟨m', c1, c2, c3, c4, c5⟩ := bad6
        refine ⟨m', fun Φ h => clsH Φ ?_, c2, c3, c4, fun M hM Φ h => refH M Φ hM (fun _ => well M Φ 1 _ _ hM (fun q => absurd q hf) (fun _ => ?_)) (fun q => absurd hn q)⟩
        · unfold w_178_48 w_178_86
          rw [cl_12, cl_13]
          refine c_213 ?_
          rw [bI_t ((ultN hlim).mpr hn)]
          refine ⟨fun q => absurd q (by decide), fun _ => ⟨v32_12, v32_13, c_102 hP ?_⟩⟩
          rw [bI_f hf]
          exact ⟨fun _ => c1 _ h, fun q => absurd rfl q⟩
        · unfold w_289_107
          exact ⟨fun q => absurd q (by decide), fun _ => ⟨fun _ => c5 M hM _ h, fun q => absurd rfl q⟩⟩
    · obtain ⟨m', c1, c2, c3, c4, c5⟩ := bad6
      refine ⟨m', fun Φ h => clsH Φ ?_, c2, c3, c4, fun M hM Φ h => refH M Φ hM (fun q => absurd q hn) (fun _ => well M Φ 0 _ _ hM (fun _ => ?_) (fun _ => ?_))⟩
      · unfold w_178_48 w_178_86
        refine c_213 ?_
        rw [bI_f (fun q => hn ((ultN hlim).mp q))]
        exact ⟨fun _ => c1 _ h, fun q => absurd rfl q⟩
      · unfold w_289_107
        exact ⟨fun _ => c5 M hM _ h, fun q => absurd rfl q⟩
      · unfold w_289_107
        exact ⟨fun _ => c5 M hM _ h, fun q => absurd rfl q⟩
  · obtain ⟨m', c1, c2, c3, c4, c5⟩ := bad 11 (by decide)
    refine ⟨m', fun Φ h => ?_, c2, c3, c4, fun M hM Φ h => ?_⟩
    · unfold w_178
      rw [cl_10, cl_11]
      refine ⟨v32_10, v32_11, c_173 ?_⟩
      rw [bI_f hd]
      exact ⟨fun _ => c1 _ h, fun q => absurd rfl q⟩
    · unfold w_289
      refine r_287 ?_
      rw [bI_f hd]
      exact ⟨fun _ => c5 M hM _ h, fun q => absurd rfl q⟩
