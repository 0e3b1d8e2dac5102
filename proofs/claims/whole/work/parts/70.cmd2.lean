/-! Commands obeyed; system calls. -/
theorem ob {kc : it_Kc} (hk : KC kc) {B : Nat} {m : it_Me} (hI : Inv B m) (hB : B < 2147483000) (hl : m 7 4 = 0) {i d n : Nat} (hi : i < cnt m) (hs : m (14 + 5 * i) 9 = 1) (hd : d < 9) (hg : d ≠ 2 → m (14 + 5 * i + 4) d ≠ 0) (h5 : d = 5 → m (14 + 5 * i + 1) 12 ≠ 0) (hc : m (14 + 5 * i + 2) 11 = nI n) (hn : n < 32) (hcn : hcN d n = true) {u0 : Int32} (hu : u0 = if d = 2 then 0 else m (14 + 5 * i + 4) d) : Lv (w_37 kc (14 + 5 * i) (nI d)) (fun M Φ => w_296_115 kc Φ (nI i) (nI d) (m (14 + 5 * i + 2) 11) (m (14 + 5 * i + 2) 12) (m (14 + 5 * i + 2) 13) u0 M) (B + 1) m (Kq m) := by
  have c11 : Int32.toNatClampNeg (11 : Int32) = 11 := rfl
  have c12 : Int32.toNatClampNeg (12 : Int32) = 12 := rfl
  have c13 : Int32.toNatClampNeg (13 : Int32) = 13 := rfl
  have n4 : ¬ (m (14 + 5 * i) 9 = 4 ∨ m (14 + 5 * i) 9 = 5) := by rw [hs]; decide
  have hh := (hcI d hd n hn).1 hcn
  have un : ¬ u0 = -1 := by
    rw [hu]
    by_cases e : d = 2
    · rw [if_pos e]; decide
    · rw [if_neg e]; exact gN1 (hI.p hi) hd (hg e)
  have c3 : cmN d = 3 → d ≠ 0 → m (14 + 5 * i + 2) 11 = 1 ∨ m (14 + 5 * i + 2) 11 = 2 ∨ m (14 + 5 * i + 2) 11 = 3 := fun y _ => by
    rw [hc]
    rcases (by omega : n = 1 ∨ n = 2 ∨ n = 3) with e | e | e
    · exact Or.inl (by rw [e]; rfl)
    · exact Or.inr (Or.inl (by rw [e]; rfl))
    · exact Or.inr (Or.inr (by rw [e]; rfl))
  have pack : ∀ {C : it_Me → (it_Me → Prop) → Prop} {R : it_Me → (it_Me → Prop) → Prop} {B' : Nat}, B' ≤ B + 1 → Lv C R B' m (Kq m) → (∀ Φ, C m Φ → w_37 kc (14 + 5 * i) (nI d) m Φ) → (∀ M Φ, R M Φ → w_296_115 kc Φ (nI i) (nI d) (m (14 + 5 * i + 2) 11) (m (14 + 5 * i + 2) 12) (m (14 + 5 * i + 2) 13) u0 M) → Lv (w_37 kc (14 + 5 * i) (nI d)) (fun M Φ => w_296_115 kc Φ (nI i) (nI d) (m (14 + 5 * i + 2) 11) (m (14 + 5 * i + 2) 12) (m (14 + 5 * i + 2) 13) u0 M) (B + 1) m (Kq m) := fun hB' hL h1 h2 => by
    obtain ⟨m', a1, a2, a3, a4, a5⟩ := hL
    exact ⟨m', fun Φ h => h1 Φ (a1 Φ h), a2.mono hB', a3, a4, fun M hM Φ h => h2 M Φ (a5 M hM Φ h)⟩
  rcases (by omega : d = 0 ∨ d = 1 ∨ d = 2 ∨ d = 3 ∨ d = 4 ∨ d = 5 ∨ d = 6 ∨ d = 7 ∨ d = 8) with e | e | e | e | e | e | e | e | e
  · subst e
    rw [if_neg (by omega)] at hu
    refine pack (by omega) (d_alarm hk hI hi (hg (by omega)) n4 (m (14 + 5 * i + 2) 11) (m (14 + 5 * i + 2) 12) (m (14 + 5 * i + 2) 13)).q (fun Φ t => ?_) (fun M Φ t => ?_)
    · unfold w_37 w_37_174
      rw [c11, c12, c13]
      refine ⟨v32_11, v32_12, v32_13, ?_⟩
      (repeat' (first | exact t | (intro q; first | exact absurd q (by decide) | skip) | constructor))
    · unfold w_296_115 w_296_345
      refine ⟨fun q => absurd q un, fun _ => ?_⟩
      rw [hu]
      (repeat' (first | exact t | (intro q; first | exact absurd q (by decide) | skip) | constructor))
  · subst e
    rw [if_neg (by omega)] at hu
    refine pack (by omega) (d_console hk hI hB hi (hg (by omega)) n4 (c3 rfl (by omega)) (m (14 + 5 * i + 2) 12)) (fun Φ t => ?_) (fun M Φ t => ?_)
    · unfold w_37 w_37_174
      rw [c11, c12, c13]
      refine ⟨v32_11, v32_12, v32_13, ?_⟩
      (repeat' (first | exact t | (intro q; first | exact absurd q (by decide) | skip) | constructor))
    · unfold w_296_115 w_296_345
      refine ⟨fun q => absurd q un, fun _ => ?_⟩
      rw [hu]
      (repeat' (first | exact t | (intro q; first | exact absurd q (by decide) | skip) | constructor))
  · subst e
    refine pack (by omega) (d_lamps (kc := kc) hI hi (c3 rfl (by omega)) (m (14 + 5 * i + 2) 12)) (fun Φ t => ?_) (fun M Φ t => ?_)
    · unfold w_37 w_37_174
      rw [c11, c12, c13]
      refine ⟨v32_11, v32_12, v32_13, ?_⟩
      (repeat' (first | exact t | (intro q; first | exact absurd q (by decide) | skip) | constructor))
    · unfold w_296_115 w_296_345
      refine ⟨fun q => absurd q un, fun _ => ?_⟩
      (repeat' (first | exact t | (intro q; first | exact absurd q (by decide) | skip) | constructor))
  · subst e
    rw [if_neg (by omega)] at hu
    refine pack (by omega) (d_buttons hk hI hi (hg (by omega)) n4 (m (14 + 5 * i + 2) 11) (m (14 + 5 * i + 2) 12)).q (fun Φ t => ?_) (fun M Φ t => ?_)
    · unfold w_37 w_37_174
      rw [c11, c12, c13]
      refine ⟨v32_11, v32_12, v32_13, ?_⟩
      (repeat' (first | exact t | (intro q; first | exact absurd q (by decide) | skip) | constructor))
    · unfold w_296_115 w_296_345
      refine ⟨fun q => absurd q un, fun _ => ?_⟩
      rw [hu]
      (repeat' (first | exact t | (intro q; first | exact absurd q (by decide) | skip) | constructor))
  · subst e
    rw [if_neg (by omega)] at hu
    refine pack (by omega) (d_random hk hI hB hi (hg (by omega)) (m (14 + 5 * i + 2) 12)) (fun Φ t => ?_) (fun M Φ t => ?_)
    · unfold w_37 w_37_174
      rw [c11, c12, c13]
      refine ⟨v32_11, v32_12, v32_13, ?_⟩
      (repeat' (first | exact t | (intro q; first | exact absurd q (by decide) | skip) | constructor))
    · unfold w_296_115 w_296_345
      refine ⟨fun q => absurd q un, fun _ => ?_⟩
      rw [hu]
      (repeat' (first | exact t | (intro q; first | exact absurd q (by decide) | skip) | constructor))
  · subst e
    rw [if_neg (by omega)] at hu
    refine pack (by omega) (d_store hk hI hB hl hi (hg (by omega)) (h5 rfl) (m (14 + 5 * i + 2) 11) (m (14 + 5 * i + 2) 12) (m (14 + 5 * i + 2) 13)) (fun Φ t => ?_) (fun M Φ t => ?_)
    · unfold w_37 w_37_174
      rw [c11, c12, c13]
      refine ⟨v32_11, v32_12, v32_13, ?_⟩
      (repeat' (first | exact t | (intro q; first | exact absurd q (by decide) | skip) | constructor))
    · unfold w_296_115 w_296_345
      refine ⟨fun q => absurd q un, fun _ => ?_⟩
      rw [hu]
      (repeat' (first | exact t | (intro q; first | exact absurd q (by decide) | skip) | constructor))
  · subst e
    rw [if_neg (by omega)] at hu
    refine pack (by omega) (d_sampler hk hI hB hi (hg (by omega)) n4 (m (14 + 5 * i + 2) 11) (m (14 + 5 * i + 2) 12) (m (14 + 5 * i + 2) 13)).q (fun Φ t => ?_) (fun M Φ t => ?_)
    · unfold w_37 w_37_174
      rw [c11, c12, c13]
      refine ⟨v32_11, v32_12, v32_13, ?_⟩
      (repeat' (first | exact t | (intro q; first | exact absurd q (by decide) | skip) | constructor))
    · unfold w_296_115 w_296_345
      refine ⟨fun q => absurd q un, fun _ => ?_⟩
      rw [hu]
      (repeat' (first | exact t | (intro q; first | exact absurd q (by decide) | skip) | constructor))
  · subst e
    rw [if_neg (by omega)] at hu
    refine pack (by omega) (d_post hk hI hB hi (hg (by omega)) (m (14 + 5 * i + 2) 11) (m (14 + 5 * i + 2) 12) (m (14 + 5 * i + 2) 13)) (fun Φ t => ?_) (fun M Φ t => ?_)
    · unfold w_37 w_37_174
      rw [c11, c12, c13]
      refine ⟨v32_11, v32_12, v32_13, ?_⟩
      (repeat' (first | exact t | (intro q; first | exact absurd q (by decide) | skip) | constructor))
    · unfold w_296_115 w_296_345
      refine ⟨fun q => absurd q un, fun _ => ?_⟩
      rw [hu]
      (repeat' (first | exact t | (intro q; first | exact absurd q (by decide) | skip) | constructor))
  · subst e
    rw [if_neg (by omega)] at hu
    refine pack (by omega) (d_sums hk hI hi (hg (by omega)) (m (14 + 5 * i + 2) 12)).q (fun Φ t => ?_) (fun M Φ t => ?_)
    · unfold w_37 w_37_174
      rw [c11, c12, c13]
      refine ⟨v32_11, v32_12, v32_13, ?_⟩
      (repeat' (first | exact t | (intro q; first | exact absurd q (by decide) | skip) | constructor))
    · unfold w_296_115 w_296_345
      refine ⟨fun q => absurd q un, fun _ => ?_⟩
      rw [hu]
      (repeat' (first | exact t | (intro q; first | exact absurd q (by decide) | skip) | constructor))
/-- command 0 -/
theorem az {kc : it_Kc} {B : Nat} {m : it_Me} (hI : Inv B m) {i d : Nat} (hi : i < cnt m) (hd : d < 9) : ∃ m', (∀ Φ, Φ m' → w_181 kc (14 + 5 * i) (([0, 0, 4, 4, 0, 0, 2, 0, 0] : List Int32).getD d 0) m Φ) ∧ Inv B m' ∧ FrC m m' ∧ Kp m m' ∧ ∀ M, Rel m M → ∀ Φ, (∀ M', Rel m' M' → FrM M M' → Φ M') → (nI d = (2 : Int32) → w_296_39 kc Φ (nI i) M) ∧ (¬ nI d = (2 : Int32) → (nI d = (3 : Int32) → w_296_39 kc Φ (nI i) M) ∧ (¬ nI d = (3 : Int32) → (nI d = (6 : Int32) → w_281 kc (nI i) (2 : Int32) M (fun m5 => w_296_68 kc Φ m5)) ∧ (¬ nI d = (6 : Int32) → w_280 kc (nI i) M (fun m6 => w_296_68 kc Φ m6)))) := by
  obtain ⟨m0, a1, a2, a3, a4, a5⟩ := lv_ok (kc := kc) hI hi
  obtain ⟨m4, b1, b2, b3, b4, b5⟩ := lv_ok1 (kc := kc) hI hi 4
  obtain ⟨m2, c1, c2, c3, c4, c5⟩ := lv_ok1 (kc := kc) hI hi 2
  by_cases e : d = 2 ∨ d = 3
  · refine ⟨m4, fun Φ h => ?_, b2, b3, b4, fun M hM Φ h => ?_⟩
    · have t := b1 Φ h
      unfold w_181 w_181_16
      rcases e with e | e <;> subst e <;> exact ⟨fun q => absurd q (by decide), fun _ => t⟩
    · have t := b5 M hM Φ h
      unfold w_296_39 w_296_68
      rcases e with e | e <;> subst e
      · exact ⟨fun _ => t, fun q => absurd rfl q⟩
      · exact ⟨fun q => absurd q (by decide), fun _ => ⟨fun _ => t, fun q => absurd rfl q⟩⟩
  by_cases e6 : d = 6
  · refine ⟨m2, fun Φ h => ?_, c2, c3, c4, fun M hM Φ h => ?_⟩
    · have t := c1 Φ h
      unfold w_181 w_181_16
      subst e6
      exact ⟨fun q => absurd q (by decide), fun _ => t⟩
    · have t := c5 M hM Φ h
      unfold w_296_39 w_296_68
      subst e6
      exact ⟨fun q => absurd q (by decide), fun _ => ⟨fun q => absurd q (by decide), fun _ => ⟨fun _ => t, fun q => absurd rfl q⟩⟩⟩
  · have tb : ([0, 0, 4, 4, 0, 0, 2, 0, 0] : List Int32).getD d 0 = 0 := (by decide : ∀ d, d < 9 → ¬ (d = 2 ∨ d = 3) → ¬ d = 6 → ([0, 0, 4, 4, 0, 0, 2, 0, 0] : List Int32).getD d 0 = 0) d hd e e6
    refine ⟨m0, fun Φ h => ?_, a2, a3, a4, fun M hM Φ h => ?_⟩
    · have t := a1 Φ h
      unfold w_181 w_181_16
      rw [tb]
      exact ⟨fun _ => t, fun q => absurd rfl q⟩
    · have t := a5 M hM Φ h
      unfold w_296_39 w_296_68
      rw [show (2 : Int32) = nI 2 from rfl, show (3 : Int32) = nI 3 from rfl, show (6 : Int32) = nI 6 from rfl, nEq (by omega) (by omega), nEq (by omega) (by omega), nEq (by omega) (by omega)]
      exact ⟨fun q => absurd (Or.inl q) e, fun _ => ⟨fun q => absurd (Or.inr q) e, fun _ => ⟨fun q => absurd q e6, fun _ => t⟩⟩⟩
theorem ngC_c (m : it_Me) (i d : Nat) {k : Nat} (h : k ≠ 2 ∧ k ≠ 14 + 5 * i ∧ k ≠ 14 + 5 * i + 4) : ngC m i d k = m k := by
  unfold ngC
  rw [sv_cell _ _ _ _ h.2.1, sv_cell _ _ _ _ h.2.2, sv_cell _ _ _ _ h.2.1, ng3_c _ _ _ h.1]
theorem ngC_9 (m : it_Me) (i d : Nat) : ngC m i d (14 + 5 * i) 9 = m (14 + 5 * i) 9 := by
  unfold ngC
  rw [sv_n2 _ _ _ _ (by omega), sv_n1 _ _ _ _ _ (by omega), sv_n2 _ _ _ _ (by omega), ng3_c _ _ _ (by omega)]
theorem ngC_g (m : it_Me) (i d : Nat) : ngC m i d (14 + 5 * i + 4) d = nAt m i d := by
  unfold ngC
  rw [sv_n1 _ _ _ _ _ (by omega), sv_same]
/-- a command -/
theorem cmd {kc : it_Kc} (hk : KC kc) {B : Nat} {m : it_Me} (hI : Inv B m) (hB : B < 2147483000) (hl : m 7 4 = 0) {i : Nat} (hi : i < cnt m) (hs : m (14 + 5 * i) 9 = 1) : Lv (fun m Φ => w_180 kc (14 + 5 * i) m (fun r m1 => (r = -1 → Φ m1) ∧ (¬ r = -1 → w_37 kc (14 + 5 * i) r m1 Φ))) (fun M Φ => w_296 kc (nI i) (m (14 + 5 * i + 2) 10) (m (14 + 5 * i + 2) 11) (m (14 + 5 * i + 2) 12) (m (14 + 5 * i + 2) 13) M Φ) (B + 1) m (Kq m) := by
  have c10 : Int32.toNatClampNeg (10 : Int32) = 10 := rfl
  have c11 : Int32.toNatClampNeg (11 : Int32) = 11 := rfl
  have hP := hI.p hi
  have h8 := cnt_le hI
  obtain ⟨m11, a1, a2, a3, a4, a5⟩ := lv_fail (kc := kc) hI hi 11
  obtain ⟨m10, b1, b2, b3, b4, b5⟩ := lv_fail (kc := kc) hI hi 10
  obtain ⟨m9, f1, f2, f3, f4, f5⟩ := lv_fail (kc := kc) hI hi 9
  by_cases hD : 0 ≤ (m (14 + 5 * i + 2) 10).toInt ∧ (m (14 + 5 * i + 2) 10).toInt < 9
  · obtain ⟨d, hd, eD⟩ := numN (x := m (14 + 5 * i + 2) 10) (k := 9) (by omega) hD
    by_cases hp : pmP m i (m (14 + 5 * i + 2) 10) (m (14 + 5 * i + 2) 11)
    · by_cases h0 : m (14 + 5 * i + 2) 11 = 0
      · obtain ⟨m', d1, d2, d3, d4, d5⟩ := az (kc := kc) hI hi hd
        refine ⟨m', fun Φ h => ?_, d2.mono (by omega), d3, d4.q, fun M hM Φ h => ?_⟩
        · unfold w_180 w_180_101
          rw [c10, c11]
          refine ⟨v32_10, v32_11, c_173 ?_⟩
          rw [bI_t hD]
          refine ⟨fun q => absurd q (by decide), fun _ => c_9 hP ?_⟩
          rw [bI_t hp, eD, hk.k5]
          dsimp only
          rw [nI_clamp (by omega)]
          exact ⟨fun q => absurd q (by decide), fun _ => ⟨fun _ => ⟨v9 hd, d1 _ ⟨fun _ => h, fun q => absurd rfl q⟩⟩, fun q => absurd h0 q⟩⟩
        · have t := d5 M hM Φ h
          unfold w_296
          refine r_287 ?_
          rw [bI_t hD]
          refine ⟨fun q => absurd q (by decide), fun _ => r_294 hI hM hi ?_⟩
          rw [bI_f (fun q => q hp), eD]
          exact ⟨fun _ => ⟨fun _ => t, fun q => absurd h0 q⟩, fun q => absurd rfl q⟩
      · by_cases hh : hcP m i d (m (14 + 5 * i + 2) 11)
        · have cls : ∀ Φ, w_85 kc (14 + 5 * i) (nI d) m (fun r9 m10 => (r9 = 0 → w_136 kc (14 + 5 * i) (9 : Int32) m10 Φ) ∧ (¬ r9 = 0 → w_37 kc (14 + 5 * i) (nI d) m10 Φ)) → w_180 kc (14 + 5 * i) m (fun r m1 => (r = -1 → Φ m1) ∧ (¬ r = -1 → w_37 kc (14 + 5 * i) r m1 Φ)) := fun Φ h => by
            unfold w_180 w_180_101
            rw [c10, c11]
            refine ⟨v32_10, v32_11, c_173 ?_⟩
            rw [bI_t hD]
            refine ⟨fun q => absurd q (by decide), fun _ => c_9 hP ?_⟩
            rw [bI_t hp, eD]
            refine ⟨fun q => absurd q (by decide), fun _ => ⟨fun q => absurd q h0, fun _ => c_182 hk hd ?_⟩⟩
            rw [bI_t hh]
            have dm : ¬ nI d = -1 := nM1 (by omega)
            simp only [dm, false_implies, not_false_eq_true, not_true_eq_false, true_implies, true_and, and_true]
            exact ⟨fun q => absurd q (by decide), fun _ => h⟩
          have ref : ∀ M, Rel m M → ∀ Φ, w_296_100 kc Φ (nI i) (nI d) (m (14 + 5 * i + 2) 11) (m (14 + 5 * i + 2) 12) (m (14 + 5 * i + 2) 13) M → w_296 kc (nI i) (m (14 + 5 * i + 2) 10) (m (14 + 5 * i + 2) 11) (m (14 + 5 * i + 2) 12) (m (14 + 5 * i + 2) 13) M Φ := fun M hM Φ h => by
            unfold w_296
            refine r_287 ?_
            rw [bI_t hD]
            refine ⟨fun q => absurd q (by decide), fun _ => r_294 hI hM hi ?_⟩
            rw [bI_f (fun q => q hp), eD]
            exact ⟨fun _ => ⟨fun q => absurd q h0, fun _ => r_hc (G := fun M => w_296_100 kc Φ (nI i) (nI d) (m (14 + 5 * i + 2) 11) (m (14 + 5 * i + 2) 12) (m (14 + 5 * i + 2) 13) M) (F := fun M => w_296_92 kc Φ (nI i) M) hI hM hi hd h0 (fun _ => h) (fun q => absurd hh q)⟩, fun q => absurd rfl q⟩
          obtain ⟨g5, n, n1, n2, n3⟩ := hh
          by_cases d2 : d = 2
          · obtain ⟨m', e1, e2, e3, e4, e5⟩ := ob hk hI hB hl hi hs hd (fun q => absurd d2 q) g5 n2 n1 n3 (u0 := 0) (by rw [if_pos d2])
            refine ⟨m', fun Φ h => cls Φ (c_85 hk hI hi hd (fun _ => ⟨fun q => absurd q (by decide), fun _ => e1 _ h⟩) (fun q => absurd d2 q) (fun q => absurd d2 q)), e2, e3, e4, fun M hM Φ h => ref M hM Φ ?_⟩
            unfold w_296_100
            exact ⟨fun _ => e5 M hM Φ h, fun q => absurd (by rw [d2]; rfl) q⟩
          have d2' : ¬ nI d = (2 : Int32) := by
            rw [show (2 : Int32) = nI 2 from rfl, nEq (by omega) (by omega)]
            exact d2
          by_cases hg : m (14 + 5 * i + 4) d = 0
          · by_cases hr : (m (14 + 5 * i) 7).toInt ≤ (nAt m i d).toInt
            · have I2 := ng_I hI hi hd d2 hg hr
              have r2 : ngC m i d (14 + 5 * i + 2) = m (14 + 5 * i + 2) := ngC_c _ _ _ (by omega)
              have r1 : ngC m i d (14 + 5 * i + 1) = m (14 + 5 * i + 1) := ngC_c _ _ _ (by omega)
              have gA : ngC m i d (14 + 5 * i + 4) d ≠ 0 := by
                rw [ngC_g]
                intro q
                have := (nAt_I hP hd hr).2.1.1
                rw [q] at this
                exact absurd this (by decide)
              have fr : FrC m (ngC m i d) := fun k hk => ngC_c _ _ _ (by omega)
              have kq : Kq m (ngC m i d) := ⟨ngC_c _ _ _ (by omega), ngC_c _ _ _ (by omega)⟩
              obtain ⟨m', e1, e2, e3, e4, e5⟩ := ob hk I2 hB (by rw [ngC_c _ _ _ (by omega)]; exact hl) (i := i) (d := d) (n := n) (by rw [cnt_cg (by rw [kq.2])]; exact hi) (by rw [ngC_9]; exact hs) hd (fun _ => gA) (by rw [r1]; exact g5) (by rw [r2]; exact n2) n1 n3 (u0 := nAt m i d) (by rw [if_neg d2, ngC_g])
              rw [r2] at e5
              refine ⟨m', fun Φ h => cls Φ (c_85 hk hI hi hd (fun q => absurd (q.resolve_left d2) (fun y => y hg)) (fun _ _ q => absurd q (by omega)) (fun _ _ _ => ⟨fun q => absurd q (by decide), fun _ => e1 _ h⟩)), e2, fr.trans e3, Kq.trans kq e4, fun M hM Φ h => ref M hM Φ ?_⟩
              unfold w_296_100
              exact ⟨fun q => absurd q d2', fun _ => r_273 hI hM hi hd d2 (fun q => absurd hg q) (fun _ q => absurd q (by omega)) (fun _ _ M2 R2 F2 => e5 M2 R2 Φ (fun M' r f => h M' r (F2.trans f)))⟩
            · refine ⟨m9, fun Φ h => cls Φ (c_85 hk hI hi hd (fun q => absurd (q.resolve_left d2) (fun y => y hg)) (fun _ _ _ => ⟨fun _ => f1 _ h, fun q => absurd rfl q⟩) (fun _ _ q => absurd q hr)), f2.mono (by omega), f3, f4.q, fun M hM Φ h => ref M hM Φ ?_⟩
              unfold w_296_100 w_296_115
              exact ⟨fun q => absurd q d2', fun _ => r_273 hI hM hi hd d2 (fun q => absurd hg q) (fun _ _ => ⟨fun _ => f5 M hM _ h, fun q => absurd rfl q⟩) (fun _ q => absurd q hr)⟩
          · obtain ⟨m', e1, e2, e3, e4, e5⟩ := ob hk hI hB hl hi hs hd (fun _ => hg) g5 n2 n1 n3 (u0 := m (14 + 5 * i + 4) d) (by rw [if_neg d2])
            refine ⟨m', fun Φ h => cls Φ (c_85 hk hI hi hd (fun _ => ⟨fun q => absurd q (by decide), fun _ => e1 _ h⟩) (fun _ q => absurd q hg) (fun _ q => absurd q hg)), e2, e3, e4, fun M hM Φ h => ref M hM Φ ?_⟩
            unfold w_296_100
            exact ⟨fun q => absurd q d2', fun _ => r_273 hI hM hi hd d2 (fun _ => e5 M hM Φ h) (fun q => absurd q hg) (fun q => absurd q hg)⟩
        · refine ⟨m10, fun Φ h => ?_, b2.mono (by omega), b3, b4.q, fun M hM Φ h => ?_⟩
          · unfold w_180 w_180_101
            rw [c10, c11]
            refine ⟨v32_10, v32_11, c_173 ?_⟩
            rw [bI_t hD]
            refine ⟨fun q => absurd q (by decide), fun _ => c_9 hP ?_⟩
            rw [bI_t hp, eD]
            refine ⟨fun q => absurd q (by decide), fun _ => ⟨fun q => absurd q h0, fun _ => c_182 hk hd ?_⟩⟩
            rw [bI_f hh]
            exact ⟨fun _ => b1 _ ⟨fun _ => h, fun q => absurd rfl q⟩, fun q => absurd rfl q⟩
          · have t := b5 M hM Φ h
            unfold w_296
            refine r_287 ?_
            rw [bI_t hD]
            refine ⟨fun q => absurd q (by decide), fun _ => r_294 hI hM hi ?_⟩
            rw [bI_f (fun q => q hp), eD]
            exact ⟨fun _ => ⟨fun q => absurd q h0, fun _ => r_hc (G := fun M => w_296_100 kc Φ (nI i) (nI d) (m (14 + 5 * i + 2) 11) (m (14 + 5 * i + 2) 12) (m (14 + 5 * i + 2) 13) M) (F := fun M => w_296_92 kc Φ (nI i) M) hI hM hi hd h0 (fun q => absurd q hh) (fun _ => t)⟩, fun q => absurd rfl q⟩
    · refine ⟨m11, fun Φ h => ?_, a2.mono (by omega), a3, a4.q, fun M hM Φ h => ?_⟩
      · unfold w_180 w_180_35 w_180_101
        rw [c10, c11]
        refine ⟨v32_10, v32_11, c_173 ?_⟩
        rw [bI_t hD]
        refine ⟨fun q => absurd q (by decide), fun _ => c_9 hP ?_⟩
        rw [bI_f hp]
        exact ⟨fun _ => a1 _ ⟨fun _ => h, fun q => absurd rfl q⟩, fun q => absurd rfl q⟩
      · unfold w_296 w_296_17
        refine r_287 ?_
        rw [bI_t hD]
        refine ⟨fun q => absurd q (by decide), fun _ => r_294 hI hM hi ?_⟩
        rw [bI_t hp]
        exact ⟨fun q => absurd q (by decide), fun _ => a5 M hM Φ h⟩
  · refine ⟨m11, fun Φ h => ?_, a2.mono (by omega), a3, a4.q, fun M hM Φ h => ?_⟩
    · unfold w_180 w_180_35 w_180_101
      rw [c10, c11]
      refine ⟨v32_10, v32_11, c_173 ?_⟩
      rw [bI_f hD]
      exact ⟨fun _ => a1 _ ⟨fun _ => h, fun q => absurd rfl q⟩, fun q => absurd rfl q⟩
    · unfold w_296 w_296_17
      refine r_287 ?_
      rw [bI_f hD]
      exact ⟨fun _ => a5 M hM Φ h, fun q => absurd rfl q⟩
