/-! Apps in flash: the rest of a head, class and reference. -/
theorem gE_n (F : Nat → Int32) {X : Nat} (h : X < 2147483648) : gE F (nI X) = Gf F X := by unfold gE; rw [nI_toInt (by omega)]; rfl
theorem gwE {F : Nat → Int32} {m : it_Me} (h : FlC F m) {X : Nat} (hX : 65536 ≤ X ∧ X < 131072) : gw m (nI X) = gE F (nI X) := by rw [gE_n F (by omega), gw_in (inF hX), wiF hX, h _ (by omega)]; rfl
theorem c_2 {kc : it_Kc} {F : Nat → Int32} {m : it_Me} (hF : FlC F m) {k A : Nat} (hk : k ≠ 2) (hA : 65536 ≤ A) (h4 : A % 4 = 0) (fr : frP F A) (h1 : m k 1 = nI A) (h2 : m k 2 = Hh F (A + 2)) (h3 : m k 3 = Gf F (A + 4)) : ∃ m', (∀ Φ : Int32 → it_Me → Prop, Φ (bI (rsP F A)) m' → w_2 kc k m Φ) ∧ (∀ c, c ≠ k → m' c = m c) ∧ (m' k 1 = nI A ∧ m' k 2 = Hh F (A + 2) ∧ m' k 3 = Gf F (A + 4)) ∧ (rsP F A → hdF F A (m' k)) := by
  obtain ⟨f1, f2, f3, f4, f5, f6, f7, f8⟩ := frF fr hA
  rw [f1] at h2
  have b34 : ∀ {Φ : Int32 → it_Me → Prop}, w_2_34 kc Φ k (xrF F A (hsz F A / 4) 0 0) m → w_2 kc k m Φ := fun {Φ} h => ⟨_, c_2l (by omega) hF h1 h2 (K := fun v0 v1 m => w_2_34 kc Φ v0 v1 m) (hsz F A / 4) 0 0 (by omega) h⟩
  have b59 : ∀ {Φ : Int32 → it_Me → Prop}, w_2_59 kc Φ k (xrF F A (hsz F A / 4) 0 0) (bI (Gf F (A + 8) &&& 1 = 1)) m → w_2 kc k m Φ := fun {Φ} h => b34 (by
    unfold w_2_34
    rw [h1, n_8]
    refine c12F hF (by omega) ⟨fun q => ?_, fun q => ?_⟩
    · rw [bI_t q] at h; exact h
    · rw [bI_f q] at h; exact h)
  by_cases pre : xrF F A (hsz F A / 4) 0 0 = 0 ∧ Gf F (A + 8) &&& 1 = 1
  · -- the elements
    generalize hσ : uS (uS (uS (uS (uS (m k) 8 0) 9 0) 10 0) 12 0) 13 0 = σ
    have s0 : it_sv (it_sv (it_sv (it_sv (it_sv m k 8 0) k 9 0) k 10 0) k 12 0) k 13 0 = it_up m k σ := by
      rw [← hσ]
      simp only [sv_up, up_same, up_up2]
    have slo : ∀ i, i < 8 → σ i = m k i := fun i hi => by
      rw [← hσ, uS_n _ _ (by omega), uS_n _ _ (by omega), uS_n _ _ (by omega), uS_n _ _ (by omega), uS_n _ _ (by omega)]
    have se : eqE (fun _ => 0) σ := by
      refine ⟨fun i hi => ?_, fun q => absurd rfl q, fun q => absurd rfl q⟩
      rw [← hσ]
      rcases hi with rfl | rfl | rfl | rfl | rfl
      · rw [uS_n _ _ (by omega), uS_n _ _ (by omega), uS_n _ _ (by omega), uS_n _ _ (by omega), uS_s]
      · rw [uS_n _ _ (by omega), uS_n _ _ (by omega), uS_n _ _ (by omega), uS_s]
      · rw [uS_n _ _ (by omega), uS_n _ _ (by omega), uS_s]
      · rw [uS_n _ _ (by omega), uS_s]
      · rw [uS_s]
    obtain ⟨eo, ee⟩ := el_eq F A (hsz F A) 124 16 se
    generalize hτ : (elR F A (hsz F A) 124 16 σ).2 = τ
    rw [hτ] at ee
    have tlo : ∀ i, i < 8 → τ i = m k i := fun i hi => by rw [← hτ, el_lo _ _ _ _ _ _ hi, slo i hi]
    have w3 : ∀ {Ψ : Int32 → it_Me → Prop}, (if okE F A then Ψ 1 (it_up m k τ) else Ψ 0 (it_up m k τ)) → w_3 kc k m Ψ := fun {Ψ} h => by
      unfold w_3
      rw [s0]
      have cs : it_up m k σ k = σ := up_same _ _ _
      refine ⟨125, c_3l hk (A := A) (hs := hsz F A) (by omega) (by omega) (K0 := fun m => w_3_79 kc Ψ m) (K1 := fun m => w_3_116 kc Ψ m) 124 16 (it_up m k σ) (by omega) (hF.cg (up_cell _ _ _ (Ne.symm hk))) (by rw [cs, slo 1 (by omega)]; exact h1) (by rw [cs, slo 2 (by omega)]; exact h2) (by omega) ?_⟩
      rw [cs, up_up2, hτ, ← eo]
      exact h
    have b3 : ∀ {Φ : Int32 → it_Me → Prop}, (if okE F A then ((τ 9 = 0 → w_2_95 kc Φ k (τ 8) (it_up m k τ)) ∧ (¬ τ 9 = 0 → w_2_95 kc Φ k (τ 9) (it_up m k τ))) else Φ 0 (it_up m k τ)) → w_2 kc k m Φ := fun {Φ} h => b59 (by
      rw [pre.1, bI_t pre.2]
      unfold w_2_59 w_2_75
      refine ⟨fun _ => ⟨fun q => absurd q (by decide), fun _ => w3 ?_⟩, fun q => absurd rfl q⟩
      by_cases ok : okE F A
      · rw [if_pos ok] at h ⊢
        rw [up_same]
        exact ⟨fun q => absurd q (by decide), fun _ => h⟩
      · rw [if_neg ok] at h ⊢
        exact ⟨fun _ => h, fun q => absurd rfl q⟩)
    by_cases ok : okE F A
    · -- the fields
      have e8 : sE F A 8 = τ 8 := ee.1 8 (by omega)
      have e9 : sE F A 9 = τ 9 := ee.1 9 (by omega)
      have eu : uE F A = if τ 9 = 0 then τ 8 else τ 9 := by unfold uE; rw [e8, e9]
      generalize hu : uE F A = u at *
      have cc : ∀ (m' : it_Me) (i : Nat) (v : Int32), m' 2 = m 2 → it_sv m' k i v 2 = m 2 := fun m' i v e => by rw [sv_cell _ _ _ _ (Ne.symm hk)]; exact e
      have u2 : it_up m k τ 2 = m 2 := up_cell _ _ _ (Ne.symm hk)
      have gwe : ∀ (m' : it_Me) (a : Int32), m' 2 = m 2 → gw m' a = gw m a := fun m' a e => gw_c2 e a
      generalize hx6 : (if τ 9 = 0 then Gf F (A + 4) else gw m (u + 12)) = x6
      generalize hx7 : (if τ 9 = 0 then 0 else gw m (u + 16)) = x7
      have fin : ∀ {Φ : Int32 → it_Me → Prop}, Φ (bI (u ≠ 0)) (it_sv (it_sv (it_sv (it_sv (it_up m k τ) k 4 (gw m u)) k 5 (gw m (u + 8))) k 6 x6) k 7 x7) → w_2_95 kc Φ k u (it_up m k τ) := fun {Φ} h => by
        unfold w_2_95
        refine c_12 ?_
        rw [gwe _ _ u2]
        refine c_12 ?_
        rw [gwe _ _ (cc _ _ _ u2)]
        have r9 : it_sv (it_sv (it_up m k τ) k 4 (gw m u)) k 5 (gw m (u + 8)) k 9 = τ 9 := by rw [sv_n2 _ _ _ _ (by omega), sv_n2 _ _ _ _ (by omega), up_same]
        have r3 : it_sv (it_sv (it_up m k τ) k 4 (gw m u)) k 5 (gw m (u + 8)) k 3 = Gf F (A + 4) := by rw [sv_n2 _ _ _ _ (by omega), sv_n2 _ _ _ _ (by omega), up_same, tlo 3 (by omega)]; exact h3
        have end7 : ∀ y, Φ (bI (u ≠ 0)) (it_sv (it_sv (it_sv (it_sv (it_up m k τ) k 4 (gw m u)) k 5 (gw m (u + 8))) k 6 x6) k 7 y) → w_2_175 kc Φ u k y (it_sv (it_sv (it_sv (it_up m k τ) k 4 (gw m u)) k 5 (gw m (u + 8))) k 6 x6) := fun y h => by
          unfold w_2_175 w_2_187
          refine ⟨fun q => ⟨Or.inl rfl, ?_⟩, fun q => ⟨Or.inr rfl, ?_⟩⟩
          · rw [bI_f (fun z => z q)] at h; exact h
          · rw [bI_t q] at h; exact h
        have b149 : w_2_149 kc Φ k u k x6 (it_sv (it_sv (it_up m k τ) k 4 (gw m u)) k 5 (gw m (u + 8))) := by
          unfold w_2_149
          rw [sv_n2 _ _ _ _ (show 9 ≠ 6 by omega), r9]
          refine ⟨fun q => end7 _ ?_, fun q => c_12 ?_⟩
          · rw [if_pos q] at hx7
            rw [← hx7] at h
            exact h
          · rw [gwe _ _ (cc _ _ _ (cc _ _ _ (cc _ _ _ u2)))]
            rw [if_neg q] at hx7
            rw [hx7]
            exact end7 _ h
        rw [r9, r3]
        refine ⟨fun q => ?_, fun q => c_12 ?_⟩
        · rw [if_pos q] at hx6
          rw [hx6]; exact b149
        · rw [gwe _ _ (cc _ _ _ (cc _ _ _ u2))]
          rw [if_neg q] at hx6
          rw [hx6]; exact b149
      refine ⟨it_sv (it_sv (it_sv (it_sv (it_up m k τ) k 4 (gw m u)) k 5 (gw m (u + 8))) k 6 x6) k 7 x7, fun Φ h => b3 ?_, fun c hc => by rw [sv_cell _ _ _ _ hc, sv_cell _ _ _ _ hc, sv_cell _ _ _ _ hc, sv_cell _ _ _ _ hc, up_cell _ _ _ hc], ?_, fun rs => ?_⟩
      · rw [if_pos ok]
        have hh : Φ (bI (u ≠ 0)) (it_sv (it_sv (it_sv (it_sv (it_up m k τ) k 4 (gw m u)) k 5 (gw m (u + 8))) k 6 x6) k 7 x7) := by
          rw [bI_cg (show u ≠ 0 ↔ rsP F A from ⟨fun y => ⟨pre, ok, by rw [hu]; exact y⟩, fun y => by rw [← hu]; exact y.2.2⟩)]
          exact h
        have := fin hh
        refine ⟨fun q => ?_, fun q => ?_⟩
        · rw [if_pos q] at eu; rw [← eu]; exact this
        · rw [if_neg q] at eu; rw [← eu]; exact this
      · refine ⟨?_, ?_, ?_⟩
        · rw [sv_n2 _ _ _ _ (by omega), sv_n2 _ _ _ _ (by omega), sv_n2 _ _ _ _ (by omega), sv_n2 _ _ _ _ (by omega), up_same, tlo 1 (by omega)]; exact h1
        · rw [sv_n2 _ _ _ _ (by omega), sv_n2 _ _ _ _ (by omega), sv_n2 _ _ _ _ (by omega), sv_n2 _ _ _ _ (by omega), up_same, tlo 2 (by omega), f1]; exact h2
        · rw [sv_n2 _ _ _ _ (by omega), sv_n2 _ _ _ _ (by omega), sv_n2 _ _ _ _ (by omega), sv_n2 _ _ _ _ (by omega), up_same, tlo 3 (by omega)]; exact h3
      · obtain ⟨X, x1, x2, x3, x4, x5⟩ := uE_in h4 rs.2.2
        rw [hu] at x1
        have g0 : gw m u = gE F u := by rw [x1]; exact gwE hF (by omega)
        have g8 : gw m (u + 8) = gE F (u + 8) := by rw [x1, n_8]; exact gwE hF (by omega)
        have hi : ∀ i, 8 ≤ i → it_sv (it_sv (it_sv (it_sv (it_up m k τ) k 4 (gw m u)) k 5 (gw m (u + 8))) k 6 x6) k 7 x7 k i = τ i := fun i hi => by
          rw [sv_n2 _ _ _ _ (by omega), sv_n2 _ _ _ _ (by omega), sv_n2 _ _ _ _ (by omega), sv_n2 _ _ _ _ (by omega), up_same]
        unfold hdF
        rw [hu]
        refine ⟨⟨?_, ?_, ?_, ?_⟩, fun i h => ?_, fun h => ?_, fun h => ?_⟩
        · rw [sv_n2 _ _ _ _ (by omega), sv_n2 _ _ _ _ (by omega), sv_n2 _ _ _ _ (by omega), sv_same, g0]
        · rw [sv_n2 _ _ _ _ (by omega), sv_n2 _ _ _ _ (by omega), sv_same, g8]
        · rw [sv_n2 _ _ _ _ (by omega), sv_same, e9, ← hx6]
          by_cases q : τ 9 = 0
          · rw [if_pos q, if_pos q]
          · rw [if_neg q, if_neg q]
            have := x5 (by rw [e9]; exact q)
            rw [x1, n_12]
            exact gwE hF (by omega)
        · rw [sv_same, e9, ← hx7]
          by_cases q : τ 9 = 0
          · rw [if_pos q, if_pos q]
          · rw [if_neg q, if_neg q]
            have := x5 (by rw [e9]; exact q)
            rw [x1, n_16]
            exact gwE hF (by omega)
        · rw [hi i (by omega)]; exact ee.1 i h
        · rw [hi 11 (by omega)]; exact ee.2.1 h
        · rw [hi 14 (by omega)]; exact ee.2.2 h
    · have nr : ¬ rsP F A := fun y => ok y.2.1
      refine ⟨it_up m k τ, fun Φ h => b3 (by rw [if_neg ok]; rw [bI_f nr] at h; exact h), fun c hc => up_cell _ _ _ hc, by rw [up_same, tlo 1 (by omega), tlo 2 (by omega), tlo 3 (by omega), f1]; exact ⟨h1, h2, h3⟩, fun y => absurd y nr⟩
  · have nr : ¬ rsP F A := fun y => pre y.1
    refine ⟨m, fun Φ h => b59 ?_, fun _ _ => rfl, ⟨h1, by rw [f1]; exact h2, h3⟩, fun y => absurd y nr⟩
    rw [bI_f nr] at h
    unfold w_2_59 w_2_75
    refine ⟨fun q => ⟨fun _ => h, fun q2 => ?_⟩, fun _ => h⟩
    by_cases z : Gf F (A + 8) &&& 1 = 1
    · exact absurd ⟨q, z⟩ pre
    · rw [bI_f z] at q2; exact absurd rfl q2
