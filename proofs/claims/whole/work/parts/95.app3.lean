/-! Apps in flash: the elements, class and reference. -/
theorem rT_r24 (N : it_Me) (a b c d e : Int32) : rT N a b c d e 66 24 = a := by unfold rT; rw [if_pos ⟨rfl, rfl⟩]
theorem rT_r26 (N : it_Me) (a b c d e : Int32) : rT N a b c d e 66 26 = c := by unfold rT; rw [if_neg (by omega), if_neg (by omega), if_pos ⟨rfl, rfl⟩]
theorem rT_r27 (N : it_Me) (a b c d e : Int32) : rT N a b c d e 66 27 = d := by unfold rT; rw [if_neg (by omega), if_neg (by omega), if_neg (by omega), if_pos ⟨rfl, rfl⟩]
theorem nz_0 {x : Int32} (h : x ≠ 0) : nz x = x := by unfold nz; rw [if_neg h]
theorem nl_0 {x : Int32} (h : x ≠ 0) (y : Int32) : nl x y = y := by unfold nl; rw [if_neg h]
theorem r_els {kc : it_Kc} {N : it_Me} {σ : Nat → Int32} (hσ : noM σ) {t l v1 v2 v5 v6 v9 : Int32} (hl : ∃ k, k < 65536 ∧ l = nI k) (ha : v5 + 4 ≠ 0) {Φ : Int32 → it_Me → Prop} {K : Int32 → Int32 → Int32 → Int32 → Int32 → Int32 → it_Me → Prop} {K136 : it_Me → Prop} {K331 : Int32 → Int32 → Int32 → Int32 → it_Me → Prop}
  (h : K v1 v2 (nz (tkE σ t l (v5 + 4) 8)) (nz (tkE σ t l (v5 + 4) 9)) v9 v6 (rE N (tkE σ t l (v5 + 4)))) :
  (t = (1 : Int32) → (l = (12 : Int32) → (nz (σ 8) = (-1 : Int32) → w_245_164 kc Φ K K136 K331 v1 v2 (nz (σ 9)) v5 v6 t l v9 (v5 + (4 : Int32)) (rE N σ)) ∧ (¬ nz (σ 8) = (-1 : Int32) → w_245_163 kc Φ K K136 K331 v1 v2 (nz (σ 8)) (nz (σ 9)) v5 v6 t l v9 (rE N σ))) ∧ (¬ l = (12 : Int32) → w_245_163 kc Φ K K136 K331 v1 v2 (nz (σ 8)) (nz (σ 9)) v5 v6 t l v9 (rE N σ))) ∧ (¬ t = (1 : Int32) → w_245_163 kc Φ K K136 K331 v1 v2 (nz (σ 8)) (nz (σ 9)) v5 v6 t l v9 (rE N σ)) := by
  obtain ⟨kl, hkl, el⟩ := hl
  have n8 := nz_1 (σ 8) (hσ 8 (by omega))
  have n9 := nz_1 (σ 9) (hσ 9 (by omega))
  have n10 := nz_1 (σ 10) (hσ 10 (by omega))
  have n12 := nz_1 (σ 12) (hσ 12 (by omega))
  have n13 := nz_1 (σ 13) (hσ 13 (by omega))
  generalize eτ : tkE σ t l (v5 + 4) = τ at h
  -- the end: permissions
  have s273 : ∀ {a b c : Int32}, a = nz (τ 10) → b = nl (τ 10) (τ 11) → c = nz (τ 12) → w_245_273 kc Φ K K136 K331 v1 v2 (nz (τ 8)) (nz (τ 9)) v5 v6 t l v9 (rT N a b c (nz (σ 13)) (nl (σ 13) (σ 14))) := fun {a b c} ea eb ec => by
    subst ea eb ec
    unfold w_245_273 w_245_324
    have no : ¬ (t = 8 ∧ ¬ l < 8 ∧ ¬ 64 < l ∧ l &&& 7 = 0 ∧ σ 13 = 0) → K v1 v2 (nz (τ 8)) (nz (τ 9)) v9 v6 (rT N (nz (τ 10)) (nl (τ 10) (τ 11)) (nz (τ 12)) (nz (σ 13)) (nl (σ 13) (σ 14))) := fun q => by
      have e13 : τ 13 = σ 13 := by rw [← eτ]; exact tkP (Or.inl rfl) q
      have e14 : τ 14 = σ 14 := by rw [← eτ]; exact tkP (Or.inr rfl) q
      unfold rE at h
      rw [e13, e14] at h
      exact h
    rw [rT_r27, rT_27, rT_28]
    refine ⟨fun q1 => ⟨fun q2 => no (fun y => y.2.1 q2), fun q2 => ⟨fun q3 => no (fun y => y.2.2.1 q3), fun q3 => ⟨by decide, fun q4 => ⟨fun q5 => ?_, fun q5 => no (fun y => q5 (n13.2 y.2.2.2.2))⟩, fun q4 => no (fun y => q4 ?_)⟩⟩⟩, fun q1 => no (fun y => q1 y.1)⟩
    · have k64 : kl < 65 := by
        rw [el, Int32.lt_iff_toInt_lt, nI_toInt (by omega)] at q3
        simp only [Int32.reduceToInt] at q3
        omega
      have c5 : t = 8 ∧ ¬ l < 8 ∧ ¬ 64 < l ∧ l &&& 7 = 0 ∧ σ 13 = 0 := ⟨q1, q2, q3, by rw [el] at q4 ⊢; exact (rm8 kl k64).1 q4, n13.1 q5⟩
      have e := tkQ (a := v5 + 4) c5
      rw [eτ] at e
      have e13 : τ 13 = v5 + 4 := by rw [e, uS_n _ _ (by omega), uS_s]
      have e14 : τ 14 = l := by rw [e, uS_s]
      unfold rE at h
      rw [e13, e14, nz_0 ha, nl_0 ha] at h
      exact h
    · have k64 : kl < 65 := by
        have y3 := y.2.2.1
        rw [el, Int32.lt_iff_toInt_lt, nI_toInt (by omega)] at y3
        simp only [Int32.reduceToInt] at y3
        omega
      have y4 := y.2.2.2.1
      rw [el] at y4 ⊢
      exact (rm8 kl k64).2 y4
  -- the name
  have s229 : w_245_229 kc Φ K K136 K331 v1 v2 (nz (τ 8)) (nz (τ 9)) v5 v6 t l v9 (nz (τ 12)) (rE N σ) := by
    unfold w_245_229 rE
    rw [rT_26, rT_r24, rT_24, rT_25]
    have no : ¬ (t = 3 ∧ ¬ l < 1 ∧ ¬ 16 < l ∧ σ 10 = 0) → w_245_273 kc Φ K K136 K331 v1 v2 (nz (τ 8)) (nz (τ 9)) v5 v6 t l v9 (rT N (nz (σ 10)) (nl (σ 10) (σ 11)) (nz (τ 12)) (nz (σ 13)) (nl (σ 13) (σ 14))) := fun q => by
      have e10 : τ 10 = σ 10 := by rw [← eτ]; exact tkO (Or.inl rfl) q
      have e11 : τ 11 = σ 11 := by rw [← eτ]; exact tkO (Or.inr rfl) q
      exact s273 (by rw [e10]) (by rw [e10, e11]) rfl
    refine ⟨fun q1 => ⟨fun q2 => no (fun y => y.2.1 q2), fun q2 => ⟨fun q3 => no (fun y => y.2.2.1 q3), fun q3 => ⟨fun q4 => ?_, fun q4 => no (fun y => q4 (n10.2 y.2.2.2))⟩⟩⟩, fun q1 => no (fun y => q1 y.1)⟩
    have e := tkN (a := v5 + 4) (show t = 3 ∧ ¬ l < 1 ∧ ¬ 16 < l ∧ σ 10 = 0 from ⟨q1, q2, q3, n10.1 q4⟩)
    rw [eτ] at e
    have e10 : τ 10 = v5 + 4 := by rw [e, uS_n _ _ (by omega), uS_s]
    have e11 : τ 11 = l := by rw [e, uS_s]
    exact s273 (by rw [e10, nz_0 ha]) (by rw [e10, e11, nl_0 ha]) rfl
  -- the number for the store
  have s194 : w_245_194 kc Φ K K136 K331 v1 v2 (nz (τ 8)) v5 v6 t l v9 (nz (τ 9)) (rE N σ) := by
    have t12 := tk12 σ t l (v5 + 4)
    rw [eτ] at t12
    have r26 : rE N σ 66 26 = nz (σ 12) := rT_r26 _ _ _ _ _ _
    unfold w_245_194 w_245_225
    rw [r26]
    have no : ¬ (t = 7 ∧ l = 4 ∧ σ 12 = 0) → w_245_229 kc Φ K K136 K331 v1 v2 (nz (τ 8)) (nz (τ 9)) v5 v6 t l v9 (nz (σ 12)) (rE N σ) := fun q => by
      rw [if_neg q] at t12
      rw [← t12]
      exact s229
    refine ⟨fun q1 => ⟨fun q2 => ⟨fun q3 => ?_, fun q3 => no (fun y => q3 (n12.2 y.2.2))⟩, fun q2 => no (fun y => q2 y.2.1)⟩, fun q1 => no (fun y => q1 y.1)⟩
    rw [if_pos ⟨q1, q2, n12.1 q3⟩] at t12
    have := s229
    rw [t12, nz_0 ha] at this
    exact this
  -- the program
  have s164 : w_245_164 kc Φ K K136 K331 v1 v2 (nz (σ 9)) v5 v6 t l v9 (nz (τ 8)) (rE N σ) := by
    have t9 := tk9 σ t l (v5 + 4)
    rw [eτ] at t9
    unfold w_245_164 w_245_192
    have no : ¬ (t = 9 ∧ l = 20 ∧ σ 9 = 0) → w_245_194 kc Φ K K136 K331 v1 v2 (nz (τ 8)) v5 v6 t l v9 (nz (σ 9)) (rE N σ) := fun q => by
      rw [if_neg q] at t9
      rw [← t9]
      exact s194
    refine ⟨fun q1 => ⟨fun q2 => ⟨fun q3 => ?_, fun q3 => no (fun y => q3 (n9.2 y.2.2))⟩, fun q2 => no (fun y => q2 y.2.1)⟩, fun q1 => no (fun y => q1 y.1)⟩
    rw [if_pos ⟨q1, q2, n9.1 q3⟩] at t9
    have := s194
    rw [t9, nz_0 ha] at this
    exact this
  have t8 := tk8 σ t l (v5 + 4)
  rw [eτ] at t8
  unfold w_245_163
  have no : ¬ (t = 1 ∧ l = 12 ∧ σ 8 = 0) → w_245_164 kc Φ K K136 K331 v1 v2 (nz (σ 9)) v5 v6 t l v9 (nz (σ 8)) (rE N σ) := fun q => by
    rw [if_neg q] at t8
    rw [← t8]
    exact s164
  refine ⟨fun q1 => ⟨fun q2 => ⟨fun q3 => ?_, fun q3 => no (fun y => q3 (n8.2 y.2.2))⟩, fun q2 => no (fun y => q2 y.2.1)⟩, fun q1 => no (fun y => q1 y.1)⟩
  rw [if_pos ⟨q1, q2, n8.1 q3⟩] at t8
  have := s164
  rw [t8, nz_0 ha] at this
  exact this
