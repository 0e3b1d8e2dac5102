/-! Apps in flash: the rest of a head, reference. -/
def hdM (F : Nat → Int32) (N : it_Me) (A : Nat) : it_Me := it_sv (it_sv (it_sv (it_sv (rE N (sE F A)) 66 20 (gE F (uE F A))) 66 21 (gE F (uE F A + 8))) 66 22 (if sE F A 9 = 0 then Gf F (A + 4) else gE F (uE F A + 12))) 66 23 (if sE F A 9 = 0 then 0 else gE F (uE F A + 16))
theorem rT_id (N : it_Me) : rT N (N 66 24) (N 66 25) (N 66 26) (N 66 27) (N 66 28) = N := by
  funext k j
  unfold rT
  by_cases a : k = 66 ∧ j = 24
  · rw [if_pos a, a.1, a.2]
  rw [if_neg a]
  by_cases b : k = 66 ∧ j = 25
  · rw [if_pos b, b.1, b.2]
  rw [if_neg b]
  by_cases c : k = 66 ∧ j = 26
  · rw [if_pos c, c.1, c.2]
  rw [if_neg c]
  by_cases d : k = 66 ∧ j = 27
  · rw [if_pos d, d.1, d.2]
  rw [if_neg d]
  by_cases e : k = 66 ∧ j = 28
  · rw [if_pos e, e.1, e.2]
  rw [if_neg e]
theorem nz0 : nz (0 : Int32) = -1 := by unfold nz; rw [if_pos rfl]
theorem rT_0 (N : it_Me) : it_sv (it_sv (it_sv (it_sv (it_sv N 66 24 (-1)) 66 25 0) 66 26 (-1)) 66 27 (-1)) 66 28 0 = rE N (fun _ => 0) := by
  have h := rT_id N
  conv => lhs; rw [← h]
  rw [rT_24, rT_25, rT_26, rT_27, rT_28]
  unfold rE nl
  rw [nz0, if_pos rfl]
theorem r_245 {kc : it_Kc} {F : Nat → Int32} {N : it_Me} (hF : FlR F N) {A : Nat} (hA : 65536 ≤ A) (h4 : A % 4 = 0) (fr : frP F A) (h18 : N 66 18 = Hh F (A + 2)) (h19 : N 66 19 = Gf F (A + 4)) : ∃ N', (∀ Φ : Int32 → it_Me → Prop, Φ (bI (rsP F A)) N' → w_245 kc (nI A) N Φ) ∧ (∀ c, c ≠ 66 → N' c = N c) ∧ (∀ j, j < 20 ∨ 28 < j → N' 66 j = N 66 j) ∧ (rsP F A → N' = hdM F N A) := by
  obtain ⟨f1, f2, f3, f4, f5, f6, f7, f8⟩ := frF fr hA
  rw [f1] at h18
  have key : ∀ {Φ : Int32 → it_Me → Prop}, (if okE F A then w_245_331 kc Φ (nI A) (xrF F A (hsz F A / 4) 0 0) (nz (sE F A 8)) (nz (sE F A 9)) (rE N (sE F A)) else Φ 0 (rE N (sE F A))) → w_245 kc (nI A) N Φ := fun {Φ} h => by
    unfold w_245
    rw [n_12]
    refine r220F hF (by omega) (by omega) ⟨_, r_245x (by omega) h4 hF h18 (K := fun v1 v2 m => w_245_45 kc Φ v1 v2 m) (hsz F A / 4) 0 (Gf F (A + 12)) (by omega) ?_⟩
    have e := xrG_lo F A (hsz F A / 4) 0 0 (by omega) (by omega)
    rw [Int32.zero_xor] at e
    show w_245_45 kc Φ (nI A) (xrG F A (hsz F A / 4) 0 (Gf F (A + 12))) N
    rw [e]
    unfold w_245_45
    rw [rT_0, show rE N (fun _ => 0) 66 18 = nI (hsz F A) from (rT_j _ _ _ _ _ _ (by omega)).trans h18, n_16, show nI A + nI (hsz F A) = nI (A + hsz F A) from nI_add _ _]
    have := r_245l (kc := kc) (F := F) (A := A) (hs := hsz F A) (by omega) h4 hF (v2 := xrF F A (hsz F A / 4) 0 0) (Φ := Φ) (K0 := fun m => w_245_136 kc Φ m) (K1 := fun v1 v2 v3 v4 m => w_245_331 kc Φ v1 v2 v3 v4 m) 124 16 (fun _ => 0) (fun i _ => show (0 : Int32) ≠ -1 by decide) (by omega) (by omega) (by omega) (by
      by_cases ok : okE F A
      · rw [if_pos ok] at h
        rw [if_pos ok]
        exact h
      · rw [if_neg ok] at h
        rw [if_neg ok]
        exact h)
    rw [nz0] at this
    exact ⟨_, this⟩
  have rf : ∀ c, c ≠ 66 → rE N (sE F A) c = N c := fun c hc => rE_f _ _ hc
  have rj : ∀ j, j < 20 ∨ 28 < j → rE N (sE F A) 66 j = N 66 j := fun j hj => rT_j _ _ _ _ _ _ (by omega)
  by_cases ok : okE F A
  · by_cases pre : xrF F A (hsz F A / 4) 0 0 = 0 ∧ Gf F (A + 8) &&& 1 = 1
    · have hF' : FlR F (rE N (sE F A)) := hF.cg (rE_f _ _ (by omega))
      have in9 := (sE_in F h4).2.1
      have in8 := (sE_in F h4).1
      have n1 : ∀ {x : Int32}, (x = 0 ∨ ∃ X, x = nI X ∧ A + 20 ≤ X ∧ X + 12 ≤ A + hsz F A) → (nz x = -1 ↔ x = 0) := fun {x} hx => nz_1 x (by
        rcases hx with e | ⟨X, e, _, _⟩
        · rw [e]; decide
        · rw [e]; exact nM1 (by omega))
      have z9 : nz (sE F A 9) = -1 ↔ sE F A 9 = 0 := n1 (by rcases in9 with e | ⟨X, e, a, b, _⟩; exact Or.inl e; exact Or.inr ⟨X, e, a, by omega⟩)
      have z8 : nz (sE F A 8) = -1 ↔ sE F A 8 = 0 := n1 (by rcases in8 with e | ⟨X, e, a, b, _⟩; exact Or.inl e; exact Or.inr ⟨X, e, a, by omega⟩)
      have k331 : ∀ {Φ : Int32 → it_Me → Prop}, w_245_343 kc Φ (nI A) 0 (nz (sE F A 9)) (nz (uE F A)) (rE N (sE F A)) → w_245 kc (nI A) N Φ := fun {Φ} h => key (by
        rw [if_pos ok, pre.1]
        unfold w_245_331
        unfold uE at h
        refine ⟨fun q => ?_, fun q => ?_⟩
        · rw [if_pos (z9.1 q)] at h; exact h
        · rw [if_neg (fun y => q (z9.2 y))] at h; exact h)
      have fl : ¬ Gf F (A + 8) &&& 1 = 0 := fun y => absurd (pre.2.symm.trans y) (by decide)
      by_cases hu : uE F A = 0
      · have nr : ¬ rsP F A := fun y => y.2.2 hu
        refine ⟨rE N (sE F A), fun Φ h => k331 ?_, rf, rj, fun y => absurd y nr⟩
        rw [bI_f nr] at h
        unfold w_245_343 w_245_368
        rw [n_8, hu, nz0]
        exact ⟨fun _ => r220F hF' (by omega) (by omega) ⟨fun q => absurd q fl, fun _ => ⟨fun _ => h, fun q => absurd rfl q⟩⟩, fun q => absurd rfl q⟩
      · obtain ⟨X, x1, x2, x3, x4, x5⟩ := uE_in h4 hu
        have rs : rsP F A := ⟨pre, ok, hu⟩
        have nzu : nz (uE F A) = nI X := by rw [nz_0 hu, x1]
        have nzm : ¬ nI X = -1 := nM1 (by omega)
        refine ⟨hdM F N A, fun Φ h => k331 ?_, fun c hc => by unfold hdM; rw [sv_cell _ _ _ _ hc, sv_cell _ _ _ _ hc, sv_cell _ _ _ _ hc, sv_cell _ _ _ _ hc]; exact rf c hc, fun j hj => by unfold hdM; rw [sv_n2 _ _ _ _ (by omega), sv_n2 _ _ _ _ (by omega), sv_n2 _ _ _ _ (by omega), sv_n2 _ _ _ _ (by omega)]; exact rj j hj, fun _ => rfl⟩
        rw [bI_t rs] at h
        unfold hdM at h
        rw [x1, n_8, n_12, n_16, gE_n F (by omega), gE_n F (by omega), gE_n F (by omega), gE_n F (by omega)] at h
        have g1 : FlR F (it_sv (rE N (sE F A)) 66 20 (Gf F X)) := hF'.sv (by omega)
        have g2 : FlR F (it_sv (it_sv (rE N (sE F A)) 66 20 (Gf F X)) 66 21 (Gf F (X + 8))) := g1.sv (by omega)
        have v19 : it_sv (it_sv (rE N (sE F A)) 66 20 (Gf F X)) 66 21 (Gf F (X + 8)) 66 19 = Gf F (A + 4) := by rw [sv_n2 _ _ _ _ (by omega), sv_n2 _ _ _ _ (by omega), rj 19 (by omega)]; exact h19
        unfold w_245_343
        rw [n_8, nzu]
        refine ⟨fun _ => r220F hF' (by omega) (by omega) ⟨fun q => absurd q fl, fun _ => ⟨fun q => absurd q nzm, fun _ => r220F hF' (by omega) x4 ?_⟩⟩, fun q => absurd rfl q⟩
        rw [n_8]
        refine r220F g1 (by omega) (by omega) ?_
        by_cases q9 : sE F A 9 = 0
        · rw [if_pos q9, if_pos q9] at h
          refine ⟨fun _ => ?_, fun q => absurd (z9.2 q9) q⟩
          rw [v19]
          unfold w_245_416 w_245_439
          exact ⟨fun _ => h, fun q => absurd (z9.2 q9) q⟩
        · rw [if_neg q9, if_neg q9] at h
          have := x5 q9
          have e9 : nz (sE F A 9) = nI X := by
            rw [nz_0 q9, ← x1]
            unfold uE
            rw [if_neg q9]
          rw [e9]
          refine ⟨fun q => absurd q nzm, fun _ => ?_⟩
          rw [n_12]
          refine r220F g2 (by omega) (by omega) ?_
          unfold w_245_416 w_245_439
          rw [n_16]
          exact ⟨fun q => absurd q nzm, fun _ => r220F (g2.sv (by omega)) (by omega) (by omega) h⟩
    · have nr : ¬ rsP F A := fun y => pre y.1
      refine ⟨rE N (sE F A), fun Φ h => key ?_, rf, rj, fun y => absurd y nr⟩
      rw [bI_f nr] at h
      rw [if_pos ok]
      have hF' : FlR F (rE N (sE F A)) := hF.cg (rE_f _ _ (by omega))
      have k343 : ∀ v4 u0 : Int32, w_245_343 kc Φ (nI A) (xrF F A (hsz F A / 4) 0 0) v4 u0 (rE N (sE F A)) := fun v4 u0 => by
        unfold w_245_343 w_245_368
        rw [n_8]
        refine ⟨fun q => r220F hF' (by omega) (by omega) ⟨fun _ => h, fun q2 => ?_⟩, fun _ => h⟩
        rcases and01 (Gf F (A + 8)) with y | y
        · exact absurd y q2
        · exact absurd ⟨q, y⟩ pre
      unfold w_245_331
      exact ⟨fun _ => k343 _ _, fun _ => k343 _ _⟩
  · have nr : ¬ rsP F A := fun y => ok y.2.1
    refine ⟨rE N (sE F A), fun Φ h => key ?_, rf, rj, fun y => absurd y nr⟩
    rw [bI_f nr] at h
    rw [if_neg ok]
    exact h
