/-! The loads: what is loaded, and the reference's loop. -/
def odP (F : Nat → Int32) (L : List Nat) (A : Nat) : Prop := sE F A 10 ≠ 0 ∧ ∃ x, x ∈ L ∧ sN F x A ∧ bfP F x A
def skP (F : Nat → Int32) (L : List Nat) (A R : Nat) : Prop := odP F L A ∨ 196608 < plS R (bkS (rmF F A)) + bkS (rmF F A)
/-- what is loaded of a list of candidates, from RAM place R, c being loaded -/
def LdR (F : Nat → Int32) (L : List Nat) : List Nat → Nat → Nat → List (Nat × Nat × Nat) → Prop
  | [], _, _, P => P = []
  | A :: t, R, c, P => (8 ≤ c ∧ P = []) ∨ (c < 8 ∧ ((skP F L A R ∧ LdR F L t R c P) ∨ (¬ skP F L A R ∧ ∃ P', P = (A, plS R (bkS (rmF F A)), bkS (rmF F A)) :: P' ∧ LdR F L t (plS R (bkS (rmF F A)) + bkS (rmF F A)) (c + 1) P')))
theorem LdR_ex (F : Nat → Int32) (L : List Nat) : ∀ (t : List Nat) (R c : Nat), ∃ P, LdR F L t R c P
  | [], _, _ => ⟨[], rfl⟩
  | A :: t, R, c => by
    by_cases h8 : 8 ≤ c
    · exact ⟨[], Or.inl ⟨h8, rfl⟩⟩
    · by_cases k : skP F L A R
      · obtain ⟨P, hP⟩ := LdR_ex F L t R c
        exact ⟨P, Or.inr ⟨by omega, Or.inl ⟨k, hP⟩⟩⟩
      · obtain ⟨P, hP⟩ := LdR_ex F L t (plS R (bkS (rmF F A)) + bkS (rmF F A)) (c + 1)
        exact ⟨_, Or.inr ⟨by omega, Or.inr ⟨k, P, rfl, hP⟩⟩⟩
theorem LdR_len (F : Nat → Int32) (L : List Nat) : ∀ (t : List Nat) (R c : Nat) (P : List (Nat × Nat × Nat)), c ≤ 8 → LdR F L t R c P → c + P.length ≤ 8
  | [], _, _, P, hc, h => by rw [show P = [] from h]; exact hc
  | A :: t, R, c, P, hc, h => by
    rcases h with ⟨_, e⟩ | ⟨h8, ⟨_, h⟩ | ⟨_, P', e, h⟩⟩
    · rw [e]; exact hc
    · exact LdR_len F L t R c P hc h
    · have := LdR_len F L t _ (c + 1) P' (by omega) h
      rw [e, List.length_cons]
      omega
def rcM (N : it_Me) (c A S b : Nat) : it_Me := it_sv (it_sv (it_sv (it_sv (it_sv (it_sv (it_sv (it_sv (it_sv (it_sv (it_sv (it_sv (it_sv N 79 c (nI A)) 80 c (nI A + N 66 19)) 81 c (nI A + N 66 18 + N 66 20)) 82 c (N 66 21)) 83 c (N 66 23)) 84 c (N 66 24)) 85 c (N 66 25)) 86 c (N 66 26)) 87 c (N 66 27)) 88 c (N 66 28)) 89 c (nI S)) 90 c (nI b)) 66 34 (nI (c + 1))
theorem r_250p {kc : it_Kc} {N : it_Me} {c A S b : Nat} (hc : c < 8) (h34 : N 66 34 = nI c) {v3 : Int32} {Φ : it_Me → Prop} {K : Int32 → Int32 → it_Me → Prop} {K296 : it_Me → Prop} (h : K (nI S + nI b) (v3 + 1) (rcM N c A S b)) : w_250_131 kc Φ K K296 v3 (nI A) (nI b) (nI S) N := by
  unfold w_250_131 w_250_290
  simp (disch := omega) only [sv_n1]
  rw [h34, cI hc, nI_s1]
  have v := vI hc
  exact ⟨v, v, v, v, v, v, v, v, v, v, v, v, h⟩
/-- a record of the reference -/
def RcN (F : Nat → Int32) (N : it_Me) (i : Nat) (p : Nat × Nat × Nat) : Prop := (N 79 i = nI p.1 ∧ N 80 i = nI p.1 + Gf F (p.1 + 4) ∧ N 81 i = nI p.1 + Hh F (p.1 + 2) + gE F (uE F p.1) ∧ N 82 i = rmF F p.1 ∧ N 83 i = vrF F p.1) ∧ (N 84 i = nz (sE F p.1 10) ∧ N 85 i = nl (sE F p.1 10) (sE F p.1 11) ∧ N 86 i = nz (sE F p.1 12) ∧ N 87 i = nz (sE F p.1 13) ∧ N 88 i = nl (sE F p.1 13) (sE F p.1 14)) ∧ N 89 i = nI p.2.1 ∧ N 90 i = nI p.2.2
theorem rcM_f (N : it_Me) (c A S b : Nat) {k : Nat} (h : k ≠ 66 ∧ (k < 79 ∨ 90 < k)) : rcM N c A S b k = N k := by
  unfold rcM
  rw [sv_cell _ _ _ _ (by omega), sv_cell _ _ _ _ (by omega), sv_cell _ _ _ _ (by omega), sv_cell _ _ _ _ (by omega), sv_cell _ _ _ _ (by omega), sv_cell _ _ _ _ (by omega), sv_cell _ _ _ _ (by omega), sv_cell _ _ _ _ (by omega), sv_cell _ _ _ _ (by omega), sv_cell _ _ _ _ (by omega), sv_cell _ _ _ _ (by omega), sv_cell _ _ _ _ (by omega), sv_cell _ _ _ _ (by omega)]
theorem rcM_66 (N : it_Me) (c A S b : Nat) {j : Nat} (h : j ≠ 34) : rcM N c A S b 66 j = N 66 j := by
  unfold rcM
  rw [sv_n2 _ _ _ _ h]
  simp (disch := omega) only [sv_n1]
theorem rcM_o (N : it_Me) (c A S b : Nat) {k i : Nat} (hk : k ≠ 66) (h : i ≠ c) : rcM N c A S b k i = N k i := by
  unfold rcM
  rw [sv_n1 _ _ _ _ _ hk, sv_ne _ _ _ _ (Or.inr h), sv_ne _ _ _ _ (Or.inr h), sv_ne _ _ _ _ (Or.inr h), sv_ne _ _ _ _ (Or.inr h), sv_ne _ _ _ _ (Or.inr h), sv_ne _ _ _ _ (Or.inr h), sv_ne _ _ _ _ (Or.inr h), sv_ne _ _ _ _ (Or.inr h), sv_ne _ _ _ _ (Or.inr h), sv_ne _ _ _ _ (Or.inr h), sv_ne _ _ _ _ (Or.inr h), sv_ne _ _ _ _ (Or.inr h)]
theorem rcM_r {F : Nat → Int32} {N N0 : it_Me} {c A S b : Nat} (hN : N = hdM F (frM F N0 A) A) : RcN F (rcM N c A S b) c (A, S, b) := by
  have v18 : N 66 18 = Hh F (A + 2) := by rw [hN]; unfold hdM rE; rw [sv_n2 _ _ _ _ (by omega), sv_n2 _ _ _ _ (by omega), sv_n2 _ _ _ _ (by omega), sv_n2 _ _ _ _ (by omega), rT_j _ _ _ _ _ _ (by omega)]; unfold frM; rw [sv_n2 _ _ _ _ (by omega), sv_same]
  have v19 : N 66 19 = Gf F (A + 4) := by rw [hN]; unfold hdM rE; rw [sv_n2 _ _ _ _ (by omega), sv_n2 _ _ _ _ (by omega), sv_n2 _ _ _ _ (by omega), sv_n2 _ _ _ _ (by omega), rT_j _ _ _ _ _ _ (by omega)]; unfold frM; rw [sv_same]
  have v20 : N 66 20 = gE F (uE F A) := by rw [hN]; unfold hdM; rw [sv_n2 _ _ _ _ (by omega), sv_n2 _ _ _ _ (by omega), sv_n2 _ _ _ _ (by omega), sv_same]
  have v21 : N 66 21 = rmF F A := by rw [hN]; unfold hdM rmF; rw [sv_n2 _ _ _ _ (by omega), sv_n2 _ _ _ _ (by omega), sv_same]
  have v23 : N 66 23 = vrF F A := by rw [hN]; unfold hdM vrF; rw [sv_same]
  have el : ∀ j, 24 ≤ j → N 66 j = rE (frM F N0 A) (sE F A) 66 j := fun j hj => by rw [hN]; unfold hdM; rw [sv_n2 _ _ _ _ (by omega), sv_n2 _ _ _ _ (by omega), sv_n2 _ _ _ _ (by omega), sv_n2 _ _ _ _ (by omega)]
  have v24 : N 66 24 = nz (sE F A 10) := by rw [el 24 (by omega)]; exact rT_r24 _ _ _ _ _ _
  have v25 : N 66 25 = nl (sE F A 10) (sE F A 11) := by rw [el 25 (by omega)]; unfold rE rT; rw [if_neg (by omega), if_pos ⟨rfl, rfl⟩]
  have v26 : N 66 26 = nz (sE F A 12) := by rw [el 26 (by omega)]; exact rT_r26 _ _ _ _ _ _
  have v27 : N 66 27 = nz (sE F A 13) := by rw [el 27 (by omega)]; exact rT_r27 _ _ _ _ _ _
  have v28 : N 66 28 = nl (sE F A 13) (sE F A 14) := by rw [el 28 (by omega)]; unfold rE rT; rw [if_neg (by omega), if_neg (by omega), if_neg (by omega), if_neg (by omega), if_pos ⟨rfl, rfl⟩]
  unfold RcN rcM
  rw [v18, v19, v20, v21, v23, v24, v25, v26, v27, v28]
  refine ⟨⟨?_, ?_, ?_, ?_, ?_⟩, ⟨?_, ?_, ?_, ?_, ?_⟩, ?_, ?_⟩ <;> simp (disch := omega) only [sv_n1, sv_same]
theorem RcN.cg {F : Nat → Int32} {N N' : it_Me} {i : Nat} {p : Nat × Nat × Nat} (h : RcN F N i p) (e : ∀ k, 79 ≤ k → k ≤ 90 → N' k i = N k i) : RcN F N' i p := by
  unfold RcN
  rw [e 79 (by omega) (by omega), e 80 (by omega) (by omega), e 81 (by omega) (by omega), e 82 (by omega) (by omega), e 83 (by omega) (by omega), e 84 (by omega) (by omega), e 85 (by omega) (by omega), e 86 (by omega) (by omega), e 87 (by omega) (by omega), e 88 (by omega) (by omega), e 89 (by omega) (by omega), e 90 (by omega) (by omega)]
  exact h
