/-! What is loaded lies where it may. -/
theorem LdR_ok {F : Nat → Int32} {L : List Nat} : ∀ (t : List Nat) (R c : Nat) (P : List (Nat × Nat × Nat)), (∀ x, x ∈ t → 65536 ≤ x ∧ x % 4 = 0 ∧ x + 16 ≤ 126976) → 131072 ≤ R → R ≤ 196608 → LdR F L t R c P → ∀ i, i < P.length → okP (P.getD i (0, 0, 0))
  | [], _, _, P, _, _, _, h => fun i hi => by
    rw [show P = [] from h] at hi
    exact absurd hi (Nat.not_lt_zero _)
  | A :: t, R, c, P, ht, h1, h2, h => by
    have ht' : ∀ x, x ∈ t → 65536 ≤ x ∧ x % 4 = 0 ∧ x + 16 ≤ 126976 := fun x hx => ht x (List.mem_cons_of_mem _ hx)
    rcases h with ⟨_, e⟩ | ⟨_, ⟨_, h⟩ | ⟨sk, P', e, h⟩⟩
    · intro i hi
      rw [e] at hi
      exact absurd hi (Nat.not_lt_zero _)
    · exact LdR_ok t R c P ht' h1 h2 h
    · have b5 := bk5 (bkS_m (rmF F A))
      have pf := plS_f (R := R) (b := bkS (rmF F A)) (by omega)
      have nf : ¬ 196608 < plS R (bkS (rmF F A)) + bkS (rmF F A) := fun y => sk (Or.inr y)
      have ih := LdR_ok t _ (c + 1) P' ht' (by omega) (by omega) h
      intro i hi
      subst e
      cases i with
      | zero => exact ⟨ht A List.mem_cons_self, by show 131072 ≤ plS R (bkS (rmF F A)); omega, by show plS R (bkS (rmF F A)) + bkS (rmF F A) ≤ 196608; omega⟩
      | succ i => exact ih i (by rw [List.length_cons] at hi; omega)
