/-! The reference's loop over the candidates. -/
def ldF (N N' : it_Me) (c : Nat) : Prop := (∀ k, k ≠ 66 → (k < 79 ∨ 90 < k) → N' k = N k) ∧ (∀ k i, 79 ≤ k → k ≤ 90 → i < c → N' k i = N k i) ∧ ∀ j, (j < 18 ∨ 28 < j) → j ≠ 34 → N' 66 j = N 66 j
theorem ldF.rfl {N : it_Me} {c : Nat} : ldF N N c := ⟨fun _ _ _ => Eq.refl _, fun _ _ _ _ _ => Eq.refl _, fun _ _ _ => Eq.refl _⟩
theorem ldF.trans {a b d : it_Me} {c c' : Nat} (h : ldF a b c) (g : ldF b d c') (hc : c ≤ c') : ldF a d c := ⟨fun k h1 h2 => (g.1 k h1 h2).trans (h.1 k h1 h2), fun k i h1 h2 h3 => (g.2.1 k i h1 h2 (by omega)).trans (h.2.1 k i h1 h2 h3), fun j h1 h2 => (g.2.2 j h1 h2).trans (h.2.2 j h1 h2)⟩
theorem ram_b {F : Nat → Int32} {s : Int32} {A : Nat} (h : cand F s A) : 0 ≤ (rmF F A).toInt ∧ (rmF F A).toInt ≤ 15872 := by
  have a := h.2.1.1
  have b := h.2.1.2
  rw [Int32.lt_iff_toInt_lt] at a b
  simp only [Int32.reduceToInt] at a b
  omega
theorem r_250l {kc : it_Kc} {F : Nat → Int32} {s : Int32} {L : List Nat} (hL : okL F L) (hC : ∀ i, i < L.length → frP F (L.getD i 0) ∧ cand F s (L.getD i 0)) {Φ : it_Me → Prop} : ∀ (r a R c : Nat) (N : it_Me) (P : List (Nat × Nat × Nat)), a + r = L.length → c ≤ 8 → 131072 ≤ R → R ≤ 196608 → FlR F N → tbN F N L → N 66 34 = nI c → LdR F L (L.drop a) R c P → ∃ N', (∀ K : it_Me → Prop, K N' → w_250_10 kc Φ K (r + 1) (nI R) (nI a) N) ∧ N' 66 34 = nI (c + P.length) ∧ (∀ i, i < P.length → RcN F N' (c + i) (P.getD i (0, 0, 0))) ∧ ldF N N' c := by
  obtain ⟨l1, l2, l3⟩ := id hL
  intro r
  induction r with
  | zero =>
    intro a R c N P ha hc h1 h2 hF hT h34 hP
    rw [List.drop_eq_nil_of_le (by omega)] at hP
    have e : P = [] := hP
    subst e
    refine ⟨N, fun K h => ?_, h34, fun i hi => absurd hi (Nat.not_lt_zero _), ldF.rfl⟩
    unfold w_250_10
    rw [hT.1]
    exact ⟨fun _ => h, fun q => absurd ((nLe (by omega) (by omega)).2 (by omega)) q⟩
  | succ r ih =>
    intro a R c N P ha hc h1 h2 hF hT h34 hP
    have hal : a < L.length := by omega
    have lt33 : ¬ N 66 33 ≤ nI a := fun q => by rw [hT.1] at q; exact absurd ((nLe (by omega) (by omega)).1 q) (by omega)
    rw [dropC L hal] at hP
    obtain ⟨fr, cd⟩ := hC a hal
    have la := l2 a hal
    have t75 := (hT.2 a hal).1
    generalize hA : L.getD a 0 = A at *
    rcases hP with ⟨c8, e⟩ | ⟨c8, hP⟩
    · subst e
      refine ⟨N, fun K h => ?_, h34, fun i hi => absurd hi (Nat.not_lt_zero _), ldF.rfl⟩
      unfold w_250_10
      rw [h34]
      exact ⟨fun q => absurd q lt33, fun _ => ⟨fun _ => h, fun q => absurd ((nLe (a := 8) (by omega) (by omega)).2 (by omega)) q⟩⟩
    · obtain ⟨f1, f2, f3, f4, f5, f6, f7, f8⟩ := frF fr la.1
      obtain ⟨N1, a1, a2, a3, a4⟩ := r_244 (kc := kc) hF (A := A) ⟨la.1, by omega⟩ la.2.1
      have e1 := a4 fr
      have F1 : FlR F N1 := hF.cg (a2 67 (by omega))
      have v18 : N1 66 18 = Hh F (A + 2) := by rw [e1]; unfold frM; rw [sv_n2 _ _ _ _ (by omega), sv_same]
      have v19 : N1 66 19 = Gf F (A + 4) := by rw [e1]; unfold frM; rw [sv_same]
      obtain ⟨N2, b1, b2, b3, b4⟩ := r_245 (kc := kc) F1 la.1 la.2.1 fr v18 v19
      have e2 := b4 cd.1
      rw [e1] at e2
      have F2 : FlR F N2 := F1.cg (b2 67 (by omega))
      have fr2 : ∀ k, k ≠ 66 → N2 k = N k := fun k hk => by rw [b2 k hk, a2 k hk]
      have fj2 : ∀ j, (j < 18 ∨ 28 < j) → N2 66 j = N 66 j := fun j hj => by rw [b3 j (by omega), a3 j (by omega) (by omega)]
      have T2 : tbN F N2 L := hT.cg (fun k hk => fr2 k (by omega)) (fj2 33 (by omega))
      have D2 : ldF N N2 c := ⟨fun k h _ => fr2 k h, fun k i _ _ _ => by rw [fr2 k (by omega)], fun j h _ => fj2 j h⟩
      have v34 : N2 66 34 = nI c := by rw [fj2 34 (by omega)]; exact h34
      have v21 : N2 66 21 = rmF F A := by rw [e2]; unfold hdM rmF; rw [sv_n2 _ _ _ _ (by omega), sv_n2 _ _ _ _ (by omega), sv_same]
      have v25 : N2 66 25 = nl (sE F A 10) (sE F A 11) := by
        rw [e2]; unfold hdM rE; rw [sv_n2 _ _ _ _ (by omega), sv_n2 _ _ _ _ (by omega), sv_n2 _ _ _ _ (by omega), sv_n2 _ _ _ _ (by omega)]
        unfold rT; rw [if_neg (by omega), if_pos ⟨rfl, rfl⟩]
      have rb := ram_b cd
      have bm := bkS_m (rmF F A)
      have b5 := bk5 bm
      have pr := pl_r (R := R) (b := bkS (rmF F A)) h2 bm
      have pf := plS_f (R := R) (b := bkS (rmF F A)) (by omega)
      generalize hb : bkS (rmF F A) = b at *
      generalize hS : plS R b = S at *
      have sb : nI S + nI b = nI (S + b) := nI_add _ _
      have nm : nl (sE F A 10) (sE F A 11) ≤ 0 ↔ sE F A 10 = 0 := by
        rcases (sE_in F la.2.1).2.2.1 with z | ⟨X, n, x1, x2, x3, x4, x5, x6⟩
        · unfold nl
          rw [if_pos z]
          exact ⟨fun _ => z, fun _ => by decide⟩
        · have nz0 : sE F A 10 ≠ 0 := fun y => by
            rw [x1] at y
            exact absurd ((nEq (b := 0) (by omega) (by omega)).1 y) (by omega)
          rw [nl_0 nz0, x2]
          exact ⟨fun q => absurd ((nLe (b := 0) (by omega) (by omega)).1 q) (by omega), fun q => absurd q nz0⟩
      -- one round of the loop
      have body : ∀ {K : it_Me → Prop}, ((196608 : Int32) < nI S + nI b → w_250_290 kc Φ (w_250_10 kc Φ K (r + 1)) K (nI R) (nI a) N2) → (¬ (196608 : Int32) < nI S + nI b → ((sE F A 10 = 0 ∨ ¬ ∃ x, x ∈ L ∧ sN F x A ∧ bfP F x A) → w_250_131 kc Φ (w_250_10 kc Φ K (r + 1)) K (nI a) (nI A) (nI b) (nI S) N2) ∧ ((sE F A 10 ≠ 0 ∧ ∃ x, x ∈ L ∧ sN F x A ∧ bfP F x A) → w_250_290 kc Φ (w_250_10 kc Φ K (r + 1)) K (nI R) (nI a) N2)) → w_250_10 kc Φ K (r + 1 + 1) (nI R) (nI a) N := fun {K} g1 g2 => by
        rw [w_250_10]
        refine ⟨fun q => absurd q lt33, fun _ => ⟨fun q => ?_, fun _ => ⟨v2048 (by omega), ?_⟩⟩⟩
        · rw [h34] at q
          exact absurd ((nLe (a := 8) (by omega) (by omega)).1 q) (by omega)
        rw [nI_clamp (n := a) (by omega), t75]
        refine a1 _ ?_
        rw [bI_t fr]
        refine ⟨fun q => absurd q (by decide), fun _ => b1 _ ?_⟩
        rw [bI_t cd.1]
        refine ⟨fun q => absurd q (by decide), fun _ => ?_⟩
        unfold w_250_58
        refine r_250b (by rw [v21]; exact rb) ?_
        rw [v21, hb]
        unfold w_250_87
        rw [pr, v25]
        refine ⟨fun q => absurd ((nEq (b := 0) (by omega) (by omega)).1 q) (by omega), fun q => absurd q (by decide), fun _ => ⟨g1, fun q => ⟨fun q2 => (g2 q).1 (Or.inl (nm.1 q2)), fun q2 => ?_⟩⟩⟩
        have n0 : sE F A 10 ≠ 0 := fun y => q2 (nm.2 y)
        have h0 : sE F (L.getD a 0) 10 ≠ 0 := by rw [hA]; exact n0
        refine r_249 F2 T2 hL hal h0 ?_
        rw [hA]
        by_cases od : ∃ x, x ∈ L ∧ sN F x A ∧ bfP F x A
        · rw [bI_t od]
          exact ⟨fun y => absurd y (by decide), fun _ => (g2 q).2 ⟨n0, od⟩⟩
        · rw [bI_f od]
          exact ⟨fun _ => (g2 q).1 (Or.inr od), fun y => absurd rfl y⟩
      have far : (196608 : Int32) < nI S + nI b ↔ 196608 < S + b := by rw [sb]; exact nLt (a := 196608) (by omega) (by omega)
      have skd : skP F L A R ↔ (sE F A 10 ≠ 0 ∧ ∃ x, x ∈ L ∧ sN F x A ∧ bfP F x A) ∨ 196608 < S + b := by
        unfold skP odP
        rw [hb, hS]
      rcases hP with ⟨sk, hP⟩ | ⟨sk, P', eP, hP⟩
      · obtain ⟨N', c1, c2, c3, c4⟩ := ih (a + 1) R c N2 P (by omega) hc h1 h2 F2 T2 v34 hP
        refine ⟨N', fun K h => ?_, c2, c3, D2.trans c4 (Nat.le_refl _)⟩
        have nx : w_250_290 kc Φ (w_250_10 kc Φ K (r + 1)) K (nI R) (nI a) N2 := by
          unfold w_250_290
          rw [nI_s1]
          exact c1 K h
        refine body (fun _ => nx) (fun q => ⟨fun q2 => ?_, fun _ => nx⟩)
        rcases skd.1 sk with z | z
        · rcases q2 with y | y
          · exact absurd y z.1
          · exact absurd z.2 y
        · exact absurd (far.2 z) q
      · have nsk : ¬ 196608 < S + b := fun y => sk (skd.2 (Or.inr y))
        have nod : ¬ (sE F A 10 ≠ 0 ∧ ∃ x, x ∈ L ∧ sN F x A ∧ bfP F x A) := fun y => sk (skd.2 (Or.inl y))
        have P3 : ∀ k, k ≠ 66 → (k < 79 ∨ 90 < k) → rcM N2 c A S b k = N2 k := fun k h h' => rcM_f _ _ _ _ _ ⟨h, h'⟩
        have T3 : tbN F (rcM N2 c A S b) L := T2.cg (fun k hk => P3 k (by omega) (by omega)) (rcM_66 _ _ _ _ _ (by omega))
        obtain ⟨N', c1, c2, c3, c4⟩ := ih (a + 1) (S + b) (c + 1) (rcM N2 c A S b) P' (by omega) (by omega) (by omega) (by omega) (F2.cg (P3 67 (by omega) (by omega))) T3 (by unfold rcM; rw [sv_same]) hP
        have D3 : ldF N2 (rcM N2 c A S b) c := ⟨P3, fun k i _ _ hi => rcM_o _ _ _ _ _ (by omega) (by omega), fun j _ h => rcM_66 _ _ _ _ _ h⟩
        subst eP
        refine ⟨N', fun K h => body (fun q => absurd (far.1 q) nsk) (fun q => ⟨fun _ => r_250p c8 v34 ?_, fun y => absurd y nod⟩), ?_, fun i hi => ?_, (D2.trans D3 (Nat.le_refl _)).trans c4 (by omega)⟩
        · rw [sb, nI_s1]
          exact c1 K h
        · rw [c2, List.length_cons]
          congr 1
          omega
        · cases i with
          | zero =>
            refine RcN.cg (rcM_r (N0 := N) e2) (fun k h1 h2 => c4.2.1 k c h1 h2 (by omega))
          | succ i =>
            have := c3 i (by rw [List.length_cons] at hi; omega)
            rw [show c + (i + 1) = c + 1 + i by omega]
            exact this
