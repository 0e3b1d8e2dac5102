/-! Apps in flash: the reference's list of candidates. -/
def rmF (F : Nat → Int32) (A : Nat) : Int32 := gE F (uE F A + 8)
def beF (F : Nat → Int32) (A : Nat) : Int32 := if sE F A 9 = 0 then Gf F (A + 4) else gE F (uE F A + 12)
def vrF (F : Nat → Int32) (A : Nat) : Int32 := if sE F A 9 = 0 then 0 else gE F (uE F A + 16)
abbrev cand (F : Nat → Int32) (s : Int32) (A : Nat) : Prop := rsP F A ∧ mlP F A s (rmF F A) (beF F A)
/-- the candidates from A on -/
noncomputable def csL (F : Nat → Int32) (s : Int32) : Nat → Nat → List Nat
  | 0, _ => []
  | n + 1, A => if frP F A then (if cand F s A then A :: csL F s n (A + tsz F A) else csL F s n (A + tsz F A)) else []
def tbN (F : Nat → Int32) (N : it_Me) (L : List Nat) : Prop := N 66 33 = nI L.length ∧ ∀ i, i < L.length → N 75 i = nI (L.getD i 0) ∧ N 76 i = nz (sE F (L.getD i 0) 10) ∧ N 77 i = nl (sE F (L.getD i 0) 10) (sE F (L.getD i 0) 11) ∧ N 78 i = vrF F (L.getD i 0)
def fdF (N N' : it_Me) : Prop := (∀ c, c ≠ 66 → c ≠ 75 → c ≠ 76 → c ≠ 77 → c ≠ 78 → N' c = N c) ∧ ∀ j, (j < 18 ∨ 28 < j) → j ≠ 33 → N' 66 j = N 66 j
theorem fdF.rfl {N : it_Me} : fdF N N := ⟨fun _ _ _ _ _ _ => Eq.refl _, fun _ _ _ => Eq.refl _⟩
theorem fdF.trans {a b c : it_Me} (h : fdF a b) (g : fdF b c) : fdF a c := ⟨fun k h1 h2 h3 h4 h5 => (g.1 k h1 h2 h3 h4 h5).trans (h.1 k h1 h2 h3 h4 h5), fun j h1 h2 => (g.2 j h1 h2).trans (h.2 j h1 h2)⟩
theorem tbN.cg {F : Nat → Int32} {N N' : it_Me} {L : List Nat} (h : tbN F N L) (e : ∀ c, c = 75 ∨ c = 76 ∨ c = 77 ∨ c = 78 → N' c = N c) (e33 : N' 66 33 = N 66 33) : tbN F N' L := by
  refine ⟨by rw [e33]; exact h.1, fun i hi => ?_⟩
  rw [e 75 (by omega), e 76 (by omega), e 77 (by omega), e 78 (by omega)]
  exact h.2 i hi
theorem rs32 {F : Nat → Int32} {A : Nat} (h4 : A % 4 = 0) (hA : 65536 ≤ A) (fr : frP F A) (rs : rsP F A) : 32 ≤ tsz F A := by
  obtain ⟨f1, f2, f3, f4, f5, f6, f7, f8⟩ := frF fr hA
  obtain ⟨X, x1, x2, x3, x4, x5⟩ := uE_in h4 rs.2.2
  omega
theorem v2048 {i : Nat} (h : i < 2048) : vp_in (nI i) 2048 := by rw [vp_in_iff, nI_toInt (by omega)]; omega
/-- a candidate is put down -/
def pdM (F : Nat → Int32) (N : it_Me) (n A : Nat) : it_Me := it_sv (it_sv (it_sv (it_sv (it_sv N 75 n (nI A)) 76 n (N 66 24)) 77 n (N 66 25)) 78 n (N 66 23)) 66 33 (nI (n + 1))
theorem r_248p {kc : it_Kc} {F : Nat → Int32} {N : it_Me} {n A : Nat} (hn : n < 2047) (h33 : N 66 33 = nI n) {v1 v3 : Int32} {Φ : it_Me → Prop} {K : Int32 → Int32 → it_Me → Prop} {K123 : it_Me → Prop} (h : K v1 v3 (pdM F N n A)) : w_248_59 kc Φ K K123 v1 (nI A) v3 N := by
  unfold w_248_59 w_248_118
  simp (disch := omega) only [sv_n1]
  rw [h33, nI_clamp (by omega), nI_s1]
  exact ⟨v2048 (by omega), v2048 (by omega), v2048 (by omega), v2048 (by omega), h⟩
theorem getD_ap (L : List Nat) (x i : Nat) : (L ++ [x]).getD i 0 = if i = L.length then x else L.getD i 0 := by
  by_cases h : i < L.length
  · rw [if_neg (by omega), List.getD_eq_getElem?_getD, List.getElem?_append_left h, ← List.getD_eq_getElem?_getD]
  · by_cases e : i = L.length
    · rw [if_pos e, e, List.getD_eq_getElem?_getD, List.getElem?_append_right (by omega)]
      simp
    · rw [if_neg e, List.getD_eq_getElem?_getD, List.getD_eq_getElem?_getD, List.getElem?_eq_none (by simp; omega), List.getElem?_eq_none (by omega)]
theorem pd_T {F : Nat → Int32} {N N0 : it_Me} {L : List Nat} (h : tbN F N L) {A : Nat} (hN : N = hdM F N0 A) : tbN F (pdM F N L.length A) (L ++ [A]) := by
  have v24 : N 66 24 = nz (sE F A 10) := by rw [hN]; unfold hdM rE; rw [sv_n2 _ _ _ _ (by omega), sv_n2 _ _ _ _ (by omega), sv_n2 _ _ _ _ (by omega), sv_n2 _ _ _ _ (by omega), rT_r24]
  have v25 : N 66 25 = nl (sE F A 10) (sE F A 11) := by
    rw [hN]; unfold hdM rE; rw [sv_n2 _ _ _ _ (by omega), sv_n2 _ _ _ _ (by omega), sv_n2 _ _ _ _ (by omega), sv_n2 _ _ _ _ (by omega)]
    unfold rT; rw [if_neg (by omega), if_pos ⟨rfl, rfl⟩]
  have v23 : N 66 23 = vrF F A := by rw [hN]; unfold hdM vrF; rw [sv_same]
  refine ⟨by unfold pdM; rw [sv_same, List.length_append]; rfl, fun i hi => ?_⟩
  rw [List.length_append] at hi
  have hi' : i < L.length + 1 := hi
  have g : ∀ c, c = 75 ∨ c = 76 ∨ c = 77 ∨ c = 78 → pdM F N L.length A c i = if i = L.length then (if c = 75 then nI A else if c = 76 then N 66 24 else if c = 77 then N 66 25 else N 66 23) else N c i := fun c hc => by
    unfold pdM
    rw [sv_n1 _ _ _ _ _ (by omega)]
    simp only [sv_rd]
    by_cases q : i = L.length
    · rw [if_pos q]
      rcases hc with rfl | rfl | rfl | rfl
      · rw [if_neg (by omega), if_neg (by omega), if_neg (by omega), if_pos ⟨rfl, q⟩, if_pos rfl]
      · rw [if_neg (by omega), if_neg (by omega), if_pos ⟨rfl, q⟩, if_neg (by omega), if_pos rfl]
      · rw [if_neg (by omega), if_pos ⟨rfl, q⟩, if_neg (by omega), if_neg (by omega), if_pos rfl]
      · rw [if_pos ⟨rfl, q⟩, if_neg (by omega), if_neg (by omega), if_neg (by omega)]
    · rw [if_neg q, if_neg (fun y => q y.2), if_neg (fun y => q y.2), if_neg (fun y => q y.2), if_neg (fun y => q y.2)]
  rw [g 75 (by omega), g 76 (by omega), g 77 (by omega), g 78 (by omega), getD_ap]
  by_cases q : i = L.length
  · rw [if_pos q, if_pos q, if_pos q, if_pos q, if_pos q, if_pos rfl, if_neg (by omega), if_pos rfl, if_neg (by omega), if_neg (by omega), if_pos rfl, if_neg (by omega), if_neg (by omega), if_neg (by omega), v24, v25, v23]
    exact ⟨rfl, rfl, rfl, rfl⟩
  · rw [if_neg q, if_neg q, if_neg q, if_neg q, if_neg q]
    exact h.2 i (by omega)
theorem r_248l {kc : it_Kc} {F : Nat → Int32} {s : Int32} {Φ : it_Me → Prop} : ∀ (n A : Nat) (N : it_Me) (L : List Nat), 65536 ≤ A → A ≤ 126976 → A % 4 = 0 → 126976 ≤ A + 16 * n → 32 * L.length + 65536 ≤ A → FlR F N → tbN F N L → ∃ N', tbN F N' (L ++ csL F s n A) ∧ fdF N N' ∧ FlR F N' ∧ ∀ K : it_Me → Prop, K N' → w_248_8 kc Φ K (n + 1) s (nI A) N := by
  intro n
  induction n with
  | zero =>
    intro A N L h1 h2 h4 h3 hL hF hT
    obtain ⟨N1, a1, a2, a3, a4⟩ := r_244 (kc := kc) hF ⟨h1, h2⟩ h4
    have nf : ¬ frP F A := fun y => absurd y.1 (by omega)
    refine ⟨N1, ?_, ⟨fun c hc _ _ _ _ => a2 c hc, fun j hj _ => a3 j (by omega) (by omega)⟩, hF.cg (a2 67 (by omega)), fun K h => ?_⟩
    · rw [csL, List.append_nil]
      exact hT.cg (fun c hc => a2 c (by omega)) (a3 33 (by omega) (by omega))
    · unfold w_248_8
      refine a1 _ ?_
      rw [bI_f nf]
      exact ⟨fun _ => h, fun q => absurd rfl q⟩
  | succ n ih =>
    intro A N L h1 h2 h4 h3 hL hF hT
    obtain ⟨N1, a1, a2, a3, a4⟩ := r_244 (kc := kc) hF ⟨h1, h2⟩ h4
    have F1 : FlR F N1 := hF.cg (a2 67 (by omega))
    have T1 : tbN F N1 L := hT.cg (fun c hc => a2 c (by omega)) (a3 33 (by omega) (by omega))
    have D1 : fdF N N1 := ⟨fun c hc _ _ _ _ => a2 c hc, fun j hj _ => a3 j (by omega) (by omega)⟩
    by_cases fr : frP F A
    · obtain ⟨f1, f2, f3, f4, f5, f6, f7, f8⟩ := frF fr h1
      have e1 := a4 fr
      have v18 : N1 66 18 = Hh F (A + 2) := by rw [e1]; unfold frM; rw [sv_n2 _ _ _ _ (by omega), sv_same]
      have v19 : N1 66 19 = Gf F (A + 4) := by rw [e1]; unfold frM; rw [sv_same]
      obtain ⟨N2, b1, b2, b3, b4⟩ := r_245 (kc := kc) F1 h1 h4 fr v18 v19
      have F2 : FlR F N2 := F1.cg (b2 67 (by omega))
      have T2 : tbN F N2 L := T1.cg (fun c hc => b2 c (by omega)) (b3 33 (by omega))
      have D2 : fdF N N2 := D1.trans ⟨fun c hc _ _ _ _ => b2 c hc, fun j hj _ => b3 j (by omega)⟩
      have nx : nI A + N1 66 19 = nI (A + tsz F A) := by rw [v19, f2]; exact nI_add _ _
      have skip : ¬ cand F s A → (∃ N', tbN F N' (L ++ csL F s (n + 1) A) ∧ fdF N N' ∧ FlR F N' ∧ ∀ K : it_Me → Prop, K N' → w_248_8 kc Φ K (n + 1) s (nI (A + tsz F A)) N2) := fun nc => by
        obtain ⟨N', c1, c2, c3, c4⟩ := ih (A + tsz F A) N2 L (by omega) (by omega) (by omega) (by omega) (by omega) F2 T2
        refine ⟨N', ?_, D2.trans c2, c3, c4⟩
        rw [csL, if_pos fr, if_neg nc]
        exact c1
      by_cases rs : rsP F A
      · have e2 := b4 rs
        have v21 : N2 66 21 = rmF F A := by rw [e2]; unfold hdM rmF; rw [sv_n2 _ _ _ _ (by omega), sv_n2 _ _ _ _ (by omega), sv_same]
        have v22 : N2 66 22 = beF F A := by rw [e2]; unfold hdM beF; rw [sv_n2 _ _ _ _ (by omega), sv_same]
        have u := u32 (rmF F A)
        have tl := Int32.toInt_lt (rmF F A)
        have tg := Int32.le_toInt (rmF F A)
        have ram : 0 < lg_cmp (Int32.toInt64 (rmF F A) &&& 4294967295) 15872 ↔ ¬ (¬ rmF F A < 0 ∧ ¬ 15872 < rmF F A) := by
          rw [lggt, u, Int32.lt_iff_toInt_lt, Int32.lt_iff_toInt_lt, show ((15872 : Int64)).toInt = 15872 from rfl, show ((15872 : Int32)).toInt = 15872 from rfl, show ((0 : Int32)).toInt = 0 from rfl]
          omega
        have body : ∀ {K : it_Me → Prop}, (0 < lg_cmp (Int32.toInt64 (N2 66 21) &&& 4294967295) 15872 → w_248_8 kc Φ K (n + 1) s (nI (A + tsz F A)) N2) ∧ (¬ 0 < lg_cmp (Int32.toInt64 (N2 66 21) &&& 4294967295) 15872 → (s = 0 → w_248_59 kc Φ (w_248_8 kc Φ K (n + 1)) K s (nI A) (nI (A + tsz F A)) N2) ∧ (¬ s = 0 → w_246 kc (nI A) N2 (fun r5 m6 => (r5 = 0 → w_248_118 kc Φ (w_248_8 kc Φ K (n + 1)) K s (nI (A + tsz F A)) m6) ∧ (¬ r5 = 0 → w_248_59 kc Φ (w_248_8 kc Φ K (n + 1)) K s (nI A) (nI (A + tsz F A)) m6)))) → w_248_8 kc Φ K (n + 1 + 1) s (nI A) N := fun {K} h => by
          rw [w_248_8]
          refine a1 _ ?_
          rw [bI_t fr]
          refine ⟨fun q => absurd q (by decide), fun _ => b1 _ ?_⟩
          rw [bI_t rs, nx]
          exact ⟨fun q => absurd q (by decide), fun _ => h⟩
        by_cases cd : cand F s A
        · have t32 := rs32 h4 h1 fr rs
          have T3 := pd_T T2 e2
          have P : ∀ c, c ≠ 66 → c ≠ 75 → c ≠ 76 → c ≠ 77 → c ≠ 78 → pdM F N2 L.length A c = N2 c := fun c h6 h75 h76 h77 h78 => by unfold pdM; rw [sv_cell _ _ _ _ h6, sv_cell _ _ _ _ h78, sv_cell _ _ _ _ h77, sv_cell _ _ _ _ h76, sv_cell _ _ _ _ h75]
          have P6 : ∀ j, j ≠ 33 → pdM F N2 L.length A 66 j = N2 66 j := fun j hj => by unfold pdM; rw [sv_n2 _ _ _ _ hj, sv_n1 _ _ _ _ _ (by omega), sv_n1 _ _ _ _ _ (by omega), sv_n1 _ _ _ _ _ (by omega), sv_n1 _ _ _ _ _ (by omega)]
          obtain ⟨N', c1, c2, c3, c4⟩ := ih (A + tsz F A) (pdM F N2 L.length A) (L ++ [A]) (by omega) (by omega) (by omega) (by omega) (by rw [List.length_append]; show 32 * (L.length + 1) + 65536 ≤ _; omega) (F2.cg (P 67 (by omega) (by omega) (by omega) (by omega) (by omega))) T3
          refine ⟨N', ?_, (D2.trans ⟨P, fun j _ h33 => P6 j h33⟩).trans c2, c3, fun K h => body ?_⟩
          · rw [csL, if_pos fr, if_pos cd]
            rw [List.append_assoc] at c1
            exact c1
          · have put : w_248_59 kc Φ (w_248_8 kc Φ K (n + 1)) K s (nI A) (nI (A + tsz F A)) N2 := r_248p (by omega) T2.1 (c4 K h)
            rw [v21]
            refine ⟨fun q => absurd cd.2.1 (ram.1 q), fun _ => ⟨fun _ => put, fun q => r_246 F2 h1 h4 fr (by rw [b3 18 (by omega)]; exact v18) (by rw [b3 19 (by omega)]; exact v19) ?_⟩⟩
            rw [v22, bI_t (cd.2.2.resolve_left q)]
            exact ⟨fun y => absurd y (by decide), fun _ => put⟩
        · obtain ⟨N', c1, c2, c3, c4⟩ := skip cd
          refine ⟨N', c1, c2, c3, fun K h => body ?_⟩
          rw [v21]
          refine ⟨fun _ => c4 K h, fun q => ⟨fun q2 => absurd ⟨rs, Classical.byContradiction (fun y => q (ram.2 y)), Or.inl q2⟩ cd, fun q2 => r_246 F2 h1 h4 fr (by rw [b3 18 (by omega)]; exact v18) (by rw [b3 19 (by omega)]; exact v19) ?_⟩⟩
          rw [v22, bI_f (fun y => cd ⟨rs, Classical.byContradiction (fun y => q (ram.2 y)), Or.inr y⟩)]
          exact ⟨fun _ => c4 K h, fun y => absurd rfl y⟩
      · obtain ⟨N', c1, c2, c3, c4⟩ := skip (fun y => rs y.1)
        refine ⟨N', c1, c2, c3, fun K h => ?_⟩
        rw [w_248_8]
        refine a1 _ ?_
        rw [bI_t fr]
        refine ⟨fun q => absurd q (by decide), fun _ => b1 _ ?_⟩
        rw [bI_f rs, nx]
        exact ⟨fun _ => c4 K h, fun q => absurd rfl q⟩
    · refine ⟨N1, ?_, D1, F1, fun K h => ?_⟩
      · rw [csL, if_neg fr, List.append_nil]
        exact T1
      · rw [w_248_8]
        refine a1 _ ?_
        rw [bI_f fr]
        exact ⟨fun _ => h, fun q => absurd rfl q⟩
