/-! Apps in flash: who is outdone, reference. -/
/-- a list of apps in order -/
def okL (F : Nat → Int32) (L : List Nat) : Prop := L.length < 2048 ∧ (∀ i, i < L.length → 65536 ≤ L.getD i 0 ∧ L.getD i 0 % 4 = 0 ∧ L.getD i 0 + hsz F (L.getD i 0) ≤ 126976) ∧ ∀ i j, i < j → j < L.length → L.getD i 0 < L.getD j 0
theorem byF {F : Nat → Int32} {N : it_Me} (hF : FlR F N) {X Y : Nat} (hX : 65536 ≤ X ∧ X < 131072) (hY : 65536 ≤ Y ∧ Y < 131072) : N 67 X = N 67 Y ↔ gb (mF F) (nI X) = gb (mF F) (nI Y) := by
  have r : ∀ Z, 65536 ≤ Z ∧ Z < 131072 → N 67 Z = sb8 (F ((Z - 65536) / 4)) (Z % 4) ∧ gb (mF F) (nI Z) = by8 (F ((Z - 65536) / 4)) (Z % 4) := fun Z hZ => by
    refine ⟨?_, by rw [gb_in (inF hZ), wiF hZ, bjF hZ, mF2]⟩
    have := hF ((Z - 65536) / 4) (by omega) (Z % 4) (by omega)
    rw [← this]
    congr 1
    omega
  rw [(r X hX).1, (r Y hY).1, (r X hX).2, (r Y hY).2]
  exact sb_inj (by omega) (by omega)
theorem r_249i {kc : it_Kc} {F : Nat → Int32} {N : it_Me} (hF : FlR F N) {a b X Y n : Nat} (ha : a < 2048) (hb : b < 2048) (h77 : N 77 a = nI n) (hX : N 76 b = nI X) (hY : N 76 a = nI Y) (rX : 65536 ≤ X ∧ X + n ≤ 131072) (rY : 65536 ≤ Y ∧ Y + n ≤ 131072) {Φ : Int32 → it_Me → Prop} {K : Int32 → Int32 → Int32 → it_Me → Prop} (h : K (nI a) (nI b) (bI (∀ x, x < n → gb (mF F) (nI (X + x)) = gb (mF F) (nI (Y + x)))) N) : ∀ r x, x + r = n → (∀ y, y < x → gb (mF F) (nI (X + y)) = gb (mF F) (nI (Y + y))) → w_249_39 kc Φ K (r + 2) (nI a) (nI b) 1 (nI x) N := by
  have ex : ∀ (r : Nat) (x : Int32), K (nI a) (nI b) 0 N → w_249_39 kc Φ K (r + 1) (nI a) (nI b) 0 x N := fun r x h => by
    unfold w_249_39
    exact ⟨v2048 ha, fun _ => h, fun _ => ⟨fun _ => h, fun q => absurd rfl q⟩⟩
  intro r
  induction r with
  | zero =>
    intro x hx hy
    unfold w_249_39
    rw [nI_clamp (n := a) (by omega), h77]
    refine ⟨v2048 ha, fun _ => ?_, fun q => absurd ((nLe (by omega) (by omega)).2 (by omega)) q⟩
    rw [bI_t (fun y hy' => hy y (by omega))] at h
    exact h
  | succ r ih =>
    intro x hx hy
    unfold w_249_39 w_249_90
    rw [nI_clamp (n := a) (by omega), nI_clamp (n := b) (by omega), h77, hX, hY, show nI X + nI x = nI (X + x) from nI_add _ _, show nI Y + nI x = nI (Y + x) from nI_add _ _, nI_clamp (n := X + x) (by omega), nI_clamp (n := Y + x) (by omega), nI_s1]
    refine ⟨v2048 ha, fun q => absurd ((nLe (by omega) (by omega)).1 q) (by omega), fun _ => ⟨fun q => absurd q (by decide), fun _ => ⟨v2048 hb, by rw [vp_in_iff, nI_toInt (by omega)]; omega, v2048 ha, by rw [vp_in_iff, nI_toInt (by omega)]; omega, fun q => ?_, fun q => ?_⟩⟩⟩
    · refine ih (x + 1) (by omega) (fun y hy' => ?_)
      by_cases e : y = x
      · rw [e]; exact (byF hF (by omega) (by omega)).1 q
      · exact hy y (by omega)
    · refine ex _ _ ?_
      rw [bI_f (fun z => q ((byF hF (by omega) (by omega)).2 (z x (by omega))))] at h
      exact h
theorem r_249 {kc : it_Kc} {F : Nat → Int32} {N : it_Me} (hF : FlR F N) {L : List Nat} (hT : tbN F N L) (hL : okL F L) {a : Nat} (ha : a < L.length) (h0 : sE F (L.getD a 0) 10 ≠ 0) {Φ : Int32 → it_Me → Prop} (h : Φ (bI (∃ x, x ∈ L ∧ sN F x (L.getD a 0) ∧ bfP F x (L.getD a 0))) N) : w_249 kc (nI a) N Φ := by
  obtain ⟨l1, l2, l3⟩ := hL
  have la := l2 a ha
  have ta := hT.2 a ha
  rcases (sE_in F la.2.1).2.2.1 with z | ⟨Y, n, y1, y2, y3, y4, y5, y6⟩
  · exact absurd z h0
  have t77 : N 77 a = nI n := by rw [ta.2.2.1, nl_0 h0, y2]
  have t76 : N 76 a = nI Y := by rw [ta.2.1, nz_0 h0, y1]
  have odI : (∃ i, i < L.length ∧ sN F (L.getD i 0) (L.getD a 0) ∧ bfP F (L.getD i 0) (L.getD a 0)) ↔ ∃ x, x ∈ L ∧ sN F x (L.getD a 0) ∧ bfP F x (L.getD a 0) := by
    constructor
    · rintro ⟨i, hi, p⟩
      refine ⟨L.getD i 0, ?_, p⟩
      rw [List.getD_eq_getElem?_getD, List.getElem?_eq_getElem hi]
      exact List.getElem_mem hi
    · rintro ⟨x, hx, p⟩
      obtain ⟨i, hi, e⟩ := List.getElem_of_mem hx
      have : L.getD i 0 = x := by rw [List.getD_eq_getElem?_getD, List.getElem?_eq_getElem hi, ← e]; rfl
      rw [← this] at p
      exact ⟨i, hi, p⟩
  have lp : ∀ r b, b + r = L.length → (∀ i, i < b → ¬ (sN F (L.getD i 0) (L.getD a 0) ∧ bfP F (L.getD i 0) (L.getD a 0))) → w_249_2 kc Φ (fun m => w_249_140 kc Φ m) (fun m => w_249_148 kc Φ m) (r + 1) (nI a) (nI b) N := by
    intro r
    induction r with
    | zero =>
      intro b hb no
      unfold w_249_2
      rw [hT.1]
      refine ⟨fun _ => ?_, fun q => absurd ((nLe (by omega) (by omega)).2 (by omega)) q⟩
      unfold w_249_148
      rw [bI_f (fun y => by obtain ⟨i, hi, p⟩ := odI.2 y; exact no i (by omega) p)] at h
      exact h
    | succ r ih =>
      intro b hb no
      have hbl : b < L.length := by omega
      have lb := l2 b hbl
      have tb := hT.2 b hbl
      have next : ¬ (sN F (L.getD b 0) (L.getD a 0) ∧ bfP F (L.getD b 0) (L.getD a 0)) → w_249_142 kc Φ (w_249_2 kc Φ (fun m => w_249_140 kc Φ m) (fun m => w_249_148 kc Φ m) (r + 1)) (fun m => w_249_140 kc Φ m) (fun m => w_249_148 kc Φ m) (nI a) (nI b) N := fun q => by
        unfold w_249_142
        rw [nI_s1]
        refine ih (b + 1) (by omega) (fun i hi => ?_)
        by_cases e : i = b
        · rw [e]; exact q
        · exact no i (by omega)
      have skip : ¬ (sN F (L.getD b 0) (L.getD a 0) ∧ bfP F (L.getD b 0) (L.getD a 0)) → w_249_34 kc Φ (w_249_2 kc Φ (fun m => w_249_140 kc Φ m) (fun m => w_249_148 kc Φ m) (r + 1)) (fun m => w_249_140 kc Φ m) (fun m => w_249_148 kc Φ m) (nI a) (nI b) N := fun q => by
        unfold w_249_34 w_249_35
        refine ⟨1, ?_⟩
        have z : w_249_97 kc Φ (w_249_2 kc Φ (fun m => w_249_140 kc Φ m) (fun m => w_249_148 kc Φ m) (r + 1)) (fun m => w_249_140 kc Φ m) (fun m => w_249_148 kc Φ m) (nI a) (nI b) 0 N := by
          unfold w_249_97
          exact ⟨fun _ => next q, fun y => absurd rfl y⟩
        unfold w_249_39
        exact ⟨v2048 (by omega), fun _ => z, fun _ => ⟨fun _ => z, fun y => absurd rfl y⟩⟩
      unfold w_249_2
      rw [hT.1]
      refine ⟨fun q => absurd ((nLe (by omega) (by omega)).1 q) (by omega), fun _ => ⟨fun q => skip (fun y => ?_), fun q => ⟨v2048 (by omega), v2048 (by omega), fun q2 => ?_, fun q2 => skip (fun y => q2 ?_)⟩⟩⟩
      · have e : b = a := (nEq (by omega) (by omega)).1 q
        rw [e] at y
        exact y.2.1 rfl
      · rw [nI_clamp (n := b) (by omega), nI_clamp (n := a) (by omega), tb.2.2.1, t77] at q2
        have s0 : sE F (L.getD b 0) 10 ≠ 0 := fun y => by
          unfold nl at q2
          rw [if_pos y] at q2
          exact absurd ((nEq (a := 0) (by omega) (by omega)).1 q2) (by omega)
        rw [nl_0 s0] at q2
        rcases (sE_in F lb.2.1).2.2.1 with z | ⟨X, n', x1, x2, x3, x4, x5, x6⟩
        · exact absurd z s0
        have en : n' = n := (nEq (by omega) (by omega)).1 (by rw [← x2]; exact q2)
        have b76 : N 76 b = nI X := by rw [tb.2.1, nz_0 s0, x1]
        have same : (∀ x, x < n → gb (mF F) (nI (X + x)) = gb (mF F) (nI (Y + x))) ↔ sN F (L.getD b 0) (L.getD a 0) := by
          have lx : (sE F (L.getD a 0) 11).toInt = n := by rw [y2, nI_toInt (by omega)]
          constructor
          · intro z
            refine ⟨s0, by rw [q2, y2], fun x hx => ?_⟩
            rw [x1, y1, show nI X + nI x = nI (X + x) from nI_add _ _, show nI Y + nI x = nI (Y + x) from nI_add _ _]
            exact z x (by omega)
          · intro z x hx
            have := z.2.2 x (by omega)
            rw [x1, y1, show nI X + nI x = nI (X + x) from nI_add _ _, show nI Y + nI x = nI (Y + x) from nI_add _ _] at this
            exact this
        have ne : b ≠ a := fun e => q (by rw [e])
        have vb : N 78 b = vrF F (L.getD b 0) := tb.2.2.2
        have va : N 78 a = vrF F (L.getD a 0) := ta.2.2.2
        have bf : bfP F (L.getD b 0) (L.getD a 0) ↔ ult (vrF F (L.getD a 0)) (vrF F (L.getD b 0)) ∨ (vrF F (L.getD a 0) = vrF F (L.getD b 0) ∧ b < a) := by
          have ord : L.getD b 0 < L.getD a 0 ↔ b < a := by
            rcases Nat.lt_or_gt_of_ne ne with g | g
            · exact ⟨fun _ => g, fun _ => l3 b a g ha⟩
            · have := l3 a b g hbl
              constructor <;> intro y <;> omega
          have nea : L.getD b 0 ≠ L.getD a 0 := by
            rcases Nat.lt_or_gt_of_ne ne with g | g
            · have := l3 b a g ha; omega
            · have := l3 a b g hbl; omega
          constructor
          · rintro ⟨_, z | z⟩
            · exact Or.inr ⟨z.1.symm, ord.1 z.2⟩
            · exact Or.inl z.2
          · rintro (z | z)
            · refine ⟨nea, Or.inr ⟨fun e => ?_, z⟩⟩
              rw [e] at z
              unfold ult at z
              omega
            · exact ⟨nea, Or.inl ⟨z.1.symm, ord.2 z.2⟩⟩
        unfold w_249_35
        refine ⟨n + 2, r_249i hF (by omega) (by omega) t77 b76 t76 (by omega) (by omega) ?_ n 0 (by omega) (fun y hy => absurd hy (Nat.not_lt_zero _))⟩
        rw [bI_cg same]
        show w_249_97 kc Φ (w_249_2 kc Φ (fun m => w_249_140 kc Φ m) (fun m => w_249_148 kc Φ m) (r + 1)) (fun m => w_249_140 kc Φ m) (fun m => w_249_148 kc Φ m) (nI a) (nI b) (bI (sN F (L.getD b 0) (L.getD a 0))) N
        unfold w_249_97
        have yes : sN F (L.getD b 0) (L.getD a 0) ∧ bfP F (L.getD b 0) (L.getD a 0) → w_249_140 kc Φ N := fun p => by
          unfold w_249_140
          rw [bI_t (odI.1 ⟨b, hbl, p⟩)] at h
          exact h
        by_cases sn : sN F (L.getD b 0) (L.getD a 0)
        · rw [bI_t sn, nI_clamp (n := b) (by omega), nI_clamp (n := a) (by omega), va, vb]
          refine ⟨fun y => absurd y (by decide), fun _ => ⟨v2048 (by omega), v2048 (by omega), r_247 ?_⟩⟩
          rw [va, vb]
          by_cases u : ult (vrF F (L.getD a 0)) (vrF F (L.getD b 0))
          · rw [bI_t u]
            exact ⟨fun y => absurd y (by decide), fun _ => yes ⟨sn, bf.2 (Or.inl u)⟩⟩
          · rw [bI_f u]
            refine ⟨fun _ => ⟨v2048 (by omega), v2048 (by omega), fun e => ⟨fun le => next (fun y => ?_), fun le => yes ⟨sn, bf.2 (Or.inr ⟨e, ?_⟩)⟩⟩, fun e => next (fun y => ?_)⟩, fun y => absurd rfl y⟩
            · have := (nLe (by omega) (by omega)).1 le
              rcases bf.1 y.2 with z | z
              · exact u z
              · omega
            · have : ¬ a ≤ b := fun y => le ((nLe (by omega) (by omega)).2 y)
              omega
            · rcases bf.1 y.2 with z | z
              · exact u z
              · exact e z.1
        · rw [bI_f sn]
          exact ⟨fun _ => next (fun y => sn y.1), fun y => absurd rfl y⟩
      · rw [nI_clamp (n := b) (by omega), nI_clamp (n := a) (by omega), tb.2.2.1, t77, nl_0 y.1.1, y.1.2.1, y2]
  exact ⟨L.length + 1, lp L.length 0 (by omega) (fun i hi => absurd hi (Nat.not_lt_zero _))⟩
