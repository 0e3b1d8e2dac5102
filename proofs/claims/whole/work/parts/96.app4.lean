/-! Apps in flash: the loop over elements, the sum of a head. -/
def rupN (l : Int32) : Nat := (l.toInt.toNat + 3) / 4 * 4
theorem rup_c {l : Int32} (hl : ∃ k, k < 65536 ∧ l = nI k) : (l + 3) &&& (-4) = nI (rupN l) ∧ (l + 3) / 4 * 4 = nI (rupN l) ∧ rupN l ≤ 65540 ∧ rupN l % 4 = 0 := by
  obtain ⟨k, hk, e⟩ := hl
  have x : l.toInt = k := by rw [e, nI_toInt (by omega)]
  have a := rup (x := l) (by omega) (by omega)
  have b := rup_rdv (x := l) (by omega) (by omega)
  have c : (l + 3) &&& (-4) = nI (rupN l) := Int32.toInt_inj.mp (by rw [a, nI_toInt (by unfold rupN; omega)]; unfold rupN; omega)
  exact ⟨c, b.trans c, by unfold rupN; omega, by unfold rupN; omega⟩
def elR (F : Nat → Int32) (A hs : Nat) : Nat → Nat → (Nat → Int32) → Bool × (Nat → Int32)
  | 0, _, σ => (true, σ)
  | n + 1, p, σ => if hs ≤ p then (true, σ) else if p + 4 + rupN (Hh F (A + p + 2)) ≤ hs then elR F A hs n (p + 4 + rupN (Hh F (A + p + 2))) (tkE σ (Hh F (A + p)) (Hh F (A + p + 2)) (nI (A + p + 4))) else (false, σ)
theorem tk_lo (σ : Nat → Int32) (t l a : Int32) {i : Nat} (hi : i < 8) : tkE σ t l a i = σ i := by
  unfold tkE
  split
  · rw [uS_n _ _ (by omega)]
  · split
    · rw [uS_n _ _ (by omega)]
    · split
      · rw [uS_n _ _ (by omega), uS_n _ _ (by omega)]
      · split
        · rw [uS_n _ _ (by omega)]
        · split
          · rw [uS_n _ _ (by omega), uS_n _ _ (by omega)]
          · rfl
theorem el_lo (F : Nat → Int32) (A hs : Nat) : ∀ (n p : Nat) (σ : Nat → Int32) {i : Nat}, i < 8 → (elR F A hs n p σ).2 i = σ i
  | 0, _, _, _, _ => rfl
  | n + 1, p, σ, i, hi => by
    unfold elR
    split
    · rfl
    · split
      · rw [el_lo F A hs n _ _ hi, tk_lo _ _ _ _ hi]
      · rfl
theorem c_3l {kc : it_Kc} {F : Nat → Int32} {k A hs : Nat} (hk : k ≠ 2) (hA : 65536 ≤ A ∧ A + hs ≤ 126976) (hh : hs ≤ 512) {Φ : Int32 → it_Me → Prop} {K0 K1 : it_Me → Prop} : ∀ (n p : Nat) (m : it_Me), n ≤ 124 → FlC F m → m k 1 = nI A → m k 2 = nI hs → p ≤ 66100 → (if (elR F A hs n p (m k)).1 = true then K1 (it_up m k (elR F A hs n p (m k)).2) else K0 (it_up m k (elR F A hs n p (m k)).2)) → w_3_30 kc Φ K0 K1 (n + 1) k (nI p) (nI (124 - n)) m := by
  intro n
  induction n with
  | zero =>
    intro p m hn hF h1 h2 hp h
    unfold elR at h
    rw [if_pos rfl, up_id] at h
    unfold w_3_30
    exact ⟨fun _ => h, fun q => absurd ((nLe (a := 124) (by omega) (by omega)).2 (by omega)) q⟩
  | succ n ih =>
    intro p m hn hF h1 h2 hp h
    unfold w_3_30
    rw [h2]
    refine ⟨fun q => absurd ((nLe (a := 124) (by omega) (by omega)).1 q) (by omega), fun _ => ⟨fun q => ?_, fun q => ?_⟩⟩
    · have q' := (nLe (by omega) (by omega)).1 q
      unfold elR at h
      rw [if_pos q', if_pos rfl, up_id] at h
      exact h
    · have q' : ¬ hs ≤ p := fun y => q ((nLe (by omega) (by omega)).2 y)
      obtain ⟨r1, r2, r3, r4⟩ := rup_c (Hh_lt F (A + p + 2))
      rw [h1, show nI A + nI p = nI (A + p) from nI_add A p, n_2]
      refine c14F hF (by omega) ?_
      unfold w_216
      rw [r1]
      dsimp only
      rw [n_4, show nI (p + 4) + nI (rupN (Hh F (A + p + 2))) = nI (p + 4 + rupN (Hh F (A + p + 2))) from nI_add _ _, h2, h1, show nI A + nI p = nI (A + p) from nI_add A p]
      unfold elR at h
      rw [if_neg q'] at h
      refine ⟨fun g => c14F hF (by omega) ?_, fun g => ?_⟩
      · have g' := (nLe (by omega) (by omega)).1 g
        rw [if_pos g'] at h
        rw [h1, show nI A + nI p = nI (A + p) from nI_add A p, n_4]
        refine c_4 ?_
        rw [show nI (124 - (n + 1)) + 1 = nI (124 - n) by rw [nI_s1]; congr 1; omega]
        have cs : it_up m k (tkE (m k) (Hh F (A + p)) (Hh F (A + p + 2)) (nI (A + p + 4))) k = tkE (m k) (Hh F (A + p)) (Hh F (A + p + 2)) (nI (A + p + 4)) := up_same _ _ _
        refine ih _ _ (by omega) (hF.cg (up_cell _ _ _ (Ne.symm hk))) (by rw [cs, tk_lo _ _ _ _ (by omega)]; exact h1) (by rw [cs, tk_lo _ _ _ _ (by omega)]; exact h2) (by omega) ?_
        rw [cs, up_up2]
        exact h
      · have g' : ¬ p + 4 + rupN (Hh F (A + p + 2)) ≤ hs := fun y => g ((nLe (by omega) (by omega)).2 y)
        rw [if_neg g'] at h
        rw [if_neg Bool.false_ne_true, up_id] at h
        exact h
theorem noM_tk {σ : Nat → Int32} (h : noM σ) (t l : Int32) {a : Int32} (ha : a ≠ -1) : noM (tkE σ t l a) := by
  intro i hi
  have hl := h i hi
  rcases hi with rfl | rfl | rfl | rfl | rfl
  · rw [tk8]; split; exact ha; exact hl
  · rw [tk9]; split; exact ha; exact hl
  · by_cases q : t = 3 ∧ ¬ l < 1 ∧ ¬ 16 < l ∧ σ 10 = 0
    · rw [tkN q, uS_n _ _ (by omega), uS_s]; exact ha
    · rw [tkO (Or.inl rfl) q]; exact hl
  · rw [tk12]; split; exact ha; exact hl
  · by_cases q : t = 8 ∧ ¬ l < 8 ∧ ¬ 64 < l ∧ l &&& 7 = 0 ∧ σ 13 = 0
    · rw [tkQ q, uS_n _ _ (by omega), uS_s]; exact ha
    · rw [tkP (Or.inl rfl) q]; exact hl
theorem rE_f (N : it_Me) (σ : Nat → Int32) {k : Nat} (h : k ≠ 66) : rE N σ k = N k := rT_f _ _ _ _ _ _ h
theorem r_245l {kc : it_Kc} {F : Nat → Int32} {A hs : Nat} (hA : 65536 ≤ A ∧ A + hs ≤ 126976) (h4 : A % 4 = 0) {N : it_Me} (hF : FlR F N) {v2 : Int32} {Φ : Int32 → it_Me → Prop} {K0 : it_Me → Prop} {K1 : Int32 → Int32 → Int32 → Int32 → it_Me → Prop} : ∀ (n p : Nat) (σ : Nat → Int32), noM σ → p % 4 = 0 → hs ≤ p + 4 * n → p ≤ 66100 → (if (elR F A hs n p σ).1 = true then K1 (nI A) v2 (nz ((elR F A hs n p σ).2 8)) (nz ((elR F A hs n p σ).2 9)) (rE N (elR F A hs n p σ).2) else K0 (rE N (elR F A hs n p σ).2)) → w_245_89 kc Φ K0 K1 (n + 1) (nI A) v2 (nz (σ 8)) (nz (σ 9)) (nI (A + p)) (nI (A + hs)) (rE N σ) := by
  intro n
  induction n with
  | zero =>
    intro p σ hσ hp4 hn hp h
    unfold elR at h
    rw [if_pos rfl] at h
    unfold w_245_89
    exact ⟨fun _ => h, fun q => absurd ((nLe (by omega) (by omega)).2 (by omega)) q⟩
  | succ n ih =>
    intro p σ hσ hp4 hn hp h
    unfold w_245_89
    refine ⟨fun q => ?_, fun q => ?_⟩
    · have q' := (nLe (by omega) (by omega)).1 q
      unfold elR at h
      rw [if_pos (show hs ≤ p by omega), if_pos rfl] at h
      exact h
    · have q' : ¬ hs ≤ p := fun y => q ((nLe (by omega) (by omega)).2 (by omega))
      obtain ⟨r1, r2, r3, r4⟩ := rup_c (Hh_lt F (A + p + 2))
      have hF' : FlR F (rE N σ) := hF.cg (rE_f _ _ (by omega))
      refine r219F hF' (by omega) (by omega) ?_
      rw [n_2]
      refine r219F hF' (by omega) (by omega) ⟨by decide, ?_⟩
      rw [r2, n_4, show nI (A + p + 4) + nI (rupN (Hh F (A + p + 2))) = nI (A + p + 4 + rupN (Hh F (A + p + 2))) from nI_add _ _]
      unfold elR at h
      rw [if_neg q'] at h
      refine ⟨fun g => ?_, fun g => ?_⟩
      · have g' := (nLe (by omega) (by omega)).1 g
        rw [if_pos (show p + 4 + rupN (Hh F (A + p + 2)) ≤ hs by omega)] at h
        rw [← n_4 (A + p)]
        refine r_els hσ (Hh_lt F (A + p + 2)) (by rw [n_4]; exact fun y => absurd ((nEq (b := 0) (by omega) (by omega)).1 y) (by omega)) ?_
        rw [n_4]
        have := ih (p + 4 + rupN (Hh F (A + p + 2))) (tkE σ (Hh F (A + p)) (Hh F (A + p + 2)) (nI (A + p + 4))) (noM_tk hσ _ _ (nM1 (by omega))) (by omega) (by omega) (by omega) h
        rw [show A + p + 4 + rupN (Hh F (A + p + 2)) = A + (p + 4 + rupN (Hh F (A + p + 2))) by omega]
        exact this
      · have g' : ¬ A + p + 4 + rupN (Hh F (A + p + 2)) ≤ A + hs := fun y => g ((nLe (by omega) (by omega)).2 y)
        rw [if_neg (show ¬ p + 4 + rupN (Hh F (A + p + 2)) ≤ hs by omega), if_neg Bool.false_ne_true] at h
        exact h
def xrF (F : Nat → Int32) (A : Nat) : Nat → Nat → Int32 → Int32
  | 0, _, c => c
  | n + 1, j, c => xrF F A n (j + 1) (c ^^^ Gf F (A + 4 * j))
def xrG (F : Nat → Int32) (A : Nat) : Nat → Nat → Int32 → Int32
  | 0, _, c => c
  | n + 1, j, c => xrG F A n (j + 1) (c ^^^ (if j = 3 then 0 else Gf F (A + 4 * j)))
theorem xo_c (a b c : Int32) : (a ^^^ b) ^^^ c = (a ^^^ c) ^^^ b := by
  rw [Int32.xor_assoc, Int32.xor_comm b c, ← Int32.xor_assoc]
theorem xrG_hi (F : Nat → Int32) (A : Nat) : ∀ (n j : Nat) (c : Int32), 3 < j → xrG F A n j c = xrF F A n j c
  | 0, _, _, _ => rfl
  | n + 1, j, c, h => by
    rw [xrG, xrF, if_neg (by omega)]
    exact xrG_hi F A n (j + 1) _ (by omega)
theorem xrG_lo (F : Nat → Int32) (A : Nat) : ∀ (n j : Nat) (c : Int32), j ≤ 3 → 3 < j + n → xrG F A n j (c ^^^ Gf F (A + 12)) = xrF F A n j c
  | 0, j, _, h1, h2 => absurd h2 (by omega)
  | n + 1, j, c, h1, h2 => by
    rw [xrG, xrF]
    by_cases q : j = 3
    · subst q
      rw [if_pos rfl, Int32.xor_zero]
      exact xrG_hi F A n 4 _ (by omega)
    · rw [if_neg q, xo_c]
      exact xrG_lo F A n (j + 1) _ (by omega) (by omega)
theorem c_2l {kc : it_Kc} {F : Nat → Int32} {k A hs : Nat} (hA : 65536 ≤ A ∧ A + hs ≤ 126976) {m : it_Me} (hF : FlC F m) (h1 : m k 1 = nI A) (h2 : m k 2 = nI hs) {Φ : Int32 → it_Me → Prop} {K : Nat → Int32 → it_Me → Prop} : ∀ (n j : Nat) (c : Int32), 4 * j + 4 * n = hs → K k (xrF F A n j c) m → w_2_4 kc Φ K (n + 1) k c (nI (4 * j)) m := by
  intro n
  induction n with
  | zero =>
    intro j c hj h
    unfold w_2_4
    rw [h2]
    exact ⟨fun _ => h, fun q => absurd ((nLe (by omega) (by omega)).2 (by omega)) q⟩
  | succ n ih =>
    intro j c hj h
    unfold w_2_4
    rw [h2, h1, show nI A + nI (4 * j) = nI (A + 4 * j) from nI_add _ _]
    refine ⟨fun q => absurd ((nLe (by omega) (by omega)).1 q) (by omega), fun _ => c12F hF (by omega) ?_⟩
    rw [n_4, show 4 * j + 4 = 4 * (j + 1) by omega]
    exact ih (j + 1) _ (by omega) h
theorem r_245x {kc : it_Kc} {F : Nat → Int32} {A hs : Nat} (hA : 65536 ≤ A ∧ A + hs ≤ 126976) (h4 : A % 4 = 0) {N : it_Me} (hF : FlR F N) (h18 : N 66 18 = nI hs) {Φ : Int32 → it_Me → Prop} {K : Int32 → Int32 → it_Me → Prop} : ∀ (n j : Nat) (c : Int32), 4 * j + 4 * n = hs → K (nI A) (xrG F A n j c) N → w_245_11 kc Φ K (n + 1) (nI A) c (nI (4 * j)) N := by
  intro n
  induction n with
  | zero =>
    intro j c hj h
    unfold w_245_11
    rw [h18]
    exact ⟨fun _ => h, fun q => absurd ((nLe (by omega) (by omega)).2 (by omega)) q⟩
  | succ n ih =>
    intro j c hj h
    unfold w_245_11 w_245_37
    rw [h18, n_4, show 4 * j + 4 = 4 * (j + 1) by omega]
    rw [xrG] at h
    refine ⟨fun q => absurd ((nLe (by omega) (by omega)).1 q) (by omega), fun _ => ⟨fun q => ?_, fun q => ?_⟩⟩
    · have q' : j = 3 := by have := (nEq (b := 12) (by omega) (by omega)).1 q; omega
      rw [if_pos q'] at h
      exact ih (j + 1) _ (by omega) h
    · have q' : ¬ j = 3 := fun y => q (by rw [y]; rfl)
      rw [if_neg q'] at h
      rw [show nI A + nI (4 * j) = nI (A + 4 * j) from nI_add _ _]
      exact r220F hF (by omega) (by omega) (ih (j + 1) _ (by omega) h)
