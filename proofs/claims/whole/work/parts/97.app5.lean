/-! Apps in flash: the rest of a head. -/
def eqE (σ τ : Nat → Int32) : Prop := (∀ i, i = 8 ∨ i = 9 ∨ i = 10 ∨ i = 12 ∨ i = 13 → σ i = τ i) ∧ (σ 10 ≠ 0 → σ 11 = τ 11) ∧ (σ 13 ≠ 0 → σ 14 = τ 14)
theorem tk_eq {σ τ : Nat → Int32} (h : eqE σ τ) (t l : Int32) {a : Int32} : eqE (tkE σ t l a) (tkE τ t l a) := by
  obtain ⟨h1, h2, h3⟩ := h
  have e8 := h1 8 (by omega)
  have e9 := h1 9 (by omega)
  have e10 := h1 10 (by omega)
  have e12 := h1 12 (by omega)
  have e13 := h1 13 (by omega)
  have nm : tkE σ t l a 10 = tkE τ t l a 10 ∧ (tkE σ t l a 10 ≠ 0 → tkE σ t l a 11 = tkE τ t l a 11) := by
    by_cases q : t = 3 ∧ ¬ l < 1 ∧ ¬ 16 < l ∧ σ 10 = 0
    · have q' : t = 3 ∧ ¬ l < 1 ∧ ¬ 16 < l ∧ τ 10 = 0 := by rw [← e10]; exact q
      rw [tkN q, tkN q', uS_n _ _ (by omega), uS_s, uS_n _ _ (by omega), uS_s, uS_s, uS_s]
      exact ⟨rfl, fun _ => rfl⟩
    · have q' : ¬ (t = 3 ∧ ¬ l < 1 ∧ ¬ 16 < l ∧ τ 10 = 0) := by rw [← e10]; exact q
      rw [tkO (Or.inl rfl) q, tkO (Or.inl rfl) q', tkO (Or.inr rfl) q, tkO (Or.inr rfl) q']
      exact ⟨e10, h2⟩
  have pm : tkE σ t l a 13 = tkE τ t l a 13 ∧ (tkE σ t l a 13 ≠ 0 → tkE σ t l a 14 = tkE τ t l a 14) := by
    by_cases q : t = 8 ∧ ¬ l < 8 ∧ ¬ 64 < l ∧ l &&& 7 = 0 ∧ σ 13 = 0
    · have q' : t = 8 ∧ ¬ l < 8 ∧ ¬ 64 < l ∧ l &&& 7 = 0 ∧ τ 13 = 0 := by rw [← e13]; exact q
      rw [tkQ q, tkQ q', uS_n _ _ (by omega), uS_s, uS_n _ _ (by omega), uS_s, uS_s, uS_s]
      exact ⟨rfl, fun _ => rfl⟩
    · have q' : ¬ (t = 8 ∧ ¬ l < 8 ∧ ¬ 64 < l ∧ l &&& 7 = 0 ∧ τ 13 = 0) := by rw [← e13]; exact q
      rw [tkP (Or.inl rfl) q, tkP (Or.inl rfl) q', tkP (Or.inr rfl) q, tkP (Or.inr rfl) q']
      exact ⟨e13, h3⟩
  refine ⟨fun i hi => ?_, nm.2, pm.2⟩
  rcases hi with rfl | rfl | rfl | rfl | rfl
  · rw [tk8, tk8, e8]
  · rw [tk9, tk9, e9]
  · exact nm.1
  · rw [tk12, tk12, e12]
  · exact pm.1
theorem el_eq (F : Nat → Int32) (A hs : Nat) : ∀ (n p : Nat) {σ τ : Nat → Int32}, eqE σ τ → (elR F A hs n p σ).1 = (elR F A hs n p τ).1 ∧ eqE (elR F A hs n p σ).2 (elR F A hs n p τ).2
  | 0, _, _, _, h => ⟨rfl, h⟩
  | n + 1, p, σ, τ, h => by
    rw [elR, elR]
    by_cases a : hs ≤ p
    · rw [if_pos a, if_pos a]; exact ⟨rfl, h⟩
    · rw [if_neg a, if_neg a]
      by_cases b : p + 4 + rupN (Hh F (A + p + 2)) ≤ hs
      · rw [if_pos b, if_pos b]; exact el_eq F A hs n _ (tk_eq h _ _)
      · rw [if_neg b, if_neg b]; exact ⟨rfl, h⟩
/-- where the fields point -/
def inE (A hs : Nat) (σ : Nat → Int32) : Prop := (σ 8 = 0 ∨ ∃ X, σ 8 = nI X ∧ A + 20 ≤ X ∧ X + 12 ≤ A + hs ∧ X % 4 = 0) ∧ (σ 9 = 0 ∨ ∃ X, σ 9 = nI X ∧ A + 20 ≤ X ∧ X + 20 ≤ A + hs ∧ X % 4 = 0) ∧ (σ 10 = 0 ∨ ∃ X L, σ 10 = nI X ∧ σ 11 = nI L ∧ A + 20 ≤ X ∧ 1 ≤ L ∧ L ≤ 16 ∧ X + L ≤ A + hs) ∧ (σ 12 = 0 ∨ ∃ X, σ 12 = nI X ∧ A + 20 ≤ X ∧ X + 4 ≤ A + hs ∧ X % 4 = 0) ∧ (σ 13 = 0 ∨ ∃ X L, σ 13 = nI X ∧ σ 14 = nI L ∧ A + 20 ≤ X ∧ 8 ≤ L ∧ L ≤ 64 ∧ L % 8 = 0 ∧ X + L ≤ A + hs ∧ X % 4 = 0)
theorem tk_in {A hs p : Nat} (h4 : A % 4 = 0) (hp : 16 ≤ p ∧ p % 4 = 0) {σ : Nat → Int32} (h : inE A hs σ) {t l : Int32} (hl : ∃ k, k < 65536 ∧ l = nI k) (hr : p + 4 + rupN l ≤ hs) : inE A hs (tkE σ t l (nI (A + p + 4))) := by
  obtain ⟨k, hk, e⟩ := hl
  have lx : l.toInt = k := by rw [e, nI_toInt (by omega)]
  have rk : rupN l = (k + 3) / 4 * 4 := by unfold rupN; rw [lx]; rfl
  obtain ⟨a8, a9, a10, a12, a13⟩ := h
  have lk : ∀ n : Nat, n < 65536 → l = nI n → k = n := fun n hn q => by rw [e] at q; exact (nEq (by omega) (by omega)).1 q
  refine ⟨?_, ?_, ?_, ?_, ?_⟩
  · rw [tk8]
    split
    · rename_i q
      have := lk 12 (by omega) q.2.1
      exact Or.inr ⟨_, rfl, by omega, by omega, by omega⟩
    · exact a8
  · rw [tk9]
    split
    · rename_i q
      have := lk 20 (by omega) q.2.1
      exact Or.inr ⟨_, rfl, by omega, by omega, by omega⟩
    · exact a9
  · by_cases q : t = 3 ∧ ¬ l < 1 ∧ ¬ 16 < l ∧ σ 10 = 0
    · rw [tkN q, uS_n _ _ (by omega), uS_s, uS_s]
      have q1 := q.2.1
      have q2 := q.2.2.1
      rw [Int32.lt_iff_toInt_lt, lx] at q1 q2
      simp only [Int32.reduceToInt] at q1 q2
      exact Or.inr ⟨_, k, rfl, e, by omega, by omega, by omega, by omega⟩
    · rw [tkO (Or.inl rfl) q, tkO (Or.inr rfl) q]; exact a10
  · rw [tk12]
    split
    · rename_i q
      have := lk 4 (by omega) q.2.1
      exact Or.inr ⟨_, rfl, by omega, by omega, by omega⟩
    · exact a12
  · by_cases q : t = 8 ∧ ¬ l < 8 ∧ ¬ 64 < l ∧ l &&& 7 = 0 ∧ σ 13 = 0
    · rw [tkQ q, uS_n _ _ (by omega), uS_s, uS_s]
      have q1 := q.2.1
      have q2 := q.2.2.1
      have q3 := q.2.2.2.1
      rw [Int32.lt_iff_toInt_lt, lx] at q1 q2
      rw [← Int32.toInt_inj, and7, lx] at q3
      simp only [Int32.reduceToInt] at q1 q2 q3
      exact Or.inr ⟨_, k, rfl, e, by omega, by omega, by omega, by omega, by omega, by omega⟩
    · rw [tkP (Or.inl rfl) q, tkP (Or.inr rfl) q]; exact a13
theorem el_in (F : Nat → Int32) {A hs : Nat} (h4 : A % 4 = 0) : ∀ (n p : Nat) {σ : Nat → Int32}, 16 ≤ p ∧ p % 4 = 0 → inE A hs σ → inE A hs (elR F A hs n p σ).2
  | 0, _, _, _, h => h
  | n + 1, p, σ, hp, h => by
    rw [elR]
    by_cases a : hs ≤ p
    · rw [if_pos a]; exact h
    · rw [if_neg a]
      by_cases b : p + 4 + rupN (Hh F (A + p + 2)) ≤ hs
      · rw [if_pos b]
        have r := rup_c (Hh_lt F (A + p + 2))
        exact el_in F h4 n _ (by omega) (tk_in h4 hp h (Hh_lt F (A + p + 2)) b)
      · rw [if_neg b]; exact h
def sE (F : Nat → Int32) (A : Nat) : Nat → Int32 := (elR F A (hsz F A) 124 16 (fun _ => 0)).2
abbrev okE (F : Nat → Int32) (A : Nat) : Prop := (elR F A (hsz F A) 124 16 (fun _ => 0)).1 = true
theorem sE_in (F : Nat → Int32) {A : Nat} (h4 : A % 4 = 0) : inE A (hsz F A) (sE F A) := el_in F h4 124 16 (by omega) ⟨Or.inl rfl, Or.inl rfl, Or.inl rfl, Or.inl rfl, Or.inl rfl⟩
def uE (F : Nat → Int32) (A : Nat) : Int32 := if sE F A 9 = 0 then sE F A 8 else sE F A 9
/-- a word of the flash at an address -/
def gE (F : Nat → Int32) (a : Int32) : Int32 := Gf F a.toInt.toNat
abbrev rsP (F : Nat → Int32) (A : Nat) : Prop := (xrF F A (hsz F A / 4) 0 0 = 0 ∧ Gf F (A + 8) &&& 1 = 1) ∧ okE F A ∧ uE F A ≠ 0
def hdF (F : Nat → Int32) (A : Nat) (τ : Nat → Int32) : Prop := (τ 4 = gE F (uE F A) ∧ τ 5 = gE F (uE F A + 8) ∧ τ 6 = (if sE F A 9 = 0 then Gf F (A + 4) else gE F (uE F A + 12)) ∧ τ 7 = (if sE F A 9 = 0 then 0 else gE F (uE F A + 16))) ∧ eqE (sE F A) τ
theorem uE_in {F : Nat → Int32} {A : Nat} (h4 : A % 4 = 0) (h : uE F A ≠ 0) : ∃ X, uE F A = nI X ∧ A + 20 ≤ X ∧ X + 12 ≤ A + hsz F A ∧ X % 4 = 0 ∧ (sE F A 9 ≠ 0 → X + 20 ≤ A + hsz F A) := by
  have k := sE_in F h4
  unfold uE at h ⊢
  by_cases q : sE F A 9 = 0
  · rw [if_pos q] at h ⊢
    rcases k.1 with e | ⟨X, e, h1, h2, h3⟩
    · exact absurd e h
    · exact ⟨X, e, h1, h2, h3, fun y => absurd q y⟩
  · rw [if_neg q]
    rcases k.2.1 with e | ⟨X, e, h1, h2, h3⟩
    · exact absurd e q
    · exact ⟨X, e, h1, by omega, h3, fun _ => h2⟩
theorem and01 (x : Int32) : x &&& 1 = 0 ∨ x &&& 1 = 1 := by
  have e : (x &&& 1).toInt = x.toInt % 2 := andI x 1 (by omega) rfl
  by_cases h : x.toInt % 2 = 0
  · left; exact Int32.toInt_inj.mp (by rw [e, h]; rfl)
  · right; exact Int32.toInt_inj.mp (by rw [e]; show _ = (1 : Int); omega)
