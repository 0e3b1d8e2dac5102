/-! The scheduler: in turn, and by number. -/
def psM (M : it_Me) (i : Nat) : it_Me := it_sv (it_sv M 66 71 (M 66 71 + 1)) 107 i (M 107 i + 1)
def Kw (m m' : it_Me) : Prop := m' 0 = m 0 ∧ m' 9 = m 9 ∧ m' 7 = m 7 ∧ m' 4 0 = m 4 0
theorem Kw.rfl {m : it_Me} : Kw m m := ⟨Eq.refl _, Eq.refl _, Eq.refl _, Eq.refl _⟩
theorem Kw.cnt {m m' : it_Me} (h : Kw m m') : cnt m' = cnt m := cnt_cg (by rw [h.2.1])
def Cho (kc : it_Kc) (C : it_Me → (Option Nat → it_Me → Prop) → Prop) (B' : Nat) (m : it_Me) : Prop :=
  (∃ m', (∀ Φ, Φ none m' → C m Φ) ∧ Inv B' m' ∧ FrC m m' ∧ Kw m m' ∧ ∀ M, Rel m M → ∀ Ψ : Int32 → it_Me → Prop, (∀ M', FrM M M' → Rel m' M' → Ψ (-1) M') → w_314 kc M Ψ) ∨
  ∃ i m', i < cnt m ∧ m' (14 + 5 * i) 9 = 1 ∧ (∀ Φ, Φ (some (14 + 5 * i)) m' → C m Φ) ∧ Inv B' m' ∧ FrC m m' ∧ Kw m m' ∧ ∀ M, Rel m M → ∀ Ψ : Int32 → it_Me → Prop, (∀ M', FrM M M' → Rel m' (psM M' i) → Ψ (nI i) M') → w_314 kc M Ψ
theorem r_314 {kc : it_Kc} {B : Nat} {m M : it_Me} (hI : Inv B m) (hM : Rel m M) {Φ : Int32 → it_Me → Prop} (h : w_314_34 kc Φ (nI (crC m (cnt m))) M) : w_314 kc M Φ :=
  ⟨cnt m + 1, r_314n hI hM (K := fun v1 m => w_314_34 kc Φ v1 m) h (cnt m) 0 (by omega)⟩
theorem r_314z {kc : it_Kc} {B : Nat} {m M : it_Me} (hI : Inv B m) (hM : Rel m M) (hn : ∀ i, i < cnt m → ¬ cr m i) {Φ : Int32 → it_Me → Prop} (h : Φ (-1) M) : w_314 kc M Φ := by
  refine r_314 hI hM ?_
  rw [(crC_0 m (cnt m)).2 hn]
  unfold w_314_34
  exact ⟨fun _ => h, fun q => absurd rfl q⟩
theorem crC_s {B : Nat} {m : it_Me} (hI : Inv B m) {i : Nat} (hi : i < cnt m) (hc : cr m i) : ¬ nI (crC m (cnt m)) = 0 := fun q => by
  have h8 := cnt_le hI
  have := crC_le m (cnt m)
  rw [show (0 : Int32) = nI 0 from rfl, nEq (by omega) (by omega)] at q
  exact (crC_0 m (cnt m)).1 q i hi hc
/-- the k-th place after u, in a ring of n -/
def rix (n u k : Nat) : Nat := if n ≤ u + k then u + k - n else u + k
theorem rix_lt {n u k : Nat} (hu : u ≤ n) (hk : k < n) : rix n u k < n := by unfold rix; split <;> omega
theorem rem_t : ∀ a, a < 9 → ∀ c, c < 9 → ¬ c = 0 → it_rem (nI a) (nI c) = nI (a % c) := by decide +kernel
theorem rix_s {n u k : Nat} (hn : n ≤ 8) (hu : u ≤ n) (hk : k + 1 < n) : it_rem (nI (rix n u k) + 1) (nI n) = nI (rix n u (k + 1)) := by
  have := rix_lt hu (show k < n by omega)
  rw [nI_s1, rem_t _ (by omega) _ (by omega) (by omega)]
  congr 1
  unfold rix at this ⊢
  by_cases a : n ≤ u + k
  · rw [if_pos a] at this ⊢
    rw [if_pos (by omega), Nat.mod_eq_of_lt (by omega)]
    omega
  · rw [if_neg a] at this ⊢
    by_cases b : n ≤ u + (k + 1)
    · rw [if_pos b, show u + k + 1 = n by omega, Nat.mod_self]
      omega
    · rw [if_neg b, Nat.mod_eq_of_lt (by omega)]
      omega
theorem tnU {B : Nat} {m : it_Me} (hI : Inv B m) (ho : m 0 10 = 1) : ∃ u, u ≤ cnt m ∧ (m 54 4).toInt = (u : Int) - 1 ∧ ∀ k, k < 16 → m 54 4 + nI (k + 1) = nI (u + k) := by
  have h8 := cnt_le hI
  have h := hI.tn ho
  have e : ((cnt m : Nat) : Int) = (m 9 7).toInt := by have := hI.cn; unfold cnt; rw [clampI]; omega
  refine ⟨((m 54 4).toInt + 1).toNat, by omega, by omega, fun k hk => Int32.toInt_inj.mp ?_⟩
  rw [add_I (by rw [nI_toInt (by omega)]; omega) (by rw [nI_toInt (by omega)]; omega), nI_toInt (by omega), nI_toInt (by omega)]
  omega
theorem c_149l {kc : it_Kc} {B : Nat} {m : it_Me} (hI : Inv B m) {u : Nat} (hu : u ≤ cnt m) (eu : ∀ k, k < 16 → m 54 4 + nI (k + 1) = nI (u + k)) {Φ : Option Nat → it_Me → Prop} {K1 : Nat → it_Me → Prop} {K2 : it_Me → Prop} {k0 : Nat} (hk0 : k0 ≤ cnt m) (hno : ∀ j, j < k0 → ¬ cr m (rix (cnt m) u j))
  (h : if k0 < cnt m then cr m (rix (cnt m) u k0) ∧ K1 (14 + 5 * rix (cnt m) u k0) m else K2 m) : ∀ d k, k + d = k0 → w_149_48 kc Φ K1 K2 (d + 1) (nI (k + 1)) m := by
  have h8 := cnt_le hI
  have st : ∀ k, k < cnt m → ∀ {n : Nat} {v : Int32}, v = nI (k + 1) → (cr m (rix (cnt m) u k) → K1 (14 + 5 * rix (cnt m) u k) m) → (¬ cr m (rix (cnt m) u k) → w_149_48 kc Φ K1 K2 n (nI (k + 1 + 1)) m) → w_149_48 kc Φ K1 K2 (n + 1) v m := fun k hk n v ev h1 h2 => by
    have hr := rix_lt hu hk
    have tail : w_149_97 kc Φ (w_149_48 kc Φ K1 K2 n) K1 K2 (nI (k + 1)) (nI (rix (cnt m) u k)) m := by
      unfold w_149_97
      rw [cI (by omega)]
      refine ⟨vI (by omega), c_130 ?_⟩
      by_cases c : cr m (rix (cnt m) u k)
      · rw [bI_t c]; exact ⟨fun q => absurd q (by decide), fun _ => h1 c⟩
      · rw [bI_f c, nI_s1]; exact ⟨fun _ => h2 c, fun q => absurd rfl q⟩
    subst ev
    unfold w_149_48
    rw [eu k (by omega), cntI hI]
    refine ⟨fun q => absurd ((nLt (by omega) (by omega)).1 q) (by omega), fun _ => ⟨fun q => ?_, fun q => ?_⟩⟩
    · have q' := (nLe (by omega) (by omega)).1 q
      rw [nSub q']
      unfold rix at tail
      rw [if_pos q'] at tail
      exact tail
    · have q' : ¬ cnt m ≤ u + k := fun y => q ((nLe (by omega) (by omega)).2 y)
      unfold rix at tail
      rw [if_neg q'] at tail
      exact tail
  intro d
  induction d with
  | zero =>
    intro k hk
    have e : k = k0 := by omega
    subst e
    by_cases q : k < cnt m
    · rw [if_pos q] at h
      exact st k q rfl (fun _ => h.2) (fun y => absurd h.1 y)
    · rw [if_neg q] at h
      unfold w_149_48
      rw [cntI hI]
      exact ⟨fun _ => h, fun y => absurd ((nLt (by omega) (by omega)).2 (by omega)) y⟩
  | succ d ih =>
    intro k hk
    exact st k (by omega) rfl (fun y => absurd y (hno k (by omega))) (fun _ => ih (k + 1) (by omega))
theorem r_314l {kc : it_Kc} {B : Nat} {m M : it_Me} (hI : Inv B m) (hM : Rel m M) {u : Nat} (hu : u ≤ cnt m) {Φ : Int32 → it_Me → Prop} {K : Int32 → it_Me → Prop} {k0 : Nat} (hk0 : k0 < cnt m) (hno : ∀ j, j < k0 → ¬ cr m (rix (cnt m) u j)) (hc : cr m (rix (cnt m) u k0)) (h : K (nI (rix (cnt m) u k0)) M) : ∀ d k, k + d = k0 → w_314_101 kc Φ K (d + 1) (nI (rix (cnt m) u k)) M := by
  have h8 := cnt_le hI
  intro d
  induction d with
  | zero =>
    intro k hk
    have e : k = k0 := by omega
    subst e
    have hr := rix_lt hu hk0
    unfold w_314_101
    refine r_312 hM (by omega) hr ?_
    rw [bI_t hc]
    exact ⟨fun q => absurd q (by decide), fun _ => h⟩
  | succ d ih =>
    intro k hk
    have hr := rix_lt hu (show k < cnt m by omega)
    unfold w_314_101
    refine r_312 hM (by omega) hr ?_
    rw [bI_f (hno k (by omega)), hM.count, cntI hI, rix_s h8 hu (by omega)]
    exact ⟨fun _ => ⟨fun q => absurd ((nEq (by omega) (by omega)).1 (show nI (cnt m) = nI 0 from q)) (by omega), ih (k + 1) (by omega)⟩, fun q => absurd rfl q⟩
