/-! The levels are forgotten; a tick in lockstep. -/
/-- the first n are forgotten -/
def fgC (m : it_Me) (n : Nat) : it_Me := fun k j => if k = 54 ∧ j = 4 then -1 else if k = 54 ∧ j = 5 then 0 else if k = 54 ∧ j = 9 then 7 else if (k = 55 ∨ k = 56) ∧ j < n then 0 else if k = 57 ∧ j < n then nI j else m k j
def fgM (M : it_Me) (n : Nat) : it_Me := fun k j => if (k = 106 ∨ k = 107) ∧ j < n then 0 else if k = 108 ∧ j < n then nI j else M k j
theorem fgC_0 (m : it_Me) : it_sv (it_sv (it_sv m 54 4 (-1)) 54 5 0) 54 9 7 = fgC m 0 := by
  funext k j
  unfold fgC
  simp only [sv_rd, Nat.not_lt_zero, and_false, if_false]
  by_cases a : k = 54 ∧ j = 4
  · rw [if_neg (by omega), if_neg (by omega), if_pos a, if_pos a]
  · rw [if_neg a, if_neg a]
    by_cases b : k = 54 ∧ j = 5
    · rw [if_neg (by omega), if_pos b, if_pos b]
    · rw [if_neg b, if_neg b]
theorem fgC_s (m : it_Me) (n : Nat) : it_sv (it_sv (it_sv (fgC m n) 55 n 0) 56 n 0) 57 n (nI n) = fgC m (n + 1) := by
  funext k j
  simp only [sv_rd]
  unfold fgC
  by_cases h7 : k = 57 ∧ j = n
  · rw [if_pos h7, if_neg (by omega), if_neg (by omega), if_neg (by omega), if_neg (by omega), if_pos (by omega), h7.2]
  · rw [if_neg h7]
    by_cases h6 : k = 56 ∧ j = n
    · rw [if_pos h6, if_neg (by omega), if_neg (by omega), if_neg (by omega), if_pos (by omega)]
    · rw [if_neg h6]
      by_cases h5 : k = 55 ∧ j = n
      · rw [if_pos h5, if_neg (by omega), if_neg (by omega), if_neg (by omega), if_pos (by omega)]
      · rw [if_neg h5]
        by_cases a : k = 54 ∧ j = 4
        · rw [if_pos a, if_pos a]
        rw [if_neg a, if_neg a]
        by_cases b : k = 54 ∧ j = 5
        · rw [if_pos b, if_pos b]
        rw [if_neg b, if_neg b]
        by_cases c : k = 54 ∧ j = 9
        · rw [if_pos c, if_pos c]
        rw [if_neg c, if_neg c]
        by_cases d : (k = 55 ∨ k = 56) ∧ j < n
        · rw [if_pos d, if_pos (by omega)]
        rw [if_neg d, if_neg (show ¬ ((k = 55 ∨ k = 56) ∧ j < n + 1) by omega)]
        by_cases e : k = 57 ∧ j < n
        · rw [if_pos e, if_pos (by omega)]
        rw [if_neg e, if_neg (show ¬ (k = 57 ∧ j < n + 1) by omega)]
theorem fgM_0 (M : it_Me) : M = fgM M 0 := by
  funext k j
  unfold fgM
  rw [if_neg (by omega), if_neg (by omega)]
theorem fgM_s (M : it_Me) (n : Nat) : it_sv (it_sv (it_sv (fgM M n) 106 n 0) 107 n 0) 108 n (nI n) = fgM M (n + 1) := by
  funext k j
  simp only [sv_rd]
  unfold fgM
  by_cases h7 : k = 108 ∧ j = n
  · rw [if_pos h7, if_neg (by omega), if_pos (by omega), h7.2]
  · rw [if_neg h7]
    by_cases h6 : k = 107 ∧ j = n
    · rw [if_pos h6, if_pos (by omega)]
    · rw [if_neg h6]
      by_cases h5 : k = 106 ∧ j = n
      · rw [if_pos h5, if_pos (by omega)]
      · rw [if_neg h5]
        by_cases d : (k = 106 ∨ k = 107) ∧ j < n
        · rw [if_pos d, if_pos (by omega)]
        rw [if_neg d, if_neg (show ¬ ((k = 106 ∨ k = 107) ∧ j < n + 1) by omega)]
        by_cases e : k = 108 ∧ j < n
        · rw [if_pos e, if_pos (by omega)]
        rw [if_neg e, if_neg (show ¬ (k = 108 ∧ j < n + 1) by omega)]
theorem c_147 {kc : it_Kc} {m : it_Me} {Φ : it_Me → Prop} (h : Φ (fgC m 8)) : w_147 kc m Φ := by
  have lp : ∀ d n, n + d = 8 → w_147_18 kc Φ (fun m => w_147_51 kc Φ m) (d + 1) (nI n) (fgC m n) := by
    intro d
    induction d with
    | zero =>
      intro n hn
      have : n = 8 := by omega
      subst this
      unfold w_147_18
      exact ⟨fun _ => h, fun y => absurd (by decide) y⟩
    | succ d ih =>
      intro n hn
      unfold w_147_18
      rw [cI (by omega), fgC_s, nI_s1]
      exact ⟨fun y => absurd ((nLe (a := 8) (by omega) (by omega)).1 y) (by omega), fun _ => ⟨vI (by omega), vI (by omega), vI (by omega), ih (n + 1) (by omega)⟩⟩
  unfold w_147
  rw [fgC_0]
  exact ⟨9, lp 8 0 rfl⟩
theorem fgM_f (M : it_Me) (n : Nat) {k : Nat} (h : k ≠ 106 ∧ k ≠ 107 ∧ k ≠ 108) : fgM M n k = M k := by
  funext j
  unfold fgM
  rw [if_neg (by omega), if_neg (by omega)]
theorem r_316f {kc : it_Kc} {B : Nat} {m M : it_Me} (hI : Inv B m) (hc : M 66 34 = m 9 7) {Φ : it_Me → Prop} {K : it_Me → Prop} (h : K (fgM M (cnt m))) : ∃ e, w_316_44 kc Φ K e 0 M := by
  have h8 := cnt_le hI
  have lp : ∀ d n, n + d = cnt m → w_316_44 kc Φ K (d + 1) (nI n) (fgM M n) := by
    intro d
    induction d with
    | zero =>
      intro n hn
      have : n = cnt m := by omega
      subst this
      unfold w_316_44
      rw [fgM_f _ _ (by omega), hc, cntI hI]
      exact ⟨fun _ => h, fun y => absurd ((nLe (by omega) (by omega)).2 (by omega)) y⟩
    | succ d ih =>
      intro n hn
      unfold w_316_44
      rw [fgM_f _ _ (by omega), hc, cntI hI, cI (by omega), fgM_s, nI_s1]
      exact ⟨fun y => absurd ((nLe (by omega) (by omega)).1 y) (by omega), fun _ => ⟨vI (by omega), vI (by omega), vI (by omega), ih (n + 1) (by omega)⟩⟩
  have := lp (cnt m) 0 (by omega)
  rw [← fgM_0] at this
  exact ⟨_, this⟩
theorem mix_S {M S : it_Me} (h : ∀ k j, ¬ (k = 106 ∨ k = 107 ∨ k = 108 ∨ (k = 66 ∧ j = 70)) → S k j = M k j) : mix M S = S := by
  funext k j
  unfold mix
  by_cases q : k = 106 ∨ k = 107 ∨ k = 108 ∨ (k = 66 ∧ j = 70)
  · rw [if_pos q]
  · rw [if_neg q, h k j q]
theorem fg_f (m : it_Me) (n : Nat) {k : Nat} (h : k ≠ 54 ∧ k ≠ 55 ∧ k ≠ 56 ∧ k ≠ 57) : fgC m n k = m k := by
  funext j
  unfold fgC
  rw [if_neg (by omega), if_neg (by omega), if_neg (by omega), if_neg (by omega), if_neg (by omega)]
theorem fg_54 (m : it_Me) (n : Nat) {j : Nat} (h : j ≠ 4 ∧ j ≠ 5 ∧ j ≠ 9) : fgC m n 54 j = m 54 j := by
  unfold fgC
  rw [if_neg (by omega), if_neg (by omega), if_neg (by omega), if_neg (by omega), if_neg (by omega)]
theorem fg_v (m : it_Me) {n j : Nat} (h : j < n) : fgC m n 55 j = 0 ∧ fgC m n 56 j = 0 ∧ fgC m n 57 j = nI j := by
  unfold fgC
  refine ⟨?_, ?_, ?_⟩
  · rw [if_neg (by omega), if_neg (by omega), if_neg (by omega), if_pos (by omega)]
  · rw [if_neg (by omega), if_neg (by omega), if_neg (by omega), if_pos (by omega)]
  · rw [if_neg (by omega), if_neg (by omega), if_neg (by omega), if_neg (by omega), if_pos (by omega)]
theorem fg_4 (m : it_Me) (n : Nat) : fgC m n 54 4 = -1 ∧ fgC m n 54 9 = 7 := ⟨rfl, rfl⟩
theorem fg_I {B : Nat} {m : it_Me} (hI : Inv B m) (h2 : m 54 2 = 2) : Inv B (fgC m 8) := by
  have h8 := cnt_le hI
  refine hI.sch (Nat.le_refl B) (fun k hk => fg_f _ _ hk) (fg_54 _ _ (by omega)) (fg_54 _ _ (by omega)) (fun _ => ?_) (fun _ q => absurd h2 q) (fun _ _ i hi => ?_) (fun _ _ => ?_)
  · rw [(fg_4 m 8).1]
    have := hI.cn
    show (-1 : Int) ≤ -1 ∧ (-1 : Int) < _
    omega
  · rw [(fg_v m (show i < 8 by omega)).1, (fg_v m (show i < 8 by omega)).2.1]
    show (0 : Int) ≤ 0 ∧ (0 : Int) ≤ 2 ∧ (0 : Int) ≤ 0 ∧ (0 : Int) ≤ B
    omega
  · rw [(fg_4 m 8).2]
    refine ⟨by decide, by show (7 : Int) ≤ _; omega, fun i hi => ?_, fun i j hi hj e => ?_⟩
    · rw [(fg_v m (show i < 8 by omega)).2.2, nI_toInt (by omega)]
      show _ ∧ _ ≤ (7 : Int)
      omega
    · rw [(fg_v m (show i < 8 by omega)).2.2, (fg_v m (show j < 8 by omega)).2.2] at e
      exact (nEq (by omega) (by omega)).1 e
theorem fg_R {m M S : it_Me} (h : Rel m M) (h8 : cnt m ≤ 8) (h2 : m 54 2 = 2) (hs : S 66 70 = -1) (hS : ∀ i, i < cnt m → S 106 i = 0 ∧ S 107 i = 0 ∧ S 108 i = nI i) : Rel (fgC m 8) (mix M S) := by
  have s : ∀ k j, (k = 106 ∨ k = 107 ∨ k = 108 ∨ (k = 66 ∧ j = 70)) → mix M S k j = S k j := fun k j q => by unfold mix; rw [if_pos q]
  refine h.sch h8 (fun k hk => fg_f _ _ hk) (fg_54 _ _ (by omega)) (fg_54 _ _ (by omega)) (fun k hk => by funext j; exact mix_n _ _ _ (by omega)) (fun j h70 _ => mix_66 _ _ h70) (by rw [s _ _ (by omega), hs]; exact (fg_4 m 8).1.symm) (fun _ q => absurd q (by rw [h2]; decide)) (fun _ _ i hi => ?_) (fun _ _ => ⟨fun i j hi hj => ?_, fun i hi => ?_⟩)
  · have a := hS i hi
    have b := fg_v m (show i < 8 by omega)
    rw [s _ _ (by omega), s _ _ (by omega), a.1, a.2.1, b.1, b.2.1]
    exact ⟨rfl, rfl⟩
  · rw [s _ _ (by omega), s _ _ (by omega), (hS i hi).2.2, (hS j hj).2.2, (fg_v m (show i < 8 by omega)).2.2, (fg_v m (show j < 8 by omega)).2.2]
  · rw [s _ _ (by omega), (hS i hi).2.2, (fg_4 m 8).2]
    exact ⟨(nLe (a := 0) (by omega) (by omega)).2 (by omega), (nLe (b := 7) (by omega) (by omega)).2 (by omega)⟩
