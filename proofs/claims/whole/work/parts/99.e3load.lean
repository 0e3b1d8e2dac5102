/-! The class loads: one load. -/
def LpC (F : Nat → Int32) (m : it_Me) (i : Nat) (p : Nat × Nat × Nat) : Prop := (m (14 + 5 * i) 5 = nI p.2.1 ∧ m (14 + 5 * i) 6 = nI p.2.2 ∧ m (14 + 5 * i) 7 = nI p.2.1 + ((rmF F p.1 + 3) &&& (-4)) ∧ m (14 + 5 * i) 8 = nI p.2.1 + nI p.2.2 - 64 ∧ m (14 + 5 * i) 3 = (nI p.1 + Hh F (p.1 + 2) + gE F (uE F p.1)) &&& (-2)) ∧ (m (14 + 5 * i) 4 = 1 ∧ m (14 + 5 * i) 9 = 1 ∧ m (14 + 5 * i) 10 = 0 ∧ m (14 + 5 * i) 11 = 0 ∧ m (14 + 5 * i) 12 = 0 ∧ m (14 + 5 * i) 14 = 0) ∧ (m (14 + 5 * i + 1) 1 = nI p.1 ∧ m (14 + 5 * i + 1) 2 = Hh F (p.1 + 2) ∧ m (14 + 5 * i + 1) 3 = Gf F (p.1 + 4) ∧ hdF F p.1 (m (14 + 5 * i + 1))) ∧ (∀ r, r < 32 → m (14 + 5 * i + 2) r = rgv (nI p.2.1 + ((rmF F p.1 + 3) &&& (-4))) (nI p.1 + Hh F (p.1 + 2)) (nI p.2.1) (nI p.2.2) r) ∧ ∀ d, d < 9 → m (14 + 5 * i + 4) d = 0
def f4C (m : it_Me) (c S b : Nat) : it_Me := it_sv (it_sv (it_sv (it_sv m (14 + 5 * c) 5 (nI S)) (14 + 5 * c) 6 (nI b)) (14 + 5 * c) 10 0) (14 + 5 * c) 12 0
def nwC (m : it_Me) (c S b : Nat) : it_Me := it_sv (stC (f4C m c S b) c) 9 7 (nI (c + 1))
theorem nw {B : Nat} {F : Nat → Int32} {s : Int32} {m : it_Me} {c A S b : Nat} (hI : Inv B m) (hc : cnt m = c) (h8 : c < 8) (ho : m 0 10 = 1) (hs : s0 m) (hF : FlC F m) (hz : ∀ w, 16384 ≤ w → w < 32768 → m 2 w = 0) (hA : 65536 ≤ A ∧ A % 4 = 0) (fr : frP F A) (cd : cand F s A) (hb : b = bkS (rmF F A)) (hS : 131072 ≤ S ∧ S + b ≤ 196608 ∧ S % b = 0) (h1 : m (14 + 5 * c + 1) 1 = nI A) (h2 : m (14 + 5 * c + 1) 2 = Hh F (A + 2)) (h3 : m (14 + 5 * c + 1) 3 = Gf F (A + 4)) (hd : hdF F A (m (14 + 5 * c + 1))) (hlow : ∀ i, i < c → (m (14 + 5 * i) 5).toInt + (m (14 + 5 * i) 6).toInt ≤ (S : Int)) : Inv B (nwC m c S b) ∧ cnt (nwC m c S b) = c + 1 ∧ LpC F (nwC m c S b) c (A, S, b) ∧ nwC m c S b 2 = m 2 ∧ (∀ k, k ≠ 9 → (k < 14 + 5 * c ∨ 14 + 5 * c + 5 ≤ k) → nwC m c S b k = m k) ∧ (∀ j, j ≠ 7 → nwC m c S b 9 j = m 9 j) ∧ ∀ j, j = 15 ∨ j = 16 → nwC m c S b (14 + 5 * c) j = m (14 + 5 * c) j := by
  have bm := bkS_m (rmF F A)
  rw [← hb] at bm
  have b5 := bk5 bm
  have ff : ∀ k, k ≠ 14 + 5 * c → f4C m c S b k = m k := fun k hk => by unfold f4C; rw [sv_cell _ _ _ _ hk, sv_cell _ _ _ _ hk, sv_cell _ _ _ _ hk, sv_cell _ _ _ _ hk]
  have g5 : f4C m c S b (14 + 5 * c) 5 = nI S := by unfold f4C; simp (disch := omega) only [sv_n2, sv_same]
  have g6 : f4C m c S b (14 + 5 * c) 6 = nI b := by unfold f4C; simp (disch := omega) only [sv_n2, sv_same]
  have g10 : f4C m c S b (14 + 5 * c) 10 = 0 := by unfold f4C; simp (disch := omega) only [sv_n2, sv_same]
  have g12 : f4C m c S b (14 + 5 * c) 12 = 0 := by unfold f4C; simp (disch := omega) only [sv_n2, sv_same]
  have g0 : f4C m c S b (14 + 5 * c) 0 = m (14 + 5 * c) 0 := by unfold f4C; simp (disch := omega) only [sv_n2]
  have k1 : f4C m c S b (14 + 5 * c + 1) = m (14 + 5 * c + 1) := ff _ (by omega)
  have k2 : f4C m c S b 2 = m 2 := ff _ (by omega)
  have P0 : PI0 (f4C m c S b) c := PI0_new (hF.cg k2) hA fr cd hb hS g5 g6 g10 (by rw [k1]; exact h1) (by rw [k1]; exact h2) (by rw [k1]; exact h3) (by rw [k1]; exact hd) (by rw [k2]; exact hz)
  have P1 := st_PI P0
  have s2 : stC (f4C m c S b) c 2 = m 2 := by
    funext w
    rw [st_2, k2, g5, g6]
    split
    · rename_i q
      have iS : InM (nI S) := ⟨by rw [nI_toInt (by omega)]; omega, by rw [nI_toInt (by omega)]; omega⟩
      have wS := wi_eq iS
      rw [nI_toInt (by omega)] at wS
      have e64 : nI b - 64 = nI (b - 64) := nSub (C := 64) (by omega)
      rw [e64, nI_toInt (by omega)] at q
      exact (hz w (by omega) (by omega)).symm
    · rfl
  have sc : ∀ k, (k < 14 + 5 * c ∨ 14 + 5 * c + 5 ≤ k) → stC (f4C m c S b) c k = m k := fun k hk => by
    by_cases e : k = 2
    · rw [e]; exact s2
    · rw [st_c _ _ (by omega)]; exact ff k (by omega)
  have I1 : Inv B (stC (f4C m c S b) c) := hI.hi (by omega) (fun k _ hk => sc k (by omega)) (by rw [hc, st_P _ _ (by omega)]; exact g0)
  have c1 : cnt (stC (f4C m c S b) c) = c := by rw [cnt_cg (by rw [sc 9 (by omega)]), hc]
  have key := Inv.one I1 (by omega) (by rw [sc 0 (by omega)]; exact ho) (by unfold s0; rw [sc 54 (by omega), sc 55 (by omega), sc 56 (by omega), sc 57 (by omega)]; exact hs) (by rw [c1]; exact P1) (by rw [c1]; exact st_G _ _ (by omega)) (fun i hi => by
    rw [c1] at hi ⊢
    rw [sc (14 + 5 * i) (by omega), st_P _ _ (by omega), g5, nI_toInt (by omega)]
    exact hlow i hi)
  rw [c1] at key
  have up : ∀ k, k ≠ 9 → nwC m c S b k = stC (f4C m c S b) c k := fun k hk => by unfold nwC; rw [sv_cell _ _ _ _ hk]
  have bk : brkOf (f4C m c S b) c = nI S + ((rmF F A + 3) &&& (-4)) := by
    unfold brkOf
    rw [g5, k1, show m (14 + 5 * c + 1) 5 = rmF F A from hd.1.2.1]
  refine ⟨key.1, key.2, ?_, by rw [up 2 (by omega)]; exact s2, fun k h9 hk => by rw [up k h9]; exact sc k hk, fun j hj => by unfold nwC; rw [sv_n2 _ _ _ _ hj, sc 9 (by omega)], fun j hj => by
    rw [up _ (by omega), st_P _ _ (by omega)]
    unfold f4C
    rw [sv_n2 _ _ _ _ (by omega), sv_n2 _ _ _ _ (by omega), sv_n2 _ _ _ _ (by omega), sv_n2 _ _ _ _ (by omega)]⟩
  unfold LpC
  rw [up _ (by omega), up _ (by omega), up _ (by omega), up _ (by omega)]
  refine ⟨⟨?_, ?_, ?_, ?_, ?_⟩, ⟨st_P4 _ _, st_P9 _ _, ?_, st_P11 _ _, ?_, st_P14 _ _⟩, ?_, fun r hr => ?_, fun d hd' => st_G _ _ hd'⟩
  · rw [st_P _ _ (by omega)]; exact g5
  · rw [st_P _ _ (by omega)]; exact g6
  · rw [st_P7]; exact bk
  · rw [st_P8]; unfold ctl; rw [g5, g6]
  · rw [st_P3]
    unfold pcOf
    rw [k1, h1, h2, show m (14 + 5 * c + 1) 4 = gE F (uE F A) from hd.1.1]
  · rw [st_P _ _ (by omega)]; exact g10
  · rw [st_P _ _ (by omega)]; exact g12
  · rw [st_c _ _ (by omega), k1]
    exact ⟨h1, h2, h3, hd⟩
  · rw [st_R _ _ hr, bk, k1, h1, h2, g5, g6]
