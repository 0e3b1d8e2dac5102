/-! The class loads: a new process. -/
theorem PI0_new {F : Nat → Int32} {s : Int32} {m : it_Me} {c A S b : Nat} (hF : FlC F m) (hA : 65536 ≤ A ∧ A % 4 = 0) (fr : frP F A) (cd : cand F s A) (hb : b = bkS (rmF F A)) (hS : 131072 ≤ S ∧ S + b ≤ 196608 ∧ S % b = 0) (e5 : m (14 + 5 * c) 5 = nI S) (e6 : m (14 + 5 * c) 6 = nI b) (e10 : m (14 + 5 * c) 10 = 0) (h1 : m (14 + 5 * c + 1) 1 = nI A) (h2 : m (14 + 5 * c + 1) 2 = Hh F (A + 2)) (h3 : m (14 + 5 * c + 1) 3 = Gf F (A + 4)) (hd : hdF F A (m (14 + 5 * c + 1))) (hz : ∀ w, 16384 ≤ w → w < 32768 → m 2 w = 0) : PI0 m c := by
  obtain ⟨f1, f2, f3, f4, f5, f6, f7, f8⟩ := frF fr hA.1
  have rb := ram_b cd
  have bm := bkS_m (rmF F A)
  have bl := bkS_le (r := rmF F A) (by omega)
  rw [← hb] at bm bl
  have b5 := bk5 bm
  have tS : (nI S).toInt = S := nI_toInt (by omega)
  have tb : (nI b).toInt = b := nI_toInt (by omega)
  have tA : (nI A).toInt = A := nI_toInt (by omega)
  have th : (nI (hsz F A)).toInt = hsz F A := nI_toInt (by omega)
  have tt : (nI (tsz F A)).toInt = tsz F A := nI_toInt (by omega)
  obtain ⟨i8, i9, i10, i12, i13⟩ := sE_in F hA.2
  obtain ⟨eq1, eq2, eq3⟩ := hd.2
  have e10' := eq1 10 (by omega)
  have e12' := eq1 12 (by omega)
  have e13' := eq1 13 (by omega)
  refine ⟨?_, ?_, ?_, ?_, ?_, ?_, ?_, ?_, ?_⟩
  · show 131072 ≤ (m (14 + 5 * c) 5).toInt ∧ (m (14 + 5 * c) 5).toInt + (m (14 + 5 * c) 6).toInt ≤ 196608 ∧ (m (14 + 5 * c) 6).toInt ∈ ([1024, 2048, 4096, 8192, 16384] : List Int) ∧ (m (14 + 5 * c) 5).toInt % (m (14 + 5 * c) 6).toInt = 0
    rw [e5, e6, tS, tb]
    refine ⟨by omega, by omega, ?_, by have := hS.2.2; rw [← Int.natCast_emod, this]; rfl⟩
    rcases b5 with e | e | e | e | e <;> rw [e] <;> simp
  · show 65536 ≤ (m (14 + 5 * c + 1) 1).toInt ∧ (m (14 + 5 * c + 1) 1).toInt % 4 = 0 ∧ (m (14 + 5 * c + 1) 3).toInt % 4 = 0 ∧ 16 ≤ (m (14 + 5 * c + 1) 2).toInt ∧ (m (14 + 5 * c + 1) 2).toInt ≤ 512 ∧ (m (14 + 5 * c + 1) 2).toInt % 4 = 0 ∧ (m (14 + 5 * c + 1) 2).toInt ≤ (m (14 + 5 * c + 1) 3).toInt ∧ (m (14 + 5 * c + 1) 1).toInt + (m (14 + 5 * c + 1) 3).toInt ≤ 126976
    rw [h1, h2, h3, f1, f2, tA, th, tt]
    omega
  · show m (14 + 5 * c + 1) 2 = gh m (m (14 + 5 * c + 1) 1 + 2)
    rw [h1, h2, n_2, gh_in (inF (by omega)), wiF (by omega), hF _ (by omega), bjF (by omega)]
    rfl
  · show 0 ≤ (m (14 + 5 * c + 1) 5).toInt ∧ (m (14 + 5 * c + 1) 5).toInt + 512 ≤ (m (14 + 5 * c) 6).toInt
    have : m (14 + 5 * c + 1) 5 = rmF F A := hd.1.2.1
    rw [this, e6, tb]
    omega
  · exact Or.inl e10
  · show m (14 + 5 * c + 1) 10 = 0 ∨ (m (14 + 5 * c + 1) 1).toInt ≤ (m (14 + 5 * c + 1) 10).toInt ∧ 1 ≤ (m (14 + 5 * c + 1) 11).toInt ∧ (m (14 + 5 * c + 1) 11).toInt ≤ 16 ∧ (m (14 + 5 * c + 1) 10).toInt + (m (14 + 5 * c + 1) 11).toInt ≤ 126976
    rcases i10 with z | ⟨X, L, x1, x2, x3, x4, x5, x6⟩
    · left; rw [← e10']; exact z
    · right
      have n0 : sE F A 10 ≠ 0 := fun y => by rw [x1] at y; exact absurd ((nEq (b := 0) (by omega) (by omega)).1 y) (by omega)
      rw [← e10', ← eq2 n0, x1, x2, h1, tA, nI_toInt (by omega), nI_toInt (by omega)]
      omega
  · show m (14 + 5 * c + 1) 12 = 0 ∨ 65536 ≤ (m (14 + 5 * c + 1) 12).toInt ∧ (m (14 + 5 * c + 1) 12).toInt % 4 = 0 ∧ (m (14 + 5 * c + 1) 12).toInt + 4 ≤ 126976
    rcases i12 with z | ⟨X, x1, x2, x3, x4⟩
    · left; rw [← e12']; exact z
    · right
      rw [← e12', x1, nI_toInt (by omega)]
      omega
  · show m (14 + 5 * c + 1) 13 = 0 ∨ 65536 ≤ (m (14 + 5 * c + 1) 13).toInt ∧ (m (14 + 5 * c + 1) 13).toInt % 4 = 0 ∧ 8 ≤ (m (14 + 5 * c + 1) 14).toInt ∧ (m (14 + 5 * c + 1) 14).toInt ≤ 64 ∧ (m (14 + 5 * c + 1) 14).toInt % 8 = 0 ∧ (m (14 + 5 * c + 1) 13).toInt + (m (14 + 5 * c + 1) 14).toInt ≤ 126976
    rcases i13 with z | ⟨X, L, x1, x2, x3, x4, x5, x6, x7, x8⟩
    · left; rw [← e13']; exact z
    · right
      have n0 : sE F A 13 ≠ 0 := fun y => by rw [x1] at y; exact absurd ((nEq (b := 0) (by omega) (by omega)).1 y) (by omega)
      rw [← e13', ← eq3 n0, x1, x2, nI_toInt (by omega), nI_toInt (by omega)]
      omega
  · show ∀ k, k < 5 → gw m (ctl m c + nI (44 + 4 * k)) = 0
    intro k hk
    have ct : ctl m c = nI (S + b - 64) := by
      unfold ctl
      rw [e5, e6, show nI S + nI b = nI (S + b) from nI_add _ _]
      exact nSub (C := 64) (by omega)
    rw [ct, show nI (S + b - 64) + nI (44 + 4 * k) = nI (S + b - 64 + (44 + 4 * k)) from nI_add _ _]
    have tx : (nI (S + b - 64 + (44 + 4 * k))).toInt = ((S + b - 64 + (44 + 4 * k) : Nat) : Int) := nI_toInt (by omega)
    have hin : InM (nI (S + b - 64 + (44 + 4 * k))) := ⟨by omega, by omega⟩
    have w := wi_eq hin
    rw [gw_in hin]
    exact hz _ (by omega) (by omega)
