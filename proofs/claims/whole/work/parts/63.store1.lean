/-! The store: words of the banks, records. -/
theorem n_4 (A : Nat) : nI A + 4 = nI (A + 4) := nI_add A 4
theorem n_8 (A : Nat) : nI A + 8 = nI (A + 8) := nI_add A 8
theorem n_12 (A : Nat) : nI A + 12 = nI (A + 12) := nI_add A 12
theorem n_16 (A : Nat) : nI A + 16 = nI (A + 16) := nI_add A 16
theorem n_2048 (A : Nat) : nI A + 2048 = nI (A + 2048) := nI_add A 2048
theorem nSub {A C : Nat} (h : C ≤ A) : nI A - nI C = nI (A - C) := by
  rw [show nI A = nI (A - C) + nI C by rw [nI_add]; congr 1; omega]
  exact Int32.add_sub_cancel _ _
theorem nS4 {A : Nat} (h : 4 ≤ A) : nI A - 4 = nI (A - 4) := nSub (C := 4) h
theorem nLe {a b : Nat} (ha : a < 2147483648) (hb : b < 2147483648) : nI a ≤ nI b ↔ a ≤ b := by
  rw [Int32.le_iff_toInt_le, nI_toInt (by omega), nI_toInt (by omega)]; omega
theorem nLt {a b : Nat} (ha : a < 2147483648) (hb : b < 2147483648) : nI a < nI b ↔ a < b := by
  rw [Int32.lt_iff_toInt_lt, nI_toInt (by omega), nI_toInt (by omega)]; omega
theorem nEq {a b : Nat} (ha : a < 2147483648) (hb : b < 2147483648) : nI a = nI b ↔ a = b := by
  rw [← Int32.toInt_inj, nI_toInt (by omega), nI_toInt (by omega)]; omega
theorem nM1 {a : Nat} (ha : a < 2147483648) : ¬ nI a = -1 := fun q => by
  have := nI_toInt (n := a) (by omega)
  rw [q] at this
  have e1 : (-1 : Int32).toInt = -1 := by decide
  omega
theorem Inv.sto {B : Nat} {m m' : it_Me} (hI : Inv B m) (hc : ∀ k, k ≠ 2 → m' k = m k) (hw : ∀ w, m' 2 w ≠ m 2 w → 15360 ≤ w ∧ w < 16384) : Inv B m' := by
  rcases hI.on with ho | ho
  · have h0 : m' 0 10 ≠ 1 := by rw [hc 0 (by omega), ho]; decide
    have hm := hc
    exact (Inv.upd (hI) (Nat.le_refl B) ([2]) (fun k hk => hc k (by simpa using hk)) (by first | (refine Or.inl (And.intro ?_ ?_) <;> first | (simp only [List.mem_cons, List.not_mem_nil, or_false, forall_eq_or_imp, forall_eq, false_implies, implies_true, and_true] <;> omega) | (repeat' (first | exact True.intro | rfl | refine And.intro ?_ ?_ | (rw [sv_ne _ _ _ _ (by omega)]) | (rw [up_cell _ _ _ (by omega)]) | (rw [fil_cell _ _ _ _ _ (by omega)]) | (rw [hM _ (by omega)]) | (rw [hm _ (by omega)])))) | (have t_ := Inv.tl (hI); exact Or.inr t_)) (by first | (refine Or.inl (And.intro ?_ ?_) <;> first | (simp only [List.mem_cons, List.not_mem_nil, or_false, forall_eq_or_imp, forall_eq, false_implies, implies_true, and_true] <;> omega) | (repeat' (first | exact True.intro | rfl | refine And.intro ?_ ?_ | (rw [sv_ne _ _ _ _ (by omega)]) | (rw [up_cell _ _ _ (by omega)]) | (rw [fil_cell _ _ _ _ _ (by omega)]) | (rw [hM _ (by omega)]) | (rw [hm _ (by omega)])))) | (have t_ := Inv.tp (hI); exact Or.inr t_)) (by first | (refine Or.inl (And.intro ?_ ?_) <;> first | (simp only [List.mem_cons, List.not_mem_nil, or_false, forall_eq_or_imp, forall_eq, false_implies, implies_true, and_true] <;> omega) | (repeat' (first | exact True.intro | rfl | refine And.intro ?_ ?_ | (rw [sv_ne _ _ _ _ (by omega)]) | (rw [up_cell _ _ _ (by omega)]) | (rw [fil_cell _ _ _ _ _ (by omega)]) | (rw [hM _ (by omega)]) | (rw [hm _ (by omega)])))) | (have t_ := Inv.on (hI); exact Or.inr t_)) (Or.inr (by
      intro _
      refine ⟨by rw [hc 9 (by omega)]; exact (hI.off ho).1, by rw [hc 4 (by omega)]; exact (hI.off ho).2.1, fun w h1 h2 => ?_⟩
      by_cases q : m' 2 w = m 2 w
      · rw [q]; exact (hI.off ho).2.2 w h1 h2
      · have := (hw w q).2
        omega)) (by first | (refine Or.inl (And.intro ?_ ?_) <;> first | (simp only [List.mem_cons, List.not_mem_nil, or_false, forall_eq_or_imp, forall_eq, false_implies, implies_true, and_true] <;> omega) | (repeat' (first | exact True.intro | rfl | refine And.intro ?_ ?_ | (rw [sv_ne _ _ _ _ (by omega)]) | (rw [up_cell _ _ _ (by omega)]) | (rw [fil_cell _ _ _ _ _ (by omega)]) | (rw [hM _ (by omega)]) | (rw [hm _ (by omega)])))) | (have t_ := Inv.cn (hI); exact Or.inr t_)) (by first | (refine Or.inl (And.intro ?_ ?_) <;> first | (simp only [List.mem_cons, List.not_mem_nil, or_false, forall_eq_or_imp, forall_eq, false_implies, implies_true, and_true] <;> omega) | (repeat' (first | exact True.intro | rfl | refine And.intro ?_ ?_ | (rw [sv_ne _ _ _ _ (by omega)]) | (rw [up_cell _ _ _ (by omega)]) | (rw [fil_cell _ _ _ _ _ (by omega)]) | (rw [hM _ (by omega)]) | (rw [hm _ (by omega)])))) | (have t_ := Inv.ev (hI); exact Or.inr t_)) (by first | (refine Or.inl (And.intro ?_ ?_) <;> first | (simp only [List.mem_cons, List.not_mem_nil, or_false, forall_eq_or_imp, forall_eq, false_implies, implies_true, and_true] <;> omega) | (repeat' (first | exact True.intro | rfl | refine And.intro ?_ ?_ | (rw [sv_ne _ _ _ _ (by omega)]) | (rw [up_cell _ _ _ (by omega)]) | (rw [fil_cell _ _ _ _ _ (by omega)]) | (rw [hM _ (by omega)]) | (rw [hm _ (by omega)])))) | (have t_ := Inv.out (hI); exact Or.inr t_)) (by first | (refine Or.inl (And.intro ?_ ?_) <;> first | (simp only [List.mem_cons, List.not_mem_nil, or_false, forall_eq_or_imp, forall_eq, false_implies, implies_true, and_true] <;> omega) | (repeat' (first | exact True.intro | rfl | refine And.intro ?_ ?_ | (rw [sv_ne _ _ _ _ (by omega)]) | (rw [up_cell _ _ _ (by omega)]) | (rw [fil_cell _ _ _ _ _ (by omega)]) | (rw [hM _ (by omega)]) | (rw [hm _ (by omega)])))) | (have t_ := Inv.num (hI); exact Or.inr t_)) (by first | (refine Or.inl (And.intro ?_ ?_) <;> first | (simp only [List.mem_cons, List.not_mem_nil, or_false, forall_eq_or_imp, forall_eq, false_implies, implies_true, and_true] <;> omega) | (repeat' (first | exact True.intro | rfl | refine And.intro ?_ ?_ | (rw [sv_ne _ _ _ _ (by omega)]) | (rw [up_cell _ _ _ (by omega)]) | (rw [fil_cell _ _ _ _ _ (by omega)]) | (rw [hM _ (by omega)]) | (rw [hm _ (by omega)])))) | (have t_ := Inv.crc (hI); exact Or.inr t_)) (by first | (refine Or.inl (And.intro ?_ ?_) <;> first | (simp only [List.mem_cons, List.not_mem_nil, or_false, forall_eq_or_imp, forall_eq, false_implies, implies_true, and_true] <;> omega) | (repeat' (first | exact True.intro | rfl | refine And.intro ?_ ?_ | (rw [sv_ne _ _ _ _ (by omega)]) | (rw [up_cell _ _ _ (by omega)]) | (rw [fil_cell _ _ _ _ _ (by omega)]) | (rw [hM _ (by omega)]) | (rw [hm _ (by omega)])))) | (have t_ := Inv.bk (hI); exact Or.inr t_)) (by first | (refine Or.inl (And.intro ?_ ?_) <;> first | (simp only [List.mem_cons, List.not_mem_nil, or_false, forall_eq_or_imp, forall_eq, false_implies, implies_true, and_true] <;> omega) | (repeat' (first | exact True.intro | rfl | refine And.intro ?_ ?_ | (rw [sv_ne _ _ _ _ (by omega)]) | (rw [up_cell _ _ _ (by omega)]) | (rw [fil_cell _ _ _ _ _ (by omega)]) | (rw [hM _ (by omega)]) | (rw [hm _ (by omega)])))) | (have t_ := Inv.bk1 (hI); exact Or.inr t_)) (by first | (refine Or.inl (And.intro ?_ ?_) <;> first | (simp only [List.mem_cons, List.not_mem_nil, or_false, forall_eq_or_imp, forall_eq, false_implies, implies_true, and_true] <;> omega) | (repeat' (first | exact True.intro | rfl | refine And.intro ?_ ?_ | (rw [sv_ne _ _ _ _ (by omega)]) | (rw [up_cell _ _ _ (by omega)]) | (rw [fil_cell _ _ _ _ _ (by omega)]) | (rw [hM _ (by omega)]) | (rw [hm _ (by omega)])))) | (have t_ := Inv.pw (hI); exact Or.inr t_)) (by first | (refine Or.inl (And.intro ?_ ?_) <;> first | (simp only [List.mem_cons, List.not_mem_nil, or_false, forall_eq_or_imp, forall_eq, false_implies, implies_true, and_true] <;> omega) | (repeat' (first | exact True.intro | rfl | refine And.intro ?_ ?_ | (rw [sv_ne _ _ _ _ (by omega)]) | (rw [up_cell _ _ _ (by omega)]) | (rw [fil_cell _ _ _ _ _ (by omega)]) | (rw [hM _ (by omega)]) | (rw [hm _ (by omega)])))) | (have t_ := Inv.kd (hI); exact Or.inr t_)) (by first | (refine Or.inl (And.intro ?_ ?_) <;> first | (simp only [List.mem_cons, List.not_mem_nil, or_false, forall_eq_or_imp, forall_eq, false_implies, implies_true, and_true] <;> omega) | (repeat' (first | exact True.intro | rfl | refine And.intro ?_ ?_ | (rw [sv_ne _ _ _ _ (by omega)]) | (rw [up_cell _ _ _ (by omega)]) | (rw [fil_cell _ _ _ _ _ (by omega)]) | (rw [hM _ (by omega)]) | (rw [hm _ (by omega)])))) | (have t_ := Inv.tn (hI); exact Or.inr t_)) (by first | (refine Or.inl (And.intro ?_ ?_) <;> first | (simp only [List.mem_cons, List.not_mem_nil, or_false, forall_eq_or_imp, forall_eq, false_implies, implies_true, and_true] <;> omega) | (repeat' (first | exact True.intro | rfl | refine And.intro ?_ ?_ | (rw [sv_ne _ _ _ _ (by omega)]) | (rw [up_cell _ _ _ (by omega)]) | (rw [fil_cell _ _ _ _ _ (by omega)]) | (rw [hM _ (by omega)]) | (rw [hm _ (by omega)])))) | (have t_ := Inv.ask (hI); exact Or.inr t_)) (Or.inr (fun q => absurd q h0)) (Or.inr (fun q => absurd q h0)) (by first | (refine Or.inl (And.intro ?_ ?_) <;> first | (simp only [List.mem_cons, List.not_mem_nil, or_false, forall_eq_or_imp, forall_eq, false_implies, implies_true, and_true] <;> omega) | (repeat' (first | exact True.intro | rfl | refine And.intro ?_ ?_ | (rw [sv_ne _ _ _ _ (by omega)]) | (rw [up_cell _ _ _ (by omega)]) | (rw [fil_cell _ _ _ _ _ (by omega)]) | (rw [hM _ (by omega)]) | (rw [hm _ (by omega)])))) | (have t_ := Inv.lv0 (hI); exact Or.inr t_)) (by first | (refine Or.inl (And.intro ?_ ?_) <;> first | (simp only [List.mem_cons, List.not_mem_nil, or_false, forall_eq_or_imp, forall_eq, false_implies, implies_true, and_true] <;> omega) | (repeat' (first | exact True.intro | rfl | refine And.intro ?_ ?_ | (rw [sv_ne _ _ _ _ (by omega)]) | (rw [up_cell _ _ _ (by omega)]) | (rw [fil_cell _ _ _ _ _ (by omega)]) | (rw [hM _ (by omega)]) | (rw [hm _ (by omega)])))) | (have t_ := Inv.lv2 (hI); exact Or.inr t_)) (by first | (refine Or.inl (And.intro ?_ ?_) <;> first | (simp only [List.mem_cons, List.not_mem_nil, or_false, forall_eq_or_imp, forall_eq, false_implies, implies_true, and_true] <;> omega) | (repeat' (first | exact True.intro | rfl | refine And.intro ?_ ?_ | (rw [sv_ne _ _ _ _ (by omega)]) | (rw [up_cell _ _ _ (by omega)]) | (rw [fil_cell _ _ _ _ _ (by omega)]) | (rw [hM _ (by omega)]) | (rw [hm _ (by omega)])))) | (have t_ := Inv.pl (hI); exact Or.inr t_)) (Or.inr (fun q => absurd q h0)) (by first | (refine Or.inl (And.intro ?_ ?_) <;> first | (simp only [List.mem_cons, List.not_mem_nil, or_false, forall_eq_or_imp, forall_eq, false_implies, implies_true, and_true] <;> omega) | (repeat' (first | exact True.intro | rfl | refine And.intro ?_ ?_ | (rw [sv_ne _ _ _ _ (by omega)]) | (rw [up_cell _ _ _ (by omega)]) | (rw [fil_cell _ _ _ _ _ (by omega)]) | (rw [hM _ (by omega)]) | (rw [hm _ (by omega)])))) | (have t_ := Inv.dis (hI); exact Or.inr t_)))
  · refine hI.memx ho hc (fun w h => ?_)
    have := hw w h
    refine ⟨by omega, fun j hj => ?_⟩
    have o' := (hI.p hj).ord
    have s' := (hI.p hj).szI
    have cl' := (hI.p hj).ctlI
    omega
theorem Rel.sto {B : Nat} {m m' M M' : it_Me} (hI : Inv B m) (h : Rel m M) (hc : ∀ k, k ≠ 2 → m' k = m k) (hw : ∀ w, m' 2 w ≠ m 2 w → 15360 ≤ w ∧ w < 16384) (hM : ∀ k, k ≠ 67 → M' k = M k)
  (hb : ∀ w, w < 32768 → ¬ excl m w → ∀ j, j < 4 → M' 67 (65536 + 4 * w + j) = sb8 (m' 2 w) j) : Rel m' M' := by
  have h8 := cnt_le hI
  have hm := hc
  have ecn : cnt m' = cnt m := cnt_cg (by rw [hc _ (by omega)])
  have hct : ∀ j, ctl m' j = ctl m j := fun j => ctl_cg (hc _ (by omega))
  have hex := fun w => excl_ctl (m' := m') (m := m) (by rw [hc _ (by omega)]) (fun j _ => hct j) w
  have gz : ∀ j, j < cnt m → ∀ a : Int32, (m (14 + 5 * j) 8).toInt ≤ a.toInt → a.toInt < (m (14 + 5 * j) 5).toInt + (m (14 + 5 * j) 6).toInt → gw m' a = gw m a := fun j hj a h1 h2 => gw_w (fun hA => by
    have := wi_eq hA
    have o' := (hI.p hj).ord
    have s' := (hI.p hj).szI
    by_cases q : m' 2 (wi a) = m 2 (wi a)
    · exact q
    · exfalso
      have := hw _ q
      omega)
  have und : ∀ j, j < cnt m → ∀ k, k < 80 → m (14 + 5 * j + 4) 1 ≠ 0 → gw m' (m (14 + 5 * j + 4) 1 + nI k) = gw m (m (14 + 5 * j + 4) 1 + nI k) := fun j hj k hk hg1 => by
    have g' := (hI.p hj).gI (d := 1) (by omega) hg1
    have z : gsz 1 = 80 := by decide
    have a' := gadr hI hj (d := 1) (k := k) (by omega) hg1 (by omega)
    have cl' := (hI.p hj).ctlI
    exact gz j hj _ (by omega) (by omega)
  have gc : ∀ j, j < cnt m → ∀ k, k < 64 → gw m' (ctl m j + nI k) = gw m (ctl m j + nI k) := fun j hj k hk => by
    have s' := (hI.p hj).szI
    have o' := (hI.p hj).ord
    have cl' := (hI.p hj).ctlI
    have ek := adI (a := ctl m j) (k := k) (by omega) (by omega) (by omega)
    exact gz j hj _ (by omega) (by omega)
  exact (Rel.upd (h) (h8) ([2]) ([67]) (fun k hk => hc k (by simpa using hk)) (fun k hk => hM k (by simpa using hk)) (by first | (refine Or.inl (And.intro ?_ (And.intro ?_ ?_)) <;> first | (simp only [List.mem_cons, List.not_mem_nil, or_false, forall_eq_or_imp, forall_eq, false_implies, implies_true, and_true] <;> omega) | (repeat' (first | exact True.intro | rfl | refine And.intro ?_ ?_ | (rw [sv_ne _ _ _ _ (by omega)]) | (rw [up_cell _ _ _ (by omega)]) | (rw [fil_cell _ _ _ _ _ (by omega)]) | (rw [hM _ (by omega)]) | (rw [hm _ (by omega)])))) | (have t_ := Rel.tapeLen (h); exact Or.inr t_)) (by first | (refine Or.inl (And.intro ?_ (And.intro ?_ ?_)) <;> first | (simp only [List.mem_cons, List.not_mem_nil, or_false, forall_eq_or_imp, forall_eq, false_implies, implies_true, and_true] <;> omega) | (repeat' (first | exact True.intro | rfl | refine And.intro ?_ ?_ | (rw [sv_ne _ _ _ _ (by omega)]) | (rw [up_cell _ _ _ (by omega)]) | (rw [fil_cell _ _ _ _ _ (by omega)]) | (rw [hM _ (by omega)]) | (rw [hm _ (by omega)])))) | (have t_ := Rel.on (h); exact Or.inr t_)) (by first | (refine Or.inl (And.intro ?_ (And.intro ?_ ?_)) <;> first | (simp only [List.mem_cons, List.not_mem_nil, or_false, forall_eq_or_imp, forall_eq, false_implies, implies_true, and_true] <;> omega) | (repeat' (first | exact True.intro | rfl | refine And.intro ?_ ?_ | (rw [sv_ne _ _ _ _ (by omega)]) | (rw [up_cell _ _ _ (by omega)]) | (rw [fil_cell _ _ _ _ _ (by omega)]) | (rw [hM _ (by omega)]) | (rw [hm _ (by omega)])))) | (have t_ := Rel.lost (h); exact Or.inr t_)) (by first | (refine Or.inl (And.intro ?_ (And.intro ?_ ?_)) <;> first | (simp only [List.mem_cons, List.not_mem_nil, or_false, forall_eq_or_imp, forall_eq, false_implies, implies_true, and_true] <;> omega) | (repeat' (first | exact True.intro | rfl | refine And.intro ?_ ?_ | (rw [sv_ne _ _ _ _ (by omega)]) | (rw [up_cell _ _ _ (by omega)]) | (rw [fil_cell _ _ _ _ _ (by omega)]) | (rw [hM _ (by omega)]) | (rw [hm _ (by omega)])))) | (have t_ := Rel.power (h); exact Or.inr t_)) (by first | (refine Or.inl (And.intro ?_ (And.intro ?_ ?_)) <;> first | (simp only [List.mem_cons, List.not_mem_nil, or_false, forall_eq_or_imp, forall_eq, false_implies, implies_true, and_true] <;> omega) | (repeat' (first | exact True.intro | rfl | refine And.intro ?_ ?_ | (rw [sv_ne _ _ _ _ (by omega)]) | (rw [up_cell _ _ _ (by omega)]) | (rw [fil_cell _ _ _ _ _ (by omega)]) | (rw [hM _ (by omega)]) | (rw [hm _ (by omega)])))) | (have t_ := Rel.time (h); exact Or.inr t_)) (by first | (refine Or.inl (And.intro ?_ (And.intro ?_ ?_)) <;> first | (simp only [List.mem_cons, List.not_mem_nil, or_false, forall_eq_or_imp, forall_eq, false_implies, implies_true, and_true] <;> omega) | (repeat' (first | exact True.intro | rfl | refine And.intro ?_ ?_ | (rw [sv_ne _ _ _ _ (by omega)]) | (rw [up_cell _ _ _ (by omega)]) | (rw [fil_cell _ _ _ _ _ (by omega)]) | (rw [hM _ (by omega)]) | (rw [hm _ (by omega)])))) | (have t_ := Rel.z (h); exact Or.inr t_)) (by first | (refine Or.inl (And.intro ?_ (And.intro ?_ ?_)) <;> first | (simp only [List.mem_cons, List.not_mem_nil, or_false, forall_eq_or_imp, forall_eq, false_implies, implies_true, and_true] <;> omega) | (repeat' (first | exact True.intro | rfl | refine And.intro ?_ ?_ | (rw [sv_ne _ _ _ _ (by omega)]) | (rw [up_cell _ _ _ (by omega)]) | (rw [fil_cell _ _ _ _ _ (by omega)]) | (rw [hM _ (by omega)]) | (rw [hm _ (by omega)])))) | (have t_ := Rel.count (h); exact Or.inr t_)) (by first | (refine Or.inl (And.intro ?_ (And.intro ?_ ?_)) <;> first | (simp only [List.mem_cons, List.not_mem_nil, or_false, forall_eq_or_imp, forall_eq, false_implies, implies_true, and_true] <;> omega) | (repeat' (first | exact True.intro | rfl | refine And.intro ?_ ?_ | (rw [sv_ne _ _ _ _ (by omega)]) | (rw [up_cell _ _ _ (by omega)]) | (rw [fil_cell _ _ _ _ _ (by omega)]) | (rw [hM _ (by omega)]) | (rw [hm _ (by omega)])))) | (have t_ := Rel.turn (h); exact Or.inr t_)) (by first | (refine Or.inl (And.intro ?_ (And.intro ?_ ?_)) <;> first | (simp only [List.mem_cons, List.not_mem_nil, or_false, forall_eq_or_imp, forall_eq, false_implies, implies_true, and_true] <;> omega) | (repeat' (first | exact True.intro | rfl | refine And.intro ?_ ?_ | (rw [sv_ne _ _ _ _ (by omega)]) | (rw [up_cell _ _ _ (by omega)]) | (rw [fil_cell _ _ _ _ _ (by omega)]) | (rw [hM _ (by omega)]) | (rw [hm _ (by omega)])))) | (have t_ := Rel.bank (h); exact Or.inr t_)) (by first | (refine Or.inl (And.intro ?_ (And.intro ?_ ?_)) <;> first | (simp only [List.mem_cons, List.not_mem_nil, or_false, forall_eq_or_imp, forall_eq, false_implies, implies_true, and_true] <;> omega) | (repeat' (first | exact True.intro | rfl | refine And.intro ?_ ?_ | (rw [sv_ne _ _ _ _ (by omega)]) | (rw [up_cell _ _ _ (by omega)]) | (rw [fil_cell _ _ _ _ _ (by omega)]) | (rw [hM _ (by omega)]) | (rw [hm _ (by omega)])))) | (have t_ := Rel.tape (h); exact Or.inr t_)) (by first | (refine Or.inl (And.intro ?_ (And.intro ?_ ?_)) <;> first | (simp only [List.mem_cons, List.not_mem_nil, or_false, forall_eq_or_imp, forall_eq, false_implies, implies_true, and_true] <;> omega) | (repeat' (first | exact True.intro | rfl | refine And.intro ?_ ?_ | (rw [sv_ne _ _ _ _ (by omega)]) | (rw [up_cell _ _ _ (by omega)]) | (rw [fil_cell _ _ _ _ _ (by omega)]) | (rw [hM _ (by omega)]) | (rw [hm _ (by omega)])))) | (have t_ := Rel.counts (h); exact Or.inr t_)) (by first | (refine Or.inl (And.intro ?_ (And.intro ?_ ?_)) <;> first | (simp only [List.mem_cons, List.not_mem_nil, or_false, forall_eq_or_imp, forall_eq, false_implies, implies_true, and_true] <;> omega) | (repeat' (first | exact True.intro | rfl | refine And.intro ?_ ?_ | (rw [sv_ne _ _ _ _ (by omega)]) | (rw [up_cell _ _ _ (by omega)]) | (rw [fil_cell _ _ _ _ _ (by omega)]) | (rw [hM _ (by omega)]) | (rw [hm _ (by omega)])))) | (have t_ := Rel.events (h); exact Or.inr t_)) (by first | (refine Or.inl (And.intro ?_ (And.intro ?_ ?_)) <;> first | (simp only [List.mem_cons, List.not_mem_nil, or_false, forall_eq_or_imp, forall_eq, false_implies, implies_true, and_true] <;> omega) | (repeat' (first | exact True.intro | rfl | refine And.intro ?_ ?_ | (rw [sv_ne _ _ _ _ (by omega)]) | (rw [up_cell _ _ _ (by omega)]) | (rw [fil_cell _ _ _ _ _ (by omega)]) | (rw [hM _ (by omega)]) | (rw [hm _ (by omega)])))) | (have t_ := Rel.out (h); exact Or.inr t_)) (by first | (refine Or.inl (And.intro ?_ (And.intro ?_ ?_)) <;> first | (simp only [List.mem_cons, List.not_mem_nil, or_false, forall_eq_or_imp, forall_eq, false_implies, implies_true, and_true] <;> omega) | (repeat' (first | exact True.intro | rfl | refine And.intro ?_ ?_ | (rw [sv_ne _ _ _ _ (by omega)]) | (rw [up_cell _ _ _ (by omega)]) | (rw [fil_cell _ _ _ _ _ (by omega)]) | (rw [hM _ (by omega)]) | (rw [hm _ (by omega)])))) | (have t_ := Rel.lamps (h); exact Or.inr t_)) (by first | (refine Or.inl (And.intro ?_ (And.intro ?_ ?_)) <;> first | (simp only [List.mem_cons, List.not_mem_nil, or_false, forall_eq_or_imp, forall_eq, false_implies, implies_true, and_true] <;> omega) | (repeat' (first | exact True.intro | rfl | refine And.intro ?_ ?_ | (rw [sv_ne _ _ _ _ (by omega)]) | (rw [up_cell _ _ _ (by omega)]) | (rw [fil_cell _ _ _ _ _ (by omega)]) | (rw [hM _ (by omega)]) | (rw [hm _ (by omega)])))) | (have t_ := Rel.buttons (h); exact Or.inr t_)) (by first | (refine Or.inl (And.intro ?_ (And.intro ?_ ?_)) <;> first | (simp only [List.mem_cons, List.not_mem_nil, or_false, forall_eq_or_imp, forall_eq, false_implies, implies_true, and_true] <;> omega) | (repeat' (first | exact True.intro | rfl | refine And.intro ?_ ?_ | (rw [sv_ne _ _ _ _ (by omega)]) | (rw [up_cell _ _ _ (by omega)]) | (rw [fil_cell _ _ _ _ _ (by omega)]) | (rw [hM _ (by omega)]) | (rw [hm _ (by omega)])))) | (have t_ := Rel.lev (h); exact Or.inr t_)) (Or.inr (by
    intro w hw' hx j hj
    exact hb w hw' (fun q => hx ((hex w).mpr q)) j hj)) (by first | (refine Or.inl (And.intro ?_ (And.intro ?_ ?_)) <;> first | (simp only [List.mem_cons, List.not_mem_nil, or_false, forall_eq_or_imp, forall_eq, false_implies, implies_true, and_true] <;> omega) | (repeat' (first | exact True.intro | rfl | refine And.intro ?_ ?_ | (rw [sv_ne _ _ _ _ (by omega)]) | (rw [up_cell _ _ _ (by omega)]) | (rw [fil_cell _ _ _ _ _ (by omega)]) | (rw [hM _ (by omega)]) | (rw [hm _ (by omega)])))) | (have t_ := Rel.sched (h); exact Or.inr t_)) (by first | (refine Or.inl (And.intro ?_ (And.intro ?_ ?_)) <;> first | (simp only [List.mem_cons, List.not_mem_nil, or_false, forall_eq_or_imp, forall_eq, false_implies, implies_true, and_true] <;> omega) | (repeat' (first | exact True.intro | rfl | refine And.intro ?_ ?_ | (rw [sv_ne _ _ _ _ (by omega)]) | (rw [up_cell _ _ _ (by omega)]) | (rw [fil_cell _ _ _ _ _ (by omega)]) | (rw [hM _ (by omega)]) | (rw [hm _ (by omega)])))) | (have t_ := Rel.done (h); exact Or.inr t_)) (by first | (refine Or.inl (And.intro ?_ (And.intro ?_ ?_)) <;> first | (simp only [List.mem_cons, List.not_mem_nil, or_false, forall_eq_or_imp, forall_eq, false_implies, implies_true, and_true] <;> omega) | (repeat' (first | exact True.intro | rfl | refine And.intro ?_ ?_ | (rw [sv_ne _ _ _ _ (by omega)]) | (rw [up_cell _ _ _ (by omega)]) | (rw [fil_cell _ _ _ _ _ (by omega)]) | (rw [hM _ (by omega)]) | (rw [hm _ (by omega)])))) | (have t_ := Rel.levels (h); exact Or.inr t_)) (by first | (refine Or.inl (And.intro ?_ (And.intro ?_ ?_)) <;> first | (simp only [List.mem_cons, List.not_mem_nil, or_false, forall_eq_or_imp, forall_eq, false_implies, implies_true, and_true] <;> omega) | (repeat' (first | exact True.intro | rfl | refine And.intro ?_ ?_ | (rw [sv_ne _ _ _ _ (by omega)]) | (rw [up_cell _ _ _ (by omega)]) | (rw [fil_cell _ _ _ _ _ (by omega)]) | (rw [hM _ (by omega)]) | (rw [hm _ (by omega)])))) | (have t_ := Rel.places (h); exact Or.inr t_)) (by first | (refine Or.inl (And.intro ?_ (And.intro ?_ ?_)) <;> first | (simp only [List.mem_cons, List.not_mem_nil, or_false, forall_eq_or_imp, forall_eq, false_implies, implies_true, and_true] <;> omega) | (repeat' (first | exact True.intro | rfl | refine And.intro ?_ ?_ | (rw [sv_ne _ _ _ _ (by omega)]) | (rw [up_cell _ _ _ (by omega)]) | (rw [fil_cell _ _ _ _ _ (by omega)]) | (rw [hM _ (by omega)]) | (rw [hm _ (by omega)])))) | (have t_ := Rel.asked (h); exact Or.inr t_)) (Or.inr (by
    intro j hj hu
    rw [ecn] at hj
    rw [hM _ (by omega), hc _ (by omega)]
    unfold undW at hu
    rw [hc _ (by omega)] at hu
    have := und j hj 64 (by omega) hu.1
    refine h.worder j hj ⟨hu.1, ?_⟩
    rw [show m (14 + 5 * j + 4) 1 + 64 = m (14 + 5 * j + 4) 1 + nI 64 from rfl, ← this]
    exact hu.2)) (Or.inr (by
    intro j hj hu
    rw [ecn] at hj
    rw [hM _ (by omega), hc _ (by omega)]
    unfold undR at hu
    rw [hc _ (by omega)] at hu
    have := und j hj 72 (by omega) hu.1
    refine h.rorder j hj ⟨hu.1, ?_⟩
    rw [show m (14 + 5 * j + 4) 1 + 72 = m (14 + 5 * j + 4) 1 + nI 72 from rfl, ← this]
    exact hu.2)) (by first | (refine Or.inl (And.intro ?_ (And.intro ?_ ?_)) <;> first | (simp only [List.mem_cons, List.not_mem_nil, or_false, forall_eq_or_imp, forall_eq, false_implies, implies_true, and_true] <;> omega) | (repeat' (first | exact True.intro | rfl | refine And.intro ?_ ?_ | (rw [sv_ne _ _ _ _ (by omega)]) | (rw [up_cell _ _ _ (by omega)]) | (rw [fil_cell _ _ _ _ _ (by omega)]) | (rw [hM _ (by omega)]) | (rw [hm _ (by omega)])))) | (have t_ := Rel.ps (h); exact Or.inr t_)) (by first | (refine Or.inl (And.intro ?_ (And.intro ?_ ?_)) <;> first | (simp only [List.mem_cons, List.not_mem_nil, or_false, forall_eq_or_imp, forall_eq, false_implies, implies_true, and_true] <;> omega) | (repeat' (first | exact True.intro | rfl | refine And.intro ?_ ?_ | (rw [sv_ne _ _ _ _ (by omega)]) | (rw [up_cell _ _ _ (by omega)]) | (rw [fil_cell _ _ _ _ _ (by omega)]) | (rw [hM _ (by omega)]) | (rw [hm _ (by omega)])))) | (have t_ := Rel.app (h); exact Or.inr t_)) (by first | (refine Or.inl (And.intro ?_ (And.intro ?_ ?_)) <;> first | (simp only [List.mem_cons, List.not_mem_nil, or_false, forall_eq_or_imp, forall_eq, false_implies, implies_true, and_true] <;> omega) | (repeat' (first | exact True.intro | rfl | refine And.intro ?_ ?_ | (rw [sv_ne _ _ _ _ (by omega)]) | (rw [up_cell _ _ _ (by omega)]) | (rw [fil_cell _ _ _ _ _ (by omega)]) | (rw [hM _ (by omega)]) | (rw [hm _ (by omega)])))) | (have t_ := Rel.name (h); exact Or.inr t_)) (by first | (refine Or.inl (And.intro ?_ (And.intro ?_ ?_)) <;> first | (simp only [List.mem_cons, List.not_mem_nil, or_false, forall_eq_or_imp, forall_eq, false_implies, implies_true, and_true] <;> omega) | (repeat' (first | exact True.intro | rfl | refine And.intro ?_ ?_ | (rw [sv_ne _ _ _ _ (by omega)]) | (rw [up_cell _ _ _ (by omega)]) | (rw [fil_cell _ _ _ _ _ (by omega)]) | (rw [hM _ (by omega)]) | (rw [hm _ (by omega)])))) | (have t_ := Rel.number (h); exact Or.inr t_)) (by first | (refine Or.inl (And.intro ?_ (And.intro ?_ ?_)) <;> first | (simp only [List.mem_cons, List.not_mem_nil, or_false, forall_eq_or_imp, forall_eq, false_implies, implies_true, and_true] <;> omega) | (repeat' (first | exact True.intro | rfl | refine And.intro ?_ ?_ | (rw [sv_ne _ _ _ _ (by omega)]) | (rw [up_cell _ _ _ (by omega)]) | (rw [fil_cell _ _ _ _ _ (by omega)]) | (rw [hM _ (by omega)]) | (rw [hm _ (by omega)])))) | (have t_ := Rel.bits (h); exact Or.inr t_)) (by first | (refine Or.inl (And.intro ?_ (And.intro ?_ ?_)) <;> first | (simp only [List.mem_cons, List.not_mem_nil, or_false, forall_eq_or_imp, forall_eq, false_implies, implies_true, and_true] <;> omega) | (repeat' (first | exact True.intro | rfl | refine And.intro ?_ ?_ | (rw [sv_ne _ _ _ _ (by omega)]) | (rw [up_cell _ _ _ (by omega)]) | (rw [fil_cell _ _ _ _ _ (by omega)]) | (rw [hM _ (by omega)]) | (rw [hm _ (by omega)])))) | (have t_ := Rel.regs (h); exact Or.inr t_)) (by first | (refine Or.inl (And.intro ?_ (And.intro ?_ ?_)) <;> first | (simp only [List.mem_cons, List.not_mem_nil, or_false, forall_eq_or_imp, forall_eq, false_implies, implies_true, and_true] <;> omega) | (repeat' (first | exact True.intro | rfl | refine And.intro ?_ ?_ | (rw [sv_ne _ _ _ _ (by omega)]) | (rw [up_cell _ _ _ (by omega)]) | (rw [fil_cell _ _ _ _ _ (by omega)]) | (rw [hM _ (by omega)]) | (rw [hm _ (by omega)])))) | (have t_ := Rel.rsv (h); exact Or.inr t_)) (by first | (refine Or.inl (And.intro ?_ (And.intro ?_ ?_)) <;> first | (simp only [List.mem_cons, List.not_mem_nil, or_false, forall_eq_or_imp, forall_eq, false_implies, implies_true, and_true] <;> omega) | (repeat' (first | exact True.intro | rfl | refine And.intro ?_ ?_ | (rw [sv_ne _ _ _ _ (by omega)]) | (rw [up_cell _ _ _ (by omega)]) | (rw [fil_cell _ _ _ _ _ (by omega)]) | (rw [hM _ (by omega)]) | (rw [hm _ (by omega)])))) | (have t_ := Rel.queue (h); exact Or.inr t_)) (Or.inr (by
    intro j hj
    rw [ecn] at hj
    rw [hct, hM _ (by omega), hM _ (by omega), hM _ (by omega), hM _ (by omega)]
    rw [show ctl m j + 24 = ctl m j + nI 24 from rfl, show ctl m j + 28 = ctl m j + nI 28 from rfl, show ctl m j + 32 = ctl m j + nI 32 from rfl, show ctl m j + 40 = ctl m j + nI 40 from rfl, gc j hj 24 (by omega), gc j hj 28 (by omega), gc j hj 32 (by omega), gc j hj 40 (by omega)]
    exact h.ctlw j hj)) (by first | (refine Or.inl (And.intro ?_ (And.intro ?_ ?_)) <;> first | (simp only [List.mem_cons, List.not_mem_nil, or_false, forall_eq_or_imp, forall_eq, false_implies, implies_true, and_true] <;> omega) | (repeat' (first | exact True.intro | rfl | refine And.intro ?_ ?_ | (rw [sv_ne _ _ _ _ (by omega)]) | (rw [up_cell _ _ _ (by omega)]) | (rw [fil_cell _ _ _ _ _ (by omega)]) | (rw [hM _ (by omega)]) | (rw [hm _ (by omega)])))) | (have t_ := Rel.wt (h); exact Or.inr t_)))
theorem inF {A : Nat} (h : 65536 ≤ A ∧ A < 131072) : InM (nI A) := by
  have := nI_toInt (n := A) (by omega)
  exact ⟨by omega, by omega⟩
theorem wiF {A : Nat} (h : 65536 ≤ A ∧ A < 131072) : wi (nI A) = (A - 65536) / 4 := by
  have := wi_eq (inF h)
  rw [nI_toInt (by omega)] at this
  omega
theorem nxF {B : Nat} {m : it_Me} (hI : Inv B m) {A : Nat} (h : 65536 ≤ A ∧ A < 131072) : ¬ excl m (wi (nI A)) := nexF hI (by rw [wiF h]; omega)
theorem rS {kc : it_Kc} {B : Nat} {m M : it_Me} (hI : Inv B m) (hR : Rel m M) {A : Nat} (h : 65536 ≤ A ∧ A < 131072) (h4 : A % 4 = 0) {Φ : Int32 → it_Me → Prop} (hp : Φ (gw m (nI A)) M) : w_220 kc (nI A) M Φ :=
  r_220 hR (inF h) (by rw [nI_toInt (by omega)]; omega) (nxF hI h) hp
def okN (n : Int32) : Prop := n = 255 ∨ 0 ≤ n.toInt ∧ n.toInt ≤ 32
def szR (n : Int32) : Nat := if n = 255 then 16 else 16 + (n.toInt.toNat + 3) / 4 * 4
theorem szR_le {n : Int32} (h : okN n) : 16 ≤ szR n ∧ szR n ≤ 48 ∧ szR n % 4 = 0 := by
  unfold szR
  split
  · omega
  · rename_i q
    rcases h with h | h
    · exact absurd h q
    · omega
noncomputable def xw (m : it_Me) (A : Nat) : Nat → Nat → Int32 → Int32
  | 0, _, c => c
  | r + 1, k, c => xw m A r (k + 1) (c ^^^ gw m (nI (A + 4 * k)))
def fx (c : Int32) : Int32 := if c = -1 then 0 else c
def rcP (m : it_Me) (b A s : Nat) : Prop := A + 16 ≤ b + 2048 ∧ gw m (nI A) ≠ -1 ∧ okN (gw m (nI (A + 8))) ∧ s = szR (gw m (nI (A + 8))) ∧ A + s ≤ b + 2048 ∧ gw m (nI (A + s - 4)) = fx (xw m A (s / 4 - 1) 0 1515870810)
theorem sz_c : ∀ k, k < 33 → (nI k + 3) &&& (-4 : Int32) = nI ((k + 3) / 4 * 4) := by decide +kernel
theorem sz_r : ∀ k, k < 33 → (4 : Int32) * (Int64.toInt32 ((Int32.toInt64 (nI k) &&& 4294967295) + 3) / 4) = nI ((k + 3) / 4 * 4) := by decide +kernel
theorem sz_i : ∀ k, k < 33 → (4 : Int32) * ((nI k + 3) / 4) = nI ((k + 3) / 4 * 4) := by decide +kernel
theorem n255 {k : Nat} (h : k < 33) : ¬ nI k = 255 := fun q => by
  have := nI_toInt (n := k) (by omega)
  rw [q] at this
  have e : (255 : Int32).toInt = 255 := rfl
  omega
theorem okC {n : Int32} (h : okN n) : n = 255 ∨ ∃ k, k < 33 ∧ n = nI k := by
  rcases h with h | h
  · exact Or.inl h
  · exact Or.inr (numN (k := 33) (by omega) (by omega))
theorem szK {k : Nat} (h : k < 33) : szR (nI k) = 16 + (k + 3) / 4 * 4 := by
  unfold szR
  rw [if_neg (n255 h), nI_toInt (by omega)]
  rfl
theorem c_162 {kc : it_Kc} {m : it_Me} {n : Int32} (hn : okN n) {Φ : Int32 → it_Me → Prop} (h : Φ (nI (szR n)) m) : w_162 kc n m Φ := by
  unfold w_162 w_162_19
  rcases okC hn with e | ⟨k, hk, e⟩
  · subst e
    exact ⟨fun _ => h, fun q => absurd rfl q⟩
  · subst e
    refine ⟨fun q => absurd q (n255 hk), fun _ => ?_⟩
    rw [sz_c k hk, show (16 : Int32) = nI 16 from rfl, nI_add, ← szK hk]
    exact h
theorem c_164L {kc : it_Kc} {m : it_Me} {A s : Nat} (hs : s ≤ 48) {Φ : Int32 → it_Me → Prop} {K : Int32 → Int32 → Int32 → it_Me → Prop} : ∀ (r k : Nat) (c : Int32), 4 * k + 4 * r + 4 = s → K (nI A) (nI s) (xw m A r k c) m → w_164_83 kc Φ K (r + 1) (nI A) (nI s) c (nI (4 * k)) m := by
  intro r
  induction r with
  | zero =>
    intro k c hr h
    unfold w_164_83
    rw [nS4 (by omega), nLe (by omega) (by omega)]
    exact ⟨fun _ => h, fun q => absurd (by omega) q⟩
  | succ r ih =>
    intro k c hr h
    unfold w_164_83
    rw [nS4 (by omega), nLe (by omega) (by omega), nI_add, n_4]
    exact ⟨fun q => absurd q (by omega), fun _ => c_12 (ih (k + 1) _ (by omega) h)⟩
theorem c_164 {kc : it_Kc} {m : it_Me} {b A : Nat} (hb : m 7 2 = nI b) (hB : b ≤ 131072) (hA : A ≤ b + 2048) {Φ : Int32 → it_Me → Prop} (h1 : ∀ s, rcP m b A s → Φ (nI s) m) (h0 : (∀ s, ¬ rcP m b A s) → Φ 0 m) : w_164 kc (nI A) m Φ := by
  unfold w_164 w_164_29 w_164_60
  rw [hb, n_2048, nSub hA, n_8, show (16 : Int32) = nI 16 from rfl, nLt (by omega) (by omega)]
  refine ⟨fun q => h0 (fun s p => absurd p.1 (by omega)), fun q => c_12 ⟨fun q2 => h0 (fun s p => p.2.1 q2), fun q2 => c_12 ?_⟩⟩
  have fin : okN (gw m (nI (A + 8))) → w_164_62 kc Φ (nI A) (nI (b + 2048 - A)) (gw m (nI (A + 8))) m := fun hok => by
    have sz := szR_le hok
    unfold w_164_62
    refine c_162 hok ?_
    rw [nLe (by omega) (by omega)]
    refine ⟨fun q3 => ⟨_, c_164L (by omega) (szR (gw m (nI (A + 8))) / 4 - 1) 0 _ (by omega) ?_⟩, fun q3 => h0 (fun s p => ?_)⟩
    · unfold w_164_114 w_164_139 w_164_148
      rw [nI_add, nS4 (by omega)]
      refine c_12 ?_
      have yes : gw m (nI (A + szR (gw m (nI (A + 8))) - 4)) = fx (xw m A (szR (gw m (nI (A + 8))) / 4 - 1) 0 1515870810) → Φ (nI (szR (gw m (nI (A + 8))))) m := fun e => h1 _ ⟨by omega, q2, hok, rfl, by omega, e⟩
      have no : ¬ gw m (nI (A + szR (gw m (nI (A + 8))) - 4)) = fx (xw m A (szR (gw m (nI (A + 8))) / 4 - 1) 0 1515870810) → Φ 0 m := fun e => h0 (fun s p => by
        have := p.2.2.2.2.2
        rw [p.2.2.2.1] at this
        exact e this)
      refine ⟨fun e => ?_, fun e => ?_⟩
      · rw [fx, if_pos e] at yes no
        exact ⟨yes, no⟩
      · rw [fx, if_neg e] at yes no
        exact ⟨yes, no⟩
    · have := p.2.2.2.2.1
      rw [p.2.2.2.1] at this
      omega
  have z0 : (0 : Int32).toInt = 0 := rfl
  have z32 : (32 : Int32).toInt = 32 := rfl
  refine ⟨fun e => fin (Or.inl e), fun e => ⟨fun e2 => h0 (fun s p => ?_), fun e2 => ⟨fun e3 => fin (Or.inr ?_), fun e3 => h0 (fun s p => ?_)⟩⟩⟩
  · rw [Int32.lt_iff_toInt_lt] at e2
    rcases p.2.2.1 with y | y
    · exact e y
    · omega
  · rw [Int32.lt_iff_toInt_lt] at e2
    rw [Int32.le_iff_toInt_le] at e3
    omega
  · rw [Int32.lt_iff_toInt_lt] at e2
    rw [Int32.le_iff_toInt_le] at e3
    rcases p.2.2.1 with y | y
    · exact e y
    · omega
theorem lgeq (x y : Int64) : lg_cmp x y = 0 ↔ x.toInt = y.toInt := by
  have h1 := lgle x y
  have h2 := lgge x y
  rw [Int32.le_iff_toInt_le] at h1 h2
  have z0 : (0 : Int32).toInt = 0 := rfl
  rw [← Int32.toInt_inj]
  omega
theorem r_235L {kc : it_Kc} {B : Nat} {m M : it_Me} (hI : Inv B m) (hR : Rel m M) {A s : Nat} (hA : 65536 ≤ A ∧ A + s ≤ 131072) (h4 : A % 4 = 0) {Φ : Int32 → it_Me → Prop} {K : Int32 → Int32 → it_Me → Prop} : ∀ (r k : Nat) (c : Int32), 4 * k + 4 * r + 4 = s → K (nI (A + s)) (xw m A r k c) M → w_235_114 kc Φ K (r + 1) (nI (A + s)) c (nI (A + 4 * k)) M := by
  intro r
  induction r with
  | zero =>
    intro k c hr h
    unfold w_235_114
    rw [nS4 (by omega), nLe (by omega) (by omega)]
    exact ⟨fun _ => h, fun q => absurd (by omega) q⟩
  | succ r ih =>
    intro k c hr h
    unfold w_235_114
    rw [nS4 (by omega), nLe (by omega) (by omega), n_4]
    exact ⟨fun q => absurd q (by omega), fun _ => rS hI hR (by omega) (by omega) (ih (k + 1) _ (by omega) h)⟩
theorem r_235 {kc : it_Kc} {B : Nat} {m M : it_Me} (hI : Inv B m) (hR : Rel m M) {b A : Nat} {bk : Int32} (hb : 126976 + 2048 * bk = nI b) (hB : 126976 ≤ b ∧ b + 2048 ≤ 131072 ∧ b % 4 = 0) (hA : b ≤ A ∧ A ≤ b + 2048 ∧ A % 4 = 0) {Φ : Int32 → it_Me → Prop} (h1 : ∀ s, rcP m b A s → Φ (nI (A + s)) M) (h0 : (∀ s, ¬ rcP m b A s) → Φ (-1) M) : w_235 kc bk (nI A) M Φ := by
  unfold w_235 w_233 w_235_27
  rw [hb]
  dsimp only
  rw [n_2048, n_16, n_8, nLt (by omega) (by omega)]
  refine ⟨fun q => h0 (fun s p => absurd p.1 (by omega)), fun q => rS hI hR (by omega) (by omega) ⟨fun q2 => h0 (fun s p => p.2.1 q2), fun q2 => rS hI hR (by omega) (by omega) ?_⟩⟩
  have l32 : (32 : Int64).toInt = 32 := rfl
  have l255 : (255 : Int64).toInt = 255 := rfl
  have z255 : (255 : Int32).toInt = 255 := rfl
  have t1 := tlo (gw m (nI (A + 8)))
  have t2 := thi (gw m (nI (A + 8)))
  have go : ∀ (z : Nat) (u : Int32), okN (gw m (nI (A + 8))) → z = szR (gw m (nI (A + 8))) → nI (A + 16) + 4 * u = nI (A + z) → w_235_86 kc Φ (nI A) (nI (b + 2048)) u M := fun z u hok hz e => by
    have sz := szR_le hok
    rw [← hz] at sz
    unfold w_235_86
    rw [n_16, e, nLe (by omega) (by omega)]
    refine ⟨fun q3 => ⟨_, r_235L hI hR (by omega) (by omega) (z / 4 - 1) 0 _ (by omega) ?_⟩, fun q3 => h0 (fun s p => ?_)⟩
    · have yes : gw m (nI (A + z - 4)) = fx (xw m A (z / 4 - 1) 0 1515870810) → Φ (nI (A + z)) M := fun e => h1 _ ⟨by omega, q2, hok, hz, by omega, e⟩
      have no : ¬ gw m (nI (A + z - 4)) = fx (xw m A (z / 4 - 1) 0 1515870810) → Φ (-1) M := fun e => h0 (fun s p => by
        have := p.2.2.2.2.2
        rw [p.2.2.2.1, ← hz] at this
        exact e this)
      unfold w_235_140 w_235_152 w_235_169
      rw [nS4 (by omega)]
      refine ⟨fun e => rS hI hR (by omega) (by omega) ?_, fun e => rS hI hR (by omega) (by omega) ?_⟩
      · rw [fx, if_pos e] at yes no
        exact ⟨fun q => yes q.symm, fun q => no (fun y => q y.symm)⟩
      · rw [fx, if_neg e] at yes no
        exact ⟨fun q => yes q.symm, fun q => no (fun y => q y.symm)⟩
    · have := p.2.2.2.2.1
      rw [p.2.2.2.1, ← hz] at this
      omega
  have fin : okN (gw m (nI (A + 8))) → w_235_64 kc Φ (nI A) (nI (b + 2048)) (Int32.toInt64 (gw m (nI (A + 8))) &&& 4294967295) M := fun hok => by
    unfold w_235_64
    rw [lgeq, u32, l255]
    rcases okC hok with e | ⟨k, hk, e⟩
    · refine ⟨fun _ => go 16 0 hok (by rw [e]; rfl) ?_, fun q => absurd ?_ q⟩
      · show nI (A + 16) + 0 = _
        rw [Int32.add_zero]
      · rw [e]; rfl
    · have ek := nI_toInt (n := k) (by omega)
      refine ⟨fun q => ?_, fun _ => ⟨by decide, go (16 + (k + 3) / 4 * 4) _ hok (by rw [e, szK hk]) ?_⟩⟩
      · rw [e, ek] at q; omega
      · rw [e, sz_r k hk, nI_add]
        congr 1
        omega
  rw [lgle, lgeq, u32, l32, l255]
  refine ⟨fun q3 => fin (Or.inr (by omega)), fun q3 => ⟨fun q4 => fin (Or.inl ?_), fun q4 => h0 (fun s p => ?_)⟩⟩
  · exact Int32.toInt_inj.mp (by omega)
  · rcases p.2.2.1 with y | y
    · rw [y] at q4; exact q4 rfl
    · omega
