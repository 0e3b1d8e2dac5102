/-! Upcalls taken out of the queue. -/
theorem up_sv (m : it_Me) (c : Nat) (f : Nat → Int32) (k j : Nat) (v : Int32) (h : k ≠ c) : it_sv (it_up m c f) k j v = it_up (it_sv m k j v) c f := by
  funext x y
  by_cases hx : x = c
  · subst hx
    rw [sv_n1 _ _ _ _ _ (Ne.symm h), up_same, up_same]
  · rw [up_cell _ _ _ hx, sv_rd, sv_rd, up_cell _ _ _ hx]
theorem rgC_up {i c : Nat} {f : Nat → Int32} (h : 14 + 5 * i + 2 ≠ c) : ∀ (l : List (Nat × Int32)) (m : it_Me), rgC (it_up m c f) i l = it_up (rgC m i l) c f
  | [], _ => rfl
  | x :: l, m => by rw [rgC, rgC, up_sv _ _ _ _ _ _ h, rgC_up h l]
theorem ntC_up (m : it_Me) (p k n : Int32) {c : Nat} (f : Nat → Int32) (h : c ≠ 4 ∧ c ≠ 5 ∧ c ≠ 6) : ntC (it_up m c f) p k n = it_up (ntC m p k n) c f := by
  unfold ntC
  rw [up_cell (k' := 4) _ _ _ (by omega), up_cell (k' := 5) _ _ _ (by omega)]
  rw [up_sv _ _ _ _ _ _ (by omega), up_sv _ _ _ _ _ _ (by omega), up_sv _ _ _ _ _ _ (by omega), up_sv _ _ _ _ _ _ (by omega), up_sv _ _ _ _ _ _ (by omega), up_sv _ _ _ _ _ _ (by omega), up_sv _ _ _ _ _ _ (by omega)]
theorem nt_up (m : it_Me) (p : Int32) (k : Nat) (n : Int32) {c : Nat} (f : Nat → Int32) (h : c ≠ 4 ∧ c ≠ 5 ∧ c ≠ 6) : nt (it_up m c f) p k n = it_up (nt m p k n) c f := by
  unfold nt
  split
  · exact ntC_up _ _ _ _ _ h
  · rw [ntC_up _ _ _ _ _ h, up_sv _ _ _ _ _ _ (by omega), up_cell (k' := 5) _ _ _ (by omega)]
theorem gvC_up (m : it_Me) (i : Nat) (x a b c : Int32) (f : Nat → Int32) : gvC (it_up m (14 + 5 * i + 3) f) i x a b c = it_up (gvC m i x a b c) (14 + 5 * i + 3) f := by
  unfold gvC
  rw [rgC_up (by omega), up_sv _ _ _ _ _ _ (by omega), up_sv _ _ _ _ _ _ (by omega), nt_up _ _ _ _ _ (by omega)]
def rmf (f : Nat → Int32) (k q : Nat) : Nat → Int32 := fun x => if 5 * k ≤ x ∧ x + 5 < 5 * q then f (x + 5) else f x
def rmC (m : it_Me) (i k : Nat) : it_Me := it_sv (it_up m (14 + 5 * i + 3) (rmf (m (14 + 5 * i + 3)) k (Int32.toNatClampNeg (m (14 + 5 * i) 14)))) (14 + 5 * i) 14 (m (14 + 5 * i) 14 - 1)
def rmg (g : Nat → Int32) (i k q : Nat) : Nat → Int32 := fun y => if 50 * i + 5 * k ≤ y ∧ y + 5 < 50 * i + 5 * q then g (y + 5) else g y
def rmM (M : it_Me) (i k : Nat) : it_Me := it_up (it_sv M 110 i (M 110 i - 1)) 109 (rmg (M 109) i k (Int32.toNatClampNeg (M 110 i)))
theorem c_143 {kc : it_Kc} {i k : Nat} {m : it_Me} (hk : (k : Int) < (m (14 + 5 * i) 14).toInt) (hq : (m (14 + 5 * i) 14).toInt ≤ 10) {Φ : it_Me → Prop} (h : Φ (rmC m i k)) : w_143 kc (14 + 5 * i) (nI k) m Φ := by
  have ek : (nI k).toInt = k := nI_toInt (by omega)
  have e5 : nI k * 5 = nI (k * 5) := nI_mul k 5
  have e55 : nI k * 5 + 5 = nI (k * 5 + 5) := by rw [e5]; exact nI_add _ 5
  have eq5 : (m (14 + 5 * i) 14 * 5).toInt = 5 * (m (14 + 5 * i) 14).toInt := by rw [Int32.toInt_mul]; show Int.bmod (_ * 5) (2 ^ 32) = _; rw [bmI' (by omega) (by omega)]; omega
  have es : (m (14 + 5 * i) 14 * 5 - nI (k * 5 + 5)).toInt = 5 * (m (14 + 5 * i) 14).toInt - (k * 5 + 5 : Nat) := by
    rw [Int32.toInt_sub, eq5, nI_toInt (by omega), bmI' (by omega) (by omega)]
  unfold w_143 w_143_51
  rw [e55, e5]
  have c1 : Int32.toNatClampNeg (nI (k * 5 + 5)) = 5 * k + 5 := by rw [nI_clamp (by omega)]; omega
  have c2 : Int32.toNatClampNeg (nI (k * 5)) = 5 * k := by rw [nI_clamp (by omega)]; omega
  have c3 : Int32.toNatClampNeg (m (14 + 5 * i) 14 * 5 - nI (k * 5 + 5)) = 5 * Int32.toNatClampNeg (m (14 + 5 * i) 14) - (5 * k + 5) := by rw [clampI, clampI, es]; omega
  have cq : (Int32.toNatClampNeg (m (14 + 5 * i) 14) : Int) = (m (14 + 5 * i) 14).toInt := by rw [clampI]; omega
  refine ⟨fun q => ?_, fun _ => ⟨fun q => ?_, fun _ => ⟨⟨?_, ?_, ?_, ?_, ?_⟩, ?_⟩⟩⟩
  · exfalso; rw [Int32.lt_iff_toInt_lt, ek] at q; simp only [Int32.reduceToInt] at q; omega
  · exfalso; rw [Int32.le_iff_toInt_le, ek] at q; omega
  · rw [Int32.lt_iff_toInt_lt, nI_toInt (by omega)]; simp only [Int32.reduceToInt]; omega
  · rw [Int32.lt_iff_toInt_lt, nI_toInt (by omega)]; simp only [Int32.reduceToInt]; omega
  · rw [Int32.lt_iff_toInt_lt, es]; simp only [Int32.reduceToInt]; omega
  · rw [c1, c3]; omega
  · rw [c2, c3]; omega
  · rw [c1, c2, c3]
    have ef : va_cpy (m (14 + 5 * i + 3)) (m (14 + 5 * i + 3)) (5 * k + 5) (5 * k) (5 * Int32.toNatClampNeg (m (14 + 5 * i) 14) - (5 * k + 5)) = rmf (m (14 + 5 * i + 3)) k (Int32.toNatClampNeg (m (14 + 5 * i) 14)) := by
      funext x
      unfold va_cpy rmf
      by_cases q : 5 * k ≤ x ∧ x + 5 < 5 * Int32.toNatClampNeg (m (14 + 5 * i) 14)
      · rw [if_pos q, if_pos (by omega), show 5 * k + 5 + (x - 5 * k) = x + 5 by omega]
      · rw [if_neg q, if_neg (by omega)]
    rw [ef, up_cell (k' := 14 + 5 * i) _ _ _ (by omega)]
    exact h
theorem r_277l {kc : it_Kc} {Φ K : it_Me → Prop} {i E : Nat} (i8 : i < 8) {e : Int32} (he : (50 * nI i + 5 * e).toInt = E) (hE : E + 5 ≤ 400) : ∀ (r c : Nat) (N : it_Me), c + r = E → N 110 i = e → K (it_up N 109 (fun y => if c ≤ y ∧ y < E then N 109 (y + 5) else N 109 y)) → w_277_19 kc Φ K (r + 1) (nI i) (nI c) N := by
  intro r
  induction r with
  | zero =>
    intro c N hc hN h
    unfold w_277_19
    rw [cI i8, hN]
    refine ⟨vI i8, fun _ => ?_, fun q => absurd (by rw [Int32.le_iff_toInt_le, he, nI_toInt (by omega)]; omega) q⟩
    have : it_up N 109 (fun y => if c ≤ y ∧ y < E then N 109 (y + 5) else N 109 y) = N := by
      funext a y
      by_cases ha : a = 109
      · subst ha; rw [up_same, if_neg (by omega)]
      · rw [up_cell _ _ _ ha]
    rw [this] at h
    exact h
  | succ r ih =>
    intro c N hc hN h
    unfold w_277_19
    rw [cI i8, hN, show nI c + 5 = nI (c + 5) from nI_add c 5, nI_clamp (n := c) (by omega), nI_clamp (n := c + 5) (by omega), nI_1]
    refine ⟨vI i8, fun q => ?_, fun _ => ⟨by rw [vp_in_iff, nI_toInt (by omega)]; omega, by rw [vp_in_iff, nI_toInt (by omega)]; omega, ih (c + 1) _ (by omega) (by rw [sv_n1 _ _ _ _ _ (by omega)]; exact hN) ?_⟩⟩
    · exfalso; rw [Int32.le_iff_toInt_le, he, nI_toInt (by omega)] at q; omega
    · have : it_up (it_sv N 109 c (N 109 (c + 5))) 109 (fun y => if c + 1 ≤ y ∧ y < E then it_sv N 109 c (N 109 (c + 5)) 109 (y + 5) else it_sv N 109 c (N 109 (c + 5)) 109 y) = it_up N 109 (fun y => if c ≤ y ∧ y < E then N 109 (y + 5) else N 109 y) := by
        funext a y
        by_cases ha : a = 109
        · subst ha
          rw [up_same, up_same]
          by_cases q1 : c + 1 ≤ y ∧ y < E
          · rw [if_pos q1, if_pos (by omega), sv_n2 _ _ _ _ (by omega)]
          · rw [if_neg q1]
            by_cases q2 : y = c
            · subst q2; rw [sv_same, if_pos (by omega)]
            · rw [sv_n2 _ _ _ _ q2, if_neg (by omega)]
        · rw [up_cell _ _ _ ha, up_cell _ _ _ ha, sv_cell _ _ _ _ ha]
      rw [this]
      exact h
theorem r_277 {kc : it_Kc} {i k : Nat} (i8 : i < 8) {M : it_Me} (hk : (k : Int) < (M 110 i).toInt) (hq : (M 110 i).toInt ≤ 10) {Φ : it_Me → Prop} (h : Φ (rmM M i k)) : w_277 kc (nI i) (nI k) M Φ := by
  have e1 : (M 110 i - 1).toInt = (M 110 i).toInt - 1 := by rw [Int32.toInt_sub]; show Int.bmod (_ - 1) (2 ^ 32) = _; rw [bmI' (by omega) (by omega)]
  have e5 : (5 * (M 110 i - 1)).toInt = 5 * ((M 110 i).toInt - 1) := by rw [Int32.toInt_mul, e1]; show Int.bmod (5 * _) (2 ^ 32) = _; rw [bmI' (by omega) (by omega)]
  have e50 : (50 * nI i).toInt = 50 * (i : Int) := by rw [Int32.toInt_mul, nI_toInt (by omega)]; show Int.bmod (50 * _) (2 ^ 32) = _; rw [bmI' (by omega) (by omega)]
  have es : (50 * nI i + 5 * (M 110 i - 1)).toInt = 50 * (i : Int) + 5 * ((M 110 i).toInt - 1) := by rw [add_I] <;> omega
  have cq : (Int32.toNatClampNeg (M 110 i) : Int) = (M 110 i).toInt := by rw [clampI]; omega
  have ec : 50 * nI i + 5 * nI k = nI (50 * i + 5 * k) := by rw [show (50 : Int32) * nI i = nI (50 * i) from nI_mul 50 i, show (5 : Int32) * nI k = nI (5 * k) from nI_mul 5 k, nI_add]
  unfold w_277
  rw [cI i8, ec]
  refine ⟨vI i8, vI i8, _, r_277l i8 (E := 50 * i + 5 * (Int32.toNatClampNeg (M 110 i) - 1)) (e := M 110 i - 1) (by omega) (by omega) (50 * i + 5 * (Int32.toNatClampNeg (M 110 i) - 1) - (50 * i + 5 * k)) (50 * i + 5 * k) _ (by omega) (by rw [sv_same]) ?_⟩
  have : it_up (it_sv M 110 i (M 110 i - 1)) 109 (fun y => if 50 * i + 5 * k ≤ y ∧ y < 50 * i + 5 * (Int32.toNatClampNeg (M 110 i) - 1) then it_sv M 110 i (M 110 i - 1) 109 (y + 5) else it_sv M 110 i (M 110 i - 1) 109 y) = rmM M i k := by
    unfold rmM
    congr 1
    funext y
    unfold rmg
    rw [sv_n1 _ _ _ _ _ (by omega), sv_n1 _ _ _ _ _ (by omega)]
    by_cases q : 50 * i + 5 * k ≤ y ∧ y + 5 < 50 * i + 5 * Int32.toNatClampNeg (M 110 i)
    · rw [if_pos q, if_pos (by omega)]
    · rw [if_neg q, if_neg (by omega)]
  rw [this]
  exact h
/-- the queues of a process written anew -/
theorem Rel.qup {m M : it_Me} (h : Rel m M) (h8 : cnt m ≤ 8) {i : Nat} (hi : i < cnt m) (hq : ∀ j, j < cnt m → (m (14 + 5 * j) 14).toInt ≤ 10) (f g : Nat → Int32) (hfg : ∀ k : Nat, (k : Int) < 5 * (m (14 + 5 * i) 14).toInt → g (50 * i + k) = f k) (ho : ∀ y, y < 50 * i ∨ 50 * i + 50 ≤ y → g y = M 109 y) : Rel (it_up m (14 + 5 * i + 3) f) (it_up M 109 g) :=
  (Rel.upd (h) (h8) ([14 + 5 * i + 3]) ([109]) (by intro k hk; simp only [List.mem_cons, List.not_mem_nil, or_false, not_or, not_false_eq_true] at hk; first | rfl | (repeat (first | rw [sv_cell _ _ _ _ (by omega)] | rw [up_cell _ _ _ (by omega)] | rw [fil_cell _ _ _ _ _ (by omega)]))) (by intro k hk; simp only [List.mem_cons, List.not_mem_nil, or_false, not_or, not_false_eq_true] at hk; first | rfl | (repeat (first | rw [sv_cell _ _ _ _ (by omega)] | rw [up_cell _ _ _ (by omega)] | rw [fil_cell _ _ _ _ _ (by omega)]))) (by first | (refine Or.inl (And.intro ?_ (And.intro ?_ ?_)) <;> first | (simp only [List.mem_cons, List.not_mem_nil, or_false, forall_eq_or_imp, forall_eq, false_implies, implies_true, and_true] <;> omega) | (repeat' (first | exact True.intro | rfl | refine And.intro ?_ ?_ | (rw [sv_ne _ _ _ _ (by omega)]) | (rw [up_cell _ _ _ (by omega)]) | (rw [fil_cell _ _ _ _ _ (by omega)]) | (rw [hM _ (by omega)]) | (rw [hm _ (by omega)])))) | (have t_ := Rel.tapeLen (h); exact Or.inr t_)) (by first | (refine Or.inl (And.intro ?_ (And.intro ?_ ?_)) <;> first | (simp only [List.mem_cons, List.not_mem_nil, or_false, forall_eq_or_imp, forall_eq, false_implies, implies_true, and_true] <;> omega) | (repeat' (first | exact True.intro | rfl | refine And.intro ?_ ?_ | (rw [sv_ne _ _ _ _ (by omega)]) | (rw [up_cell _ _ _ (by omega)]) | (rw [fil_cell _ _ _ _ _ (by omega)]) | (rw [hM _ (by omega)]) | (rw [hm _ (by omega)])))) | (have t_ := Rel.on (h); exact Or.inr t_)) (by first | (refine Or.inl (And.intro ?_ (And.intro ?_ ?_)) <;> first | (simp only [List.mem_cons, List.not_mem_nil, or_false, forall_eq_or_imp, forall_eq, false_implies, implies_true, and_true] <;> omega) | (repeat' (first | exact True.intro | rfl | refine And.intro ?_ ?_ | (rw [sv_ne _ _ _ _ (by omega)]) | (rw [up_cell _ _ _ (by omega)]) | (rw [fil_cell _ _ _ _ _ (by omega)]) | (rw [hM _ (by omega)]) | (rw [hm _ (by omega)])))) | (have t_ := Rel.lost (h); exact Or.inr t_)) (by first | (refine Or.inl (And.intro ?_ (And.intro ?_ ?_)) <;> first | (simp only [List.mem_cons, List.not_mem_nil, or_false, forall_eq_or_imp, forall_eq, false_implies, implies_true, and_true] <;> omega) | (repeat' (first | exact True.intro | rfl | refine And.intro ?_ ?_ | (rw [sv_ne _ _ _ _ (by omega)]) | (rw [up_cell _ _ _ (by omega)]) | (rw [fil_cell _ _ _ _ _ (by omega)]) | (rw [hM _ (by omega)]) | (rw [hm _ (by omega)])))) | (have t_ := Rel.power (h); exact Or.inr t_)) (by first | (refine Or.inl (And.intro ?_ (And.intro ?_ ?_)) <;> first | (simp only [List.mem_cons, List.not_mem_nil, or_false, forall_eq_or_imp, forall_eq, false_implies, implies_true, and_true] <;> omega) | (repeat' (first | exact True.intro | rfl | refine And.intro ?_ ?_ | (rw [sv_ne _ _ _ _ (by omega)]) | (rw [up_cell _ _ _ (by omega)]) | (rw [fil_cell _ _ _ _ _ (by omega)]) | (rw [hM _ (by omega)]) | (rw [hm _ (by omega)])))) | (have t_ := Rel.time (h); exact Or.inr t_)) (by first | (refine Or.inl (And.intro ?_ (And.intro ?_ ?_)) <;> first | (simp only [List.mem_cons, List.not_mem_nil, or_false, forall_eq_or_imp, forall_eq, false_implies, implies_true, and_true] <;> omega) | (repeat' (first | exact True.intro | rfl | refine And.intro ?_ ?_ | (rw [sv_ne _ _ _ _ (by omega)]) | (rw [up_cell _ _ _ (by omega)]) | (rw [fil_cell _ _ _ _ _ (by omega)]) | (rw [hM _ (by omega)]) | (rw [hm _ (by omega)])))) | (have t_ := Rel.z (h); exact Or.inr t_)) (by first | (refine Or.inl (And.intro ?_ (And.intro ?_ ?_)) <;> first | (simp only [List.mem_cons, List.not_mem_nil, or_false, forall_eq_or_imp, forall_eq, false_implies, implies_true, and_true] <;> omega) | (repeat' (first | exact True.intro | rfl | refine And.intro ?_ ?_ | (rw [sv_ne _ _ _ _ (by omega)]) | (rw [up_cell _ _ _ (by omega)]) | (rw [fil_cell _ _ _ _ _ (by omega)]) | (rw [hM _ (by omega)]) | (rw [hm _ (by omega)])))) | (have t_ := Rel.count (h); exact Or.inr t_)) (by first | (refine Or.inl (And.intro ?_ (And.intro ?_ ?_)) <;> first | (simp only [List.mem_cons, List.not_mem_nil, or_false, forall_eq_or_imp, forall_eq, false_implies, implies_true, and_true] <;> omega) | (repeat' (first | exact True.intro | rfl | refine And.intro ?_ ?_ | (rw [sv_ne _ _ _ _ (by omega)]) | (rw [up_cell _ _ _ (by omega)]) | (rw [fil_cell _ _ _ _ _ (by omega)]) | (rw [hM _ (by omega)]) | (rw [hm _ (by omega)])))) | (have t_ := Rel.turn (h); exact Or.inr t_)) (by first | (refine Or.inl (And.intro ?_ (And.intro ?_ ?_)) <;> first | (simp only [List.mem_cons, List.not_mem_nil, or_false, forall_eq_or_imp, forall_eq, false_implies, implies_true, and_true] <;> omega) | (repeat' (first | exact True.intro | rfl | refine And.intro ?_ ?_ | (rw [sv_ne _ _ _ _ (by omega)]) | (rw [up_cell _ _ _ (by omega)]) | (rw [fil_cell _ _ _ _ _ (by omega)]) | (rw [hM _ (by omega)]) | (rw [hm _ (by omega)])))) | (have t_ := Rel.bank (h); exact Or.inr t_)) (by first | (refine Or.inl (And.intro ?_ (And.intro ?_ ?_)) <;> first | (simp only [List.mem_cons, List.not_mem_nil, or_false, forall_eq_or_imp, forall_eq, false_implies, implies_true, and_true] <;> omega) | (repeat' (first | exact True.intro | rfl | refine And.intro ?_ ?_ | (rw [sv_ne _ _ _ _ (by omega)]) | (rw [up_cell _ _ _ (by omega)]) | (rw [fil_cell _ _ _ _ _ (by omega)]) | (rw [hM _ (by omega)]) | (rw [hm _ (by omega)])))) | (have t_ := Rel.tape (h); exact Or.inr t_)) (by first | (refine Or.inl (And.intro ?_ (And.intro ?_ ?_)) <;> first | (simp only [List.mem_cons, List.not_mem_nil, or_false, forall_eq_or_imp, forall_eq, false_implies, implies_true, and_true] <;> omega) | (repeat' (first | exact True.intro | rfl | refine And.intro ?_ ?_ | (rw [sv_ne _ _ _ _ (by omega)]) | (rw [up_cell _ _ _ (by omega)]) | (rw [fil_cell _ _ _ _ _ (by omega)]) | (rw [hM _ (by omega)]) | (rw [hm _ (by omega)])))) | (have t_ := Rel.counts (h); exact Or.inr t_)) (by first | (refine Or.inl (And.intro ?_ (And.intro ?_ ?_)) <;> first | (simp only [List.mem_cons, List.not_mem_nil, or_false, forall_eq_or_imp, forall_eq, false_implies, implies_true, and_true] <;> omega) | (repeat' (first | exact True.intro | rfl | refine And.intro ?_ ?_ | (rw [sv_ne _ _ _ _ (by omega)]) | (rw [up_cell _ _ _ (by omega)]) | (rw [fil_cell _ _ _ _ _ (by omega)]) | (rw [hM _ (by omega)]) | (rw [hm _ (by omega)])))) | (have t_ := Rel.events (h); exact Or.inr t_)) (by first | (refine Or.inl (And.intro ?_ (And.intro ?_ ?_)) <;> first | (simp only [List.mem_cons, List.not_mem_nil, or_false, forall_eq_or_imp, forall_eq, false_implies, implies_true, and_true] <;> omega) | (repeat' (first | exact True.intro | rfl | refine And.intro ?_ ?_ | (rw [sv_ne _ _ _ _ (by omega)]) | (rw [up_cell _ _ _ (by omega)]) | (rw [fil_cell _ _ _ _ _ (by omega)]) | (rw [hM _ (by omega)]) | (rw [hm _ (by omega)])))) | (have t_ := Rel.out (h); exact Or.inr t_)) (by first | (refine Or.inl (And.intro ?_ (And.intro ?_ ?_)) <;> first | (simp only [List.mem_cons, List.not_mem_nil, or_false, forall_eq_or_imp, forall_eq, false_implies, implies_true, and_true] <;> omega) | (repeat' (first | exact True.intro | rfl | refine And.intro ?_ ?_ | (rw [sv_ne _ _ _ _ (by omega)]) | (rw [up_cell _ _ _ (by omega)]) | (rw [fil_cell _ _ _ _ _ (by omega)]) | (rw [hM _ (by omega)]) | (rw [hm _ (by omega)])))) | (have t_ := Rel.lamps (h); exact Or.inr t_)) (by first | (refine Or.inl (And.intro ?_ (And.intro ?_ ?_)) <;> first | (simp only [List.mem_cons, List.not_mem_nil, or_false, forall_eq_or_imp, forall_eq, false_implies, implies_true, and_true] <;> omega) | (repeat' (first | exact True.intro | rfl | refine And.intro ?_ ?_ | (rw [sv_ne _ _ _ _ (by omega)]) | (rw [up_cell _ _ _ (by omega)]) | (rw [fil_cell _ _ _ _ _ (by omega)]) | (rw [hM _ (by omega)]) | (rw [hm _ (by omega)])))) | (have t_ := Rel.buttons (h); exact Or.inr t_)) (by first | (refine Or.inl (And.intro ?_ (And.intro ?_ ?_)) <;> first | (simp only [List.mem_cons, List.not_mem_nil, or_false, forall_eq_or_imp, forall_eq, false_implies, implies_true, and_true] <;> omega) | (repeat' (first | exact True.intro | rfl | refine And.intro ?_ ?_ | (rw [sv_ne _ _ _ _ (by omega)]) | (rw [up_cell _ _ _ (by omega)]) | (rw [fil_cell _ _ _ _ _ (by omega)]) | (rw [hM _ (by omega)]) | (rw [hm _ (by omega)])))) | (have t_ := Rel.lev (h); exact Or.inr t_)) (by first | (refine Or.inl (And.intro ?_ (And.intro ?_ ?_)) <;> first | (simp only [List.mem_cons, List.not_mem_nil, or_false, forall_eq_or_imp, forall_eq, false_implies, implies_true, and_true] <;> omega) | (repeat' (first | exact True.intro | rfl | refine And.intro ?_ ?_ | (rw [sv_ne _ _ _ _ (by omega)]) | (rw [up_cell _ _ _ (by omega)]) | (rw [fil_cell _ _ _ _ _ (by omega)]) | (rw [hM _ (by omega)]) | (rw [hm _ (by omega)])))) | (have t_ := Rel.mem (h); exact Or.inr t_)) (by first | (refine Or.inl (And.intro ?_ (And.intro ?_ ?_)) <;> first | (simp only [List.mem_cons, List.not_mem_nil, or_false, forall_eq_or_imp, forall_eq, false_implies, implies_true, and_true] <;> omega) | (repeat' (first | exact True.intro | rfl | refine And.intro ?_ ?_ | (rw [sv_ne _ _ _ _ (by omega)]) | (rw [up_cell _ _ _ (by omega)]) | (rw [fil_cell _ _ _ _ _ (by omega)]) | (rw [hM _ (by omega)]) | (rw [hm _ (by omega)])))) | (have t_ := Rel.sched (h); exact Or.inr t_)) (by first | (refine Or.inl (And.intro ?_ (And.intro ?_ ?_)) <;> first | (simp only [List.mem_cons, List.not_mem_nil, or_false, forall_eq_or_imp, forall_eq, false_implies, implies_true, and_true] <;> omega) | (repeat' (first | exact True.intro | rfl | refine And.intro ?_ ?_ | (rw [sv_ne _ _ _ _ (by omega)]) | (rw [up_cell _ _ _ (by omega)]) | (rw [fil_cell _ _ _ _ _ (by omega)]) | (rw [hM _ (by omega)]) | (rw [hm _ (by omega)])))) | (have t_ := Rel.done (h); exact Or.inr t_)) (by first | (refine Or.inl (And.intro ?_ (And.intro ?_ ?_)) <;> first | (simp only [List.mem_cons, List.not_mem_nil, or_false, forall_eq_or_imp, forall_eq, false_implies, implies_true, and_true] <;> omega) | (repeat' (first | exact True.intro | rfl | refine And.intro ?_ ?_ | (rw [sv_ne _ _ _ _ (by omega)]) | (rw [up_cell _ _ _ (by omega)]) | (rw [fil_cell _ _ _ _ _ (by omega)]) | (rw [hM _ (by omega)]) | (rw [hm _ (by omega)])))) | (have t_ := Rel.levels (h); exact Or.inr t_)) (by first | (refine Or.inl (And.intro ?_ (And.intro ?_ ?_)) <;> first | (simp only [List.mem_cons, List.not_mem_nil, or_false, forall_eq_or_imp, forall_eq, false_implies, implies_true, and_true] <;> omega) | (repeat' (first | exact True.intro | rfl | refine And.intro ?_ ?_ | (rw [sv_ne _ _ _ _ (by omega)]) | (rw [up_cell _ _ _ (by omega)]) | (rw [fil_cell _ _ _ _ _ (by omega)]) | (rw [hM _ (by omega)]) | (rw [hm _ (by omega)])))) | (have t_ := Rel.places (h); exact Or.inr t_)) (by first | (refine Or.inl (And.intro ?_ (And.intro ?_ ?_)) <;> first | (simp only [List.mem_cons, List.not_mem_nil, or_false, forall_eq_or_imp, forall_eq, false_implies, implies_true, and_true] <;> omega) | (repeat' (first | exact True.intro | rfl | refine And.intro ?_ ?_ | (rw [sv_ne _ _ _ _ (by omega)]) | (rw [up_cell _ _ _ (by omega)]) | (rw [fil_cell _ _ _ _ _ (by omega)]) | (rw [hM _ (by omega)]) | (rw [hm _ (by omega)])))) | (have t_ := Rel.asked (h); exact Or.inr t_)) (by first | (refine Or.inl (And.intro ?_ (And.intro ?_ ?_)) <;> first | (simp only [List.mem_cons, List.not_mem_nil, or_false, forall_eq_or_imp, forall_eq, false_implies, implies_true, and_true] <;> omega) | (repeat' (first | exact True.intro | rfl | refine And.intro ?_ ?_ | (rw [sv_ne _ _ _ _ (by omega)]) | (rw [up_cell _ _ _ (by omega)]) | (rw [fil_cell _ _ _ _ _ (by omega)]) | (rw [hM _ (by omega)]) | (rw [hm _ (by omega)])))) | (have t_ := Rel.worder (h); exact Or.inr t_)) (by first | (refine Or.inl (And.intro ?_ (And.intro ?_ ?_)) <;> first | (simp only [List.mem_cons, List.not_mem_nil, or_false, forall_eq_or_imp, forall_eq, false_implies, implies_true, and_true] <;> omega) | (repeat' (first | exact True.intro | rfl | refine And.intro ?_ ?_ | (rw [sv_ne _ _ _ _ (by omega)]) | (rw [up_cell _ _ _ (by omega)]) | (rw [fil_cell _ _ _ _ _ (by omega)]) | (rw [hM _ (by omega)]) | (rw [hm _ (by omega)])))) | (have t_ := Rel.rorder (h); exact Or.inr t_)) (by first | (refine Or.inl (And.intro ?_ (And.intro ?_ ?_)) <;> first | (simp only [List.mem_cons, List.not_mem_nil, or_false, forall_eq_or_imp, forall_eq, false_implies, implies_true, and_true] <;> omega) | (repeat' (first | exact True.intro | rfl | refine And.intro ?_ ?_ | (rw [sv_ne _ _ _ _ (by omega)]) | (rw [up_cell _ _ _ (by omega)]) | (rw [fil_cell _ _ _ _ _ (by omega)]) | (rw [hM _ (by omega)]) | (rw [hm _ (by omega)])))) | (have t_ := Rel.ps (h); exact Or.inr t_)) (by first | (refine Or.inl (And.intro ?_ (And.intro ?_ ?_)) <;> first | (simp only [List.mem_cons, List.not_mem_nil, or_false, forall_eq_or_imp, forall_eq, false_implies, implies_true, and_true] <;> omega) | (repeat' (first | exact True.intro | rfl | refine And.intro ?_ ?_ | (rw [sv_ne _ _ _ _ (by omega)]) | (rw [up_cell _ _ _ (by omega)]) | (rw [fil_cell _ _ _ _ _ (by omega)]) | (rw [hM _ (by omega)]) | (rw [hm _ (by omega)])))) | (have t_ := Rel.app (h); exact Or.inr t_)) (by first | (refine Or.inl (And.intro ?_ (And.intro ?_ ?_)) <;> first | (simp only [List.mem_cons, List.not_mem_nil, or_false, forall_eq_or_imp, forall_eq, false_implies, implies_true, and_true] <;> omega) | (repeat' (first | exact True.intro | rfl | refine And.intro ?_ ?_ | (rw [sv_ne _ _ _ _ (by omega)]) | (rw [up_cell _ _ _ (by omega)]) | (rw [fil_cell _ _ _ _ _ (by omega)]) | (rw [hM _ (by omega)]) | (rw [hm _ (by omega)])))) | (have t_ := Rel.name (h); exact Or.inr t_)) (by first | (refine Or.inl (And.intro ?_ (And.intro ?_ ?_)) <;> first | (simp only [List.mem_cons, List.not_mem_nil, or_false, forall_eq_or_imp, forall_eq, false_implies, implies_true, and_true] <;> omega) | (repeat' (first | exact True.intro | rfl | refine And.intro ?_ ?_ | (rw [sv_ne _ _ _ _ (by omega)]) | (rw [up_cell _ _ _ (by omega)]) | (rw [fil_cell _ _ _ _ _ (by omega)]) | (rw [hM _ (by omega)]) | (rw [hm _ (by omega)])))) | (have t_ := Rel.number (h); exact Or.inr t_)) (by first | (refine Or.inl (And.intro ?_ (And.intro ?_ ?_)) <;> first | (simp only [List.mem_cons, List.not_mem_nil, or_false, forall_eq_or_imp, forall_eq, false_implies, implies_true, and_true] <;> omega) | (repeat' (first | exact True.intro | rfl | refine And.intro ?_ ?_ | (rw [sv_ne _ _ _ _ (by omega)]) | (rw [up_cell _ _ _ (by omega)]) | (rw [fil_cell _ _ _ _ _ (by omega)]) | (rw [hM _ (by omega)]) | (rw [hm _ (by omega)])))) | (have t_ := Rel.bits (h); exact Or.inr t_)) (by first | (refine Or.inl (And.intro ?_ (And.intro ?_ ?_)) <;> first | (simp only [List.mem_cons, List.not_mem_nil, or_false, forall_eq_or_imp, forall_eq, false_implies, implies_true, and_true] <;> omega) | (repeat' (first | exact True.intro | rfl | refine And.intro ?_ ?_ | (rw [sv_ne _ _ _ _ (by omega)]) | (rw [up_cell _ _ _ (by omega)]) | (rw [fil_cell _ _ _ _ _ (by omega)]) | (rw [hM _ (by omega)]) | (rw [hm _ (by omega)])))) | (have t_ := Rel.regs (h); exact Or.inr t_)) (by first | (refine Or.inl (And.intro ?_ (And.intro ?_ ?_)) <;> first | (simp only [List.mem_cons, List.not_mem_nil, or_false, forall_eq_or_imp, forall_eq, false_implies, implies_true, and_true] <;> omega) | (repeat' (first | exact True.intro | rfl | refine And.intro ?_ ?_ | (rw [sv_ne _ _ _ _ (by omega)]) | (rw [up_cell _ _ _ (by omega)]) | (rw [fil_cell _ _ _ _ _ (by omega)]) | (rw [hM _ (by omega)]) | (rw [hm _ (by omega)])))) | (have t_ := Rel.rsv (h); exact Or.inr t_)) (Or.inr (by
    intro j hj k hk
    rw [cnt_cg (m := m) (by rw [up_cell _ _ _ (by omega)])] at hj
    rw [up_cell (k' := 14 + 5 * j) _ _ _ (by omega)] at hk
    have := hq j hj
    rw [up_same]
    by_cases e : j = i
    · subst e
      rw [up_same]
      exact hfg k hk
    · rw [up_cell _ _ _ (by omega), ho _ (by omega)]
      exact h.queue j hj k hk)) (by first | (refine Or.inl (And.intro ?_ (And.intro ?_ ?_)) <;> first | (simp only [List.mem_cons, List.not_mem_nil, or_false, forall_eq_or_imp, forall_eq, false_implies, implies_true, and_true] <;> omega) | (repeat' (first | exact True.intro | rfl | refine And.intro ?_ ?_ | (rw [sv_ne _ _ _ _ (by omega)]) | (rw [up_cell _ _ _ (by omega)]) | (rw [fil_cell _ _ _ _ _ (by omega)]) | (rw [hM _ (by omega)]) | (rw [hm _ (by omega)])))) | (have t_ := Rel.ctlw (h); exact Or.inr t_)) (by first | (refine Or.inl (And.intro ?_ (And.intro ?_ ?_)) <;> first | (simp only [List.mem_cons, List.not_mem_nil, or_false, forall_eq_or_imp, forall_eq, false_implies, implies_true, and_true] <;> omega) | (repeat' (first | exact True.intro | rfl | refine And.intro ?_ ?_ | (rw [sv_ne _ _ _ _ (by omega)]) | (rw [up_cell _ _ _ (by omega)]) | (rw [fil_cell _ _ _ _ _ (by omega)]) | (rw [hM _ (by omega)]) | (rw [hm _ (by omega)])))) | (have t_ := Rel.wt (h); exact Or.inr t_)))
theorem rm_R {B : Nat} {m M : it_Me} (hI : Inv B m) (h : Rel m M) {i k : Nat} (hi : i < cnt m) (hk : (k : Int) < (m (14 + 5 * i) 14).toInt) : Rel (rmC m i k) (rmM M i k) := by
  have h8 := cnt_le hI
  have hq := fun j hj => (hI.p (i := j) hj).qn
  have h1 := hq i hi
  have cq : (Int32.toNatClampNeg (m (14 + 5 * i) 14) : Int) = (m (14 + 5 * i) 14).toInt := by rw [clampI]; omega
  have e1 : (m (14 + 5 * i) 14 - 1).toInt = (m (14 + 5 * i) 14).toInt - 1 := by rw [Int32.toInt_sub]; show Int.bmod (_ - 1) (2 ^ 32) = _; rw [bmI' (by omega) (by omega)]
  have key : ∀ x : Nat, (x : Int) < 5 * (m (14 + 5 * i) 14).toInt → rmg (M 109) i k (Int32.toNatClampNeg (m (14 + 5 * i) 14)) (50 * i + x) = rmf (m (14 + 5 * i + 3)) k (Int32.toNatClampNeg (m (14 + 5 * i) 14)) x := fun x hx => by
    unfold rmg rmf
    by_cases q : 5 * k ≤ x ∧ x + 5 < 5 * Int32.toNatClampNeg (m (14 + 5 * i) 14)
    · rw [if_pos q, if_pos (by omega), Nat.add_assoc]
      exact h.queue i hi (x + 5) (by omega)
    · rw [if_neg q, if_neg (by omega)]
      exact h.queue i hi x hx
  have R1 := h.qup h8 hi (fun j hj => (hq j hj).2) (rmf (m (14 + 5 * i + 3)) k (Int32.toNatClampNeg (m (14 + 5 * i) 14))) (rmg (M 109) i k (Int32.toNatClampNeg (m (14 + 5 * i) 14))) key (fun y hy => by
    unfold rmg
    rw [if_neg (by omega)])
  have k1 : cnt (it_up m (14 + 5 * i + 3) (rmf (m (14 + 5 * i + 3)) k (Int32.toNatClampNeg (m (14 + 5 * i) 14)))) = cnt m := cnt_cg (by rw [up_cell _ _ _ (by omega)])
  have R2 := R1.ps1 (i := i) (a := 110) (c := 14) (by rw [k1]; exact h8) (by rw [k1]; exact hi) (by decide) (by omega) (by omega) (m (14 + 5 * i) 14 - 1) (fun q => absurd q (by omega)) (fun _ x hx => by
    rw [up_same, up_same]
    exact key x (by omega))
  unfold rmC rmM
  rw [h.queued hi, ← up_sv _ _ _ _ _ _ (by omega)]
  exact R2
theorem rm_I {B : Nat} {m : it_Me} (hI : Inv B m) {i k : Nat} (hi : i < cnt m) (hk : (k : Int) < (m (14 + 5 * i) 14).toInt) : Inv B (rmC m i k) := by
  have hP := hI.p hi
  have h1 := hP.qn
  have cq : (Int32.toNatClampNeg (m (14 + 5 * i) 14) : Int) = (m (14 + 5 * i) 14).toInt := by rw [clampI]; omega
  have e1 : (m (14 + 5 * i) 14 - 1).toInt = (m (14 + 5 * i) 14).toInt - 1 := by rw [Int32.toInt_sub]; show Int.bmod (_ - 1) (2 ^ 32) = _; rw [bmI' (by omega) (by omega)]
  have f : ∀ j, j ≠ 14 → rmC m i k (14 + 5 * i) j = m (14 + 5 * i) j := fun j hj => by unfold rmC; rw [sv_n2 _ _ _ _ hj, up_cell _ _ _ (by omega)]
  have f14 : rmC m i k (14 + 5 * i) 14 = m (14 + 5 * i) 14 - 1 := by unfold rmC; rw [sv_same]
  have fm : ∀ x, x ≠ 14 + 5 * i → x ≠ 14 + 5 * i + 2 → x ≠ 14 + 5 * i + 3 → rmC m i k x = m x := fun x q1 q2 q3 => by unfold rmC; rw [sv_cell _ _ _ _ q1, up_cell _ _ _ q3]
  have fq : ∀ x, rmC m i k (14 + 5 * i + 3) x = rmf (m (14 + 5 * i + 3)) k (Int32.toNatClampNeg (m (14 + 5 * i) 14)) x := fun x => by unfold rmC; rw [sv_n1 _ _ _ _ _ (by omega), up_same]
  refine hI.prc hi fm (f _ (by omega)) (f _ (by omega)) (f _ (by omega)) (fun _ => hP.prc fm (f _ (by omega)) (f _ (by omega)) (f _ (by omega)) (f _ (by omega)) (f _ (by omega)) ?_ ?_ ?_ ?_ ?_ (by rw [f _ (by omega)]; exact hP.pce) (by unfold rmC; rw [sv_n1 _ _ _ _ _ (by omega), up_cell _ _ _ (by omega)]; exact hP.r0))
  · rw [f _ (by omega)]; exact hP.st
  · rw [f _ (by omega)]; exact hP.he
  · rw [f14]; omega
  · intro x hx
    rw [f14, e1] at hx
    rw [fq, fq]
    unfold rmf
    by_cases q : k ≤ x
    · rw [if_pos (by omega), if_pos (by omega), show 5 * x + 5 = 5 * (x + 1) by omega, show 5 * x + 1 + 5 = 5 * (x + 1) + 1 by omega]
      exact hP.q (x + 1) (by omega)
    · rw [if_neg (by omega), if_neg (by omega)]
      exact hP.q x (by omega)
  · rw [f _ (by omega), f14]
    intro q
    have := (hP.ovr q).1
    rw [this] at hk
    simp only [Int32.reduceToInt] at hk
    omega
theorem rm_c (m : it_Me) (i k : Nat) {x : Nat} (h : x ≠ 14 + 5 * i ∧ x ≠ 14 + 5 * i + 3) : rmC m i k x = m x := by unfold rmC; rw [sv_cell _ _ _ _ h.1, up_cell _ _ _ h.2]
theorem rm_P (m : it_Me) (i k : Nat) {j : Nat} (h : j ≠ 14) : rmC m i k (14 + 5 * i) j = m (14 + 5 * i) j := by unfold rmC; rw [sv_n2 _ _ _ _ h, up_cell _ _ _ (by omega)]
theorem rm_K (m : it_Me) {i k : Nat} (i8 : i < 8) : Kp m (rmC m i k) ∧ FrC m (rmC m i k) := ⟨Kp.of (fun x hx => rm_c _ _ _ (by omega)) (by rw [rm_c _ _ _ (by omega)]), fun x hx => rm_c _ _ _ (by omega)⟩
theorem rmM_c (M : it_Me) (i k : Nat) {x : Nat} (h : x ≠ 109 ∧ x ≠ 110) : rmM M i k x = M x := by unfold rmM; rw [up_cell _ _ _ h.1, sv_cell _ _ _ _ h.2]
theorem cnt_rm {m : it_Me} {i k : Nat} : cnt (rmC m i k) = cnt m := cnt_cg (by rw [rm_c _ _ _ (by omega)])
theorem gv_rm (m : it_Me) (i k : Nat) (x a b c : Int32) : gvC (rmC m i k) i x a b c = rmC (gvC m i x a b c) i k := by
  unfold rmC
  rw [gvC_sv _ _ _ _ _ _ _ (by omega) (by omega) (by omega), gvC_up, gvC_c (k := 14 + 5 * i + 3) _ _ _ _ _ _ (by omega), gvC_P _ _ _ _ _ _ (by omega)]
/-- giveWaiting -/
theorem c_81 {kc : it_Kc} (hk : KC kc) {B : Nat} {m : it_Me} (hI : Inv B m) {i k : Nat} (hi : i < cnt m) (hq : (k : Int) < (m (14 + 5 * i) 14).toInt) {Φ : it_Me → Prop} (h : Φ (rmC (gvC m i (16 * m (14 + 5 * i + 3) (5 * k) + m (14 + 5 * i + 3) (5 * k + 1)) (m (14 + 5 * i + 3) (5 * k + 2)) (m (14 + 5 * i + 3) (5 * k + 3)) (m (14 + 5 * i + 3) (5 * k + 4))) i k)) : w_81 kc (14 + 5 * i) (nI k) m Φ := by
  have hP := hI.p hi
  have qn := hP.qn
  have ek : (nI k).toInt = k := nI_toInt (by omega)
  have e5 : nI k * 5 = nI (5 * k) := by rw [show nI k * 5 = nI (k * 5) from nI_mul k 5, Nat.mul_comm]
  have vj : ∀ j, j < 5 → vp_in (nI (5 * k + j)) 50 := fun j hj => by rw [vp_in_iff, nI_toInt (by omega)]; omega
  unfold w_81 w_81_60
  rw [e5, show nI (5 * k) + 1 = nI (5 * k + 1) from nI_add _ 1, show nI (5 * k) + 2 = nI (5 * k + 2) from nI_add _ 2, show nI (5 * k) + 3 = nI (5 * k + 3) from nI_add _ 3, show nI (5 * k) + 4 = nI (5 * k + 4) from nI_add _ 4]
  rw [nI_clamp (n := 5 * k) (by omega), nI_clamp (n := 5 * k + 1) (by omega), nI_clamp (n := 5 * k + 2) (by omega), nI_clamp (n := 5 * k + 3) (by omega), nI_clamp (n := 5 * k + 4) (by omega)]
  refine ⟨fun q => ?_, fun _ => ⟨fun q => ?_, fun _ => ⟨vj 0 (by omega), vj 1 (by omega), vj 2 (by omega), vj 3 (by omega), vj 4 (by omega), c_83 hk hI hi (c_143 ?_ ?_ h)⟩⟩⟩
  · exfalso; rw [Int32.lt_iff_toInt_lt, ek] at q; simp only [Int32.reduceToInt] at q; omega
  · exfalso; rw [Int32.le_iff_toInt_le, ek] at q; omega
  · rw [gvC_P _ _ _ _ _ _ (by omega)]; exact hq
  · rw [gvC_P _ _ _ _ _ _ (by omega)]; exact qn.2
