/-! hold, off, burn; writes to memory. -/
theorem up_up (m : it_Me) (k i : Nat) (v : Int32) : it_sv m k i v = it_up m k (fun j => if j = i then v else m k j) := by
  rw [it_sv]; congr 1
/-- one word of memory is written, and its four bytes -/
theorem Rel.wr {m M M' : it_Me} (h : Rel m M) (hc : cnt m ≤ 8) {w : Nat} (v : Int32) (hM : ∀ k, k ≠ 67 → M' k = M k) (hb : ∀ j, j < 4 → M' 67 (65536 + 4 * w + j) = sb8 v j) (ho : ∀ w' j, w' ≠ w → j < 4 → M' 67 (65536 + 4 * w' + j) = M 67 (65536 + 4 * w' + j))
  (hW : ∀ i, i < cnt m → undW (it_sv m 2 w v) i → M 111 i = m 62 i + 1) (hR : ∀ i, i < cnt m → undR (it_sv m 2 w v) i → M 112 i = m 63 i + 1)
  (hC : ∀ i, i < cnt m → M 102 i = gw (it_sv m 2 w v) (ctl m i + 24) ∧ M 103 i = gw (it_sv m 2 w v) (ctl m i + 28) ∧ M 104 i = gw (it_sv m 2 w v) (ctl m i + 32) ∧ M 105 i = gw (it_sv m 2 w v) (ctl m i + 40)) : Rel (it_sv m 2 w v) M' := by
  have hp : ∀ i b, i < cnt m → b < 5 → it_sv m 2 w v (14 + 5 * i + b) = m (14 + 5 * i + b) := fun i b hi hb => sv_cell _ _ _ _ (by omega)
  have hct : ∀ i, i < cnt m → ctl (it_sv m 2 w v) i = ctl m i := fun i hi => ctl_cg (hp i 0 hi (by omega))
  have q9 : it_sv m 2 w v 9 = m 9 := sv_cell _ _ _ _ (by omega)
  have hcn : cnt (it_sv m 2 w v) = cnt m := cnt_cg (by rw [q9])
  have hex : ∀ w', excl (it_sv m 2 w v) w' ↔ excl m w' := excl_cg (by rw [q9]) (fun i hi => hp i 0 hi (by omega))
  have f111 : M' 111 = M 111 := hM _ (by omega)
  have f112 : M' 112 = M 112 := hM _ (by omega)
  have f102 : M' 102 = M 102 := hM _ (by omega)
  have f103 : M' 103 = M 103 := hM _ (by omega)
  have f104 : M' 104 = M 104 := hM _ (by omega)
  have f105 : M' 105 = M 105 := hM _ (by omega)
  have q62 : it_sv m 2 w v 62 = m 62 := sv_cell _ _ _ _ (by omega)
  have q63 : it_sv m 2 w v 63 = m 63 := sv_cell _ _ _ _ (by omega)
  exact (Rel.upd (h) (hc) ([2]) ([67]) (fun k hk => sv_cell _ _ _ _ (by simpa using hk)) (fun k hk => hM k (by simpa using hk)) (by first | (refine Or.inl (And.intro ?_ (And.intro ?_ ?_)) <;> first | (simp only [List.mem_cons, List.not_mem_nil, or_false, forall_eq_or_imp, forall_eq, false_implies, implies_true, and_true] <;> omega) | (repeat' (first | exact True.intro | rfl | refine And.intro ?_ ?_ | (rw [sv_ne _ _ _ _ (by omega)]) | (rw [up_cell _ _ _ (by omega)]) | (rw [fil_cell _ _ _ _ _ (by omega)]) | (rw [hM _ (by omega)]) | (rw [hm _ (by omega)])))) | (have t_ := Rel.tapeLen (h); exact Or.inr t_)) (by first | (refine Or.inl (And.intro ?_ (And.intro ?_ ?_)) <;> first | (simp only [List.mem_cons, List.not_mem_nil, or_false, forall_eq_or_imp, forall_eq, false_implies, implies_true, and_true] <;> omega) | (repeat' (first | exact True.intro | rfl | refine And.intro ?_ ?_ | (rw [sv_ne _ _ _ _ (by omega)]) | (rw [up_cell _ _ _ (by omega)]) | (rw [fil_cell _ _ _ _ _ (by omega)]) | (rw [hM _ (by omega)]) | (rw [hm _ (by omega)])))) | (have t_ := Rel.on (h); exact Or.inr t_)) (by first | (refine Or.inl (And.intro ?_ (And.intro ?_ ?_)) <;> first | (simp only [List.mem_cons, List.not_mem_nil, or_false, forall_eq_or_imp, forall_eq, false_implies, implies_true, and_true] <;> omega) | (repeat' (first | exact True.intro | rfl | refine And.intro ?_ ?_ | (rw [sv_ne _ _ _ _ (by omega)]) | (rw [up_cell _ _ _ (by omega)]) | (rw [fil_cell _ _ _ _ _ (by omega)]) | (rw [hM _ (by omega)]) | (rw [hm _ (by omega)])))) | (have t_ := Rel.lost (h); exact Or.inr t_)) (by first | (refine Or.inl (And.intro ?_ (And.intro ?_ ?_)) <;> first | (simp only [List.mem_cons, List.not_mem_nil, or_false, forall_eq_or_imp, forall_eq, false_implies, implies_true, and_true] <;> omega) | (repeat' (first | exact True.intro | rfl | refine And.intro ?_ ?_ | (rw [sv_ne _ _ _ _ (by omega)]) | (rw [up_cell _ _ _ (by omega)]) | (rw [fil_cell _ _ _ _ _ (by omega)]) | (rw [hM _ (by omega)]) | (rw [hm _ (by omega)])))) | (have t_ := Rel.power (h); exact Or.inr t_)) (by first | (refine Or.inl (And.intro ?_ (And.intro ?_ ?_)) <;> first | (simp only [List.mem_cons, List.not_mem_nil, or_false, forall_eq_or_imp, forall_eq, false_implies, implies_true, and_true] <;> omega) | (repeat' (first | exact True.intro | rfl | refine And.intro ?_ ?_ | (rw [sv_ne _ _ _ _ (by omega)]) | (rw [up_cell _ _ _ (by omega)]) | (rw [fil_cell _ _ _ _ _ (by omega)]) | (rw [hM _ (by omega)]) | (rw [hm _ (by omega)])))) | (have t_ := Rel.time (h); exact Or.inr t_)) (by first | (refine Or.inl (And.intro ?_ (And.intro ?_ ?_)) <;> first | (simp only [List.mem_cons, List.not_mem_nil, or_false, forall_eq_or_imp, forall_eq, false_implies, implies_true, and_true] <;> omega) | (repeat' (first | exact True.intro | rfl | refine And.intro ?_ ?_ | (rw [sv_ne _ _ _ _ (by omega)]) | (rw [up_cell _ _ _ (by omega)]) | (rw [fil_cell _ _ _ _ _ (by omega)]) | (rw [hM _ (by omega)]) | (rw [hm _ (by omega)])))) | (have t_ := Rel.z (h); exact Or.inr t_)) (by first | (refine Or.inl (And.intro ?_ (And.intro ?_ ?_)) <;> first | (simp only [List.mem_cons, List.not_mem_nil, or_false, forall_eq_or_imp, forall_eq, false_implies, implies_true, and_true] <;> omega) | (repeat' (first | exact True.intro | rfl | refine And.intro ?_ ?_ | (rw [sv_ne _ _ _ _ (by omega)]) | (rw [up_cell _ _ _ (by omega)]) | (rw [fil_cell _ _ _ _ _ (by omega)]) | (rw [hM _ (by omega)]) | (rw [hm _ (by omega)])))) | (have t_ := Rel.count (h); exact Or.inr t_)) (by first | (refine Or.inl (And.intro ?_ (And.intro ?_ ?_)) <;> first | (simp only [List.mem_cons, List.not_mem_nil, or_false, forall_eq_or_imp, forall_eq, false_implies, implies_true, and_true] <;> omega) | (repeat' (first | exact True.intro | rfl | refine And.intro ?_ ?_ | (rw [sv_ne _ _ _ _ (by omega)]) | (rw [up_cell _ _ _ (by omega)]) | (rw [fil_cell _ _ _ _ _ (by omega)]) | (rw [hM _ (by omega)]) | (rw [hm _ (by omega)])))) | (have t_ := Rel.turn (h); exact Or.inr t_)) (by first | (refine Or.inl (And.intro ?_ (And.intro ?_ ?_)) <;> first | (simp only [List.mem_cons, List.not_mem_nil, or_false, forall_eq_or_imp, forall_eq, false_implies, implies_true, and_true] <;> omega) | (repeat' (first | exact True.intro | rfl | refine And.intro ?_ ?_ | (rw [sv_ne _ _ _ _ (by omega)]) | (rw [up_cell _ _ _ (by omega)]) | (rw [fil_cell _ _ _ _ _ (by omega)]) | (rw [hM _ (by omega)]) | (rw [hm _ (by omega)])))) | (have t_ := Rel.bank (h); exact Or.inr t_)) (by first | (refine Or.inl (And.intro ?_ (And.intro ?_ ?_)) <;> first | (simp only [List.mem_cons, List.not_mem_nil, or_false, forall_eq_or_imp, forall_eq, false_implies, implies_true, and_true] <;> omega) | (repeat' (first | exact True.intro | rfl | refine And.intro ?_ ?_ | (rw [sv_ne _ _ _ _ (by omega)]) | (rw [up_cell _ _ _ (by omega)]) | (rw [fil_cell _ _ _ _ _ (by omega)]) | (rw [hM _ (by omega)]) | (rw [hm _ (by omega)])))) | (have t_ := Rel.tape (h); exact Or.inr t_)) (by first | (refine Or.inl (And.intro ?_ (And.intro ?_ ?_)) <;> first | (simp only [List.mem_cons, List.not_mem_nil, or_false, forall_eq_or_imp, forall_eq, false_implies, implies_true, and_true] <;> omega) | (repeat' (first | exact True.intro | rfl | refine And.intro ?_ ?_ | (rw [sv_ne _ _ _ _ (by omega)]) | (rw [up_cell _ _ _ (by omega)]) | (rw [fil_cell _ _ _ _ _ (by omega)]) | (rw [hM _ (by omega)]) | (rw [hm _ (by omega)])))) | (have t_ := Rel.counts (h); exact Or.inr t_)) (by first | (refine Or.inl (And.intro ?_ (And.intro ?_ ?_)) <;> first | (simp only [List.mem_cons, List.not_mem_nil, or_false, forall_eq_or_imp, forall_eq, false_implies, implies_true, and_true] <;> omega) | (repeat' (first | exact True.intro | rfl | refine And.intro ?_ ?_ | (rw [sv_ne _ _ _ _ (by omega)]) | (rw [up_cell _ _ _ (by omega)]) | (rw [fil_cell _ _ _ _ _ (by omega)]) | (rw [hM _ (by omega)]) | (rw [hm _ (by omega)])))) | (have t_ := Rel.events (h); exact Or.inr t_)) (by first | (refine Or.inl (And.intro ?_ (And.intro ?_ ?_)) <;> first | (simp only [List.mem_cons, List.not_mem_nil, or_false, forall_eq_or_imp, forall_eq, false_implies, implies_true, and_true] <;> omega) | (repeat' (first | exact True.intro | rfl | refine And.intro ?_ ?_ | (rw [sv_ne _ _ _ _ (by omega)]) | (rw [up_cell _ _ _ (by omega)]) | (rw [fil_cell _ _ _ _ _ (by omega)]) | (rw [hM _ (by omega)]) | (rw [hm _ (by omega)])))) | (have t_ := Rel.out (h); exact Or.inr t_)) (by first | (refine Or.inl (And.intro ?_ (And.intro ?_ ?_)) <;> first | (simp only [List.mem_cons, List.not_mem_nil, or_false, forall_eq_or_imp, forall_eq, false_implies, implies_true, and_true] <;> omega) | (repeat' (first | exact True.intro | rfl | refine And.intro ?_ ?_ | (rw [sv_ne _ _ _ _ (by omega)]) | (rw [up_cell _ _ _ (by omega)]) | (rw [fil_cell _ _ _ _ _ (by omega)]) | (rw [hM _ (by omega)]) | (rw [hm _ (by omega)])))) | (have t_ := Rel.lamps (h); exact Or.inr t_)) (by first | (refine Or.inl (And.intro ?_ (And.intro ?_ ?_)) <;> first | (simp only [List.mem_cons, List.not_mem_nil, or_false, forall_eq_or_imp, forall_eq, false_implies, implies_true, and_true] <;> omega) | (repeat' (first | exact True.intro | rfl | refine And.intro ?_ ?_ | (rw [sv_ne _ _ _ _ (by omega)]) | (rw [up_cell _ _ _ (by omega)]) | (rw [fil_cell _ _ _ _ _ (by omega)]) | (rw [hM _ (by omega)]) | (rw [hm _ (by omega)])))) | (have t_ := Rel.buttons (h); exact Or.inr t_)) (by first | (refine Or.inl (And.intro ?_ (And.intro ?_ ?_)) <;> first | (simp only [List.mem_cons, List.not_mem_nil, or_false, forall_eq_or_imp, forall_eq, false_implies, implies_true, and_true] <;> omega) | (repeat' (first | exact True.intro | rfl | refine And.intro ?_ ?_ | (rw [sv_ne _ _ _ _ (by omega)]) | (rw [up_cell _ _ _ (by omega)]) | (rw [fil_cell _ _ _ _ _ (by omega)]) | (rw [hM _ (by omega)]) | (rw [hm _ (by omega)])))) | (have t_ := Rel.lev (h); exact Or.inr t_)) (Or.inr (by
    intro w' hw' hx j hj
    by_cases e : w' = w
    · subst e; rw [hb j hj, sv_same]
    · rw [ho w' j e hj, sv_ne _ _ _ _ (Or.inr e)]; exact h.mem w' hw' (fun hh => hx ((hex w').mpr hh)) j hj)) (by first | (refine Or.inl (And.intro ?_ (And.intro ?_ ?_)) <;> first | (simp only [List.mem_cons, List.not_mem_nil, or_false, forall_eq_or_imp, forall_eq, false_implies, implies_true, and_true] <;> omega) | (repeat' (first | exact True.intro | rfl | refine And.intro ?_ ?_ | (rw [sv_ne _ _ _ _ (by omega)]) | (rw [up_cell _ _ _ (by omega)]) | (rw [fil_cell _ _ _ _ _ (by omega)]) | (rw [hM _ (by omega)]) | (rw [hm _ (by omega)])))) | (have t_ := Rel.sched (h); exact Or.inr t_)) (by first | (refine Or.inl (And.intro ?_ (And.intro ?_ ?_)) <;> first | (simp only [List.mem_cons, List.not_mem_nil, or_false, forall_eq_or_imp, forall_eq, false_implies, implies_true, and_true] <;> omega) | (repeat' (first | exact True.intro | rfl | refine And.intro ?_ ?_ | (rw [sv_ne _ _ _ _ (by omega)]) | (rw [up_cell _ _ _ (by omega)]) | (rw [fil_cell _ _ _ _ _ (by omega)]) | (rw [hM _ (by omega)]) | (rw [hm _ (by omega)])))) | (have t_ := Rel.done (h); exact Or.inr t_)) (by first | (refine Or.inl (And.intro ?_ (And.intro ?_ ?_)) <;> first | (simp only [List.mem_cons, List.not_mem_nil, or_false, forall_eq_or_imp, forall_eq, false_implies, implies_true, and_true] <;> omega) | (repeat' (first | exact True.intro | rfl | refine And.intro ?_ ?_ | (rw [sv_ne _ _ _ _ (by omega)]) | (rw [up_cell _ _ _ (by omega)]) | (rw [fil_cell _ _ _ _ _ (by omega)]) | (rw [hM _ (by omega)]) | (rw [hm _ (by omega)])))) | (have t_ := Rel.levels (h); exact Or.inr t_)) (by first | (refine Or.inl (And.intro ?_ (And.intro ?_ ?_)) <;> first | (simp only [List.mem_cons, List.not_mem_nil, or_false, forall_eq_or_imp, forall_eq, false_implies, implies_true, and_true] <;> omega) | (repeat' (first | exact True.intro | rfl | refine And.intro ?_ ?_ | (rw [sv_ne _ _ _ _ (by omega)]) | (rw [up_cell _ _ _ (by omega)]) | (rw [fil_cell _ _ _ _ _ (by omega)]) | (rw [hM _ (by omega)]) | (rw [hm _ (by omega)])))) | (have t_ := Rel.places (h); exact Or.inr t_)) (by first | (refine Or.inl (And.intro ?_ (And.intro ?_ ?_)) <;> first | (simp only [List.mem_cons, List.not_mem_nil, or_false, forall_eq_or_imp, forall_eq, false_implies, implies_true, and_true] <;> omega) | (repeat' (first | exact True.intro | rfl | refine And.intro ?_ ?_ | (rw [sv_ne _ _ _ _ (by omega)]) | (rw [up_cell _ _ _ (by omega)]) | (rw [fil_cell _ _ _ _ _ (by omega)]) | (rw [hM _ (by omega)]) | (rw [hm _ (by omega)])))) | (have t_ := Rel.asked (h); exact Or.inr t_)) (Or.inr (by
    intro i hi hu; rw [hcn] at hi; rw [f111, q62]; exact hW i hi hu)) (Or.inr (by
    intro i hi hu; rw [hcn] at hi; rw [f112, q63]; exact hR i hi hu)) (by first | (refine Or.inl (And.intro ?_ (And.intro ?_ ?_)) <;> first | (simp only [List.mem_cons, List.not_mem_nil, or_false, forall_eq_or_imp, forall_eq, false_implies, implies_true, and_true] <;> omega) | (repeat' (first | exact True.intro | rfl | refine And.intro ?_ ?_ | (rw [sv_ne _ _ _ _ (by omega)]) | (rw [up_cell _ _ _ (by omega)]) | (rw [fil_cell _ _ _ _ _ (by omega)]) | (rw [hM _ (by omega)]) | (rw [hm _ (by omega)])))) | (have t_ := Rel.ps (h); exact Or.inr t_)) (by first | (refine Or.inl (And.intro ?_ (And.intro ?_ ?_)) <;> first | (simp only [List.mem_cons, List.not_mem_nil, or_false, forall_eq_or_imp, forall_eq, false_implies, implies_true, and_true] <;> omega) | (repeat' (first | exact True.intro | rfl | refine And.intro ?_ ?_ | (rw [sv_ne _ _ _ _ (by omega)]) | (rw [up_cell _ _ _ (by omega)]) | (rw [fil_cell _ _ _ _ _ (by omega)]) | (rw [hM _ (by omega)]) | (rw [hm _ (by omega)])))) | (have t_ := Rel.app (h); exact Or.inr t_)) (by first | (refine Or.inl (And.intro ?_ (And.intro ?_ ?_)) <;> first | (simp only [List.mem_cons, List.not_mem_nil, or_false, forall_eq_or_imp, forall_eq, false_implies, implies_true, and_true] <;> omega) | (repeat' (first | exact True.intro | rfl | refine And.intro ?_ ?_ | (rw [sv_ne _ _ _ _ (by omega)]) | (rw [up_cell _ _ _ (by omega)]) | (rw [fil_cell _ _ _ _ _ (by omega)]) | (rw [hM _ (by omega)]) | (rw [hm _ (by omega)])))) | (have t_ := Rel.name (h); exact Or.inr t_)) (by first | (refine Or.inl (And.intro ?_ (And.intro ?_ ?_)) <;> first | (simp only [List.mem_cons, List.not_mem_nil, or_false, forall_eq_or_imp, forall_eq, false_implies, implies_true, and_true] <;> omega) | (repeat' (first | exact True.intro | rfl | refine And.intro ?_ ?_ | (rw [sv_ne _ _ _ _ (by omega)]) | (rw [up_cell _ _ _ (by omega)]) | (rw [fil_cell _ _ _ _ _ (by omega)]) | (rw [hM _ (by omega)]) | (rw [hm _ (by omega)])))) | (have t_ := Rel.number (h); exact Or.inr t_)) (by first | (refine Or.inl (And.intro ?_ (And.intro ?_ ?_)) <;> first | (simp only [List.mem_cons, List.not_mem_nil, or_false, forall_eq_or_imp, forall_eq, false_implies, implies_true, and_true] <;> omega) | (repeat' (first | exact True.intro | rfl | refine And.intro ?_ ?_ | (rw [sv_ne _ _ _ _ (by omega)]) | (rw [up_cell _ _ _ (by omega)]) | (rw [fil_cell _ _ _ _ _ (by omega)]) | (rw [hM _ (by omega)]) | (rw [hm _ (by omega)])))) | (have t_ := Rel.bits (h); exact Or.inr t_)) (by first | (refine Or.inl (And.intro ?_ (And.intro ?_ ?_)) <;> first | (simp only [List.mem_cons, List.not_mem_nil, or_false, forall_eq_or_imp, forall_eq, false_implies, implies_true, and_true] <;> omega) | (repeat' (first | exact True.intro | rfl | refine And.intro ?_ ?_ | (rw [sv_ne _ _ _ _ (by omega)]) | (rw [up_cell _ _ _ (by omega)]) | (rw [fil_cell _ _ _ _ _ (by omega)]) | (rw [hM _ (by omega)]) | (rw [hm _ (by omega)])))) | (have t_ := Rel.regs (h); exact Or.inr t_)) (by first | (refine Or.inl (And.intro ?_ (And.intro ?_ ?_)) <;> first | (simp only [List.mem_cons, List.not_mem_nil, or_false, forall_eq_or_imp, forall_eq, false_implies, implies_true, and_true] <;> omega) | (repeat' (first | exact True.intro | rfl | refine And.intro ?_ ?_ | (rw [sv_ne _ _ _ _ (by omega)]) | (rw [up_cell _ _ _ (by omega)]) | (rw [fil_cell _ _ _ _ _ (by omega)]) | (rw [hM _ (by omega)]) | (rw [hm _ (by omega)])))) | (have t_ := Rel.rsv (h); exact Or.inr t_)) (by first | (refine Or.inl (And.intro ?_ (And.intro ?_ ?_)) <;> first | (simp only [List.mem_cons, List.not_mem_nil, or_false, forall_eq_or_imp, forall_eq, false_implies, implies_true, and_true] <;> omega) | (repeat' (first | exact True.intro | rfl | refine And.intro ?_ ?_ | (rw [sv_ne _ _ _ _ (by omega)]) | (rw [up_cell _ _ _ (by omega)]) | (rw [fil_cell _ _ _ _ _ (by omega)]) | (rw [hM _ (by omega)]) | (rw [hm _ (by omega)])))) | (have t_ := Rel.queue (h); exact Or.inr t_)) (Or.inr (by
    intro i hi; rw [hcn] at hi; rw [hct i hi, f102, f103, f104, f105]; exact hC i hi)))
/-- the same, where nobody reads that word for itself -/
theorem Rel.wr0 {m M M' : it_Me} (h : Rel m M) (hc : cnt m ≤ 8) {w : Nat} (v : Int32) (hM : ∀ k, k ≠ 67 → M' k = M k) (hb : ∀ j, j < 4 → M' 67 (65536 + 4 * w + j) = sb8 v j) (ho : ∀ w' j, w' ≠ w → j < 4 → M' 67 (65536 + 4 * w' + j) = M 67 (65536 + 4 * w' + j))
  (hg : ∀ i, i < cnt m → gw (it_sv m 2 w v) (m (14 + 5 * i + 4) 1 + 64) = gw m (m (14 + 5 * i + 4) 1 + 64) ∧ gw (it_sv m 2 w v) (m (14 + 5 * i + 4) 1 + 72) = gw m (m (14 + 5 * i + 4) 1 + 72) ∧ ∀ k, k < 5 → gw (it_sv m 2 w v) (ctl m i + nI (24 + 4 * k)) = gw m (ctl m i + nI (24 + 4 * k))) : Rel (it_sv m 2 w v) M' := by
  have hp : ∀ i b, i < cnt m → b < 5 → it_sv m 2 w v (14 + 5 * i + b) = m (14 + 5 * i + b) := fun i b hi hb => sv_cell _ _ _ _ (by omega)
  refine h.wr hc v hM hb ho (fun i hi hu => ?_) (fun i hi hu => ?_) (fun i hi => ?_)
  · refine h.worder i hi ?_
    unfold undW at hu ⊢
    rw [hp i 4 hi (by omega), (hg i hi).1] at hu
    exact hu
  · refine h.rorder i hi ?_
    unfold undR at hu ⊢
    rw [hp i 4 hi (by omega), (hg i hi).2.1] at hu
    exact hu
  · have g0 : gw (it_sv m 2 w v) (ctl m i + 24) = gw m (ctl m i + 24) := (hg i hi).2.2 0 (by omega)
    have g1 : gw (it_sv m 2 w v) (ctl m i + 28) = gw m (ctl m i + 28) := (hg i hi).2.2 1 (by omega)
    have g2 : gw (it_sv m 2 w v) (ctl m i + 32) = gw m (ctl m i + 32) := (hg i hi).2.2 2 (by omega)
    have g4 : gw (it_sv m 2 w v) (ctl m i + 40) = gw m (ctl m i + 40) := (hg i hi).2.2 4 (by omega)
    rw [g0, g1, g2, g4]
    exact h.ctlw i hi
/-- the byte of the reference at an address -/
theorem ad_eq {a : Int32} (h : InM a) : Int32.toNatClampNeg a = 65536 + 4 * wi a + bj a := by
  have h1 := wi_eq h
  have h2 := bj_eq a
  have h3 := h.1
  have h4 := h.2
  rw [clampI]
  omega
theorem Rel.pb {m M : it_Me} (h : Rel m M) (hc : cnt m ≤ 8) {a v : Int32} (ha : InM a) (hx : ¬ excl m (wi a))
  (hg : ∀ i, i < cnt m → ∀ b : Int32, (b = m (14 + 5 * i + 4) 1 + 64 ∨ b = m (14 + 5 * i + 4) 1 + 72 ∨ ∃ k, k < 5 ∧ b = ctl m i + nI (24 + 4 * k)) → InM b → wi b ≠ wi a) : Rel (pb m a v) (it_sv M 67 (Int32.toNatClampNeg a) (it_i2b v)) := by
  rw [pb_in ha]
  have gn : ∀ b x, (InM b → wi b ≠ wi a) → gw (it_sv m 2 (wi a) x) b = gw m b := fun b x hb => by
    unfold gw
    split
    · rfl
    · split
      · rename_i h1 h2
        rw [sv_ne _ _ _ _ (Or.inr (hb ⟨by ((try simp only [Int32.lt_iff_toInt_lt, Int32.le_iff_toInt_le, ← Int32.toInt_inj, Int32.reduceToInt, clampI, vp_in_iff, ne_eq, not_and, not_or, Int32.not_lt, Int32.not_le] at *) <;> (try simp (disch := omega) only [Int32.toInt_add, Int32.toInt_sub, Int32.toInt_mul, Int32.toInt_neg, Int32.reduceToInt, bmI, bmI', and1, and3, and7, and31, and127, and255, and65535, shr2] at *) <;> (try simp only [bm32, bm32'] at *) <;> omega), by ((try simp only [Int32.lt_iff_toInt_lt, Int32.le_iff_toInt_le, ← Int32.toInt_inj, Int32.reduceToInt, clampI, vp_in_iff, ne_eq, not_and, not_or, Int32.not_lt, Int32.not_le] at *) <;> (try simp (disch := omega) only [Int32.toInt_add, Int32.toInt_sub, Int32.toInt_mul, Int32.toInt_neg, Int32.reduceToInt, bmI, bmI', and1, and3, and7, and31, and127, and255, and65535, shr2] at *) <;> (try simp only [bm32, bm32'] at *) <;> omega)⟩))]
      · rfl
  refine h.wr0 hc _ (fun k hk => sv_cell _ _ _ _ hk) (fun j hj => ?_) (fun w' j hw hj => ?_) (fun i hi => ⟨gn _ _ (hg i hi _ (Or.inl rfl)), gn _ _ (hg i hi _ (Or.inr (Or.inl rfl))), fun k hk => gn _ _ (hg i hi _ (Or.inr (Or.inr ⟨k, hk, rfl⟩)))⟩)
  · rw [sb_pB _ _ (bj_lt a) hj, ad_eq ha]
    have := bj_lt a
    by_cases e : j = bj a
    · subst e; rw [sv_same, if_pos rfl]
    · rw [sv_ne _ _ _ _ (Or.inr (by omega)), if_neg e]
      exact h.mem _ (wi_lt ha) hx j hj
  · rw [ad_eq ha, sv_ne _ _ _ _ (Or.inr (by have := bj_lt a; omega))]
theorem excl0 {m : it_Me} (h : m 9 7 = 0) (w : Nat) : ¬ excl m w := by
  rintro ⟨i, hi, _⟩
  unfold cnt at hi
  rw [h] at hi
  exact absurd hi (Nat.not_lt_zero _)
set_option maxHeartbeats 4000000 in
theorem a_hold {kc : it_Kc} {B : Nat} {m : it_Me} (hI : Inv B m) (hl : m 7 4 = 0) (n v : Int32) (hv : v = 0 ∨ v = 1) : Lk (w_197 kc n v) (w_345 kc n v) B m := by
  by_cases ho : m 0 10 = 0
  · refine Lk.ro hI hl (-3) (fun Φ hp => ?_) (fun M hM Φ hp => ?_)
    · unfold w_197
      exact ⟨fun _ => hp, fun h => absurd ho h⟩
    · unfold w_345
      rw [hM.on]
      exact ⟨fun _ => hp, fun h => absurd ho h⟩
  rcases pr_cases hI n with hn | ⟨i, hi, hx⟩
  · refine Lk.ro hI hl (-1) (fun Φ hp => ?_) (fun M hM Φ hp => ?_)
    · unfold w_197
      exact ⟨fun h => absurd h ho, fun _ => c_72n hn (cm_none hp)⟩
    · unfold w_345
      rw [hM.on]
      exact ⟨fun h => absurd h ho, fun _ => r_341n hM hn ⟨fun _ => hp, fun h => absurd rfl h⟩⟩
  have h8 := cnt_le hI
  have ec : Int32.toNatClampNeg n = i := by ((try simp only [Int32.lt_iff_toInt_lt, Int32.le_iff_toInt_le, ← Int32.toInt_inj, Int32.reduceToInt, clampI, vp_in_iff, ne_eq, not_and, not_or, Int32.not_lt, Int32.not_le] at *) <;> (try simp (disch := omega) only [Int32.toInt_add, Int32.toInt_sub, Int32.toInt_mul, Int32.toInt_neg, Int32.reduceToInt, bmI, bmI', and1, and3, and7, and31, and127, and255, and65535, shr2] at *) <;> (try simp only [bm32, bm32'] at *) <;> omega)
  have v8 : vp_in n 8 := by clear ec; ((try simp only [Int32.lt_iff_toInt_lt, Int32.le_iff_toInt_le, ← Int32.toInt_inj, Int32.reduceToInt, clampI, vp_in_iff, ne_eq, not_and, not_or, Int32.not_lt, Int32.not_le] at *) <;> (try simp (disch := omega) only [Int32.toInt_add, Int32.toInt_sub, Int32.toInt_mul, Int32.toInt_neg, Int32.reduceToInt, bmI, bmI', and1, and3, and7, and31, and127, and255, and65535, shr2] at *) <;> (try simp only [bm32, bm32'] at *) <;> omega)
  have hv1 : v &&& 1 = v := by rcases hv with rfl | rfl <;> rfl
  have hself : ∀ M : it_Me, it_sv M 96 i (M 96 i) = M := fun M => by
    funext k j
    rw [sv_rd]
    split
    · rename_i h; rw [h.1, h.2]
    · rfl
  by_cases he : m (14 + 5 * i) 10 = v
  · refine Lk.ro hI hl 0 (fun Φ hp => ?_) (fun M hM Φ hp => ?_)
    · unfold w_197
      exact ⟨fun h => absurd h ho, fun _ => c_72s hI hi hx (cm_some ⟨fun _ => hp, fun h => absurd he h⟩)⟩
    · unfold w_345 w_345_44
      rw [hM.on]
      refine ⟨fun h => absurd h ho, fun _ => r_341s hI hM hi hx ⟨fun h => absurd h (by decide), fun _ => ⟨v8, v8, ?_⟩⟩⟩
      rw [ec, hv1, hM.held hi]
      refine ⟨fun _ => ?_, fun h => absurd he h⟩
      rw [← he, ← hM.held hi, hself]
      exact hp
  · have hmP : ∀ j b c, j < 8 → (j ≠ i ∨ b ≠ 0 ∨ c ≠ 10) → it_sv m (14 + 5 * i) 10 v (14 + 5 * j + b) c = m (14 + 5 * j + b) c := fun j b c hj h => by
      rw [sv_rd]
      split
      · rename_i hh
        exfalso
        omega
      · rfl
    refine ⟨1, it_sv m (14 + 5 * i) 10 v, fun Φ hp => ?_, ?_, FrC.rfl.sv (by omega), by rw [sv_cell _ _ _ _ (by omega)]; exact hl, fun M hM Φ hp => ?_⟩
    · unfold w_197
      exact ⟨fun h => absurd h ho, fun _ => c_72s hI hi hx (cm_some ⟨fun h => absurd h he, fun _ => ⟨hv, hp⟩⟩)⟩
    · sorry
    · have hp2 := hp (it_sv M 96 i v) (by sorry) (FrM.rfl.sv (by omega))
      unfold w_345 w_345_44
      rw [hM.on]
      refine ⟨fun h => absurd h ho, fun _ => r_341s hI hM hi hx ⟨fun h => absurd h (by decide), fun _ => ⟨v8, v8, ?_⟩⟩⟩
      rw [ec, hv1, hM.held hi]
      exact ⟨fun h => absurd h he, fun _ => hp2⟩
