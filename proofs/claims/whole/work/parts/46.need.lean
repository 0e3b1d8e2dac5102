/-! A grant is made. -/
theorem sub_I {a b : Int32} (h1 : -2147483648 ≤ a.toInt - b.toInt) (h2 : a.toInt - b.toInt < 2147483648) : (a - b).toInt = a.toInt - b.toInt := by rw [Int32.toInt_sub, bmI' h1 h2]
/-- a field that the reference hasn't -/
theorem Rel.pf0 {m M : it_Me} (h : Rel m M) (hc : cnt m ≤ 8) {i c : Nat} (hi : i < cnt m) (hcc : c = 18) (v : Int32) : Rel (it_sv m (14 + 5 * i) c v) M := by
  have hcn : cnt (it_sv m (14 + 5 * i) c v) = cnt m := cnt_sv _ _ _ (by omega)
  have hct : ∀ j, ctl (it_sv m (14 + 5 * i) c v) j = ctl m j := fun j => ctl_sv2 _ _ (by omega) (by omega)
  have hex := fun w => excl_ctl (m' := it_sv m (14 + 5 * i) c v) (m := m) (sv_n1 _ _ _ _ _ (by omega)) (fun j _ => hct j) w
  have hgw : ∀ x, gw (it_sv m (14 + 5 * i) c v) x = gw m x := fun x => gw_sv _ _ _ _ (by omega)
  exact (Rel.upd (h) (hc) ([14 + 5 * i]) ([]) (fun k hk => sv_cell _ _ _ _ (by simpa using hk)) (fun _ _ => rfl) (by first | (refine Or.inl (And.intro ?_ (And.intro ?_ ?_)) <;> first | (simp only [List.mem_cons, List.not_mem_nil, or_false, forall_eq_or_imp, forall_eq, false_implies, implies_true, and_true] <;> omega) | (repeat' (first | exact True.intro | rfl | refine And.intro ?_ ?_ | (rw [sv_ne _ _ _ _ (by omega)]) | (rw [up_cell _ _ _ (by omega)]) | (rw [fil_cell _ _ _ _ _ (by omega)]) | (rw [hM _ (by omega)]) | (rw [hm _ (by omega)])))) | (have t_ := Rel.tapeLen (h); exact Or.inr t_)) (by first | (refine Or.inl (And.intro ?_ (And.intro ?_ ?_)) <;> first | (simp only [List.mem_cons, List.not_mem_nil, or_false, forall_eq_or_imp, forall_eq, false_implies, implies_true, and_true] <;> omega) | (repeat' (first | exact True.intro | rfl | refine And.intro ?_ ?_ | (rw [sv_ne _ _ _ _ (by omega)]) | (rw [up_cell _ _ _ (by omega)]) | (rw [fil_cell _ _ _ _ _ (by omega)]) | (rw [hM _ (by omega)]) | (rw [hm _ (by omega)])))) | (have t_ := Rel.on (h); exact Or.inr t_)) (by first | (refine Or.inl (And.intro ?_ (And.intro ?_ ?_)) <;> first | (simp only [List.mem_cons, List.not_mem_nil, or_false, forall_eq_or_imp, forall_eq, false_implies, implies_true, and_true] <;> omega) | (repeat' (first | exact True.intro | rfl | refine And.intro ?_ ?_ | (rw [sv_ne _ _ _ _ (by omega)]) | (rw [up_cell _ _ _ (by omega)]) | (rw [fil_cell _ _ _ _ _ (by omega)]) | (rw [hM _ (by omega)]) | (rw [hm _ (by omega)])))) | (have t_ := Rel.lost (h); exact Or.inr t_)) (by first | (refine Or.inl (And.intro ?_ (And.intro ?_ ?_)) <;> first | (simp only [List.mem_cons, List.not_mem_nil, or_false, forall_eq_or_imp, forall_eq, false_implies, implies_true, and_true] <;> omega) | (repeat' (first | exact True.intro | rfl | refine And.intro ?_ ?_ | (rw [sv_ne _ _ _ _ (by omega)]) | (rw [up_cell _ _ _ (by omega)]) | (rw [fil_cell _ _ _ _ _ (by omega)]) | (rw [hM _ (by omega)]) | (rw [hm _ (by omega)])))) | (have t_ := Rel.power (h); exact Or.inr t_)) (by first | (refine Or.inl (And.intro ?_ (And.intro ?_ ?_)) <;> first | (simp only [List.mem_cons, List.not_mem_nil, or_false, forall_eq_or_imp, forall_eq, false_implies, implies_true, and_true] <;> omega) | (repeat' (first | exact True.intro | rfl | refine And.intro ?_ ?_ | (rw [sv_ne _ _ _ _ (by omega)]) | (rw [up_cell _ _ _ (by omega)]) | (rw [fil_cell _ _ _ _ _ (by omega)]) | (rw [hM _ (by omega)]) | (rw [hm _ (by omega)])))) | (have t_ := Rel.time (h); exact Or.inr t_)) (by first | (refine Or.inl (And.intro ?_ (And.intro ?_ ?_)) <;> first | (simp only [List.mem_cons, List.not_mem_nil, or_false, forall_eq_or_imp, forall_eq, false_implies, implies_true, and_true] <;> omega) | (repeat' (first | exact True.intro | rfl | refine And.intro ?_ ?_ | (rw [sv_ne _ _ _ _ (by omega)]) | (rw [up_cell _ _ _ (by omega)]) | (rw [fil_cell _ _ _ _ _ (by omega)]) | (rw [hM _ (by omega)]) | (rw [hm _ (by omega)])))) | (have t_ := Rel.z (h); exact Or.inr t_)) (by first | (refine Or.inl (And.intro ?_ (And.intro ?_ ?_)) <;> first | (simp only [List.mem_cons, List.not_mem_nil, or_false, forall_eq_or_imp, forall_eq, false_implies, implies_true, and_true] <;> omega) | (repeat' (first | exact True.intro | rfl | refine And.intro ?_ ?_ | (rw [sv_ne _ _ _ _ (by omega)]) | (rw [up_cell _ _ _ (by omega)]) | (rw [fil_cell _ _ _ _ _ (by omega)]) | (rw [hM _ (by omega)]) | (rw [hm _ (by omega)])))) | (have t_ := Rel.count (h); exact Or.inr t_)) (by first | (refine Or.inl (And.intro ?_ (And.intro ?_ ?_)) <;> first | (simp only [List.mem_cons, List.not_mem_nil, or_false, forall_eq_or_imp, forall_eq, false_implies, implies_true, and_true] <;> omega) | (repeat' (first | exact True.intro | rfl | refine And.intro ?_ ?_ | (rw [sv_ne _ _ _ _ (by omega)]) | (rw [up_cell _ _ _ (by omega)]) | (rw [fil_cell _ _ _ _ _ (by omega)]) | (rw [hM _ (by omega)]) | (rw [hm _ (by omega)])))) | (have t_ := Rel.turn (h); exact Or.inr t_)) (by first | (refine Or.inl (And.intro ?_ (And.intro ?_ ?_)) <;> first | (simp only [List.mem_cons, List.not_mem_nil, or_false, forall_eq_or_imp, forall_eq, false_implies, implies_true, and_true] <;> omega) | (repeat' (first | exact True.intro | rfl | refine And.intro ?_ ?_ | (rw [sv_ne _ _ _ _ (by omega)]) | (rw [up_cell _ _ _ (by omega)]) | (rw [fil_cell _ _ _ _ _ (by omega)]) | (rw [hM _ (by omega)]) | (rw [hm _ (by omega)])))) | (have t_ := Rel.bank (h); exact Or.inr t_)) (by first | (refine Or.inl (And.intro ?_ (And.intro ?_ ?_)) <;> first | (simp only [List.mem_cons, List.not_mem_nil, or_false, forall_eq_or_imp, forall_eq, false_implies, implies_true, and_true] <;> omega) | (repeat' (first | exact True.intro | rfl | refine And.intro ?_ ?_ | (rw [sv_ne _ _ _ _ (by omega)]) | (rw [up_cell _ _ _ (by omega)]) | (rw [fil_cell _ _ _ _ _ (by omega)]) | (rw [hM _ (by omega)]) | (rw [hm _ (by omega)])))) | (have t_ := Rel.tape (h); exact Or.inr t_)) (by first | (refine Or.inl (And.intro ?_ (And.intro ?_ ?_)) <;> first | (simp only [List.mem_cons, List.not_mem_nil, or_false, forall_eq_or_imp, forall_eq, false_implies, implies_true, and_true] <;> omega) | (repeat' (first | exact True.intro | rfl | refine And.intro ?_ ?_ | (rw [sv_ne _ _ _ _ (by omega)]) | (rw [up_cell _ _ _ (by omega)]) | (rw [fil_cell _ _ _ _ _ (by omega)]) | (rw [hM _ (by omega)]) | (rw [hm _ (by omega)])))) | (have t_ := Rel.counts (h); exact Or.inr t_)) (by first | (refine Or.inl (And.intro ?_ (And.intro ?_ ?_)) <;> first | (simp only [List.mem_cons, List.not_mem_nil, or_false, forall_eq_or_imp, forall_eq, false_implies, implies_true, and_true] <;> omega) | (repeat' (first | exact True.intro | rfl | refine And.intro ?_ ?_ | (rw [sv_ne _ _ _ _ (by omega)]) | (rw [up_cell _ _ _ (by omega)]) | (rw [fil_cell _ _ _ _ _ (by omega)]) | (rw [hM _ (by omega)]) | (rw [hm _ (by omega)])))) | (have t_ := Rel.events (h); exact Or.inr t_)) (by first | (refine Or.inl (And.intro ?_ (And.intro ?_ ?_)) <;> first | (simp only [List.mem_cons, List.not_mem_nil, or_false, forall_eq_or_imp, forall_eq, false_implies, implies_true, and_true] <;> omega) | (repeat' (first | exact True.intro | rfl | refine And.intro ?_ ?_ | (rw [sv_ne _ _ _ _ (by omega)]) | (rw [up_cell _ _ _ (by omega)]) | (rw [fil_cell _ _ _ _ _ (by omega)]) | (rw [hM _ (by omega)]) | (rw [hm _ (by omega)])))) | (have t_ := Rel.out (h); exact Or.inr t_)) (by first | (refine Or.inl (And.intro ?_ (And.intro ?_ ?_)) <;> first | (simp only [List.mem_cons, List.not_mem_nil, or_false, forall_eq_or_imp, forall_eq, false_implies, implies_true, and_true] <;> omega) | (repeat' (first | exact True.intro | rfl | refine And.intro ?_ ?_ | (rw [sv_ne _ _ _ _ (by omega)]) | (rw [up_cell _ _ _ (by omega)]) | (rw [fil_cell _ _ _ _ _ (by omega)]) | (rw [hM _ (by omega)]) | (rw [hm _ (by omega)])))) | (have t_ := Rel.lamps (h); exact Or.inr t_)) (by first | (refine Or.inl (And.intro ?_ (And.intro ?_ ?_)) <;> first | (simp only [List.mem_cons, List.not_mem_nil, or_false, forall_eq_or_imp, forall_eq, false_implies, implies_true, and_true] <;> omega) | (repeat' (first | exact True.intro | rfl | refine And.intro ?_ ?_ | (rw [sv_ne _ _ _ _ (by omega)]) | (rw [up_cell _ _ _ (by omega)]) | (rw [fil_cell _ _ _ _ _ (by omega)]) | (rw [hM _ (by omega)]) | (rw [hm _ (by omega)])))) | (have t_ := Rel.buttons (h); exact Or.inr t_)) (by first | (refine Or.inl (And.intro ?_ (And.intro ?_ ?_)) <;> first | (simp only [List.mem_cons, List.not_mem_nil, or_false, forall_eq_or_imp, forall_eq, false_implies, implies_true, and_true] <;> omega) | (repeat' (first | exact True.intro | rfl | refine And.intro ?_ ?_ | (rw [sv_ne _ _ _ _ (by omega)]) | (rw [up_cell _ _ _ (by omega)]) | (rw [fil_cell _ _ _ _ _ (by omega)]) | (rw [hM _ (by omega)]) | (rw [hm _ (by omega)])))) | (have t_ := Rel.lev (h); exact Or.inr t_)) (Or.inr (by
    intro w hw hx j hj
    rw [sv_cell _ _ _ _ (by omega)]
    exact h.mem w hw (fun q => hx ((hex w).mpr q)) j hj)) (by first | (refine Or.inl (And.intro ?_ (And.intro ?_ ?_)) <;> first | (simp only [List.mem_cons, List.not_mem_nil, or_false, forall_eq_or_imp, forall_eq, false_implies, implies_true, and_true] <;> omega) | (repeat' (first | exact True.intro | rfl | refine And.intro ?_ ?_ | (rw [sv_ne _ _ _ _ (by omega)]) | (rw [up_cell _ _ _ (by omega)]) | (rw [fil_cell _ _ _ _ _ (by omega)]) | (rw [hM _ (by omega)]) | (rw [hm _ (by omega)])))) | (have t_ := Rel.sched (h); exact Or.inr t_)) (by first | (refine Or.inl (And.intro ?_ (And.intro ?_ ?_)) <;> first | (simp only [List.mem_cons, List.not_mem_nil, or_false, forall_eq_or_imp, forall_eq, false_implies, implies_true, and_true] <;> omega) | (repeat' (first | exact True.intro | rfl | refine And.intro ?_ ?_ | (rw [sv_ne _ _ _ _ (by omega)]) | (rw [up_cell _ _ _ (by omega)]) | (rw [fil_cell _ _ _ _ _ (by omega)]) | (rw [hM _ (by omega)]) | (rw [hm _ (by omega)])))) | (have t_ := Rel.done (h); exact Or.inr t_)) (by first | (refine Or.inl (And.intro ?_ (And.intro ?_ ?_)) <;> first | (simp only [List.mem_cons, List.not_mem_nil, or_false, forall_eq_or_imp, forall_eq, false_implies, implies_true, and_true] <;> omega) | (repeat' (first | exact True.intro | rfl | refine And.intro ?_ ?_ | (rw [sv_ne _ _ _ _ (by omega)]) | (rw [up_cell _ _ _ (by omega)]) | (rw [fil_cell _ _ _ _ _ (by omega)]) | (rw [hM _ (by omega)]) | (rw [hm _ (by omega)])))) | (have t_ := Rel.levels (h); exact Or.inr t_)) (by first | (refine Or.inl (And.intro ?_ (And.intro ?_ ?_)) <;> first | (simp only [List.mem_cons, List.not_mem_nil, or_false, forall_eq_or_imp, forall_eq, false_implies, implies_true, and_true] <;> omega) | (repeat' (first | exact True.intro | rfl | refine And.intro ?_ ?_ | (rw [sv_ne _ _ _ _ (by omega)]) | (rw [up_cell _ _ _ (by omega)]) | (rw [fil_cell _ _ _ _ _ (by omega)]) | (rw [hM _ (by omega)]) | (rw [hm _ (by omega)])))) | (have t_ := Rel.places (h); exact Or.inr t_)) (by first | (refine Or.inl (And.intro ?_ (And.intro ?_ ?_)) <;> first | (simp only [List.mem_cons, List.not_mem_nil, or_false, forall_eq_or_imp, forall_eq, false_implies, implies_true, and_true] <;> omega) | (repeat' (first | exact True.intro | rfl | refine And.intro ?_ ?_ | (rw [sv_ne _ _ _ _ (by omega)]) | (rw [up_cell _ _ _ (by omega)]) | (rw [fil_cell _ _ _ _ _ (by omega)]) | (rw [hM _ (by omega)]) | (rw [hm _ (by omega)])))) | (have t_ := Rel.asked (h); exact Or.inr t_)) (by first | (refine Or.inl (And.intro ?_ (And.intro ?_ ?_)) <;> first | (simp only [List.mem_cons, List.not_mem_nil, or_false, forall_eq_or_imp, forall_eq, false_implies, implies_true, and_true] <;> omega) | (repeat' (first | exact True.intro | rfl | refine And.intro ?_ ?_ | (rw [sv_ne _ _ _ _ (by omega)]) | (rw [up_cell _ _ _ (by omega)]) | (rw [fil_cell _ _ _ _ _ (by omega)]) | (rw [hM _ (by omega)]) | (rw [hm _ (by omega)])))) | (have t_ := Rel.worder (h); exact Or.inr t_)) (by first | (refine Or.inl (And.intro ?_ (And.intro ?_ ?_)) <;> first | (simp only [List.mem_cons, List.not_mem_nil, or_false, forall_eq_or_imp, forall_eq, false_implies, implies_true, and_true] <;> omega) | (repeat' (first | exact True.intro | rfl | refine And.intro ?_ ?_ | (rw [sv_ne _ _ _ _ (by omega)]) | (rw [up_cell _ _ _ (by omega)]) | (rw [fil_cell _ _ _ _ _ (by omega)]) | (rw [hM _ (by omega)]) | (rw [hm _ (by omega)])))) | (have t_ := Rel.rorder (h); exact Or.inr t_)) (Or.inr (by
    intro j hj t ht'
    rw [hcn] at hj
    have h2 := (by decide : ∀ s ∈ pst, s.2.1 ≤ 1 ∧ s.2.2 ≠ 18) t ht'
    rw [sv_ne _ _ _ _ (by omega)]
    exact h.ps j hj t ht')) (by first | (refine Or.inl (And.intro ?_ (And.intro ?_ ?_)) <;> first | (simp only [List.mem_cons, List.not_mem_nil, or_false, forall_eq_or_imp, forall_eq, false_implies, implies_true, and_true] <;> omega) | (repeat' (first | exact True.intro | rfl | refine And.intro ?_ ?_ | (rw [sv_ne _ _ _ _ (by omega)]) | (rw [up_cell _ _ _ (by omega)]) | (rw [fil_cell _ _ _ _ _ (by omega)]) | (rw [hM _ (by omega)]) | (rw [hm _ (by omega)])))) | (have t_ := Rel.app (h); exact Or.inr t_)) (by first | (refine Or.inl (And.intro ?_ (And.intro ?_ ?_)) <;> first | (simp only [List.mem_cons, List.not_mem_nil, or_false, forall_eq_or_imp, forall_eq, false_implies, implies_true, and_true] <;> omega) | (repeat' (first | exact True.intro | rfl | refine And.intro ?_ ?_ | (rw [sv_ne _ _ _ _ (by omega)]) | (rw [up_cell _ _ _ (by omega)]) | (rw [fil_cell _ _ _ _ _ (by omega)]) | (rw [hM _ (by omega)]) | (rw [hm _ (by omega)])))) | (have t_ := Rel.name (h); exact Or.inr t_)) (by first | (refine Or.inl (And.intro ?_ (And.intro ?_ ?_)) <;> first | (simp only [List.mem_cons, List.not_mem_nil, or_false, forall_eq_or_imp, forall_eq, false_implies, implies_true, and_true] <;> omega) | (repeat' (first | exact True.intro | rfl | refine And.intro ?_ ?_ | (rw [sv_ne _ _ _ _ (by omega)]) | (rw [up_cell _ _ _ (by omega)]) | (rw [fil_cell _ _ _ _ _ (by omega)]) | (rw [hM _ (by omega)]) | (rw [hm _ (by omega)])))) | (have t_ := Rel.number (h); exact Or.inr t_)) (by first | (refine Or.inl (And.intro ?_ (And.intro ?_ ?_)) <;> first | (simp only [List.mem_cons, List.not_mem_nil, or_false, forall_eq_or_imp, forall_eq, false_implies, implies_true, and_true] <;> omega) | (repeat' (first | exact True.intro | rfl | refine And.intro ?_ ?_ | (rw [sv_ne _ _ _ _ (by omega)]) | (rw [up_cell _ _ _ (by omega)]) | (rw [fil_cell _ _ _ _ _ (by omega)]) | (rw [hM _ (by omega)]) | (rw [hm _ (by omega)])))) | (have t_ := Rel.bits (h); exact Or.inr t_)) (by first | (refine Or.inl (And.intro ?_ (And.intro ?_ ?_)) <;> first | (simp only [List.mem_cons, List.not_mem_nil, or_false, forall_eq_or_imp, forall_eq, false_implies, implies_true, and_true] <;> omega) | (repeat' (first | exact True.intro | rfl | refine And.intro ?_ ?_ | (rw [sv_ne _ _ _ _ (by omega)]) | (rw [up_cell _ _ _ (by omega)]) | (rw [fil_cell _ _ _ _ _ (by omega)]) | (rw [hM _ (by omega)]) | (rw [hm _ (by omega)])))) | (have t_ := Rel.regs (h); exact Or.inr t_)) (Or.inr (by
    intro j hj h1 h2
    rw [hcn] at hj
    rw [sv_ne _ _ _ _ (by omega)] at h1 h2 ⊢
    exact h.rsv j hj h1 h2)) (Or.inr (by
    intro j hj k hk
    rw [hcn] at hj
    rw [sv_cell _ _ _ _ (by omega)]
    rw [sv_ne _ _ _ _ (by omega)] at hk
    exact h.queue j hj k hk)) (Or.inr (by
    intro j hj
    rw [hcn] at hj
    rw [hct, hgw, hgw, hgw, hgw]
    exact h.ctlw j hj)) (Or.inr (by
    intro j hj
    rw [sv_ne _ _ _ _ (by omega), sv_ne _ _ _ _ (by omega)]
    exact h.wt j hj)))
/-- the address of a driver's grant is set down -/
theorem Rel.gset {m M : it_Me} (h : Rel m M) (hc : cnt m ≤ 8) {i d : Nat} (hi : i < cnt m) (v : Int32) (hz : d = 1 → gw m (v + 64) = 0 ∧ gw m (v + 72) = 0) : Rel (it_sv m (14 + 5 * i + 4) d v) M := by
  have hcn : cnt (it_sv m (14 + 5 * i + 4) d v) = cnt m := cnt_sv _ _ _ (by omega)
  have hgw : ∀ x, gw (it_sv m (14 + 5 * i + 4) d v) x = gw m x := fun x => gw_sv _ _ _ _ (by omega)
  exact (Rel.upd (h) (hc) ([14 + 5 * i + 4]) ([]) (fun k hk => sv_cell _ _ _ _ (by simpa using hk)) (fun _ _ => rfl) (by first | (refine Or.inl (And.intro ?_ (And.intro ?_ ?_)) <;> first | (simp only [List.mem_cons, List.not_mem_nil, or_false, forall_eq_or_imp, forall_eq, false_implies, implies_true, and_true] <;> omega) | (repeat' (first | exact True.intro | rfl | refine And.intro ?_ ?_ | (rw [sv_ne _ _ _ _ (by omega)]) | (rw [up_cell _ _ _ (by omega)]) | (rw [fil_cell _ _ _ _ _ (by omega)]) | (rw [hM _ (by omega)]) | (rw [hm _ (by omega)])))) | (have t_ := Rel.tapeLen (h); exact Or.inr t_)) (by first | (refine Or.inl (And.intro ?_ (And.intro ?_ ?_)) <;> first | (simp only [List.mem_cons, List.not_mem_nil, or_false, forall_eq_or_imp, forall_eq, false_implies, implies_true, and_true] <;> omega) | (repeat' (first | exact True.intro | rfl | refine And.intro ?_ ?_ | (rw [sv_ne _ _ _ _ (by omega)]) | (rw [up_cell _ _ _ (by omega)]) | (rw [fil_cell _ _ _ _ _ (by omega)]) | (rw [hM _ (by omega)]) | (rw [hm _ (by omega)])))) | (have t_ := Rel.on (h); exact Or.inr t_)) (by first | (refine Or.inl (And.intro ?_ (And.intro ?_ ?_)) <;> first | (simp only [List.mem_cons, List.not_mem_nil, or_false, forall_eq_or_imp, forall_eq, false_implies, implies_true, and_true] <;> omega) | (repeat' (first | exact True.intro | rfl | refine And.intro ?_ ?_ | (rw [sv_ne _ _ _ _ (by omega)]) | (rw [up_cell _ _ _ (by omega)]) | (rw [fil_cell _ _ _ _ _ (by omega)]) | (rw [hM _ (by omega)]) | (rw [hm _ (by omega)])))) | (have t_ := Rel.lost (h); exact Or.inr t_)) (by first | (refine Or.inl (And.intro ?_ (And.intro ?_ ?_)) <;> first | (simp only [List.mem_cons, List.not_mem_nil, or_false, forall_eq_or_imp, forall_eq, false_implies, implies_true, and_true] <;> omega) | (repeat' (first | exact True.intro | rfl | refine And.intro ?_ ?_ | (rw [sv_ne _ _ _ _ (by omega)]) | (rw [up_cell _ _ _ (by omega)]) | (rw [fil_cell _ _ _ _ _ (by omega)]) | (rw [hM _ (by omega)]) | (rw [hm _ (by omega)])))) | (have t_ := Rel.power (h); exact Or.inr t_)) (by first | (refine Or.inl (And.intro ?_ (And.intro ?_ ?_)) <;> first | (simp only [List.mem_cons, List.not_mem_nil, or_false, forall_eq_or_imp, forall_eq, false_implies, implies_true, and_true] <;> omega) | (repeat' (first | exact True.intro | rfl | refine And.intro ?_ ?_ | (rw [sv_ne _ _ _ _ (by omega)]) | (rw [up_cell _ _ _ (by omega)]) | (rw [fil_cell _ _ _ _ _ (by omega)]) | (rw [hM _ (by omega)]) | (rw [hm _ (by omega)])))) | (have t_ := Rel.time (h); exact Or.inr t_)) (by first | (refine Or.inl (And.intro ?_ (And.intro ?_ ?_)) <;> first | (simp only [List.mem_cons, List.not_mem_nil, or_false, forall_eq_or_imp, forall_eq, false_implies, implies_true, and_true] <;> omega) | (repeat' (first | exact True.intro | rfl | refine And.intro ?_ ?_ | (rw [sv_ne _ _ _ _ (by omega)]) | (rw [up_cell _ _ _ (by omega)]) | (rw [fil_cell _ _ _ _ _ (by omega)]) | (rw [hM _ (by omega)]) | (rw [hm _ (by omega)])))) | (have t_ := Rel.z (h); exact Or.inr t_)) (by first | (refine Or.inl (And.intro ?_ (And.intro ?_ ?_)) <;> first | (simp only [List.mem_cons, List.not_mem_nil, or_false, forall_eq_or_imp, forall_eq, false_implies, implies_true, and_true] <;> omega) | (repeat' (first | exact True.intro | rfl | refine And.intro ?_ ?_ | (rw [sv_ne _ _ _ _ (by omega)]) | (rw [up_cell _ _ _ (by omega)]) | (rw [fil_cell _ _ _ _ _ (by omega)]) | (rw [hM _ (by omega)]) | (rw [hm _ (by omega)])))) | (have t_ := Rel.count (h); exact Or.inr t_)) (by first | (refine Or.inl (And.intro ?_ (And.intro ?_ ?_)) <;> first | (simp only [List.mem_cons, List.not_mem_nil, or_false, forall_eq_or_imp, forall_eq, false_implies, implies_true, and_true] <;> omega) | (repeat' (first | exact True.intro | rfl | refine And.intro ?_ ?_ | (rw [sv_ne _ _ _ _ (by omega)]) | (rw [up_cell _ _ _ (by omega)]) | (rw [fil_cell _ _ _ _ _ (by omega)]) | (rw [hM _ (by omega)]) | (rw [hm _ (by omega)])))) | (have t_ := Rel.turn (h); exact Or.inr t_)) (by first | (refine Or.inl (And.intro ?_ (And.intro ?_ ?_)) <;> first | (simp only [List.mem_cons, List.not_mem_nil, or_false, forall_eq_or_imp, forall_eq, false_implies, implies_true, and_true] <;> omega) | (repeat' (first | exact True.intro | rfl | refine And.intro ?_ ?_ | (rw [sv_ne _ _ _ _ (by omega)]) | (rw [up_cell _ _ _ (by omega)]) | (rw [fil_cell _ _ _ _ _ (by omega)]) | (rw [hM _ (by omega)]) | (rw [hm _ (by omega)])))) | (have t_ := Rel.bank (h); exact Or.inr t_)) (by first | (refine Or.inl (And.intro ?_ (And.intro ?_ ?_)) <;> first | (simp only [List.mem_cons, List.not_mem_nil, or_false, forall_eq_or_imp, forall_eq, false_implies, implies_true, and_true] <;> omega) | (repeat' (first | exact True.intro | rfl | refine And.intro ?_ ?_ | (rw [sv_ne _ _ _ _ (by omega)]) | (rw [up_cell _ _ _ (by omega)]) | (rw [fil_cell _ _ _ _ _ (by omega)]) | (rw [hM _ (by omega)]) | (rw [hm _ (by omega)])))) | (have t_ := Rel.tape (h); exact Or.inr t_)) (by first | (refine Or.inl (And.intro ?_ (And.intro ?_ ?_)) <;> first | (simp only [List.mem_cons, List.not_mem_nil, or_false, forall_eq_or_imp, forall_eq, false_implies, implies_true, and_true] <;> omega) | (repeat' (first | exact True.intro | rfl | refine And.intro ?_ ?_ | (rw [sv_ne _ _ _ _ (by omega)]) | (rw [up_cell _ _ _ (by omega)]) | (rw [fil_cell _ _ _ _ _ (by omega)]) | (rw [hM _ (by omega)]) | (rw [hm _ (by omega)])))) | (have t_ := Rel.counts (h); exact Or.inr t_)) (by first | (refine Or.inl (And.intro ?_ (And.intro ?_ ?_)) <;> first | (simp only [List.mem_cons, List.not_mem_nil, or_false, forall_eq_or_imp, forall_eq, false_implies, implies_true, and_true] <;> omega) | (repeat' (first | exact True.intro | rfl | refine And.intro ?_ ?_ | (rw [sv_ne _ _ _ _ (by omega)]) | (rw [up_cell _ _ _ (by omega)]) | (rw [fil_cell _ _ _ _ _ (by omega)]) | (rw [hM _ (by omega)]) | (rw [hm _ (by omega)])))) | (have t_ := Rel.events (h); exact Or.inr t_)) (by first | (refine Or.inl (And.intro ?_ (And.intro ?_ ?_)) <;> first | (simp only [List.mem_cons, List.not_mem_nil, or_false, forall_eq_or_imp, forall_eq, false_implies, implies_true, and_true] <;> omega) | (repeat' (first | exact True.intro | rfl | refine And.intro ?_ ?_ | (rw [sv_ne _ _ _ _ (by omega)]) | (rw [up_cell _ _ _ (by omega)]) | (rw [fil_cell _ _ _ _ _ (by omega)]) | (rw [hM _ (by omega)]) | (rw [hm _ (by omega)])))) | (have t_ := Rel.out (h); exact Or.inr t_)) (by first | (refine Or.inl (And.intro ?_ (And.intro ?_ ?_)) <;> first | (simp only [List.mem_cons, List.not_mem_nil, or_false, forall_eq_or_imp, forall_eq, false_implies, implies_true, and_true] <;> omega) | (repeat' (first | exact True.intro | rfl | refine And.intro ?_ ?_ | (rw [sv_ne _ _ _ _ (by omega)]) | (rw [up_cell _ _ _ (by omega)]) | (rw [fil_cell _ _ _ _ _ (by omega)]) | (rw [hM _ (by omega)]) | (rw [hm _ (by omega)])))) | (have t_ := Rel.lamps (h); exact Or.inr t_)) (by first | (refine Or.inl (And.intro ?_ (And.intro ?_ ?_)) <;> first | (simp only [List.mem_cons, List.not_mem_nil, or_false, forall_eq_or_imp, forall_eq, false_implies, implies_true, and_true] <;> omega) | (repeat' (first | exact True.intro | rfl | refine And.intro ?_ ?_ | (rw [sv_ne _ _ _ _ (by omega)]) | (rw [up_cell _ _ _ (by omega)]) | (rw [fil_cell _ _ _ _ _ (by omega)]) | (rw [hM _ (by omega)]) | (rw [hm _ (by omega)])))) | (have t_ := Rel.buttons (h); exact Or.inr t_)) (by first | (refine Or.inl (And.intro ?_ (And.intro ?_ ?_)) <;> first | (simp only [List.mem_cons, List.not_mem_nil, or_false, forall_eq_or_imp, forall_eq, false_implies, implies_true, and_true] <;> omega) | (repeat' (first | exact True.intro | rfl | refine And.intro ?_ ?_ | (rw [sv_ne _ _ _ _ (by omega)]) | (rw [up_cell _ _ _ (by omega)]) | (rw [fil_cell _ _ _ _ _ (by omega)]) | (rw [hM _ (by omega)]) | (rw [hm _ (by omega)])))) | (have t_ := Rel.lev (h); exact Or.inr t_)) (by first | (refine Or.inl (And.intro ?_ (And.intro ?_ ?_)) <;> first | (simp only [List.mem_cons, List.not_mem_nil, or_false, forall_eq_or_imp, forall_eq, false_implies, implies_true, and_true] <;> omega) | (repeat' (first | exact True.intro | rfl | refine And.intro ?_ ?_ | (rw [sv_ne _ _ _ _ (by omega)]) | (rw [up_cell _ _ _ (by omega)]) | (rw [fil_cell _ _ _ _ _ (by omega)]) | (rw [hM _ (by omega)]) | (rw [hm _ (by omega)])))) | (have t_ := Rel.mem (h); exact Or.inr t_)) (by first | (refine Or.inl (And.intro ?_ (And.intro ?_ ?_)) <;> first | (simp only [List.mem_cons, List.not_mem_nil, or_false, forall_eq_or_imp, forall_eq, false_implies, implies_true, and_true] <;> omega) | (repeat' (first | exact True.intro | rfl | refine And.intro ?_ ?_ | (rw [sv_ne _ _ _ _ (by omega)]) | (rw [up_cell _ _ _ (by omega)]) | (rw [fil_cell _ _ _ _ _ (by omega)]) | (rw [hM _ (by omega)]) | (rw [hm _ (by omega)])))) | (have t_ := Rel.sched (h); exact Or.inr t_)) (by first | (refine Or.inl (And.intro ?_ (And.intro ?_ ?_)) <;> first | (simp only [List.mem_cons, List.not_mem_nil, or_false, forall_eq_or_imp, forall_eq, false_implies, implies_true, and_true] <;> omega) | (repeat' (first | exact True.intro | rfl | refine And.intro ?_ ?_ | (rw [sv_ne _ _ _ _ (by omega)]) | (rw [up_cell _ _ _ (by omega)]) | (rw [fil_cell _ _ _ _ _ (by omega)]) | (rw [hM _ (by omega)]) | (rw [hm _ (by omega)])))) | (have t_ := Rel.done (h); exact Or.inr t_)) (by first | (refine Or.inl (And.intro ?_ (And.intro ?_ ?_)) <;> first | (simp only [List.mem_cons, List.not_mem_nil, or_false, forall_eq_or_imp, forall_eq, false_implies, implies_true, and_true] <;> omega) | (repeat' (first | exact True.intro | rfl | refine And.intro ?_ ?_ | (rw [sv_ne _ _ _ _ (by omega)]) | (rw [up_cell _ _ _ (by omega)]) | (rw [fil_cell _ _ _ _ _ (by omega)]) | (rw [hM _ (by omega)]) | (rw [hm _ (by omega)])))) | (have t_ := Rel.levels (h); exact Or.inr t_)) (by first | (refine Or.inl (And.intro ?_ (And.intro ?_ ?_)) <;> first | (simp only [List.mem_cons, List.not_mem_nil, or_false, forall_eq_or_imp, forall_eq, false_implies, implies_true, and_true] <;> omega) | (repeat' (first | exact True.intro | rfl | refine And.intro ?_ ?_ | (rw [sv_ne _ _ _ _ (by omega)]) | (rw [up_cell _ _ _ (by omega)]) | (rw [fil_cell _ _ _ _ _ (by omega)]) | (rw [hM _ (by omega)]) | (rw [hm _ (by omega)])))) | (have t_ := Rel.places (h); exact Or.inr t_)) (by first | (refine Or.inl (And.intro ?_ (And.intro ?_ ?_)) <;> first | (simp only [List.mem_cons, List.not_mem_nil, or_false, forall_eq_or_imp, forall_eq, false_implies, implies_true, and_true] <;> omega) | (repeat' (first | exact True.intro | rfl | refine And.intro ?_ ?_ | (rw [sv_ne _ _ _ _ (by omega)]) | (rw [up_cell _ _ _ (by omega)]) | (rw [fil_cell _ _ _ _ _ (by omega)]) | (rw [hM _ (by omega)]) | (rw [hm _ (by omega)])))) | (have t_ := Rel.asked (h); exact Or.inr t_)) (Or.inr (by
    intro j hj hu
    rw [hcn] at hj
    rw [sv_cell _ _ _ _ (by omega)]
    unfold undW at hu
    rw [hgw] at hu
    by_cases e : j = i ∧ d = 1
    · obtain ⟨rfl, rfl⟩ := e
      rw [sv_same] at hu
      exact absurd (hz rfl).1 hu.2
    · rw [sv_ne _ _ _ _ (by omega)] at hu
      exact h.worder j hj hu)) (Or.inr (by
    intro j hj hu
    rw [hcn] at hj
    rw [sv_cell _ _ _ _ (by omega)]
    unfold undR at hu
    rw [hgw] at hu
    by_cases e : j = i ∧ d = 1
    · obtain ⟨rfl, rfl⟩ := e
      rw [sv_same] at hu
      exact absurd (hz rfl).2 hu.2
    · rw [sv_ne _ _ _ _ (by omega)] at hu
      exact h.rorder j hj hu)) (by first | (refine Or.inl (And.intro ?_ (And.intro ?_ ?_)) <;> first | (simp only [List.mem_cons, List.not_mem_nil, or_false, forall_eq_or_imp, forall_eq, false_implies, implies_true, and_true] <;> omega) | (repeat' (first | exact True.intro | rfl | refine And.intro ?_ ?_ | (rw [sv_ne _ _ _ _ (by omega)]) | (rw [up_cell _ _ _ (by omega)]) | (rw [fil_cell _ _ _ _ _ (by omega)]) | (rw [hM _ (by omega)]) | (rw [hm _ (by omega)])))) | (have t_ := Rel.ps (h); exact Or.inr t_)) (by first | (refine Or.inl (And.intro ?_ (And.intro ?_ ?_)) <;> first | (simp only [List.mem_cons, List.not_mem_nil, or_false, forall_eq_or_imp, forall_eq, false_implies, implies_true, and_true] <;> omega) | (repeat' (first | exact True.intro | rfl | refine And.intro ?_ ?_ | (rw [sv_ne _ _ _ _ (by omega)]) | (rw [up_cell _ _ _ (by omega)]) | (rw [fil_cell _ _ _ _ _ (by omega)]) | (rw [hM _ (by omega)]) | (rw [hm _ (by omega)])))) | (have t_ := Rel.app (h); exact Or.inr t_)) (by first | (refine Or.inl (And.intro ?_ (And.intro ?_ ?_)) <;> first | (simp only [List.mem_cons, List.not_mem_nil, or_false, forall_eq_or_imp, forall_eq, false_implies, implies_true, and_true] <;> omega) | (repeat' (first | exact True.intro | rfl | refine And.intro ?_ ?_ | (rw [sv_ne _ _ _ _ (by omega)]) | (rw [up_cell _ _ _ (by omega)]) | (rw [fil_cell _ _ _ _ _ (by omega)]) | (rw [hM _ (by omega)]) | (rw [hm _ (by omega)])))) | (have t_ := Rel.name (h); exact Or.inr t_)) (by first | (refine Or.inl (And.intro ?_ (And.intro ?_ ?_)) <;> first | (simp only [List.mem_cons, List.not_mem_nil, or_false, forall_eq_or_imp, forall_eq, false_implies, implies_true, and_true] <;> omega) | (repeat' (first | exact True.intro | rfl | refine And.intro ?_ ?_ | (rw [sv_ne _ _ _ _ (by omega)]) | (rw [up_cell _ _ _ (by omega)]) | (rw [fil_cell _ _ _ _ _ (by omega)]) | (rw [hM _ (by omega)]) | (rw [hm _ (by omega)])))) | (have t_ := Rel.number (h); exact Or.inr t_)) (by first | (refine Or.inl (And.intro ?_ (And.intro ?_ ?_)) <;> first | (simp only [List.mem_cons, List.not_mem_nil, or_false, forall_eq_or_imp, forall_eq, false_implies, implies_true, and_true] <;> omega) | (repeat' (first | exact True.intro | rfl | refine And.intro ?_ ?_ | (rw [sv_ne _ _ _ _ (by omega)]) | (rw [up_cell _ _ _ (by omega)]) | (rw [fil_cell _ _ _ _ _ (by omega)]) | (rw [hM _ (by omega)]) | (rw [hm _ (by omega)])))) | (have t_ := Rel.bits (h); exact Or.inr t_)) (by first | (refine Or.inl (And.intro ?_ (And.intro ?_ ?_)) <;> first | (simp only [List.mem_cons, List.not_mem_nil, or_false, forall_eq_or_imp, forall_eq, false_implies, implies_true, and_true] <;> omega) | (repeat' (first | exact True.intro | rfl | refine And.intro ?_ ?_ | (rw [sv_ne _ _ _ _ (by omega)]) | (rw [up_cell _ _ _ (by omega)]) | (rw [fil_cell _ _ _ _ _ (by omega)]) | (rw [hM _ (by omega)]) | (rw [hm _ (by omega)])))) | (have t_ := Rel.regs (h); exact Or.inr t_)) (by first | (refine Or.inl (And.intro ?_ (And.intro ?_ ?_)) <;> first | (simp only [List.mem_cons, List.not_mem_nil, or_false, forall_eq_or_imp, forall_eq, false_implies, implies_true, and_true] <;> omega) | (repeat' (first | exact True.intro | rfl | refine And.intro ?_ ?_ | (rw [sv_ne _ _ _ _ (by omega)]) | (rw [up_cell _ _ _ (by omega)]) | (rw [fil_cell _ _ _ _ _ (by omega)]) | (rw [hM _ (by omega)]) | (rw [hm _ (by omega)])))) | (have t_ := Rel.rsv (h); exact Or.inr t_)) (by first | (refine Or.inl (And.intro ?_ (And.intro ?_ ?_)) <;> first | (simp only [List.mem_cons, List.not_mem_nil, or_false, forall_eq_or_imp, forall_eq, false_implies, implies_true, and_true] <;> omega) | (repeat' (first | exact True.intro | rfl | refine And.intro ?_ ?_ | (rw [sv_ne _ _ _ _ (by omega)]) | (rw [up_cell _ _ _ (by omega)]) | (rw [fil_cell _ _ _ _ _ (by omega)]) | (rw [hM _ (by omega)]) | (rw [hm _ (by omega)])))) | (have t_ := Rel.queue (h); exact Or.inr t_)) (by first | (refine Or.inl (And.intro ?_ (And.intro ?_ ?_)) <;> first | (simp only [List.mem_cons, List.not_mem_nil, or_false, forall_eq_or_imp, forall_eq, false_implies, implies_true, and_true] <;> omega) | (repeat' (first | exact True.intro | rfl | refine And.intro ?_ ?_ | (rw [sv_ne _ _ _ _ (by omega)]) | (rw [up_cell _ _ _ (by omega)]) | (rw [fil_cell _ _ _ _ _ (by omega)]) | (rw [hM _ (by omega)]) | (rw [hm _ (by omega)])))) | (have t_ := Rel.ctlw (h); exact Or.inr t_)) (by first | (refine Or.inl (And.intro ?_ (And.intro ?_ ?_)) <;> first | (simp only [List.mem_cons, List.not_mem_nil, or_false, forall_eq_or_imp, forall_eq, false_implies, implies_true, and_true] <;> omega) | (repeat' (first | exact True.intro | rfl | refine And.intro ?_ ?_ | (rw [sv_ne _ _ _ _ (by omega)]) | (rw [up_cell _ _ _ (by omega)]) | (rw [fil_cell _ _ _ _ _ (by omega)]) | (rw [hM _ (by omega)]) | (rw [hm _ (by omega)])))) | (have t_ := Rel.wt (h); exact Or.inr t_)))
def nAt (m : it_Me) (i d : Nat) : Int32 := m (14 + 5 * i) 8 - nI (gsz d)
noncomputable def ng3 (m : it_Me) (i d : Nat) : it_Me := pw (pw (it_fil m 2 (wi (nAt m i d)) (wi (nAt m i d) + gsz d / 4) 0) (nAt m i d) (nI d)) (nAt m i d + 4) (if m (14 + 5 * i) 18 = 0 then 0 else m (14 + 5 * i) 8)
noncomputable def ngC (m : it_Me) (i d : Nat) : it_Me := it_sv (it_sv (it_sv (ng3 m i d) (14 + 5 * i) 8 (nAt m i d)) (14 + 5 * i + 4) d (nAt m i d)) (14 + 5 * i) 18 (m (14 + 5 * i) 18 + 1)
theorem ng3_c (m : it_Me) (i d : Nat) {k : Nat} (h : k ≠ 2) : ng3 m i d k = m k := by
  unfold ng3
  rw [pw_c _ _ _ h, pw_c _ _ _ h, fil_cell _ _ _ _ _ h]
theorem gsz4 {d : Nat} (hd : d < 9) : gsz d % 4 = 0 := (by decide : ∀ d, d < 9 → gsz d % 4 = 0) d hd
/-- what lies where the grant is made -/
theorem nAt_I {m : it_Me} {i d : Nat} (hP : PI m i) (hd : d < 9) (hb : (m (14 + 5 * i) 7).toInt ≤ (nAt m i d).toInt) : (nAt m i d).toInt = (m (14 + 5 * i) 8).toInt - gsz d ∧ InM (nAt m i d) ∧ InM (nAt m i d + 4) ∧ (nAt m i d + 4).toInt = (nAt m i d).toInt + 4 ∧ (nAt m i d).toInt % 4 = 0 ∧ nAt m i d + nI (gsz d) = m (14 + 5 * i) 8 := by
  have l := hP.low0
  have o := hP.ord
  have s := hP.szI
  have n := kN hd
  have g4 := gsz4 hd
  have eg := nI_toInt (n := gsz d) (by omega)
  have e : (nAt m i d).toInt = (m (14 + 5 * i) 8).toInt - gsz d := by unfold nAt; rw [sub_I] <;> rw [eg] <;> omega
  have e4 : (nAt m i d + 4).toInt = (nAt m i d).toInt + 4 := adI (k := 4) (by omega) (by omega) (by omega)
  refine ⟨e, ⟨by omega, by omega⟩, ⟨by omega, by omega⟩, e4, by omega, ?_⟩
  exact Int32.toInt_inj.mp (by rw [adI (by omega) (by omega) (by omega)]; omega)
theorem ng3_rd {m : it_Me} {i d : Nat} (hP : PI m i) (hd : d < 9) (hb : (m (14 + 5 * i) 7).toInt ≤ (nAt m i d).toInt) (w : Nat) : ng3 m i d 2 w = if 65536 + 4 * (w : Int) = (nAt m i d).toInt + 4 then (if m (14 + 5 * i) 18 = 0 then 0 else m (14 + 5 * i) 8) else if 65536 + 4 * (w : Int) = (nAt m i d).toInt then nI d else if (nAt m i d).toInt ≤ 65536 + 4 * (w : Int) ∧ 65536 + 4 * (w : Int) < (m (14 + 5 * i) 8).toInt then 0 else m 2 w := by
  have a := nAt_I hP hd hb
  have g4 := gsz4 hd
  have h1 := wi_eq a.2.1
  have h2 := wi_eq a.2.2.1
  unfold ng3
  rw [pw_in a.2.2.1, pw_in a.2.1, sv_rd, sv_rd, fil_rd]
  by_cases q1 : 65536 + 4 * (w : Int) = (nAt m i d).toInt + 4
  · rw [if_pos q1, if_pos (by omega)]
  rw [if_neg q1, if_neg (by omega)]
  by_cases q2 : 65536 + 4 * (w : Int) = (nAt m i d).toInt
  · rw [if_pos q2, if_pos (by omega)]
  rw [if_neg q2, if_neg (by omega)]
  by_cases q3 : (nAt m i d).toInt ≤ 65536 + 4 * (w : Int) ∧ 65536 + 4 * (w : Int) < (m (14 + 5 * i) 8).toInt
  · rw [if_pos q3, if_pos (by omega)]
  · rw [if_neg q3, if_neg (by omega)]
theorem ng3_w {m : it_Me} {i d : Nat} (hP : PI m i) (hd : d < 9) (hb : (m (14 + 5 * i) 7).toInt ≤ (nAt m i d).toInt) : ∀ w, ng3 m i d 2 w ≠ m 2 w → (m (14 + 5 * i) 5).toInt ≤ 65536 + 4 * (w : Int) ∧ 65536 + 4 * (w : Int) < (m (14 + 5 * i) 8).toInt := by
  intro w h
  have a := nAt_I hP hd hb
  have o := hP.ord
  have n := kN hd
  have g4 := gsz4 hd
  by_cases q : (nAt m i d).toInt ≤ 65536 + 4 * (w : Int) ∧ 65536 + 4 * (w : Int) < (m (14 + 5 * i) 8).toInt
  · omega
  · exfalso
    apply h
    rw [ng3_rd hP hd hb, if_neg (by omega), if_neg (by omega), if_neg q]
theorem ng3_I {B : Nat} {m : it_Me} (hI : Inv B m) {i d : Nat} (hi : i < cnt m) (hd : d < 9) (hb : (m (14 + 5 * i) 7).toInt ≤ (nAt m i d).toInt) : Inv B (ng3 m i d) := hI.own hi (fun k hk => ng3_c _ _ _ hk) (ng3_w (hI.p hi) hd hb)
/-- a word of the new grant -/
theorem ng3_g {m : it_Me} {i d k : Nat} (hP : PI m i) (hd : d < 9) (hb : (m (14 + 5 * i) 7).toInt ≤ (nAt m i d).toInt) (hk : k < gsz d) (h8 : 8 ≤ k) (h4 : k % 4 = 0) : gw (ng3 m i d) (nAt m i d + nI k) = 0 := by
  have a := nAt_I hP hd hb
  have l := hP.low0
  have o := hP.ord
  have n := kN hd
  have s := hP.szI
  have e := adI (a := nAt m i d) (k := k) (by omega) (by omega) (by omega)
  have hA : InM (nAt m i d + nI k) := ⟨by omega, by omega⟩
  have hw := wi_eq hA
  rw [gw_in hA, ng3_rd hP hd hb, if_neg (by omega), if_neg (by omega), if_pos (by omega)]
theorem Ch_len {m : it_Me} {i : Nat} (hc : (ctl m i).toInt ≤ 196608) : ∀ (ds : List Nat) (a : Int32), Ch m i a ds → 0 ≤ a.toInt → a.toInt + 8 * (ds.length : Int) ≤ (ctl m i).toInt
  | [], a, h, _ => by
    have e : a = ctl m i := h
    rw [e, List.length_nil]
    omega
  | d :: ds, a, h, h0 => by
    obtain ⟨h1, h2, h3, h5, _, h6, h7⟩ := h
    have k := kN h1
    have e := adI (a := a) (k := gsz d) h0 (by omega) (by omega)
    have ih := Ch_len hc ds _ h7 (by omega)
    rw [List.length_cons]
    omega
set_option maxHeartbeats 1000000 in
theorem ng_I {B : Nat} {m : it_Me} (hI : Inv B m) {i d : Nat} (hi : i < cnt m) (hd : d < 9) (hd2 : d ≠ 2) (hg : m (14 + 5 * i + 4) d = 0) (hb : (m (14 + 5 * i) 7).toInt ≤ (nAt m i d).toInt) : Inv B (ngC m i d) := by
  have h8 := cnt_le hI
  have hP := hI.p hi
  have a := nAt_I hP hd hb
  have l := hP.low0
  have o := hP.ord
  have s := hP.szI
  have n := kN hd
  have g4 := gsz4 hd
  have ho := on_of hI hi
  have I3 := ng3_I hI hi hd hb
  have k3 : cnt (ng3 m i d) = cnt m := cnt_cg (by rw [ng3_c _ _ _ (by omega)])
  have P3 := I3.p (i := i) (by omega)
  have q0 : ∀ c, c ≠ 8 → c ≠ 18 → ngC m i d (14 + 5 * i) c = m (14 + 5 * i) c := fun c h1 h2 => by
    unfold ngC
    rw [sv_n2 _ _ _ _ h2, sv_n1 _ _ _ _ _ (by omega), sv_n2 _ _ _ _ h1, ng3_c _ _ _ (by omega)]
  have q8 : ngC m i d (14 + 5 * i) 8 = nAt m i d := by
    unfold ngC
    rw [sv_n2 _ _ _ _ (by omega), sv_n1 _ _ _ _ _ (by omega), sv_same]
  have q18 : ngC m i d (14 + 5 * i) 18 = m (14 + 5 * i) 18 + 1 := by unfold ngC; rw [sv_same]
  have qG : ∀ d', ngC m i d (14 + 5 * i + 4) d' = if d' = d then nAt m i d else m (14 + 5 * i + 4) d' := fun d' => by
    unfold ngC
    rw [sv_n1 _ _ _ _ _ (by omega), sv_rd, sv_n1 _ _ _ _ _ (by omega), ng3_c _ _ _ (by omega)]
    simp only [true_and]
  have qc : ∀ k, k ≠ 14 + 5 * i → k ≠ 14 + 5 * i + 4 → ngC m i d k = ng3 m i d k := fun k h1 h2 => by
    unfold ngC
    rw [sv_cell _ _ _ _ h1, sv_cell _ _ _ _ h2, sv_cell _ _ _ _ h1]
  have hm : ∀ k, (k ≠ 14 + 5 * i ∧ k ≠ 14 + 5 * i + 4) → ngC m i d k = ng3 m i d k := fun k h => qc k h.1 h.2
  have gwe : ∀ x, gw (ngC m i d) x = gw (ng3 m i d) x := fun x => gw_cg (qc 2 (by omega) (by omega)) x
  have hct : ctl (ngC m i d) i = ctl m i := by unfold ctl; rw [q0 5 (by omega) (by omega), q0 6 (by omega) (by omega)]
  have hc3 : ctl (ng3 m i d) i = ctl m i := ctl_cg (ng3_c _ _ _ (by omega))
  have nz : nAt m i d ≠ 0 := fun q => by rw [q] at a; simp only [Int32.reduceToInt] at a; omega
  have gold : ∀ x : Int32, (m (14 + 5 * i) 8).toInt ≤ x.toInt → x.toInt < (ctl m i).toInt + 64 → gw (ng3 m i d) x = gw m x := fun x h1 h2 => gw_w (fun hA => by
    have := wi_eq hA
    rw [ng3_rd hP hd hb, if_neg (by omega), if_neg (by omega), if_neg (by omega)])
  have gold2 : ∀ d' k, d' < 9 → m (14 + 5 * i + 4) d' ≠ 0 → k < gsz d' → gw (ng3 m i d) (m (14 + 5 * i + 4) d' + nI k) = gw m (m (14 + 5 * i + 4) d' + nI k) := fun d' k hd' hg' hk => by
    have g' := hP.gI hd' hg'
    have a' := gI' hP hd' hg' (k := k) (by omega)
    exact gold _ (by omega) (by omega)
  have hCh : ∀ ds x, (m (14 + 5 * i) 8).toInt ≤ x.toInt → Ch m i x ds → Ch (ngC m i d) i x ds := fun ds => by
    induction ds with
    | nil => intro x _ q; exact (q : x = ctl m i).trans hct.symm
    | cons y ds ih =>
      intro x h0 q
      obtain ⟨q1, q2, q3, q5, qq8, q6, q7⟩ := q
      have k := kN q1
      have e := adI (a := x) (k := gsz y) (by omega) (by omega) (by omega)
      have e4 : (x + 4).toInt = x.toInt + 4 := adI (k := 4) (by omega) (by omega) (by omega)
      have hgy : m (14 + 5 * i + 4) y ≠ 0 := by rw [q3]; intro q; rw [q] at h0; simp only [Int32.reduceToInt] at h0; omega
      refine ⟨q1, q2, ?_, ?_, ?_, by rw [hct]; exact q6, ih _ (by omega) q7⟩
      · rw [qG, if_neg (fun e => hgy (by rw [e]; exact hg))]; exact q3
      · rw [gwe, gold x h0 (by omega)]; exact q5
      · rw [gwe, gold (x + 4) (by omega) (by omega), hct]; exact qq8
  have hBf : ∀ x y w, Bf (ngC m i d) i x y w ↔ Bf m i x y w := fun x y w => by unfold Bf; rw [q0 5 (by omega) (by omega), q0 7 (by omega) (by omega), qc (14 + 5 * i + 1) (by omega) (by omega), ng3_c _ _ _ (by omega)]
  have c1 : ngC m i d (14 + 5 * i + 1) = m (14 + 5 * i + 1) := by rw [qc _ (by omega) (by omega), ng3_c _ _ _ (by omega)]
  have c3 : ngC m i d (14 + 5 * i + 3) = m (14 + 5 * i + 3) := by rw [qc _ (by omega) (by omega), ng3_c _ _ _ (by omega)]
  have ne : ∀ d', m (14 + 5 * i + 4) d' ≠ 0 → d' ≠ d := fun d' h e => h (by rw [e]; exact hg)
  have hPI : PI (ngC m i d) i := by
    refine PI.mk ?_ ?_ ?_ ?_ ?_ ?_ ?_ ?_ ?_ ?_ ?_ ?_ ?_ ?_ ?_ ?_ ?_ ?_ ?_ ?_ ?_
    · rw [q0 5 (by omega) (by omega), q0 6 (by omega) (by omega)]; exact hP.blk
    · rw [q0 5 (by omega) (by omega), q0 7 (by omega) (by omega), q8, hct]; omega
    · rw [c1]; exact hP.app
    · have := P3.hd
      rw [ng3_c _ _ _ (by omega)] at this
      rw [c1, gh_cg (qc 2 (by omega) (by omega))]; exact this
    · rw [q0 6 (by omega) (by omega), c1]; exact hP.ram
    · rw [q0 9 (by omega) (by omega)]; exact hP.st
    · rw [q0 10 (by omega) (by omega)]; exact hP.he
    · rw [q0 14 (by omega) (by omega)]; exact hP.qn
    · rw [q0 14 (by omega) (by omega), c3]
      intro k hk
      obtain ⟨d', p1, p2, p3, p4⟩ := hP.q k hk
      exact ⟨d', p1, p2, by rw [qG, if_neg (ne d' p3)]; exact p3, p4⟩
    · obtain ⟨ds, h1, h2, h3, h4⟩ := hP.gr
      have hds : d ∉ ds := fun q => by
        have := ((Ch_at (by omega) ds _ h1 (by omega) (by omega)).2 d q).2.2.1
        rw [hg] at this
        simp only [Int32.reduceToInt] at this
        omega
      rw [q8, q18]
      have hlen := Ch_len (by omega) ds _ h1 (by omega)
      have ez : m (14 + 5 * i) 18 = 0 ↔ m (14 + 5 * i) 8 = ctl m i := by
        rw [h4]
        cases ds with
        | nil => exact ⟨fun _ => h1, fun _ => rfl⟩
        | cons y ds =>
          constructor
          · intro q
            exfalso
            rw [show (0 : Int32) = nI 0 from rfl, nI_eq (by omega) (by omega)] at q
            exact absurd q (by rw [List.length_cons]; omega)
          · intro q
            exfalso
            obtain ⟨q1, _, _, _, _, q6, _⟩ := h1
            have := kN q1
            rw [q] at q6
            omega
      have w1 := wi_eq a.2.1
      have w2 := wi_eq a.2.2.1
      refine ⟨d :: ds, ⟨hd, hd2, by rw [qG, if_pos rfl], ?_, ?_, by rw [hct]; omega, ?_⟩, List.nodup_cons.mpr ⟨hds, h2⟩, fun d' hd' hn => ?_, ?_⟩
      · rw [gwe, gw_in a.2.1, ng3_rd hP hd hb, if_neg (by omega), if_pos (by omega)]
      · rw [gwe, gw_in a.2.2.1, ng3_rd hP hd hb, if_pos (by omega), a.2.2.2.2.2, hct]
        by_cases z : m (14 + 5 * i) 18 = 0
        · rw [if_pos z, if_pos (ez.mp z)]
        · rw [if_neg z, if_neg (fun q => z (ez.mpr q))]
      · rw [a.2.2.2.2.2]
        exact hCh ds _ (Int.le_refl _) h1
      · have h5 : d' ≠ d := fun e => hn (by rw [e]; exact List.mem_cons_self)
        rw [qG, if_neg h5]
        exact h3 d' hd' (fun q => hn (List.mem_cons_of_mem _ q))
      · rw [h4, nI_1]; rfl
    · intro d' hd' hg' k hk
      rw [qG] at hg' ⊢
      rw [hBf]
      have n' := kN hd'
      by_cases e : d' = d
      · subst e
        rw [if_pos rfl, gwe, gwe, ng3_g hP hd hb (k := 8 * (1 + sbN d' + k) + 4) (by omega) (by omega) (by omega)]
        exact Or.inl rfl
      · rw [if_neg e] at hg' ⊢
        rw [gwe, gwe, gold2 d' _ hd' hg' (by omega), gold2 d' _ hd' hg' (by omega)]
        exact hP.bf d' hd' hg' k hk
    · rw [qG]
      intro hg' k hk
      by_cases e : 1 = d
      · subst e
        rw [if_pos rfl, gwe, ng3_g hP hd hb (by show 64 + 4 * k < 80; omega) (by omega) (by omega)]
        decide
      · rw [if_neg e] at hg' ⊢
        rw [gwe, gold2 1 _ (by omega) hg' (by show 64 + 4 * k < 80; omega)]
        exact hP.ow1 hg' k hk
    · rw [qG]
      intro hg'
      by_cases e : 6 = d
      · subst e
        rw [if_pos rfl, gwe, show nAt m i 6 + 16 = nAt m i 6 + nI 16 from rfl, ng3_g hP hd hb (by decide) (by omega) (by omega)]
        decide
      · rw [if_neg e] at hg' ⊢
        have := gold2 6 16 (by omega) hg' (by decide)
        rw [gwe, show m (14 + 5 * i + 4) 6 + 16 = m (14 + 5 * i + 4) 6 + nI 16 from rfl, this]
        exact hP.ow6 hg'
    · rw [q0 9 (by omega) (by omega), q0 14 (by omega) (by omega)]
      intro hs
      refine ⟨(hP.ovr hs).1, fun d' hd' hg' k hk => ?_⟩
      rw [qG] at hg' ⊢
      have n' := kN hd'
      by_cases e : d' = d
      · subst e
        rw [if_pos rfl, gwe, ng3_g hP hd hb (by omega) (by omega) (by omega)]
      · rw [if_neg e] at hg' ⊢
        rw [gwe, gold2 d' _ hd' hg' (by omega)]
        exact (hP.ovr hs).2 d' hd' hg' k hk
    · rw [c1]; exact hP.nm
    · rw [c1]; exact hP.so
    · rw [c1]; exact hP.pm
    · intro k hk
      have ek := adI (a := ctl m i) (k := 44 + 4 * k) (by omega) (by omega) (by omega)
      rw [hct, gwe, gold _ (by omega) (by omega)]
      exact hP.cz k hk
    · rw [q0 3 (by omega) (by omega)]; exact hP.pce
    · intro d' hd' hg' x hx
      rw [qG] at hg' ⊢
      have n' := kN hd'
      by_cases e : d' = d
      · subst e
        rw [if_pos rfl, gwe, ng3_g hP hd hb (by omega) (by omega) (by omega)]
        decide
      · rw [if_neg e] at hg' ⊢
        rw [gwe, gold2 d' _ hd' hg' (by omega)]
        exact hP.sfe d' hd' hg' x hx
    · rw [qc _ (by omega) (by omega), ng3_c _ _ _ (by omega)]; exact hP.r0
  have kN' : cnt (ngC m i d) = cnt (ng3 m i d) := cnt_cg (by rw [qc _ (by omega) (by omega)])
  have o3 : ng3 m i d 0 10 = 1 := by rw [ng3_c _ _ _ (by omega)]; exact ho
  exact (Inv.upd (I3) (Nat.le_refl B) ([14 + 5 * i, 14 + 5 * i + 4]) (fun k hk => by simp only [List.mem_cons, List.not_mem_nil, or_false, not_or] at hk; exact hm k hk) (by first | (refine Or.inl (And.intro ?_ ?_) <;> first | (simp only [List.mem_cons, List.not_mem_nil, or_false, forall_eq_or_imp, forall_eq, false_implies, implies_true, and_true] <;> omega) | (repeat' (first | exact True.intro | rfl | refine And.intro ?_ ?_ | (rw [sv_ne _ _ _ _ (by omega)]) | (rw [up_cell _ _ _ (by omega)]) | (rw [fil_cell _ _ _ _ _ (by omega)]) | (rw [hM _ (by omega)]) | (rw [hm _ (by omega)])))) | (have t_ := Inv.tl (I3); exact Or.inr t_)) (by first | (refine Or.inl (And.intro ?_ ?_) <;> first | (simp only [List.mem_cons, List.not_mem_nil, or_false, forall_eq_or_imp, forall_eq, false_implies, implies_true, and_true] <;> omega) | (repeat' (first | exact True.intro | rfl | refine And.intro ?_ ?_ | (rw [sv_ne _ _ _ _ (by omega)]) | (rw [up_cell _ _ _ (by omega)]) | (rw [fil_cell _ _ _ _ _ (by omega)]) | (rw [hM _ (by omega)]) | (rw [hm _ (by omega)])))) | (have t_ := Inv.tp (I3); exact Or.inr t_)) (by first | (refine Or.inl (And.intro ?_ ?_) <;> first | (simp only [List.mem_cons, List.not_mem_nil, or_false, forall_eq_or_imp, forall_eq, false_implies, implies_true, and_true] <;> omega) | (repeat' (first | exact True.intro | rfl | refine And.intro ?_ ?_ | (rw [sv_ne _ _ _ _ (by omega)]) | (rw [up_cell _ _ _ (by omega)]) | (rw [fil_cell _ _ _ _ _ (by omega)]) | (rw [hM _ (by omega)]) | (rw [hm _ (by omega)])))) | (have t_ := Inv.on (I3); exact Or.inr t_)) (by first | (refine Or.inl (And.intro ?_ ?_) <;> first | (simp only [List.mem_cons, List.not_mem_nil, or_false, forall_eq_or_imp, forall_eq, false_implies, implies_true, and_true] <;> omega) | (repeat' (first | exact True.intro | rfl | refine And.intro ?_ ?_ | (rw [sv_ne _ _ _ _ (by omega)]) | (rw [up_cell _ _ _ (by omega)]) | (rw [fil_cell _ _ _ _ _ (by omega)]) | (rw [hM _ (by omega)]) | (rw [hm _ (by omega)])))) | (have t_ := Inv.off (I3); exact Or.inr t_)) (by first | (refine Or.inl (And.intro ?_ ?_) <;> first | (simp only [List.mem_cons, List.not_mem_nil, or_false, forall_eq_or_imp, forall_eq, false_implies, implies_true, and_true] <;> omega) | (repeat' (first | exact True.intro | rfl | refine And.intro ?_ ?_ | (rw [sv_ne _ _ _ _ (by omega)]) | (rw [up_cell _ _ _ (by omega)]) | (rw [fil_cell _ _ _ _ _ (by omega)]) | (rw [hM _ (by omega)]) | (rw [hm _ (by omega)])))) | (have t_ := Inv.cn (I3); exact Or.inr t_)) (by first | (refine Or.inl (And.intro ?_ ?_) <;> first | (simp only [List.mem_cons, List.not_mem_nil, or_false, forall_eq_or_imp, forall_eq, false_implies, implies_true, and_true] <;> omega) | (repeat' (first | exact True.intro | rfl | refine And.intro ?_ ?_ | (rw [sv_ne _ _ _ _ (by omega)]) | (rw [up_cell _ _ _ (by omega)]) | (rw [fil_cell _ _ _ _ _ (by omega)]) | (rw [hM _ (by omega)]) | (rw [hm _ (by omega)])))) | (have t_ := Inv.ev (I3); exact Or.inr t_)) (by first | (refine Or.inl (And.intro ?_ ?_) <;> first | (simp only [List.mem_cons, List.not_mem_nil, or_false, forall_eq_or_imp, forall_eq, false_implies, implies_true, and_true] <;> omega) | (repeat' (first | exact True.intro | rfl | refine And.intro ?_ ?_ | (rw [sv_ne _ _ _ _ (by omega)]) | (rw [up_cell _ _ _ (by omega)]) | (rw [fil_cell _ _ _ _ _ (by omega)]) | (rw [hM _ (by omega)]) | (rw [hm _ (by omega)])))) | (have t_ := Inv.out (I3); exact Or.inr t_)) (Or.inr (by
    intro j hj
    by_cases e : j = i
    · subst e; rw [q0 0 (by omega) (by omega)]; exact hI.num j hj
    · rw [hm _ (by omega)]; exact I3.num j hj)) (by first | (refine Or.inl (And.intro ?_ ?_) <;> first | (simp only [List.mem_cons, List.not_mem_nil, or_false, forall_eq_or_imp, forall_eq, false_implies, implies_true, and_true] <;> omega) | (repeat' (first | exact True.intro | rfl | refine And.intro ?_ ?_ | (rw [sv_ne _ _ _ _ (by omega)]) | (rw [up_cell _ _ _ (by omega)]) | (rw [fil_cell _ _ _ _ _ (by omega)]) | (rw [hM _ (by omega)]) | (rw [hm _ (by omega)])))) | (have t_ := Inv.crc (I3); exact Or.inr t_)) (by first | (refine Or.inl (And.intro ?_ ?_) <;> first | (simp only [List.mem_cons, List.not_mem_nil, or_false, forall_eq_or_imp, forall_eq, false_implies, implies_true, and_true] <;> omega) | (repeat' (first | exact True.intro | rfl | refine And.intro ?_ ?_ | (rw [sv_ne _ _ _ _ (by omega)]) | (rw [up_cell _ _ _ (by omega)]) | (rw [fil_cell _ _ _ _ _ (by omega)]) | (rw [hM _ (by omega)]) | (rw [hm _ (by omega)])))) | (have t_ := Inv.bk (I3); exact Or.inr t_)) (by first | (refine Or.inl (And.intro ?_ ?_) <;> first | (simp only [List.mem_cons, List.not_mem_nil, or_false, forall_eq_or_imp, forall_eq, false_implies, implies_true, and_true] <;> omega) | (repeat' (first | exact True.intro | rfl | refine And.intro ?_ ?_ | (rw [sv_ne _ _ _ _ (by omega)]) | (rw [up_cell _ _ _ (by omega)]) | (rw [fil_cell _ _ _ _ _ (by omega)]) | (rw [hM _ (by omega)]) | (rw [hm _ (by omega)])))) | (have t_ := Inv.bk1 (I3); exact Or.inr t_)) (by first | (refine Or.inl (And.intro ?_ ?_) <;> first | (simp only [List.mem_cons, List.not_mem_nil, or_false, forall_eq_or_imp, forall_eq, false_implies, implies_true, and_true] <;> omega) | (repeat' (first | exact True.intro | rfl | refine And.intro ?_ ?_ | (rw [sv_ne _ _ _ _ (by omega)]) | (rw [up_cell _ _ _ (by omega)]) | (rw [fil_cell _ _ _ _ _ (by omega)]) | (rw [hM _ (by omega)]) | (rw [hm _ (by omega)])))) | (have t_ := Inv.pw (I3); exact Or.inr t_)) (by first | (refine Or.inl (And.intro ?_ ?_) <;> first | (simp only [List.mem_cons, List.not_mem_nil, or_false, forall_eq_or_imp, forall_eq, false_implies, implies_true, and_true] <;> omega) | (repeat' (first | exact True.intro | rfl | refine And.intro ?_ ?_ | (rw [sv_ne _ _ _ _ (by omega)]) | (rw [up_cell _ _ _ (by omega)]) | (rw [fil_cell _ _ _ _ _ (by omega)]) | (rw [hM _ (by omega)]) | (rw [hm _ (by omega)])))) | (have t_ := Inv.kd (I3); exact Or.inr t_)) (by first | (refine Or.inl (And.intro ?_ ?_) <;> first | (simp only [List.mem_cons, List.not_mem_nil, or_false, forall_eq_or_imp, forall_eq, false_implies, implies_true, and_true] <;> omega) | (repeat' (first | exact True.intro | rfl | refine And.intro ?_ ?_ | (rw [sv_ne _ _ _ _ (by omega)]) | (rw [up_cell _ _ _ (by omega)]) | (rw [fil_cell _ _ _ _ _ (by omega)]) | (rw [hM _ (by omega)]) | (rw [hm _ (by omega)])))) | (have t_ := Inv.tn (I3); exact Or.inr t_)) (by first | (refine Or.inl (And.intro ?_ ?_) <;> first | (simp only [List.mem_cons, List.not_mem_nil, or_false, forall_eq_or_imp, forall_eq, false_implies, implies_true, and_true] <;> omega) | (repeat' (first | exact True.intro | rfl | refine And.intro ?_ ?_ | (rw [sv_ne _ _ _ _ (by omega)]) | (rw [up_cell _ _ _ (by omega)]) | (rw [fil_cell _ _ _ _ _ (by omega)]) | (rw [hM _ (by omega)]) | (rw [hm _ (by omega)])))) | (have t_ := Inv.ask (I3); exact Or.inr t_)) (Or.inr (by
    intro _ j hj hu
    rw [kN'] at hj
    rw [hm 62 (by omega), hm 59 (by omega)]
    unfold undW at hu
    rw [gwe] at hu
    by_cases e : j = i
    · subst e
      rw [qG] at hu
      by_cases e1 : 1 = d
      · subst e1
        rw [if_pos rfl] at hu
        exact absurd (ng3_g hP hd hb (k := 64) (by decide) (by omega) (by omega)) hu.2
      · rw [if_neg e1] at hu
        exact I3.askW o3 j hj (by unfold undW; rw [ng3_c _ _ _ (by omega)]; exact hu)
    · rw [hm _ (by omega)] at hu
      exact I3.askW o3 j hj hu)) (Or.inr (by
    intro _ j hj hu
    rw [kN'] at hj
    rw [hm 63 (by omega), hm 59 (by omega)]
    unfold undR at hu
    rw [gwe] at hu
    by_cases e : j = i
    · subst e
      rw [qG] at hu
      by_cases e1 : 1 = d
      · subst e1
        rw [if_pos rfl] at hu
        exact absurd (ng3_g hP hd hb (k := 72) (by decide) (by omega) (by omega)) hu.2
      · rw [if_neg e1] at hu
        exact I3.askR o3 j hj (by unfold undR; rw [ng3_c _ _ _ (by omega)]; exact hu)
    · rw [hm _ (by omega)] at hu
      exact I3.askR o3 j hj hu)) (by first | (refine Or.inl (And.intro ?_ ?_) <;> first | (simp only [List.mem_cons, List.not_mem_nil, or_false, forall_eq_or_imp, forall_eq, false_implies, implies_true, and_true] <;> omega) | (repeat' (first | exact True.intro | rfl | refine And.intro ?_ ?_ | (rw [sv_ne _ _ _ _ (by omega)]) | (rw [up_cell _ _ _ (by omega)]) | (rw [fil_cell _ _ _ _ _ (by omega)]) | (rw [hM _ (by omega)]) | (rw [hm _ (by omega)])))) | (have t_ := Inv.lv0 (I3); exact Or.inr t_)) (by first | (refine Or.inl (And.intro ?_ ?_) <;> first | (simp only [List.mem_cons, List.not_mem_nil, or_false, forall_eq_or_imp, forall_eq, false_implies, implies_true, and_true] <;> omega) | (repeat' (first | exact True.intro | rfl | refine And.intro ?_ ?_ | (rw [sv_ne _ _ _ _ (by omega)]) | (rw [up_cell _ _ _ (by omega)]) | (rw [fil_cell _ _ _ _ _ (by omega)]) | (rw [hM _ (by omega)]) | (rw [hm _ (by omega)])))) | (have t_ := Inv.lv2 (I3); exact Or.inr t_)) (by first | (refine Or.inl (And.intro ?_ ?_) <;> first | (simp only [List.mem_cons, List.not_mem_nil, or_false, forall_eq_or_imp, forall_eq, false_implies, implies_true, and_true] <;> omega) | (repeat' (first | exact True.intro | rfl | refine And.intro ?_ ?_ | (rw [sv_ne _ _ _ _ (by omega)]) | (rw [up_cell _ _ _ (by omega)]) | (rw [fil_cell _ _ _ _ _ (by omega)]) | (rw [hM _ (by omega)]) | (rw [hm _ (by omega)])))) | (have t_ := Inv.pl (I3); exact Or.inr t_)) (Or.inr (by
    intro _ j hj
    rw [kN'] at hj
    by_cases e : j = i
    · subst e; exact hPI
    · exact (PI.upd (I3.p hj) ([14 + 5 * i, 14 + 5 * i + 4]) (fun k hk => by simp only [List.mem_cons, List.not_mem_nil, or_false, not_or] at hk; exact hm k hk) (by first | (refine Or.inl ?_; simp only [List.mem_cons, List.not_mem_nil, or_false, forall_eq_or_imp, forall_eq, false_implies, implies_true, and_true] <;> omega) | (have t_ := PI.blk (I3.p hj); exact Or.inr t_)) (by first | (refine Or.inl ?_; simp only [List.mem_cons, List.not_mem_nil, or_false, forall_eq_or_imp, forall_eq, false_implies, implies_true, and_true] <;> omega) | (have t_ := PI.ord (I3.p hj); exact Or.inr t_)) (by first | (refine Or.inl ?_; simp only [List.mem_cons, List.not_mem_nil, or_false, forall_eq_or_imp, forall_eq, false_implies, implies_true, and_true] <;> omega) | (have t_ := PI.app (I3.p hj); exact Or.inr t_)) (by first | (refine Or.inl ?_; simp only [List.mem_cons, List.not_mem_nil, or_false, forall_eq_or_imp, forall_eq, false_implies, implies_true, and_true] <;> omega) | (have t_ := PI.hd (I3.p hj); exact Or.inr t_)) (by first | (refine Or.inl ?_; simp only [List.mem_cons, List.not_mem_nil, or_false, forall_eq_or_imp, forall_eq, false_implies, implies_true, and_true] <;> omega) | (have t_ := PI.ram (I3.p hj); exact Or.inr t_)) (by first | (refine Or.inl ?_; simp only [List.mem_cons, List.not_mem_nil, or_false, forall_eq_or_imp, forall_eq, false_implies, implies_true, and_true] <;> omega) | (have t_ := PI.st (I3.p hj); exact Or.inr t_)) (by first | (refine Or.inl ?_; simp only [List.mem_cons, List.not_mem_nil, or_false, forall_eq_or_imp, forall_eq, false_implies, implies_true, and_true] <;> omega) | (have t_ := PI.he (I3.p hj); exact Or.inr t_)) (by first | (refine Or.inl ?_; simp only [List.mem_cons, List.not_mem_nil, or_false, forall_eq_or_imp, forall_eq, false_implies, implies_true, and_true] <;> omega) | (have t_ := PI.qn (I3.p hj); exact Or.inr t_)) (by first | (refine Or.inl ?_; simp only [List.mem_cons, List.not_mem_nil, or_false, forall_eq_or_imp, forall_eq, false_implies, implies_true, and_true] <;> omega) | (have t_ := PI.q (I3.p hj); exact Or.inr t_)) (by first | (refine Or.inl ?_; simp only [List.mem_cons, List.not_mem_nil, or_false, forall_eq_or_imp, forall_eq, false_implies, implies_true, and_true] <;> omega) | (have t_ := PI.gr (I3.p hj); exact Or.inr t_)) (by first | (refine Or.inl ?_; simp only [List.mem_cons, List.not_mem_nil, or_false, forall_eq_or_imp, forall_eq, false_implies, implies_true, and_true] <;> omega) | (have t_ := PI.bf (I3.p hj); exact Or.inr t_)) (by first | (refine Or.inl ?_; simp only [List.mem_cons, List.not_mem_nil, or_false, forall_eq_or_imp, forall_eq, false_implies, implies_true, and_true] <;> omega) | (have t_ := PI.ow1 (I3.p hj); exact Or.inr t_)) (by first | (refine Or.inl ?_; simp only [List.mem_cons, List.not_mem_nil, or_false, forall_eq_or_imp, forall_eq, false_implies, implies_true, and_true] <;> omega) | (have t_ := PI.ow6 (I3.p hj); exact Or.inr t_)) (by first | (refine Or.inl ?_; simp only [List.mem_cons, List.not_mem_nil, or_false, forall_eq_or_imp, forall_eq, false_implies, implies_true, and_true] <;> omega) | (have t_ := PI.ovr (I3.p hj); exact Or.inr t_)) (by first | (refine Or.inl ?_; simp only [List.mem_cons, List.not_mem_nil, or_false, forall_eq_or_imp, forall_eq, false_implies, implies_true, and_true] <;> omega) | (have t_ := PI.nm (I3.p hj); exact Or.inr t_)) (by first | (refine Or.inl ?_; simp only [List.mem_cons, List.not_mem_nil, or_false, forall_eq_or_imp, forall_eq, false_implies, implies_true, and_true] <;> omega) | (have t_ := PI.so (I3.p hj); exact Or.inr t_)) (by first | (refine Or.inl ?_; simp only [List.mem_cons, List.not_mem_nil, or_false, forall_eq_or_imp, forall_eq, false_implies, implies_true, and_true] <;> omega) | (have t_ := PI.pm (I3.p hj); exact Or.inr t_)) (by first | (refine Or.inl ?_; simp only [List.mem_cons, List.not_mem_nil, or_false, forall_eq_or_imp, forall_eq, false_implies, implies_true, and_true] <;> omega) | (have t_ := PI.cz (I3.p hj); exact Or.inr t_)) (by first | (refine Or.inl ?_; simp only [List.mem_cons, List.not_mem_nil, or_false, forall_eq_or_imp, forall_eq, false_implies, implies_true, and_true] <;> omega) | (have t_ := PI.pce (I3.p hj); exact Or.inr t_)) (by first | (refine Or.inl ?_; simp only [List.mem_cons, List.not_mem_nil, or_false, forall_eq_or_imp, forall_eq, false_implies, implies_true, and_true] <;> omega) | (have t_ := PI.sfe (I3.p hj); exact Or.inr t_)) (by first | (refine Or.inl ?_; simp only [List.mem_cons, List.not_mem_nil, or_false, forall_eq_or_imp, forall_eq, false_implies, implies_true, and_true] <;> omega) | (have t_ := PI.r0 (I3.p hj); exact Or.inr t_))))) (Or.inr (by
    intro _ j l' hl hjl
    rw [kN'] at hl
    have := I3.dis o3 j l' hl hjl
    have h55 : ∀ q, q < cnt (ng3 m i d) → ngC m i d (14 + 5 * q) 5 = ng3 m i d (14 + 5 * q) 5 ∧ ngC m i d (14 + 5 * q) 6 = ng3 m i d (14 + 5 * q) 6 := fun q hq => by
      by_cases e : q = i
      · subst e; rw [q0 5 (by omega) (by omega), q0 6 (by omega) (by omega), ng3_c _ _ _ (by omega)]; exact ⟨rfl, rfl⟩
      · rw [hm _ (by omega)]; exact ⟨rfl, rfl⟩
    rw [(h55 j (by omega)).1, (h55 j (by omega)).2, (h55 l' hl).1]
    exact this)))
theorem c_85 {kc : it_Kc} (hk : KC kc) {B : Nat} {m : it_Me} (hI : Inv B m) {i d : Nat} (hi : i < cnt m) (hd : d < 9) {Φ : Int32 → it_Me → Prop} (h1 : d = 2 ∨ m (14 + 5 * i + 4) d ≠ 0 → Φ 1 m) (h2 : d ≠ 2 → m (14 + 5 * i + 4) d = 0 → (nAt m i d).toInt < (m (14 + 5 * i) 7).toInt → Φ 0 m) (h3 : d ≠ 2 → m (14 + 5 * i + 4) d = 0 → (m (14 + 5 * i) 7).toInt ≤ (nAt m i d).toInt → Φ 1 (ngC m i d)) : w_85 kc (14 + 5 * i) (nI d) m Φ := by
  have hP := hI.p hi
  have l := hP.low0
  have o := hP.ord
  have n := kN hd
  have g4 := gsz4 hd
  unfold w_85 w_85_14
  rw [nI_clamp (by omega)]
  refine ⟨fun q => h1 (Or.inl ((nI_eq (by omega) (by omega)).mp q)), fun q => ⟨v9 hd, fun q2 => c_86 hk hd ⟨fun q3 => ?_, fun q3 => ?_⟩, fun q2 => h1 (Or.inr q2)⟩⟩
  · have hb : (m (14 + 5 * i) 7).toInt ≤ (nAt m i d).toInt := Int32.le_iff_toInt_le.mp q3
    have a := nAt_I hP hd hb
    have h := h3 (fun e => q (by rw [e]; rfl)) q2 hb
    have eg := nI_toInt (n := gsz d) (by omega)
    refine c_18 a.2.1 (by omega) (by omega) (by show (nAt m i d).toInt + _ ≤ _; omega) (c_13 ?_)
    rw [eg, Int.toNat_natCast]
    have eP : ∀ c, pw (it_fil m 2 (wi (nAt m i d)) (wi (nAt m i d) + gsz d / 4) 0) (nAt m i d) (nI d) (14 + 5 * i) c = m (14 + 5 * i) c := fun c => by rw [pw_c _ _ _ (by omega), fil_n1 _ _ _ _ _ _ (by omega)]
    unfold w_85_84
    rw [show m (14 + 5 * i) 8 - nI (gsz d) = nAt m i d from rfl, nI_clamp (by omega), eP, eP]
    unfold ngC ng3 at h
    refine ⟨fun z => c_13 ⟨v9 hd, ?_⟩, fun z => c_13 ⟨v9 hd, ?_⟩⟩
    · rw [if_pos z] at h
      rw [sv_n1 _ _ _ _ _ (by omega), sv_n2 _ _ _ _ (by omega), pw_c _ _ _ (by omega)]
      show Φ 1 (it_sv _ _ _ (pw (it_fil m 2 (wi (nAt m i d)) (wi (nAt m i d) + gsz d / 4) 0) (nAt m i d) (nI d) (14 + 5 * i) 18 + 1))
      rw [eP]
      exact h
    · rw [if_neg z] at h
      rw [sv_n1 _ _ _ _ _ (by omega), sv_n2 _ _ _ _ (by omega), pw_c _ _ _ (by omega)]
      show Φ 1 (it_sv _ _ _ (pw (it_fil m 2 (wi (nAt m i d)) (wi (nAt m i d) + gsz d / 4) 0) (nAt m i d) (nI d) (14 + 5 * i) 18 + 1))
      rw [eP]
      exact h
  · refine h2 (fun e => q (by rw [e]; rfl)) q2 ?_
    have : ¬ (m (14 + 5 * i) 7).toInt ≤ (nAt m i d).toInt := fun z => q3 (Int32.le_iff_toInt_le.mpr z)
    omega
theorem r_273l {kc : it_Kc} {Φ : it_Me → Prop} {Ψ : Int32 → it_Me → Prop} {K : Int32 → Int32 → Int32 → it_Me → Prop} {i : Nat} (i8 : i < 8) {y v4 lo : Int32} (h5 : lo.toInt ≤ 196608) : ∀ (r : Nat) (N : it_Me) (v5 : Int32), N 92 i = lo → 65536 ≤ v5.toInt → v5.toInt % 4 = 0 → v5.toInt + 4 * r = lo.toInt → K (nI i) y v4 (it_fil N 67 (Int32.toNatClampNeg v5) (Int32.toNatClampNeg lo) 0) → w_273_44 kc Ψ K (r + 1) (nI i) y v4 v5 N := by
  intro r
  induction r with
  | zero =>
    intro N v5 hN h0 h4 hr h
    have e : v5 = lo := Int32.toInt_inj.mp (by omega)
    subst e
    rw [fil_e] at h
    unfold w_273_44
    rw [cI i8, hN]
    exact ⟨vI i8, fun _ => h, fun q => absurd (by rw [Int32.le_iff_toInt_le]; omega) q⟩
  | succ r ih =>
    intro N v5 hN h0 h4 hr h
    have e4 : (v5 + 4).toInt = v5.toInt + 4 := adI (k := 4) (by omega) (by omega) (by omega)
    unfold w_273_44
    rw [cI i8, hN]
    refine ⟨vI i8, fun q => ?_, fun _ => r_221 0 ⟨by omega, by omega⟩ h4 (ih _ _ (by rw [pwM_c _ _ _ (by omega)]; exact hN) (by omega) (by omega) (by omega) ?_)⟩
    · exfalso; rw [Int32.le_iff_toInt_le] at q; omega
    · have f4 : Int32.toNatClampNeg (v5 + 4) = Int32.toNatClampNeg v5 + 4 := by rw [clampI, clampI, e4]; omega
      have f5 : Int32.toNatClampNeg v5 + 4 ≤ Int32.toNatClampNeg lo := by rw [clampI, clampI]; omega
      have : it_fil (pwM N v5 0) 67 (Int32.toNatClampNeg (v5 + 4)) (Int32.toNatClampNeg lo) 0 = it_fil N 67 (Int32.toNatClampNeg v5) (Int32.toNatClampNeg lo) 0 := by
        rw [f4]
        funext a y
        by_cases ha : a = 67
        · subst ha
          rw [fil_rd, fil_rd, pwM_r]
          by_cases q1 : Int32.toNatClampNeg v5 + 4 ≤ y ∧ y < Int32.toNatClampNeg lo
          · rw [if_pos q1, if_pos (by omega)]
          · rw [if_neg q1]
            by_cases q2 : Int32.toNatClampNeg v5 ≤ y ∧ y < Int32.toNatClampNeg v5 + 4
            · rw [if_pos q2, if_pos (by omega), sb_0 (by omega)]
            · rw [if_neg q2, if_neg (by omega)]
        · rw [fil_cell _ _ _ _ _ ha, fil_cell _ _ _ _ _ ha, pwM_c _ _ _ ha]
      rw [this]
      exact h
noncomputable def ngN (m M : it_Me) (i d : Nat) : it_Me := pwM (pwM (it_fil M 67 (Int32.toNatClampNeg (nAt m i d)) (Int32.toNatClampNeg (m (14 + 5 * i) 8)) 0) (nAt m i d) (nI d)) (nAt m i d + 4) (if m (14 + 5 * i) 18 = 0 then 0 else m (14 + 5 * i) 8)
theorem ngN_c (m M : it_Me) (i d : Nat) {k : Nat} (h : k ≠ 67) : ngN m M i d k = M k := by
  unfold ngN
  rw [pwM_c _ _ _ h, pwM_c _ _ _ h, fil_cell _ _ _ _ _ h]
theorem ng3_R {B : Nat} {m M : it_Me} (hI : Inv B m) (hR : Rel m M) {i d : Nat} (hi : i < cnt m) (hd : d < 9) (hb : (m (14 + 5 * i) 7).toInt ≤ (nAt m i d).toInt) : Rel (ng3 m i d) (ngN m M i d) := by
  have hP := hI.p hi
  have a := nAt_I hP hd hb
  have l := hP.low0
  have n := kN hd
  have g4 := gsz4 hd
  have o := hP.ord
  refine hR.own hI hi (fun k hk => ng3_c _ _ _ hk) (ng3_w hP hd hb) (fun k hk => ngN_c _ _ _ _ hk) (fun w hw hx j hj => ?_)
  unfold ngN
  rw [ng3_rd hP hd hb, pwM_r, pwM_r, fil_rd]
  have c0 : (Int32.toNatClampNeg (nAt m i d) : Int) = (nAt m i d).toInt := by rw [clampI]; omega
  have c4 : (Int32.toNatClampNeg (nAt m i d + 4) : Int) = (nAt m i d).toInt + 4 := by rw [clampI]; omega
  have cl : (Int32.toNatClampNeg (m (14 + 5 * i) 8) : Int) = (m (14 + 5 * i) 8).toInt := by rw [clampI]; omega
  by_cases q1 : 65536 + 4 * (w : Int) = (nAt m i d).toInt + 4
  · rw [if_pos q1, if_pos (by omega), show 65536 + 4 * w + j - Int32.toNatClampNeg (nAt m i d + 4) = j by omega]
  rw [if_neg q1, if_neg (by omega)]
  by_cases q2 : 65536 + 4 * (w : Int) = (nAt m i d).toInt
  · rw [if_pos q2, if_pos (by omega), show 65536 + 4 * w + j - Int32.toNatClampNeg (nAt m i d) = j by omega]
  rw [if_neg q2, if_neg (by omega)]
  by_cases q3 : (nAt m i d).toInt ≤ 65536 + 4 * (w : Int) ∧ 65536 + 4 * (w : Int) < (m (14 + 5 * i) 8).toInt
  · rw [if_pos q3, if_pos (by omega), sb_0 hj]
  · rw [if_neg q3, if_neg (by omega)]
    exact hR.mem w hw hx j hj
theorem ng_R {B : Nat} {m M : it_Me} (hI : Inv B m) (hR : Rel m M) {i d : Nat} (hi : i < cnt m) (hd : d < 9) (hb : (m (14 + 5 * i) 7).toInt ≤ (nAt m i d).toInt) : Rel (ngC m i d) (it_sv (ngN m M i d) 92 i (nAt m i d)) := by
  have h8 := cnt_le hI
  have hP := hI.p hi
  have R1 := ng3_R hI hR hi hd hb
  have k1 : cnt (ng3 m i d) = cnt m := cnt_cg (by rw [ng3_c _ _ _ (by omega)])
  have R2 := R1.ps1 (i := i) (a := 92) (c := 8) (by omega) (by omega) (by decide) (by omega) (by omega) (nAt m i d) (fun q => absurd q (by omega)) (fun q => absurd q (by omega))
  have k2 : cnt (it_sv (ng3 m i d) (14 + 5 * i) 8 (nAt m i d)) = cnt m := by rw [cnt_sv _ _ _ (by omega), k1]
  have R3 := R2.gset (i := i) (d := d) (by omega) (by omega) (nAt m i d) (fun e => by
    subst e
    rw [gw_sv _ _ _ _ (by omega), gw_sv _ _ _ _ (by omega)]
    exact ⟨ng3_g hP hd hb (k := 64) (by decide) (by omega) (by omega), ng3_g hP hd hb (k := 72) (by decide) (by omega) (by omega)⟩)
  have k3 : cnt (it_sv (it_sv (ng3 m i d) (14 + 5 * i) 8 (nAt m i d)) (14 + 5 * i + 4) d (nAt m i d)) = cnt m := by rw [cnt_sv _ _ _ (by omega), k2]
  exact R3.pf0 (i := i) (by omega) (by omega) rfl (m (14 + 5 * i) 18 + 1)
theorem r_273 {kc : it_Kc} {B : Nat} {m M : it_Me} (hI : Inv B m) (hR : Rel m M) {i d : Nat} (hi : i < cnt m) (hd : d < 9) (hd2 : d ≠ 2) {Φ : Int32 → it_Me → Prop} (h1 : m (14 + 5 * i + 4) d ≠ 0 → Φ (m (14 + 5 * i + 4) d) M) (h2 : m (14 + 5 * i + 4) d = 0 → (nAt m i d).toInt < (m (14 + 5 * i) 7).toInt → Φ (-1) M) (h3 : m (14 + 5 * i + 4) d = 0 → (m (14 + 5 * i) 7).toInt ≤ (nAt m i d).toInt → ∀ M', Rel (ngC m i d) M' → FrM M M' → Φ (nAt m i d) M') : w_273 kc (nI i) (nI d) M Φ := by
  have h8 := cnt_le hI
  have i8 : i < 8 := by omega
  have hP := hI.p hi
  have l := hP.low0
  have o := hP.ord
  have n := kN hd
  have g4 := gsz4 hd
  unfold w_273
  refine r_272 hI hR hi hd ?_
  by_cases hg : m (14 + 5 * i + 4) d = 0
  · rw [if_pos hg, cI i8, hR.low hi]
    refine ⟨fun _ => ⟨vI i8, r_268 hd ?_⟩, fun q => absurd rfl q⟩
    rw [hR.brk hi]
    refine ⟨vI i8, fun q => ?_, fun q => ?_⟩
    · have hb : (m (14 + 5 * i) 7).toInt ≤ (nAt m i d).toInt := Int32.le_iff_toInt_le.mp q
      have a := nAt_I hP hd hb
      refine ⟨gsz d / 4 + 1, r_273l (Φ := fun _ => True) i8 (lo := m (14 + 5 * i) 8) (by omega) (gsz d / 4) M _ (hR.low hi) (by show 65536 ≤ (nAt m i d).toInt; omega) a.2.2.2.2.1 (by show (nAt m i d).toInt + _ = _; omega) ?_⟩
      unfold w_273_68
      refine r_221 _ a.2.1 a.2.2.2.2.1 ?_
      unfold w_252 w_273_104
      rw [cI i8, show m (14 + 5 * i) 8 - nI (gsz d) = nAt m i d from rfl]
      dsimp only
      have e92 : ∀ N : it_Me, pwM (it_fil N 67 (Int32.toNatClampNeg (nAt m i d)) (Int32.toNatClampNeg (m (14 + 5 * i) 8)) 0) (nAt m i d) (nI d) 92 i = N 92 i := fun N => by rw [pwM_c _ _ _ (by omega), fil_n1 _ _ _ _ _ _ (by omega)]
      have e89 : ∀ N : it_Me, pwM (it_fil N 67 (Int32.toNatClampNeg (nAt m i d)) (Int32.toNatClampNeg (m (14 + 5 * i) 8)) 0) (nAt m i d) (nI d) 89 i = N 89 i := fun N => by rw [pwM_c _ _ _ (by omega), fil_n1 _ _ _ _ _ _ (by omega)]
      have e90 : ∀ N : it_Me, pwM (it_fil N 67 (Int32.toNatClampNeg (nAt m i d)) (Int32.toNatClampNeg (m (14 + 5 * i) 8)) 0) (nAt m i d) (nI d) 90 i = N 90 i := fun N => by rw [pwM_c _ _ _ (by omega), fil_n1 _ _ _ _ _ _ (by omega)]
      rw [e92, e89, e90, hR.low hi, hR.base hi, hR.size hi]
      have hf := h3 hg hb _ (ng_R hI hR hi hd hb) (fun k hk => by rw [sv_cell _ _ _ _ (by omega), ngN_c _ _ _ _ (by omega)])
      have ez : m (14 + 5 * i) 18 = 0 ↔ m (14 + 5 * i) 8 = ctl m i := by
        obtain ⟨ds, q1, q2, q3, q4⟩ := hP.gr
        have hlen := Ch_len (by omega) ds _ q1 (by omega)
        rw [q4]
        cases ds with
        | nil => exact ⟨fun _ => q1, fun _ => rfl⟩
        | cons y ds =>
          constructor
          · intro q
            exfalso
            rw [show (0 : Int32) = nI 0 from rfl, nI_eq (by omega) (by omega)] at q
            exact absurd q (by rw [List.length_cons]; omega)
          · intro q
            exfalso
            obtain ⟨p1, _, _, _, _, p6, _⟩ := q1
            have := kN p1
            rw [q] at p6
            omega
      unfold ngN at hf
      refine ⟨vI i8, vI i8, vI i8, fun z => r_221 _ a.2.2.1 (by omega) ⟨vI i8, ?_⟩, fun z => ⟨vI i8, r_221 _ a.2.2.1 (by omega) ⟨vI i8, ?_⟩⟩⟩
      · rw [if_pos (ez.mpr z)] at hf
        exact hf
      · rw [if_neg (fun q => z (ez.mp q))] at hf
        exact hf
    · refine h2 hg ?_
      have : ¬ (m (14 + 5 * i) 7).toInt ≤ (nAt m i d).toInt := fun z => q (Int32.le_iff_toInt_le.mpr z)
      omega
  · rw [if_neg hg]
    have g := hP.gI hd hg
    refine ⟨fun q => ?_, fun _ => h1 hg⟩
    exfalso
    rw [q] at g
    have e1 : (-1 : Int32).toInt = -1 := by decide
    omega
