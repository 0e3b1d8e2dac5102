/-! The queue of upcalls; send and comes. -/
theorem PI.prc {m m' : it_Me} {i : Nat} (h : PI m i) (hm : ∀ k, k ≠ 14 + 5 * i → k ≠ 14 + 5 * i + 2 → k ≠ 14 + 5 * i + 3 → m' k = m k) (f5 : m' (14 + 5 * i) 5 = m (14 + 5 * i) 5) (f6 : m' (14 + 5 * i) 6 = m (14 + 5 * i) 6) (f7 : m' (14 + 5 * i) 7 = m (14 + 5 * i) 7) (f8 : m' (14 + 5 * i) 8 = m (14 + 5 * i) 8) (f18 : m' (14 + 5 * i) 18 = m (14 + 5 * i) 18)
  (hst : 1 ≤ (m' (14 + 5 * i) 9).toInt ∧ (m' (14 + 5 * i) 9).toInt ≤ 5) (hhe : m' (14 + 5 * i) 10 = 0 ∨ m' (14 + 5 * i) 10 = 1) (hqn : 0 ≤ (m' (14 + 5 * i) 14).toInt ∧ (m' (14 + 5 * i) 14).toInt ≤ 10)
  (hq : ∀ k : Nat, (k : Int) < (m' (14 + 5 * i) 14).toInt → ∃ d, d < 9 ∧ m' (14 + 5 * i + 3) (5 * k) = nI d ∧ m (14 + 5 * i + 4) d ≠ 0 ∧ 0 ≤ (m' (14 + 5 * i + 3) (5 * k + 1)).toInt ∧ (m' (14 + 5 * i + 3) (5 * k + 1)).toInt < (sbN d : Nat))
  (hov : m' (14 + 5 * i) 9 = 4 ∨ m' (14 + 5 * i) 9 = 5 → m' (14 + 5 * i) 14 = 0 ∧ ∀ d, d < 9 → m (14 + 5 * i + 4) d ≠ 0 → ∀ k, k < owN d → gw m (m (14 + 5 * i + 4) d + nI (owA d + 4 * k)) = 0)
  (hp3 : (m' (14 + 5 * i) 3).toInt % 2 = 0) (hr0 : m' (14 + 5 * i + 2) 0 = 0) : PI m' i := by
  have g1 : m' (14 + 5 * i + 1) = m (14 + 5 * i + 1) := hm _ (by omega) (by omega) (by omega)
  have g4 : m' (14 + 5 * i + 4) = m (14 + 5 * i + 4) := hm _ (by omega) (by omega) (by omega)
  have e2 : m' 2 = m 2 := hm _ (by omega) (by omega) (by omega)
  have hct : ctl m' i = ctl m i := by unfold ctl; rw [f5, f6]
  have hgw : ∀ x, gw m' x = gw m x := fun x => gw_cg e2 x
  have hCh : ∀ ds a, Ch m' i a ds ↔ Ch m i a ds := fun ds => by
    induction ds with
    | nil => intro a; simp only [Ch, hct]
    | cons d ds ih => intro a; simp only [Ch, hct, g4, hgw, ih]
  have hBf : ∀ a n w, Bf m' i a n w ↔ Bf m i a n w := fun a n w => by unfold Bf; rw [f5, f7, g1]
  refine PI.mk ?_ ?_ ?_ ?_ ?_ hst hhe hqn (by rw [g4]; exact hq) ?_ ?_ ?_ ?_ (by simp only [g4, hgw]; exact hov) ?_ ?_ ?_ ?_ hp3 ?_ hr0
  · rw [f5, f6]; exact h.blk
  · rw [f5, f7, f8, hct]; exact h.ord
  · rw [g1]; exact h.app
  · rw [g1, gh_cg e2]; exact h.hd
  · rw [f6, g1]; exact h.ram
  · simp only [f8, f18, g4, hCh]; exact h.gr
  · simp only [g4, hgw, hBf]; exact h.bf
  · simp only [g4, hgw]; exact h.ow1
  · simp only [g4, hgw]; exact h.ow6
  · rw [g1]; exact h.nm
  · rw [g1]; exact h.so
  · rw [g1]; exact h.pm
  · simp only [hct, hgw]; exact h.cz
  · simp only [g4, hgw]; exact h.sfe
theorem Rel.qw {m M : it_Me} (h : Rel m M) (h8 : cnt m ≤ 8) {i x : Nat} (hi : i < cnt m) (hx : x < 50) (hq : ∀ j, j < cnt m → (m (14 + 5 * j) 14).toInt ≤ 10) (v : Int32) : Rel (it_sv m (14 + 5 * i + 3) x v) (it_sv M 109 (50 * i + x) v) :=
  (Rel.upd (h) (h8) ([14 + 5 * i + 3]) ([109]) (by intro k hk; simp only [List.mem_cons, List.not_mem_nil, or_false, not_or, not_false_eq_true] at hk; first | rfl | (repeat (first | rw [sv_cell _ _ _ _ (by omega)] | rw [up_cell _ _ _ (by omega)] | rw [fil_cell _ _ _ _ _ (by omega)]))) (by intro k hk; simp only [List.mem_cons, List.not_mem_nil, or_false, not_or, not_false_eq_true] at hk; first | rfl | (repeat (first | rw [sv_cell _ _ _ _ (by omega)] | rw [up_cell _ _ _ (by omega)] | rw [fil_cell _ _ _ _ _ (by omega)]))) (by first | (refine Or.inl (And.intro ?_ (And.intro ?_ ?_)) <;> first | (simp only [List.mem_cons, List.not_mem_nil, or_false, forall_eq_or_imp, forall_eq, false_implies, implies_true, and_true] <;> omega) | (repeat' (first | exact True.intro | rfl | refine And.intro ?_ ?_ | (rw [sv_ne _ _ _ _ (by omega)]) | (rw [up_cell _ _ _ (by omega)]) | (rw [fil_cell _ _ _ _ _ (by omega)]) | (rw [hM _ (by omega)]) | (rw [hm _ (by omega)])))) | (have t_ := Rel.tapeLen (h); exact Or.inr t_)) (by first | (refine Or.inl (And.intro ?_ (And.intro ?_ ?_)) <;> first | (simp only [List.mem_cons, List.not_mem_nil, or_false, forall_eq_or_imp, forall_eq, false_implies, implies_true, and_true] <;> omega) | (repeat' (first | exact True.intro | rfl | refine And.intro ?_ ?_ | (rw [sv_ne _ _ _ _ (by omega)]) | (rw [up_cell _ _ _ (by omega)]) | (rw [fil_cell _ _ _ _ _ (by omega)]) | (rw [hM _ (by omega)]) | (rw [hm _ (by omega)])))) | (have t_ := Rel.on (h); exact Or.inr t_)) (by first | (refine Or.inl (And.intro ?_ (And.intro ?_ ?_)) <;> first | (simp only [List.mem_cons, List.not_mem_nil, or_false, forall_eq_or_imp, forall_eq, false_implies, implies_true, and_true] <;> omega) | (repeat' (first | exact True.intro | rfl | refine And.intro ?_ ?_ | (rw [sv_ne _ _ _ _ (by omega)]) | (rw [up_cell _ _ _ (by omega)]) | (rw [fil_cell _ _ _ _ _ (by omega)]) | (rw [hM _ (by omega)]) | (rw [hm _ (by omega)])))) | (have t_ := Rel.lost (h); exact Or.inr t_)) (by first | (refine Or.inl (And.intro ?_ (And.intro ?_ ?_)) <;> first | (simp only [List.mem_cons, List.not_mem_nil, or_false, forall_eq_or_imp, forall_eq, false_implies, implies_true, and_true] <;> omega) | (repeat' (first | exact True.intro | rfl | refine And.intro ?_ ?_ | (rw [sv_ne _ _ _ _ (by omega)]) | (rw [up_cell _ _ _ (by omega)]) | (rw [fil_cell _ _ _ _ _ (by omega)]) | (rw [hM _ (by omega)]) | (rw [hm _ (by omega)])))) | (have t_ := Rel.power (h); exact Or.inr t_)) (by first | (refine Or.inl (And.intro ?_ (And.intro ?_ ?_)) <;> first | (simp only [List.mem_cons, List.not_mem_nil, or_false, forall_eq_or_imp, forall_eq, false_implies, implies_true, and_true] <;> omega) | (repeat' (first | exact True.intro | rfl | refine And.intro ?_ ?_ | (rw [sv_ne _ _ _ _ (by omega)]) | (rw [up_cell _ _ _ (by omega)]) | (rw [fil_cell _ _ _ _ _ (by omega)]) | (rw [hM _ (by omega)]) | (rw [hm _ (by omega)])))) | (have t_ := Rel.time (h); exact Or.inr t_)) (by first | (refine Or.inl (And.intro ?_ (And.intro ?_ ?_)) <;> first | (simp only [List.mem_cons, List.not_mem_nil, or_false, forall_eq_or_imp, forall_eq, false_implies, implies_true, and_true] <;> omega) | (repeat' (first | exact True.intro | rfl | refine And.intro ?_ ?_ | (rw [sv_ne _ _ _ _ (by omega)]) | (rw [up_cell _ _ _ (by omega)]) | (rw [fil_cell _ _ _ _ _ (by omega)]) | (rw [hM _ (by omega)]) | (rw [hm _ (by omega)])))) | (have t_ := Rel.z (h); exact Or.inr t_)) (by first | (refine Or.inl (And.intro ?_ (And.intro ?_ ?_)) <;> first | (simp only [List.mem_cons, List.not_mem_nil, or_false, forall_eq_or_imp, forall_eq, false_implies, implies_true, and_true] <;> omega) | (repeat' (first | exact True.intro | rfl | refine And.intro ?_ ?_ | (rw [sv_ne _ _ _ _ (by omega)]) | (rw [up_cell _ _ _ (by omega)]) | (rw [fil_cell _ _ _ _ _ (by omega)]) | (rw [hM _ (by omega)]) | (rw [hm _ (by omega)])))) | (have t_ := Rel.count (h); exact Or.inr t_)) (by first | (refine Or.inl (And.intro ?_ (And.intro ?_ ?_)) <;> first | (simp only [List.mem_cons, List.not_mem_nil, or_false, forall_eq_or_imp, forall_eq, false_implies, implies_true, and_true] <;> omega) | (repeat' (first | exact True.intro | rfl | refine And.intro ?_ ?_ | (rw [sv_ne _ _ _ _ (by omega)]) | (rw [up_cell _ _ _ (by omega)]) | (rw [fil_cell _ _ _ _ _ (by omega)]) | (rw [hM _ (by omega)]) | (rw [hm _ (by omega)])))) | (have t_ := Rel.turn (h); exact Or.inr t_)) (by first | (refine Or.inl (And.intro ?_ (And.intro ?_ ?_)) <;> first | (simp only [List.mem_cons, List.not_mem_nil, or_false, forall_eq_or_imp, forall_eq, false_implies, implies_true, and_true] <;> omega) | (repeat' (first | exact True.intro | rfl | refine And.intro ?_ ?_ | (rw [sv_ne _ _ _ _ (by omega)]) | (rw [up_cell _ _ _ (by omega)]) | (rw [fil_cell _ _ _ _ _ (by omega)]) | (rw [hM _ (by omega)]) | (rw [hm _ (by omega)])))) | (have t_ := Rel.bank (h); exact Or.inr t_)) (by first | (refine Or.inl (And.intro ?_ (And.intro ?_ ?_)) <;> first | (simp only [List.mem_cons, List.not_mem_nil, or_false, forall_eq_or_imp, forall_eq, false_implies, implies_true, and_true] <;> omega) | (repeat' (first | exact True.intro | rfl | refine And.intro ?_ ?_ | (rw [sv_ne _ _ _ _ (by omega)]) | (rw [up_cell _ _ _ (by omega)]) | (rw [fil_cell _ _ _ _ _ (by omega)]) | (rw [hM _ (by omega)]) | (rw [hm _ (by omega)])))) | (have t_ := Rel.tape (h); exact Or.inr t_)) (by first | (refine Or.inl (And.intro ?_ (And.intro ?_ ?_)) <;> first | (simp only [List.mem_cons, List.not_mem_nil, or_false, forall_eq_or_imp, forall_eq, false_implies, implies_true, and_true] <;> omega) | (repeat' (first | exact True.intro | rfl | refine And.intro ?_ ?_ | (rw [sv_ne _ _ _ _ (by omega)]) | (rw [up_cell _ _ _ (by omega)]) | (rw [fil_cell _ _ _ _ _ (by omega)]) | (rw [hM _ (by omega)]) | (rw [hm _ (by omega)])))) | (have t_ := Rel.counts (h); exact Or.inr t_)) (by first | (refine Or.inl (And.intro ?_ (And.intro ?_ ?_)) <;> first | (simp only [List.mem_cons, List.not_mem_nil, or_false, forall_eq_or_imp, forall_eq, false_implies, implies_true, and_true] <;> omega) | (repeat' (first | exact True.intro | rfl | refine And.intro ?_ ?_ | (rw [sv_ne _ _ _ _ (by omega)]) | (rw [up_cell _ _ _ (by omega)]) | (rw [fil_cell _ _ _ _ _ (by omega)]) | (rw [hM _ (by omega)]) | (rw [hm _ (by omega)])))) | (have t_ := Rel.events (h); exact Or.inr t_)) (by first | (refine Or.inl (And.intro ?_ (And.intro ?_ ?_)) <;> first | (simp only [List.mem_cons, List.not_mem_nil, or_false, forall_eq_or_imp, forall_eq, false_implies, implies_true, and_true] <;> omega) | (repeat' (first | exact True.intro | rfl | refine And.intro ?_ ?_ | (rw [sv_ne _ _ _ _ (by omega)]) | (rw [up_cell _ _ _ (by omega)]) | (rw [fil_cell _ _ _ _ _ (by omega)]) | (rw [hM _ (by omega)]) | (rw [hm _ (by omega)])))) | (have t_ := Rel.out (h); exact Or.inr t_)) (by first | (refine Or.inl (And.intro ?_ (And.intro ?_ ?_)) <;> first | (simp only [List.mem_cons, List.not_mem_nil, or_false, forall_eq_or_imp, forall_eq, false_implies, implies_true, and_true] <;> omega) | (repeat' (first | exact True.intro | rfl | refine And.intro ?_ ?_ | (rw [sv_ne _ _ _ _ (by omega)]) | (rw [up_cell _ _ _ (by omega)]) | (rw [fil_cell _ _ _ _ _ (by omega)]) | (rw [hM _ (by omega)]) | (rw [hm _ (by omega)])))) | (have t_ := Rel.lamps (h); exact Or.inr t_)) (by first | (refine Or.inl (And.intro ?_ (And.intro ?_ ?_)) <;> first | (simp only [List.mem_cons, List.not_mem_nil, or_false, forall_eq_or_imp, forall_eq, false_implies, implies_true, and_true] <;> omega) | (repeat' (first | exact True.intro | rfl | refine And.intro ?_ ?_ | (rw [sv_ne _ _ _ _ (by omega)]) | (rw [up_cell _ _ _ (by omega)]) | (rw [fil_cell _ _ _ _ _ (by omega)]) | (rw [hM _ (by omega)]) | (rw [hm _ (by omega)])))) | (have t_ := Rel.buttons (h); exact Or.inr t_)) (by first | (refine Or.inl (And.intro ?_ (And.intro ?_ ?_)) <;> first | (simp only [List.mem_cons, List.not_mem_nil, or_false, forall_eq_or_imp, forall_eq, false_implies, implies_true, and_true] <;> omega) | (repeat' (first | exact True.intro | rfl | refine And.intro ?_ ?_ | (rw [sv_ne _ _ _ _ (by omega)]) | (rw [up_cell _ _ _ (by omega)]) | (rw [fil_cell _ _ _ _ _ (by omega)]) | (rw [hM _ (by omega)]) | (rw [hm _ (by omega)])))) | (have t_ := Rel.lev (h); exact Or.inr t_)) (by first | (refine Or.inl (And.intro ?_ (And.intro ?_ ?_)) <;> first | (simp only [List.mem_cons, List.not_mem_nil, or_false, forall_eq_or_imp, forall_eq, false_implies, implies_true, and_true] <;> omega) | (repeat' (first | exact True.intro | rfl | refine And.intro ?_ ?_ | (rw [sv_ne _ _ _ _ (by omega)]) | (rw [up_cell _ _ _ (by omega)]) | (rw [fil_cell _ _ _ _ _ (by omega)]) | (rw [hM _ (by omega)]) | (rw [hm _ (by omega)])))) | (have t_ := Rel.mem (h); exact Or.inr t_)) (by first | (refine Or.inl (And.intro ?_ (And.intro ?_ ?_)) <;> first | (simp only [List.mem_cons, List.not_mem_nil, or_false, forall_eq_or_imp, forall_eq, false_implies, implies_true, and_true] <;> omega) | (repeat' (first | exact True.intro | rfl | refine And.intro ?_ ?_ | (rw [sv_ne _ _ _ _ (by omega)]) | (rw [up_cell _ _ _ (by omega)]) | (rw [fil_cell _ _ _ _ _ (by omega)]) | (rw [hM _ (by omega)]) | (rw [hm _ (by omega)])))) | (have t_ := Rel.sched (h); exact Or.inr t_)) (by first | (refine Or.inl (And.intro ?_ (And.intro ?_ ?_)) <;> first | (simp only [List.mem_cons, List.not_mem_nil, or_false, forall_eq_or_imp, forall_eq, false_implies, implies_true, and_true] <;> omega) | (repeat' (first | exact True.intro | rfl | refine And.intro ?_ ?_ | (rw [sv_ne _ _ _ _ (by omega)]) | (rw [up_cell _ _ _ (by omega)]) | (rw [fil_cell _ _ _ _ _ (by omega)]) | (rw [hM _ (by omega)]) | (rw [hm _ (by omega)])))) | (have t_ := Rel.done (h); exact Or.inr t_)) (by first | (refine Or.inl (And.intro ?_ (And.intro ?_ ?_)) <;> first | (simp only [List.mem_cons, List.not_mem_nil, or_false, forall_eq_or_imp, forall_eq, false_implies, implies_true, and_true] <;> omega) | (repeat' (first | exact True.intro | rfl | refine And.intro ?_ ?_ | (rw [sv_ne _ _ _ _ (by omega)]) | (rw [up_cell _ _ _ (by omega)]) | (rw [fil_cell _ _ _ _ _ (by omega)]) | (rw [hM _ (by omega)]) | (rw [hm _ (by omega)])))) | (have t_ := Rel.levels (h); exact Or.inr t_)) (by first | (refine Or.inl (And.intro ?_ (And.intro ?_ ?_)) <;> first | (simp only [List.mem_cons, List.not_mem_nil, or_false, forall_eq_or_imp, forall_eq, false_implies, implies_true, and_true] <;> omega) | (repeat' (first | exact True.intro | rfl | refine And.intro ?_ ?_ | (rw [sv_ne _ _ _ _ (by omega)]) | (rw [up_cell _ _ _ (by omega)]) | (rw [fil_cell _ _ _ _ _ (by omega)]) | (rw [hM _ (by omega)]) | (rw [hm _ (by omega)])))) | (have t_ := Rel.places (h); exact Or.inr t_)) (by first | (refine Or.inl (And.intro ?_ (And.intro ?_ ?_)) <;> first | (simp only [List.mem_cons, List.not_mem_nil, or_false, forall_eq_or_imp, forall_eq, false_implies, implies_true, and_true] <;> omega) | (repeat' (first | exact True.intro | rfl | refine And.intro ?_ ?_ | (rw [sv_ne _ _ _ _ (by omega)]) | (rw [up_cell _ _ _ (by omega)]) | (rw [fil_cell _ _ _ _ _ (by omega)]) | (rw [hM _ (by omega)]) | (rw [hm _ (by omega)])))) | (have t_ := Rel.asked (h); exact Or.inr t_)) (by first | (refine Or.inl (And.intro ?_ (And.intro ?_ ?_)) <;> first | (simp only [List.mem_cons, List.not_mem_nil, or_false, forall_eq_or_imp, forall_eq, false_implies, implies_true, and_true] <;> omega) | (repeat' (first | exact True.intro | rfl | refine And.intro ?_ ?_ | (rw [sv_ne _ _ _ _ (by omega)]) | (rw [up_cell _ _ _ (by omega)]) | (rw [fil_cell _ _ _ _ _ (by omega)]) | (rw [hM _ (by omega)]) | (rw [hm _ (by omega)])))) | (have t_ := Rel.worder (h); exact Or.inr t_)) (by first | (refine Or.inl (And.intro ?_ (And.intro ?_ ?_)) <;> first | (simp only [List.mem_cons, List.not_mem_nil, or_false, forall_eq_or_imp, forall_eq, false_implies, implies_true, and_true] <;> omega) | (repeat' (first | exact True.intro | rfl | refine And.intro ?_ ?_ | (rw [sv_ne _ _ _ _ (by omega)]) | (rw [up_cell _ _ _ (by omega)]) | (rw [fil_cell _ _ _ _ _ (by omega)]) | (rw [hM _ (by omega)]) | (rw [hm _ (by omega)])))) | (have t_ := Rel.rorder (h); exact Or.inr t_)) (by first | (refine Or.inl (And.intro ?_ (And.intro ?_ ?_)) <;> first | (simp only [List.mem_cons, List.not_mem_nil, or_false, forall_eq_or_imp, forall_eq, false_implies, implies_true, and_true] <;> omega) | (repeat' (first | exact True.intro | rfl | refine And.intro ?_ ?_ | (rw [sv_ne _ _ _ _ (by omega)]) | (rw [up_cell _ _ _ (by omega)]) | (rw [fil_cell _ _ _ _ _ (by omega)]) | (rw [hM _ (by omega)]) | (rw [hm _ (by omega)])))) | (have t_ := Rel.ps (h); exact Or.inr t_)) (by first | (refine Or.inl (And.intro ?_ (And.intro ?_ ?_)) <;> first | (simp only [List.mem_cons, List.not_mem_nil, or_false, forall_eq_or_imp, forall_eq, false_implies, implies_true, and_true] <;> omega) | (repeat' (first | exact True.intro | rfl | refine And.intro ?_ ?_ | (rw [sv_ne _ _ _ _ (by omega)]) | (rw [up_cell _ _ _ (by omega)]) | (rw [fil_cell _ _ _ _ _ (by omega)]) | (rw [hM _ (by omega)]) | (rw [hm _ (by omega)])))) | (have t_ := Rel.app (h); exact Or.inr t_)) (by first | (refine Or.inl (And.intro ?_ (And.intro ?_ ?_)) <;> first | (simp only [List.mem_cons, List.not_mem_nil, or_false, forall_eq_or_imp, forall_eq, false_implies, implies_true, and_true] <;> omega) | (repeat' (first | exact True.intro | rfl | refine And.intro ?_ ?_ | (rw [sv_ne _ _ _ _ (by omega)]) | (rw [up_cell _ _ _ (by omega)]) | (rw [fil_cell _ _ _ _ _ (by omega)]) | (rw [hM _ (by omega)]) | (rw [hm _ (by omega)])))) | (have t_ := Rel.name (h); exact Or.inr t_)) (by first | (refine Or.inl (And.intro ?_ (And.intro ?_ ?_)) <;> first | (simp only [List.mem_cons, List.not_mem_nil, or_false, forall_eq_or_imp, forall_eq, false_implies, implies_true, and_true] <;> omega) | (repeat' (first | exact True.intro | rfl | refine And.intro ?_ ?_ | (rw [sv_ne _ _ _ _ (by omega)]) | (rw [up_cell _ _ _ (by omega)]) | (rw [fil_cell _ _ _ _ _ (by omega)]) | (rw [hM _ (by omega)]) | (rw [hm _ (by omega)])))) | (have t_ := Rel.number (h); exact Or.inr t_)) (by first | (refine Or.inl (And.intro ?_ (And.intro ?_ ?_)) <;> first | (simp only [List.mem_cons, List.not_mem_nil, or_false, forall_eq_or_imp, forall_eq, false_implies, implies_true, and_true] <;> omega) | (repeat' (first | exact True.intro | rfl | refine And.intro ?_ ?_ | (rw [sv_ne _ _ _ _ (by omega)]) | (rw [up_cell _ _ _ (by omega)]) | (rw [fil_cell _ _ _ _ _ (by omega)]) | (rw [hM _ (by omega)]) | (rw [hm _ (by omega)])))) | (have t_ := Rel.bits (h); exact Or.inr t_)) (by first | (refine Or.inl (And.intro ?_ (And.intro ?_ ?_)) <;> first | (simp only [List.mem_cons, List.not_mem_nil, or_false, forall_eq_or_imp, forall_eq, false_implies, implies_true, and_true] <;> omega) | (repeat' (first | exact True.intro | rfl | refine And.intro ?_ ?_ | (rw [sv_ne _ _ _ _ (by omega)]) | (rw [up_cell _ _ _ (by omega)]) | (rw [fil_cell _ _ _ _ _ (by omega)]) | (rw [hM _ (by omega)]) | (rw [hm _ (by omega)])))) | (have t_ := Rel.regs (h); exact Or.inr t_)) (by first | (refine Or.inl (And.intro ?_ (And.intro ?_ ?_)) <;> first | (simp only [List.mem_cons, List.not_mem_nil, or_false, forall_eq_or_imp, forall_eq, false_implies, implies_true, and_true] <;> omega) | (repeat' (first | exact True.intro | rfl | refine And.intro ?_ ?_ | (rw [sv_ne _ _ _ _ (by omega)]) | (rw [up_cell _ _ _ (by omega)]) | (rw [fil_cell _ _ _ _ _ (by omega)]) | (rw [hM _ (by omega)]) | (rw [hm _ (by omega)])))) | (have t_ := Rel.rsv (h); exact Or.inr t_)) (Or.inr (by
    intro j hj k hk
    rw [cnt_sv _ _ _ (by omega)] at hj
    rw [sv_n1 _ _ _ _ _ (by omega)] at hk
    have := hq j hj
    rw [sv_rd, sv_rd]
    by_cases e : j = i ∧ k = x
    · rw [if_pos (by omega), if_pos (by omega)]
    · rw [if_neg (by omega), if_neg (by omega)]
      exact h.queue j hj k hk)) (by first | (refine Or.inl (And.intro ?_ (And.intro ?_ ?_)) <;> first | (simp only [List.mem_cons, List.not_mem_nil, or_false, forall_eq_or_imp, forall_eq, false_implies, implies_true, and_true] <;> omega) | (repeat' (first | exact True.intro | rfl | refine And.intro ?_ ?_ | (rw [sv_ne _ _ _ _ (by omega)]) | (rw [up_cell _ _ _ (by omega)]) | (rw [fil_cell _ _ _ _ _ (by omega)]) | (rw [hM _ (by omega)]) | (rw [hm _ (by omega)])))) | (have t_ := Rel.ctlw (h); exact Or.inr t_)) (by first | (refine Or.inl (And.intro ?_ (And.intro ?_ ?_)) <;> first | (simp only [List.mem_cons, List.not_mem_nil, or_false, forall_eq_or_imp, forall_eq, false_implies, implies_true, and_true] <;> omega) | (repeat' (first | exact True.intro | rfl | refine And.intro ?_ ?_ | (rw [sv_ne _ _ _ _ (by omega)]) | (rw [up_cell _ _ _ (by omega)]) | (rw [fil_cell _ _ _ _ _ (by omega)]) | (rw [hM _ (by omega)]) | (rw [hm _ (by omega)])))) | (have t_ := Rel.wt (h); exact Or.inr t_)))
def quC (m : it_Me) (i : Nat) (d n a b c : Int32) : it_Me := it_sv (it_sv (it_sv (it_sv (it_sv (it_sv m (14 + 5 * i + 3) (5 * Int32.toNatClampNeg (m (14 + 5 * i) 14)) d) (14 + 5 * i + 3) (5 * Int32.toNatClampNeg (m (14 + 5 * i) 14) + 1) n) (14 + 5 * i + 3) (5 * Int32.toNatClampNeg (m (14 + 5 * i) 14) + 2) a) (14 + 5 * i + 3) (5 * Int32.toNatClampNeg (m (14 + 5 * i) 14) + 3) b) (14 + 5 * i + 3) (5 * Int32.toNatClampNeg (m (14 + 5 * i) 14) + 4) c) (14 + 5 * i) 14 (m (14 + 5 * i) 14 + 1)
def quM (M : it_Me) (i : Nat) (d n a b c : Int32) : it_Me := it_sv (it_sv (it_sv (it_sv (it_sv (it_sv M 109 (50 * i + 5 * Int32.toNatClampNeg (M 110 i)) d) 109 (50 * i + (5 * Int32.toNatClampNeg (M 110 i) + 1)) n) 109 (50 * i + (5 * Int32.toNatClampNeg (M 110 i) + 2)) a) 109 (50 * i + (5 * Int32.toNatClampNeg (M 110 i) + 3)) b) 109 (50 * i + (5 * Int32.toNatClampNeg (M 110 i) + 4)) c) 110 i (M 110 i + 1)
theorem c_141 {kc : it_Kc} {i : Nat} {m : it_Me} (h0 : 0 ≤ (m (14 + 5 * i) 14).toInt ∧ (m (14 + 5 * i) 14).toInt < 10) {d n a b c : Int32} {Φ : it_Me → Prop} (h : Φ (quC m i d n a b c)) : w_141 kc (14 + 5 * i) d n a b c m Φ := by
  have c0 : (m (14 + 5 * i) 14 * 5).toInt = 5 * (m (14 + 5 * i) 14).toInt := by clear h; ((try simp only [Int32.lt_iff_toInt_lt, Int32.le_iff_toInt_le, ← Int32.toInt_inj, Int32.reduceToInt, clampI, vp_in_iff, ne_eq, not_and, not_or, Int32.not_lt, Int32.not_le] at *) <;> (try simp (disch := omega) only [Int32.toInt_add, Int32.toInt_sub, Int32.toInt_mul, Int32.toInt_neg, Int32.reduceToInt, bmI, bmI', and1, and3, and7, and31, and127, and255, and65535, shr2, nI_toInt] at *) <;> (try simp only [bm32, bm32'] at *) <;> omega)
  have ce : ∀ j : Nat, j < 5 → (m (14 + 5 * i) 14 * 5 + nI j).toInt = 5 * (m (14 + 5 * i) 14).toInt + j := fun j hj => by
    have := nI_toInt (n := j) (by omega)
    rw [add_I] <;> omega
  have d0 : Int32.toNatClampNeg (m (14 + 5 * i) 14 * 5) = 5 * Int32.toNatClampNeg (m (14 + 5 * i) 14) := by rw [clampI, clampI, c0]; omega
  have dj : ∀ j : Nat, j < 5 → Int32.toNatClampNeg (m (14 + 5 * i) 14 * 5 + nI j) = 5 * Int32.toNatClampNeg (m (14 + 5 * i) 14) + j := fun j hj => by rw [clampI, clampI, ce j hj]; omega
  have vj : ∀ j : Nat, j < 5 → vp_in (m (14 + 5 * i) 14 * 5 + nI j) 50 := fun j hj => by rw [vp_in_iff, ce j hj]; omega
  unfold w_141 w_141_77
  rw [d0, show Int32.toNatClampNeg (m (14 + 5 * i) 14 * 5 + 1) = _ from dj 1 (by omega), show Int32.toNatClampNeg (m (14 + 5 * i) 14 * 5 + 2) = _ from dj 2 (by omega), show Int32.toNatClampNeg (m (14 + 5 * i) 14 * 5 + 3) = _ from dj 3 (by omega), show Int32.toNatClampNeg (m (14 + 5 * i) 14 * 5 + 4) = _ from dj 4 (by omega)]
  refine ⟨fun q => ?_, fun _ => ⟨by rw [vp_in_iff, c0]; omega, vj 1 (by omega), vj 2 (by omega), vj 3 (by omega), vj 4 (by omega), ?_⟩⟩
  · exfalso; rw [Int32.le_iff_toInt_le] at q; simp only [Int32.reduceToInt] at q; omega
  · simp (disch := omega) only [sv_n1]
    exact h
theorem qu_R {B : Nat} {m M : it_Me} (hI : Inv B m) (h : Rel m M) {i : Nat} (hi : i < cnt m) (h0 : (m (14 + 5 * i) 14).toInt < 10) (d n a b c : Int32) : Rel (quC m i d n a b c) (quM M i d n a b c) := by
  have h8 := cnt_le hI
  have hq := fun j hj => (hI.p (i := j) hj).qn
  have h1 := hq i hi
  unfold quC quM
  rw [h.queued hi]
  have ec : (Int32.toNatClampNeg (m (14 + 5 * i) 14) : Int) = (m (14 + 5 * i) 14).toInt := by rw [clampI]; omega
  generalize Int32.toNatClampNeg (m (14 + 5 * i) 14) = q at ec
  have k9 : ∀ (m : it_Me) x v, cnt (it_sv m (14 + 5 * i + 3) x v) = cnt m := fun m x v => cnt_sv _ _ _ (by omega)
  have kq : ∀ (m : it_Me) x v j, it_sv m (14 + 5 * i + 3) x v (14 + 5 * j) 14 = m (14 + 5 * j) 14 := fun m x v j => sv_n1 _ _ _ _ _ (by omega)
  have R1 := h.qw h8 hi (x := 5 * q) (by omega) (fun j hj => (hq j hj).2) d
  have R2 := R1.qw (i := i) (x := 5 * q + 1) (by simp only [k9]; exact h8) (by simp only [k9]; exact hi) (by omega) (by simp only [k9, kq]; exact fun j hj => (hq j hj).2) n
  have R3 := R2.qw (i := i) (x := 5 * q + 2) (by simp only [k9]; exact h8) (by simp only [k9]; exact hi) (by omega) (by simp only [k9, kq]; exact fun j hj => (hq j hj).2) a
  have R4 := R3.qw (i := i) (x := 5 * q + 3) (by simp only [k9]; exact h8) (by simp only [k9]; exact hi) (by omega) (by simp only [k9, kq]; exact fun j hj => (hq j hj).2) b
  have R5 := R4.qw (i := i) (x := 5 * q + 4) (by simp only [k9]; exact h8) (by simp only [k9]; exact hi) (by omega) (by simp only [k9, kq]; exact fun j hj => (hq j hj).2) c
  refine R5.ps1 (a := 110) (c := 14) (by simp only [k9]; exact h8) (by simp only [k9]; exact hi) (by decide) (by omega) (by omega) _ (fun e => absurd e (by omega)) (fun _ k hk => ?_)
  have e1 : (m (14 + 5 * i) 14 + 1).toInt = (m (14 + 5 * i) 14).toInt + 1 := add_I (by show _ ≤ _ + (1 : Int); omega) (by show _ + (1 : Int) < _; omega)
  rw [e1] at hk
  simp only [sv_rd, true_and]
  by_cases q4 : k = 5 * q + 4
  · rw [if_pos (by omega), if_pos q4]
  rw [if_neg (by omega), if_neg q4]
  by_cases q3 : k = 5 * q + 3
  · rw [if_pos (by omega), if_pos q3]
  rw [if_neg (by omega), if_neg q3]
  by_cases q2 : k = 5 * q + 2
  · rw [if_pos (by omega), if_pos q2]
  rw [if_neg (by omega), if_neg q2]
  by_cases q1 : k = 5 * q + 1
  · rw [if_pos (by omega), if_pos q1]
  rw [if_neg (by omega), if_neg q1]
  by_cases q0 : k = 5 * q
  · rw [if_pos (by omega), if_pos q0]
  rw [if_neg (by omega), if_neg q0]
  exact h.queue i hi k (by omega)
theorem qu_I {B : Nat} {m : it_Me} (hI : Inv B m) {i d n : Nat} (hi : i < cnt m) (h0 : (m (14 + 5 * i) 14).toInt < 10) (hd : d < 9) (hg : m (14 + 5 * i + 4) d ≠ 0) (hn : n < sbN d) (hs : m (14 + 5 * i) 9 ≠ 4 ∧ m (14 + 5 * i) 9 ≠ 5) (a b c : Int32) : Inv B (quC m i (nI d) (nI n) a b c) := by
  have hP := hI.p hi
  have h1 := hP.qn
  have hk := kN hd
  have e1 : (m (14 + 5 * i) 14 + 1).toInt = (m (14 + 5 * i) 14).toInt + 1 := add_I (by show _ ≤ _ + (1 : Int); omega) (by show _ + (1 : Int) < _; omega)
  have ec : (Int32.toNatClampNeg (m (14 + 5 * i) 14) : Int) = (m (14 + 5 * i) 14).toInt := by rw [clampI]; omega
  have f : ∀ j, j ≠ 14 → quC m i (nI d) (nI n) a b c (14 + 5 * i) j = m (14 + 5 * i) j := fun j hj => by
    unfold quC; simp (disch := omega) only [sv_n1, sv_n2]
  have f14 : quC m i (nI d) (nI n) a b c (14 + 5 * i) 14 = m (14 + 5 * i) 14 + 1 := by unfold quC; rw [sv_same]
  have fm : ∀ k, k ≠ 14 + 5 * i → k ≠ 14 + 5 * i + 2 → k ≠ 14 + 5 * i + 3 → quC m i (nI d) (nI n) a b c k = m k := fun k q1 q2 q3 => by
    unfold quC
    rw [sv_cell _ _ _ _ q1, sv_cell _ _ _ _ q3, sv_cell _ _ _ _ q3, sv_cell _ _ _ _ q3, sv_cell _ _ _ _ q3, sv_cell _ _ _ _ q3]
  refine hI.prc hi fm (f _ (by omega)) (f _ (by omega)) (f _ (by omega)) (fun _ => hP.prc fm (f _ (by omega)) (f _ (by omega)) (f _ (by omega)) (f _ (by omega)) (f _ (by omega)) ?_ ?_ ?_ ?_ ?_ (by rw [f _ (by omega)]; exact hP.pce) (by unfold quC; simp (disch := omega) only [sv_n1]; exact hP.r0))
  · rw [f _ (by omega)]; exact hP.st
  · rw [f _ (by omega)]; exact hP.he
  · rw [f14]; omega
  · intro k hk'
    rw [f14, e1] at hk'
    have rd : ∀ x, quC m i (nI d) (nI n) a b c (14 + 5 * i + 3) x = it_sv (it_sv (it_sv (it_sv (it_sv m (14 + 5 * i + 3) (5 * Int32.toNatClampNeg (m (14 + 5 * i) 14)) (nI d)) (14 + 5 * i + 3) (5 * Int32.toNatClampNeg (m (14 + 5 * i) 14) + 1) (nI n)) (14 + 5 * i + 3) (5 * Int32.toNatClampNeg (m (14 + 5 * i) 14) + 2) a) (14 + 5 * i + 3) (5 * Int32.toNatClampNeg (m (14 + 5 * i) 14) + 3) b) (14 + 5 * i + 3) (5 * Int32.toNatClampNeg (m (14 + 5 * i) 14) + 4) c (14 + 5 * i + 3) x := fun x => by unfold quC; rw [sv_n1 _ _ _ _ _ (by omega)]
    by_cases e : k = Int32.toNatClampNeg (m (14 + 5 * i) 14)
    · refine ⟨d, hd, ?_, hg, ?_⟩
      · rw [rd]; subst e; simp (disch := omega) only [sv_n2, sv_same]
      · rw [rd, ← e]; simp (disch := omega) only [sv_n2, sv_same]
        rw [nI_toInt (by omega)]; omega
    · obtain ⟨d', p1, p2, p3, p4, p5⟩ := hP.q k (by omega)
      refine ⟨d', p1, ?_, p3, ?_⟩
      · rw [rd]; simp (disch := omega) only [sv_n2]; exact p2
      · rw [rd]; simp (disch := omega) only [sv_n2]; exact ⟨p4, p5⟩
  · rw [f _ (by omega)]
    intro q
    rcases q with q | q
    · exact absurd q hs.1
    · exact absurd q hs.2
/-- a part of the class and of the reference that go together -/
def Lv (c r : it_Me → (it_Me → Prop) → Prop) (B' : Nat) (m : it_Me) (P : it_Me → Prop) : Prop := ∃ m', (∀ Φ, Φ m' → c m Φ) ∧ Inv B' m' ∧ FrC m m' ∧ P m' ∧ ∀ M, Rel m M → ∀ Φ, (∀ M', Rel m' M' → FrM M M' → Φ M') → r M Φ
/-- what upcalls leave as it is -/
def Kp (m m' : it_Me) : Prop := m' 0 = m 0 ∧ m' 9 = m 9 ∧ m' 7 = m 7 ∧ m' 4 0 = m 4 0 ∧ ∀ k, 54 ≤ k → k ≤ 65 → m' k = m k
theorem Kp.rfl {m : it_Me} : Kp m m := ⟨Eq.refl _, Eq.refl _, Eq.refl _, Eq.refl _, fun _ _ _ => Eq.refl _⟩
theorem Kp.trans {a b c : it_Me} (h : Kp a b) (g : Kp b c) : Kp a c := ⟨g.1.trans h.1, g.2.1.trans h.2.1, g.2.2.1.trans h.2.2.1, g.2.2.2.1.trans h.2.2.2.1, fun k h1 h2 => (g.2.2.2.2 k h1 h2).trans (h.2.2.2.2 k h1 h2)⟩
theorem Kp.sv {a b : it_Me} (h : Kp a b) {k j : Nat} {v : Int32} (hk : k ≠ 0 ∧ k ≠ 9 ∧ k ≠ 7 ∧ (k ≠ 4 ∨ j ≠ 0) ∧ (k < 54 ∨ 65 < k)) : Kp a (it_sv b k j v) :=
  ⟨by rw [sv_cell _ _ _ _ (by omega)]; exact h.1, by rw [sv_cell _ _ _ _ (by omega)]; exact h.2.1, by rw [sv_cell _ _ _ _ (by omega)]; exact h.2.2.1, by rw [sv_ne _ _ _ _ (by omega)]; exact h.2.2.2.1, fun x h1 h2 => by rw [sv_cell _ _ _ _ (by omega)]; exact h.2.2.2.2 x h1 h2⟩
theorem Kp.of {a b : it_Me} (h : ∀ k, k = 0 ∨ k = 9 ∨ k = 7 ∨ (54 ≤ k ∧ k ≤ 65) → b k = a k) (h4 : b 4 0 = a 4 0) : Kp a b := ⟨h _ (by omega), h _ (by omega), h _ (by omega), h4, fun k h1 h2 => h k (by omega)⟩
theorem c_131n {kc : it_Kc} {k : Nat} {m : it_Me} (h4 : ¬ m k 9 = 4) (h5 : ¬ m k 9 = 5) {Φ : Int32 → it_Me → Prop} (h : Φ 0 m) : w_131 kc k m Φ := by
  unfold w_131 w_131_16 w_131_21
  exact ⟨fun q => absurd q h4, fun _ => ⟨fun q => absurd q h5, fun _ => ⟨Or.inl rfl, h⟩⟩⟩
theorem c_131o {kc : it_Kc} {k : Nat} {m : it_Me} (ho : m k 9 = 4 ∨ m k 9 = 5) {Φ : Int32 → it_Me → Prop} (h : Φ 1 m) : w_131 kc k m Φ := by
  unfold w_131 w_131_16 w_131_21
  refine ⟨fun _ => ⟨Or.inr rfl, h⟩, fun q => ⟨fun _ => ⟨Or.inr rfl, h⟩, fun q2 => ?_⟩⟩
  rcases ho with ho | ho
  · exact absurd ho q
  · exact absurd ho q2
theorem gw_low {m : it_Me} {a : Int32} (h : a.toInt < 65536) : gw m a = 0 := by
  unfold gw
  rw [if_pos (by rw [Int32.lt_iff_toInt_lt]; exact h)]
theorem Inv.mono {B B' : Nat} {m : it_Me} (h : Inv B m) (hB : B ≤ B') : Inv B' m := (Inv.upd (h) (hB) ([]) (fun _ _ => rfl) (by first | (refine Or.inl (And.intro ?_ ?_) <;> first | (simp only [List.mem_cons, List.not_mem_nil, or_false, forall_eq_or_imp, forall_eq, false_implies, implies_true, and_true] <;> omega) | (repeat' (first | exact True.intro | rfl | refine And.intro ?_ ?_ | (rw [sv_ne _ _ _ _ (by omega)]) | (rw [up_cell _ _ _ (by omega)]) | (rw [fil_cell _ _ _ _ _ (by omega)]) | (rw [hM _ (by omega)]) | (rw [hm _ (by omega)])))) | (have t_ := Inv.tl (h); exact Or.inr t_)) (by first | (refine Or.inl (And.intro ?_ ?_) <;> first | (simp only [List.mem_cons, List.not_mem_nil, or_false, forall_eq_or_imp, forall_eq, false_implies, implies_true, and_true] <;> omega) | (repeat' (first | exact True.intro | rfl | refine And.intro ?_ ?_ | (rw [sv_ne _ _ _ _ (by omega)]) | (rw [up_cell _ _ _ (by omega)]) | (rw [fil_cell _ _ _ _ _ (by omega)]) | (rw [hM _ (by omega)]) | (rw [hm _ (by omega)])))) | (have t_ := Inv.tp (h); exact Or.inr t_)) (by first | (refine Or.inl (And.intro ?_ ?_) <;> first | (simp only [List.mem_cons, List.not_mem_nil, or_false, forall_eq_or_imp, forall_eq, false_implies, implies_true, and_true] <;> omega) | (repeat' (first | exact True.intro | rfl | refine And.intro ?_ ?_ | (rw [sv_ne _ _ _ _ (by omega)]) | (rw [up_cell _ _ _ (by omega)]) | (rw [fil_cell _ _ _ _ _ (by omega)]) | (rw [hM _ (by omega)]) | (rw [hm _ (by omega)])))) | (have t_ := Inv.on (h); exact Or.inr t_)) (by first | (refine Or.inl (And.intro ?_ ?_) <;> first | (simp only [List.mem_cons, List.not_mem_nil, or_false, forall_eq_or_imp, forall_eq, false_implies, implies_true, and_true] <;> omega) | (repeat' (first | exact True.intro | rfl | refine And.intro ?_ ?_ | (rw [sv_ne _ _ _ _ (by omega)]) | (rw [up_cell _ _ _ (by omega)]) | (rw [fil_cell _ _ _ _ _ (by omega)]) | (rw [hM _ (by omega)]) | (rw [hm _ (by omega)])))) | (have t_ := Inv.off (h); exact Or.inr t_)) (by first | (refine Or.inl (And.intro ?_ ?_) <;> first | (simp only [List.mem_cons, List.not_mem_nil, or_false, forall_eq_or_imp, forall_eq, false_implies, implies_true, and_true] <;> omega) | (repeat' (first | exact True.intro | rfl | refine And.intro ?_ ?_ | (rw [sv_ne _ _ _ _ (by omega)]) | (rw [up_cell _ _ _ (by omega)]) | (rw [fil_cell _ _ _ _ _ (by omega)]) | (rw [hM _ (by omega)]) | (rw [hm _ (by omega)])))) | (have t_ := Inv.cn (h); exact Or.inr t_)) (by first | (refine Or.inl (And.intro ?_ ?_) <;> first | (simp only [List.mem_cons, List.not_mem_nil, or_false, forall_eq_or_imp, forall_eq, false_implies, implies_true, and_true] <;> omega) | (repeat' (first | exact True.intro | rfl | refine And.intro ?_ ?_ | (rw [sv_ne _ _ _ _ (by omega)]) | (rw [up_cell _ _ _ (by omega)]) | (rw [fil_cell _ _ _ _ _ (by omega)]) | (rw [hM _ (by omega)]) | (rw [hm _ (by omega)])))) | (have t_ := Inv.ev (h); exact Or.inr t_)) (by first | (refine Or.inl (And.intro ?_ ?_) <;> first | (simp only [List.mem_cons, List.not_mem_nil, or_false, forall_eq_or_imp, forall_eq, false_implies, implies_true, and_true] <;> omega) | (repeat' (first | exact True.intro | rfl | refine And.intro ?_ ?_ | (rw [sv_ne _ _ _ _ (by omega)]) | (rw [up_cell _ _ _ (by omega)]) | (rw [fil_cell _ _ _ _ _ (by omega)]) | (rw [hM _ (by omega)]) | (rw [hm _ (by omega)])))) | (have t_ := Inv.out (h); exact Or.inr t_)) (by first | (refine Or.inl (And.intro ?_ ?_) <;> first | (simp only [List.mem_cons, List.not_mem_nil, or_false, forall_eq_or_imp, forall_eq, false_implies, implies_true, and_true] <;> omega) | (repeat' (first | exact True.intro | rfl | refine And.intro ?_ ?_ | (rw [sv_ne _ _ _ _ (by omega)]) | (rw [up_cell _ _ _ (by omega)]) | (rw [fil_cell _ _ _ _ _ (by omega)]) | (rw [hM _ (by omega)]) | (rw [hm _ (by omega)])))) | (have t_ := Inv.num (h); exact Or.inr t_)) (by first | (refine Or.inl (And.intro ?_ ?_) <;> first | (simp only [List.mem_cons, List.not_mem_nil, or_false, forall_eq_or_imp, forall_eq, false_implies, implies_true, and_true] <;> omega) | (repeat' (first | exact True.intro | rfl | refine And.intro ?_ ?_ | (rw [sv_ne _ _ _ _ (by omega)]) | (rw [up_cell _ _ _ (by omega)]) | (rw [fil_cell _ _ _ _ _ (by omega)]) | (rw [hM _ (by omega)]) | (rw [hm _ (by omega)])))) | (have t_ := Inv.crc (h); exact Or.inr t_)) (by first | (refine Or.inl (And.intro ?_ ?_) <;> first | (simp only [List.mem_cons, List.not_mem_nil, or_false, forall_eq_or_imp, forall_eq, false_implies, implies_true, and_true] <;> omega) | (repeat' (first | exact True.intro | rfl | refine And.intro ?_ ?_ | (rw [sv_ne _ _ _ _ (by omega)]) | (rw [up_cell _ _ _ (by omega)]) | (rw [fil_cell _ _ _ _ _ (by omega)]) | (rw [hM _ (by omega)]) | (rw [hm _ (by omega)])))) | (have t_ := Inv.bk (h); exact Or.inr t_)) (by first | (refine Or.inl (And.intro ?_ ?_) <;> first | (simp only [List.mem_cons, List.not_mem_nil, or_false, forall_eq_or_imp, forall_eq, false_implies, implies_true, and_true] <;> omega) | (repeat' (first | exact True.intro | rfl | refine And.intro ?_ ?_ | (rw [sv_ne _ _ _ _ (by omega)]) | (rw [up_cell _ _ _ (by omega)]) | (rw [fil_cell _ _ _ _ _ (by omega)]) | (rw [hM _ (by omega)]) | (rw [hm _ (by omega)])))) | (have t_ := Inv.bk1 (h); exact Or.inr t_)) (by first | (refine Or.inl (And.intro ?_ ?_) <;> first | (simp only [List.mem_cons, List.not_mem_nil, or_false, forall_eq_or_imp, forall_eq, false_implies, implies_true, and_true] <;> omega) | (repeat' (first | exact True.intro | rfl | refine And.intro ?_ ?_ | (rw [sv_ne _ _ _ _ (by omega)]) | (rw [up_cell _ _ _ (by omega)]) | (rw [fil_cell _ _ _ _ _ (by omega)]) | (rw [hM _ (by omega)]) | (rw [hm _ (by omega)])))) | (have t_ := Inv.pw (h); exact Or.inr t_)) (by first | (refine Or.inl (And.intro ?_ ?_) <;> first | (simp only [List.mem_cons, List.not_mem_nil, or_false, forall_eq_or_imp, forall_eq, false_implies, implies_true, and_true] <;> omega) | (repeat' (first | exact True.intro | rfl | refine And.intro ?_ ?_ | (rw [sv_ne _ _ _ _ (by omega)]) | (rw [up_cell _ _ _ (by omega)]) | (rw [fil_cell _ _ _ _ _ (by omega)]) | (rw [hM _ (by omega)]) | (rw [hm _ (by omega)])))) | (have t_ := Inv.kd (h); exact Or.inr t_)) (by first | (refine Or.inl (And.intro ?_ ?_) <;> first | (simp only [List.mem_cons, List.not_mem_nil, or_false, forall_eq_or_imp, forall_eq, false_implies, implies_true, and_true] <;> omega) | (repeat' (first | exact True.intro | rfl | refine And.intro ?_ ?_ | (rw [sv_ne _ _ _ _ (by omega)]) | (rw [up_cell _ _ _ (by omega)]) | (rw [fil_cell _ _ _ _ _ (by omega)]) | (rw [hM _ (by omega)]) | (rw [hm _ (by omega)])))) | (have t_ := Inv.tn (h); exact Or.inr t_)) (by first | (refine Or.inl (And.intro ?_ ?_) <;> first | (simp only [List.mem_cons, List.not_mem_nil, or_false, forall_eq_or_imp, forall_eq, false_implies, implies_true, and_true] <;> omega) | (repeat' (first | exact True.intro | rfl | refine And.intro ?_ ?_ | (rw [sv_ne _ _ _ _ (by omega)]) | (rw [up_cell _ _ _ (by omega)]) | (rw [fil_cell _ _ _ _ _ (by omega)]) | (rw [hM _ (by omega)]) | (rw [hm _ (by omega)])))) | (have t_ := Inv.ask (h); exact Or.inr t_)) (by first | (refine Or.inl (And.intro ?_ ?_) <;> first | (simp only [List.mem_cons, List.not_mem_nil, or_false, forall_eq_or_imp, forall_eq, false_implies, implies_true, and_true] <;> omega) | (repeat' (first | exact True.intro | rfl | refine And.intro ?_ ?_ | (rw [sv_ne _ _ _ _ (by omega)]) | (rw [up_cell _ _ _ (by omega)]) | (rw [fil_cell _ _ _ _ _ (by omega)]) | (rw [hM _ (by omega)]) | (rw [hm _ (by omega)])))) | (have t_ := Inv.askW (h); exact Or.inr t_)) (by first | (refine Or.inl (And.intro ?_ ?_) <;> first | (simp only [List.mem_cons, List.not_mem_nil, or_false, forall_eq_or_imp, forall_eq, false_implies, implies_true, and_true] <;> omega) | (repeat' (first | exact True.intro | rfl | refine And.intro ?_ ?_ | (rw [sv_ne _ _ _ _ (by omega)]) | (rw [up_cell _ _ _ (by omega)]) | (rw [fil_cell _ _ _ _ _ (by omega)]) | (rw [hM _ (by omega)]) | (rw [hm _ (by omega)])))) | (have t_ := Inv.askR (h); exact Or.inr t_)) (by first | (refine Or.inl (And.intro ?_ ?_) <;> first | (simp only [List.mem_cons, List.not_mem_nil, or_false, forall_eq_or_imp, forall_eq, false_implies, implies_true, and_true] <;> omega) | (repeat' (first | exact True.intro | rfl | refine And.intro ?_ ?_ | (rw [sv_ne _ _ _ _ (by omega)]) | (rw [up_cell _ _ _ (by omega)]) | (rw [fil_cell _ _ _ _ _ (by omega)]) | (rw [hM _ (by omega)]) | (rw [hm _ (by omega)])))) | (have t_ := Inv.lv0 (h); exact Or.inr t_)) (by first | (refine Or.inl (And.intro ?_ ?_) <;> first | (simp only [List.mem_cons, List.not_mem_nil, or_false, forall_eq_or_imp, forall_eq, false_implies, implies_true, and_true] <;> omega) | (repeat' (first | exact True.intro | rfl | refine And.intro ?_ ?_ | (rw [sv_ne _ _ _ _ (by omega)]) | (rw [up_cell _ _ _ (by omega)]) | (rw [fil_cell _ _ _ _ _ (by omega)]) | (rw [hM _ (by omega)]) | (rw [hm _ (by omega)])))) | (have t_ := Inv.lv2 (h); exact Or.inr t_)) (by first | (refine Or.inl (And.intro ?_ ?_) <;> first | (simp only [List.mem_cons, List.not_mem_nil, or_false, forall_eq_or_imp, forall_eq, false_implies, implies_true, and_true] <;> omega) | (repeat' (first | exact True.intro | rfl | refine And.intro ?_ ?_ | (rw [sv_ne _ _ _ _ (by omega)]) | (rw [up_cell _ _ _ (by omega)]) | (rw [fil_cell _ _ _ _ _ (by omega)]) | (rw [hM _ (by omega)]) | (rw [hm _ (by omega)])))) | (have t_ := Inv.pl (h); exact Or.inr t_)) (by first | (refine Or.inl (And.intro ?_ ?_) <;> first | (simp only [List.mem_cons, List.not_mem_nil, or_false, forall_eq_or_imp, forall_eq, false_implies, implies_true, and_true] <;> omega) | (repeat' (first | exact True.intro | rfl | refine And.intro ?_ ?_ | (rw [sv_ne _ _ _ _ (by omega)]) | (rw [up_cell _ _ _ (by omega)]) | (rw [fil_cell _ _ _ _ _ (by omega)]) | (rw [hM _ (by omega)]) | (rw [hm _ (by omega)])))) | (have t_ := Inv.pi (h); exact Or.inr t_)) (by first | (refine Or.inl (And.intro ?_ ?_) <;> first | (simp only [List.mem_cons, List.not_mem_nil, or_false, forall_eq_or_imp, forall_eq, false_implies, implies_true, and_true] <;> omega) | (repeat' (first | exact True.intro | rfl | refine And.intro ?_ ?_ | (rw [sv_ne _ _ _ _ (by omega)]) | (rw [up_cell _ _ _ (by omega)]) | (rw [fil_cell _ _ _ _ _ (by omega)]) | (rw [hM _ (by omega)]) | (rw [hm _ (by omega)])))) | (have t_ := Inv.dis (h); exact Or.inr t_)))
theorem r_220h {kc : it_Kc} {B : Nat} {m M : it_Me} (hI : Inv B m) (hR : Rel m M) {i d k : Nat} (hi : i < cnt m) (hd : d < 9) (hg : m (14 + 5 * i + 4) d ≠ 0) (hk : k < gsz d) (h4 : k % 4 = 0) {a : Int32} (ha : m (14 + 5 * i + 4) d + nI k = a) {Φ : Int32 → it_Me → Prop} (h : Φ (gw m a) M) : w_220 kc a M Φ := by
  subst ha
  exact r_220g hI hR hi hd hg hk h4 h
theorem r_276 {kc : it_Kc} {B : Nat} {m M : it_Me} (hI : Inv B m) (hR : Rel m M) {i d n : Nat} (hi : i < cnt m) (hd : d < 9) (hg : m (14 + 5 * i + 4) d ≠ 0) (hn : n < sbN d) {a b c : Int32} {Φ : it_Me → Prop} (h : Φ (gvM (enM M i (gw m (m (14 + 5 * i + 4) d + nI (8 * (1 + n) + 4))) (gw m (m (14 + 5 * i + 4) d + nI (8 * (1 + n))))) i (16 * nI d + nI n) a b c)) : w_276 kc (nI i) (nI d) (nI n) a b c M Φ := by
  have h8 := cnt_le hI
  have i8 : i < 8 := by omega
  have kk := kN hd
  unfold w_276
  refine r_272 hI hR hi hd ?_
  rw [if_neg hg, ga12, ga8, ix_1 i8, ix_13 i8, cI i8]
  have R1 := hR.reg h8 hi (r := 1) (by omega) (M 94 i)
  have I1 := hI.reg hi 1 (M 94 i)
  have c1 : ∀ (m : it_Me) r v, cnt (it_sv m (14 + 5 * i + 2) r v) = cnt m := fun m r v => cnt_sv _ _ _ (by omega)
  refine ⟨vI i8, vx_1 i8, r_220h I1 R1 (i := i) (d := d) (k := 8 * (1 + n) + 4) (by rw [c1]; exact hi) hd (by rw [sv_n1 _ _ _ _ _ (by omega)]; exact hg) (by omega) (by omega) (by rw [sv_n1 _ _ _ _ _ (by omega)]) ⟨vx_13 i8, ?_⟩⟩
  rw [gw_sv _ _ _ _ (by omega)]
  have R2 := R1.reg (i := i) (r := 13) (by rw [c1]; exact h8) (by rw [c1]; exact hi) (by omega) (gw m (m (14 + 5 * i + 4) d + nI (8 * (1 + n) + 4)))
  have I2 := I1.reg (i := i) (by rw [c1]; exact hi) 13 (gw m (m (14 + 5 * i + 4) d + nI (8 * (1 + n) + 4)))
  refine r_220h I2 R2 (i := i) (d := d) (k := 8 * (1 + n)) (by rw [c1, c1]; exact hi) hd (by rw [sv_n1 _ _ _ _ _ (by omega), sv_n1 _ _ _ _ _ (by omega)]; exact hg) (by omega) (by omega) (by rw [sv_n1 _ _ _ _ _ (by omega), sv_n1 _ _ _ _ _ (by omega)]) ⟨vI i8, ?_⟩
  rw [gw_sv _ _ _ _ (by omega), gw_sv _ _ _ _ (by omega)]
  refine r_275 hI ?_ i8 h
  rw [sv_n1 _ _ _ _ _ (by omega), sv_n1 _ _ _ _ _ (by omega), sv_n1 _ _ _ _ _ (by omega)]
  exact hR.counts 11 (by omega)
theorem gvM_fr (M : it_Me) (i : Nat) (x a b c : Int32) : FrM M (gvM M i x a b c) := fun k hk => by
  unfold gvM
  rw [ntM_c _ _ _ _ (by omega), sv_cell _ _ _ _ (by omega), sv_cell _ _ _ _ (by omega), rgM_c _ _ (by omega)]
theorem enM_fr (M : it_Me) (i : Nat) (v w : Int32) : FrM M (enM M i v w) := ((FrM.rfl.sv (by omega)).sv (by omega)).sv (by omega)
theorem gvC_K (m : it_Me) {i : Nat} (i8 : i < 8) (x a b c : Int32) : Kp m (gvC m i x a b c) ∧ FrC m (gvC m i x a b c) :=
  ⟨Kp.of (fun k hk => gvC_c _ _ _ _ _ _ (by omega)) (gvC_4 _ _ _ _ _ _), fun k hk => gvC_c _ _ _ _ _ _ (by omega)⟩
theorem enC_K (m : it_Me) {i : Nat} (i8 : i < 8) (a : Int32) : Kp m (enC m i a) ∧ FrC m (enC m i a) :=
  ⟨Kp.of (fun k hk => enC_c _ _ _ (by omega)) (by rw [enC_c _ _ _ (by omega)]), fun k hk => enC_c _ _ _ (by omega)⟩
set_option maxHeartbeats 1000000 in
theorem sd {kc : it_Kc} (hk : KC kc) {B : Nat} {m : it_Me} (hI : Inv B m) (hB : B < 2147483000) {i d n : Nat} (hi : i < cnt m) (hd : d < 9) (hn : n < sbN d) (a b c : Int32) : Lv (w_80 kc (14 + 5 * i) (nI d) (nI n) a b c) (w_274 kc (nI i) (nI d) (nI n) a b c) (B + 1) m (Kp m) := by
  have h8 := cnt_le hI
  have i8 : i < 8 := by omega
  have hP := hI.p hi
  have kk := kN hd
  have hI' : Inv (B + 1) m := hI.mono (by omega)
  by_cases hov : m (14 + 5 * i) 9 = 4 ∨ m (14 + 5 * i) 9 = 5
  · refine ⟨m, fun Φ h => ?_, hI', FrC.rfl, Kp.rfl, fun M hM Φ h => ?_⟩
    · unfold w_80
      exact c_131o hov ⟨fun q => absurd q (by decide), fun _ => h⟩
    · unfold w_274 w_274_20
      rw [cI i8, hM.state hi]
      have h' := h M hM FrM.rfl
      refine ⟨vI i8, fun _ => h', fun q4 => ⟨vI i8, fun _ => h', fun q5 => ?_⟩⟩
      rcases hov with q | q
      · exact absurd q q4
      · exact absurd q q5
  have h4 : ¬ m (14 + 5 * i) 9 = 4 := fun q => hov (Or.inl q)
  have h5 : ¬ m (14 + 5 * i) 9 = 5 := fun q => hov (Or.inr q)
  by_cases hw : m (14 + 5 * i) 9 = 3 ∧ m (14 + 5 * i) 15 = nI d ∧ m (14 + 5 * i) 16 = nI n
  · refine ⟨gvC m i (16 * nI d + nI n) a b c, fun Φ h => ?_, gv_I hI hB (Nat.le_refl _) hi _ _ _ _, (gvC_K m i8 _ _ _ _).2, (gvC_K m i8 _ _ _ _).1, fun M hM Φ h => ?_⟩
    · unfold w_80 w_80_168
      exact c_131n h4 h5 ⟨fun _ => ⟨fun _ => ⟨fun _ => ⟨fun _ => c_83 hk hI hi h, fun q => absurd hw.2.2 q⟩, fun q => absurd hw.2.1 q⟩, fun q => absurd hw.1 q⟩, fun q => absurd rfl q⟩
    · unfold w_274
      rw [cI i8, hM.state hi, hM.wd hi, hM.wn hi]
      refine ⟨vI i8, fun q => absurd q h4, fun _ => ⟨vI i8, fun q => absurd q h5, fun _ => ⟨vI i8, fun _ => ⟨vI i8, fun _ => ⟨vI i8, fun _ => ⟨vI i8, r_275 hI ?_ i8 (h _ (gv_R hI hM hi ⟨h4, h5⟩ _ _ _ _) ((FrM.rfl.sv (by omega)).trans (gvM_fr _ _ _ _ _ _)))⟩, fun q => absurd hw.2.2 q⟩, fun q => absurd hw.2.1 q⟩, fun q => absurd hw.1 q⟩⟩⟩
      rw [sv_n1 _ _ _ _ _ (by omega)]
      exact hM.counts 11 (by omega)
  suffices H : ∃ m', (∀ Φ, Φ m' → w_80_48 kc Φ (14 + 5 * i) (nI d) (nI n) a b c m) ∧ Inv (B + 1) m' ∧ FrC m m' ∧ Kp m m' ∧ ∀ M, Rel m M → ∀ Φ, (∀ M', Rel m' M' → FrM M M' → Φ M') → w_274_72 kc Φ (nI i) (nI d) (nI n) a b c M by
    obtain ⟨m', H1, H2, H3, H4, H5⟩ := H
    refine ⟨m', fun Φ h => ?_, H2, H3, H4, fun M hM Φ h => ?_⟩
    · unfold w_80
      exact c_131n h4 h5 ⟨fun _ => ⟨fun q3 => ⟨fun qd => ⟨fun qn => absurd ⟨q3, qd, qn⟩ hw, fun _ => H1 Φ h⟩, fun _ => H1 Φ h⟩, fun _ => H1 Φ h⟩, fun q => absurd rfl q⟩
    · unfold w_274
      rw [cI i8, hM.state hi, hM.wd hi, hM.wn hi]
      exact ⟨vI i8, fun q => absurd q h4, fun _ => ⟨vI i8, fun q => absurd q h5, fun _ => ⟨vI i8, fun q3 => ⟨vI i8, fun qd => ⟨vI i8, fun qn => absurd ⟨q3, qd, qn⟩ hw, fun _ => H5 M hM Φ h⟩, fun _ => H5 M hM Φ h⟩, fun _ => H5 M hM Φ h⟩⟩⟩
  by_cases hz : gw m (m (14 + 5 * i + 4) d + nI (8 * (1 + n))) = 0
  · refine ⟨m, fun Φ h => ?_, hI', FrC.rfl, Kp.rfl, fun M hM Φ h => ?_⟩
    · unfold w_80_48
      exact c_87 hd (c_12 ⟨fun _ => h, fun q => absurd hz q⟩)
    · unfold w_274_72 w_274_103
      refine r_272 hI hM hi hd ?_
      have h' := h M hM FrM.rfl
      by_cases hg : m (14 + 5 * i + 4) d = 0
      · rw [if_pos hg]
        exact ⟨fun _ => h', fun q => absurd rfl q⟩
      · rw [if_neg hg, ga8]
        exact ⟨fun _ => h', fun _ => r_220g hI hM hi hd hg (by omega) (by omega) ⟨fun _ => h', fun q => absurd hz q⟩⟩
  have hg : m (14 + 5 * i + 4) d ≠ 0 := by
    intro q
    apply hz
    rw [q, Int32.zero_add]
    exact gw_low (by rw [nI_toInt (by omega)]; omega)
  have gI := hP.gI hd hg
  have l0 := hP.low0
  have ne1 : ¬ m (14 + 5 * i + 4) d = -1 := by
    intro q
    rw [q] at gI
    have e1 : (-1 : Int32).toInt = -1 := by decide
    have := gI.2.1
    omega
  by_cases s2 : m (14 + 5 * i) 9 = 2
  · refine ⟨enC (gvC m i (16 * nI d + nI n) a b c) i (m (14 + 5 * i + 4) d + nI (8 * (1 + n))), fun Φ h => ?_, ?_, (gvC_K m i8 _ _ _ _).2.trans (enC_K _ i8 _).2, (gvC_K m i8 _ _ _ _).1.trans (enC_K _ i8 _).1, fun M hM Φ h => ?_⟩
    · unfold w_80_48 w_80_168
      refine c_87 hd (c_12 ⟨fun q => absurd q hz, fun _ => ⟨fun _ => c_83 hk hI hi (c_84 hd ?_), fun q => absurd s2 q⟩⟩)
      rw [gvC_c _ _ _ _ _ _ (by omega)]
      exact h
    · exact en_I (gv_I hI hB (Nat.le_refl _) hi _ _ _ _) (by rw [cnt_gv]; exact hi) _ (by rw [gw_cg (gvC_c _ _ _ _ _ _ (by omega))]; exact hP.sfe d hd hg n hn)
    · unfold w_274_72 w_274_103
      refine r_272 hI hM hi hd ?_
      rw [if_neg hg, ga8]
      refine ⟨fun q => absurd q ne1, fun _ => r_220g hI hM hi hd hg (by omega) (by omega) ⟨fun q => absurd q hz, fun _ => ?_⟩⟩
      rw [cI i8, hM.state hi]
      refine ⟨vI i8, fun _ => ⟨vI i8, ?_⟩, fun q => absurd s2 q⟩
      have R1 := hM.ps1 h8 hi (a := 95) (c := 9) (by decide) (by omega) (by omega) 1 (fun _ _ _ => hM.rsv i hi h4 h5) (fun q => absurd q (by omega))
      have I1 := hI.fld (c := 9) (v := 1) hi (by omega) (fun _ => ⟨by decide, fun q => absurd q (by decide)⟩) (fun q => absurd q (by omega))
      refine r_276 I1 R1 (by rw [cnt_sv _ _ _ (by omega)]; exact hi) hd (by rw [sv_n1 _ _ _ _ _ (by omega)]; exact hg) hn ?_
      rw [sv_n1 _ _ _ _ _ (by omega), gw_sv _ _ _ _ (by omega), gw_sv _ _ _ _ (by omega), ← en_95, ← ga4]
      refine h _ ?_ (((enM_fr _ _ _ _).trans (FrM.rfl.sv (by omega))).trans (gvM_fr _ _ _ _ _ _))
      have R2 := en_R hM h8 hi (m (14 + 5 * i + 4) d + nI (8 * (1 + n)))
      have I2 := en_I hI hi (m (14 + 5 * i + 4) d + nI (8 * (1 + n))) (hP.sfe d hd hg n hn)
      have e9 : enC m i (m (14 + 5 * i + 4) d + nI (8 * (1 + n))) (14 + 5 * i) 9 = m (14 + 5 * i) 9 := by unfold enC; rw [sv_n2 _ _ _ _ (by omega), sv_n1 _ _ _ _ _ (by omega), sv_n1 _ _ _ _ _ (by omega)]
      have R3 := gv_R I2 R2 (i := i) (by rw [cnt_en]; exact hi) (by rw [e9]; exact ⟨h4, h5⟩) (16 * nI d + nI n) a b c
      rw [gv_en] at R3
      exact R3
  have qn := hP.qn
  by_cases q10 : m (14 + 5 * i) 14 = 10
  · have I1 := ctw_I hI hi (k := 40) (by omega) (gw m (ctl m i + nI 40) + 1)
    refine ⟨nt (pw m (ctl m i + nI 40) (gw m (ctl m i + nI 40) + 1)) (nI i) 5 (16 * nI d + nI n), fun Φ h => ?_, I1.note hB (Nat.le_refl _) _ (by omega) _, ?_, ?_, fun M hM Φ h => ?_⟩
    · unfold w_80_48 w_80_168 w_129
      refine c_87 hd (c_12 ⟨fun q => absurd q hz, fun _ => ⟨fun q => absurd q s2, fun _ => ⟨fun _ => c_12 (c_13 ?_), fun q => absurd (by rw [q10]; decide) q⟩⟩⟩)
      have e0 : pw m (m (14 + 5 * i) 5 + m (14 + 5 * i) 6 - 64 + 40) (gw m (m (14 + 5 * i) 5 + m (14 + 5 * i) 6 - 64 + 40) + 1) (14 + 5 * i) 0 = nI i := by rw [pw_c _ _ _ (by omega)]; exact hI.num i i8
      rw [e0]
      exact c_69 hk I1 (k := 5) (by omega) h
    · intro k hk
      rw [nt_c _ _ _ _ (by omega), pw_c _ _ _ (by omega)]
    · exact Kp.of (fun k hk => by rw [nt_c _ _ _ _ (by omega), pw_c _ _ _ (by omega)]) (by rw [nt_40, pw_c _ _ _ (by omega)])
    · unfold w_274_72 w_274_103
      refine r_272 hI hM hi hd ?_
      rw [if_neg hg, ga8]
      refine ⟨fun q => absurd q ne1, fun _ => r_220g hI hM hi hd hg (by omega) (by omega) ⟨fun q => absurd q hz, fun _ => ?_⟩⟩
      rw [cI i8, hM.state hi, hM.queued hi, cl_9]
      refine ⟨vI i8, fun q => absurd q s2, fun _ => ⟨vI i8, fun _ => ⟨v12_9, v12_9, vI i8, vI i8, ?_⟩, fun q => absurd q10 q⟩⟩
      refine r_257 hI ?_ ?_
      · rw [sv_n1 _ _ _ _ _ (by omega), sv_n2 _ _ _ _ (by omega)]; exact hM.counts 11 (by omega)
      · have R1 := hM.ctw hI hi (k := 40) (a := 105) (by decide) (gw m (ctl m i + nI 40) + 1)
        have R2 := R1.note I1 (nI i) (k := 5) (by omega) (by omega) (16 * nI d + nI n)
        have e105 : M 105 i = gw m (ctl m i + nI 40) := (hM.ctlw i hi).2.2.2
        rw [sv_n1 _ _ _ _ _ (by decide)] at R2
        rw [sv_n1 _ _ _ _ _ (by omega), e105, sv_comm _ 69 9 _ 105 i _ (by omega)]
        refine h _ R2 (fun k hk => ?_)
        rw [ntM_c _ _ _ _ (by omega), sv_cell _ _ _ _ (by omega), sv_cell _ _ _ _ (by omega)]
  · have q9 : (m (14 + 5 * i) 14).toInt < 10 := by
      have : (m (14 + 5 * i) 14).toInt ≠ 10 := fun q => q10 (Int32.toInt_inj.mp q)
      omega
    refine ⟨quC m i (nI d) (nI n) a b c, fun Φ h => ?_, (qu_I hI hi q9 hd hg hn ⟨h4, h5⟩ a b c).mono (by omega), ?_, ?_, fun M hM Φ h => ?_⟩
    · unfold w_80_48 w_80_168
      refine c_87 hd (c_12 ⟨fun q => absurd q hz, fun _ => ⟨fun q => absurd q s2, fun _ => ⟨fun q => ?_, fun _ => c_141 ⟨qn.1, q9⟩ h⟩⟩⟩)
      exfalso; rw [Int32.le_iff_toInt_le] at q; simp only [Int32.reduceToInt] at q; omega
    · unfold quC
      exact (((((FrC.rfl.sv (by omega)).sv (by omega)).sv (by omega)).sv (by omega)).sv (by omega)).sv (by omega)
    · unfold quC
      exact (((((Kp.rfl.sv (by omega)).sv (by omega)).sv (by omega)).sv (by omega)).sv (by omega)).sv (by omega)
    · have hR := qu_R hI hM hi q9 (nI d) (nI n) a b c
      have e5 : (5 * m (14 + 5 * i) 14).toInt = 5 * (m (14 + 5 * i) 14).toInt := by rw [Int32.toInt_mul]; show Int.bmod (5 * _) (2 ^ 32) = _; rw [bmI' (by omega) (by omega)]
      have e50 : (50 * nI i).toInt = 50 * (i : Int) := by rw [Int32.toInt_mul, nI_toInt (by omega)]; show Int.bmod (50 * _) (2 ^ 32) = _; rw [bmI' (by omega) (by omega)]
      have es : (50 * nI i + 5 * m (14 + 5 * i) 14).toInt = 50 * (i : Int) + 5 * (m (14 + 5 * i) 14).toInt := by rw [add_I] <;> omega
      have ej : ∀ j : Nat, j < 5 → (50 * nI i + 5 * m (14 + 5 * i) 14 + nI j).toInt = 50 * (i : Int) + 5 * (m (14 + 5 * i) 14).toInt + j := fun j hj => by
        have := nI_toInt (n := j) (by omega)
        rw [add_I] <;> omega
      have c0 : Int32.toNatClampNeg (50 * nI i + 5 * m (14 + 5 * i) 14) = 50 * i + 5 * Int32.toNatClampNeg (m (14 + 5 * i) 14) := by rw [clampI, clampI, es]; omega
      have cj : ∀ j : Nat, j < 5 → Int32.toNatClampNeg (50 * nI i + 5 * m (14 + 5 * i) 14 + nI j) = 50 * i + (5 * Int32.toNatClampNeg (m (14 + 5 * i) 14) + j) := fun j hj => by rw [clampI, clampI, ej j hj]; omega
      have vj : ∀ j : Nat, j < 5 → vp_in (50 * nI i + 5 * m (14 + 5 * i) 14 + nI j) 400 := fun j hj => by rw [vp_in_iff, ej j hj]; omega
      unfold w_274_72 w_274_103
      refine r_272 hI hM hi hd ?_
      rw [if_neg hg, ga8]
      refine ⟨fun q => absurd q ne1, fun _ => r_220g hI hM hi hd hg (by omega) (by omega) ⟨fun q => absurd q hz, fun _ => ?_⟩⟩
      have hp := h _ hR (by unfold quM; exact (((((FrM.rfl.sv (by omega)).sv (by omega)).sv (by omega)).sv (by omega)).sv (by omega)).sv (by omega))
      unfold quM at hp
      rw [hM.queued hi] at hp
      rw [cI i8, hM.state hi, hM.queued hi, c0, show Int32.toNatClampNeg (50 * nI i + 5 * m (14 + 5 * i) 14 + 1) = _ from cj 1 (by omega), show Int32.toNatClampNeg (50 * nI i + 5 * m (14 + 5 * i) 14 + 2) = _ from cj 2 (by omega), show Int32.toNatClampNeg (50 * nI i + 5 * m (14 + 5 * i) 14 + 3) = _ from cj 3 (by omega), show Int32.toNatClampNeg (50 * nI i + 5 * m (14 + 5 * i) 14 + 4) = _ from cj 4 (by omega)]
      refine ⟨vI i8, fun q => absurd q s2, fun _ => ⟨vI i8, fun q => absurd q q10, fun _ => ⟨vI i8, by rw [vp_in_iff, es]; omega, vj 1 (by omega), vj 2 (by omega), vj 3 (by omega), vj 4 (by omega), vI i8, vI i8, ?_⟩⟩⟩
      simp (disch := omega) only [sv_n1]
      rw [hM.queued hi]
      exact hp
