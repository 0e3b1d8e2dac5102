/-! The entries of protection, as a list; the class writes them. -/
def ptL (v1 v2 v3 : Int32) : List (Int32 × Int32) := if v2 = 0 then [] else if v2 &&& (v2 - 1) = 0 ∧ v1 &&& (v2 - 1) = 0 then (if v2 = 4 then [(it_shr v1 2, v3 ||| 16)] else [(it_shr v1 2 ||| (it_shr v2 3 - 1), v3 ||| 24)]) else [(it_shr v1 2, 0), (it_shr (v1 + v2) 2, v3 ||| 8)]
theorem ptL_len (v1 v2 v3 : Int32) : (ptL v1 v2 v3).length ≤ 2 := by
  unfold ptL
  repeat' split
  all_goals (first | exact Nat.zero_le _ | (show 2 ≤ 2; exact Nat.le_refl 2) | (show 1 ≤ 2; exact Nat.le_succ 1))
theorem gd_last {α : Type} (d x : α) : ∀ L : List α, (L ++ [x]).getD L.length d = x
  | [] => rfl
  | _ :: L => gd_last d x L
theorem gd_old {α : Type} (d x : α) : ∀ (L : List α) (j : Nat), j ≠ L.length → (L ++ [x]).getD j d = L.getD j d
  | [], 0, h => absurd rfl h
  | [], _ + 1, _ => rfl
  | _ :: _, 0, _ => rfl
  | _ :: L, j + 1, h => gd_old d x L j (fun e => h (by rw [e]; rfl))
/-- the class's rows hold the list -/
def peC (m : it_Me) (L : List (Int32 × Int32)) : it_Me := it_sv (it_up (it_up m 11 (fun j => if j < 16 then (L.getD j (0, 0)).1 else m 11 j)) 12 (fun j => if j < 16 then (L.getD j (0, 0)).2 else m 12 j)) 9 6 (nI L.length)
theorem pe_k (m : it_Me) (L : List (Int32 × Int32)) {k : Nat} (h : k ≠ 9 ∧ k ≠ 11 ∧ k ≠ 12) : peC m L k = m k := by
  unfold peC
  rw [sv_cell _ _ _ _ h.1, up_cell _ _ _ h.2.2, up_cell _ _ _ h.2.1]
theorem pe_9 (m : it_Me) (L : List (Int32 × Int32)) {j : Nat} (h : j ≠ 6) : peC m L 9 j = m 9 j := by
  unfold peC
  rw [sv_n2 _ _ _ _ h, up_cell _ _ _ (by omega), up_cell _ _ _ (by omega)]
theorem pe_96 (m : it_Me) (L : List (Int32 × Int32)) : peC m L 9 6 = nI L.length := by
  unfold peC
  rw [sv_same]
theorem pe_11 (m : it_Me) (L : List (Int32 × Int32)) (j : Nat) : peC m L 11 j = if j < 16 then (L.getD j (0, 0)).1 else m 11 j := by
  unfold peC
  rw [sv_n1 _ _ _ _ _ (by omega), up_cell _ _ _ (by omega), up_same]
theorem pe_12 (m : it_Me) (L : List (Int32 × Int32)) (j : Nat) : peC m L 12 j = if j < 16 then (L.getD j (0, 0)).2 else m 12 j := by
  unfold peC
  rw [sv_n1 _ _ _ _ _ (by omega), up_same]
/-- cells 11 and 12, and 9 6, are the class's alone -/
def Sm (m m' : it_Me) : Prop := (∀ k, k ≠ 9 → k ≠ 11 → k ≠ 12 → m' k = m k) ∧ ∀ j, j ≠ 6 → m' 9 j = m 9 j
theorem Sm.rfl {m : it_Me} : Sm m m := ⟨fun _ _ _ _ => Eq.refl _, fun _ _ => Eq.refl _⟩
theorem Sm.trans {a b c : it_Me} (h : Sm a b) (g : Sm b c) : Sm a c := ⟨fun k h1 h2 h3 => (g.1 k h1 h2 h3).trans (h.1 k h1 h2 h3), fun j hj => (g.2 j hj).trans (h.2 j hj)⟩
theorem pe_S (m : it_Me) (L : List (Int32 × Int32)) : Sm m (peC m L) := ⟨fun _ h1 h2 h3 => pe_k _ _ ⟨h1, h2, h3⟩, fun _ h => pe_9 _ _ h⟩
theorem Sm.eq {m m' : it_Me} (h : Sm m m') : m' = it_sv (it_up (it_up m 11 (m' 11)) 12 (m' 12)) 9 6 (m' 9 6) := by
  funext k j
  by_cases k9 : k = 9
  · subst k9
    by_cases j6 : j = 6
    · subst j6; rw [sv_same]
    · rw [sv_n2 _ _ _ _ j6, up_cell _ _ _ (by omega), up_cell _ _ _ (by omega)]
      exact h.2 j j6
  · rw [sv_n1 _ _ _ _ _ k9]
    by_cases k12 : k = 12
    · subst k12; rw [up_same]
    · rw [up_cell _ _ _ k12]
      by_cases k11 : k = 11
      · subst k11; rw [up_same]
      · rw [up_cell _ _ _ k11, h.1 k k9 k11 k12]
theorem Sm.I {B : Nat} {m m' : it_Me} (h : Sm m m') (hI : Inv B m) : Inv B m' := by
  rw [h.eq]
  generalize m' 11 = f
  generalize m' 12 = g
  generalize m' 9 6 = v
  exact (Inv.upd (hI) (Nat.le_refl B) ([9, 11, 12]) (by intro k hk; simp only [List.mem_cons, List.not_mem_nil, or_false, not_or, not_false_eq_true] at hk; first | rfl | (repeat (first | rw [sv_cell _ _ _ _ (by omega)] | rw [up_cell _ _ _ (by omega)] | rw [fil_cell _ _ _ _ _ (by omega)]))) (by first | (refine Or.inl (And.intro ?_ ?_) <;> first | (simp only [List.mem_cons, List.not_mem_nil, or_false, forall_eq_or_imp, forall_eq, false_implies, implies_true, and_true] <;> omega) | (repeat' (first | exact True.intro | rfl | refine And.intro ?_ ?_ | (rw [sv_ne _ _ _ _ (by omega)]) | (rw [up_cell _ _ _ (by omega)]) | (rw [fil_cell _ _ _ _ _ (by omega)]) | (rw [hM _ (by omega)]) | (rw [hm _ (by omega)])))) | (have t_ := Inv.tl (hI); exact Or.inr t_)) (by first | (refine Or.inl (And.intro ?_ ?_) <;> first | (simp only [List.mem_cons, List.not_mem_nil, or_false, forall_eq_or_imp, forall_eq, false_implies, implies_true, and_true] <;> omega) | (repeat' (first | exact True.intro | rfl | refine And.intro ?_ ?_ | (rw [sv_ne _ _ _ _ (by omega)]) | (rw [up_cell _ _ _ (by omega)]) | (rw [fil_cell _ _ _ _ _ (by omega)]) | (rw [hM _ (by omega)]) | (rw [hm _ (by omega)])))) | (have t_ := Inv.tp (hI); exact Or.inr t_)) (by first | (refine Or.inl (And.intro ?_ ?_) <;> first | (simp only [List.mem_cons, List.not_mem_nil, or_false, forall_eq_or_imp, forall_eq, false_implies, implies_true, and_true] <;> omega) | (repeat' (first | exact True.intro | rfl | refine And.intro ?_ ?_ | (rw [sv_ne _ _ _ _ (by omega)]) | (rw [up_cell _ _ _ (by omega)]) | (rw [fil_cell _ _ _ _ _ (by omega)]) | (rw [hM _ (by omega)]) | (rw [hm _ (by omega)])))) | (have t_ := Inv.on (hI); exact Or.inr t_)) (by first | (refine Or.inl (And.intro ?_ ?_) <;> first | (simp only [List.mem_cons, List.not_mem_nil, or_false, forall_eq_or_imp, forall_eq, false_implies, implies_true, and_true] <;> omega) | (repeat' (first | exact True.intro | rfl | refine And.intro ?_ ?_ | (rw [sv_ne _ _ _ _ (by omega)]) | (rw [up_cell _ _ _ (by omega)]) | (rw [fil_cell _ _ _ _ _ (by omega)]) | (rw [hM _ (by omega)]) | (rw [hm _ (by omega)])))) | (have t_ := Inv.off (hI); exact Or.inr t_)) (by first | (refine Or.inl (And.intro ?_ ?_) <;> first | (simp only [List.mem_cons, List.not_mem_nil, or_false, forall_eq_or_imp, forall_eq, false_implies, implies_true, and_true] <;> omega) | (repeat' (first | exact True.intro | rfl | refine And.intro ?_ ?_ | (rw [sv_ne _ _ _ _ (by omega)]) | (rw [up_cell _ _ _ (by omega)]) | (rw [fil_cell _ _ _ _ _ (by omega)]) | (rw [hM _ (by omega)]) | (rw [hm _ (by omega)])))) | (have t_ := Inv.cn (hI); exact Or.inr t_)) (by first | (refine Or.inl (And.intro ?_ ?_) <;> first | (simp only [List.mem_cons, List.not_mem_nil, or_false, forall_eq_or_imp, forall_eq, false_implies, implies_true, and_true] <;> omega) | (repeat' (first | exact True.intro | rfl | refine And.intro ?_ ?_ | (rw [sv_ne _ _ _ _ (by omega)]) | (rw [up_cell _ _ _ (by omega)]) | (rw [fil_cell _ _ _ _ _ (by omega)]) | (rw [hM _ (by omega)]) | (rw [hm _ (by omega)])))) | (have t_ := Inv.ev (hI); exact Or.inr t_)) (by first | (refine Or.inl (And.intro ?_ ?_) <;> first | (simp only [List.mem_cons, List.not_mem_nil, or_false, forall_eq_or_imp, forall_eq, false_implies, implies_true, and_true] <;> omega) | (repeat' (first | exact True.intro | rfl | refine And.intro ?_ ?_ | (rw [sv_ne _ _ _ _ (by omega)]) | (rw [up_cell _ _ _ (by omega)]) | (rw [fil_cell _ _ _ _ _ (by omega)]) | (rw [hM _ (by omega)]) | (rw [hm _ (by omega)])))) | (have t_ := Inv.out (hI); exact Or.inr t_)) (by first | (refine Or.inl (And.intro ?_ ?_) <;> first | (simp only [List.mem_cons, List.not_mem_nil, or_false, forall_eq_or_imp, forall_eq, false_implies, implies_true, and_true] <;> omega) | (repeat' (first | exact True.intro | rfl | refine And.intro ?_ ?_ | (rw [sv_ne _ _ _ _ (by omega)]) | (rw [up_cell _ _ _ (by omega)]) | (rw [fil_cell _ _ _ _ _ (by omega)]) | (rw [hM _ (by omega)]) | (rw [hm _ (by omega)])))) | (have t_ := Inv.num (hI); exact Or.inr t_)) (by first | (refine Or.inl (And.intro ?_ ?_) <;> first | (simp only [List.mem_cons, List.not_mem_nil, or_false, forall_eq_or_imp, forall_eq, false_implies, implies_true, and_true] <;> omega) | (repeat' (first | exact True.intro | rfl | refine And.intro ?_ ?_ | (rw [sv_ne _ _ _ _ (by omega)]) | (rw [up_cell _ _ _ (by omega)]) | (rw [fil_cell _ _ _ _ _ (by omega)]) | (rw [hM _ (by omega)]) | (rw [hm _ (by omega)])))) | (have t_ := Inv.crc (hI); exact Or.inr t_)) (by first | (refine Or.inl (And.intro ?_ ?_) <;> first | (simp only [List.mem_cons, List.not_mem_nil, or_false, forall_eq_or_imp, forall_eq, false_implies, implies_true, and_true] <;> omega) | (repeat' (first | exact True.intro | rfl | refine And.intro ?_ ?_ | (rw [sv_ne _ _ _ _ (by omega)]) | (rw [up_cell _ _ _ (by omega)]) | (rw [fil_cell _ _ _ _ _ (by omega)]) | (rw [hM _ (by omega)]) | (rw [hm _ (by omega)])))) | (have t_ := Inv.bk (hI); exact Or.inr t_)) (by first | (refine Or.inl (And.intro ?_ ?_) <;> first | (simp only [List.mem_cons, List.not_mem_nil, or_false, forall_eq_or_imp, forall_eq, false_implies, implies_true, and_true] <;> omega) | (repeat' (first | exact True.intro | rfl | refine And.intro ?_ ?_ | (rw [sv_ne _ _ _ _ (by omega)]) | (rw [up_cell _ _ _ (by omega)]) | (rw [fil_cell _ _ _ _ _ (by omega)]) | (rw [hM _ (by omega)]) | (rw [hm _ (by omega)])))) | (have t_ := Inv.bk1 (hI); exact Or.inr t_)) (by first | (refine Or.inl (And.intro ?_ ?_) <;> first | (simp only [List.mem_cons, List.not_mem_nil, or_false, forall_eq_or_imp, forall_eq, false_implies, implies_true, and_true] <;> omega) | (repeat' (first | exact True.intro | rfl | refine And.intro ?_ ?_ | (rw [sv_ne _ _ _ _ (by omega)]) | (rw [up_cell _ _ _ (by omega)]) | (rw [fil_cell _ _ _ _ _ (by omega)]) | (rw [hM _ (by omega)]) | (rw [hm _ (by omega)])))) | (have t_ := Inv.pw (hI); exact Or.inr t_)) (by first | (refine Or.inl (And.intro ?_ ?_) <;> first | (simp only [List.mem_cons, List.not_mem_nil, or_false, forall_eq_or_imp, forall_eq, false_implies, implies_true, and_true] <;> omega) | (repeat' (first | exact True.intro | rfl | refine And.intro ?_ ?_ | (rw [sv_ne _ _ _ _ (by omega)]) | (rw [up_cell _ _ _ (by omega)]) | (rw [fil_cell _ _ _ _ _ (by omega)]) | (rw [hM _ (by omega)]) | (rw [hm _ (by omega)])))) | (have t_ := Inv.kd (hI); exact Or.inr t_)) (by first | (refine Or.inl (And.intro ?_ ?_) <;> first | (simp only [List.mem_cons, List.not_mem_nil, or_false, forall_eq_or_imp, forall_eq, false_implies, implies_true, and_true] <;> omega) | (repeat' (first | exact True.intro | rfl | refine And.intro ?_ ?_ | (rw [sv_ne _ _ _ _ (by omega)]) | (rw [up_cell _ _ _ (by omega)]) | (rw [fil_cell _ _ _ _ _ (by omega)]) | (rw [hM _ (by omega)]) | (rw [hm _ (by omega)])))) | (have t_ := Inv.tn (hI); exact Or.inr t_)) (by first | (refine Or.inl (And.intro ?_ ?_) <;> first | (simp only [List.mem_cons, List.not_mem_nil, or_false, forall_eq_or_imp, forall_eq, false_implies, implies_true, and_true] <;> omega) | (repeat' (first | exact True.intro | rfl | refine And.intro ?_ ?_ | (rw [sv_ne _ _ _ _ (by omega)]) | (rw [up_cell _ _ _ (by omega)]) | (rw [fil_cell _ _ _ _ _ (by omega)]) | (rw [hM _ (by omega)]) | (rw [hm _ (by omega)])))) | (have t_ := Inv.ask (hI); exact Or.inr t_)) (by first | (refine Or.inl (And.intro ?_ ?_) <;> first | (simp only [List.mem_cons, List.not_mem_nil, or_false, forall_eq_or_imp, forall_eq, false_implies, implies_true, and_true] <;> omega) | (repeat' (first | exact True.intro | rfl | refine And.intro ?_ ?_ | (rw [sv_ne _ _ _ _ (by omega)]) | (rw [up_cell _ _ _ (by omega)]) | (rw [fil_cell _ _ _ _ _ (by omega)]) | (rw [hM _ (by omega)]) | (rw [hm _ (by omega)])))) | (have t_ := Inv.askW (hI); exact Or.inr t_)) (by first | (refine Or.inl (And.intro ?_ ?_) <;> first | (simp only [List.mem_cons, List.not_mem_nil, or_false, forall_eq_or_imp, forall_eq, false_implies, implies_true, and_true] <;> omega) | (repeat' (first | exact True.intro | rfl | refine And.intro ?_ ?_ | (rw [sv_ne _ _ _ _ (by omega)]) | (rw [up_cell _ _ _ (by omega)]) | (rw [fil_cell _ _ _ _ _ (by omega)]) | (rw [hM _ (by omega)]) | (rw [hm _ (by omega)])))) | (have t_ := Inv.askR (hI); exact Or.inr t_)) (by first | (refine Or.inl (And.intro ?_ ?_) <;> first | (simp only [List.mem_cons, List.not_mem_nil, or_false, forall_eq_or_imp, forall_eq, false_implies, implies_true, and_true] <;> omega) | (repeat' (first | exact True.intro | rfl | refine And.intro ?_ ?_ | (rw [sv_ne _ _ _ _ (by omega)]) | (rw [up_cell _ _ _ (by omega)]) | (rw [fil_cell _ _ _ _ _ (by omega)]) | (rw [hM _ (by omega)]) | (rw [hm _ (by omega)])))) | (have t_ := Inv.lv0 (hI); exact Or.inr t_)) (by first | (refine Or.inl (And.intro ?_ ?_) <;> first | (simp only [List.mem_cons, List.not_mem_nil, or_false, forall_eq_or_imp, forall_eq, false_implies, implies_true, and_true] <;> omega) | (repeat' (first | exact True.intro | rfl | refine And.intro ?_ ?_ | (rw [sv_ne _ _ _ _ (by omega)]) | (rw [up_cell _ _ _ (by omega)]) | (rw [fil_cell _ _ _ _ _ (by omega)]) | (rw [hM _ (by omega)]) | (rw [hm _ (by omega)])))) | (have t_ := Inv.lv2 (hI); exact Or.inr t_)) (by first | (refine Or.inl (And.intro ?_ ?_) <;> first | (simp only [List.mem_cons, List.not_mem_nil, or_false, forall_eq_or_imp, forall_eq, false_implies, implies_true, and_true] <;> omega) | (repeat' (first | exact True.intro | rfl | refine And.intro ?_ ?_ | (rw [sv_ne _ _ _ _ (by omega)]) | (rw [up_cell _ _ _ (by omega)]) | (rw [fil_cell _ _ _ _ _ (by omega)]) | (rw [hM _ (by omega)]) | (rw [hm _ (by omega)])))) | (have t_ := Inv.pl (hI); exact Or.inr t_)) (by first | (refine Or.inl (And.intro ?_ ?_) <;> first | (simp only [List.mem_cons, List.not_mem_nil, or_false, forall_eq_or_imp, forall_eq, false_implies, implies_true, and_true] <;> omega) | (repeat' (first | exact True.intro | rfl | refine And.intro ?_ ?_ | (rw [sv_ne _ _ _ _ (by omega)]) | (rw [up_cell _ _ _ (by omega)]) | (rw [fil_cell _ _ _ _ _ (by omega)]) | (rw [hM _ (by omega)]) | (rw [hm _ (by omega)])))) | (have t_ := Inv.pi (hI); exact Or.inr t_)) (by first | (refine Or.inl (And.intro ?_ ?_) <;> first | (simp only [List.mem_cons, List.not_mem_nil, or_false, forall_eq_or_imp, forall_eq, false_implies, implies_true, and_true] <;> omega) | (repeat' (first | exact True.intro | rfl | refine And.intro ?_ ?_ | (rw [sv_ne _ _ _ _ (by omega)]) | (rw [up_cell _ _ _ (by omega)]) | (rw [fil_cell _ _ _ _ _ (by omega)]) | (rw [hM _ (by omega)]) | (rw [hm _ (by omega)])))) | (have t_ := Inv.dis (hI); exact Or.inr t_)))
theorem Sm.R {m m' M : it_Me} (h : Sm m m') (hc : cnt m ≤ 8) (hR : Rel m M) : Rel m' M := by
  rw [h.eq]
  generalize m' 11 = f
  generalize m' 12 = g
  generalize m' 9 6 = v
  exact (Rel.upd (hR) (hc) ([9, 11, 12]) ([66]) (by intro k hk; simp only [List.mem_cons, List.not_mem_nil, or_false, not_or, not_false_eq_true] at hk; first | rfl | (repeat (first | rw [sv_cell _ _ _ _ (by omega)] | rw [up_cell _ _ _ (by omega)] | rw [fil_cell _ _ _ _ _ (by omega)]))) (by intro k hk; simp only [List.mem_cons, List.not_mem_nil, or_false, not_or, not_false_eq_true] at hk; first | rfl | (repeat (first | rw [sv_cell _ _ _ _ (by omega)] | rw [up_cell _ _ _ (by omega)] | rw [fil_cell _ _ _ _ _ (by omega)]))) (by first | (refine Or.inl (And.intro ?_ (And.intro ?_ ?_)) <;> first | (simp only [List.mem_cons, List.not_mem_nil, or_false, forall_eq_or_imp, forall_eq, false_implies, implies_true, and_true] <;> omega) | (repeat' (first | exact True.intro | rfl | refine And.intro ?_ ?_ | (rw [sv_ne _ _ _ _ (by omega)]) | (rw [up_cell _ _ _ (by omega)]) | (rw [fil_cell _ _ _ _ _ (by omega)]) | (rw [hM _ (by omega)]) | (rw [hm _ (by omega)])))) | (have t_ := Rel.tapeLen (hR); exact Or.inr t_)) (by first | (refine Or.inl (And.intro ?_ (And.intro ?_ ?_)) <;> first | (simp only [List.mem_cons, List.not_mem_nil, or_false, forall_eq_or_imp, forall_eq, false_implies, implies_true, and_true] <;> omega) | (repeat' (first | exact True.intro | rfl | refine And.intro ?_ ?_ | (rw [sv_ne _ _ _ _ (by omega)]) | (rw [up_cell _ _ _ (by omega)]) | (rw [fil_cell _ _ _ _ _ (by omega)]) | (rw [hM _ (by omega)]) | (rw [hm _ (by omega)])))) | (have t_ := Rel.on (hR); exact Or.inr t_)) (by first | (refine Or.inl (And.intro ?_ (And.intro ?_ ?_)) <;> first | (simp only [List.mem_cons, List.not_mem_nil, or_false, forall_eq_or_imp, forall_eq, false_implies, implies_true, and_true] <;> omega) | (repeat' (first | exact True.intro | rfl | refine And.intro ?_ ?_ | (rw [sv_ne _ _ _ _ (by omega)]) | (rw [up_cell _ _ _ (by omega)]) | (rw [fil_cell _ _ _ _ _ (by omega)]) | (rw [hM _ (by omega)]) | (rw [hm _ (by omega)])))) | (have t_ := Rel.lost (hR); exact Or.inr t_)) (by first | (refine Or.inl (And.intro ?_ (And.intro ?_ ?_)) <;> first | (simp only [List.mem_cons, List.not_mem_nil, or_false, forall_eq_or_imp, forall_eq, false_implies, implies_true, and_true] <;> omega) | (repeat' (first | exact True.intro | rfl | refine And.intro ?_ ?_ | (rw [sv_ne _ _ _ _ (by omega)]) | (rw [up_cell _ _ _ (by omega)]) | (rw [fil_cell _ _ _ _ _ (by omega)]) | (rw [hM _ (by omega)]) | (rw [hm _ (by omega)])))) | (have t_ := Rel.power (hR); exact Or.inr t_)) (by first | (refine Or.inl (And.intro ?_ (And.intro ?_ ?_)) <;> first | (simp only [List.mem_cons, List.not_mem_nil, or_false, forall_eq_or_imp, forall_eq, false_implies, implies_true, and_true] <;> omega) | (repeat' (first | exact True.intro | rfl | refine And.intro ?_ ?_ | (rw [sv_ne _ _ _ _ (by omega)]) | (rw [up_cell _ _ _ (by omega)]) | (rw [fil_cell _ _ _ _ _ (by omega)]) | (rw [hM _ (by omega)]) | (rw [hm _ (by omega)])))) | (have t_ := Rel.time (hR); exact Or.inr t_)) (by first | (refine Or.inl (And.intro ?_ (And.intro ?_ ?_)) <;> first | (simp only [List.mem_cons, List.not_mem_nil, or_false, forall_eq_or_imp, forall_eq, false_implies, implies_true, and_true] <;> omega) | (repeat' (first | exact True.intro | rfl | refine And.intro ?_ ?_ | (rw [sv_ne _ _ _ _ (by omega)]) | (rw [up_cell _ _ _ (by omega)]) | (rw [fil_cell _ _ _ _ _ (by omega)]) | (rw [hM _ (by omega)]) | (rw [hm _ (by omega)])))) | (have t_ := Rel.z (hR); exact Or.inr t_)) (by first | (refine Or.inl (And.intro ?_ (And.intro ?_ ?_)) <;> first | (simp only [List.mem_cons, List.not_mem_nil, or_false, forall_eq_or_imp, forall_eq, false_implies, implies_true, and_true] <;> omega) | (repeat' (first | exact True.intro | rfl | refine And.intro ?_ ?_ | (rw [sv_ne _ _ _ _ (by omega)]) | (rw [up_cell _ _ _ (by omega)]) | (rw [fil_cell _ _ _ _ _ (by omega)]) | (rw [hM _ (by omega)]) | (rw [hm _ (by omega)])))) | (have t_ := Rel.count (hR); exact Or.inr t_)) (by first | (refine Or.inl (And.intro ?_ (And.intro ?_ ?_)) <;> first | (simp only [List.mem_cons, List.not_mem_nil, or_false, forall_eq_or_imp, forall_eq, false_implies, implies_true, and_true] <;> omega) | (repeat' (first | exact True.intro | rfl | refine And.intro ?_ ?_ | (rw [sv_ne _ _ _ _ (by omega)]) | (rw [up_cell _ _ _ (by omega)]) | (rw [fil_cell _ _ _ _ _ (by omega)]) | (rw [hM _ (by omega)]) | (rw [hm _ (by omega)])))) | (have t_ := Rel.turn (hR); exact Or.inr t_)) (by first | (refine Or.inl (And.intro ?_ (And.intro ?_ ?_)) <;> first | (simp only [List.mem_cons, List.not_mem_nil, or_false, forall_eq_or_imp, forall_eq, false_implies, implies_true, and_true] <;> omega) | (repeat' (first | exact True.intro | rfl | refine And.intro ?_ ?_ | (rw [sv_ne _ _ _ _ (by omega)]) | (rw [up_cell _ _ _ (by omega)]) | (rw [fil_cell _ _ _ _ _ (by omega)]) | (rw [hM _ (by omega)]) | (rw [hm _ (by omega)])))) | (have t_ := Rel.bank (hR); exact Or.inr t_)) (by first | (refine Or.inl (And.intro ?_ (And.intro ?_ ?_)) <;> first | (simp only [List.mem_cons, List.not_mem_nil, or_false, forall_eq_or_imp, forall_eq, false_implies, implies_true, and_true] <;> omega) | (repeat' (first | exact True.intro | rfl | refine And.intro ?_ ?_ | (rw [sv_ne _ _ _ _ (by omega)]) | (rw [up_cell _ _ _ (by omega)]) | (rw [fil_cell _ _ _ _ _ (by omega)]) | (rw [hM _ (by omega)]) | (rw [hm _ (by omega)])))) | (have t_ := Rel.tape (hR); exact Or.inr t_)) (by first | (refine Or.inl (And.intro ?_ (And.intro ?_ ?_)) <;> first | (simp only [List.mem_cons, List.not_mem_nil, or_false, forall_eq_or_imp, forall_eq, false_implies, implies_true, and_true] <;> omega) | (repeat' (first | exact True.intro | rfl | refine And.intro ?_ ?_ | (rw [sv_ne _ _ _ _ (by omega)]) | (rw [up_cell _ _ _ (by omega)]) | (rw [fil_cell _ _ _ _ _ (by omega)]) | (rw [hM _ (by omega)]) | (rw [hm _ (by omega)])))) | (have t_ := Rel.counts (hR); exact Or.inr t_)) (by first | (refine Or.inl (And.intro ?_ (And.intro ?_ ?_)) <;> first | (simp only [List.mem_cons, List.not_mem_nil, or_false, forall_eq_or_imp, forall_eq, false_implies, implies_true, and_true] <;> omega) | (repeat' (first | exact True.intro | rfl | refine And.intro ?_ ?_ | (rw [sv_ne _ _ _ _ (by omega)]) | (rw [up_cell _ _ _ (by omega)]) | (rw [fil_cell _ _ _ _ _ (by omega)]) | (rw [hM _ (by omega)]) | (rw [hm _ (by omega)])))) | (have t_ := Rel.events (hR); exact Or.inr t_)) (by first | (refine Or.inl (And.intro ?_ (And.intro ?_ ?_)) <;> first | (simp only [List.mem_cons, List.not_mem_nil, or_false, forall_eq_or_imp, forall_eq, false_implies, implies_true, and_true] <;> omega) | (repeat' (first | exact True.intro | rfl | refine And.intro ?_ ?_ | (rw [sv_ne _ _ _ _ (by omega)]) | (rw [up_cell _ _ _ (by omega)]) | (rw [fil_cell _ _ _ _ _ (by omega)]) | (rw [hM _ (by omega)]) | (rw [hm _ (by omega)])))) | (have t_ := Rel.out (hR); exact Or.inr t_)) (by first | (refine Or.inl (And.intro ?_ (And.intro ?_ ?_)) <;> first | (simp only [List.mem_cons, List.not_mem_nil, or_false, forall_eq_or_imp, forall_eq, false_implies, implies_true, and_true] <;> omega) | (repeat' (first | exact True.intro | rfl | refine And.intro ?_ ?_ | (rw [sv_ne _ _ _ _ (by omega)]) | (rw [up_cell _ _ _ (by omega)]) | (rw [fil_cell _ _ _ _ _ (by omega)]) | (rw [hM _ (by omega)]) | (rw [hm _ (by omega)])))) | (have t_ := Rel.lamps (hR); exact Or.inr t_)) (by first | (refine Or.inl (And.intro ?_ (And.intro ?_ ?_)) <;> first | (simp only [List.mem_cons, List.not_mem_nil, or_false, forall_eq_or_imp, forall_eq, false_implies, implies_true, and_true] <;> omega) | (repeat' (first | exact True.intro | rfl | refine And.intro ?_ ?_ | (rw [sv_ne _ _ _ _ (by omega)]) | (rw [up_cell _ _ _ (by omega)]) | (rw [fil_cell _ _ _ _ _ (by omega)]) | (rw [hM _ (by omega)]) | (rw [hm _ (by omega)])))) | (have t_ := Rel.buttons (hR); exact Or.inr t_)) (by first | (refine Or.inl (And.intro ?_ (And.intro ?_ ?_)) <;> first | (simp only [List.mem_cons, List.not_mem_nil, or_false, forall_eq_or_imp, forall_eq, false_implies, implies_true, and_true] <;> omega) | (repeat' (first | exact True.intro | rfl | refine And.intro ?_ ?_ | (rw [sv_ne _ _ _ _ (by omega)]) | (rw [up_cell _ _ _ (by omega)]) | (rw [fil_cell _ _ _ _ _ (by omega)]) | (rw [hM _ (by omega)]) | (rw [hm _ (by omega)])))) | (have t_ := Rel.lev (hR); exact Or.inr t_)) (by first | (refine Or.inl (And.intro ?_ (And.intro ?_ ?_)) <;> first | (simp only [List.mem_cons, List.not_mem_nil, or_false, forall_eq_or_imp, forall_eq, false_implies, implies_true, and_true] <;> omega) | (repeat' (first | exact True.intro | rfl | refine And.intro ?_ ?_ | (rw [sv_ne _ _ _ _ (by omega)]) | (rw [up_cell _ _ _ (by omega)]) | (rw [fil_cell _ _ _ _ _ (by omega)]) | (rw [hM _ (by omega)]) | (rw [hm _ (by omega)])))) | (have t_ := Rel.mem (hR); exact Or.inr t_)) (by first | (refine Or.inl (And.intro ?_ (And.intro ?_ ?_)) <;> first | (simp only [List.mem_cons, List.not_mem_nil, or_false, forall_eq_or_imp, forall_eq, false_implies, implies_true, and_true] <;> omega) | (repeat' (first | exact True.intro | rfl | refine And.intro ?_ ?_ | (rw [sv_ne _ _ _ _ (by omega)]) | (rw [up_cell _ _ _ (by omega)]) | (rw [fil_cell _ _ _ _ _ (by omega)]) | (rw [hM _ (by omega)]) | (rw [hm _ (by omega)])))) | (have t_ := Rel.sched (hR); exact Or.inr t_)) (by first | (refine Or.inl (And.intro ?_ (And.intro ?_ ?_)) <;> first | (simp only [List.mem_cons, List.not_mem_nil, or_false, forall_eq_or_imp, forall_eq, false_implies, implies_true, and_true] <;> omega) | (repeat' (first | exact True.intro | rfl | refine And.intro ?_ ?_ | (rw [sv_ne _ _ _ _ (by omega)]) | (rw [up_cell _ _ _ (by omega)]) | (rw [fil_cell _ _ _ _ _ (by omega)]) | (rw [hM _ (by omega)]) | (rw [hm _ (by omega)])))) | (have t_ := Rel.done (hR); exact Or.inr t_)) (by first | (refine Or.inl (And.intro ?_ (And.intro ?_ ?_)) <;> first | (simp only [List.mem_cons, List.not_mem_nil, or_false, forall_eq_or_imp, forall_eq, false_implies, implies_true, and_true] <;> omega) | (repeat' (first | exact True.intro | rfl | refine And.intro ?_ ?_ | (rw [sv_ne _ _ _ _ (by omega)]) | (rw [up_cell _ _ _ (by omega)]) | (rw [fil_cell _ _ _ _ _ (by omega)]) | (rw [hM _ (by omega)]) | (rw [hm _ (by omega)])))) | (have t_ := Rel.levels (hR); exact Or.inr t_)) (by first | (refine Or.inl (And.intro ?_ (And.intro ?_ ?_)) <;> first | (simp only [List.mem_cons, List.not_mem_nil, or_false, forall_eq_or_imp, forall_eq, false_implies, implies_true, and_true] <;> omega) | (repeat' (first | exact True.intro | rfl | refine And.intro ?_ ?_ | (rw [sv_ne _ _ _ _ (by omega)]) | (rw [up_cell _ _ _ (by omega)]) | (rw [fil_cell _ _ _ _ _ (by omega)]) | (rw [hM _ (by omega)]) | (rw [hm _ (by omega)])))) | (have t_ := Rel.places (hR); exact Or.inr t_)) (by first | (refine Or.inl (And.intro ?_ (And.intro ?_ ?_)) <;> first | (simp only [List.mem_cons, List.not_mem_nil, or_false, forall_eq_or_imp, forall_eq, false_implies, implies_true, and_true] <;> omega) | (repeat' (first | exact True.intro | rfl | refine And.intro ?_ ?_ | (rw [sv_ne _ _ _ _ (by omega)]) | (rw [up_cell _ _ _ (by omega)]) | (rw [fil_cell _ _ _ _ _ (by omega)]) | (rw [hM _ (by omega)]) | (rw [hm _ (by omega)])))) | (have t_ := Rel.asked (hR); exact Or.inr t_)) (by first | (refine Or.inl (And.intro ?_ (And.intro ?_ ?_)) <;> first | (simp only [List.mem_cons, List.not_mem_nil, or_false, forall_eq_or_imp, forall_eq, false_implies, implies_true, and_true] <;> omega) | (repeat' (first | exact True.intro | rfl | refine And.intro ?_ ?_ | (rw [sv_ne _ _ _ _ (by omega)]) | (rw [up_cell _ _ _ (by omega)]) | (rw [fil_cell _ _ _ _ _ (by omega)]) | (rw [hM _ (by omega)]) | (rw [hm _ (by omega)])))) | (have t_ := Rel.worder (hR); exact Or.inr t_)) (by first | (refine Or.inl (And.intro ?_ (And.intro ?_ ?_)) <;> first | (simp only [List.mem_cons, List.not_mem_nil, or_false, forall_eq_or_imp, forall_eq, false_implies, implies_true, and_true] <;> omega) | (repeat' (first | exact True.intro | rfl | refine And.intro ?_ ?_ | (rw [sv_ne _ _ _ _ (by omega)]) | (rw [up_cell _ _ _ (by omega)]) | (rw [fil_cell _ _ _ _ _ (by omega)]) | (rw [hM _ (by omega)]) | (rw [hm _ (by omega)])))) | (have t_ := Rel.rorder (hR); exact Or.inr t_)) (by first | (refine Or.inl (And.intro ?_ (And.intro ?_ ?_)) <;> first | (simp only [List.mem_cons, List.not_mem_nil, or_false, forall_eq_or_imp, forall_eq, false_implies, implies_true, and_true] <;> omega) | (repeat' (first | exact True.intro | rfl | refine And.intro ?_ ?_ | (rw [sv_ne _ _ _ _ (by omega)]) | (rw [up_cell _ _ _ (by omega)]) | (rw [fil_cell _ _ _ _ _ (by omega)]) | (rw [hM _ (by omega)]) | (rw [hm _ (by omega)])))) | (have t_ := Rel.ps (hR); exact Or.inr t_)) (by first | (refine Or.inl (And.intro ?_ (And.intro ?_ ?_)) <;> first | (simp only [List.mem_cons, List.not_mem_nil, or_false, forall_eq_or_imp, forall_eq, false_implies, implies_true, and_true] <;> omega) | (repeat' (first | exact True.intro | rfl | refine And.intro ?_ ?_ | (rw [sv_ne _ _ _ _ (by omega)]) | (rw [up_cell _ _ _ (by omega)]) | (rw [fil_cell _ _ _ _ _ (by omega)]) | (rw [hM _ (by omega)]) | (rw [hm _ (by omega)])))) | (have t_ := Rel.app (hR); exact Or.inr t_)) (by first | (refine Or.inl (And.intro ?_ (And.intro ?_ ?_)) <;> first | (simp only [List.mem_cons, List.not_mem_nil, or_false, forall_eq_or_imp, forall_eq, false_implies, implies_true, and_true] <;> omega) | (repeat' (first | exact True.intro | rfl | refine And.intro ?_ ?_ | (rw [sv_ne _ _ _ _ (by omega)]) | (rw [up_cell _ _ _ (by omega)]) | (rw [fil_cell _ _ _ _ _ (by omega)]) | (rw [hM _ (by omega)]) | (rw [hm _ (by omega)])))) | (have t_ := Rel.name (hR); exact Or.inr t_)) (by first | (refine Or.inl (And.intro ?_ (And.intro ?_ ?_)) <;> first | (simp only [List.mem_cons, List.not_mem_nil, or_false, forall_eq_or_imp, forall_eq, false_implies, implies_true, and_true] <;> omega) | (repeat' (first | exact True.intro | rfl | refine And.intro ?_ ?_ | (rw [sv_ne _ _ _ _ (by omega)]) | (rw [up_cell _ _ _ (by omega)]) | (rw [fil_cell _ _ _ _ _ (by omega)]) | (rw [hM _ (by omega)]) | (rw [hm _ (by omega)])))) | (have t_ := Rel.number (hR); exact Or.inr t_)) (by first | (refine Or.inl (And.intro ?_ (And.intro ?_ ?_)) <;> first | (simp only [List.mem_cons, List.not_mem_nil, or_false, forall_eq_or_imp, forall_eq, false_implies, implies_true, and_true] <;> omega) | (repeat' (first | exact True.intro | rfl | refine And.intro ?_ ?_ | (rw [sv_ne _ _ _ _ (by omega)]) | (rw [up_cell _ _ _ (by omega)]) | (rw [fil_cell _ _ _ _ _ (by omega)]) | (rw [hM _ (by omega)]) | (rw [hm _ (by omega)])))) | (have t_ := Rel.bits (hR); exact Or.inr t_)) (by first | (refine Or.inl (And.intro ?_ (And.intro ?_ ?_)) <;> first | (simp only [List.mem_cons, List.not_mem_nil, or_false, forall_eq_or_imp, forall_eq, false_implies, implies_true, and_true] <;> omega) | (repeat' (first | exact True.intro | rfl | refine And.intro ?_ ?_ | (rw [sv_ne _ _ _ _ (by omega)]) | (rw [up_cell _ _ _ (by omega)]) | (rw [fil_cell _ _ _ _ _ (by omega)]) | (rw [hM _ (by omega)]) | (rw [hm _ (by omega)])))) | (have t_ := Rel.regs (hR); exact Or.inr t_)) (by first | (refine Or.inl (And.intro ?_ (And.intro ?_ ?_)) <;> first | (simp only [List.mem_cons, List.not_mem_nil, or_false, forall_eq_or_imp, forall_eq, false_implies, implies_true, and_true] <;> omega) | (repeat' (first | exact True.intro | rfl | refine And.intro ?_ ?_ | (rw [sv_ne _ _ _ _ (by omega)]) | (rw [up_cell _ _ _ (by omega)]) | (rw [fil_cell _ _ _ _ _ (by omega)]) | (rw [hM _ (by omega)]) | (rw [hm _ (by omega)])))) | (have t_ := Rel.rsv (hR); exact Or.inr t_)) (by first | (refine Or.inl (And.intro ?_ (And.intro ?_ ?_)) <;> first | (simp only [List.mem_cons, List.not_mem_nil, or_false, forall_eq_or_imp, forall_eq, false_implies, implies_true, and_true] <;> omega) | (repeat' (first | exact True.intro | rfl | refine And.intro ?_ ?_ | (rw [sv_ne _ _ _ _ (by omega)]) | (rw [up_cell _ _ _ (by omega)]) | (rw [fil_cell _ _ _ _ _ (by omega)]) | (rw [hM _ (by omega)]) | (rw [hm _ (by omega)])))) | (have t_ := Rel.queue (hR); exact Or.inr t_)) (by first | (refine Or.inl (And.intro ?_ (And.intro ?_ ?_)) <;> first | (simp only [List.mem_cons, List.not_mem_nil, or_false, forall_eq_or_imp, forall_eq, false_implies, implies_true, and_true] <;> omega) | (repeat' (first | exact True.intro | rfl | refine And.intro ?_ ?_ | (rw [sv_ne _ _ _ _ (by omega)]) | (rw [up_cell _ _ _ (by omega)]) | (rw [fil_cell _ _ _ _ _ (by omega)]) | (rw [hM _ (by omega)]) | (rw [hm _ (by omega)])))) | (have t_ := Rel.ctlw (hR); exact Or.inr t_)) (by first | (refine Or.inl (And.intro ?_ (And.intro ?_ ?_)) <;> first | (simp only [List.mem_cons, List.not_mem_nil, or_false, forall_eq_or_imp, forall_eq, false_implies, implies_true, and_true] <;> omega) | (repeat' (first | exact True.intro | rfl | refine And.intro ?_ ?_ | (rw [sv_ne _ _ _ _ (by omega)]) | (rw [up_cell _ _ _ (by omega)]) | (rw [fil_cell _ _ _ _ _ (by omega)]) | (rw [hM _ (by omega)]) | (rw [hm _ (by omega)])))) | (have t_ := Rel.wt (hR); exact Or.inr t_)))
theorem Sm.F {m m' : it_Me} (h : Sm m m') : FrC m m' := fun k hk => h.1 k (by omega) (by omega) (by omega)
theorem Sm.l {m m' : it_Me} (h : Sm m m') : m' 7 4 = m 7 4 := by rw [h.1 7 (by omega) (by omega) (by omega)]
theorem pe_add (m : it_Me) (L : List (Int32 × Int32)) (a c : Int32) (hL : L.length < 16) : it_sv (it_sv (it_sv (peC m L) 11 L.length a) 12 L.length c) 9 6 (nI (L.length + 1)) = peC m (L ++ [(a, c)]) := by
  funext k j
  by_cases k9 : k = 9
  · subst k9
    by_cases j6 : j = 6
    · subst j6
      rw [sv_same, pe_96, List.length_append]
      rfl
    · rw [sv_n2 _ _ _ _ j6, sv_n1 _ _ _ _ _ (by omega), sv_n1 _ _ _ _ _ (by omega), pe_9 _ _ j6, pe_9 _ _ j6]
  · rw [sv_n1 _ _ _ _ _ k9]
    by_cases k12 : k = 12
    · subst k12
      rw [sv_rd, sv_n1 _ _ _ _ _ (by omega), pe_12, pe_12]
      by_cases e : j = L.length
      · rw [if_pos ⟨rfl, e⟩, if_pos (by omega), e, gd_last]
      · rw [if_neg (fun y => e y.2), gd_old _ _ _ _ e]
    · rw [sv_n1 _ _ _ _ _ k12]
      by_cases k11 : k = 11
      · subst k11
        rw [sv_rd, pe_11, pe_11]
        by_cases e : j = L.length
        · rw [if_pos ⟨rfl, e⟩, if_pos (by omega), e, gd_last]
        · rw [if_neg (fun y => e y.2), gd_old _ _ _ _ e]
      · rw [sv_n1 _ _ _ _ _ k11, pe_k _ _ ⟨k9, k11, k12⟩, pe_k _ _ ⟨k9, k11, k12⟩]
theorem c_96 {kc : it_Kc} {m : it_Me} {L : List (Int32 × Int32)} {a c : Int32} (hL : L.length < 16) {Φ : it_Me → Prop} (h : Φ (peC m (L ++ [(a, c)]))) : w_96 kc a c (peC m L) Φ := by
  unfold w_96 w_96_39
  rw [sv_n1 _ _ _ _ _ (by omega), sv_n1 _ _ _ _ _ (by omega), sv_n1 _ _ _ _ _ (by omega), pe_96, nI_clamp (by omega), nI_s1, pe_add _ _ _ _ hL]
  have v : vp_in (nI L.length) 16 := by rw [vp_in_iff, nI_toInt (by omega)]; omega
  exact ⟨fun q => absurd ((nLe (a := 16) (by omega) (by omega)).1 q) (by omega), fun _ => ⟨v, v, h⟩⟩
theorem c_95 {kc : it_Kc} {m : it_Me} {L : List (Int32 × Int32)} {v1 v2 v3 : Int32} (hL : L.length ≤ 2) {Φ : it_Me → Prop} (h : Φ (peC m (L ++ ptL v1 v2 v3))) : w_95 kc v1 v2 v3 (peC m L) Φ := by
  unfold ptL at h
  unfold w_95
  by_cases z : v2 = 0
  · rw [if_pos z, List.append_nil] at h
    exact ⟨fun _ => h, fun q => absurd z q⟩
  rw [if_neg z] at h
  refine ⟨fun q => absurd q z, fun _ => ?_⟩
  by_cases t : v2 &&& (v2 - 1) = 0 ∧ v1 &&& (v2 - 1) = 0
  · rw [if_pos t] at h
    refine ⟨fun _ => ⟨fun _ => ?_, fun q => absurd t.2 q⟩, fun q => absurd t.1 q⟩
    unfold w_95_26
    refine ⟨fun q => absurd q (by decide), fun _ => ⟨fun q => ?_, fun q => ?_⟩⟩
    · rw [if_pos q] at h
      exact c_96 (by omega) h
    · rw [if_neg q] at h
      unfold w_95_52
      exact ⟨fun q => absurd q (by decide), fun _ => c_96 (by omega) h⟩
  · rw [if_neg t] at h
    have k : w_95_52 kc Φ v1 v2 v3 0 (peC m L) := by
      unfold w_95_52
      refine ⟨fun _ => c_96 (by omega) (c_96 (by rw [List.length_append]; show L.length + 1 < 16; omega) ?_), fun q => absurd rfl q⟩
      rw [List.append_assoc]
      exact h
    have k2 : w_95_25 kc Φ v1 v2 v3 (peC m L) := by
      unfold w_95_25 w_95_26
      exact ⟨fun _ => k, fun q => absurd rfl q⟩
    exact ⟨fun a => ⟨fun b => absurd ⟨a, b⟩ t, fun _ => k2⟩, fun _ => k2⟩
/-- the entries of process i -/
def enL (m : it_Me) (i : Nat) : List (Int32 × Int32) := ptL (m (14 + 5 * i + 1) 1) (m (14 + 5 * i + 1) 3) 5 ++ ptL (m (14 + 5 * i) 5) (m (14 + 5 * i) 7 - m (14 + 5 * i) 5) 3
theorem c_94 {kc : it_Kc} {m : it_Me} {i : Nat} (i8 : i < 8) {Φ : it_Me → Prop} (h : Φ (peC m (enL m i))) : w_94 kc (14 + 5 * i) m Φ := by
  unfold w_94 w_361
  have a11 : it_alen 11 = 16 := rfl
  have a12 : it_alen 12 = 16 := rfl
  rw [a11, a12]
  have e : it_sv (it_fil (it_fil m 11 0 16 0) 12 0 16 0) 9 6 0 = peC m [] := by
    funext k j
    by_cases k9 : k = 9
    · subst k9
      by_cases j6 : j = 6
      · subst j6
        rw [sv_same, pe_96]
        rfl
      · rw [sv_n2 _ _ _ _ j6, pe_9 _ _ j6, fil_n1 _ _ _ _ _ _ (by omega), fil_n1 _ _ _ _ _ _ (by omega)]
    · rw [sv_n1 _ _ _ _ _ k9]
      by_cases k12 : k = 12
      · subst k12
        rw [fil_rd, pe_12]
        by_cases q : j < 16
        · rw [if_pos ⟨Nat.zero_le _, q⟩, if_pos q]; rfl
        · rw [if_neg (fun y => q y.2), if_neg q, fil_n1 _ _ _ _ _ _ (by omega)]
      · rw [fil_n1 _ _ _ _ _ _ k12]
        by_cases k11 : k = 11
        · subst k11
          rw [fil_rd, pe_11]
          by_cases q : j < 16
          · rw [if_pos ⟨Nat.zero_le _, q⟩, if_pos q]; rfl
          · rw [if_neg (fun y => q y.2), if_neg q]
        · rw [fil_n1 _ _ _ _ _ _ k11, pe_k _ _ ⟨k9, k11, k12⟩]
  dsimp only
  rw [e, pe_k _ _ (by omega)]
  refine c_95 (by decide) ?_
  rw [List.nil_append, pe_k _ _ (by omega)]
  exact c_95 (ptL_len _ _ _) h
/-! What both sides know of a region. -/
theorem b31 {x : Int32} (h : 0 ≤ x.toInt) : bt x 31 = false := by
  have e : bt x 31 = x.toBitVec.msb := by unfold bt; simp [BitVec.msb_eq_getLsbD_last]
  rw [e, BitVec.msb_eq_toInt]
  exact decide_eq_false (by show ¬ x.toInt < 0; omega)
theorem us_sh {x : Int32} (h : 0 ≤ x.toInt) {k : Nat} (hk : k < 32) : it_us x (nI k) = it_shr x (nI k) := b_ext (fun i hi => by
  rw [it_us, it_shr, b_ushr k hk, b_sshr k hk x hi]
  split
  · rfl
  · rw [b_ge _ (by omega), b31 h])
theorem rmI {x y : Int32} (hx : 0 ≤ x.toInt) (hy : 0 < y.toInt) : (it_rem x y).toInt = x.toInt % y.toInt := by
  have l1 := thi x
  have q0 : 0 ≤ x.toInt / y.toInt := Int.ediv_nonneg hx (by omega)
  have q1 : x.toInt / y.toInt * y.toInt ≤ x.toInt := Int.ediv_mul_le _ (by omega)
  have q2 : x.toInt / y.toInt ≤ x.toInt := Int.ediv_le_self _ hx
  have q3 : 0 ≤ x.toInt / y.toInt * y.toInt := Int.mul_nonneg q0 (by omega)
  unfold it_rem
  rw [Int32.toInt_sub, Int32.toInt_mul, Int32.toInt_div, Int.tdiv_eq_ediv_of_nonneg hx, bmI' (x := x.toInt / y.toInt) (by omega) (by omega), bmI' (x := x.toInt / y.toInt * y.toInt) (by omega) (by omega), bmI' (by omega) (by omega), Int.emod_def, Int.mul_comm]
theorem p2t : ∀ a, a < 128 → ∀ b, b < 128 → nI (4 * (128 * a + b)) &&& (nI (4 * (128 * a + b)) - 1) = 0 → 128 * a + b ∈ ([0, 1, 2, 4, 8, 16, 32, 64, 128, 256, 512, 1024, 2048, 4096, 8192] : List Nat) := by decide +kernel
theorem p2k {y : Int32} (hy : 0 < y.toInt ∧ y.toInt < 65536 ∧ y.toInt % 4 = 0) (h : y &&& (y - 1) = 0) : ∃ k, 2 ≤ k ∧ k < 16 ∧ y = nI (2 ^ k) := by
  have e : y = nI (4 * (128 * (y.toInt.toNat / 4 / 128) + y.toInt.toNat / 4 % 128)) := Int32.toInt_inj.mp (by rw [nI_toInt (by omega)]; omega)
  have t := p2t (y.toInt.toNat / 4 / 128) (by omega) (y.toInt.toNat / 4 % 128) (by omega)
  rw [← e] at t
  have t := t h
  generalize hn : 128 * (y.toInt.toNat / 4 / 128) + y.toInt.toNat / 4 % 128 = n at *
  simp only [List.mem_cons, List.not_mem_nil, or_false] at t
  rcases t with q | q | q | q | q | q | q | q | q | q | q | q | q | q | q <;> rw [q] at e
  · rw [e] at hy; exact absurd hy.1 (by decide)
  · exact ⟨2, by omega, by omega, e⟩
  · exact ⟨3, by omega, by omega, e⟩
  · exact ⟨4, by omega, by omega, e⟩
  · exact ⟨5, by omega, by omega, e⟩
  · exact ⟨6, by omega, by omega, e⟩
  · exact ⟨7, by omega, by omega, e⟩
  · exact ⟨8, by omega, by omega, e⟩
  · exact ⟨9, by omega, by omega, e⟩
  · exact ⟨10, by omega, by omega, e⟩
  · exact ⟨11, by omega, by omega, e⟩
  · exact ⟨12, by omega, by omega, e⟩
  · exact ⟨13, by omega, by omega, e⟩
  · exact ⟨14, by omega, by omega, e⟩
  · exact ⟨15, by omega, by omega, e⟩
theorem p2b : ∀ k, k < 16 → 2 ^ k < 2147483648 ∧ (nI (2 ^ k) - 1).toBitVec.toNat = 2 ^ k - 1 := by decide +kernel
theorem andP {x : Int32} {k : Nat} (hk : k < 16) : (x &&& (nI (2 ^ k) - 1)).toInt = x.toInt % ((2 ^ k : Nat) : Int) := andI x k (by omega) (p2b k hk).2
theorem rmP {x y : Int32} (hx : 0 ≤ x.toInt) (hy : 0 < y.toInt ∧ y.toInt < 65536 ∧ y.toInt % 4 = 0) (h : y &&& (y - 1) = 0) : it_rem x y = 0 ↔ x &&& (y - 1) = 0 := by
  obtain ⟨k, _, hk, e⟩ := p2k hy h
  have r := rmI hx hy.1
  subst e
  have a := andP (x := x) hk
  rw [nI_toInt (p2b k hk).1] at r
  constructor
  · intro q
    apply Int32.toInt_inj.mp
    rw [a]
    rw [q] at r
    exact r.symm
  · intro q
    apply Int32.toInt_inj.mp
    rw [r]
    rw [q] at a
    exact a.symm
