/-! memory: the reference tells CONTROL. -/
def wrL (M : it_Me) (W : Nat) (f : Nat → Int32) : Nat → it_Me
  | 0 => M
  | n + 1 => it_up (wrL M W f n) 67 (fun x => if 65536 + 4 * (W + n) ≤ x ∧ x < 65536 + 4 * (W + n) + 4 then sb8 (f n) (x - (65536 + 4 * (W + n))) else wrL M W f n 67 x)
theorem wr_k (M : it_Me) (W : Nat) (f : Nat → Int32) : ∀ (n : Nat) {k : Nat}, k ≠ 67 → wrL M W f n k = M k
  | 0, _, _ => rfl
  | n + 1, _, h => by rw [wrL, up_cell _ _ _ h]; exact wr_k M W f n h
theorem wr_o (M : it_Me) (W : Nat) (f : Nat → Int32) : ∀ (n : Nat) {x : Nat}, (x < 65536 + 4 * W ∨ 65536 + 4 * (W + n) ≤ x) → wrL M W f n 67 x = M 67 x
  | 0, _, _ => rfl
  | n + 1, _, h => by rw [wrL, up_same, if_neg (by omega)]; exact wr_o M W f n (by omega)
theorem wr_v (M : it_Me) (W : Nat) (f : Nat → Int32) : ∀ (n : Nat) {t j : Nat}, t < n → j < 4 → wrL M W f n 67 (65536 + 4 * (W + t) + j) = sb8 (f t) j
  | 0, _, _, h, _ => absurd h (Nat.not_lt_zero _)
  | n + 1, t, j, h, hj => by
    rw [wrL, up_same]
    by_cases e : t = n
    · subst e
      rw [if_pos (by omega)]
      congr 1
      omega
    · rw [if_neg (by omega)]
      exact wr_v M W f n (by omega) hj
theorem wr_s (M : it_Me) (W : Nat) (f : Nat → Int32) (n : Nat) {a : Int32} (h : Int32.toNatClampNeg a = 65536 + 4 * (W + n)) : pwM (wrL M W f n) a (f n) = wrL M W f (n + 1) := by
  unfold pwM
  rw [h, wrL]
/-- the reference has told the first n -/
def Tr (m M M' : it_Me) (n : Nat) : Prop := (∀ k, k ≠ 67 → M' k = M k) ∧ (∀ i, i < n → ∀ t, t < 11 → ∀ j, j < 4 → M' 67 (65536 + 4 * (wi (ctl m i) + t) + j) = sb8 (ctV m i t) j) ∧ ∀ x, (∀ i, i < n → ¬ (65536 + 4 * wi (ctl m i) ≤ x ∧ x < 65536 + 4 * (wi (ctl m i) + 11))) → M' 67 x = M 67 x
theorem Tr_s {B : Nat} {m M MM : it_Me} (hI : Inv B m) {n : Nat} (hn : n < cnt m) (T : Tr m M MM n) : Tr m M (wrL MM (wi (ctl m n)) (ctV m n) 11) (n + 1) := by
  refine ⟨fun k hk => by rw [wr_k _ _ _ _ hk]; exact T.1 k hk, fun i hi t ht j hj => ?_, fun x hx => ?_⟩
  · by_cases e : i = n
    · subst e
      exact wr_v _ _ _ _ ht hj
    · have d := ctD hI hn (j := i) (by omega) (by omega)
      rw [wr_o _ _ _ _ (by omega)]
      exact T.2.1 i (by omega) t ht j hj
  · have a := hx n (by omega)
    rw [wr_o _ _ _ _ (by omega)]
    exact T.2.2 x (fun i hi => hx i (by omega))
theorem r_352 {kc : it_Kc} {B : Nat} {m M MM : it_Me} (hI : Inv B m) (hM : Rel m M) {n : Nat} (hn : n < cnt m) (T : ∀ k, k ≠ 67 → MM k = M k) {Ψ : it_Me → Prop} (h : Ψ (wrL MM (wi (ctl m n)) (ctV m n) 11)) : w_352 kc (nI n) MM Ψ := by
  have h8 := cnt_le hI
  have n8 : n < 8 := by omega
  have v := vI n8
  have st : ∀ t, t < 11 → ∀ (a x : Int32), a = ctl m n + nI (4 * t) → x = ctV m n t → ∀ Θ : it_Me → Prop, Θ (wrL MM (wi (ctl m n)) (ctV m n) (t + 1)) → w_221 kc a x (wrL MM (wi (ctl m n)) (ctV m n) t) Θ := fun t ht a x ea ex Θ k => by
    subst ea ex
    have q := ctA hI hn (t := t) (by omega)
    refine r_221 _ q.1 q.2.1 ?_
    rw [wr_s _ _ _ _ q.2.2.2.1]
    exact k
  have rd : ∀ (t k : Nat), k ≠ 67 → wrL MM (wi (ctl m n)) (ctV m n) t k n = M k n := fun t k hk => by rw [wr_k _ _ _ _ hk, T k hk]
  have cw := hM.ctlw n hn
  have g : ∀ t, 5 < t → t < 11 → t ≠ 9 → gw m (ctl m n + nI (4 * t)) = ctV m n t := fun t t1 t2 t3 => by
    have q := ctA hI hn (t := t) (by omega)
    rw [gw_in q.1, q.2.2.1, ctV_o _ _ ⟨t1, t3⟩]
  unfold w_352 w_252
  rw [cI n8, T 89 (by omega), T 90 (by omega), hM.base hn, hM.size hn]
  refine ⟨v, v, ?_⟩
  show w_221 kc (ctl m n) (nI n) MM _
  refine st 0 (by omega) _ _ (by rw [show nI (4 * 0) = (0 : Int32) from by decide, Int32.add_zero]) (hI.num n n8).symm _ ?_
  refine ⟨v, st 1 (by omega) _ _ (by rw [show nI (4 * 1) = (4 : Int32) from by decide]; rfl) (by rw [rd 1 79 (by omega)]; exact hM.addr hn) _ ?_⟩
  refine ⟨v, st 2 (by omega) _ _ (by rw [show nI (4 * 2) = (8 : Int32) from by decide]; rfl) (by rw [rd 2 91 (by omega)]; exact hM.brk hn) _ ?_⟩
  refine ⟨v, st 3 (by omega) _ _ (by rw [show nI (4 * 3) = (12 : Int32) from by decide]; rfl) (by rw [rd 3 92 (by omega)]; exact hM.low hn) _ ?_⟩
  refine ⟨v, st 4 (by omega) _ _ (by rw [show nI (4 * 4) = (16 : Int32) from by decide]; rfl) (by rw [rd 4 100 (by omega)]; exact hM.rest hn) _ ?_⟩
  refine ⟨v, st 5 (by omega) _ _ (by rw [show nI (4 * 5) = (20 : Int32) from by decide]; rfl) (by rw [rd 5 110 (by omega)]; exact hM.queued hn) _ ?_⟩
  refine ⟨v, st 6 (by omega) _ _ (by rw [show nI (4 * 6) = (24 : Int32) from by decide]; rfl) (by rw [rd 6 102 (by omega), cw.1]; exact g 6 (by omega) (by omega) (by omega)) _ ?_⟩
  refine ⟨v, st 7 (by omega) _ _ (by rw [show nI (4 * 7) = (28 : Int32) from by decide]; rfl) (by rw [rd 7 103 (by omega), cw.2.1]; exact g 7 (by omega) (by omega) (by omega)) _ ?_⟩
  refine ⟨v, st 8 (by omega) _ _ (by rw [show nI (4 * 8) = (32 : Int32) from by decide]; rfl) (by rw [rd 8 104 (by omega), cw.2.2.1]; exact g 8 (by omega) (by omega) (by omega)) _ ?_⟩
  unfold w_349 w_349_21
  rw [cI n8]
  have k10 : ∀ Θ : it_Me → Prop, Θ (wrL MM (wi (ctl m n)) (ctV m n) 11) → vp_in (nI n) 8 ∧ w_221 kc (ctl m n + 40) (wrL MM (wi (ctl m n)) (ctV m n) 10 105 n) (wrL MM (wi (ctl m n)) (ctV m n) 10) Θ := fun Θ k => ⟨v, st 10 (by omega) _ _ (by rw [show nI (4 * 10) = (40 : Int32) from by decide]) (by rw [rd 10 105 (by omega), cw.2.2.2]; exact g 10 (by omega) (by omega) (by omega)) _ k⟩
  refine ⟨v, v, fun z => ?_, fun z => ?_⟩
  · rw [rd 9 96 (by omega), hM.held hn] at z
    refine st 9 (by omega) _ _ (by rw [show nI (4 * 9) = (36 : Int32) from by decide]; rfl) ?_ _ (k10 _ h)
    rw [rd 9 95 (by omega), hM.state hn, Int32.add_zero]
    show _ = stV m n
    unfold stV
    rw [if_pos z]
  · rw [rd 9 96 (by omega), hM.held hn] at z
    refine st 9 (by omega) _ _ (by rw [show nI (4 * 9) = (36 : Int32) from by decide]; rfl) ?_ _ (k10 _ h)
    rw [rd 9 95 (by omega), hM.state hn]
    show _ = stV m n
    unfold stV
    rw [if_neg z]
theorem r_353l {kc : it_Kc} {B : Nat} {m M : it_Me} (hI : Inv B m) (hM : Rel m M) {Φ : Int32 → it_Me → Prop} : ∀ (r n : Nat) (MM : it_Me), n + r = cnt m → Tr m M MM n → ∃ M', Tr m M M' (cnt m) ∧ ∀ (K : Int32 → it_Me → Prop) (v1 : Int32), K v1 M' → w_353_16 kc Φ K (r + 1) v1 (nI n) MM := by
  have h8 := cnt_le hI
  intro r
  induction r with
  | zero =>
    intro n MM hn T
    have : n = cnt m := by omega
    subst this
    refine ⟨MM, T, fun K v1 h => ?_⟩
    unfold w_353_16
    rw [T.1 66 (by omega), hM.count, cntI hI]
    exact ⟨fun _ => h, fun q => absurd ((nLe (by omega) (by omega)).2 (Nat.le_refl _)) q⟩
  | succ r ih =>
    intro n MM hn T
    have hn' : n < cnt m := by omega
    obtain ⟨M', a1, a2⟩ := ih (n + 1) _ (by omega) (Tr_s hI hn' T)
    refine ⟨M', a1, fun K v1 h => ?_⟩
    rw [w_353_16]
    rw [T.1 66 (by omega), hM.count, cntI hI, nI_s1]
    exact ⟨fun q => absurd ((nLe (by omega) (by omega)).1 q) (by omega), fun _ => r_352 hI hM hn' T.1 (a2 K v1 h)⟩
theorem tl_R {B : Nat} {m m1 M M' : it_Me} (hI : Inv B m) (hR : Rel m M) (T : Tr m M M' (cnt m)) (h1 : ∀ k, k ≠ 2 → m1 k = m k) (h2 : ∀ w, ¬ excl m w → m1 2 w = m 2 w) (h3 : ∀ i, i < cnt m → ∀ t, 5 < t → t < 11 → t ≠ 9 → m1 2 (wi (ctl m i) + t) = m 2 (wi (ctl m i) + t)) : Rel m1 M' := by
  have h8 := cnt_le hI
  have hm : ∀ k, k ≠ 2 → m1 k = m k := h1
  have hM : ∀ k, k ≠ 67 → M' k = M k := T.1
  have c1 : cnt m1 = cnt m := cnt_cg (by rw [h1 9 (by omega)])
  have ct : ∀ i, ctl m1 i = ctl m i := fun i => ctl_cg (h1 _ (by omega))
  have ex : ∀ w, excl m1 w ↔ excl m w := fun w => excl_ctl (by rw [h1 9 (by omega)]) (fun i _ => ct i) w
  have und : ∀ i, i < cnt m → ∀ k, k < 80 → m (14 + 5 * i + 4) 1 ≠ 0 → gw m1 (m (14 + 5 * i + 4) 1 + nI k) = gw m (m (14 + 5 * i + 4) 1 + nI k) := fun i hi k hk hg => by
    have z : gsz 1 = 80 := by decide
    have a := gadr hI hi (d := 1) (k := k) (by omega) hg (by omega)
    rw [gw_in a.2.1, gw_in a.2.1]
    exact h2 _ a.2.2
  have cg : ∀ i, i < cnt m → ∀ t, 5 < t → t < 11 → t ≠ 9 → gw m1 (ctl m i + nI (4 * t)) = gw m (ctl m i + nI (4 * t)) := fun i hi t t1 t2 t3 => by
    have q := ctA hI hi (t := t) (by omega)
    rw [gw_in q.1, gw_in q.1, q.2.2.1]
    exact h3 i hi t t1 t2 t3
  exact (Rel.upd (hR) (h8) ([2]) ([67]) (fun k hk => by simp only [List.mem_cons, List.not_mem_nil, or_false] at hk; exact h1 k hk) (fun k hk => by simp only [List.mem_cons, List.not_mem_nil, or_false] at hk; exact T.1 k hk) (by first | (refine Or.inl (And.intro ?_ (And.intro ?_ ?_)) <;> first | (simp only [List.mem_cons, List.not_mem_nil, or_false, forall_eq_or_imp, forall_eq, false_implies, implies_true, and_true] <;> omega) | (repeat' (first | exact True.intro | rfl | refine And.intro ?_ ?_ | (rw [sv_ne _ _ _ _ (by omega)]) | (rw [up_cell _ _ _ (by omega)]) | (rw [fil_cell _ _ _ _ _ (by omega)]) | (rw [hM _ (by omega)]) | (rw [hm _ (by omega)])))) | (have t_ := Rel.tapeLen (hR); exact Or.inr t_)) (by first | (refine Or.inl (And.intro ?_ (And.intro ?_ ?_)) <;> first | (simp only [List.mem_cons, List.not_mem_nil, or_false, forall_eq_or_imp, forall_eq, false_implies, implies_true, and_true] <;> omega) | (repeat' (first | exact True.intro | rfl | refine And.intro ?_ ?_ | (rw [sv_ne _ _ _ _ (by omega)]) | (rw [up_cell _ _ _ (by omega)]) | (rw [fil_cell _ _ _ _ _ (by omega)]) | (rw [hM _ (by omega)]) | (rw [hm _ (by omega)])))) | (have t_ := Rel.on (hR); exact Or.inr t_)) (by first | (refine Or.inl (And.intro ?_ (And.intro ?_ ?_)) <;> first | (simp only [List.mem_cons, List.not_mem_nil, or_false, forall_eq_or_imp, forall_eq, false_implies, implies_true, and_true] <;> omega) | (repeat' (first | exact True.intro | rfl | refine And.intro ?_ ?_ | (rw [sv_ne _ _ _ _ (by omega)]) | (rw [up_cell _ _ _ (by omega)]) | (rw [fil_cell _ _ _ _ _ (by omega)]) | (rw [hM _ (by omega)]) | (rw [hm _ (by omega)])))) | (have t_ := Rel.lost (hR); exact Or.inr t_)) (by first | (refine Or.inl (And.intro ?_ (And.intro ?_ ?_)) <;> first | (simp only [List.mem_cons, List.not_mem_nil, or_false, forall_eq_or_imp, forall_eq, false_implies, implies_true, and_true] <;> omega) | (repeat' (first | exact True.intro | rfl | refine And.intro ?_ ?_ | (rw [sv_ne _ _ _ _ (by omega)]) | (rw [up_cell _ _ _ (by omega)]) | (rw [fil_cell _ _ _ _ _ (by omega)]) | (rw [hM _ (by omega)]) | (rw [hm _ (by omega)])))) | (have t_ := Rel.power (hR); exact Or.inr t_)) (by first | (refine Or.inl (And.intro ?_ (And.intro ?_ ?_)) <;> first | (simp only [List.mem_cons, List.not_mem_nil, or_false, forall_eq_or_imp, forall_eq, false_implies, implies_true, and_true] <;> omega) | (repeat' (first | exact True.intro | rfl | refine And.intro ?_ ?_ | (rw [sv_ne _ _ _ _ (by omega)]) | (rw [up_cell _ _ _ (by omega)]) | (rw [fil_cell _ _ _ _ _ (by omega)]) | (rw [hM _ (by omega)]) | (rw [hm _ (by omega)])))) | (have t_ := Rel.time (hR); exact Or.inr t_)) (by first | (refine Or.inl (And.intro ?_ (And.intro ?_ ?_)) <;> first | (simp only [List.mem_cons, List.not_mem_nil, or_false, forall_eq_or_imp, forall_eq, false_implies, implies_true, and_true] <;> omega) | (repeat' (first | exact True.intro | rfl | refine And.intro ?_ ?_ | (rw [sv_ne _ _ _ _ (by omega)]) | (rw [up_cell _ _ _ (by omega)]) | (rw [fil_cell _ _ _ _ _ (by omega)]) | (rw [hM _ (by omega)]) | (rw [hm _ (by omega)])))) | (have t_ := Rel.z (hR); exact Or.inr t_)) (by first | (refine Or.inl (And.intro ?_ (And.intro ?_ ?_)) <;> first | (simp only [List.mem_cons, List.not_mem_nil, or_false, forall_eq_or_imp, forall_eq, false_implies, implies_true, and_true] <;> omega) | (repeat' (first | exact True.intro | rfl | refine And.intro ?_ ?_ | (rw [sv_ne _ _ _ _ (by omega)]) | (rw [up_cell _ _ _ (by omega)]) | (rw [fil_cell _ _ _ _ _ (by omega)]) | (rw [hM _ (by omega)]) | (rw [hm _ (by omega)])))) | (have t_ := Rel.count (hR); exact Or.inr t_)) (by first | (refine Or.inl (And.intro ?_ (And.intro ?_ ?_)) <;> first | (simp only [List.mem_cons, List.not_mem_nil, or_false, forall_eq_or_imp, forall_eq, false_implies, implies_true, and_true] <;> omega) | (repeat' (first | exact True.intro | rfl | refine And.intro ?_ ?_ | (rw [sv_ne _ _ _ _ (by omega)]) | (rw [up_cell _ _ _ (by omega)]) | (rw [fil_cell _ _ _ _ _ (by omega)]) | (rw [hM _ (by omega)]) | (rw [hm _ (by omega)])))) | (have t_ := Rel.turn (hR); exact Or.inr t_)) (by first | (refine Or.inl (And.intro ?_ (And.intro ?_ ?_)) <;> first | (simp only [List.mem_cons, List.not_mem_nil, or_false, forall_eq_or_imp, forall_eq, false_implies, implies_true, and_true] <;> omega) | (repeat' (first | exact True.intro | rfl | refine And.intro ?_ ?_ | (rw [sv_ne _ _ _ _ (by omega)]) | (rw [up_cell _ _ _ (by omega)]) | (rw [fil_cell _ _ _ _ _ (by omega)]) | (rw [hM _ (by omega)]) | (rw [hm _ (by omega)])))) | (have t_ := Rel.bank (hR); exact Or.inr t_)) (by first | (refine Or.inl (And.intro ?_ (And.intro ?_ ?_)) <;> first | (simp only [List.mem_cons, List.not_mem_nil, or_false, forall_eq_or_imp, forall_eq, false_implies, implies_true, and_true] <;> omega) | (repeat' (first | exact True.intro | rfl | refine And.intro ?_ ?_ | (rw [sv_ne _ _ _ _ (by omega)]) | (rw [up_cell _ _ _ (by omega)]) | (rw [fil_cell _ _ _ _ _ (by omega)]) | (rw [hM _ (by omega)]) | (rw [hm _ (by omega)])))) | (have t_ := Rel.tape (hR); exact Or.inr t_)) (by first | (refine Or.inl (And.intro ?_ (And.intro ?_ ?_)) <;> first | (simp only [List.mem_cons, List.not_mem_nil, or_false, forall_eq_or_imp, forall_eq, false_implies, implies_true, and_true] <;> omega) | (repeat' (first | exact True.intro | rfl | refine And.intro ?_ ?_ | (rw [sv_ne _ _ _ _ (by omega)]) | (rw [up_cell _ _ _ (by omega)]) | (rw [fil_cell _ _ _ _ _ (by omega)]) | (rw [hM _ (by omega)]) | (rw [hm _ (by omega)])))) | (have t_ := Rel.counts (hR); exact Or.inr t_)) (by first | (refine Or.inl (And.intro ?_ (And.intro ?_ ?_)) <;> first | (simp only [List.mem_cons, List.not_mem_nil, or_false, forall_eq_or_imp, forall_eq, false_implies, implies_true, and_true] <;> omega) | (repeat' (first | exact True.intro | rfl | refine And.intro ?_ ?_ | (rw [sv_ne _ _ _ _ (by omega)]) | (rw [up_cell _ _ _ (by omega)]) | (rw [fil_cell _ _ _ _ _ (by omega)]) | (rw [hM _ (by omega)]) | (rw [hm _ (by omega)])))) | (have t_ := Rel.events (hR); exact Or.inr t_)) (by first | (refine Or.inl (And.intro ?_ (And.intro ?_ ?_)) <;> first | (simp only [List.mem_cons, List.not_mem_nil, or_false, forall_eq_or_imp, forall_eq, false_implies, implies_true, and_true] <;> omega) | (repeat' (first | exact True.intro | rfl | refine And.intro ?_ ?_ | (rw [sv_ne _ _ _ _ (by omega)]) | (rw [up_cell _ _ _ (by omega)]) | (rw [fil_cell _ _ _ _ _ (by omega)]) | (rw [hM _ (by omega)]) | (rw [hm _ (by omega)])))) | (have t_ := Rel.out (hR); exact Or.inr t_)) (by first | (refine Or.inl (And.intro ?_ (And.intro ?_ ?_)) <;> first | (simp only [List.mem_cons, List.not_mem_nil, or_false, forall_eq_or_imp, forall_eq, false_implies, implies_true, and_true] <;> omega) | (repeat' (first | exact True.intro | rfl | refine And.intro ?_ ?_ | (rw [sv_ne _ _ _ _ (by omega)]) | (rw [up_cell _ _ _ (by omega)]) | (rw [fil_cell _ _ _ _ _ (by omega)]) | (rw [hM _ (by omega)]) | (rw [hm _ (by omega)])))) | (have t_ := Rel.lamps (hR); exact Or.inr t_)) (by first | (refine Or.inl (And.intro ?_ (And.intro ?_ ?_)) <;> first | (simp only [List.mem_cons, List.not_mem_nil, or_false, forall_eq_or_imp, forall_eq, false_implies, implies_true, and_true] <;> omega) | (repeat' (first | exact True.intro | rfl | refine And.intro ?_ ?_ | (rw [sv_ne _ _ _ _ (by omega)]) | (rw [up_cell _ _ _ (by omega)]) | (rw [fil_cell _ _ _ _ _ (by omega)]) | (rw [hM _ (by omega)]) | (rw [hm _ (by omega)])))) | (have t_ := Rel.buttons (hR); exact Or.inr t_)) (by first | (refine Or.inl (And.intro ?_ (And.intro ?_ ?_)) <;> first | (simp only [List.mem_cons, List.not_mem_nil, or_false, forall_eq_or_imp, forall_eq, false_implies, implies_true, and_true] <;> omega) | (repeat' (first | exact True.intro | rfl | refine And.intro ?_ ?_ | (rw [sv_ne _ _ _ _ (by omega)]) | (rw [up_cell _ _ _ (by omega)]) | (rw [fil_cell _ _ _ _ _ (by omega)]) | (rw [hM _ (by omega)]) | (rw [hm _ (by omega)])))) | (have t_ := Rel.lev (hR); exact Or.inr t_)) (Or.inr (by
    intro w hw hx j hj
    have hx : ¬ excl m w := fun y => hx ((ex w).2 y)
    rw [h2 w hx, T.2.2 _ (fun i hi y => hx ((exclA hI w).2 ⟨i, hi, by omega, by omega⟩))]
    exact hR.mem w hw hx j hj)) (by first | (refine Or.inl (And.intro ?_ (And.intro ?_ ?_)) <;> first | (simp only [List.mem_cons, List.not_mem_nil, or_false, forall_eq_or_imp, forall_eq, false_implies, implies_true, and_true] <;> omega) | (repeat' (first | exact True.intro | rfl | refine And.intro ?_ ?_ | (rw [sv_ne _ _ _ _ (by omega)]) | (rw [up_cell _ _ _ (by omega)]) | (rw [fil_cell _ _ _ _ _ (by omega)]) | (rw [hM _ (by omega)]) | (rw [hm _ (by omega)])))) | (have t_ := Rel.sched (hR); exact Or.inr t_)) (by first | (refine Or.inl (And.intro ?_ (And.intro ?_ ?_)) <;> first | (simp only [List.mem_cons, List.not_mem_nil, or_false, forall_eq_or_imp, forall_eq, false_implies, implies_true, and_true] <;> omega) | (repeat' (first | exact True.intro | rfl | refine And.intro ?_ ?_ | (rw [sv_ne _ _ _ _ (by omega)]) | (rw [up_cell _ _ _ (by omega)]) | (rw [fil_cell _ _ _ _ _ (by omega)]) | (rw [hM _ (by omega)]) | (rw [hm _ (by omega)])))) | (have t_ := Rel.done (hR); exact Or.inr t_)) (by first | (refine Or.inl (And.intro ?_ (And.intro ?_ ?_)) <;> first | (simp only [List.mem_cons, List.not_mem_nil, or_false, forall_eq_or_imp, forall_eq, false_implies, implies_true, and_true] <;> omega) | (repeat' (first | exact True.intro | rfl | refine And.intro ?_ ?_ | (rw [sv_ne _ _ _ _ (by omega)]) | (rw [up_cell _ _ _ (by omega)]) | (rw [fil_cell _ _ _ _ _ (by omega)]) | (rw [hM _ (by omega)]) | (rw [hm _ (by omega)])))) | (have t_ := Rel.levels (hR); exact Or.inr t_)) (by first | (refine Or.inl (And.intro ?_ (And.intro ?_ ?_)) <;> first | (simp only [List.mem_cons, List.not_mem_nil, or_false, forall_eq_or_imp, forall_eq, false_implies, implies_true, and_true] <;> omega) | (repeat' (first | exact True.intro | rfl | refine And.intro ?_ ?_ | (rw [sv_ne _ _ _ _ (by omega)]) | (rw [up_cell _ _ _ (by omega)]) | (rw [fil_cell _ _ _ _ _ (by omega)]) | (rw [hM _ (by omega)]) | (rw [hm _ (by omega)])))) | (have t_ := Rel.places (hR); exact Or.inr t_)) (by first | (refine Or.inl (And.intro ?_ (And.intro ?_ ?_)) <;> first | (simp only [List.mem_cons, List.not_mem_nil, or_false, forall_eq_or_imp, forall_eq, false_implies, implies_true, and_true] <;> omega) | (repeat' (first | exact True.intro | rfl | refine And.intro ?_ ?_ | (rw [sv_ne _ _ _ _ (by omega)]) | (rw [up_cell _ _ _ (by omega)]) | (rw [fil_cell _ _ _ _ _ (by omega)]) | (rw [hM _ (by omega)]) | (rw [hm _ (by omega)])))) | (have t_ := Rel.asked (hR); exact Or.inr t_)) (Or.inr (by
    intro i hi u
    rw [c1] at hi
    rw [T.1 111 (by omega), h1 62 (by omega)]
    have u1 := u.1
    rw [h1 _ (by omega)] at u1
    have u2 := u.2
    rw [h1 (14 + 5 * i + 4) (by omega)] at u2
    exact hR.worder i hi ⟨u1, by rw [show (64 : Int32) = nI 64 from by decide] at u2 ⊢; rw [← und i hi 64 (by omega) u1]; exact u2⟩)) (Or.inr (by
    intro i hi u
    rw [c1] at hi
    rw [T.1 112 (by omega), h1 63 (by omega)]
    have u1 := u.1
    rw [h1 _ (by omega)] at u1
    have u2 := u.2
    rw [h1 (14 + 5 * i + 4) (by omega)] at u2
    exact hR.rorder i hi ⟨u1, by rw [show (72 : Int32) = nI 72 from by decide] at u2 ⊢; rw [← und i hi 72 (by omega) u1]; exact u2⟩)) (by first | (refine Or.inl (And.intro ?_ (And.intro ?_ ?_)) <;> first | (simp only [List.mem_cons, List.not_mem_nil, or_false, forall_eq_or_imp, forall_eq, false_implies, implies_true, and_true] <;> omega) | (repeat' (first | exact True.intro | rfl | refine And.intro ?_ ?_ | (rw [sv_ne _ _ _ _ (by omega)]) | (rw [up_cell _ _ _ (by omega)]) | (rw [fil_cell _ _ _ _ _ (by omega)]) | (rw [hM _ (by omega)]) | (rw [hm _ (by omega)])))) | (have t_ := Rel.ps (hR); exact Or.inr t_)) (by first | (refine Or.inl (And.intro ?_ (And.intro ?_ ?_)) <;> first | (simp only [List.mem_cons, List.not_mem_nil, or_false, forall_eq_or_imp, forall_eq, false_implies, implies_true, and_true] <;> omega) | (repeat' (first | exact True.intro | rfl | refine And.intro ?_ ?_ | (rw [sv_ne _ _ _ _ (by omega)]) | (rw [up_cell _ _ _ (by omega)]) | (rw [fil_cell _ _ _ _ _ (by omega)]) | (rw [hM _ (by omega)]) | (rw [hm _ (by omega)])))) | (have t_ := Rel.app (hR); exact Or.inr t_)) (by first | (refine Or.inl (And.intro ?_ (And.intro ?_ ?_)) <;> first | (simp only [List.mem_cons, List.not_mem_nil, or_false, forall_eq_or_imp, forall_eq, false_implies, implies_true, and_true] <;> omega) | (repeat' (first | exact True.intro | rfl | refine And.intro ?_ ?_ | (rw [sv_ne _ _ _ _ (by omega)]) | (rw [up_cell _ _ _ (by omega)]) | (rw [fil_cell _ _ _ _ _ (by omega)]) | (rw [hM _ (by omega)]) | (rw [hm _ (by omega)])))) | (have t_ := Rel.name (hR); exact Or.inr t_)) (by first | (refine Or.inl (And.intro ?_ (And.intro ?_ ?_)) <;> first | (simp only [List.mem_cons, List.not_mem_nil, or_false, forall_eq_or_imp, forall_eq, false_implies, implies_true, and_true] <;> omega) | (repeat' (first | exact True.intro | rfl | refine And.intro ?_ ?_ | (rw [sv_ne _ _ _ _ (by omega)]) | (rw [up_cell _ _ _ (by omega)]) | (rw [fil_cell _ _ _ _ _ (by omega)]) | (rw [hM _ (by omega)]) | (rw [hm _ (by omega)])))) | (have t_ := Rel.number (hR); exact Or.inr t_)) (by first | (refine Or.inl (And.intro ?_ (And.intro ?_ ?_)) <;> first | (simp only [List.mem_cons, List.not_mem_nil, or_false, forall_eq_or_imp, forall_eq, false_implies, implies_true, and_true] <;> omega) | (repeat' (first | exact True.intro | rfl | refine And.intro ?_ ?_ | (rw [sv_ne _ _ _ _ (by omega)]) | (rw [up_cell _ _ _ (by omega)]) | (rw [fil_cell _ _ _ _ _ (by omega)]) | (rw [hM _ (by omega)]) | (rw [hm _ (by omega)])))) | (have t_ := Rel.bits (hR); exact Or.inr t_)) (by first | (refine Or.inl (And.intro ?_ (And.intro ?_ ?_)) <;> first | (simp only [List.mem_cons, List.not_mem_nil, or_false, forall_eq_or_imp, forall_eq, false_implies, implies_true, and_true] <;> omega) | (repeat' (first | exact True.intro | rfl | refine And.intro ?_ ?_ | (rw [sv_ne _ _ _ _ (by omega)]) | (rw [up_cell _ _ _ (by omega)]) | (rw [fil_cell _ _ _ _ _ (by omega)]) | (rw [hM _ (by omega)]) | (rw [hm _ (by omega)])))) | (have t_ := Rel.regs (hR); exact Or.inr t_)) (by first | (refine Or.inl (And.intro ?_ (And.intro ?_ ?_)) <;> first | (simp only [List.mem_cons, List.not_mem_nil, or_false, forall_eq_or_imp, forall_eq, false_implies, implies_true, and_true] <;> omega) | (repeat' (first | exact True.intro | rfl | refine And.intro ?_ ?_ | (rw [sv_ne _ _ _ _ (by omega)]) | (rw [up_cell _ _ _ (by omega)]) | (rw [fil_cell _ _ _ _ _ (by omega)]) | (rw [hM _ (by omega)]) | (rw [hm _ (by omega)])))) | (have t_ := Rel.rsv (hR); exact Or.inr t_)) (by first | (refine Or.inl (And.intro ?_ (And.intro ?_ ?_)) <;> first | (simp only [List.mem_cons, List.not_mem_nil, or_false, forall_eq_or_imp, forall_eq, false_implies, implies_true, and_true] <;> omega) | (repeat' (first | exact True.intro | rfl | refine And.intro ?_ ?_ | (rw [sv_ne _ _ _ _ (by omega)]) | (rw [up_cell _ _ _ (by omega)]) | (rw [fil_cell _ _ _ _ _ (by omega)]) | (rw [hM _ (by omega)]) | (rw [hm _ (by omega)])))) | (have t_ := Rel.queue (hR); exact Or.inr t_)) (Or.inr (by
    intro i hi
    rw [c1] at hi
    rw [T.1 102 (by omega), T.1 103 (by omega), T.1 104 (by omega), T.1 105 (by omega), ct]
    have c := hR.ctlw i hi
    have e6 := cg i hi 6 (by omega) (by omega) (by omega)
    have e7 := cg i hi 7 (by omega) (by omega) (by omega)
    have e8 := cg i hi 8 (by omega) (by omega) (by omega)
    have e10 := cg i hi 10 (by omega) (by omega) (by omega)
    rw [show nI (4 * 6) = (24 : Int32) from by decide] at e6
    rw [show nI (4 * 7) = (28 : Int32) from by decide] at e7
    rw [show nI (4 * 8) = (32 : Int32) from by decide] at e8
    rw [show nI (4 * 10) = (40 : Int32) from by decide] at e10
    rw [e6, e7, e8, e10]
    exact c)) (by first | (refine Or.inl (And.intro ?_ (And.intro ?_ ?_)) <;> first | (simp only [List.mem_cons, List.not_mem_nil, or_false, forall_eq_or_imp, forall_eq, false_implies, implies_true, and_true] <;> omega) | (repeat' (first | exact True.intro | rfl | refine And.intro ?_ ?_ | (rw [sv_ne _ _ _ _ (by omega)]) | (rw [up_cell _ _ _ (by omega)]) | (rw [fil_cell _ _ _ _ _ (by omega)]) | (rw [hM _ (by omega)]) | (rw [hm _ (by omega)])))) | (have t_ := Rel.wt (hR); exact Or.inr t_)))
theorem r_218b {kc : it_Kc} {M : it_Me} {a y : Int32} (ha : InM a) (e : M 67 (65536 + 4 * wi a + bj a) = sb8 y (bj a)) {Φ : Int32 → it_Me → Prop} (hp : Φ (by8 y (bj a)) M) : w_218 kc a M Φ := by
  unfold w_218
  have h1 := ha.1
  have h2 := ha.2
  refine ⟨by rw [vp_in_iff]; omega, ?_⟩
  rw [ad_eq ha, e, sb_by _ (bj_lt a)]
  exact hp
theorem a_memory {kc : it_Kc} {B : Nat} {m : it_Me} (hI : Inv B m) (hl : m 7 4 = 0) (a : Int32) : Lk (w_202 kc a) (w_353 kc a) B m := by
  have h8 := cnt_le hI
  by_cases ha : InM a
  · have g1 : ¬ a < 65536 := ha.ge
    have g2 : a < 196608 := ha.lt
    have bl := bj_lt a
    have rf : ∀ M, Rel m M → ∀ Φ : Int32 → it_Me → Prop, (∀ M', Tr m M M' (cnt m) → w_353_35 kc Φ a M') → w_353 kc a M Φ := fun M hM Φ k => by
      obtain ⟨M', t1, t2⟩ := r_353l (kc := kc) (Φ := Φ) hI hM (cnt m) 0 M (by omega) ⟨fun _ _ => rfl, fun i hi => absurd hi (Nat.not_lt_zero _), fun _ _ => rfl⟩
      unfold w_353
      exact ⟨fun q => absurd q g1, fun _ => ⟨fun _ => ⟨_, t2 _ a (k M' t1)⟩, fun q => absurd g2 q⟩⟩
    have frm : ∀ {M M'}, Tr m M M' (cnt m) → FrM M M' := fun t k hk => t.1 k (by omega)
    by_cases fl : a < 131072
    · refine ⟨gb m a, m, fun Φ hp => ?_, hI, FrC.rfl, hl, fun M hM Φ hp => rf M hM Φ (fun M' t => ?_)⟩
      · unfold w_202 w_202_27
        exact ⟨fun q => absurd q g1, fun _ => ⟨fun _ => ⟨fun _ => c_16 hp, fun q => absurd fl q⟩, fun q => absurd g2 q⟩⟩
      · have R := tl_R hI hM t (m1 := m) (fun _ _ => rfl) (fun _ _ => rfl) (fun _ _ _ _ _ _ => rfl)
        have f : a.toInt < 131072 := by rw [Int32.lt_iff_toInt_lt] at fl; exact fl
        unfold w_353_35
        exact r_218 R ha (nexA hI (Or.inl ⟨ha.1, f⟩)).2 (hp M' R (frm t))
    · obtain ⟨m', s1, s2⟩ := c_92l (kc := kc) hI (cnt m) 0 m (by omega) ⟨fun _ _ => rfl, fun i hi => absurd hi (Nat.not_lt_zero _), fun _ _ => rfl⟩
      refine ⟨gb m' a, m', fun Φ hp => ?_, Tw_I hI s1, fun k hk => s1.1 k (by omega), by rw [s1.1 7 (by omega)]; exact hl, fun M hM Φ hp => rf M hM Φ (fun M' t => ?_)⟩
      · unfold w_202 w_202_27 w_92
        refine ⟨fun q => absurd q g1, fun _ => ⟨fun _ => ⟨fun q => absurd q fl, fun _ => ⟨_, s2 _ (fun m => w_92_132 kc (fun m1 => w_16 kc a m1 (fun r1 m2 => Φ r1 m2)) m) ?_⟩⟩, fun q => absurd g2 q⟩⟩
        unfold w_92_132
        exact c_16 hp
      · have o : ∀ w, ¬ excl m w → m' 2 w = m 2 w := fun w hx => s1.2.2 w (fun i hi y => hx ((exclA hI w).2 ⟨i, hi, y⟩))
        have R := tl_R hI hM t s1.1 o (fun i hi t t1 t2 t3 => by rw [s1.2.1 i hi t t2, ctV_o _ _ ⟨t1, t3⟩])
        have hp := hp M' R (frm t)
        unfold w_353_35
        rw [gb_in ha] at hp
        refine r_218b ha ?_ hp
        by_cases hx : excl m (wi a)
        · obtain ⟨i, hi, e1, e2⟩ := (exclA hI (wi a)).1 hx
          have k1 := t.2.1 i hi (wi a - wi (ctl m i)) (by omega) (bj a) bl
          have k2 := s1.2.1 i hi (wi a - wi (ctl m i)) (by omega)
          rw [show wi (ctl m i) + (wi a - wi (ctl m i)) = wi a by omega] at k1 k2
          rw [k1, k2]
        · rw [o _ hx, t.2.2 _ (fun i hi y => hx ((exclA hI (wi a)).2 ⟨i, hi, by omega, by omega⟩))]
          exact hM.mem _ (wi_lt ha) hx _ bl
  · rcases InM.no ha with q | ⟨q1, q2⟩
    · refine Lk.ro hI hl (-1) (fun Φ hp => ?_) (fun M hM Φ hp => ?_)
      · unfold w_202 w_202_12
        exact ⟨fun _ => hp, fun z => absurd q z⟩
      · unfold w_353 w_353_12
        exact ⟨fun _ => hp, fun z => absurd q z⟩
    · refine Lk.ro hI hl (-1) (fun Φ hp => ?_) (fun M hM Φ hp => ?_)
      · unfold w_202 w_202_12
        exact ⟨fun z => absurd z q1, fun _ => ⟨fun z => absurd z q2, fun _ => hp⟩⟩
      · unfold w_353 w_353_12
        exact ⟨fun z => absurd z q1, fun _ => ⟨fun z => absurd z q2, fun _ => hp⟩⟩
