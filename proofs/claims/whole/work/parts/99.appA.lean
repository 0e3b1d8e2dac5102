/-! Apps in flash: who is outdone, class. -/
def sN (F : Nat → Int32) (A' A : Nat) : Prop := sE F A' 10 ≠ 0 ∧ sE F A' 11 = sE F A 11 ∧ ∀ x : Nat, (x : Int) < (sE F A 11).toInt → gb (mF F) (sE F A' 10 + nI x) = gb (mF F) (sE F A 10 + nI x)
def bfP (F : Nat → Int32) (A' A : Nat) : Prop := A' ≠ A ∧ (vrF F A' = vrF F A ∧ A' < A ∨ vrF F A' ≠ vrF F A ∧ ult (vrF F A) (vrF F A'))
theorem c_20 {kc : it_Kc} {m : it_Me} {a b : Int32} {L : Nat} (hL : L < 2147483648) {Φ : Int32 → it_Me → Prop} (h : Φ (bI (∀ x : Nat, x < L → gb m (a + nI x) = gb m (b + nI x))) m) : w_20 kc a b (nI L) m Φ := by
  have lp : ∀ r x, x + r = L → (∀ y, y < x → gb m (a + nI y) = gb m (b + nI y)) → w_20_3 kc Φ (fun m => w_20_28 kc Φ m) (fun m => w_20_36 kc Φ m) (r + 1) a b (nI L) (nI x) m := by
    intro r
    induction r with
    | zero =>
      intro x hx hy
      unfold w_20_3
      refine ⟨fun _ => ?_, fun q => absurd ((nLe (by omega) (by omega)).2 (by omega)) q⟩
      unfold w_20_36
      rw [bI_t (fun y hy' => hy y (by omega))] at h
      exact h
    | succ r ih =>
      intro x hx hy
      unfold w_20_3
      refine ⟨fun q => absurd ((nLe (by omega) (by omega)).1 q) (by omega), fun _ => c_16 (c_16 ⟨fun q => ?_, fun q => ?_⟩)⟩
      · rw [nI_s1]
        refine ih (x + 1) (by omega) (fun y hy' => ?_)
        by_cases e : y = x
        · rw [e]; exact q
        · exact hy y (by omega)
      · unfold w_20_28
        rw [bI_f (fun z => q (z x (by omega)))] at h
        exact h
  exact ⟨L + 1, lp L 0 (by omega) (fun y hy => absurd hy (Nat.not_lt_zero _))⟩
theorem Inv.c13 {B : Nat} {m m' : it_Me} (hI : Inv B m) (h : ∀ c, c ≠ 13 → m' c = m c) : Inv B m' := by
  have h8 := cnt_le hI
  have hm : ∀ k, k ≠ 13 → m' k = m k := h
  exact (Inv.upd (hI) (Nat.le_refl B) ([13]) (fun k hk => by simp only [List.mem_cons, List.not_mem_nil, or_false] at hk; exact hm k hk) (by first | (refine Or.inl (And.intro ?_ ?_) <;> first | (simp only [List.mem_cons, List.not_mem_nil, or_false, forall_eq_or_imp, forall_eq, false_implies, implies_true, and_true] <;> omega) | (repeat' (first | exact True.intro | rfl | refine And.intro ?_ ?_ | (rw [sv_ne _ _ _ _ (by omega)]) | (rw [up_cell _ _ _ (by omega)]) | (rw [fil_cell _ _ _ _ _ (by omega)]) | (rw [hM _ (by omega)]) | (rw [hm _ (by omega)])))) | (have t_ := Inv.tl (hI); exact Or.inr t_)) (by first | (refine Or.inl (And.intro ?_ ?_) <;> first | (simp only [List.mem_cons, List.not_mem_nil, or_false, forall_eq_or_imp, forall_eq, false_implies, implies_true, and_true] <;> omega) | (repeat' (first | exact True.intro | rfl | refine And.intro ?_ ?_ | (rw [sv_ne _ _ _ _ (by omega)]) | (rw [up_cell _ _ _ (by omega)]) | (rw [fil_cell _ _ _ _ _ (by omega)]) | (rw [hM _ (by omega)]) | (rw [hm _ (by omega)])))) | (have t_ := Inv.tp (hI); exact Or.inr t_)) (by first | (refine Or.inl (And.intro ?_ ?_) <;> first | (simp only [List.mem_cons, List.not_mem_nil, or_false, forall_eq_or_imp, forall_eq, false_implies, implies_true, and_true] <;> omega) | (repeat' (first | exact True.intro | rfl | refine And.intro ?_ ?_ | (rw [sv_ne _ _ _ _ (by omega)]) | (rw [up_cell _ _ _ (by omega)]) | (rw [fil_cell _ _ _ _ _ (by omega)]) | (rw [hM _ (by omega)]) | (rw [hm _ (by omega)])))) | (have t_ := Inv.on (hI); exact Or.inr t_)) (by first | (refine Or.inl (And.intro ?_ ?_) <;> first | (simp only [List.mem_cons, List.not_mem_nil, or_false, forall_eq_or_imp, forall_eq, false_implies, implies_true, and_true] <;> omega) | (repeat' (first | exact True.intro | rfl | refine And.intro ?_ ?_ | (rw [sv_ne _ _ _ _ (by omega)]) | (rw [up_cell _ _ _ (by omega)]) | (rw [fil_cell _ _ _ _ _ (by omega)]) | (rw [hM _ (by omega)]) | (rw [hm _ (by omega)])))) | (have t_ := Inv.off (hI); exact Or.inr t_)) (by first | (refine Or.inl (And.intro ?_ ?_) <;> first | (simp only [List.mem_cons, List.not_mem_nil, or_false, forall_eq_or_imp, forall_eq, false_implies, implies_true, and_true] <;> omega) | (repeat' (first | exact True.intro | rfl | refine And.intro ?_ ?_ | (rw [sv_ne _ _ _ _ (by omega)]) | (rw [up_cell _ _ _ (by omega)]) | (rw [fil_cell _ _ _ _ _ (by omega)]) | (rw [hM _ (by omega)]) | (rw [hm _ (by omega)])))) | (have t_ := Inv.cn (hI); exact Or.inr t_)) (by first | (refine Or.inl (And.intro ?_ ?_) <;> first | (simp only [List.mem_cons, List.not_mem_nil, or_false, forall_eq_or_imp, forall_eq, false_implies, implies_true, and_true] <;> omega) | (repeat' (first | exact True.intro | rfl | refine And.intro ?_ ?_ | (rw [sv_ne _ _ _ _ (by omega)]) | (rw [up_cell _ _ _ (by omega)]) | (rw [fil_cell _ _ _ _ _ (by omega)]) | (rw [hM _ (by omega)]) | (rw [hm _ (by omega)])))) | (have t_ := Inv.ev (hI); exact Or.inr t_)) (by first | (refine Or.inl (And.intro ?_ ?_) <;> first | (simp only [List.mem_cons, List.not_mem_nil, or_false, forall_eq_or_imp, forall_eq, false_implies, implies_true, and_true] <;> omega) | (repeat' (first | exact True.intro | rfl | refine And.intro ?_ ?_ | (rw [sv_ne _ _ _ _ (by omega)]) | (rw [up_cell _ _ _ (by omega)]) | (rw [fil_cell _ _ _ _ _ (by omega)]) | (rw [hM _ (by omega)]) | (rw [hm _ (by omega)])))) | (have t_ := Inv.out (hI); exact Or.inr t_)) (by first | (refine Or.inl (And.intro ?_ ?_) <;> first | (simp only [List.mem_cons, List.not_mem_nil, or_false, forall_eq_or_imp, forall_eq, false_implies, implies_true, and_true] <;> omega) | (repeat' (first | exact True.intro | rfl | refine And.intro ?_ ?_ | (rw [sv_ne _ _ _ _ (by omega)]) | (rw [up_cell _ _ _ (by omega)]) | (rw [fil_cell _ _ _ _ _ (by omega)]) | (rw [hM _ (by omega)]) | (rw [hm _ (by omega)])))) | (have t_ := Inv.num (hI); exact Or.inr t_)) (by first | (refine Or.inl (And.intro ?_ ?_) <;> first | (simp only [List.mem_cons, List.not_mem_nil, or_false, forall_eq_or_imp, forall_eq, false_implies, implies_true, and_true] <;> omega) | (repeat' (first | exact True.intro | rfl | refine And.intro ?_ ?_ | (rw [sv_ne _ _ _ _ (by omega)]) | (rw [up_cell _ _ _ (by omega)]) | (rw [fil_cell _ _ _ _ _ (by omega)]) | (rw [hM _ (by omega)]) | (rw [hm _ (by omega)])))) | (have t_ := Inv.crc (hI); exact Or.inr t_)) (by first | (refine Or.inl (And.intro ?_ ?_) <;> first | (simp only [List.mem_cons, List.not_mem_nil, or_false, forall_eq_or_imp, forall_eq, false_implies, implies_true, and_true] <;> omega) | (repeat' (first | exact True.intro | rfl | refine And.intro ?_ ?_ | (rw [sv_ne _ _ _ _ (by omega)]) | (rw [up_cell _ _ _ (by omega)]) | (rw [fil_cell _ _ _ _ _ (by omega)]) | (rw [hM _ (by omega)]) | (rw [hm _ (by omega)])))) | (have t_ := Inv.bk (hI); exact Or.inr t_)) (by first | (refine Or.inl (And.intro ?_ ?_) <;> first | (simp only [List.mem_cons, List.not_mem_nil, or_false, forall_eq_or_imp, forall_eq, false_implies, implies_true, and_true] <;> omega) | (repeat' (first | exact True.intro | rfl | refine And.intro ?_ ?_ | (rw [sv_ne _ _ _ _ (by omega)]) | (rw [up_cell _ _ _ (by omega)]) | (rw [fil_cell _ _ _ _ _ (by omega)]) | (rw [hM _ (by omega)]) | (rw [hm _ (by omega)])))) | (have t_ := Inv.bk1 (hI); exact Or.inr t_)) (by first | (refine Or.inl (And.intro ?_ ?_) <;> first | (simp only [List.mem_cons, List.not_mem_nil, or_false, forall_eq_or_imp, forall_eq, false_implies, implies_true, and_true] <;> omega) | (repeat' (first | exact True.intro | rfl | refine And.intro ?_ ?_ | (rw [sv_ne _ _ _ _ (by omega)]) | (rw [up_cell _ _ _ (by omega)]) | (rw [fil_cell _ _ _ _ _ (by omega)]) | (rw [hM _ (by omega)]) | (rw [hm _ (by omega)])))) | (have t_ := Inv.pw (hI); exact Or.inr t_)) (by first | (refine Or.inl (And.intro ?_ ?_) <;> first | (simp only [List.mem_cons, List.not_mem_nil, or_false, forall_eq_or_imp, forall_eq, false_implies, implies_true, and_true] <;> omega) | (repeat' (first | exact True.intro | rfl | refine And.intro ?_ ?_ | (rw [sv_ne _ _ _ _ (by omega)]) | (rw [up_cell _ _ _ (by omega)]) | (rw [fil_cell _ _ _ _ _ (by omega)]) | (rw [hM _ (by omega)]) | (rw [hm _ (by omega)])))) | (have t_ := Inv.kd (hI); exact Or.inr t_)) (by first | (refine Or.inl (And.intro ?_ ?_) <;> first | (simp only [List.mem_cons, List.not_mem_nil, or_false, forall_eq_or_imp, forall_eq, false_implies, implies_true, and_true] <;> omega) | (repeat' (first | exact True.intro | rfl | refine And.intro ?_ ?_ | (rw [sv_ne _ _ _ _ (by omega)]) | (rw [up_cell _ _ _ (by omega)]) | (rw [fil_cell _ _ _ _ _ (by omega)]) | (rw [hM _ (by omega)]) | (rw [hm _ (by omega)])))) | (have t_ := Inv.tn (hI); exact Or.inr t_)) (by first | (refine Or.inl (And.intro ?_ ?_) <;> first | (simp only [List.mem_cons, List.not_mem_nil, or_false, forall_eq_or_imp, forall_eq, false_implies, implies_true, and_true] <;> omega) | (repeat' (first | exact True.intro | rfl | refine And.intro ?_ ?_ | (rw [sv_ne _ _ _ _ (by omega)]) | (rw [up_cell _ _ _ (by omega)]) | (rw [fil_cell _ _ _ _ _ (by omega)]) | (rw [hM _ (by omega)]) | (rw [hm _ (by omega)])))) | (have t_ := Inv.ask (hI); exact Or.inr t_)) (by first | (refine Or.inl (And.intro ?_ ?_) <;> first | (simp only [List.mem_cons, List.not_mem_nil, or_false, forall_eq_or_imp, forall_eq, false_implies, implies_true, and_true] <;> omega) | (repeat' (first | exact True.intro | rfl | refine And.intro ?_ ?_ | (rw [sv_ne _ _ _ _ (by omega)]) | (rw [up_cell _ _ _ (by omega)]) | (rw [fil_cell _ _ _ _ _ (by omega)]) | (rw [hM _ (by omega)]) | (rw [hm _ (by omega)])))) | (have t_ := Inv.askW (hI); exact Or.inr t_)) (by first | (refine Or.inl (And.intro ?_ ?_) <;> first | (simp only [List.mem_cons, List.not_mem_nil, or_false, forall_eq_or_imp, forall_eq, false_implies, implies_true, and_true] <;> omega) | (repeat' (first | exact True.intro | rfl | refine And.intro ?_ ?_ | (rw [sv_ne _ _ _ _ (by omega)]) | (rw [up_cell _ _ _ (by omega)]) | (rw [fil_cell _ _ _ _ _ (by omega)]) | (rw [hM _ (by omega)]) | (rw [hm _ (by omega)])))) | (have t_ := Inv.askR (hI); exact Or.inr t_)) (by first | (refine Or.inl (And.intro ?_ ?_) <;> first | (simp only [List.mem_cons, List.not_mem_nil, or_false, forall_eq_or_imp, forall_eq, false_implies, implies_true, and_true] <;> omega) | (repeat' (first | exact True.intro | rfl | refine And.intro ?_ ?_ | (rw [sv_ne _ _ _ _ (by omega)]) | (rw [up_cell _ _ _ (by omega)]) | (rw [fil_cell _ _ _ _ _ (by omega)]) | (rw [hM _ (by omega)]) | (rw [hm _ (by omega)])))) | (have t_ := Inv.lv0 (hI); exact Or.inr t_)) (by first | (refine Or.inl (And.intro ?_ ?_) <;> first | (simp only [List.mem_cons, List.not_mem_nil, or_false, forall_eq_or_imp, forall_eq, false_implies, implies_true, and_true] <;> omega) | (repeat' (first | exact True.intro | rfl | refine And.intro ?_ ?_ | (rw [sv_ne _ _ _ _ (by omega)]) | (rw [up_cell _ _ _ (by omega)]) | (rw [fil_cell _ _ _ _ _ (by omega)]) | (rw [hM _ (by omega)]) | (rw [hm _ (by omega)])))) | (have t_ := Inv.lv2 (hI); exact Or.inr t_)) (by first | (refine Or.inl (And.intro ?_ ?_) <;> first | (simp only [List.mem_cons, List.not_mem_nil, or_false, forall_eq_or_imp, forall_eq, false_implies, implies_true, and_true] <;> omega) | (repeat' (first | exact True.intro | rfl | refine And.intro ?_ ?_ | (rw [sv_ne _ _ _ _ (by omega)]) | (rw [up_cell _ _ _ (by omega)]) | (rw [fil_cell _ _ _ _ _ (by omega)]) | (rw [hM _ (by omega)]) | (rw [hm _ (by omega)])))) | (have t_ := Inv.pl (hI); exact Or.inr t_)) (by first | (refine Or.inl (And.intro ?_ ?_) <;> first | (simp only [List.mem_cons, List.not_mem_nil, or_false, forall_eq_or_imp, forall_eq, false_implies, implies_true, and_true] <;> omega) | (repeat' (first | exact True.intro | rfl | refine And.intro ?_ ?_ | (rw [sv_ne _ _ _ _ (by omega)]) | (rw [up_cell _ _ _ (by omega)]) | (rw [fil_cell _ _ _ _ _ (by omega)]) | (rw [hM _ (by omega)]) | (rw [hm _ (by omega)])))) | (have t_ := Inv.pi (hI); exact Or.inr t_)) (by first | (refine Or.inl (And.intro ?_ ?_) <;> first | (simp only [List.mem_cons, List.not_mem_nil, or_false, forall_eq_or_imp, forall_eq, false_implies, implies_true, and_true] <;> omega) | (repeat' (first | exact True.intro | rfl | refine And.intro ?_ ?_ | (rw [sv_ne _ _ _ _ (by omega)]) | (rw [up_cell _ _ _ (by omega)]) | (rw [fil_cell _ _ _ _ _ (by omega)]) | (rw [hM _ (by omega)]) | (rw [hm _ (by omega)])))) | (have t_ := Inv.dis (hI); exact Or.inr t_)))
theorem c_7n {kc : it_Kc} {F : Nat → Int32} {m : it_Me} (hF : FlC F m) {k A A' : Nat} (hA : 65536 ≤ A ∧ A % 4 = 0 ∧ A + hsz F A ≤ 126976) (hA' : 65536 ≤ A' ∧ A' % 4 = 0 ∧ A' + hsz F A' ≤ 126976) (e : eqE (sE F A') (m k)) {a n : Int32} (ha : a = sE F A 10) (h0 : a ≠ 0) (hn : n = sE F A 11) {Φ : Int32 → it_Me → Prop} (h : Φ (bI (sN F A' A)) m) : w_7 kc k a n m Φ := by
  have e10 := e.1 10 (by omega)
  have nA := (sE_in F hA.2.1).2.2.1
  have nA' := (sE_in F hA'.2.1).2.2.1
  unfold w_7 w_7_35 w_7_36
  refine ⟨fun q => ⟨Or.inl rfl, ?_⟩, fun q => ⟨fun q2 => ?_, fun q2 => ⟨Or.inl rfl, ?_⟩⟩⟩
  · rw [bI_f (fun y => y.1 (e10.trans q))] at h; exact h
  · have s0 : sE F A' 10 ≠ 0 := fun y => q (e10.symm.trans y)
    have e11 : sE F A' 11 = sE F A 11 := by rw [e.2.1 s0, q2, hn]
    rcases nA with z | ⟨X, L, x1, x2, x3, x4, x5, x6⟩
    · exact absurd (ha.trans z) h0
    rcases nA' with z | ⟨X', L', y1, y2, y3, y4, y5, y6⟩
    · exact absurd z s0
    have eL : L' = L := (nEq (by omega) (by omega)).1 (by rw [← y2, ← x2]; exact e11)
    rw [hn, x2]
    refine c_20 (by omega) ?_
    have same : (∀ x : Nat, x < L → gb m (m k 10 + nI x) = gb m (a + nI x)) ↔ sN F A' A := by
      have rd : ∀ x, x < L → gb m (m k 10 + nI x) = gb (mF F) (sE F A' 10 + nI x) ∧ gb m (a + nI x) = gb (mF F) (sE F A 10 + nI x) := fun x hx => by
        rw [← e10, ha, y1, x1, show nI X' + nI x = nI (X' + x) from nI_add _ _, show nI X + nI x = nI (X + x) from nI_add _ _]
        exact ⟨gbF hF (by omega), gbF hF (by omega)⟩
      have lx : (sE F A 11).toInt = L := by rw [x2, nI_toInt (by omega)]
      constructor
      · intro z
        refine ⟨s0, e11, fun x hx => ?_⟩
        have hx' : x < L := by omega
        rw [← (rd x hx').1, ← (rd x hx').2]
        exact z x hx'
      · intro z x hx
        rw [(rd x hx).1, (rd x hx).2]
        exact z.2.2 x (by omega)
    rw [bI_cg same]
    by_cases z : sN F A' A
    · rw [bI_t z] at h ⊢
      exact ⟨fun y => absurd y (by decide), fun _ => ⟨Or.inr rfl, h⟩⟩
    · rw [bI_f z] at h ⊢
      exact ⟨fun _ => ⟨Or.inl rfl, h⟩, fun y => absurd rfl y⟩
  · rw [bI_f (fun y => q2 (by rw [← e.2.1 y.1, y.2.1, hn]))] at h; exact h
theorem c_8 {kc : it_Kc} {F : Nat → Int32} {m : it_Me} {k j A A' : Nat} (hA : A < 2147483648) (hA' : A' < 2147483648) (a1 : m k 1 = nI A') (a7 : m k 7 = vrF F A') (b1 : m j 1 = nI A) (b7 : m j 7 = vrF F A) {Φ : Int32 → it_Me → Prop} (h : Φ (bI (bfP F A' A)) m) : w_8 kc k j m Φ := by
  unfold w_8 w_8_40
  rw [a1, a7, b1, b7]
  refine ⟨fun q => ?_, fun q => ⟨fun q2 => ⟨fun q3 => ⟨Or.inl rfl, ?_⟩, fun q3 => ⟨Or.inr rfl, ?_⟩⟩, fun q2 => c_213 ⟨?_, ?_⟩⟩⟩
  · rw [bI_f (fun y => y.1 ((nEq hA' hA).1 q))] at h; exact h
  · have q3' := (nLe hA hA').1 q3
    rw [bI_f (fun y => by rcases y.2 with z | z; omega; exact z.1 q2)] at h; exact h
  · have q3' : ¬ A ≤ A' := fun y => q3 ((nLe hA hA').2 y)
    rw [bI_t ⟨by omega, Or.inl ⟨q2, by omega⟩⟩] at h; exact h
  · exact bI_01 _
  · have ne : A' ≠ A := fun y => q (by rw [y])
    rw [bI_cg (show ult (vrF F A) (vrF F A') ↔ bfP F A' A from ⟨fun y => ⟨ne, Or.inr ⟨q2, y⟩⟩, fun y => by rcases y.2 with z | z; exact absurd z.1 q2; exact z.2⟩)]
    exact h
theorem c_74l {kc : it_Kc} {B : Nat} {F : Nat → Int32} {s : Int32} {k A : Nat} (hk : k ≠ 13) (hk2 : k ≠ 2) (hA : 65536 ≤ A ∧ A % 4 = 0 ∧ A + hsz F A ≤ 126976) (h0 : sE F A 10 ≠ 0) : ∀ (n A' : Nat) (m : it_Me), n ≤ 3840 → 65536 ≤ A' → A' ≤ 126976 → A' % 4 = 0 → 126976 ≤ A' + 16 * n → FlC F m → Inv B m → m k 1 = nI A → m k 7 = vrF F A → m k 10 = sE F A 10 → m k 11 = sE F A 11 → ∃ m', (∀ c, c ≠ 13 → m' c = m c) ∧ ∀ (Φ : Int32 → it_Me → Prop) (K94 K102 : it_Me → Prop), ((∃ x, x ∈ csL F s n A' ∧ sN F x A ∧ bfP F x A) → K94 m') → ((¬ ∃ x, x ∈ csL F s n A' ∧ sN F x A ∧ bfP F x A) → K102 m') → w_74_15 kc Φ K94 K102 (n + 1) k s (nI A') (nI (3840 - n)) m := by
  intro n
  induction n with
  | zero =>
    intro A' m hn h1 h2 h4 h3 hF hI v1 v7 v10 v11
    refine ⟨m, fun _ _ => rfl, fun Φ K94 K102 y1 y0 => ?_⟩
    unfold w_74_15
    exact ⟨fun _ => y0 (fun ⟨x, hx, _⟩ => by rw [csL] at hx; exact absurd hx List.not_mem_nil), fun q => absurd ((nLe (a := 3840) (by omega) (by omega)).2 (by omega)) q⟩
  | succ n ih =>
    intro A' m hn h1 h2 h4 h3 hF hI v1 v7 v10 v11
    have lt : ¬ (3840 : Int32) ≤ nI (3840 - (n + 1)) := fun q => absurd ((nLe (a := 3840) (by omega) (by omega)).1 q) (by omega)
    obtain ⟨m1, a1, a2, a3⟩ := c_1 (kc := kc) hF (k := 13) (by omega) ⟨h1, h2⟩
    by_cases fr : frP F A'
    · obtain ⟨f1, f2, f3, f4, f5, f6, f7, f8⟩ := frF fr h1
      have e1 := a3 fr
      have F1 : FlC F m1 := hF.cg (a2 2 (by omega))
      have w1 : m1 13 1 = nI A' := by rw [e1]; unfold frC; rw [sv_n2 _ _ _ _ (by omega), sv_n2 _ _ _ _ (by omega), sv_same]
      have w2 : m1 13 2 = Hh F (A' + 2) := by rw [e1]; unfold frC; rw [sv_n2 _ _ _ _ (by omega), sv_same]
      have w3 : m1 13 3 = Gf F (A' + 4) := by rw [e1]; unfold frC; rw [sv_same]
      obtain ⟨m2, b1, b2, b3, b4⟩ := c_2 (kc := kc) F1 (k := 13) (by omega) h1 h4 fr w1 w2 w3
      have fr2 : ∀ c, c ≠ 13 → m2 c = m c := fun c hc => by rw [b2 c hc, a2 c hc]
      have F2 : FlC F m2 := F1.cg (b2 2 (by omega))
      have I2 : Inv B m2 := hI.c13 fr2
      have ck : m2 k = m k := fr2 k hk
      obtain ⟨m', c1, c2⟩ := ih (A' + tsz F A') m2 (by omega) (by omega) (by omega) (by omega) (by omega) F2 I2 (by rw [ck]; exact v1) (by rw [ck]; exact v7) (by rw [ck]; exact v10) (by rw [ck]; exact v11)
      have nx : nI A' + m1 13 3 = nI (A' + tsz F A') := by rw [w3, f2]; exact nI_add _ _
      have nv : nI (3840 - (n + 1)) + 1 = nI (3840 - n) := by rw [nI_s1]; congr 1; omega
      -- the app at A' doesn't outdo: the others decide
      have skip : ¬ (cand F s A' ∧ sN F A' A ∧ bfP F A' A) → ∀ (Φ : Int32 → it_Me → Prop) (K94 K102 : it_Me → Prop), ((∃ x, x ∈ csL F s (n + 1) A' ∧ sN F x A ∧ bfP F x A) → K94 m') → ((¬ ∃ x, x ∈ csL F s (n + 1) A' ∧ sN F x A ∧ bfP F x A) → K102 m') → w_74_96 kc Φ (w_74_15 kc Φ K94 K102 (n + 1)) K94 K102 k s (nI (A' + tsz F A')) (nI (3840 - (n + 1))) m2 := fun no Φ K94 K102 y1 y0 => by
        have eq : (∃ x, x ∈ csL F s (n + 1) A' ∧ sN F x A ∧ bfP F x A) ↔ ∃ x, x ∈ csL F s n (A' + tsz F A') ∧ sN F x A ∧ bfP F x A := by
          rw [csL, if_pos fr]
          by_cases cd : cand F s A'
          · rw [if_pos cd]
            constructor
            · rintro ⟨x, hx, hp⟩
              rcases List.mem_cons.mp hx with e | e
              · subst e; exact absurd ⟨cd, hp⟩ no
              · exact ⟨x, e, hp⟩
            · rintro ⟨x, hx, hp⟩
              exact ⟨x, List.mem_cons_of_mem _ hx, hp⟩
          · rw [if_neg cd]
        unfold w_74_96
        rw [nv]
        exact c2 Φ K94 K102 (fun y => y1 (eq.2 y)) (fun y => y0 (fun z => y (eq.1 z)))
      have body : ∀ {K94 K102 : it_Me → Prop} {X : Int32 → it_Me → Prop}, (X (bI (rsP F A')) m2) → w_2 kc 13 m1 X := fun h => b1 _ h
      by_cases rs : rsP F A'
      · have hd := b4 rs
        have z5 : m2 13 5 = rmF F A' := hd.1.2.1
        have z6 : m2 13 6 = beF F A' := hd.1.2.2.1
        have z7 : m2 13 7 = vrF F A' := hd.1.2.2.2
        have go : ∀ (m'' : it_Me) (Φ : Int32 → it_Me → Prop) (K94 K102 : it_Me → Prop), w_7 kc 13 (m2 k 10) (m2 k 11) m2 (fun r5 m6 => (r5 = 0 → w_74_96 kc Φ (w_74_15 kc Φ K94 K102 (n + 1)) K94 K102 k s (nI (A' + tsz F A')) (nI (3840 - (n + 1))) m6) ∧ (¬ r5 = 0 → w_8 kc 13 k m6 (fun r7 m8 => (r7 = 0 → w_74_96 kc Φ (w_74_15 kc Φ K94 K102 (n + 1)) K94 K102 k s (nI (A' + tsz F A')) (nI (3840 - (n + 1))) m8) ∧ (¬ r7 = 0 → w_6 kc 13 s m8 (fun r9 m10 => (r9 = 0 → w_74_96 kc Φ (w_74_15 kc Φ K94 K102 (n + 1)) K94 K102 k s (nI (A' + tsz F A')) (nI (3840 - (n + 1))) m10) ∧ (¬ r9 = 0 → K94 m10)))))) → w_74_15 kc Φ K94 K102 (n + 1 + 1) k s (nI A') (nI (3840 - (n + 1))) m := fun _ Φ K94 K102 h => by
          rw [w_74_15]
          refine ⟨fun q => absurd q lt, fun _ => a1 _ ?_⟩
          rw [bI_t fr]
          refine ⟨fun q => absurd q (by decide), fun _ => b1 _ ?_⟩
          rw [bI_t rs, nx]
          exact ⟨fun q => absurd q (by decide), fun _ => h⟩
        have g7 : ∀ {Ψ : Int32 → it_Me → Prop}, Ψ (bI (sN F A' A)) m2 → w_7 kc 13 (m2 k 10) (m2 k 11) m2 Ψ := fun h => c_7n F2 hA ⟨h1, h4, by omega⟩ hd.2 (by rw [ck]; exact v10) (by rw [ck, v10]; exact h0) (by rw [ck]; exact v11) h
        have g8 : ∀ {Ψ : Int32 → it_Me → Prop}, Ψ (bI (bfP F A' A)) m2 → w_8 kc 13 k m2 Ψ := fun h => c_8 (by omega) (by omega) b3.1 z7 (by rw [ck]; exact v1) (by rw [ck]; exact v7) h
        have g6 : ∀ {Ψ : Int32 → it_Me → Prop}, Ψ (bI (mlP F A' s (rmF F A') (beF F A'))) m2 → w_6 kc 13 s m2 Ψ := fun h => c_6 I2 F2 h1 fr b3.1 b3.2.1 b3.2.2 (by rw [z5, z6]; exact h)
        by_cases sn : sN F A' A
        · by_cases bf : bfP F A' A
          · by_cases ml : mlP F A' s (rmF F A') (beF F A')
            · refine ⟨m2, fr2, fun Φ K94 K102 y1 y0 => go m2 Φ K94 K102 (g7 ?_)⟩
              rw [bI_t sn]
              refine ⟨fun q => absurd q (by decide), fun _ => g8 ?_⟩
              rw [bI_t bf]
              refine ⟨fun q => absurd q (by decide), fun _ => g6 ?_⟩
              rw [bI_t ml]
              refine ⟨fun q => absurd q (by decide), fun _ => y1 ⟨A', ?_, sn, bf⟩⟩
              rw [csL, if_pos fr, if_pos ⟨rs, ml⟩]
              exact List.mem_cons_self
            · refine ⟨m', fun c hc => by rw [c1 c hc]; exact fr2 c hc, fun Φ K94 K102 y1 y0 => go m2 Φ K94 K102 (g7 ?_)⟩
              rw [bI_t sn]
              refine ⟨fun q => absurd q (by decide), fun _ => g8 ?_⟩
              rw [bI_t bf]
              refine ⟨fun q => absurd q (by decide), fun _ => g6 ?_⟩
              rw [bI_f ml]
              exact ⟨fun _ => skip (fun y => ml y.1.2) Φ K94 K102 y1 y0, fun q => absurd rfl q⟩
          · refine ⟨m', fun c hc => by rw [c1 c hc]; exact fr2 c hc, fun Φ K94 K102 y1 y0 => go m2 Φ K94 K102 (g7 ?_)⟩
            rw [bI_t sn]
            refine ⟨fun q => absurd q (by decide), fun _ => g8 ?_⟩
            rw [bI_f bf]
            exact ⟨fun _ => skip (fun y => bf y.2.2) Φ K94 K102 y1 y0, fun q => absurd rfl q⟩
        · refine ⟨m', fun c hc => by rw [c1 c hc]; exact fr2 c hc, fun Φ K94 K102 y1 y0 => go m2 Φ K94 K102 (g7 ?_)⟩
          rw [bI_f sn]
          exact ⟨fun _ => skip (fun y => sn y.2.1) Φ K94 K102 y1 y0, fun q => absurd rfl q⟩
      · refine ⟨m', fun c hc => by rw [c1 c hc]; exact fr2 c hc, fun Φ K94 K102 y1 y0 => ?_⟩
        rw [w_74_15]
        refine ⟨fun q => absurd q lt, fun _ => a1 _ ?_⟩
        rw [bI_t fr]
        refine ⟨fun q => absurd q (by decide), fun _ => b1 _ ?_⟩
        rw [bI_f rs, nx]
        exact ⟨fun _ => skip (fun y => rs y.1.1) Φ K94 K102 y1 y0, fun q => absurd rfl q⟩
    · refine ⟨m1, a2, fun Φ K94 K102 y1 y0 => ?_⟩
      rw [w_74_15]
      refine ⟨fun q => absurd q lt, fun _ => a1 _ ?_⟩
      rw [bI_f fr]
      refine ⟨fun _ => y0 (fun ⟨x, hx, _⟩ => ?_), fun q => absurd rfl q⟩
      rw [csL, if_neg fr] at hx
      exact absurd hx List.not_mem_nil
