/-! The store: the walk over the records, scan, find. -/
def Wk (m : it_Me) (b : Nat) : Nat → List Nat → Prop
  | A, [] => ∀ s, ¬ rcP m b A s
  | A, s :: ss => rcP m b A s ∧ Wk m b (A + s) ss
def wEnd : Nat → List Nat → Nat
  | A, [] => A
  | A, s :: ss => wEnd (A + s) ss
def pls : Nat → List Nat → List Nat
  | _, [] => []
  | A, s :: ss => A :: pls (A + s) ss
theorem pls_len : ∀ (ss : List Nat) (A : Nat), (pls A ss).length = ss.length := by
  intro ss
  induction ss with
  | nil => intro A; rfl
  | cons s ss ih => intro A; simp only [pls, List.length_cons, ih]
theorem rc_sz {m : it_Me} {b A s : Nat} (h : rcP m b A s) : 16 ≤ s ∧ s ≤ 48 ∧ s % 4 = 0 := by
  have := szR_le h.2.2.1
  rw [← h.2.2.2.1] at this
  exact this
theorem rc_un {m : it_Me} {b A s t : Nat} (h : rcP m b A s) (g : rcP m b A t) : s = t := by rw [h.2.2.2.1, g.2.2.2.1]
theorem Wk_ex (m : it_Me) (b : Nat) : ∀ (n A : Nat), b + 2048 - A ≤ n → A ≤ b + 2048 → ∃ ss, Wk m b A ss ∧ 16 * ss.length ≤ b + 2048 - A := by
  intro n
  induction n with
  | zero =>
    intro A h1 h2
    exact ⟨[], fun s p => absurd p.1 (by omega), by simp⟩
  | succ n ih =>
    intro A h1 h2
    by_cases q : ∃ s, rcP m b A s
    · obtain ⟨s, p⟩ := q
      have z := rc_sz p
      have e := p.2.2.2.2.1
      obtain ⟨ss, a1, a2⟩ := ih (A + s) (by omega) (by omega)
      exact ⟨s :: ss, ⟨p, a1⟩, by simp only [List.length_cons]; omega⟩
    · exact ⟨[], fun s p => q ⟨s, p⟩, by simp⟩
theorem gw_c2 {m m' : it_Me} (h : m' 2 = m 2) (a : Int32) : gw m' a = gw m a := by unfold gw; rw [h]
theorem xw_c2 {m m' : it_Me} (h : ∀ a, gw m' a = gw m a) (A : Nat) : ∀ r k c, xw m' A r k c = xw m A r k c := by
  intro r
  induction r with
  | zero => intro k c; rfl
  | succ r ih => intro k c; simp only [xw, h, ih]
theorem rc_c2 {m m' : it_Me} (h : m' 2 = m 2) (b A s : Nat) : rcP m' b A s ↔ rcP m b A s := by
  unfold rcP
  rw [gw_c2 h, gw_c2 h, gw_c2 h, xw_c2 (gw_c2 h)]
theorem Wk_c2 {m m' : it_Me} (h : m' 2 = m 2) (b : Nat) : ∀ (ss : List Nat) (A : Nat), Wk m b A ss → Wk m' b A ss := by
  intro ss
  induction ss with
  | nil => intro A g s p; exact g s ((rc_c2 h b A s).1 p)
  | cons s ss ih => intro A g; exact ⟨(rc_c2 h b A s).2 g.1, ih _ g.2⟩
theorem Wk_end {m : it_Me} {b : Nat} (hb4 : b % 4 = 0) : ∀ (ss : List Nat) (A : Nat), Wk m b A ss → A ≤ b + 2048 → A % 4 = 0 → A + 16 * ss.length ≤ wEnd A ss ∧ wEnd A ss ≤ b + 2048 ∧ wEnd A ss % 4 = 0 := by
  intro ss
  induction ss with
  | nil => intro A _ h h4; exact ⟨by simp [wEnd], h, h4⟩
  | cons s ss ih =>
    intro A g h h4
    have z := rc_sz g.1
    have := ih (A + s) g.2 g.1.2.2.2.2.1 (by omega)
    simp only [wEnd, List.length_cons]
    omega
theorem pls_in {m : it_Me} {b : Nat} : ∀ (ss : List Nat) (A : Nat), Wk m b A ss → A % 4 = 0 → ∀ x, x ∈ pls A ss → A ≤ x ∧ x % 4 = 0 ∧ ∃ s, rcP m b x s := by
  intro ss
  induction ss with
  | nil => intro A _ _ x hx; cases hx
  | cons s ss ih =>
    intro A g h4 x hx
    have z := rc_sz g.1
    rcases List.mem_cons.mp hx with e | e
    · subst e; exact ⟨Nat.le_refl _, h4, s, g.1⟩
    · have := ih (A + s) g.2 (by omega) x e
      exact ⟨by omega, this.2⟩
/-- scan -/
def Sc (m m' : it_Me) (A : Nat) (ss : List Nat) : Prop := m' 7 7 = nI (wEnd A ss) ∧ m' 7 6 = nI ss.length ∧ (∀ j, j < ss.length → m' 8 j = nI ((pls A ss).getD j 0)) ∧ (∀ c, c ≠ 7 → c ≠ 8 → m' c = m c) ∧ ∀ j, j ≠ 6 → j ≠ 7 → m' 7 j = m 7 j
theorem scL {kc : it_Kc} {b : Nat} (hB : b + 2048 ≤ 131072) : ∀ (ss : List Nat) (k A : Nat) (m : it_Me), m 7 2 = nI b → m 7 7 = nI A → m 7 6 = nI k → A ≤ b + 2048 → Wk m b A ss → k + ss.length < 128 → ∃ m', (∀ (Φ K47 K81 : it_Me → Prop), K47 m' → w_163_25 kc Φ K47 K81 (ss.length + 1) (nI k) m) ∧ m' 7 7 = nI (wEnd A ss) ∧ m' 7 6 = nI (k + ss.length) ∧ (∀ j, j < k → m' 8 j = m 8 j) ∧ (∀ j, j < ss.length → m' 8 (k + j) = nI ((pls A ss).getD j 0)) ∧ (∀ c, c ≠ 7 → c ≠ 8 → m' c = m c) ∧ ∀ j, j ≠ 6 → j ≠ 7 → m' 7 j = m 7 j := by
  intro ss
  induction ss with
  | nil =>
    intro k A m h2 h7 h6 hA hW hk
    refine ⟨m, fun Φ K47 K81 h => ?_, h7, h6, fun _ _ => rfl, fun j hj => absurd hj (Nat.not_lt_zero j), fun _ _ _ => rfl, fun _ _ _ => rfl⟩
    simp only [List.length_nil] at hk
    unfold w_163_25
    rw [show (128 : Int32) = nI 128 from rfl, nLe (by omega) (by omega), h7]
    exact ⟨fun q => absurd q (by omega), fun _ => c_164 h2 (by omega) hA (fun s p => absurd p (hW s)) (fun _ => ⟨fun _ => h, fun q => absurd rfl q⟩)⟩
  | cons s ss ih =>
    intro k A m h2 h7 h6 hA hW hk
    simp only [List.length_cons] at hk
    have z := rc_sz hW.1
    have e := hW.1.2.2.2.2.1
    have st7 : ∀ j, j ≠ 6 → j ≠ 7 → it_sv (it_sv (it_sv m 8 k (nI A)) 7 6 (nI (k + 1))) 7 7 (nI (A + s)) 7 j = m 7 j := fun j a1 a2 => by rw [sv_ne _ _ _ _ (by omega), sv_ne _ _ _ _ (by omega), sv_ne _ _ _ _ (by omega)]
    have stc : ∀ c, c ≠ 7 → c ≠ 8 → it_sv (it_sv (it_sv m 8 k (nI A)) 7 6 (nI (k + 1))) 7 7 (nI (A + s)) c = m c := fun c a1 a2 => by rw [sv_cell _ _ _ _ (by omega), sv_cell _ _ _ _ (by omega), sv_cell _ _ _ _ (by omega)]
    have st8 : ∀ j, it_sv (it_sv (it_sv m 8 k (nI A)) 7 6 (nI (k + 1))) 7 7 (nI (A + s)) 8 j = if j = k then nI A else m 8 j := fun j => by
      rw [sv_ne _ _ _ _ (by omega), sv_ne _ _ _ _ (by omega), sv_rd]
      simp only [true_and]
    obtain ⟨m', a1, a2, a3, a4, a5, a6, a7⟩ := ih (k + 1) (A + s) (it_sv (it_sv (it_sv m 8 k (nI A)) 7 6 (nI (k + 1))) 7 7 (nI (A + s))) (by rw [st7 2 (by omega) (by omega)]; exact h2) (sv_same _ _ _ _) (by rw [sv_ne _ _ _ _ (by omega), sv_same]) e (Wk_c2 (stc 2 (by omega) (by omega)) b ss _ hW.2) (by omega)
    refine ⟨m', fun Φ K47 K81 h => ?_, a2, by rw [a3]; simp only [List.length_cons]; congr 1; omega, fun j hj => ?_, fun j hj => ?_, fun c c1 c2 => (a6 c c1 c2).trans (stc c c1 c2), fun j c1 c2 => (a7 j c1 c2).trans (st7 j c1 c2)⟩
    · simp only [List.length_cons]
      unfold w_163_25
      rw [show (128 : Int32) = nI 128 from rfl, nLe (by omega) (by omega), h7]
      refine ⟨fun q => absurd q (by omega), fun _ => c_164 h2 (by omega) hA (fun t p => ⟨fun q => ?_, fun _ => ⟨?_, ?_⟩⟩) (fun q => absurd hW.1 (q s))⟩
      · have y := rc_un hW.1 p
        rw [← y, show (0 : Int32) = nI 0 from rfl, nEq (by omega) (by omega)] at q
        omega
      · rw [vp_in_iff, nI_toInt (by omega)]; omega
      · rw [← rc_un hW.1 p, nI_clamp (by omega), nI_1, h7, sv_ne _ _ _ _ (by omega), sv_ne _ _ _ _ (by omega), h7, nI_add]
        exact a1 Φ K47 K81 h
    · rw [a4 j (by omega), st8, if_neg (by omega)]
    · cases j with
      | zero =>
        rw [Nat.add_zero, a4 k (by omega), st8, if_pos rfl]
        simp [pls]
      | succ j =>
        simp only [List.length_cons] at hj
        have := a5 j (by omega)
        rw [show k + 1 + j = k + (j + 1) by omega] at this
        rw [this]
        simp [pls]
theorem c_163 {kc : it_Kc} {m : it_Me} {b : Nat} {ss : List Nat} (hb : m 7 2 = nI b) (hB : 126976 ≤ b ∧ b + 2048 ≤ 131072) (hW : Wk m b (b + 4) ss) (hl : ss.length < 128) : ∃ m', (∀ Φ : it_Me → Prop, Φ m' → w_163 kc m Φ) ∧ Sc m m' (b + 4) ss := by
  have e2 : it_sv m 7 6 0 7 2 = m 7 2 := sv_ne _ _ _ _ (by omega)
  have e2' : it_sv (it_sv m 7 6 0) 7 7 (nI (b + 4)) 7 2 = nI b := by rw [sv_ne _ _ _ _ (by omega), e2, hb]
  obtain ⟨m', a1, a2, a3, a4, a5, a6, a7⟩ := scL (kc := kc) (b := b) (by omega) ss 0 (b + 4) (it_sv (it_sv m 7 6 0) 7 7 (nI (b + 4))) e2' (sv_same _ _ _ _) (by rw [sv_ne _ _ _ _ (by omega), sv_same]; rfl) (by omega) (Wk_c2 (by rw [sv_cell _ _ _ _ (by omega), sv_cell _ _ _ _ (by omega)]) b ss _ hW) (by omega)
  refine ⟨m', fun Φ h => ?_, a2, by rw [a3, Nat.zero_add], fun j hj => ?_, fun c c1 c2 => ?_, fun j c1 c2 => ?_⟩
  · unfold w_163 w_163_47
    rw [e2, hb, n_4, e2']
    refine ⟨fun q => ?_, fun _ => ⟨_, a1 Φ _ _ h⟩⟩
    rw [show (0 : Int32) = nI 0 from rfl, nEq (by omega) (by omega)] at q
    omega
  · have := a5 j hj
    rw [Nat.zero_add] at this
    exact this
  · rw [a6 c c1 c2, sv_cell _ _ _ _ (by omega), sv_cell _ _ _ _ (by omega)]
  · rw [a7 j c1 c2, sv_ne _ _ _ _ (by omega), sv_ne _ _ _ _ (by omega)]
theorem Sc.I {B : Nat} {m m' : it_Me} {A : Nat} {ss : List Nat} (h : Sc m m' A ss) (hI : Inv B m) : Inv B m' := by
  have h2 := h.2.2.2.2 2 (by omega) (by omega)
  have h3 := h.2.2.2.2 3 (by omega) (by omega)
  have hm : ∀ k, (k ≠ 7 ∧ k ≠ 8) → m' k = m k := fun k q => h.2.2.2.1 k q.1 q.2
  exact (Inv.upd (hI) (Nat.le_refl B) ([7, 8]) (fun k hk => by simp only [List.mem_cons, List.not_mem_nil, or_false, not_or] at hk; exact hm k hk) (by first | (refine Or.inl (And.intro ?_ ?_) <;> first | (simp only [List.mem_cons, List.not_mem_nil, or_false, forall_eq_or_imp, forall_eq, false_implies, implies_true, and_true] <;> omega) | (repeat' (first | exact True.intro | rfl | refine And.intro ?_ ?_ | (rw [sv_ne _ _ _ _ (by omega)]) | (rw [up_cell _ _ _ (by omega)]) | (rw [fil_cell _ _ _ _ _ (by omega)]) | (rw [hM _ (by omega)]) | (rw [hm _ (by omega)])))) | (have t_ := Inv.tl (hI); exact Or.inr t_)) (by first | (refine Or.inl (And.intro ?_ ?_) <;> first | (simp only [List.mem_cons, List.not_mem_nil, or_false, forall_eq_or_imp, forall_eq, false_implies, implies_true, and_true] <;> omega) | (repeat' (first | exact True.intro | rfl | refine And.intro ?_ ?_ | (rw [sv_ne _ _ _ _ (by omega)]) | (rw [up_cell _ _ _ (by omega)]) | (rw [fil_cell _ _ _ _ _ (by omega)]) | (rw [hM _ (by omega)]) | (rw [hm _ (by omega)])))) | (have t_ := Inv.tp (hI); exact Or.inr t_)) (by first | (refine Or.inl (And.intro ?_ ?_) <;> first | (simp only [List.mem_cons, List.not_mem_nil, or_false, forall_eq_or_imp, forall_eq, false_implies, implies_true, and_true] <;> omega) | (repeat' (first | exact True.intro | rfl | refine And.intro ?_ ?_ | (rw [sv_ne _ _ _ _ (by omega)]) | (rw [up_cell _ _ _ (by omega)]) | (rw [fil_cell _ _ _ _ _ (by omega)]) | (rw [hM _ (by omega)]) | (rw [hm _ (by omega)])))) | (have t_ := Inv.on (hI); exact Or.inr t_)) (by first | (refine Or.inl (And.intro ?_ ?_) <;> first | (simp only [List.mem_cons, List.not_mem_nil, or_false, forall_eq_or_imp, forall_eq, false_implies, implies_true, and_true] <;> omega) | (repeat' (first | exact True.intro | rfl | refine And.intro ?_ ?_ | (rw [sv_ne _ _ _ _ (by omega)]) | (rw [up_cell _ _ _ (by omega)]) | (rw [fil_cell _ _ _ _ _ (by omega)]) | (rw [hM _ (by omega)]) | (rw [hm _ (by omega)])))) | (have t_ := Inv.off (hI); exact Or.inr t_)) (by first | (refine Or.inl (And.intro ?_ ?_) <;> first | (simp only [List.mem_cons, List.not_mem_nil, or_false, forall_eq_or_imp, forall_eq, false_implies, implies_true, and_true] <;> omega) | (repeat' (first | exact True.intro | rfl | refine And.intro ?_ ?_ | (rw [sv_ne _ _ _ _ (by omega)]) | (rw [up_cell _ _ _ (by omega)]) | (rw [fil_cell _ _ _ _ _ (by omega)]) | (rw [hM _ (by omega)]) | (rw [hm _ (by omega)])))) | (have t_ := Inv.cn (hI); exact Or.inr t_)) (by first | (refine Or.inl (And.intro ?_ ?_) <;> first | (simp only [List.mem_cons, List.not_mem_nil, or_false, forall_eq_or_imp, forall_eq, false_implies, implies_true, and_true] <;> omega) | (repeat' (first | exact True.intro | rfl | refine And.intro ?_ ?_ | (rw [sv_ne _ _ _ _ (by omega)]) | (rw [up_cell _ _ _ (by omega)]) | (rw [fil_cell _ _ _ _ _ (by omega)]) | (rw [hM _ (by omega)]) | (rw [hm _ (by omega)])))) | (have t_ := Inv.ev (hI); exact Or.inr t_)) (by first | (refine Or.inl (And.intro ?_ ?_) <;> first | (simp only [List.mem_cons, List.not_mem_nil, or_false, forall_eq_or_imp, forall_eq, false_implies, implies_true, and_true] <;> omega) | (repeat' (first | exact True.intro | rfl | refine And.intro ?_ ?_ | (rw [sv_ne _ _ _ _ (by omega)]) | (rw [up_cell _ _ _ (by omega)]) | (rw [fil_cell _ _ _ _ _ (by omega)]) | (rw [hM _ (by omega)]) | (rw [hm _ (by omega)])))) | (have t_ := Inv.out (hI); exact Or.inr t_)) (by first | (refine Or.inl (And.intro ?_ ?_) <;> first | (simp only [List.mem_cons, List.not_mem_nil, or_false, forall_eq_or_imp, forall_eq, false_implies, implies_true, and_true] <;> omega) | (repeat' (first | exact True.intro | rfl | refine And.intro ?_ ?_ | (rw [sv_ne _ _ _ _ (by omega)]) | (rw [up_cell _ _ _ (by omega)]) | (rw [fil_cell _ _ _ _ _ (by omega)]) | (rw [hM _ (by omega)]) | (rw [hm _ (by omega)])))) | (have t_ := Inv.num (hI); exact Or.inr t_)) (by first | (refine Or.inl (And.intro ?_ ?_) <;> first | (simp only [List.mem_cons, List.not_mem_nil, or_false, forall_eq_or_imp, forall_eq, false_implies, implies_true, and_true] <;> omega) | (repeat' (first | exact True.intro | rfl | refine And.intro ?_ ?_ | (rw [sv_ne _ _ _ _ (by omega)]) | (rw [up_cell _ _ _ (by omega)]) | (rw [fil_cell _ _ _ _ _ (by omega)]) | (rw [hM _ (by omega)]) | (rw [hm _ (by omega)])))) | (have t_ := Inv.crc (hI); exact Or.inr t_)) (Or.inr (by rw [h2]; exact hI.bk)) (Or.inr (by rw [h2, hm 0 (by omega)]; exact hI.bk1)) (Or.inr (by rw [h3]; exact hI.pw)) (by first | (refine Or.inl (And.intro ?_ ?_) <;> first | (simp only [List.mem_cons, List.not_mem_nil, or_false, forall_eq_or_imp, forall_eq, false_implies, implies_true, and_true] <;> omega) | (repeat' (first | exact True.intro | rfl | refine And.intro ?_ ?_ | (rw [sv_ne _ _ _ _ (by omega)]) | (rw [up_cell _ _ _ (by omega)]) | (rw [fil_cell _ _ _ _ _ (by omega)]) | (rw [hM _ (by omega)]) | (rw [hm _ (by omega)])))) | (have t_ := Inv.kd (hI); exact Or.inr t_)) (by first | (refine Or.inl (And.intro ?_ ?_) <;> first | (simp only [List.mem_cons, List.not_mem_nil, or_false, forall_eq_or_imp, forall_eq, false_implies, implies_true, and_true] <;> omega) | (repeat' (first | exact True.intro | rfl | refine And.intro ?_ ?_ | (rw [sv_ne _ _ _ _ (by omega)]) | (rw [up_cell _ _ _ (by omega)]) | (rw [fil_cell _ _ _ _ _ (by omega)]) | (rw [hM _ (by omega)]) | (rw [hm _ (by omega)])))) | (have t_ := Inv.tn (hI); exact Or.inr t_)) (by first | (refine Or.inl (And.intro ?_ ?_) <;> first | (simp only [List.mem_cons, List.not_mem_nil, or_false, forall_eq_or_imp, forall_eq, false_implies, implies_true, and_true] <;> omega) | (repeat' (first | exact True.intro | rfl | refine And.intro ?_ ?_ | (rw [sv_ne _ _ _ _ (by omega)]) | (rw [up_cell _ _ _ (by omega)]) | (rw [fil_cell _ _ _ _ _ (by omega)]) | (rw [hM _ (by omega)]) | (rw [hm _ (by omega)])))) | (have t_ := Inv.ask (hI); exact Or.inr t_)) (by first | (refine Or.inl (And.intro ?_ ?_) <;> first | (simp only [List.mem_cons, List.not_mem_nil, or_false, forall_eq_or_imp, forall_eq, false_implies, implies_true, and_true] <;> omega) | (repeat' (first | exact True.intro | rfl | refine And.intro ?_ ?_ | (rw [sv_ne _ _ _ _ (by omega)]) | (rw [up_cell _ _ _ (by omega)]) | (rw [fil_cell _ _ _ _ _ (by omega)]) | (rw [hM _ (by omega)]) | (rw [hm _ (by omega)])))) | (have t_ := Inv.askW (hI); exact Or.inr t_)) (by first | (refine Or.inl (And.intro ?_ ?_) <;> first | (simp only [List.mem_cons, List.not_mem_nil, or_false, forall_eq_or_imp, forall_eq, false_implies, implies_true, and_true] <;> omega) | (repeat' (first | exact True.intro | rfl | refine And.intro ?_ ?_ | (rw [sv_ne _ _ _ _ (by omega)]) | (rw [up_cell _ _ _ (by omega)]) | (rw [fil_cell _ _ _ _ _ (by omega)]) | (rw [hM _ (by omega)]) | (rw [hm _ (by omega)])))) | (have t_ := Inv.askR (hI); exact Or.inr t_)) (by first | (refine Or.inl (And.intro ?_ ?_) <;> first | (simp only [List.mem_cons, List.not_mem_nil, or_false, forall_eq_or_imp, forall_eq, false_implies, implies_true, and_true] <;> omega) | (repeat' (first | exact True.intro | rfl | refine And.intro ?_ ?_ | (rw [sv_ne _ _ _ _ (by omega)]) | (rw [up_cell _ _ _ (by omega)]) | (rw [fil_cell _ _ _ _ _ (by omega)]) | (rw [hM _ (by omega)]) | (rw [hm _ (by omega)])))) | (have t_ := Inv.lv0 (hI); exact Or.inr t_)) (by first | (refine Or.inl (And.intro ?_ ?_) <;> first | (simp only [List.mem_cons, List.not_mem_nil, or_false, forall_eq_or_imp, forall_eq, false_implies, implies_true, and_true] <;> omega) | (repeat' (first | exact True.intro | rfl | refine And.intro ?_ ?_ | (rw [sv_ne _ _ _ _ (by omega)]) | (rw [up_cell _ _ _ (by omega)]) | (rw [fil_cell _ _ _ _ _ (by omega)]) | (rw [hM _ (by omega)]) | (rw [hm _ (by omega)])))) | (have t_ := Inv.lv2 (hI); exact Or.inr t_)) (by first | (refine Or.inl (And.intro ?_ ?_) <;> first | (simp only [List.mem_cons, List.not_mem_nil, or_false, forall_eq_or_imp, forall_eq, false_implies, implies_true, and_true] <;> omega) | (repeat' (first | exact True.intro | rfl | refine And.intro ?_ ?_ | (rw [sv_ne _ _ _ _ (by omega)]) | (rw [up_cell _ _ _ (by omega)]) | (rw [fil_cell _ _ _ _ _ (by omega)]) | (rw [hM _ (by omega)]) | (rw [hm _ (by omega)])))) | (have t_ := Inv.pl (hI); exact Or.inr t_)) (by first | (refine Or.inl (And.intro ?_ ?_) <;> first | (simp only [List.mem_cons, List.not_mem_nil, or_false, forall_eq_or_imp, forall_eq, false_implies, implies_true, and_true] <;> omega) | (repeat' (first | exact True.intro | rfl | refine And.intro ?_ ?_ | (rw [sv_ne _ _ _ _ (by omega)]) | (rw [up_cell _ _ _ (by omega)]) | (rw [fil_cell _ _ _ _ _ (by omega)]) | (rw [hM _ (by omega)]) | (rw [hm _ (by omega)])))) | (have t_ := Inv.pi (hI); exact Or.inr t_)) (by first | (refine Or.inl (And.intro ?_ ?_) <;> first | (simp only [List.mem_cons, List.not_mem_nil, or_false, forall_eq_or_imp, forall_eq, false_implies, implies_true, and_true] <;> omega) | (repeat' (first | exact True.intro | rfl | refine And.intro ?_ ?_ | (rw [sv_ne _ _ _ _ (by omega)]) | (rw [up_cell _ _ _ (by omega)]) | (rw [fil_cell _ _ _ _ _ (by omega)]) | (rw [hM _ (by omega)]) | (rw [hm _ (by omega)])))) | (have t_ := Inv.dis (hI); exact Or.inr t_)))
theorem Sc.R {B : Nat} {m m' M : it_Me} {A : Nat} {ss : List Nat} (h : Sc m m' A ss) (hI : Inv B m) (hR : Rel m M) : Rel m' M := by
  have h2 := h.2.2.2.2 2 (by omega) (by omega)
  have h3 := h.2.2.2.2 3 (by omega) (by omega)
  have h4 := h.2.2.2.2 4 (by omega) (by omega)
  have hm : ∀ k, (k ≠ 7 ∧ k ≠ 8) → m' k = m k := fun k q => h.2.2.2.1 k q.1 q.2
  exact (Rel.upd (hR) (cnt_le hI) ([7, 8]) ([]) (fun k hk => by simp only [List.mem_cons, List.not_mem_nil, or_false, not_or] at hk; exact hm k hk) (fun _ _ => rfl) (by first | (refine Or.inl (And.intro ?_ (And.intro ?_ ?_)) <;> first | (simp only [List.mem_cons, List.not_mem_nil, or_false, forall_eq_or_imp, forall_eq, false_implies, implies_true, and_true] <;> omega) | (repeat' (first | exact True.intro | rfl | refine And.intro ?_ ?_ | (rw [sv_ne _ _ _ _ (by omega)]) | (rw [up_cell _ _ _ (by omega)]) | (rw [fil_cell _ _ _ _ _ (by omega)]) | (rw [hM _ (by omega)]) | (rw [hm _ (by omega)])))) | (have t_ := Rel.tapeLen (hR); exact Or.inr t_)) (by first | (refine Or.inl (And.intro ?_ (And.intro ?_ ?_)) <;> first | (simp only [List.mem_cons, List.not_mem_nil, or_false, forall_eq_or_imp, forall_eq, false_implies, implies_true, and_true] <;> omega) | (repeat' (first | exact True.intro | rfl | refine And.intro ?_ ?_ | (rw [sv_ne _ _ _ _ (by omega)]) | (rw [up_cell _ _ _ (by omega)]) | (rw [fil_cell _ _ _ _ _ (by omega)]) | (rw [hM _ (by omega)]) | (rw [hm _ (by omega)])))) | (have t_ := Rel.on (hR); exact Or.inr t_)) (Or.inr (by rw [h4]; exact hR.lost)) (Or.inr (by rw [h3]; exact hR.power)) (by first | (refine Or.inl (And.intro ?_ (And.intro ?_ ?_)) <;> first | (simp only [List.mem_cons, List.not_mem_nil, or_false, forall_eq_or_imp, forall_eq, false_implies, implies_true, and_true] <;> omega) | (repeat' (first | exact True.intro | rfl | refine And.intro ?_ ?_ | (rw [sv_ne _ _ _ _ (by omega)]) | (rw [up_cell _ _ _ (by omega)]) | (rw [fil_cell _ _ _ _ _ (by omega)]) | (rw [hM _ (by omega)]) | (rw [hm _ (by omega)])))) | (have t_ := Rel.time (hR); exact Or.inr t_)) (by first | (refine Or.inl (And.intro ?_ (And.intro ?_ ?_)) <;> first | (simp only [List.mem_cons, List.not_mem_nil, or_false, forall_eq_or_imp, forall_eq, false_implies, implies_true, and_true] <;> omega) | (repeat' (first | exact True.intro | rfl | refine And.intro ?_ ?_ | (rw [sv_ne _ _ _ _ (by omega)]) | (rw [up_cell _ _ _ (by omega)]) | (rw [fil_cell _ _ _ _ _ (by omega)]) | (rw [hM _ (by omega)]) | (rw [hm _ (by omega)])))) | (have t_ := Rel.z (hR); exact Or.inr t_)) (by first | (refine Or.inl (And.intro ?_ (And.intro ?_ ?_)) <;> first | (simp only [List.mem_cons, List.not_mem_nil, or_false, forall_eq_or_imp, forall_eq, false_implies, implies_true, and_true] <;> omega) | (repeat' (first | exact True.intro | rfl | refine And.intro ?_ ?_ | (rw [sv_ne _ _ _ _ (by omega)]) | (rw [up_cell _ _ _ (by omega)]) | (rw [fil_cell _ _ _ _ _ (by omega)]) | (rw [hM _ (by omega)]) | (rw [hm _ (by omega)])))) | (have t_ := Rel.count (hR); exact Or.inr t_)) (by first | (refine Or.inl (And.intro ?_ (And.intro ?_ ?_)) <;> first | (simp only [List.mem_cons, List.not_mem_nil, or_false, forall_eq_or_imp, forall_eq, false_implies, implies_true, and_true] <;> omega) | (repeat' (first | exact True.intro | rfl | refine And.intro ?_ ?_ | (rw [sv_ne _ _ _ _ (by omega)]) | (rw [up_cell _ _ _ (by omega)]) | (rw [fil_cell _ _ _ _ _ (by omega)]) | (rw [hM _ (by omega)]) | (rw [hm _ (by omega)])))) | (have t_ := Rel.turn (hR); exact Or.inr t_)) (Or.inr (by rw [h2]; exact hR.bank)) (by first | (refine Or.inl (And.intro ?_ (And.intro ?_ ?_)) <;> first | (simp only [List.mem_cons, List.not_mem_nil, or_false, forall_eq_or_imp, forall_eq, false_implies, implies_true, and_true] <;> omega) | (repeat' (first | exact True.intro | rfl | refine And.intro ?_ ?_ | (rw [sv_ne _ _ _ _ (by omega)]) | (rw [up_cell _ _ _ (by omega)]) | (rw [fil_cell _ _ _ _ _ (by omega)]) | (rw [hM _ (by omega)]) | (rw [hm _ (by omega)])))) | (have t_ := Rel.tape (hR); exact Or.inr t_)) (by first | (refine Or.inl (And.intro ?_ (And.intro ?_ ?_)) <;> first | (simp only [List.mem_cons, List.not_mem_nil, or_false, forall_eq_or_imp, forall_eq, false_implies, implies_true, and_true] <;> omega) | (repeat' (first | exact True.intro | rfl | refine And.intro ?_ ?_ | (rw [sv_ne _ _ _ _ (by omega)]) | (rw [up_cell _ _ _ (by omega)]) | (rw [fil_cell _ _ _ _ _ (by omega)]) | (rw [hM _ (by omega)]) | (rw [hm _ (by omega)])))) | (have t_ := Rel.counts (hR); exact Or.inr t_)) (by first | (refine Or.inl (And.intro ?_ (And.intro ?_ ?_)) <;> first | (simp only [List.mem_cons, List.not_mem_nil, or_false, forall_eq_or_imp, forall_eq, false_implies, implies_true, and_true] <;> omega) | (repeat' (first | exact True.intro | rfl | refine And.intro ?_ ?_ | (rw [sv_ne _ _ _ _ (by omega)]) | (rw [up_cell _ _ _ (by omega)]) | (rw [fil_cell _ _ _ _ _ (by omega)]) | (rw [hM _ (by omega)]) | (rw [hm _ (by omega)])))) | (have t_ := Rel.events (hR); exact Or.inr t_)) (by first | (refine Or.inl (And.intro ?_ (And.intro ?_ ?_)) <;> first | (simp only [List.mem_cons, List.not_mem_nil, or_false, forall_eq_or_imp, forall_eq, false_implies, implies_true, and_true] <;> omega) | (repeat' (first | exact True.intro | rfl | refine And.intro ?_ ?_ | (rw [sv_ne _ _ _ _ (by omega)]) | (rw [up_cell _ _ _ (by omega)]) | (rw [fil_cell _ _ _ _ _ (by omega)]) | (rw [hM _ (by omega)]) | (rw [hm _ (by omega)])))) | (have t_ := Rel.out (hR); exact Or.inr t_)) (by first | (refine Or.inl (And.intro ?_ (And.intro ?_ ?_)) <;> first | (simp only [List.mem_cons, List.not_mem_nil, or_false, forall_eq_or_imp, forall_eq, false_implies, implies_true, and_true] <;> omega) | (repeat' (first | exact True.intro | rfl | refine And.intro ?_ ?_ | (rw [sv_ne _ _ _ _ (by omega)]) | (rw [up_cell _ _ _ (by omega)]) | (rw [fil_cell _ _ _ _ _ (by omega)]) | (rw [hM _ (by omega)]) | (rw [hm _ (by omega)])))) | (have t_ := Rel.lamps (hR); exact Or.inr t_)) (by first | (refine Or.inl (And.intro ?_ (And.intro ?_ ?_)) <;> first | (simp only [List.mem_cons, List.not_mem_nil, or_false, forall_eq_or_imp, forall_eq, false_implies, implies_true, and_true] <;> omega) | (repeat' (first | exact True.intro | rfl | refine And.intro ?_ ?_ | (rw [sv_ne _ _ _ _ (by omega)]) | (rw [up_cell _ _ _ (by omega)]) | (rw [fil_cell _ _ _ _ _ (by omega)]) | (rw [hM _ (by omega)]) | (rw [hm _ (by omega)])))) | (have t_ := Rel.buttons (hR); exact Or.inr t_)) (by first | (refine Or.inl (And.intro ?_ (And.intro ?_ ?_)) <;> first | (simp only [List.mem_cons, List.not_mem_nil, or_false, forall_eq_or_imp, forall_eq, false_implies, implies_true, and_true] <;> omega) | (repeat' (first | exact True.intro | rfl | refine And.intro ?_ ?_ | (rw [sv_ne _ _ _ _ (by omega)]) | (rw [up_cell _ _ _ (by omega)]) | (rw [fil_cell _ _ _ _ _ (by omega)]) | (rw [hM _ (by omega)]) | (rw [hm _ (by omega)])))) | (have t_ := Rel.lev (hR); exact Or.inr t_)) (by first | (refine Or.inl (And.intro ?_ (And.intro ?_ ?_)) <;> first | (simp only [List.mem_cons, List.not_mem_nil, or_false, forall_eq_or_imp, forall_eq, false_implies, implies_true, and_true] <;> omega) | (repeat' (first | exact True.intro | rfl | refine And.intro ?_ ?_ | (rw [sv_ne _ _ _ _ (by omega)]) | (rw [up_cell _ _ _ (by omega)]) | (rw [fil_cell _ _ _ _ _ (by omega)]) | (rw [hM _ (by omega)]) | (rw [hm _ (by omega)])))) | (have t_ := Rel.mem (hR); exact Or.inr t_)) (by first | (refine Or.inl (And.intro ?_ (And.intro ?_ ?_)) <;> first | (simp only [List.mem_cons, List.not_mem_nil, or_false, forall_eq_or_imp, forall_eq, false_implies, implies_true, and_true] <;> omega) | (repeat' (first | exact True.intro | rfl | refine And.intro ?_ ?_ | (rw [sv_ne _ _ _ _ (by omega)]) | (rw [up_cell _ _ _ (by omega)]) | (rw [fil_cell _ _ _ _ _ (by omega)]) | (rw [hM _ (by omega)]) | (rw [hm _ (by omega)])))) | (have t_ := Rel.sched (hR); exact Or.inr t_)) (by first | (refine Or.inl (And.intro ?_ (And.intro ?_ ?_)) <;> first | (simp only [List.mem_cons, List.not_mem_nil, or_false, forall_eq_or_imp, forall_eq, false_implies, implies_true, and_true] <;> omega) | (repeat' (first | exact True.intro | rfl | refine And.intro ?_ ?_ | (rw [sv_ne _ _ _ _ (by omega)]) | (rw [up_cell _ _ _ (by omega)]) | (rw [fil_cell _ _ _ _ _ (by omega)]) | (rw [hM _ (by omega)]) | (rw [hm _ (by omega)])))) | (have t_ := Rel.done (hR); exact Or.inr t_)) (by first | (refine Or.inl (And.intro ?_ (And.intro ?_ ?_)) <;> first | (simp only [List.mem_cons, List.not_mem_nil, or_false, forall_eq_or_imp, forall_eq, false_implies, implies_true, and_true] <;> omega) | (repeat' (first | exact True.intro | rfl | refine And.intro ?_ ?_ | (rw [sv_ne _ _ _ _ (by omega)]) | (rw [up_cell _ _ _ (by omega)]) | (rw [fil_cell _ _ _ _ _ (by omega)]) | (rw [hM _ (by omega)]) | (rw [hm _ (by omega)])))) | (have t_ := Rel.levels (hR); exact Or.inr t_)) (by first | (refine Or.inl (And.intro ?_ (And.intro ?_ ?_)) <;> first | (simp only [List.mem_cons, List.not_mem_nil, or_false, forall_eq_or_imp, forall_eq, false_implies, implies_true, and_true] <;> omega) | (repeat' (first | exact True.intro | rfl | refine And.intro ?_ ?_ | (rw [sv_ne _ _ _ _ (by omega)]) | (rw [up_cell _ _ _ (by omega)]) | (rw [fil_cell _ _ _ _ _ (by omega)]) | (rw [hM _ (by omega)]) | (rw [hm _ (by omega)])))) | (have t_ := Rel.places (hR); exact Or.inr t_)) (by first | (refine Or.inl (And.intro ?_ (And.intro ?_ ?_)) <;> first | (simp only [List.mem_cons, List.not_mem_nil, or_false, forall_eq_or_imp, forall_eq, false_implies, implies_true, and_true] <;> omega) | (repeat' (first | exact True.intro | rfl | refine And.intro ?_ ?_ | (rw [sv_ne _ _ _ _ (by omega)]) | (rw [up_cell _ _ _ (by omega)]) | (rw [fil_cell _ _ _ _ _ (by omega)]) | (rw [hM _ (by omega)]) | (rw [hm _ (by omega)])))) | (have t_ := Rel.asked (hR); exact Or.inr t_)) (by first | (refine Or.inl (And.intro ?_ (And.intro ?_ ?_)) <;> first | (simp only [List.mem_cons, List.not_mem_nil, or_false, forall_eq_or_imp, forall_eq, false_implies, implies_true, and_true] <;> omega) | (repeat' (first | exact True.intro | rfl | refine And.intro ?_ ?_ | (rw [sv_ne _ _ _ _ (by omega)]) | (rw [up_cell _ _ _ (by omega)]) | (rw [fil_cell _ _ _ _ _ (by omega)]) | (rw [hM _ (by omega)]) | (rw [hm _ (by omega)])))) | (have t_ := Rel.worder (hR); exact Or.inr t_)) (by first | (refine Or.inl (And.intro ?_ (And.intro ?_ ?_)) <;> first | (simp only [List.mem_cons, List.not_mem_nil, or_false, forall_eq_or_imp, forall_eq, false_implies, implies_true, and_true] <;> omega) | (repeat' (first | exact True.intro | rfl | refine And.intro ?_ ?_ | (rw [sv_ne _ _ _ _ (by omega)]) | (rw [up_cell _ _ _ (by omega)]) | (rw [fil_cell _ _ _ _ _ (by omega)]) | (rw [hM _ (by omega)]) | (rw [hm _ (by omega)])))) | (have t_ := Rel.rorder (hR); exact Or.inr t_)) (by first | (refine Or.inl (And.intro ?_ (And.intro ?_ ?_)) <;> first | (simp only [List.mem_cons, List.not_mem_nil, or_false, forall_eq_or_imp, forall_eq, false_implies, implies_true, and_true] <;> omega) | (repeat' (first | exact True.intro | rfl | refine And.intro ?_ ?_ | (rw [sv_ne _ _ _ _ (by omega)]) | (rw [up_cell _ _ _ (by omega)]) | (rw [fil_cell _ _ _ _ _ (by omega)]) | (rw [hM _ (by omega)]) | (rw [hm _ (by omega)])))) | (have t_ := Rel.ps (hR); exact Or.inr t_)) (by first | (refine Or.inl (And.intro ?_ (And.intro ?_ ?_)) <;> first | (simp only [List.mem_cons, List.not_mem_nil, or_false, forall_eq_or_imp, forall_eq, false_implies, implies_true, and_true] <;> omega) | (repeat' (first | exact True.intro | rfl | refine And.intro ?_ ?_ | (rw [sv_ne _ _ _ _ (by omega)]) | (rw [up_cell _ _ _ (by omega)]) | (rw [fil_cell _ _ _ _ _ (by omega)]) | (rw [hM _ (by omega)]) | (rw [hm _ (by omega)])))) | (have t_ := Rel.app (hR); exact Or.inr t_)) (by first | (refine Or.inl (And.intro ?_ (And.intro ?_ ?_)) <;> first | (simp only [List.mem_cons, List.not_mem_nil, or_false, forall_eq_or_imp, forall_eq, false_implies, implies_true, and_true] <;> omega) | (repeat' (first | exact True.intro | rfl | refine And.intro ?_ ?_ | (rw [sv_ne _ _ _ _ (by omega)]) | (rw [up_cell _ _ _ (by omega)]) | (rw [fil_cell _ _ _ _ _ (by omega)]) | (rw [hM _ (by omega)]) | (rw [hm _ (by omega)])))) | (have t_ := Rel.name (hR); exact Or.inr t_)) (by first | (refine Or.inl (And.intro ?_ (And.intro ?_ ?_)) <;> first | (simp only [List.mem_cons, List.not_mem_nil, or_false, forall_eq_or_imp, forall_eq, false_implies, implies_true, and_true] <;> omega) | (repeat' (first | exact True.intro | rfl | refine And.intro ?_ ?_ | (rw [sv_ne _ _ _ _ (by omega)]) | (rw [up_cell _ _ _ (by omega)]) | (rw [fil_cell _ _ _ _ _ (by omega)]) | (rw [hM _ (by omega)]) | (rw [hm _ (by omega)])))) | (have t_ := Rel.number (hR); exact Or.inr t_)) (by first | (refine Or.inl (And.intro ?_ (And.intro ?_ ?_)) <;> first | (simp only [List.mem_cons, List.not_mem_nil, or_false, forall_eq_or_imp, forall_eq, false_implies, implies_true, and_true] <;> omega) | (repeat' (first | exact True.intro | rfl | refine And.intro ?_ ?_ | (rw [sv_ne _ _ _ _ (by omega)]) | (rw [up_cell _ _ _ (by omega)]) | (rw [fil_cell _ _ _ _ _ (by omega)]) | (rw [hM _ (by omega)]) | (rw [hm _ (by omega)])))) | (have t_ := Rel.bits (hR); exact Or.inr t_)) (by first | (refine Or.inl (And.intro ?_ (And.intro ?_ ?_)) <;> first | (simp only [List.mem_cons, List.not_mem_nil, or_false, forall_eq_or_imp, forall_eq, false_implies, implies_true, and_true] <;> omega) | (repeat' (first | exact True.intro | rfl | refine And.intro ?_ ?_ | (rw [sv_ne _ _ _ _ (by omega)]) | (rw [up_cell _ _ _ (by omega)]) | (rw [fil_cell _ _ _ _ _ (by omega)]) | (rw [hM _ (by omega)]) | (rw [hm _ (by omega)])))) | (have t_ := Rel.regs (hR); exact Or.inr t_)) (by first | (refine Or.inl (And.intro ?_ (And.intro ?_ ?_)) <;> first | (simp only [List.mem_cons, List.not_mem_nil, or_false, forall_eq_or_imp, forall_eq, false_implies, implies_true, and_true] <;> omega) | (repeat' (first | exact True.intro | rfl | refine And.intro ?_ ?_ | (rw [sv_ne _ _ _ _ (by omega)]) | (rw [up_cell _ _ _ (by omega)]) | (rw [fil_cell _ _ _ _ _ (by omega)]) | (rw [hM _ (by omega)]) | (rw [hm _ (by omega)])))) | (have t_ := Rel.rsv (hR); exact Or.inr t_)) (by first | (refine Or.inl (And.intro ?_ (And.intro ?_ ?_)) <;> first | (simp only [List.mem_cons, List.not_mem_nil, or_false, forall_eq_or_imp, forall_eq, false_implies, implies_true, and_true] <;> omega) | (repeat' (first | exact True.intro | rfl | refine And.intro ?_ ?_ | (rw [sv_ne _ _ _ _ (by omega)]) | (rw [up_cell _ _ _ (by omega)]) | (rw [fil_cell _ _ _ _ _ (by omega)]) | (rw [hM _ (by omega)]) | (rw [hm _ (by omega)])))) | (have t_ := Rel.queue (hR); exact Or.inr t_)) (by first | (refine Or.inl (And.intro ?_ (And.intro ?_ ?_)) <;> first | (simp only [List.mem_cons, List.not_mem_nil, or_false, forall_eq_or_imp, forall_eq, false_implies, implies_true, and_true] <;> omega) | (repeat' (first | exact True.intro | rfl | refine And.intro ?_ ?_ | (rw [sv_ne _ _ _ _ (by omega)]) | (rw [up_cell _ _ _ (by omega)]) | (rw [fil_cell _ _ _ _ _ (by omega)]) | (rw [hM _ (by omega)]) | (rw [hm _ (by omega)])))) | (have t_ := Rel.ctlw (hR); exact Or.inr t_)) (by first | (refine Or.inl (And.intro ?_ (And.intro ?_ ?_)) <;> first | (simp only [List.mem_cons, List.not_mem_nil, or_false, forall_eq_or_imp, forall_eq, false_implies, implies_true, and_true] <;> omega) | (repeat' (first | exact True.intro | rfl | refine And.intro ?_ ?_ | (rw [sv_ne _ _ _ _ (by omega)]) | (rw [up_cell _ _ _ (by omega)]) | (rw [fil_cell _ _ _ _ _ (by omega)]) | (rw [hM _ (by omega)]) | (rw [hm _ (by omega)])))) | (have t_ := Rel.wt (hR); exact Or.inr t_)))
/-- the last record of a number and a key -/
def mtR (m : it_Me) (x y : Int32) (A : Nat) : Prop := gw m (nI A) = x ∧ gw m (nI (A + 4)) = y
noncomputable def lastM (m : it_Me) (x y : Int32) : List Nat → Option Nat → Option Nat
  | [], o => o
  | A :: as, o => lastM m x y as (@ite _ (mtR m x y A) (Classical.propDecidable _) (some A) o)
theorem lastM_app (m : it_Me) (x y : Int32) (A : Nat) : ∀ (as : List Nat) (o : Option Nat), lastM m x y (as ++ [A]) o = @ite _ (mtR m x y A) (Classical.propDecidable _) (some A) (lastM m x y as o) := by
  intro as
  induction as with
  | nil => intro o; rfl
  | cons a as ih => intro o; simp only [List.cons_append, lastM, ih]
theorem lastM_c2 {m m' : it_Me} (h : ∀ a, gw m' a = gw m a) (x y : Int32) : ∀ (as : List Nat) (o : Option Nat), lastM m' x y as o = lastM m x y as o := by
  intro as
  induction as with
  | nil => intro o; rfl
  | cons a as ih =>
    intro o
    have e : mtR m' x y a = mtR m x y a := by unfold mtR; rw [h, h]
    simp only [lastM, ih]
    rw [e]
theorem lastM_in (m : it_Me) (x y : Int32) : ∀ (as : List Nat) (o : Option Nat) (A : Nat), lastM m x y as o = some A → A ∈ as ∨ o = some A := by
  intro as
  induction as with
  | nil => intro o A h; exact Or.inr h
  | cons a as ih =>
    intro o A h
    rcases ih _ A h with q | q
    · exact Or.inl (List.mem_cons_of_mem _ q)
    · by_cases e : mtR m x y a
      · rw [if_pos e] at q
        cases q
        exact Or.inl List.mem_cons_self
      · rw [if_neg e] at q
        exact Or.inr q
def encO : Option Nat → Int32
  | none => -1
  | some A => nI A
theorem fdL {kc : it_Kc} {m : it_Me} {x y : Int32} {l : List Nat} (hl : l.length < 128) (h8 : ∀ j, j < l.length → m 8 j = nI (l.getD j 0)) {Φ : Int32 → it_Me → Prop} {K51 : Int32 → it_Me → Prop} {K82 : it_Me → Prop} : ∀ (k : Nat), k ≤ l.length → (match lastM m x y (l.take k) none with | none => K82 m | some A => K51 (nI A) m) → w_159_11 kc Φ K51 K82 (k + 1) x y (nI k - 1) m := by
  intro k
  induction k with
  | zero =>
    intro _ h
    unfold w_159_11
    exact ⟨fun _ => h, fun q => absurd (by decide) q⟩
  | succ k ih =>
    intro hk h
    have e : nI (k + 1) - 1 = nI k := by rw [← nI_1]; exact Int32.add_sub_cancel _ _
    have el : l.take (k + 1) = l.take k ++ [l.getD k 0] := by
      rw [List.take_add_one, List.getElem?_eq_getElem (by omega), List.getD_eq_getElem?_getD, List.getElem?_eq_getElem (by omega)]
      rfl
    rw [el, lastM_app] at h
    unfold w_159_11 w_159_76
    rw [e, nI_clamp (by omega), h8 k (by omega), n_4, show nI k + (-1 : Int32) = nI k - 1 from (Int32.sub_eq_add_neg _ _).symm]
    refine ⟨fun q => ?_, fun _ => ⟨by rw [vp_in_iff, nI_toInt (by omega)]; omega, c_12 ⟨fun q1 => c_12 ⟨fun q2 => ?_, fun q2 => ih (by omega) ?_⟩, fun q1 => ih (by omega) ?_⟩⟩⟩
    · rw [Int32.lt_iff_toInt_lt, nI_toInt (by omega)] at q
      have z0 : (0 : Int32).toInt = 0 := rfl
      omega
    · rw [if_pos ⟨q1, q2⟩] at h
      exact h
    · rw [if_neg (fun p => q2 p.2)] at h
      exact h
    · rw [if_neg (fun p => q1 p.1)] at h
      exact h
noncomputable def fdO (m : it_Me) (x y : Int32) (l : List Nat) : Option Nat :=
  match lastM m x y l none with
  | none => none
  | some A => if gw m (nI (A + 8)) = 255 then none else some A
def enc0 : Option Nat → Int32
  | none => 0
  | some A => nI A
theorem c_159 {kc : it_Kc} {m : it_Me} {b : Nat} {ss : List Nat} (hb : m 7 2 = nI b) (hB : 126976 ≤ b ∧ b + 2048 ≤ 131072) (hW : Wk m b (b + 4) ss) (hl : ss.length < 128) (x y : Int32) : ∃ m', (∀ Φ : Int32 → it_Me → Prop, Φ (enc0 (fdO m x y (pls (b + 4) ss))) m' → w_159 kc x y m Φ) ∧ Sc m m' (b + 4) ss := by
  obtain ⟨m', a1, a2⟩ := c_163 (kc := kc) hb hB hW hl
  refine ⟨m', fun Φ h => ?_, a2⟩
  have g2 := gw_c2 (a2.2.2.2.1 2 (by omega) (by omega))
  unfold w_159
  refine a1 _ ⟨ss.length + 1, ?_⟩
  rw [a2.2.1]
  refine fdL (l := pls (b + 4) ss) (by rw [pls_len]; exact hl) (by rw [pls_len]; exact a2.2.2.1) ss.length (by rw [pls_len]; exact Nat.le_refl _) ?_
  rw [← pls_len ss (b + 4), List.take_length, lastM_c2 g2]
  unfold fdO at h
  cases hq : lastM m x y (pls (b + 4) ss) none with
  | none =>
    rw [hq] at h
    unfold w_159_82
    exact h
  | some A =>
    rw [hq] at h
    dsimp only at h ⊢
    unfold w_159_51 w_159_75
    rw [n_8]
    refine c_12 ?_
    rw [g2]
    by_cases e : gw m (nI (A + 8)) = 255
    · rw [if_pos e] at h
      exact ⟨fun _ => h, fun q => absurd e q⟩
    · rw [if_neg e] at h
      exact ⟨fun q => absurd q e, fun _ => h⟩
/-- the reference's walk -/
def nx (A : Nat) : List Nat → Int32
  | [] => -1
  | s :: _ => nI (A + s)
def BkF (m : it_Me) (b : Nat) : Prop := m 7 2 = nI b ∧ (b = 126976 ∨ b = 129024) ∧ (126976 : Int32) + 2048 * bkI (m 7 2) = nI b ∧ ¬ bkI (m 7 2) = -1
theorem BkF.h2 {m : it_Me} {b : Nat} (h : BkF m b) : m 7 2 = nI b := h.1
theorem BkF.bb {m : it_Me} {b : Nat} (h : BkF m b) : b = 126976 ∨ b = 129024 := h.2.1
theorem BkF.eb {m : it_Me} {b : Nat} (h : BkF m b) : (126976 : Int32) + 2048 * bkI (m 7 2) = nI b := h.2.2.1
theorem BkF.n1 {m : it_Me} {b : Nat} (h : BkF m b) : ¬ bkI (m 7 2) = -1 := h.2.2.2
theorem bkF {B : Nat} {m : it_Me} (hI : Inv B m) (h : m 7 2 ≠ 0) : ∃ b, BkF m b := by
  rcases hI.bk with e | e | e
  · exact absurd e h
  · exact ⟨126976, e, Or.inl rfl, by rw [e]; decide, by rw [e]; decide⟩
  · exact ⟨129024, e, Or.inr rfl, by rw [e]; decide, by rw [e]; decide⟩
theorem r_Wk {kc : it_Kc} {B : Nat} {m M : it_Me} (hI : Inv B m) (hR : Rel m M) {b A : Nat} {bk : Int32} (hb : 126976 + 2048 * bk = nI b) (hB : 126976 ≤ b ∧ b + 2048 ≤ 131072 ∧ b % 4 = 0) (hA : b ≤ A ∧ A ≤ b + 2048 ∧ A % 4 = 0) {ss : List Nat} (hW : Wk m b A ss) {Φ : Int32 → it_Me → Prop} (h : Φ (nx A ss) M) : w_235 kc bk (nI A) M Φ := by
  cases ss with
  | nil => exact r_235 hI hR hb hB hA (fun s p => absurd p (hW s)) (fun _ => h)
  | cons s ss =>
    refine r_235 hI hR hb hB hA (fun t p => ?_) (fun q => absurd hW.1 (q s))
    rw [← rc_un hW.1 p]
    exact h
theorem r_236L {kc : it_Kc} {B : Nat} {m M : it_Me} (hI : Inv B m) (hR : Rel m M) {b : Nat} {bk : Int32} (hb : 126976 + 2048 * bk = nI b) (hB : 126976 ≤ b ∧ b + 2048 ≤ 131072 ∧ b % 4 = 0) {Φ : Int32 → it_Me → Prop} {K : Int32 → it_Me → Prop} : ∀ (ss : List Nat) (A : Nat), (b ≤ A ∧ A ≤ b + 2048 ∧ A % 4 = 0) → Wk m b A ss → K (nI (wEnd A ss)) M → w_236_15 kc Φ K (ss.length + 1) bk (nI A) (nx A ss) M := by
  intro ss
  induction ss with
  | nil =>
    intro A hA hW h
    unfold w_236_15
    exact ⟨fun _ => h, fun q => absurd rfl q⟩
  | cons s ss ih =>
    intro A hA hW h
    have z := rc_sz hW.1
    have e := hW.1.2.2.2.2.1
    have hA' : b ≤ A + s ∧ A + s ≤ b + 2048 ∧ (A + s) % 4 = 0 := ⟨by omega, by omega, by omega⟩
    simp only [List.length_cons]
    unfold w_236_15
    exact ⟨fun q => absurd q (nM1 (by omega)), fun _ => r_Wk hI hR hb hB hA' hW.2 (ih (A + s) hA' hW.2 h)⟩
theorem r_233 {kc : it_Kc} {x0 : Int32} {M : it_Me} {Φ : Int32 → it_Me → Prop} (h : Φ (126976 + 2048 * x0) M) : w_233 kc x0 M Φ := h
theorem r_236 {kc : it_Kc} {B : Nat} {m M : it_Me} (hI : Inv B m) (hR : Rel m M) {b : Nat} {bk : Int32} (hb : 126976 + 2048 * bk = nI b) (hB : 126976 ≤ b ∧ b + 2048 ≤ 131072 ∧ b % 4 = 0) {ss : List Nat} (hW : Wk m b (b + 4) ss) {Φ : Int32 → it_Me → Prop} (h : Φ (nI (wEnd (b + 4) ss)) M) : w_236 kc bk M Φ := by
  have hA : b ≤ b + 4 ∧ b + 4 ≤ b + 2048 ∧ (b + 4) % 4 = 0 := ⟨by omega, by omega, by omega⟩
  unfold w_236
  refine r_233 ?_
  rw [hb, n_4]
  exact r_Wk hI hR hb hB hA hW ⟨ss.length + 1, r_236L hI hR hb hB ss (b + 4) hA hW h⟩
theorem r_238L {kc : it_Kc} {B : Nat} {m M : it_Me} (hI : Inv B m) (hR : Rel m M) {b : Nat} {bk x y : Int32} (hb : 126976 + 2048 * bk = nI b) (hB : 126976 ≤ b ∧ b + 2048 ≤ 131072 ∧ b % 4 = 0) {Φ : Int32 → it_Me → Prop} {K : Int32 → it_Me → Prop} : ∀ (ss : List Nat) (A : Nat) (o : Option Nat), (b ≤ A ∧ A ≤ b + 2048 ∧ A % 4 = 0) → Wk m b A ss → K (encO (lastM m x y (pls A ss) o)) M → w_238_21 kc Φ K (ss.length + 1) bk x y (encO o) (nI A) (nx A ss) M := by
  intro ss
  induction ss with
  | nil =>
    intro A o hA hW h
    unfold w_238_21
    exact ⟨fun _ => h, fun q => absurd rfl q⟩
  | cons s ss ih =>
    intro A o hA hW h
    have z := rc_sz hW.1
    have e := hW.1.2.2.2.2.1
    have hA' : b ≤ A + s ∧ A + s ≤ b + 2048 ∧ (A + s) % 4 = 0 := ⟨by omega, by omega, by omega⟩
    simp only [List.length_cons]
    unfold w_238_21 w_238_54 w_238_56
    rw [n_4]
    simp only [pls, lastM] at h
    refine ⟨fun q => absurd q (nM1 (by omega)), fun _ => rS hI hR (by omega) (by omega) ⟨fun q1 => rS hI hR (by omega) (by omega) ⟨fun q2 => ?_, fun q2 => ?_⟩, fun q1 => ?_⟩⟩
    · rw [if_pos ⟨q1, q2⟩] at h
      exact r_Wk hI hR hb hB hA' hW.2 (ih (A + s) (some A) hA' hW.2 h)
    · rw [if_neg (fun p => q2 p.2)] at h
      exact r_Wk hI hR hb hB hA' hW.2 (ih (A + s) o hA' hW.2 h)
    · rw [if_neg (fun p => q1 p.1)] at h
      exact r_Wk hI hR hb hB hA' hW.2 (ih (A + s) o hA' hW.2 h)
theorem r_238 {kc : it_Kc} {B : Nat} {m M : it_Me} (hI : Inv B m) (hR : Rel m M) {b : Nat} {bk x y : Int32} (hb : 126976 + 2048 * bk = nI b) (hB : 126976 ≤ b ∧ b + 2048 ≤ 131072 ∧ b % 4 = 0) {ss : List Nat} (hW : Wk m b (b + 4) ss) {Φ : Int32 → it_Me → Prop} (h : Φ (encO (lastM m x y (pls (b + 4) ss) none)) M) : w_238 kc bk x y M Φ := by
  have hA : b ≤ b + 4 ∧ b + 4 ≤ b + 2048 ∧ (b + 4) % 4 = 0 := ⟨by omega, by omega, by omega⟩
  unfold w_238
  refine r_233 ?_
  rw [hb, n_4]
  exact r_Wk hI hR hb hB hA hW ⟨ss.length + 1, r_238L hI hR hb hB ss (b + 4) none hA hW h⟩
theorem r_239 {kc : it_Kc} {B : Nat} {m M : it_Me} (hI : Inv B m) (hR : Rel m M) {b : Nat} {x y : Int32} (F : BkF m b) {ss : List Nat} (hW : Wk m b (b + 4) ss) {Φ : Int32 → it_Me → Prop} (h : Φ (encO (fdO m x y (pls (b + 4) ss))) M) : w_239 kc x y M Φ := by
  have hB : 126976 ≤ b ∧ b + 2048 ≤ 131072 ∧ b % 4 = 0 := by rcases F.bb with e | e <;> omega
  unfold w_239
  rw [hR.bank]
  refine ⟨fun q => absurd q F.n1, fun _ => r_238 hI hR F.eb hB hW ?_⟩
  unfold fdO at h
  cases hq : lastM m x y (pls (b + 4) ss) none with
  | none =>
    rw [hq] at h
    unfold w_239_22 w_239_42 w_239_47
    exact ⟨fun _ => h, fun q => absurd rfl q⟩
  | some A =>
    rw [hq] at h
    dsimp only at h
    have hA := pls_in ss (b + 4) hW (by omega) A (by
      rcases lastM_in m x y _ _ A hq with y | y
      · exact y
      · cases y)
    obtain ⟨h1, h2, s, p⟩ := hA
    have := p.1
    have eq1 : encO (some A) = nI A := rfl
    unfold w_239_22 w_239_42 w_239_47
    rw [eq1, n_8]
    refine ⟨fun q => absurd q (nM1 (by omega)), fun _ => rS hI hR (by omega) (by omega) ?_⟩
    by_cases e : gw m (nI (A + 8)) = 255
    · rw [if_pos e] at h
      exact ⟨fun _ => h, fun q => absurd e q⟩
    · rw [if_neg e] at h
      exact ⟨fun q => absurd q e, fun _ => h⟩
