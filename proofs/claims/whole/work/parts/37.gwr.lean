/-! Writes into a grant. -/
theorem Inv.grw {B : Nat} {m m' : it_Me} (hI : Inv B m) {i d : Nat} (hi : i < cnt m) (hd : d < 9) (hg : m (14 + 5 * i + 4) d ≠ 0) (hc : ∀ k, k ≠ 2 → m' k = m k) (hw : ∀ w, m' 2 w ≠ m 2 w → (m (14 + 5 * i + 4) d).toInt + 8 ≤ 65536 + 4 * (w : Int) ∧ 65536 + 4 * (w : Int) < (m (14 + 5 * i + 4) d).toInt + gsz d)
  (hbf : ∀ k, k < rbN d + wbN d → Bf m i (gw m' (m (14 + 5 * i + 4) d + nI (8 * (1 + sbN d + k)))) (gw m' (m (14 + 5 * i + 4) d + nI (8 * (1 + sbN d + k) + 4))) (rbN d ≤ k))
  (h1 : d = 1 → ∀ k, k < 4 → 0 ≤ (gw m' (m (14 + 5 * i + 4) 1 + nI (64 + 4 * k))).toInt ∧ (gw m' (m (14 + 5 * i + 4) 1 + nI (64 + 4 * k))).toInt ≤ 65536)
  (h6 : d = 6 → 0 ≤ (gw m' (m (14 + 5 * i + 4) 6 + 16)).toInt ∧ (gw m' (m (14 + 5 * i + 4) 6 + 16)).toInt ≤ 2)
  (hov : m (14 + 5 * i) 9 = 4 ∨ m (14 + 5 * i) 9 = 5 → ∀ k, k < owN d → gw m' (m (14 + 5 * i + 4) d + nI (owA d + 4 * k)) = 0)
  (hW : d = 1 → undW m' i → 0 ≤ (m 62 i).toInt ∧ (m 62 i).toInt < (m 59 12).toInt) (hR : d = 1 → undR m' i → 0 ≤ (m 63 i).toInt ∧ (m 63 i).toInt < (m 59 12).toInt)
  (hsf : ∀ n, n < sbN d → (gw m' (m (14 + 5 * i + 4) d + nI (8 * (1 + n)))).toInt % 2 = 0) : Inv B m' := by
  have ho := on_of hI hi
  have hP := hI.p hi
  have g := hP.gI hd hg
  have l := hP.low0
  have o := hP.ord
  have s := hP.szI
  have cl := hP.ctlI
  have n := kN hd
  have far : ∀ j, j < cnt m → j ≠ i → ∀ w : Nat, w < 15360 ∨ ((m (14 + 5 * j) 8).toInt ≤ 65536 + 4 * (w : Int) ∧ 65536 + 4 * (w : Int) < (ctl m j).toInt) ∨ ((ctl m j).toInt + 44 ≤ 65536 + 4 * (w : Int) ∧ 65536 + 4 * (w : Int) < (ctl m j).toInt + 64) → m' 2 w = m 2 w := fun j hj hne w h => by
    by_cases e : m' 2 w = m 2 w
    · exact e
    · exfalso
      have := hw w e
      have o' := (hI.p hj).ord
      have s' := (hI.p hj).szI
      have cl' := (hI.p hj).ctlI
      rcases Nat.lt_or_gt_of_ne hne with h' | h'
      · have := hI.dis ho j i hi h'
        omega
      · have := hI.dis ho i j hj h'
        omega
  have gz : ∀ a : Int32, (a.toInt < (m (14 + 5 * i + 4) d).toInt + 8 ∨ (m (14 + 5 * i + 4) d).toInt + gsz d ≤ a.toInt) → gw m' a = gw m a := fun a h => gw_w (fun ha => by
    by_cases e : m' 2 (wi a) = m 2 (wi a)
    · exact e
    · exfalso
      have := hw _ e
      have := wi_eq ha
      omega)
  have rd : ∀ d' k, d' < 9 → m (14 + 5 * i + 4) d' ≠ 0 → k < gsz d' → (d' ≠ d ∨ k < 8) → gw m' (m (14 + 5 * i + 4) d' + nI k) = gw m (m (14 + 5 * i + 4) d' + nI k) := fun d' k hd' hg' hk hq => by
    have g' := hP.gI hd' hg'
    have n' := kN hd'
    have e := adI (a := m (14 + 5 * i + 4) d') (k := k) (by omega) (by omega) (by omega)
    refine gz _ ?_
    by_cases e2 : d' = d
    · subst e2; omega
    · have := hP.gS hd' hg' hd hg e2
      omega
  have p0 : ∀ b, m' (14 + 5 * i + b) = m (14 + 5 * i + b) := fun b => hc _ (by omega)
  have q0 : m' (14 + 5 * i) = m (14 + 5 * i) := p0 0
  have hct : ctl m' i = ctl m i := ctl_cg q0
  have hCh : ∀ ds a, (m (14 + 5 * i) 8).toInt ≤ a.toInt → Ch m i a ds → Ch m' i a ds := fun ds => by
    induction ds with
    | nil => intro a _ q; exact (q : a = ctl m i).trans hct.symm
    | cons x ds ih =>
      intro a h0 q
      obtain ⟨q1, q2, q3, q5, q8, q6, q7⟩ := q
      have k := kN q1
      have e := adI (a := a) (k := gsz x) (by omega) (by omega) (by omega)
      have hgx : m (14 + 5 * i + 4) x ≠ 0 := by rw [q3]; intro q; rw [q] at h0; simp only [Int32.reduceToInt] at h0; omega
      refine ⟨q1, q2, by rw [p0]; exact q3, ?_, ?_, by rw [hct]; exact q6, ih _ (by omega) q7⟩
      · have := rd x 0 q1 hgx (by omega) (Or.inr (by omega))
        rw [q3, nI_0, Int32.add_zero] at this
        rw [this]; exact q5
      · have := rd x 4 q1 hgx (by omega) (Or.inr (by omega))
        rw [q3] at this
        rw [show a + 4 = a + nI 4 from rfl, this, hct]; exact q8
  have hBf : ∀ a n w, Bf m' i a n w ↔ Bf m i a n w := fun a n w => by unfold Bf; rw [q0, p0]
  have hPI : PI m' i := by
    refine PI.mk ?_ ?_ ?_ ?_ ?_ ?_ ?_ ?_ ?_ ?_ ?_ ?_ ?_ ?_ ?_ ?_ ?_ ?_ ?_ ?_ ?_
    · rw [q0]; exact hP.blk
    · rw [q0, hct]; exact hP.ord
    · rw [p0]; exact hP.app
    · have ha := hP.app
      have ea : (m (14 + 5 * i + 1) 1 + 2).toInt = (m (14 + 5 * i + 1) 1).toInt + 2 := adI (k := 2) (by omega) (by omega) (by omega)
      have hA : InM (m (14 + 5 * i + 1) 1 + 2) := ⟨by omega, by omega⟩
      rw [p0, hP.hd]
      rw [gh_in hA, gh_in hA]
      by_cases e : m' 2 (wi (m (14 + 5 * i + 1) 1 + 2)) = m 2 (wi (m (14 + 5 * i + 1) 1 + 2))
      · rw [e]
      · exfalso
        have := hw _ e
        have := wi_eq hA
        omega
    · rw [q0, p0]; exact hP.ram
    · rw [q0]; exact hP.st
    · rw [q0]; exact hP.he
    · rw [q0]; exact hP.qn
    · rw [q0, p0, p0]; exact hP.q
    · obtain ⟨ds, h1, h2, h3, h4⟩ := hP.gr
      rw [q0, p0]
      exact ⟨ds, hCh ds _ (Int.le_refl _) h1, h2, h3, h4⟩
    · rw [p0]
      intro d' hd' hg' k hk
      rw [hBf]
      by_cases e : d' = d
      · subst e; exact hbf k hk
      · have n' := kN hd'
        rw [rd d' _ hd' hg' (by omega) (Or.inl e), rd d' _ hd' hg' (by omega) (Or.inl e)]
        exact hP.bf d' hd' hg' k hk
    · rw [p0]
      intro hg' k hk
      by_cases e : d = 1
      · exact h1 e k hk
      · rw [rd 1 _ (by omega) hg' (by show 64 + 4 * k < 80; omega) (Or.inl (Ne.symm e))]
        exact hP.ow1 hg' k hk
    · rw [p0]
      intro hg'
      by_cases e : d = 6
      · exact h6 e
      · have := rd 6 16 (by omega) hg' (by decide) (Or.inl (Ne.symm e))
        rw [show m (14 + 5 * i + 4) 6 + 16 = m (14 + 5 * i + 4) 6 + nI 16 from rfl, this]
        exact hP.ow6 hg'
    · rw [q0, p0]
      intro hs
      refine ⟨(hP.ovr hs).1, fun d' hd' hg' k hk => ?_⟩
      by_cases e : d' = d
      · subst e; exact hov hs k hk
      · have n' := kN hd'
        rw [rd d' _ hd' hg' (by omega) (Or.inl e)]
        exact (hP.ovr hs).2 d' hd' hg' k hk
    · rw [p0]; exact hP.nm
    · rw [p0]; exact hP.so
    · rw [p0]; exact hP.pm
    · intro k hk
      have ek := adI (a := ctl m i) (k := 44 + 4 * k) (by omega) (by omega) (by omega)
      rw [hct, gz _ (Or.inr (by omega))]
      exact hP.cz k hk
    · rw [q0]; exact hP.pce
    · rw [p0]
      intro d' hd' hg' x hx
      by_cases e : d' = d
      · subst e; exact hsf x hx
      · have n' := kN hd'
        rw [rd d' _ hd' hg' (by omega) (Or.inl e)]
        exact hP.sfe d' hd' hg' x hx
    · rw [p0]; exact hP.r0
  have hm := hc
  have ecn : cnt m' = cnt m := cnt_cg (by rw [hc 9 (by omega)])
  have und : ∀ j, j < cnt m → j ≠ i → ∀ k, k = 64 ∨ k = 72 → m (14 + 5 * j + 4) 1 ≠ 0 → gw m' (m (14 + 5 * j + 4) 1 + nI k) = gw m (m (14 + 5 * j + 4) 1 + nI k) := fun j hj hne k hk hg1 => gw_w (fun ha => by
    have g' := (hI.p hj).gI (d := 1) (by omega) hg1
    have l' := (hI.p hj).low0
    have e := adI (a := m (14 + 5 * j + 4) 1) (k := k) (by omega) (by omega) (by omega)
    have z : gsz 1 = 80 := by decide
    have := wi_eq ha
    exact far j hj hne _ (Or.inr (Or.inl (by omega))))
  exact (Inv.upd (hI) (Nat.le_refl B) ([2]) (fun k hk => hc k (by simpa using hk)) (by first | (refine Or.inl (And.intro ?_ ?_) <;> first | (simp only [List.mem_cons, List.not_mem_nil, or_false, forall_eq_or_imp, forall_eq, false_implies, implies_true, and_true] <;> omega) | (repeat' (first | exact True.intro | rfl | refine And.intro ?_ ?_ | (rw [sv_ne _ _ _ _ (by omega)]) | (rw [up_cell _ _ _ (by omega)]) | (rw [fil_cell _ _ _ _ _ (by omega)]) | (rw [hM _ (by omega)]) | (rw [hm _ (by omega)])))) | (have t_ := Inv.tl (hI); exact Or.inr t_)) (by first | (refine Or.inl (And.intro ?_ ?_) <;> first | (simp only [List.mem_cons, List.not_mem_nil, or_false, forall_eq_or_imp, forall_eq, false_implies, implies_true, and_true] <;> omega) | (repeat' (first | exact True.intro | rfl | refine And.intro ?_ ?_ | (rw [sv_ne _ _ _ _ (by omega)]) | (rw [up_cell _ _ _ (by omega)]) | (rw [fil_cell _ _ _ _ _ (by omega)]) | (rw [hM _ (by omega)]) | (rw [hm _ (by omega)])))) | (have t_ := Inv.tp (hI); exact Or.inr t_)) (by first | (refine Or.inl (And.intro ?_ ?_) <;> first | (simp only [List.mem_cons, List.not_mem_nil, or_false, forall_eq_or_imp, forall_eq, false_implies, implies_true, and_true] <;> omega) | (repeat' (first | exact True.intro | rfl | refine And.intro ?_ ?_ | (rw [sv_ne _ _ _ _ (by omega)]) | (rw [up_cell _ _ _ (by omega)]) | (rw [fil_cell _ _ _ _ _ (by omega)]) | (rw [hM _ (by omega)]) | (rw [hm _ (by omega)])))) | (have t_ := Inv.on (hI); exact Or.inr t_)) (Or.inr (by
    intro q
    exfalso
    rw [hc 0 (by omega), ho] at q
    exact absurd q (by decide))) (by first | (refine Or.inl (And.intro ?_ ?_) <;> first | (simp only [List.mem_cons, List.not_mem_nil, or_false, forall_eq_or_imp, forall_eq, false_implies, implies_true, and_true] <;> omega) | (repeat' (first | exact True.intro | rfl | refine And.intro ?_ ?_ | (rw [sv_ne _ _ _ _ (by omega)]) | (rw [up_cell _ _ _ (by omega)]) | (rw [fil_cell _ _ _ _ _ (by omega)]) | (rw [hM _ (by omega)]) | (rw [hm _ (by omega)])))) | (have t_ := Inv.cn (hI); exact Or.inr t_)) (by first | (refine Or.inl (And.intro ?_ ?_) <;> first | (simp only [List.mem_cons, List.not_mem_nil, or_false, forall_eq_or_imp, forall_eq, false_implies, implies_true, and_true] <;> omega) | (repeat' (first | exact True.intro | rfl | refine And.intro ?_ ?_ | (rw [sv_ne _ _ _ _ (by omega)]) | (rw [up_cell _ _ _ (by omega)]) | (rw [fil_cell _ _ _ _ _ (by omega)]) | (rw [hM _ (by omega)]) | (rw [hm _ (by omega)])))) | (have t_ := Inv.ev (hI); exact Or.inr t_)) (by first | (refine Or.inl (And.intro ?_ ?_) <;> first | (simp only [List.mem_cons, List.not_mem_nil, or_false, forall_eq_or_imp, forall_eq, false_implies, implies_true, and_true] <;> omega) | (repeat' (first | exact True.intro | rfl | refine And.intro ?_ ?_ | (rw [sv_ne _ _ _ _ (by omega)]) | (rw [up_cell _ _ _ (by omega)]) | (rw [fil_cell _ _ _ _ _ (by omega)]) | (rw [hM _ (by omega)]) | (rw [hm _ (by omega)])))) | (have t_ := Inv.out (hI); exact Or.inr t_)) (by first | (refine Or.inl (And.intro ?_ ?_) <;> first | (simp only [List.mem_cons, List.not_mem_nil, or_false, forall_eq_or_imp, forall_eq, false_implies, implies_true, and_true] <;> omega) | (repeat' (first | exact True.intro | rfl | refine And.intro ?_ ?_ | (rw [sv_ne _ _ _ _ (by omega)]) | (rw [up_cell _ _ _ (by omega)]) | (rw [fil_cell _ _ _ _ _ (by omega)]) | (rw [hM _ (by omega)]) | (rw [hm _ (by omega)])))) | (have t_ := Inv.num (hI); exact Or.inr t_)) (by first | (refine Or.inl (And.intro ?_ ?_) <;> first | (simp only [List.mem_cons, List.not_mem_nil, or_false, forall_eq_or_imp, forall_eq, false_implies, implies_true, and_true] <;> omega) | (repeat' (first | exact True.intro | rfl | refine And.intro ?_ ?_ | (rw [sv_ne _ _ _ _ (by omega)]) | (rw [up_cell _ _ _ (by omega)]) | (rw [fil_cell _ _ _ _ _ (by omega)]) | (rw [hM _ (by omega)]) | (rw [hm _ (by omega)])))) | (have t_ := Inv.crc (hI); exact Or.inr t_)) (by first | (refine Or.inl (And.intro ?_ ?_) <;> first | (simp only [List.mem_cons, List.not_mem_nil, or_false, forall_eq_or_imp, forall_eq, false_implies, implies_true, and_true] <;> omega) | (repeat' (first | exact True.intro | rfl | refine And.intro ?_ ?_ | (rw [sv_ne _ _ _ _ (by omega)]) | (rw [up_cell _ _ _ (by omega)]) | (rw [fil_cell _ _ _ _ _ (by omega)]) | (rw [hM _ (by omega)]) | (rw [hm _ (by omega)])))) | (have t_ := Inv.bk (hI); exact Or.inr t_)) (by first | (refine Or.inl (And.intro ?_ ?_) <;> first | (simp only [List.mem_cons, List.not_mem_nil, or_false, forall_eq_or_imp, forall_eq, false_implies, implies_true, and_true] <;> omega) | (repeat' (first | exact True.intro | rfl | refine And.intro ?_ ?_ | (rw [sv_ne _ _ _ _ (by omega)]) | (rw [up_cell _ _ _ (by omega)]) | (rw [fil_cell _ _ _ _ _ (by omega)]) | (rw [hM _ (by omega)]) | (rw [hm _ (by omega)])))) | (have t_ := Inv.bk1 (hI); exact Or.inr t_)) (by first | (refine Or.inl (And.intro ?_ ?_) <;> first | (simp only [List.mem_cons, List.not_mem_nil, or_false, forall_eq_or_imp, forall_eq, false_implies, implies_true, and_true] <;> omega) | (repeat' (first | exact True.intro | rfl | refine And.intro ?_ ?_ | (rw [sv_ne _ _ _ _ (by omega)]) | (rw [up_cell _ _ _ (by omega)]) | (rw [fil_cell _ _ _ _ _ (by omega)]) | (rw [hM _ (by omega)]) | (rw [hm _ (by omega)])))) | (have t_ := Inv.pw (hI); exact Or.inr t_)) (by first | (refine Or.inl (And.intro ?_ ?_) <;> first | (simp only [List.mem_cons, List.not_mem_nil, or_false, forall_eq_or_imp, forall_eq, false_implies, implies_true, and_true] <;> omega) | (repeat' (first | exact True.intro | rfl | refine And.intro ?_ ?_ | (rw [sv_ne _ _ _ _ (by omega)]) | (rw [up_cell _ _ _ (by omega)]) | (rw [fil_cell _ _ _ _ _ (by omega)]) | (rw [hM _ (by omega)]) | (rw [hm _ (by omega)])))) | (have t_ := Inv.kd (hI); exact Or.inr t_)) (by first | (refine Or.inl (And.intro ?_ ?_) <;> first | (simp only [List.mem_cons, List.not_mem_nil, or_false, forall_eq_or_imp, forall_eq, false_implies, implies_true, and_true] <;> omega) | (repeat' (first | exact True.intro | rfl | refine And.intro ?_ ?_ | (rw [sv_ne _ _ _ _ (by omega)]) | (rw [up_cell _ _ _ (by omega)]) | (rw [fil_cell _ _ _ _ _ (by omega)]) | (rw [hM _ (by omega)]) | (rw [hm _ (by omega)])))) | (have t_ := Inv.tn (hI); exact Or.inr t_)) (by first | (refine Or.inl (And.intro ?_ ?_) <;> first | (simp only [List.mem_cons, List.not_mem_nil, or_false, forall_eq_or_imp, forall_eq, false_implies, implies_true, and_true] <;> omega) | (repeat' (first | exact True.intro | rfl | refine And.intro ?_ ?_ | (rw [sv_ne _ _ _ _ (by omega)]) | (rw [up_cell _ _ _ (by omega)]) | (rw [fil_cell _ _ _ _ _ (by omega)]) | (rw [hM _ (by omega)]) | (rw [hm _ (by omega)])))) | (have t_ := Inv.ask (hI); exact Or.inr t_)) (Or.inr (by
    intro _ j hj hu
    rw [ecn] at hj
    rw [hc 62 (by omega), hc 59 (by omega)]
    unfold undW at hu
    rw [hc _ (by omega)] at hu
    by_cases e : j = i
    · subst e
      by_cases e1 : d = 1
      · exact hW e1 (by unfold undW; rw [hc _ (by omega)]; exact hu)
      · have := rd 1 64 (by omega) hu.1 (by decide) (Or.inl (Ne.symm e1))
        refine hI.askW ho j hj ⟨hu.1, ?_⟩
        rw [show m (14 + 5 * j + 4) 1 + 64 = m (14 + 5 * j + 4) 1 + nI 64 from rfl, ← this]
        exact hu.2
    · have := und j hj e 64 (Or.inl rfl) hu.1
      refine hI.askW ho j hj ⟨hu.1, ?_⟩
      rw [show m (14 + 5 * j + 4) 1 + 64 = m (14 + 5 * j + 4) 1 + nI 64 from rfl, ← this]
      exact hu.2)) (Or.inr (by
    intro _ j hj hu
    rw [ecn] at hj
    rw [hc 63 (by omega), hc 59 (by omega)]
    unfold undR at hu
    rw [hc _ (by omega)] at hu
    by_cases e : j = i
    · subst e
      by_cases e1 : d = 1
      · exact hR e1 (by unfold undR; rw [hc _ (by omega)]; exact hu)
      · have := rd 1 72 (by omega) hu.1 (by decide) (Or.inl (Ne.symm e1))
        refine hI.askR ho j hj ⟨hu.1, ?_⟩
        rw [show m (14 + 5 * j + 4) 1 + 72 = m (14 + 5 * j + 4) 1 + nI 72 from rfl, ← this]
        exact hu.2
    · have := und j hj e 72 (Or.inr rfl) hu.1
      refine hI.askR ho j hj ⟨hu.1, ?_⟩
      rw [show m (14 + 5 * j + 4) 1 + 72 = m (14 + 5 * j + 4) 1 + nI 72 from rfl, ← this]
      exact hu.2)) (by first | (refine Or.inl (And.intro ?_ ?_) <;> first | (simp only [List.mem_cons, List.not_mem_nil, or_false, forall_eq_or_imp, forall_eq, false_implies, implies_true, and_true] <;> omega) | (repeat' (first | exact True.intro | rfl | refine And.intro ?_ ?_ | (rw [sv_ne _ _ _ _ (by omega)]) | (rw [up_cell _ _ _ (by omega)]) | (rw [fil_cell _ _ _ _ _ (by omega)]) | (rw [hM _ (by omega)]) | (rw [hm _ (by omega)])))) | (have t_ := Inv.lv0 (hI); exact Or.inr t_)) (by first | (refine Or.inl (And.intro ?_ ?_) <;> first | (simp only [List.mem_cons, List.not_mem_nil, or_false, forall_eq_or_imp, forall_eq, false_implies, implies_true, and_true] <;> omega) | (repeat' (first | exact True.intro | rfl | refine And.intro ?_ ?_ | (rw [sv_ne _ _ _ _ (by omega)]) | (rw [up_cell _ _ _ (by omega)]) | (rw [fil_cell _ _ _ _ _ (by omega)]) | (rw [hM _ (by omega)]) | (rw [hm _ (by omega)])))) | (have t_ := Inv.lv2 (hI); exact Or.inr t_)) (by first | (refine Or.inl (And.intro ?_ ?_) <;> first | (simp only [List.mem_cons, List.not_mem_nil, or_false, forall_eq_or_imp, forall_eq, false_implies, implies_true, and_true] <;> omega) | (repeat' (first | exact True.intro | rfl | refine And.intro ?_ ?_ | (rw [sv_ne _ _ _ _ (by omega)]) | (rw [up_cell _ _ _ (by omega)]) | (rw [fil_cell _ _ _ _ _ (by omega)]) | (rw [hM _ (by omega)]) | (rw [hm _ (by omega)])))) | (have t_ := Inv.pl (hI); exact Or.inr t_)) (Or.inr (by
    intro _ j hj
    rw [ecn] at hj
    by_cases e : j = i
    · subst e; exact hPI
    · exact (hI.p hj).mem (fun k h1 h2 => hc k (by omega)) (far j hj e))) (by first | (refine Or.inl (And.intro ?_ ?_) <;> first | (simp only [List.mem_cons, List.not_mem_nil, or_false, forall_eq_or_imp, forall_eq, false_implies, implies_true, and_true] <;> omega) | (repeat' (first | exact True.intro | rfl | refine And.intro ?_ ?_ | (rw [sv_ne _ _ _ _ (by omega)]) | (rw [up_cell _ _ _ (by omega)]) | (rw [fil_cell _ _ _ _ _ (by omega)]) | (rw [hM _ (by omega)]) | (rw [hm _ (by omega)])))) | (have t_ := Inv.dis (hI); exact Or.inr t_)))
/-- reading a grant's word behind a write to one -/
theorem gw_gr {B : Nat} {m : it_Me} (hI : Inv B m) {i d k : Nat} (hi : i < cnt m) (hd : d < 9) (hg : m (14 + 5 * i + 4) d ≠ 0) (hk : k < gsz d) (h4 : k % 4 = 0) (v : Int32) {k' : Nat} (hk' : k' < gsz d) (h4' : k' % 4 = 0) : gw (pw m (m (14 + 5 * i + 4) d + nI k) v) (m (14 + 5 * i + 4) d + nI k') = if k' = k then v else gw m (m (14 + 5 * i + 4) d + nI k') := by
  have a := gadr hI hi hd hg hk
  have a' := gadr hI hi hd hg hk'
  have g := (hI.p hi).gI hd hg
  rw [gw_pw _ _ a.2.1 (by omega) _ (by omega)]
  by_cases e : k' = k
  · subst e; rw [if_pos rfl, if_pos rfl]
  · rw [if_neg e, if_neg (fun q => e (by have := congrArg Int32.toInt q; omega))]
theorem gr_w {B : Nat} {m : it_Me} (hI : Inv B m) {i d k : Nat} (hi : i < cnt m) (hd : d < 9) (hg : m (14 + 5 * i + 4) d ≠ 0) (hk : k < gsz d) (h4 : k % 4 = 0) (h8 : 8 ≤ k) (v : Int32) : ∀ w, pw m (m (14 + 5 * i + 4) d + nI k) v 2 w ≠ m 2 w → (m (14 + 5 * i + 4) d).toInt + 8 ≤ 65536 + 4 * (w : Int) ∧ 65536 + 4 * (w : Int) < (m (14 + 5 * i + 4) d).toInt + gsz d := by
  intro w hw
  have a := gadr hI hi hd hg hk
  have g := (hI.p hi).gI hd hg
  rw [pw_in a.2.1] at hw
  have e : w = wi (m (14 + 5 * i + 4) d + nI k) := by
    by_cases e : w = wi (m (14 + 5 * i + 4) d + nI k)
    · exact e
    · exact absurd (sv_ne _ _ _ _ (Or.inr e)) hw
  have := wi_eq a.2.1
  omega
theorem Rel.grw {B : Nat} {m M : it_Me} (hI : Inv B m) (h : Rel m M) {i d k : Nat} (hi : i < cnt m) (hd : d < 9) (hg : m (14 + 5 * i + 4) d ≠ 0) (hk : k < gsz d) (h4 : k % 4 = 0) (h8 : 8 ≤ k) (v : Int32) (hW : d = 1 → k = 64 → v ≠ 0 → M 111 i = m 62 i + 1) (hR : d = 1 → k = 72 → v ≠ 0 → M 112 i = m 63 i + 1) : Rel (pw m (m (14 + 5 * i + 4) d + nI k) v) (pwM M (m (14 + 5 * i + 4) d + nI k) v) := by
  have a := gadr hI hi hd hg hk
  have hP := hI.p hi
  have g := hP.gI hd hg
  have o := hP.ord
  have s := hP.szI
  have cl := hP.ctlI
  have z : gsz 1 = 80 := by decide
  have ho := on_of hI hi
  have und : ∀ j, j < cnt m → ∀ k', k' < 80 → k' % 4 = 0 → m (14 + 5 * j + 4) 1 ≠ 0 → (j ≠ i ∨ d ≠ 1 ∨ k' ≠ k) → gw (pw m (m (14 + 5 * i + 4) d + nI k) v) (m (14 + 5 * j + 4) 1 + nI k') = gw m (m (14 + 5 * j + 4) 1 + nI k') := fun j hj k' hk' h4' hg1 hq => by
    have g' := (hI.p hj).gI (d := 1) (by omega) hg1
    have a' := gadr hI hj (d := 1) (k := k') (by omega) hg1 (by omega)
    have o' := (hI.p hj).ord
    have s' := (hI.p hj).szI
    have cl' := (hI.p hj).ctlI
    rw [gw_pw _ _ a.2.1 (by omega) _ (by omega), if_neg]
    intro q
    have q' := congrArg Int32.toInt q
    rcases Nat.lt_trichotomy j i with h' | h' | h'
    · have := hI.dis ho j i hi h'
      omega
    · subst h'
      by_cases e1 : d = 1
      · subst e1; omega
      · have := hP.gS (d := 1) (by omega) hg1 hd hg (Ne.symm e1)
        omega
    · have := hI.dis ho i j hj h'
      omega
  have cw : ∀ j, j < cnt m → ∀ k', k' < 64 → k' % 4 = 0 → gw (pw m (m (14 + 5 * i + 4) d + nI k) v) (ctl m j + nI k') = gw m (ctl m j + nI k') := fun j hj k' hk' h4' => by
    have o' := (hI.p hj).ord
    have s' := (hI.p hj).szI
    have cl' := (hI.p hj).ctlI
    have l' := (hI.p hj).low0
    have e' := adI (a := ctl m j) (k := k') (by omega) (by omega) (by omega)
    rw [gw_pw _ _ a.2.1 (by omega) _ (by omega), if_neg]
    intro q
    have q' := congrArg Int32.toInt q
    rcases Nat.lt_trichotomy j i with h' | h' | h'
    · have := hI.dis ho j i hi h'
      omega
    · subst h'; omega
    · have := hI.dis ho i j hj h'
      omega
  refine h.pwR (cnt_le hI) a.2.1 (by omega) (fun j hj hu => ?_) (fun j hj hu => ?_) (fun j hj => ?_)
  · unfold undW at hu
    rw [pw_c _ _ _ (by omega)] at hu
    by_cases e : j = i ∧ d = 1 ∧ k = 64
    · obtain ⟨rfl, rfl, rfl⟩ := e
      refine hW rfl rfl (fun q => hu.2 ?_)
      rw [show m (14 + 5 * j + 4) 1 + 64 = m (14 + 5 * j + 4) 1 + nI 64 from rfl, gw_gr hI hi hd hg hk h4 v hk h4, if_pos rfl]
      exact q
    · have := und j hj 64 (by omega) (by omega) hu.1 (by omega)
      refine h.worder j hj ⟨hu.1, ?_⟩
      rw [show m (14 + 5 * j + 4) 1 + 64 = m (14 + 5 * j + 4) 1 + nI 64 from rfl, ← this]
      exact hu.2
  · unfold undR at hu
    rw [pw_c _ _ _ (by omega)] at hu
    by_cases e : j = i ∧ d = 1 ∧ k = 72
    · obtain ⟨rfl, rfl, rfl⟩ := e
      refine hR rfl rfl (fun q => hu.2 ?_)
      rw [show m (14 + 5 * j + 4) 1 + 72 = m (14 + 5 * j + 4) 1 + nI 72 from rfl, gw_gr hI hi hd hg hk h4 v hk h4, if_pos rfl]
      exact q
    · have := und j hj 72 (by omega) (by omega) hu.1 (by omega)
      refine h.rorder j hj ⟨hu.1, ?_⟩
      rw [show m (14 + 5 * j + 4) 1 + 72 = m (14 + 5 * j + 4) 1 + nI 72 from rfl, ← this]
      exact hu.2
  · have c24 := cw j hj 24 (by omega) (by omega)
    have c28 := cw j hj 28 (by omega) (by omega)
    have c32 := cw j hj 32 (by omega) (by omega)
    have c40 := cw j hj 40 (by omega) (by omega)
    rw [show ctl m j + 24 = ctl m j + nI 24 from rfl, show ctl m j + 28 = ctl m j + nI 28 from rfl, show ctl m j + 32 = ctl m j + nI 32 from rfl, show ctl m j + 40 = ctl m j + nI 40 from rfl, c24, c28, c32, c40]
    exact h.ctlw j hj
