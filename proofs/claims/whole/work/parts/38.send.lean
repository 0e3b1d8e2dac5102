/-! Upcalls come: give, enter, the queue, send. -/
theorem rgC_sv {i : Nat} {k j : Nat} {v : Int32} : ∀ (l : List (Nat × Int32)) (m : it_Me), (k ≠ 14 + 5 * i + 2 ∨ ∀ x ∈ l, x.1 ≠ j) → rgC (it_sv m k j v) i l = it_sv (rgC m i l) k j v
  | [], _, _ => rfl
  | x :: l, m, h => by
    rw [rgC, rgC, sv_comm m k j v _ _ _ (by rcases h with h | h; exact Or.inl h; exact Or.inr (fun q => h x List.mem_cons_self q.symm)), rgC_sv l _ (by rcases h with h | h; exact Or.inl h; exact Or.inr (fun y hy => h y (List.mem_cons_of_mem _ hy)))]
theorem rgM_sv {i : Nat} {k j : Nat} {v : Int32} : ∀ (l : List (Nat × Int32)) (m : it_Me), (k ≠ 93 ∨ ∀ x ∈ l, 32 * i + x.1 ≠ j) → rgM (it_sv m k j v) i l = it_sv (rgM m i l) k j v
  | [], _, _ => rfl
  | x :: l, m, h => by
    rw [rgM, rgM, sv_comm m k j v _ _ _ (by rcases h with h | h; exact Or.inl h; exact Or.inr (fun q => h x List.mem_cons_self q.symm)), rgM_sv l _ (by rcases h with h | h; exact Or.inl h; exact Or.inr (fun y hy => h y (List.mem_cons_of_mem _ hy)))]
theorem ntC_sv (m : it_Me) (p q n : Int32) {k j : Nat} (v : Int32) (h : k ≠ 4 ∧ k ≠ 5 ∧ k ≠ 6) : ntC (it_sv m k j v) p q n = it_sv (ntC m p q n) k j v := by
  unfold ntC
  simp (disch := omega) only [sv_n1]
  rw [sv_comm m k j v 6 _ _ (by omega), sv_comm _ k j v 6 _ p (by omega), sv_comm _ k j v 6 _ q (by omega), sv_comm _ k j v 6 _ n (by omega), sv_comm _ k j v 4 3 _ (by omega), sv_comm _ k j v 4 4 _ (by omega), sv_comm _ k j v 5 11 _ (by omega)]
theorem nt_sv (m : it_Me) (p : Int32) (q : Nat) (n : Int32) {k j : Nat} (v : Int32) (h : k ≠ 4 ∧ k ≠ 5 ∧ k ≠ 6) : nt (it_sv m k j v) p q n = it_sv (nt m p q n) k j v := by
  unfold nt
  split
  · exact ntC_sv _ _ _ _ _ h
  · rw [ntC_sv _ _ _ _ _ h, sv_n1 _ _ _ _ _ (by omega), sv_comm _ k j v 5 _ _ (by omega)]
theorem ntM_sv (m : it_Me) (p q n : Int32) {k j : Nat} (v : Int32) (h : k ≠ 69 ∧ k ≠ 74 ∧ (k ≠ 66 ∨ j ≠ 6)) : ntM (it_sv m k j v) p q n = it_sv (ntM m p q n) k j v := by
  unfold ntM
  simp (disch := omega) only [sv_n1]
  have e : it_sv m k j v 66 6 = m 66 6 := sv_ne _ _ _ _ (by omega)
  rw [e, sv_comm m k j v 74 _ _ (by omega), sv_comm _ k j v 74 _ p (by omega), sv_comm _ k j v 74 _ q (by omega), sv_comm _ k j v 74 _ n (by omega), sv_comm _ k j v 69 11 _ (by omega)]
def gvC (m : it_Me) (i : Nat) (x a b c : Int32) : it_Me := nt (it_sv (it_sv (rgC m i [(10, a), (11, b), (12, c)]) (14 + 5 * i) 4 1) (14 + 5 * i) 9 1) (nI i) 1 x
def gvM (M : it_Me) (i : Nat) (x a b c : Int32) : it_Me := ntM (it_sv (it_sv (rgM M i [(10, a), (11, b), (12, c)]) 97 i 0) 69 6 (M 69 6 + 1)) (nI i) 1 x
theorem gvC_sv (m : it_Me) (i : Nat) (x a b c : Int32) {k j : Nat} (v : Int32) (h : k ≠ 4 ∧ k ≠ 5 ∧ k ≠ 6) (h2 : k ≠ 14 + 5 * i + 2 ∨ j ≠ 10 ∧ j ≠ 11 ∧ j ≠ 12) (h3 : k ≠ 14 + 5 * i ∨ j ≠ 4 ∧ j ≠ 9) : gvC (it_sv m k j v) i x a b c = it_sv (gvC m i x a b c) k j v := by
  unfold gvC
  rw [rgC_sv, sv_comm _ k j v _ 4 _ (by omega), sv_comm _ k j v _ 9 _ (by omega), nt_sv _ _ _ _ _ h]
  rcases h2 with h2 | h2
  · exact Or.inl h2
  · refine Or.inr (fun y hy => ?_)
    simp only [List.mem_cons, List.not_mem_nil, or_false] at hy
    rcases hy with rfl | rfl | rfl <;> simp only <;> omega
theorem gvC_c (m : it_Me) (i : Nat) (x a b c : Int32) {k : Nat} (h : k ≠ 4 ∧ k ≠ 5 ∧ k ≠ 6 ∧ k ≠ 14 + 5 * i ∧ k ≠ 14 + 5 * i + 2) : gvC m i x a b c k = m k := by
  unfold gvC
  rw [nt_c _ _ _ _ (by omega), sv_cell _ _ _ _ (by omega), sv_cell _ _ _ _ (by omega), rgC_c _ _ (by omega)]
theorem gvC_P (m : it_Me) (i : Nat) (x a b c : Int32) {j : Nat} (h : j ≠ 4 ∧ j ≠ 9) : gvC m i x a b c (14 + 5 * i) j = m (14 + 5 * i) j := by
  unfold gvC
  rw [nt_c _ _ _ _ (by omega), sv_n2 _ _ _ _ (by omega), sv_n2 _ _ _ _ (by omega), rgC_c _ _ (by omega)]
theorem gvC_4 (m : it_Me) (i : Nat) (x a b c : Int32) : gvC m i x a b c 4 0 = m 4 0 := by
  unfold gvC
  rw [nt_40, sv_n1 _ _ _ _ _ (by omega), sv_n1 _ _ _ _ _ (by omega), rgC_c _ _ (by omega)]
theorem cnt_rg {m : it_Me} {i : Nat} (l : List (Nat × Int32)) : cnt (rgC m i l) = cnt m := cnt_cg (by rw [rgC_c _ _ (by omega)])
theorem cnt_nt {m : it_Me} {p n : Int32} {k : Nat} : cnt (nt m p k n) = cnt m := cnt_cg (by rw [nt_c _ _ _ _ (by omega)])
theorem cnt_gv {m : it_Me} {i : Nat} {x a b c : Int32} : cnt (gvC m i x a b c) = cnt m := cnt_cg (by rw [gvC_c _ _ _ _ _ _ (by omega)])
theorem gv_I0 {B : Nat} {m : it_Me} (hI : Inv B m) {i : Nat} (hi : i < cnt m) (a b c : Int32) : Inv B (it_sv (it_sv (rgC m i [(10, a), (11, b), (12, c)]) (14 + 5 * i) 4 1) (14 + 5 * i) 9 1) := by
  have h1 := hI.rg (i := i) [(10, a), (11, b), (12, c)] hi (by simp)
  have c1 : i < cnt (rgC m i [(10, a), (11, b), (12, c)]) := by rw [cnt_rg]; exact hi
  have h2 := h1.fld (c := 4) (v := 1) c1 (by omega) (fun q => absurd q (by omega)) (fun q => absurd q (by omega))
  exact h2.fld (c := 9) (v := 1) (by rw [cnt_sv _ _ _ (by omega)]; exact c1) (by omega) (fun _ => ⟨by decide, fun q => absurd q (by decide)⟩) (fun q => absurd q (by omega))
theorem gv_I {B B' : Nat} {m : it_Me} (hI : Inv B m) (hB : B < 2147483000) (hB' : B + 1 ≤ B') {i : Nat} (hi : i < cnt m) (x a b c : Int32) : Inv B' (gvC m i x a b c) :=
  (gv_I0 hI hi a b c).note hB hB' _ (by omega) _
theorem gv_R {B : Nat} {m M : it_Me} (hI : Inv B m) (h : Rel m M) {i : Nat} (hi : i < cnt m) (hs : m (14 + 5 * i) 9 ≠ 4 ∧ m (14 + 5 * i) 9 ≠ 5) (x a b c : Int32) : Rel (gvC m i x a b c) (gvM (it_sv M 95 i 1) i x a b c) := by
  have h8 := cnt_le hI
  have R1 := h.ps1 h8 hi (a := 95) (c := 9) (by decide) (by omega) (by omega) 1 (fun _ _ _ => h.rsv i hi hs.1 hs.2) (fun q => absurd q (by omega))
  have c1 : cnt (it_sv m (14 + 5 * i) 9 1) = cnt m := cnt_sv _ _ _ (by omega)
  have R2 := R1.rg (i := i) [(10, a), (11, b), (12, c)] (by omega) (by omega) (by intro y hy; simp only [List.mem_cons, List.not_mem_nil, or_false] at hy; rcases hy with rfl | rfl | rfl <;> simp only <;> omega)
  rw [rgC_sv _ _ (Or.inl (by omega))] at R2
  have R3 := R2.rs (i := i) (by rw [cnt_sv _ _ _ (by omega), cnt_rg]; exact h8) (by rw [cnt_sv _ _ _ (by omega), cnt_rg]; exact hi) 1
  rw [sv_comm _ (14 + 5 * i) 9 1 (14 + 5 * i) 4 _ (by omega)] at R3
  have R4 := R3.note (gv_I0 hI hi a b c) (nI i) (k := 1) (by omega) (by omega) x
  have e6 : it_sv (rgM (it_sv M 95 i 1) i [(10, a), (11, b), (12, c)]) 97 i (rsI 1) 69 (cof 1) = it_sv M 95 i 1 69 6 := by
    rw [sv_n1 _ _ _ _ _ (by omega), rgM_c _ _ (by omega)]; rfl
  rw [e6] at R4
  exact R4
theorem c_83 {kc : it_Kc} (hk : KC kc) {B : Nat} {m : it_Me} (hI : Inv B m) {i : Nat} (hi : i < cnt m) {x1 x2 a b c : Int32} {Φ : it_Me → Prop} (h : Φ (gvC m i (16 * x1 + x2) a b c)) : w_83 kc (14 + 5 * i) x1 x2 a b c m Φ := by
  have h8 := cnt_le hI
  unfold w_83
  refine ⟨v32_10, v32_11, v32_12, ?_⟩
  have e0 : it_sv (it_sv (it_sv (it_sv (it_sv m (14 + 5 * i + 2) (Int32.toNatClampNeg 10) a) (14 + 5 * i + 2) (Int32.toNatClampNeg 11) b) (14 + 5 * i + 2) (Int32.toNatClampNeg 12) c) (14 + 5 * i) 4 1) (14 + 5 * i) 9 1 (14 + 5 * i) 0 = nI i := by
    rw [sv_n2 _ _ _ _ (by omega), sv_n2 _ _ _ _ (by omega), sv_n1 _ _ _ _ _ (by omega), sv_n1 _ _ _ _ _ (by omega), sv_n1 _ _ _ _ _ (by omega)]
    exact hI.num i (by omega)
  rw [e0]
  exact c_69 hk (gv_I0 hI hi a b c) (k := 1) (by omega) h
theorem r_275 {kc : it_Kc} {B : Nat} {m M : it_Me} (hI : Inv B m) (e11 : M 69 11 = m 5 11) {i : Nat} (h8 : i < 8) {x1 x2 a b c : Int32} {Φ : it_Me → Prop} (h : Φ (gvM M i (16 * x1 + x2) a b c)) : w_275 kc (nI i) x1 x2 a b c M Φ := by
  unfold w_275
  rw [ix_10 h8, ix_11 h8, ix_12 h8, cI h8, cl_6]
  refine ⟨vx_10 h8, vx_11 h8, vx_12 h8, vI h8, v12_6, v12_6, ?_⟩
  refine r_257 hI ?_ ?_
  · simp (disch := omega) only [sv_n1, sv_n2]; exact e11
  · simp (disch := omega) only [sv_n1]
    exact h
/-- the process goes on in its function -/
noncomputable def enC (m : it_Me) (i : Nat) (a : Int32) : it_Me := it_sv (it_sv (it_sv m (14 + 5 * i + 2) 1 (m (14 + 5 * i) 3)) (14 + 5 * i + 2) 13 (gw m (a + 4))) (14 + 5 * i) 3 (gw m a)
def enM (M : it_Me) (i : Nat) (v w : Int32) : it_Me := it_sv (it_sv (it_sv M 93 (32 * i + 1) (M 94 i)) 93 (32 * i + 13) v) 94 i w
theorem ga8 (g : Int32) (n : Nat) : g + 8 + 8 * nI n = g + nI (8 * (1 + n)) := by
  rw [nI8, Int32.add_assoc, show (8 : Int32) = nI 8 from rfl, nI_add, show 8 + 8 * n = 8 * (1 + n) by omega]
theorem ga12 (g : Int32) (n : Nat) : g + 12 + 8 * nI n = g + nI (8 * (1 + n) + 4) := by
  rw [nI8, Int32.add_assoc, show (12 : Int32) = nI 12 from rfl, nI_add, show 12 + 8 * n = 8 * (1 + n) + 4 by omega]
theorem ga4 (g : Int32) (n : Nat) : g + nI n + 4 = g + nI (n + 4) := by
  rw [Int32.add_assoc, show (4 : Int32) = nI 4 from rfl, nI_add]
theorem c_84 {kc : it_Kc} {i d n : Nat} (hd : d < 9) {m : it_Me} {Φ : it_Me → Prop} (h : Φ (enC m i (m (14 + 5 * i + 4) d + nI (8 * (1 + n))))) : w_84 kc (14 + 5 * i) (nI d) (nI n) m Φ := by
  unfold w_84
  refine c_87 hd ⟨v32_1, c_12 ⟨v32_13, c_12 ?_⟩⟩
  rw [gw_sv _ _ _ _ (by omega), gw_sv _ _ _ _ (by omega), gw_sv _ _ _ _ (by omega)]
  exact h
theorem en_R {m M : it_Me} (h : Rel m M) (h8 : cnt m ≤ 8) {i : Nat} (hi : i < cnt m) (a : Int32) : Rel (enC m i a) (enM M i (gw m (a + 4)) (gw m a)) := by
  unfold enC enM
  rw [h.pc hi]
  have R1 := h.reg h8 hi (r := 1) (by omega) (m (14 + 5 * i) 3)
  have R2 := R1.reg (i := i) (r := 13) (by rw [cnt_sv _ _ _ (by omega)]; exact h8) (by rw [cnt_sv _ _ _ (by omega)]; exact hi) (by omega) (gw m (a + 4))
  exact R2.ps1 (by rw [cnt_sv _ _ _ (by omega), cnt_sv _ _ _ (by omega)]; exact h8) (a := 94) (c := 3) (by rw [cnt_sv _ _ _ (by omega), cnt_sv _ _ _ (by omega)]; exact hi) (by decide) (by omega) (by omega) _ (fun q => absurd q (by omega)) (fun q => absurd q (by omega))
theorem en_I {B : Nat} {m : it_Me} (hI : Inv B m) {i : Nat} (hi : i < cnt m) (a : Int32) (he : (gw m a).toInt % 2 = 0) : Inv B (enC m i a) := by
  unfold enC
  refine ((hI.reg hi _ _).reg (by rw [cnt_sv _ _ _ (by omega)]; exact hi) _ _).fld (by rw [cnt_sv _ _ _ (by omega), cnt_sv _ _ _ (by omega)]; exact hi) (by omega) (fun q => absurd q (by omega)) (fun q => absurd q (by omega)) (fun _ => he)
theorem gv_en (m : it_Me) (i : Nat) (x a b c A : Int32) : gvC (enC m i A) i x a b c = enC (gvC m i x a b c) i A := by
  have e2 : gvC m i x a b c 2 = m 2 := gvC_c _ _ _ _ _ _ (by omega)
  unfold enC
  rw [gvC_sv _ _ _ _ _ _ _ (by omega) (by omega) (by omega), gvC_sv _ _ _ _ _ _ _ (by omega) (by omega) (by omega), gvC_sv _ _ _ _ _ _ _ (by omega) (by omega) (by omega), gvC_P _ _ _ _ _ _ (by omega), gw_cg e2, gw_cg e2]
theorem enC_c (m : it_Me) (i : Nat) (a : Int32) {k : Nat} (h : k ≠ 14 + 5 * i ∧ k ≠ 14 + 5 * i + 2) : enC m i a k = m k := by
  unfold enC
  rw [sv_cell _ _ _ _ (by omega), sv_cell _ _ _ _ (by omega), sv_cell _ _ _ _ (by omega)]
theorem en_95 (M : it_Me) (i : Nat) (v w : Int32) (z : Int32) : it_sv (enM M i v w) 95 i z = enM (it_sv M 95 i z) i v w := by
  unfold enM
  rw [sv_n1 _ _ _ _ _ (by omega), sv_comm M 95 i z _ _ _ (by omega), sv_comm _ 95 i z 93 (32 * i + 13) _ (by omega), sv_comm _ 95 i z 94 i _ (by omega)]
theorem cnt_en {m : it_Me} {i : Nat} {a : Int32} : cnt (enC m i a) = cnt m := cnt_cg (by rw [enC_c _ _ _ (by omega)])
/-- the words of CONTROL that count -/
theorem Rel.ctw {B : Nat} {m M : it_Me} (hI : Inv B m) (h : Rel m M) {i k a : Nat} (hi : i < cnt m) (hk : (k, a) ∈ ([(24, 102), (28, 103), (32, 104), (40, 105)] : List (Nat × Nat))) (v : Int32) : Rel (pw m (ctl m i + nI k) v) (it_sv M a i v) := by
  have hP := hI.p hi
  have o := hP.ord
  have s := hP.szI
  have cl := hP.ctlI
  have ho := on_of hI hi
  have hka : 24 ≤ k ∧ k ≤ 40 ∧ k % 4 = 0 ∧ 102 ≤ a ∧ a ≤ 105 ∧ (a = 102 ↔ k = 24) ∧ (a = 103 ↔ k = 28) ∧ (a = 104 ↔ k = 32) ∧ (a = 105 ↔ k = 40) := by
    simp only [List.mem_cons, List.not_mem_nil, or_false, Prod.mk.injEq] at hk
    omega
  have e := adI (a := ctl m i) (k := k) (by omega) (by omega) (by omega)
  have ha : InM (ctl m i + nI k) := ⟨by omega, by omega⟩
  have hm : ∀ x, x ≠ 2 → pw m (ctl m i + nI k) v x = m x := fun x hx => pw_c _ _ _ hx
  have hcn : cnt (pw m (ctl m i + nI k) v) = cnt m := cnt_cg (by rw [pw_c _ _ _ (by omega)])
  have hct : ∀ j, ctl (pw m (ctl m i + nI k) v) j = ctl m j := fun j => ctl_cg (pw_c _ _ _ (by omega))
  have und : ∀ j, j < cnt m → ∀ k', k' < 80 → k' % 4 = 0 → m (14 + 5 * j + 4) 1 ≠ 0 → gw (pw m (ctl m i + nI k) v) (m (14 + 5 * j + 4) 1 + nI k') = gw m (m (14 + 5 * j + 4) 1 + nI k') := fun j hj k' hk' h4' hg1 => by
    have g' := (hI.p hj).gI (d := 1) (by omega) hg1
    have z : gsz 1 = 80 := by decide
    have a' := gadr hI hj (d := 1) (k := k') (by omega) hg1 (by omega)
    have o' := (hI.p hj).ord
    have s' := (hI.p hj).szI
    have cl' := (hI.p hj).ctlI
    rw [gw_pw _ _ ha (by omega) _ (by omega), if_neg]
    intro q
    have q' := congrArg Int32.toInt q
    rcases Nat.lt_trichotomy j i with h' | h' | h'
    · have := hI.dis ho j i hi h'
      omega
    · subst h'; omega
    · have := hI.dis ho i j hj h'
      omega
  have cw : ∀ j, j < cnt m → ∀ k', k' < 64 → k' % 4 = 0 → gw (pw m (ctl m i + nI k) v) (ctl m j + nI k') = if j = i ∧ k' = k then v else gw m (ctl m j + nI k') := fun j hj k' hk' h4' => by
    have o' := (hI.p hj).ord
    have s' := (hI.p hj).szI
    have cl' := (hI.p hj).ctlI
    have l' := (hI.p hj).low0
    have e' := adI (a := ctl m j) (k := k') (by omega) (by omega) (by omega)
    rw [gw_pw _ _ ha (by omega) _ (by omega)]
    by_cases q2 : j = i ∧ k' = k
    · obtain ⟨rfl, rfl⟩ := q2; rw [if_pos rfl, if_pos ⟨rfl, rfl⟩]
    · rw [if_neg q2, if_neg]
      intro q
      have q' := congrArg Int32.toInt q
      rcases Nat.lt_trichotomy j i with h' | h' | h'
      · have := hI.dis ho j i hi h'
        omega
      · subst h'; omega
      · have := hI.dis ho i j hj h'
        omega
  exact (Rel.upd (h) (cnt_le hI) ([2]) ([a]) (fun x hx => pw_c _ _ _ (by simpa using hx)) (fun x hx => sv_cell _ _ _ _ (by simpa using hx)) (by first | (refine Or.inl (And.intro ?_ (And.intro ?_ ?_)) <;> first | (simp only [List.mem_cons, List.not_mem_nil, or_false, forall_eq_or_imp, forall_eq, false_implies, implies_true, and_true] <;> omega) | (repeat' (first | exact True.intro | rfl | refine And.intro ?_ ?_ | (rw [sv_ne _ _ _ _ (by omega)]) | (rw [up_cell _ _ _ (by omega)]) | (rw [fil_cell _ _ _ _ _ (by omega)]) | (rw [hM _ (by omega)]) | (rw [hm _ (by omega)])))) | (have t_ := Rel.tapeLen (h); exact Or.inr t_)) (by first | (refine Or.inl (And.intro ?_ (And.intro ?_ ?_)) <;> first | (simp only [List.mem_cons, List.not_mem_nil, or_false, forall_eq_or_imp, forall_eq, false_implies, implies_true, and_true] <;> omega) | (repeat' (first | exact True.intro | rfl | refine And.intro ?_ ?_ | (rw [sv_ne _ _ _ _ (by omega)]) | (rw [up_cell _ _ _ (by omega)]) | (rw [fil_cell _ _ _ _ _ (by omega)]) | (rw [hM _ (by omega)]) | (rw [hm _ (by omega)])))) | (have t_ := Rel.on (h); exact Or.inr t_)) (by first | (refine Or.inl (And.intro ?_ (And.intro ?_ ?_)) <;> first | (simp only [List.mem_cons, List.not_mem_nil, or_false, forall_eq_or_imp, forall_eq, false_implies, implies_true, and_true] <;> omega) | (repeat' (first | exact True.intro | rfl | refine And.intro ?_ ?_ | (rw [sv_ne _ _ _ _ (by omega)]) | (rw [up_cell _ _ _ (by omega)]) | (rw [fil_cell _ _ _ _ _ (by omega)]) | (rw [hM _ (by omega)]) | (rw [hm _ (by omega)])))) | (have t_ := Rel.lost (h); exact Or.inr t_)) (by first | (refine Or.inl (And.intro ?_ (And.intro ?_ ?_)) <;> first | (simp only [List.mem_cons, List.not_mem_nil, or_false, forall_eq_or_imp, forall_eq, false_implies, implies_true, and_true] <;> omega) | (repeat' (first | exact True.intro | rfl | refine And.intro ?_ ?_ | (rw [sv_ne _ _ _ _ (by omega)]) | (rw [up_cell _ _ _ (by omega)]) | (rw [fil_cell _ _ _ _ _ (by omega)]) | (rw [hM _ (by omega)]) | (rw [hm _ (by omega)])))) | (have t_ := Rel.power (h); exact Or.inr t_)) (by first | (refine Or.inl (And.intro ?_ (And.intro ?_ ?_)) <;> first | (simp only [List.mem_cons, List.not_mem_nil, or_false, forall_eq_or_imp, forall_eq, false_implies, implies_true, and_true] <;> omega) | (repeat' (first | exact True.intro | rfl | refine And.intro ?_ ?_ | (rw [sv_ne _ _ _ _ (by omega)]) | (rw [up_cell _ _ _ (by omega)]) | (rw [fil_cell _ _ _ _ _ (by omega)]) | (rw [hM _ (by omega)]) | (rw [hm _ (by omega)])))) | (have t_ := Rel.time (h); exact Or.inr t_)) (by first | (refine Or.inl (And.intro ?_ (And.intro ?_ ?_)) <;> first | (simp only [List.mem_cons, List.not_mem_nil, or_false, forall_eq_or_imp, forall_eq, false_implies, implies_true, and_true] <;> omega) | (repeat' (first | exact True.intro | rfl | refine And.intro ?_ ?_ | (rw [sv_ne _ _ _ _ (by omega)]) | (rw [up_cell _ _ _ (by omega)]) | (rw [fil_cell _ _ _ _ _ (by omega)]) | (rw [hM _ (by omega)]) | (rw [hm _ (by omega)])))) | (have t_ := Rel.z (h); exact Or.inr t_)) (by first | (refine Or.inl (And.intro ?_ (And.intro ?_ ?_)) <;> first | (simp only [List.mem_cons, List.not_mem_nil, or_false, forall_eq_or_imp, forall_eq, false_implies, implies_true, and_true] <;> omega) | (repeat' (first | exact True.intro | rfl | refine And.intro ?_ ?_ | (rw [sv_ne _ _ _ _ (by omega)]) | (rw [up_cell _ _ _ (by omega)]) | (rw [fil_cell _ _ _ _ _ (by omega)]) | (rw [hM _ (by omega)]) | (rw [hm _ (by omega)])))) | (have t_ := Rel.count (h); exact Or.inr t_)) (by first | (refine Or.inl (And.intro ?_ (And.intro ?_ ?_)) <;> first | (simp only [List.mem_cons, List.not_mem_nil, or_false, forall_eq_or_imp, forall_eq, false_implies, implies_true, and_true] <;> omega) | (repeat' (first | exact True.intro | rfl | refine And.intro ?_ ?_ | (rw [sv_ne _ _ _ _ (by omega)]) | (rw [up_cell _ _ _ (by omega)]) | (rw [fil_cell _ _ _ _ _ (by omega)]) | (rw [hM _ (by omega)]) | (rw [hm _ (by omega)])))) | (have t_ := Rel.turn (h); exact Or.inr t_)) (by first | (refine Or.inl (And.intro ?_ (And.intro ?_ ?_)) <;> first | (simp only [List.mem_cons, List.not_mem_nil, or_false, forall_eq_or_imp, forall_eq, false_implies, implies_true, and_true] <;> omega) | (repeat' (first | exact True.intro | rfl | refine And.intro ?_ ?_ | (rw [sv_ne _ _ _ _ (by omega)]) | (rw [up_cell _ _ _ (by omega)]) | (rw [fil_cell _ _ _ _ _ (by omega)]) | (rw [hM _ (by omega)]) | (rw [hm _ (by omega)])))) | (have t_ := Rel.bank (h); exact Or.inr t_)) (by first | (refine Or.inl (And.intro ?_ (And.intro ?_ ?_)) <;> first | (simp only [List.mem_cons, List.not_mem_nil, or_false, forall_eq_or_imp, forall_eq, false_implies, implies_true, and_true] <;> omega) | (repeat' (first | exact True.intro | rfl | refine And.intro ?_ ?_ | (rw [sv_ne _ _ _ _ (by omega)]) | (rw [up_cell _ _ _ (by omega)]) | (rw [fil_cell _ _ _ _ _ (by omega)]) | (rw [hM _ (by omega)]) | (rw [hm _ (by omega)])))) | (have t_ := Rel.tape (h); exact Or.inr t_)) (by first | (refine Or.inl (And.intro ?_ (And.intro ?_ ?_)) <;> first | (simp only [List.mem_cons, List.not_mem_nil, or_false, forall_eq_or_imp, forall_eq, false_implies, implies_true, and_true] <;> omega) | (repeat' (first | exact True.intro | rfl | refine And.intro ?_ ?_ | (rw [sv_ne _ _ _ _ (by omega)]) | (rw [up_cell _ _ _ (by omega)]) | (rw [fil_cell _ _ _ _ _ (by omega)]) | (rw [hM _ (by omega)]) | (rw [hm _ (by omega)])))) | (have t_ := Rel.counts (h); exact Or.inr t_)) (by first | (refine Or.inl (And.intro ?_ (And.intro ?_ ?_)) <;> first | (simp only [List.mem_cons, List.not_mem_nil, or_false, forall_eq_or_imp, forall_eq, false_implies, implies_true, and_true] <;> omega) | (repeat' (first | exact True.intro | rfl | refine And.intro ?_ ?_ | (rw [sv_ne _ _ _ _ (by omega)]) | (rw [up_cell _ _ _ (by omega)]) | (rw [fil_cell _ _ _ _ _ (by omega)]) | (rw [hM _ (by omega)]) | (rw [hm _ (by omega)])))) | (have t_ := Rel.events (h); exact Or.inr t_)) (by first | (refine Or.inl (And.intro ?_ (And.intro ?_ ?_)) <;> first | (simp only [List.mem_cons, List.not_mem_nil, or_false, forall_eq_or_imp, forall_eq, false_implies, implies_true, and_true] <;> omega) | (repeat' (first | exact True.intro | rfl | refine And.intro ?_ ?_ | (rw [sv_ne _ _ _ _ (by omega)]) | (rw [up_cell _ _ _ (by omega)]) | (rw [fil_cell _ _ _ _ _ (by omega)]) | (rw [hM _ (by omega)]) | (rw [hm _ (by omega)])))) | (have t_ := Rel.out (h); exact Or.inr t_)) (by first | (refine Or.inl (And.intro ?_ (And.intro ?_ ?_)) <;> first | (simp only [List.mem_cons, List.not_mem_nil, or_false, forall_eq_or_imp, forall_eq, false_implies, implies_true, and_true] <;> omega) | (repeat' (first | exact True.intro | rfl | refine And.intro ?_ ?_ | (rw [sv_ne _ _ _ _ (by omega)]) | (rw [up_cell _ _ _ (by omega)]) | (rw [fil_cell _ _ _ _ _ (by omega)]) | (rw [hM _ (by omega)]) | (rw [hm _ (by omega)])))) | (have t_ := Rel.lamps (h); exact Or.inr t_)) (by first | (refine Or.inl (And.intro ?_ (And.intro ?_ ?_)) <;> first | (simp only [List.mem_cons, List.not_mem_nil, or_false, forall_eq_or_imp, forall_eq, false_implies, implies_true, and_true] <;> omega) | (repeat' (first | exact True.intro | rfl | refine And.intro ?_ ?_ | (rw [sv_ne _ _ _ _ (by omega)]) | (rw [up_cell _ _ _ (by omega)]) | (rw [fil_cell _ _ _ _ _ (by omega)]) | (rw [hM _ (by omega)]) | (rw [hm _ (by omega)])))) | (have t_ := Rel.buttons (h); exact Or.inr t_)) (by first | (refine Or.inl (And.intro ?_ (And.intro ?_ ?_)) <;> first | (simp only [List.mem_cons, List.not_mem_nil, or_false, forall_eq_or_imp, forall_eq, false_implies, implies_true, and_true] <;> omega) | (repeat' (first | exact True.intro | rfl | refine And.intro ?_ ?_ | (rw [sv_ne _ _ _ _ (by omega)]) | (rw [up_cell _ _ _ (by omega)]) | (rw [fil_cell _ _ _ _ _ (by omega)]) | (rw [hM _ (by omega)]) | (rw [hm _ (by omega)])))) | (have t_ := Rel.lev (h); exact Or.inr t_)) (Or.inr (by
    intro w hw hx j hj
    rw [sv_cell _ _ _ _ (by omega)]
    have hx' : ¬ excl m w := fun q => hx ((excl_ctl (by rw [pw_c _ _ _ (by omega)]) (fun j _ => hct j) w).mpr q)
    rw [pw_in ha, sv_ne _ _ _ _ (Or.inr ?_)]
    · exact h.mem w hw hx' j hj
    · intro q
      have := wi_eq ha
      exact hx' ⟨i, hi, by omega, by omega⟩)) (by first | (refine Or.inl (And.intro ?_ (And.intro ?_ ?_)) <;> first | (simp only [List.mem_cons, List.not_mem_nil, or_false, forall_eq_or_imp, forall_eq, false_implies, implies_true, and_true] <;> omega) | (repeat' (first | exact True.intro | rfl | refine And.intro ?_ ?_ | (rw [sv_ne _ _ _ _ (by omega)]) | (rw [up_cell _ _ _ (by omega)]) | (rw [fil_cell _ _ _ _ _ (by omega)]) | (rw [hM _ (by omega)]) | (rw [hm _ (by omega)])))) | (have t_ := Rel.sched (h); exact Or.inr t_)) (by first | (refine Or.inl (And.intro ?_ (And.intro ?_ ?_)) <;> first | (simp only [List.mem_cons, List.not_mem_nil, or_false, forall_eq_or_imp, forall_eq, false_implies, implies_true, and_true] <;> omega) | (repeat' (first | exact True.intro | rfl | refine And.intro ?_ ?_ | (rw [sv_ne _ _ _ _ (by omega)]) | (rw [up_cell _ _ _ (by omega)]) | (rw [fil_cell _ _ _ _ _ (by omega)]) | (rw [hM _ (by omega)]) | (rw [hm _ (by omega)])))) | (have t_ := Rel.done (h); exact Or.inr t_)) (by first | (refine Or.inl (And.intro ?_ (And.intro ?_ ?_)) <;> first | (simp only [List.mem_cons, List.not_mem_nil, or_false, forall_eq_or_imp, forall_eq, false_implies, implies_true, and_true] <;> omega) | (repeat' (first | exact True.intro | rfl | refine And.intro ?_ ?_ | (rw [sv_ne _ _ _ _ (by omega)]) | (rw [up_cell _ _ _ (by omega)]) | (rw [fil_cell _ _ _ _ _ (by omega)]) | (rw [hM _ (by omega)]) | (rw [hm _ (by omega)])))) | (have t_ := Rel.levels (h); exact Or.inr t_)) (by first | (refine Or.inl (And.intro ?_ (And.intro ?_ ?_)) <;> first | (simp only [List.mem_cons, List.not_mem_nil, or_false, forall_eq_or_imp, forall_eq, false_implies, implies_true, and_true] <;> omega) | (repeat' (first | exact True.intro | rfl | refine And.intro ?_ ?_ | (rw [sv_ne _ _ _ _ (by omega)]) | (rw [up_cell _ _ _ (by omega)]) | (rw [fil_cell _ _ _ _ _ (by omega)]) | (rw [hM _ (by omega)]) | (rw [hm _ (by omega)])))) | (have t_ := Rel.places (h); exact Or.inr t_)) (by first | (refine Or.inl (And.intro ?_ (And.intro ?_ ?_)) <;> first | (simp only [List.mem_cons, List.not_mem_nil, or_false, forall_eq_or_imp, forall_eq, false_implies, implies_true, and_true] <;> omega) | (repeat' (first | exact True.intro | rfl | refine And.intro ?_ ?_ | (rw [sv_ne _ _ _ _ (by omega)]) | (rw [up_cell _ _ _ (by omega)]) | (rw [fil_cell _ _ _ _ _ (by omega)]) | (rw [hM _ (by omega)]) | (rw [hm _ (by omega)])))) | (have t_ := Rel.asked (h); exact Or.inr t_)) (Or.inr (by
    intro j hj hu
    rw [hcn] at hj
    rw [sv_cell _ _ _ _ (by omega), pw_c _ _ _ (by omega)]
    unfold undW at hu
    rw [pw_c _ _ _ (by omega)] at hu
    have := und j hj 64 (by omega) (by omega) hu.1
    refine h.worder j hj ⟨hu.1, ?_⟩
    rw [show m (14 + 5 * j + 4) 1 + 64 = m (14 + 5 * j + 4) 1 + nI 64 from rfl, ← this]
    exact hu.2)) (Or.inr (by
    intro j hj hu
    rw [hcn] at hj
    rw [sv_cell _ _ _ _ (by omega), pw_c _ _ _ (by omega)]
    unfold undR at hu
    rw [pw_c _ _ _ (by omega)] at hu
    have := und j hj 72 (by omega) (by omega) hu.1
    refine h.rorder j hj ⟨hu.1, ?_⟩
    rw [show m (14 + 5 * j + 4) 1 + 72 = m (14 + 5 * j + 4) 1 + nI 72 from rfl, ← this]
    exact hu.2)) (by first | (refine Or.inl (And.intro ?_ (And.intro ?_ ?_)) <;> first | (simp only [List.mem_cons, List.not_mem_nil, or_false, forall_eq_or_imp, forall_eq, false_implies, implies_true, and_true] <;> omega) | (repeat' (first | exact True.intro | rfl | refine And.intro ?_ ?_ | (rw [sv_ne _ _ _ _ (by omega)]) | (rw [up_cell _ _ _ (by omega)]) | (rw [fil_cell _ _ _ _ _ (by omega)]) | (rw [hM _ (by omega)]) | (rw [hm _ (by omega)])))) | (have t_ := Rel.ps (h); exact Or.inr t_)) (by first | (refine Or.inl (And.intro ?_ (And.intro ?_ ?_)) <;> first | (simp only [List.mem_cons, List.not_mem_nil, or_false, forall_eq_or_imp, forall_eq, false_implies, implies_true, and_true] <;> omega) | (repeat' (first | exact True.intro | rfl | refine And.intro ?_ ?_ | (rw [sv_ne _ _ _ _ (by omega)]) | (rw [up_cell _ _ _ (by omega)]) | (rw [fil_cell _ _ _ _ _ (by omega)]) | (rw [hM _ (by omega)]) | (rw [hm _ (by omega)])))) | (have t_ := Rel.app (h); exact Or.inr t_)) (by first | (refine Or.inl (And.intro ?_ (And.intro ?_ ?_)) <;> first | (simp only [List.mem_cons, List.not_mem_nil, or_false, forall_eq_or_imp, forall_eq, false_implies, implies_true, and_true] <;> omega) | (repeat' (first | exact True.intro | rfl | refine And.intro ?_ ?_ | (rw [sv_ne _ _ _ _ (by omega)]) | (rw [up_cell _ _ _ (by omega)]) | (rw [fil_cell _ _ _ _ _ (by omega)]) | (rw [hM _ (by omega)]) | (rw [hm _ (by omega)])))) | (have t_ := Rel.name (h); exact Or.inr t_)) (by first | (refine Or.inl (And.intro ?_ (And.intro ?_ ?_)) <;> first | (simp only [List.mem_cons, List.not_mem_nil, or_false, forall_eq_or_imp, forall_eq, false_implies, implies_true, and_true] <;> omega) | (repeat' (first | exact True.intro | rfl | refine And.intro ?_ ?_ | (rw [sv_ne _ _ _ _ (by omega)]) | (rw [up_cell _ _ _ (by omega)]) | (rw [fil_cell _ _ _ _ _ (by omega)]) | (rw [hM _ (by omega)]) | (rw [hm _ (by omega)])))) | (have t_ := Rel.number (h); exact Or.inr t_)) (by first | (refine Or.inl (And.intro ?_ (And.intro ?_ ?_)) <;> first | (simp only [List.mem_cons, List.not_mem_nil, or_false, forall_eq_or_imp, forall_eq, false_implies, implies_true, and_true] <;> omega) | (repeat' (first | exact True.intro | rfl | refine And.intro ?_ ?_ | (rw [sv_ne _ _ _ _ (by omega)]) | (rw [up_cell _ _ _ (by omega)]) | (rw [fil_cell _ _ _ _ _ (by omega)]) | (rw [hM _ (by omega)]) | (rw [hm _ (by omega)])))) | (have t_ := Rel.bits (h); exact Or.inr t_)) (by first | (refine Or.inl (And.intro ?_ (And.intro ?_ ?_)) <;> first | (simp only [List.mem_cons, List.not_mem_nil, or_false, forall_eq_or_imp, forall_eq, false_implies, implies_true, and_true] <;> omega) | (repeat' (first | exact True.intro | rfl | refine And.intro ?_ ?_ | (rw [sv_ne _ _ _ _ (by omega)]) | (rw [up_cell _ _ _ (by omega)]) | (rw [fil_cell _ _ _ _ _ (by omega)]) | (rw [hM _ (by omega)]) | (rw [hm _ (by omega)])))) | (have t_ := Rel.regs (h); exact Or.inr t_)) (by first | (refine Or.inl (And.intro ?_ (And.intro ?_ ?_)) <;> first | (simp only [List.mem_cons, List.not_mem_nil, or_false, forall_eq_or_imp, forall_eq, false_implies, implies_true, and_true] <;> omega) | (repeat' (first | exact True.intro | rfl | refine And.intro ?_ ?_ | (rw [sv_ne _ _ _ _ (by omega)]) | (rw [up_cell _ _ _ (by omega)]) | (rw [fil_cell _ _ _ _ _ (by omega)]) | (rw [hM _ (by omega)]) | (rw [hm _ (by omega)])))) | (have t_ := Rel.rsv (h); exact Or.inr t_)) (by first | (refine Or.inl (And.intro ?_ (And.intro ?_ ?_)) <;> first | (simp only [List.mem_cons, List.not_mem_nil, or_false, forall_eq_or_imp, forall_eq, false_implies, implies_true, and_true] <;> omega) | (repeat' (first | exact True.intro | rfl | refine And.intro ?_ ?_ | (rw [sv_ne _ _ _ _ (by omega)]) | (rw [up_cell _ _ _ (by omega)]) | (rw [fil_cell _ _ _ _ _ (by omega)]) | (rw [hM _ (by omega)]) | (rw [hm _ (by omega)])))) | (have t_ := Rel.queue (h); exact Or.inr t_)) (Or.inr (by
    intro j hj
    rw [hcn] at hj
    have c24 := cw j hj 24 (by omega) (by omega)
    have c28 := cw j hj 28 (by omega) (by omega)
    have c32 := cw j hj 32 (by omega) (by omega)
    have c40 := cw j hj 40 (by omega) (by omega)
    have old := h.ctlw j hj
    rw [hct, show ctl m j + 24 = ctl m j + nI 24 from rfl, show ctl m j + 28 = ctl m j + nI 28 from rfl, show ctl m j + 32 = ctl m j + nI 32 from rfl, show ctl m j + 40 = ctl m j + nI 40 from rfl, c24, c28, c32, c40, sv_rd, sv_rd, sv_rd, sv_rd]
    refine ⟨?_, ?_, ?_, ?_⟩
    · by_cases q : j = i ∧ 24 = k
      · rw [if_pos q, if_pos (by omega)]
      · rw [if_neg q, if_neg (by omega)]; exact old.1
    · by_cases q : j = i ∧ 28 = k
      · rw [if_pos q, if_pos (by omega)]
      · rw [if_neg q, if_neg (by omega)]; exact old.2.1
    · by_cases q : j = i ∧ 32 = k
      · rw [if_pos q, if_pos (by omega)]
      · rw [if_neg q, if_neg (by omega)]; exact old.2.2.1
    · by_cases q : j = i ∧ 40 = k
      · rw [if_pos q, if_pos (by omega)]
      · rw [if_neg q, if_neg (by omega)]; exact old.2.2.2)) (by first | (refine Or.inl (And.intro ?_ (And.intro ?_ ?_)) <;> first | (simp only [List.mem_cons, List.not_mem_nil, or_false, forall_eq_or_imp, forall_eq, false_implies, implies_true, and_true] <;> omega) | (repeat' (first | exact True.intro | rfl | refine And.intro ?_ ?_ | (rw [sv_ne _ _ _ _ (by omega)]) | (rw [up_cell _ _ _ (by omega)]) | (rw [fil_cell _ _ _ _ _ (by omega)]) | (rw [hM _ (by omega)]) | (rw [hm _ (by omega)])))) | (have t_ := Rel.wt (h); exact Or.inr t_)))
theorem ctw_I {B : Nat} {m : it_Me} (hI : Inv B m) {i k : Nat} (hi : i < cnt m) (hk : 24 ≤ k ∧ k ≤ 40 ∧ k % 4 = 0) (v : Int32) : Inv B (pw m (ctl m i + nI k) v) := by
  have hP := hI.p hi
  have o := hP.ord
  have s := hP.szI
  have cl := hP.ctlI
  have ho := on_of hI hi
  have e := adI (a := ctl m i) (k := k) (by omega) (by omega) (by omega)
  have ha : InM (ctl m i + nI k) := ⟨by omega, by omega⟩
  refine hI.memx ho (fun x hx => pw_c _ _ _ hx) (fun w hw => ?_)
  rw [pw_in ha] at hw
  have ew : w = wi (ctl m i + nI k) := by
    by_cases q : w = wi (ctl m i + nI k)
    · exact q
    · exact absurd (sv_ne _ _ _ _ (Or.inr q)) hw
  have := wi_eq ha
  refine ⟨by omega, fun j hj => ?_⟩
  have o' := (hI.p hj).ord
  have s' := (hI.p hj).szI
  have cl' := (hI.p hj).ctlI
  rcases Nat.lt_trichotomy j i with h' | h' | h'
  · have := hI.dis ho j i hi h'
    omega
  · subst h'; omega
  · have := hI.dis ho i j hj h'
    omega
