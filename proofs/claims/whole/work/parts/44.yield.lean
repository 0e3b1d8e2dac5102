/-! Yield. -/
theorem c_142l {kc : it_Kc} {i : Nat} {d n : Int32} {m : it_Me} (hq : (m (14 + 5 * i) 14).toInt ≤ 10) {Φ : Int32 → it_Me → Prop} {K39 : Int32 → it_Me → Prop} {K47 : it_Me → Prop} : ∀ (r c : Nat), ((c + r : Nat) : Int) = (m (14 + 5 * i) 14).toInt → (∀ k, c ≤ k → (k : Int) < (m (14 + 5 * i) 14).toInt → m (14 + 5 * i + 3) (5 * k) = d → m (14 + 5 * i + 3) (5 * k + 1) = n → (∀ j, c ≤ j → j < k → ¬ (m (14 + 5 * i + 3) (5 * j) = d ∧ m (14 + 5 * i + 3) (5 * j + 1) = n)) → K39 (nI k) m) → ((∀ k, c ≤ k → (k : Int) < (m (14 + 5 * i) 14).toInt → ¬ (m (14 + 5 * i + 3) (5 * k) = d ∧ m (14 + 5 * i + 3) (5 * k + 1) = n)) → K47 m) → w_142_2 kc Φ K39 K47 (r + 1) (14 + 5 * i) d n (nI c) m := by
  intro r
  induction r with
  | zero =>
    intro c hc h1 h2
    unfold w_142_2
    refine ⟨fun _ => h2 (fun k hk hk2 => by omega), fun q => absurd (by rw [Int32.le_iff_toInt_le, nI_toInt (by omega)]; omega) q⟩
  | succ r ih =>
    intro c hc h1 h2
    have e5 : nI c * 5 = nI (5 * c) := by rw [show nI c * 5 = nI (c * 5) from nI_mul c 5, Nat.mul_comm]
    have nx : ¬ (m (14 + 5 * i + 3) (5 * c) = d ∧ m (14 + 5 * i + 3) (5 * c + 1) = n) → w_142_2 kc Φ K39 K47 (r + 1) (14 + 5 * i) d n (nI (c + 1)) m := fun hne => by
      refine ih (c + 1) (by omega) (fun k hk hk2 e1 e2 hj => h1 k (by omega) hk2 e1 e2 (fun j hj1 hj2 => ?_)) (fun hh => h2 (fun k hk hk2 => ?_))
      · by_cases e : j = c
        · subst e; exact hne
        · exact hj j (by omega) hj2
      · by_cases e : k = c
        · subst e; exact hne
        · exact hh k (by omega) hk2
    unfold w_142_2 w_142_41
    rw [e5, show nI (5 * c) + 1 = nI (5 * c + 1) from nI_add _ 1, nI_clamp (n := 5 * c) (by omega), nI_clamp (n := 5 * c + 1) (by omega), nI_1]
    refine ⟨fun q => ?_, fun _ => ⟨by rw [vp_in_iff, nI_toInt (by omega)]; omega, fun q1 => ⟨by rw [vp_in_iff, nI_toInt (by omega)]; omega, fun q2 => h1 c (Nat.le_refl _) (by omega) q1 q2 (fun j a b => by omega), fun q2 => nx (fun q => q2 q.2)⟩, fun q1 => nx (fun q => q1 q.1)⟩⟩
    exfalso; rw [Int32.le_iff_toInt_le, nI_toInt (by omega)] at q; omega
theorem r_286l {kc : it_Kc} {B : Nat} {m M : it_Me} (hI : Inv B m) (hR : Rel m M) {i : Nat} (hi : i < cnt m) {d n : Int32} {Φ : it_Me → Prop} {K49 : Int32 → Int32 → Int32 → Int32 → Int32 → it_Me → Prop} {K109 : Int32 → Int32 → Int32 → it_Me → Prop} : ∀ (r c : Nat), ((c + r : Nat) : Int) = (m (14 + 5 * i) 14).toInt → (∀ k, c ≤ k → (k : Int) < (m (14 + 5 * i) 14).toInt → m (14 + 5 * i + 3) (5 * k) = d → m (14 + 5 * i + 3) (5 * k + 1) = n → (∀ j, c ≤ j → j < k → ¬ (m (14 + 5 * i + 3) (5 * j) = d ∧ m (14 + 5 * i + 3) (5 * j + 1) = n)) → K49 (nI i) d n (nI k) (nI (50 * i + 5 * k)) M) → ((∀ k, c ≤ k → (k : Int) < (m (14 + 5 * i) 14).toInt → ¬ (m (14 + 5 * i + 3) (5 * k) = d ∧ m (14 + 5 * i + 3) (5 * k + 1) = n)) → K109 (nI i) d n M) → w_286_3 kc Φ K49 K109 (r + 1) (nI i) d n (nI c) M := by
  have h8 := cnt_le hI
  have i8 : i < 8 := by omega
  have qn := (hI.p hi).qn
  intro r
  induction r with
  | zero =>
    intro c hc h1 h2
    unfold w_286_3
    rw [cI i8, hR.queued hi]
    refine ⟨vI i8, fun _ => h2 (fun k hk hk2 => by omega), fun q => absurd (by rw [Int32.le_iff_toInt_le, nI_toInt (by omega)]; omega) q⟩
  | succ r ih =>
    intro c hc h1 h2
    have ec : 50 * nI i + 5 * nI c = nI (50 * i + 5 * c) := by rw [show (50 : Int32) * nI i = nI (50 * i) from nI_mul 50 i, show (5 : Int32) * nI c = nI (5 * c) from nI_mul 5 c, nI_add]
    have nx : ¬ (m (14 + 5 * i + 3) (5 * c) = d ∧ m (14 + 5 * i + 3) (5 * c + 1) = n) → w_286_3 kc Φ K49 K109 (r + 1) (nI i) d n (nI (c + 1)) M := fun hne => by
      refine ih (c + 1) (by omega) (fun k hk hk2 e1 e2 hj => h1 k (by omega) hk2 e1 e2 (fun j hj1 hj2 => ?_)) (fun hh => h2 (fun k hk hk2 => ?_))
      · by_cases e : j = c
        · subst e; exact hne
        · exact hj j (by omega) hj2
      · by_cases e : k = c
        · subst e; exact hne
        · exact hh k (by omega) hk2
    have a1 := hR.queue i hi (5 * c) (by omega)
    have a2 := hR.queue i hi (5 * c + 1) (by omega)
    unfold w_286_3 w_286_103
    rw [cI i8, hR.queued hi, ec, show nI (50 * i + 5 * c) + 1 = nI (50 * i + (5 * c + 1)) from nI_add _ 1, nI_clamp (n := 50 * i + 5 * c) (by omega), nI_clamp (n := 50 * i + (5 * c + 1)) (by omega), nI_1, a1, a2]
    refine ⟨vI i8, fun q => ?_, fun _ => ⟨by rw [vp_in_iff, nI_toInt (by omega)]; omega, fun q1 => ⟨by rw [vp_in_iff, nI_toInt (by omega)]; omega, fun q2 => h1 c (Nat.le_refl _) (by omega) q1 q2 (fun j a b => by omega), fun q2 => nx (fun q => q2 q.2)⟩, fun q1 => nx (fun q => q1 q.1)⟩⟩
    exfalso; rw [Int32.le_iff_toInt_le, nI_toInt (by omega)] at q; omega
/-- the first of the queue's upcalls of a kind, or none -/
theorem q_cases (m : it_Me) (i : Nat) (d n : Int32) : ∀ q : Nat, (∃ k, k < q ∧ m (14 + 5 * i + 3) (5 * k) = d ∧ m (14 + 5 * i + 3) (5 * k + 1) = n ∧ ∀ j, j < k → ¬ (m (14 + 5 * i + 3) (5 * j) = d ∧ m (14 + 5 * i + 3) (5 * j + 1) = n)) ∨ ∀ k, k < q → ¬ (m (14 + 5 * i + 3) (5 * k) = d ∧ m (14 + 5 * i + 3) (5 * k + 1) = n)
  | 0 => Or.inr (fun k hk => by omega)
  | q + 1 => by
    rcases q_cases m i d n q with ⟨k, h1, h2⟩ | h
    · exact Or.inl ⟨k, by omega, h2⟩
    · by_cases e : m (14 + 5 * i + 3) (5 * q) = d ∧ m (14 + 5 * i + 3) (5 * q + 1) = n
      · exact Or.inl ⟨q, by omega, e.1, e.2, fun j hj => h j hj⟩
      · refine Or.inr (fun k hk => ?_)
        by_cases e2 : k = q
        · subst e2; exact e
        · exact h k (by omega)
theorem st1M {m M : it_Me} (h : Rel m M) {i : Nat} (hi : i < cnt m) (hs : m (14 + 5 * i) 9 = 1) {M' : it_Me} (e : M' 95 i = M 95 i) : it_sv M' 95 i 1 = M' := by
  have := sv_self M' 95 i
  rw [e, h.state hi, hs] at this
  exact this
theorem yf {kc : it_Kc} (hk : KC kc) {B : Nat} {m : it_Me} (hI : Inv B m) (hB : B < 2147483000) {i : Nat} (hi : i < cnt m) (hs : m (14 + 5 * i) 9 = 1) (d n : Int32) : Lv (w_176 kc (14 + 5 * i) d n) (w_286 kc (nI i) d n) (B + 1) m (Kp m) := by
  have h8 := cnt_le hI
  have i8 : i < 8 := by omega
  have hP := hI.p hi
  have qn := hP.qn
  have hq : ((0 + (m (14 + 5 * i) 14).toInt.toNat : Nat) : Int) = (m (14 + 5 * i) 14).toInt := by omega
  rcases q_cases m i d n (m (14 + 5 * i) 14).toInt.toNat with ⟨k, k1, k2, k3, k4⟩ | hno
  · have hkq : (k : Int) < (m (14 + 5 * i) 14).toInt := by omega
    have I1 := rm_I hI hi hkq
    refine ⟨rmC (gvC m i (16 * m (14 + 5 * i + 3) (5 * k) + m (14 + 5 * i + 3) (5 * k + 1)) (m (14 + 5 * i + 3) (5 * k + 2)) (m (14 + 5 * i + 3) (5 * k + 3)) (m (14 + 5 * i + 3) (5 * k + 4))) i k, fun Φ h => ?_, ?_, (gvC_K m i8 _ _ _ _).2.trans (rm_K _ i8).2, (gvC_K m i8 _ _ _ _).1.trans (rm_K _ i8).1, fun M hM Φ h => ?_⟩
    · unfold w_176 w_176_42
      refine ⟨_, c_142l qn.2 (m (14 + 5 * i) 14).toInt.toNat 0 hq (fun k' h1 h2 h3 h4 h5 => ?_) (fun hh => absurd ⟨k2, k3⟩ (hh k (by omega) hkq))⟩
      have ek : k' = k := by
        rcases Nat.lt_trichotomy k' k with q | q | q
        · exact absurd ⟨h3, h4⟩ (k4 k' q)
        · exact q
        · exact absurd ⟨k2, k3⟩ (h5 k (by omega) q)
      subst ek
      refine ⟨fun q => ?_, fun _ => c_81 hk hI hi hkq h⟩
      exfalso
      have := congrArg Int32.toInt q
      rw [nI_toInt (by omega)] at this
      have e1 : (-1 : Int32).toInt = -1 := by decide
      omega
    · rw [← gv_rm]
      exact gv_I I1 hB (Nat.le_refl _) (by rw [cnt_rm]; exact hi) _ _ _ _
    · unfold w_286
      refine ⟨_, r_286l hI hM hi (m (14 + 5 * i) 14).toInt.toNat 0 hq (fun k' h1 h2 h3 h4 h5 => ?_) (fun hh => absurd ⟨k2, k3⟩ (hh k (by omega) hkq))⟩
      have ek : k' = k := by
        rcases Nat.lt_trichotomy k' k with q | q | q
        · exact absurd ⟨h3, h4⟩ (k4 k' q)
        · exact q
        · exact absurd ⟨k2, k3⟩ (h5 k (by omega) q)
      subst ek
      have a2 := hM.queue i hi (5 * k' + 2) (by omega)
      have a3 := hM.queue i hi (5 * k' + 3) (by omega)
      have a4 := hM.queue i hi (5 * k' + 4) (by omega)
      unfold w_286_49
      rw [show nI (50 * i + 5 * k') + 2 = nI (50 * i + (5 * k' + 2)) from nI_add _ 2, show nI (50 * i + 5 * k') + 3 = nI (50 * i + (5 * k' + 3)) from nI_add _ 3, show nI (50 * i + 5 * k') + 4 = nI (50 * i + (5 * k' + 4)) from nI_add _ 4, nI_clamp (n := 50 * i + (5 * k' + 2)) (by omega), nI_clamp (n := 50 * i + (5 * k' + 3)) (by omega), nI_clamp (n := 50 * i + (5 * k' + 4)) (by omega), a2, a3, a4]
      have R1 := rm_R hI hM hi hkq
      have R2 := gv_R I1 R1 (i := i) (by rw [cnt_rm]; exact hi) (by rw [rm_P _ _ _ (by omega), hs]; exact ⟨by decide, by decide⟩) (16 * d + n) (m (14 + 5 * i + 3) (5 * k' + 2)) (m (14 + 5 * i + 3) (5 * k' + 3)) (m (14 + 5 * i + 3) (5 * k' + 4))
      rw [st1M hM hi hs (M' := rmM M i k') (by rw [rmM_c _ _ _ (by omega)]), gv_rm] at R2
      rw [k2, k3] at h
      refine ⟨by rw [vp_in_iff, nI_toInt (by omega)]; omega, by rw [vp_in_iff, nI_toInt (by omega)]; omega, by rw [vp_in_iff, nI_toInt (by omega)]; omega, r_277 i8 (by rw [hM.queued hi]; exact hkq) (by rw [hM.queued hi]; exact qn.2) (r_275 I1 (R1.counts 11 (by omega)) i8 (h _ R2 ?_))⟩
      intro x hx
      rw [gvM_fr _ _ _ _ _ _ x hx, rmM_c _ _ _ (by omega)]
  · have I1 := hI.fld (c := 9) (v := 3) hi (by omega) (fun _ => ⟨by decide, fun q => absurd q (by decide)⟩) (fun q => absurd q (by omega))
    have c1 : ∀ (m : it_Me) c v, cnt (it_sv m (14 + 5 * i) c v) = cnt m := fun m c v => cnt_sv _ _ _ (by omega)
    have I2 := I1.fld (i := i) (c := 15) (v := d) (by rw [c1]; exact hi) (by omega) (fun q => absurd q (by omega)) (fun q => absurd q (by omega))
    have I3 := I2.fld (i := i) (c := 16) (v := n) (by rw [c1, c1]; exact hi) (by omega) (fun q => absurd q (by omega)) (fun q => absurd q (by omega))
    refine ⟨it_sv (it_sv (it_sv m (14 + 5 * i) 9 3) (14 + 5 * i) 15 d) (14 + 5 * i) 16 n, fun Φ h => ?_, I3.mono (by omega), ((FrC.rfl.sv (by omega)).sv (by omega)).sv (by omega), ((Kp.rfl.sv (by omega)).sv (by omega)).sv (by omega), fun M hM Φ h => ?_⟩
    · unfold w_176 w_176_42
      refine ⟨_, c_142l qn.2 (m (14 + 5 * i) 14).toInt.toNat 0 hq (fun k' h1 h2 h3 h4 h5 => absurd ⟨h3, h4⟩ (hno k' (by omega))) (fun _ => ⟨fun _ => h, fun q => absurd rfl q⟩)⟩
    · have R1 := hM.ps1 h8 hi (a := 95) (c := 9) (by decide) (by omega) (by omega) 3 (fun _ _ _ => hM.rsv i hi (by rw [hs]; decide) (by rw [hs]; decide)) (fun q => absurd q (by omega))
      have R2 := R1.ps1 (i := i) (a := 98) (c := 15) (by rw [c1]; exact h8) (by rw [c1]; exact hi) (by decide) (by omega) (by omega) d (fun q => absurd q (by omega)) (fun q => absurd q (by omega))
      have R3 := R2.ps1 (i := i) (a := 99) (c := 16) (by rw [c1, c1]; exact h8) (by rw [c1, c1]; exact hi) (by decide) (by omega) (by omega) n (fun q => absurd q (by omega)) (fun q => absurd q (by omega))
      unfold w_286
      refine ⟨_, r_286l hI hM hi (m (14 + 5 * i) 14).toInt.toNat 0 hq (fun k' h1 h2 h3 h4 h5 => absurd ⟨h3, h4⟩ (hno k' (by omega))) (fun _ => ?_)⟩
      unfold w_286_109
      rw [cI i8]
      exact ⟨vI i8, vI i8, vI i8, h _ R3 (((FrM.rfl.sv (by omega)).sv (by omega)).sv (by omega))⟩
/-- runFirst -/
theorem rf {kc : it_Kc} (hk : KC kc) {B : Nat} {m : it_Me} (hI : Inv B m) (hB : B < 2147483000) {i : Nat} (hi : i < cnt m) (hs : m (14 + 5 * i) 9 = 1) (hq : 0 < (m (14 + 5 * i) 14).toInt) : Lv (w_82 kc (14 + 5 * i)) (w_278 kc (nI i)) (B + 1) m (Kp m) := by
  have h8 := cnt_le hI
  have i8 : i < 8 := by omega
  have hP := hI.p hi
  have qn := hP.qn
  obtain ⟨d, hd, q0, hg, n0, n1⟩ := hP.q 0 (by omega)
  rw [show 5 * 0 = 0 from rfl] at q0 n0 n1
  rw [Nat.zero_add] at n0 n1
  obtain ⟨n, hn, hnd⟩ : ∃ n : Nat, m (14 + 5 * i + 3) 1 = nI n ∧ n < sbN d := ⟨(m (14 + 5 * i + 3) 1).toInt.toNat, Int32.toInt_inj.mp (by rw [nI_toInt (by have := kN hd; omega)]; omega), by omega⟩
  have I1 := rm_I hI hi (k := 0) (by omega)
  have k1 : i < cnt (rmC m i 0) := by rw [cnt_rm]; exact hi
  have g1 : rmC m i 0 (14 + 5 * i + 4) = m (14 + 5 * i + 4) := rm_c _ _ _ (by omega)
  have w1 : ∀ a, gw (rmC m i 0) a = gw m a := fun a => gw_cg (rm_c _ _ _ (by omega)) a
  refine ⟨enC (rmC (gvC m i (16 * nI d + nI n) (m (14 + 5 * i + 3) 2) (m (14 + 5 * i + 3) 3) (m (14 + 5 * i + 3) 4)) i 0) i (m (14 + 5 * i + 4) d + nI (8 * (1 + n))), fun Φ h => ?_, ?_, ((gvC_K m i8 _ _ _ _).2.trans (rm_K _ i8).2).trans (enC_K _ i8 _).2, ((gvC_K m i8 _ _ _ _).1.trans (rm_K _ i8).1).trans (enC_K _ i8 _).1, fun M hM Φ h => ?_⟩
  · unfold w_82
    refine ⟨v50_0, v50_1, c_81 hk hI hi (k := 0) (by omega) ?_⟩
    show w_84 kc (14 + 5 * i) (m (14 + 5 * i + 3) 0) (m (14 + 5 * i + 3) 1) _ _
    rw [q0, hn]
    refine c_84 hd ?_
    rw [rm_c (x := 14 + 5 * i + 4) _ _ _ (by omega), gvC_c (k := 14 + 5 * i + 4) _ _ _ _ _ _ (by omega)]
    exact h
  · rw [← gv_rm]
    exact en_I (gv_I I1 hB (Nat.le_refl _) k1 _ _ _ _) (by rw [cnt_gv]; exact k1) _ (by rw [gw_cg (gvC_c _ _ _ _ _ _ (by omega)), w1]; exact hP.sfe d hd hg n hnd)
  · have a0 := hM.queue i hi 0 (by omega)
    have a1 := hM.queue i hi 1 (by omega)
    have a2 := hM.queue i hi 2 (by omega)
    have a3 := hM.queue i hi 3 (by omega)
    have a4 := hM.queue i hi 4 (by omega)
    rw [Nat.add_zero] at a0
    have R1 := rm_R hI hM hi (k := 0) (by omega)
    unfold w_278
    rw [show (50 : Int32) * nI i = nI (50 * i) from nI_mul 50 i, show nI (50 * i) + 1 = nI (50 * i + 1) from nI_add _ 1, show nI (50 * i) + 2 = nI (50 * i + 2) from nI_add _ 2, show nI (50 * i) + 3 = nI (50 * i + 3) from nI_add _ 3, show nI (50 * i) + 4 = nI (50 * i + 4) from nI_add _ 4, nI_clamp (n := 50 * i) (by omega), nI_clamp (n := 50 * i + 1) (by omega), nI_clamp (n := 50 * i + 2) (by omega), nI_clamp (n := 50 * i + 3) (by omega), nI_clamp (n := 50 * i + 4) (by omega), a0, a1, a2, a3, a4, q0, hn]
    have vv : ∀ x, x < 400 → vp_in (nI x) 400 := fun x hx => by rw [vp_in_iff, nI_toInt (by omega)]; omega
    refine ⟨vv _ (by omega), vv _ (by omega), vv _ (by omega), vv _ (by omega), vv _ (by omega), r_277 (k := 0) i8 (by rw [hM.queued hi]; omega) (by rw [hM.queued hi]; exact qn.2) (r_276 I1 R1 k1 hd (by rw [g1]; exact hg) hnd ?_)⟩
    rw [g1, w1, w1, ← ga4]
    have R2 := en_R R1 (by rw [cnt_rm]; exact h8) k1 (m (14 + 5 * i + 4) d + nI (8 * (1 + n)))
    have I2 := en_I I1 k1 (m (14 + 5 * i + 4) d + nI (8 * (1 + n))) (by rw [w1]; exact hP.sfe d hd hg n hnd)
    have e9 : enC (rmC m i 0) i (m (14 + 5 * i + 4) d + nI (8 * (1 + n))) (14 + 5 * i) 9 = m (14 + 5 * i) 9 := by unfold enC; rw [sv_n2 _ _ _ _ (by omega), sv_n1 _ _ _ _ _ (by omega), sv_n1 _ _ _ _ _ (by omega), rm_P _ _ _ (by omega)]
    have R3 := gv_R I2 R2 (i := i) (by rw [cnt_en]; exact k1) (by rw [e9, hs]; exact ⟨by decide, by decide⟩) (16 * nI d + nI n) (m (14 + 5 * i + 3) 2) (m (14 + 5 * i + 3) 3) (m (14 + 5 * i + 3) 4)
    rw [w1, w1] at R3
    rw [st1M hM hi hs (M' := enM (rmM M i 0) i (gw m (m (14 + 5 * i + 4) d + nI (8 * (1 + n)) + 4)) (gw m (m (14 + 5 * i + 4) d + nI (8 * (1 + n))))) (by unfold enM; rw [sv_n1 _ _ _ _ _ (by omega), sv_n1 _ _ _ _ _ (by omega), sv_n1 _ _ _ _ _ (by omega), rmM_c _ _ _ (by omega)]), gv_en, gv_rm] at R3
    refine h _ R3 (fun x hx => ?_)
    rw [gvM_fr _ _ _ _ _ _ x hx, enM_fr _ _ _ _ x hx, rmM_c _ _ _ (by omega)]
