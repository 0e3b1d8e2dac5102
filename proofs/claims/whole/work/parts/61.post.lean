/-! The post: send, find by name. -/
theorem gbE {m M : it_Me} (hR : Rel m M) {a b : Int32} (ha : InM a) (hx : ¬ excl m (wi a)) (hb : InM b) (hy : ¬ excl m (wi b)) : M 67 (Int32.toNatClampNeg a) = M 67 (Int32.toNatClampNeg b) ↔ gb m a = gb m b := by
  rw [ad_eq ha, hR.mem _ (wi_lt ha) hx _ (bj_lt a), gb_in ha, ad_eq hb, hR.mem _ (wi_lt hb) hy _ (bj_lt b), gb_in hb, sb_inj (bj_lt a) (bj_lt b)]
def nmP (m : it_Me) (a n : Int32) (k : Nat) : Prop := m (14 + 5 * k + 1) 10 ≠ 0 ∧ m (14 + 5 * k + 1) 11 = n ∧ ∀ x : Nat, 0 ≤ x → (x : Int) < n.toInt → gb m (m (14 + 5 * k + 1) 10 + nI x) = gb m (a + nI x)
theorem c_7 {kc : it_Kc} {m : it_Me} {a n : Int32} {k : Nat} {Φ : Int32 → it_Me → Prop} (h1 : nmP m a n k → Φ 1 m) (h0 : ¬ nmP m a n k → Φ 0 m) : w_7 kc (14 + 5 * k + 1) a n m Φ := by
  unfold w_7 w_7_35 w_7_36
  refine ⟨fun q => ⟨Or.inl rfl, h0 (fun p => p.1 q)⟩, fun q => ⟨fun q2 => ?_, fun q2 => ⟨Or.inl rfl, h0 (fun p => q2 p.2.1)⟩⟩⟩
  unfold w_20
  refine ⟨_, smL (r := n.toInt.toNat) (k := 0) (by omega) (fun q3 => ?_) (fun q3 => ?_)⟩
  · unfold w_20_36
    exact ⟨fun e => absurd e (by decide), fun _ => ⟨Or.inr rfl, h1 ⟨q, q2, q3⟩⟩⟩
  · unfold w_20_28
    exact ⟨fun _ => ⟨Or.inl rfl, h0 (fun p => q3 p.2.2)⟩, fun e => absurd rfl e⟩
theorem r_306z {kc : it_Kc} {M : it_Me} {a n v : Int32} {Φ : Int32 → it_Me → Prop} {K : Int32 → Int32 → Int32 → Int32 → it_Me → Prop} (r : Nat) (y : Int32) (h : K a n v 0 M) : w_306_40 kc Φ K (r + 1) a n v 0 y M := by
  unfold w_306_40
  exact ⟨fun _ => h, fun _ => ⟨fun _ => h, fun q => absurd rfl q⟩⟩
theorem r_306i {kc : it_Kc} {m M : it_Me} (hR : Rel m M) {a n : Int32} {k : Nat} (hk : k < 8) (hk' : k < cnt m) (h10 : m (14 + 5 * k + 1) 10 ≠ 0) (ha : ∀ x : Nat, (x : Int) < n.toInt → InM (a + nI x) ∧ ¬ excl m (wi (a + nI x))) (hb : ∀ x : Nat, (x : Int) < n.toInt → InM (m (14 + 5 * k + 1) 10 + nI x) ∧ ¬ excl m (wi (m (14 + 5 * k + 1) 10 + nI x))) {Φ : Int32 → it_Me → Prop} {K : Int32 → Int32 → Int32 → Int32 → it_Me → Prop} : ∀ (r y : Nat), y + r = n.toInt.toNat → ((∀ x : Nat, y ≤ x → (x : Int) < n.toInt → gb m (m (14 + 5 * k + 1) 10 + nI x) = gb m (a + nI x)) → K a n (nI k) 1 M) → (¬ (∀ x : Nat, y ≤ x → (x : Int) < n.toInt → gb m (m (14 + 5 * k + 1) 10 + nI x) = gb m (a + nI x)) → K a n (nI k) 0 M) → w_306_40 kc Φ K (r + 1) a n (nI k) 1 (nI y) M := by
  intro r
  induction r with
  | zero =>
    intro y hr h1 h0
    unfold w_306_40
    exact ⟨fun _ => h1 (fun x hx hx2 => absurd hx2 (by omega)), fun q => absurd ((crN hr).2 rfl) q⟩
  | succ r ih =>
    intro y hr h1 h0
    have nle : ¬ n ≤ nI y := fun q => absurd ((crN hr).1 q) (by omega)
    have A := ha y (by omega)
    have C := hb y (by omega)
    unfold w_306_40 w_306_82
    have e84 : M 84 k = m (14 + 5 * k + 1) 10 := by rw [(hR.name k hk').1, nz, if_neg h10]
    rw [nI_clamp (by omega), e84, nI_1]
    refine ⟨fun q => absurd q nle, fun _ => ⟨fun q => absurd q (by decide), fun _ => ⟨vI hk, (gb_i2b hR C.1 C.2).2, (gb_i2b hR A.1 A.2).2, ?_⟩⟩⟩
    rw [gbE hR C.1 C.2 A.1 A.2]
    refine ⟨fun e => ih (y + 1) (by omega) (fun hx => h1 (fun x a1 a2 => ?_)) (fun hx => h0 (fun q => hx (fun x a1 a2 => q x (by omega) a2))), fun e => r_306z r _ (h0 (fun q => e (q y (Nat.le_refl _) (by omega))))⟩
    by_cases ex : x = y
    · rw [ex]; exact e
    · exact hx x (by omega) a2
theorem nmB {B : Nat} {m : it_Me} (hI : Inv B m) {k : Nat} (hk : k < cnt m) (h10 : m (14 + 5 * k + 1) 10 ≠ 0) {n : Int32} (hn : m (14 + 5 * k + 1) 11 = n) : ∀ x : Nat, (x : Int) < n.toInt → InM (m (14 + 5 * k + 1) 10 + nI x) ∧ ¬ excl m (wi (m (14 + 5 * k + 1) 10 + nI x)) := fun x hx => by
  have hP := hI.p hk
  have ap := hP.app
  rcases hP.nm with e | e
  · exact absurd e h10
  · rw [hn] at e
    have ex : (nI x).toInt = x := nI_toInt (by omega)
    have ea : (m (14 + 5 * k + 1) 10 + nI x).toInt = (m (14 + 5 * k + 1) 10).toInt + x := by rw [add_I] <;> omega
    exact nexA hI (Or.inl (by omega))
/-- named: the first process of that name -/
theorem nmL {kc : it_Kc} {B : Nat} {m : it_Me} (hI : Inv B m) {a n : Int32} (ha : ∀ x : Nat, (x : Int) < n.toInt → InM (a + nI x) ∧ ¬ excl m (wi (a + nI x))) : ∀ (r k : Nat), k + r = cnt m → ∃ o : Option Nat, (∀ j, o = some j → j < cnt m) ∧ (∀ (Φ : it_Me → Prop) (K91 : Nat → Int32 → it_Me → Prop) (K104 : Nat → it_Me → Prop) (v1 : Nat), (match o with | none => K104 v1 m | some j => K91 v1 (nI j) m) → w_66_57 kc Φ K91 K104 (r + 1) v1 n a (nI k) m) ∧ ∀ M, Rel m M → ∀ (Φ : Int32 → it_Me → Prop) (K95 : Int32 → it_Me → Prop) (K103 : it_Me → Prop), (match o with | none => K103 M | some j => K95 (nI j) M) → w_306_2 kc Φ K95 K103 (r + 1) a n (nI k) M := by
  intro r
  have h8 := cnt_le hI
  have hce := cnt_eq hI
  induction r with
  | zero =>
    intro k hc
    have le : m 9 7 ≤ nI k := by rw [Int32.le_iff_toInt_le, nI_toInt (by omega)]; omega
    refine ⟨none, fun j e => (by cases e), fun Φ K91 K104 v1 h => ?_, fun M hM Φ K95 K103 h => ?_⟩
    · unfold w_66_57
      exact ⟨fun _ => h, fun q => absurd le q⟩
    · unfold w_306_2
      rw [hM.count]
      exact ⟨fun _ => h, fun q => absurd le q⟩
  | succ r ih =>
    intro k hc
    have nle : ¬ m 9 7 ≤ nI k := by rw [Int32.le_iff_toInt_le, nI_toInt (by omega)]; omega
    have hk' : k < cnt m := by omega
    have k8 : k < 8 := by omega
    have ref : ∀ M, Rel m M → ∀ (Φ : Int32 → it_Me → Prop) (K95 : Int32 → it_Me → Prop) (K103 : it_Me → Prop), (nmP m a n k → K95 (nI k) M) → (¬ nmP m a n k → w_306_2 kc Φ K95 K103 (r + 1) a n (nI (k + 1)) M) → w_306_2 kc Φ K95 K103 (r + 2) a n (nI k) M := fun M hM Φ K95 K103 h1 h0 => by
      unfold w_306_2
      rw [hM.count, nI_clamp (by omega), (hM.name k hk').1]
      have z34 : ¬ nmP m a n k → w_306_34 kc Φ (w_306_2 kc Φ K95 K103 (r + 1)) K95 K103 a n (nI k) M := fun q => by
        unfold w_306_34 w_306_35
        refine ⟨1, r_306z 0 _ ?_⟩
        unfold w_306_90
        rw [nI_1]
        exact ⟨fun _ => h0 q, fun q => absurd rfl q⟩
      refine ⟨fun q => absurd q nle, fun _ => ⟨vI k8, fun q => z34 (fun p => ?_), fun q => ⟨vI k8, ?_⟩⟩⟩
      · rw [nz, if_neg p.1] at q
        have nm := (hI.p hk').nm
        have ap := (hI.p hk').app
        have e1 : (-1 : Int32).toInt = -1 := by decide
        rcases nm with e | e
        · exact p.1 e
        · rw [q] at e; omega
      · have h10 : m (14 + 5 * k + 1) 10 ≠ 0 := fun e => q (by rw [nz, if_pos e])
        rw [(hM.name k hk').2 h10]
        refine ⟨fun q2 => ?_, fun q2 => z34 (fun p => q2 p.2.1)⟩
        unfold w_306_35
        refine ⟨_, r_306i hM k8 hk' h10 ha (nmB hI hk' h10 q2) n.toInt.toNat 0 (by omega) (fun q3 => ?_) (fun q3 => ?_)⟩
        · unfold w_306_90
          exact ⟨fun e => absurd e (by decide), fun _ => h1 ⟨h10, q2, q3⟩⟩
        · unfold w_306_90
          rw [nI_1]
          exact ⟨fun _ => h0 (fun p => q3 p.2.2), fun e => absurd rfl e⟩
    by_cases p : nmP m a n k
    · refine ⟨some k, fun j e => (by cases e; exact hk'), fun Φ K91 K104 v1 h => ?_, fun M hM Φ K95 K103 h => ref M hM Φ K95 K103 (fun _ => h) (fun q => absurd p q)⟩
      unfold w_66_57
      rw [nI_clamp (by omega)]
      exact ⟨fun q => absurd q nle, fun _ => ⟨vI k8, c_7 (fun _ => ⟨fun e => absurd e (by decide), fun _ => h⟩) (fun q => absurd p q)⟩⟩
    · obtain ⟨o, a1, a2, a3⟩ := ih (k + 1) (by omega)
      refine ⟨o, a1, fun Φ K91 K104 v1 h => ?_, fun M hM Φ K95 K103 h => ref M hM Φ K95 K103 (fun q => absurd q p) (fun _ => a3 M hM Φ K95 K103 h)⟩
      unfold w_66_57
      rw [nI_clamp (by omega), nI_1]
      exact ⟨fun q => absurd q nle, fun _ => ⟨vI k8, c_7 (fun q => absurd q p) (fun _ => ⟨fun _ => a2 Φ K91 K104 v1 h, fun e => absurd rfl e⟩)⟩⟩
theorem d_find {kc : it_Kc} (hk : KC kc) {B : Nat} {m : it_Me} (hI : Inv B m) {i : Nat} (hi : i < cnt m) (hg : m (14 + 5 * i + 4) 7 ≠ 0) (v : Int32) : Lv (w_66 kc (14 + 5 * i) v) (fun M Φ => w_270 kc (m (14 + 5 * i + 4) 7) 7 0 M (fun r11 m12 => w_220 kc r11 m12 (fun r13 m14 => (v < 1 → w_305_108 kc Φ (nI i) m14) ∧ (¬ v < 1 → (16 < v → w_305_108 kc Φ (nI i) m14) ∧ (¬ 16 < v → w_270 kc (m (14 + 5 * i + 4) 7) 7 0 m14 (fun r15 m16 => w_220 kc (r15 + 4) m16 (fun r17 m18 => (v ≤ r17 → w_306 kc r13 v m18 (fun r19 m20 => (r19 = -1 → w_282 kc (nI i) 11 m20 (fun m21 => w_305_149 kc Φ m21)) ∧ (¬ r19 = -1 → w_281 kc (nI i) r19 m20 (fun m22 => w_305_149 kc Φ m22)))) ∧ (¬ v ≤ r17 → w_305_108 kc Φ (nI i) m18)))))))) B m (Kp m) := by
  have h8 := cnt_le hI
  have z : gsz 7 = 36 ∧ sbN 7 = 1 ∧ rbN 7 = 1 ∧ wbN 7 = 1 := by decide
  by_cases bad : v < 1 ∨ 16 < v ∨ ¬ v ≤ gw m (m (14 + 5 * i + 4) 7 + nI 20)
  · obtain ⟨m', c1, c2, c3, c4, c5⟩ := lv_fail (kc := kc) hI hi 7
    refine ⟨m', fun Φ h => ?_, c2, c3, c4, fun M hM Φ h => r_270 (d := 7) (k := 0) (by omega) (r_220g hI hM hi (d := 7) (k := 16) (by omega) hg (by omega) (by omega) ?_)⟩
    · have f := c1 Φ h
      unfold w_66 w_66_37
      refine c_88 hk (d := 7) (n := 0) (by omega) ⟨fun _ => f, fun q1 => ⟨fun _ => f, fun q2 => c_12 ⟨fun q3 => ?_, fun _ => f⟩⟩⟩
      rw [ga4] at q3
      exact absurd (bad.resolve_left q1) (fun q => q.elim q2 (fun y => y q3))
    · have f := c5 M hM Φ h
      unfold w_305_108
      refine ⟨fun _ => f, fun q1 => ⟨fun _ => f, fun q2 => r_270 (d := 7) (k := 0) (by omega) ?_⟩⟩
      rw [ga4]
      refine r_220g hI hM hi (d := 7) (k := 20) (by omega) hg (by omega) (by omega) ⟨fun q3 => ?_, fun _ => f⟩
      exact absurd (bad.resolve_left q1) (fun q => q.elim q2 (fun y => y q3))
  · have b1 : ¬ v < 1 := fun q => bad (Or.inl q)
    have b2 : ¬ 16 < v := fun q => bad (Or.inr (Or.inl q))
    have b3 : v ≤ gw m (m (14 + 5 * i + 4) 7 + nI 20) := Classical.byContradiction fun q => bad (Or.inr (Or.inr q))
    have ha : ∀ x : Nat, (x : Int) < v.toInt → InM (gw m (m (14 + 5 * i + 4) 7 + nI 16) + nI x) ∧ ¬ excl m (wi (gw m (m (14 + 5 * i + 4) 7 + nI 16) + nI x)) := fun x hx => by
      have := bfA hI hi (d := 7) (k := 0) (by omega) hg (by omega) (Int32.le_iff_toInt_le.mp b3) x hx
      exact ⟨this.1, this.2.1⟩
    obtain ⟨o, a1, a2, a3⟩ := nmL (kc := kc) hI ha (cnt m) 0 (by omega)
    have cls : ∀ Φ, (match o with | none => w_66_104 kc Φ (14 + 5 * i) m | some j => w_66_91 kc Φ (14 + 5 * i) (nI j) m) → w_66 kc (14 + 5 * i) v m Φ := fun Φ h => by
      unfold w_66
      refine c_88 hk (d := 7) (n := 0) (by omega) ⟨fun q => absurd q b1, fun q1 => ⟨fun q => absurd q b2, fun q2 => c_12 ⟨fun q3 => c_12 ⟨_, a2 _ _ _ _ h⟩, fun q => ?_⟩⟩⟩
      rw [ga4] at q
      exact absurd b3 q
    cases o with
    | none =>
      obtain ⟨m', c1, c2, c3, c4, c5⟩ := lv_fail (kc := kc) hI hi 11
      refine ⟨m', fun Φ h => cls Φ ?_, c2, c3, c4, fun M hM Φ h => r_270 (d := 7) (k := 0) (by omega) (r_220g hI hM hi (d := 7) (k := 16) (by omega) hg (by omega) (by omega) ⟨fun q => absurd q b1, fun _ => ⟨fun q => absurd q b2, fun _ => r_270 (d := 7) (k := 0) (by omega) ?_⟩⟩)⟩
      · unfold w_66_104
        exact c1 _ h
      · rw [ga4]
        refine r_220g hI hM hi (d := 7) (k := 20) (by omega) hg (by omega) (by omega) ⟨fun _ => ?_, fun q => absurd b3 q⟩
        unfold w_306
        refine ⟨_, a3 M hM _ _ _ ?_⟩
        unfold w_306_103
        exact ⟨fun _ => c5 M hM _ h, fun q => absurd rfl q⟩
    | some j =>
      have hj := a1 j rfl
      obtain ⟨m', c1, c2, c3, c4, c5⟩ := lv_ok1 (kc := kc) hI hi (nI j)
      refine ⟨m', fun Φ h => cls Φ ?_, c2, c3, c4, fun M hM Φ h => r_270 (d := 7) (k := 0) (by omega) (r_220g hI hM hi (d := 7) (k := 16) (by omega) hg (by omega) (by omega) ⟨fun q => absurd q b1, fun _ => ⟨fun q => absurd q b2, fun _ => r_270 (d := 7) (k := 0) (by omega) ?_⟩⟩)⟩
      · unfold w_66_91
        exact c1 _ h
      · rw [ga4]
        refine r_220g hI hM hi (d := 7) (k := 20) (by omega) hg (by omega) (by omega) ⟨fun _ => ?_, fun q => absurd b3 q⟩
        unfold w_306
        refine ⟨_, a3 M hM _ _ _ ?_⟩
        unfold w_306_95
        exact ⟨fun q => absurd q (enc_n1 (by omega)), fun _ => c5 M hM _ h⟩
