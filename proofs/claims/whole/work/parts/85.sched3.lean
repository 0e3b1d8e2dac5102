/-! The scheduler: in turn (0), by number (1). -/
theorem sv_sv2 (m : it_Me) (k i : Nat) (v w : Int32) : it_sv (it_sv m k i v) k i w = it_sv m k i w := by
  funext a b
  rw [sv_rd]
  by_cases h : a = k ∧ b = i
  · rw [if_pos h, sv_rd, if_pos h]
  · rw [if_neg h, sv_rd, if_neg h, sv_rd, if_neg h]
theorem psM_f (M : it_Me) (i : Nat) {k : Nat} (h : k ≠ 66 ∧ k ≠ 107) : psM M i k = M k := by unfold psM; rw [sv_cell _ _ _ _ (by omega), sv_cell _ _ _ _ (by omega)]
theorem psM_66 (M : it_Me) (i : Nat) {j : Nat} (h : j ≠ 71) : psM M i 66 j = M 66 j := by unfold psM; rw [sv_n1 _ _ _ _ _ (by omega), sv_n2 _ _ _ _ h]
theorem psM_71 (M : it_Me) (i : Nat) : psM M i 66 71 = M 66 71 + 1 := by unfold psM; rw [sv_n1 _ _ _ _ _ (by omega), sv_same]
theorem btM_f (M : it_Me) (i : Nat) {k : Nat} (h : k ≠ 66 ∧ k ≠ 97) : btM M i k = M k := by unfold btM; rw [sv_cell _ _ _ _ (by omega), sv_cell _ _ _ _ (by omega), sv_cell _ _ _ _ (by omega)]
theorem bt1_f (m : it_Me) (i : Nat) {k : Nat} (h : k ≠ 54 ∧ k ≠ 14 + 5 * i) : bt1 m i k = m k := by unfold bt1; rw [sv_cell _ _ _ _ (by omega), sv_cell _ _ _ _ (by omega)]
theorem FrC_bt1 {m : it_Me} {i : Nat} (i8 : i < 8) : FrC m (bt1 m i) := fun k hk => bt1_f _ _ (by omega)
theorem Kw_bt1 {m : it_Me} {i : Nat} (i8 : i < 8) : Kw m (bt1 m i) := ⟨bt1_f _ _ (by omega), bt1_f _ _ (by omega), bt1_f _ _ (by omega), by rw [bt1_f _ _ (by omega)]⟩
theorem FrM_btM {M : it_Me} {i : Nat} : FrM M (btM M i) := fun k hk => btM_f _ _ (by omega)
theorem bt1_9 (m : it_Me) {i : Nat} (i8 : i < 8) : bt1 m i (14 + 5 * i) 9 = m (14 + 5 * i) 9 := by unfold bt1; rw [sv_n2 _ _ _ _ (by omega), sv_n1 _ _ _ _ _ (by omega)]
theorem rsI1 : rsI 1 = 0 := by decide
/-- a turn begins in both; not by levels -/
theorem bt_R {m M : it_Me} (h : Rel m M) (h8 : cnt m ≤ 8) {i : Nat} (hi : i < cnt m) (h2 : m 54 2 ≠ 2) (h5 : m 54 2 = 0 → m 54 5 = 1) : Rel (bt1 m i) (psM (btM M i) i) := by
  have e : btM M i = it_sv (it_sv (it_sv M 97 i 0) 66 70 (nI i)) 66 71 0 := by
    unfold btM
    rw [sv_comm _ 66 71 0 97 i 0 (by omega), sv_comm _ 66 70 (nI i) 97 i 0 (by omega)]
  have e1 : bt1 m i = it_sv (it_sv m (14 + 5 * i) 4 1) 54 4 (nI i) := by
    unfold bt1
    rw [sv_comm _ 54 4 (nI i) (14 + 5 * i) 4 1 (by omega)]
  have R1 := h.rs h8 hi 1
  rw [rsI1] at R1
  have cn : cnt (it_sv m (14 + 5 * i) 4 1) = cnt m := cnt_sv _ _ _ (by omega)
  rw [e, e1]
  refine R1.sch (by rw [cn]; exact h8) (fun k hk => sv_cell _ _ _ _ hk.1) (sv_n2 _ _ _ _ (by omega)) (sv_n2 _ _ _ _ (by omega)) (fun k hk => by rw [psM_f _ _ (by omega), sv_cell _ _ _ _ (by omega), sv_cell _ _ _ _ (by omega)]) (fun j h70 h71 => by rw [psM_66 _ _ h71, sv_n2 _ _ _ _ h71, sv_n2 _ _ _ _ h70]) ?_ (fun _ q _ => ?_) (fun _ q => ?_) (fun _ q => ?_)
  · rw [psM_66 _ _ (by omega), sv_n2 _ _ _ _ (by omega), sv_same, sv_same]
  · rw [psM_71, sv_same, sv_n2 _ _ _ _ (by omega)]
    rw [sv_n1 _ _ _ _ _ (by omega)] at q ⊢
    rw [h5 q]
    rfl
  · rw [sv_n1 _ _ _ _ _ (by omega)] at q
    exact absurd q h2
  · rw [sv_n1 _ _ _ _ _ (by omega)] at q
    exact absurd q h2
/-- the turn goes on; not by levels -/
theorem go_R {m M : it_Me} (h : Rel m M) (h8 : cnt m ≤ 8) (i : Nat) {v : Int32} (h2 : m 54 2 ≠ 2) (h5 : m 54 2 = 0 → m 54 4 ≠ -1 ∧ v = m 54 5 + 1) : Rel (it_sv m 54 5 v) (psM M i) := by
  refine h.sch h8 (fun k hk => sv_cell _ _ _ _ hk.1) (sv_n2 _ _ _ _ (by omega)) (sv_n2 _ _ _ _ (by omega)) (fun k hk => psM_f _ _ (by omega)) (fun j h70 h71 => psM_66 _ _ h71) ?_ (fun ho q _ => ?_) (fun _ q => absurd q h2) (fun _ q => absurd q h2)
  · rw [psM_66 _ _ (by omega), sv_n2 _ _ _ _ (by omega)]; exact h.turn
  · rw [psM_71, sv_same, h.done ho q (h5 q).1, (h5 q).2]
theorem ch0 {kc : it_Kc} {B : Nat} {m : it_Me} (hI : Inv B m) (ho : m 0 10 = 1) (hk : m 54 2 = 0) : Cho kc (w_148 kc) B m := by
  have h8 := cnt_le hI
  have hc := cntI hI
  obtain ⟨u, hu, et, eu⟩ := tnU hI ho
  have k2 : m 54 2 ≠ 2 := by rw [hk]; decide
  have w0 : ∀ {Φ : Option Nat → it_Me → Prop}, w_149 kc m Φ → w_148 kc m Φ := fun h => by
    unfold w_148
    exact ⟨fun _ => h, fun q => absurd hk q⟩
  have t1 : m 54 4 = -1 ↔ u = 0 := by
    rw [← Int32.toInt_inj, et]
    show (u : Int) - 1 = -1 ↔ _
    omega
  -- the class, when the turn doesn't go on
  have cl : ∀ {Φ : Option Nat → it_Me → Prop}, (∀ a, u = a + 1 → cr m a → (m 54 3) ≤ (m 54 5)) → w_149_46 kc Φ m → w_148 kc m Φ := fun {Φ} hst h => w0 (by
    unfold w_149
    by_cases z : u = 0
    · refine c_72n (Or.inl (by omega)) ⟨fun _ => h, fun q hq => nomatch hq⟩
    · refine c_72s hI (i := u - 1) (by omega) (by omega) ⟨fun q => (nomatch q), fun q hq => ?_⟩
      obtain rfl : 14 + 5 * (u - 1) = q := Option.some.inj hq
      refine c_130 ?_
      by_cases c : cr m (u - 1)
      · rw [bI_t c]
        exact ⟨fun q => absurd q (by decide), fun _ => ⟨fun _ => h, fun q => absurd (hst (u - 1) (by omega) c) q⟩⟩
      · rw [bI_f c]
        exact ⟨fun _ => h, fun q => absurd rfl q⟩)
  by_cases none : ∀ i, i < cnt m → ¬ cr m i
  · refine Or.inl ⟨m, fun Φ h => cl (fun a ha c => absurd c (none a (by omega))) ⟨cnt m + 1, ?_⟩, hI, FrC.rfl, Kw.rfl, fun M hM Ψ h => r_314z hI hM none (h M FrM.rfl hM)⟩
    refine c_149l hI hu eu (k0 := cnt m) (Nat.le_refl _) (fun j hj => none _ (rix_lt hu hj)) ?_ (cnt m) 0 (by omega)
    rw [if_neg (Nat.lt_irrefl _)]
    exact h
  · have ⟨a0, ha0, ca0⟩ : ∃ i, i < cnt m ∧ cr m i := Classical.byContradiction (fun q => none (fun i hi c => q ⟨i, hi, c⟩))
    by_cases stay : ∃ a, u = a + 1 ∧ cr m a ∧ m 54 5 < m 54 3
    · obtain ⟨a, ha, ca, lt⟩ := stay
      have hac : a < cnt m := by omega
      have tne : m 54 4 ≠ -1 := fun q => by rw [t1] at q; omega
      refine Or.inr ⟨a, it_sv m 54 5 (m 54 5 + 1), hac, by rw [sv_n1 _ _ _ _ _ (by omega)]; exact ca.1, fun Φ h => w0 ?_, hI.dn5 _, fun k hk => sv_cell _ _ _ _ (by omega), ⟨sv_cell _ _ _ _ (by omega), sv_cell _ _ _ _ (by omega), sv_cell _ _ _ _ (by omega), by rw [sv_cell _ _ _ _ (by omega)]⟩, fun M hM Ψ h => r_314 hI hM ?_⟩
      · unfold w_149
        refine c_72s hI (i := a) (by omega) (by omega) ⟨fun q => (nomatch q), fun q hq => ?_⟩
        obtain rfl : 14 + 5 * a = q := Option.some.inj hq
        refine c_130 ?_
        rw [bI_t ca]
        exact ⟨fun q => absurd q (by decide), fun _ => ⟨fun q => absurd lt (by rw [Int32.lt_iff_toInt_lt]; rw [Int32.le_iff_toInt_le] at q; omega), fun _ => h⟩⟩
      · have et4 : m 54 4 = nI a := Int32.toInt_inj.mp (by rw [nI_toInt (by omega)]; omega)
        have q1 := hM.sched ho
        have q2 := hM.done ho hk tne
        unfold w_314_34
        refine ⟨fun q => absurd q (crC_s hI ha0 ca0), fun _ => ?_⟩
        rw [q1.1, hk, hM.turn]
        refine ⟨fun _ => ⟨fun q => absurd q tne, fun _ => ?_⟩, fun q => absurd rfl q⟩
        rw [et4]
        refine r_312 hM (by omega) hac ?_
        rw [bI_t ca, q2, q1.2.1]
        unfold w_314_173
        rw [hM.turn, et4]
        exact ⟨fun q => absurd q (by decide), fun _ => ⟨fun _ => h M FrM.rfl (go_R hM h8 a k2 (fun _ => ⟨tne, rfl⟩)), fun q => absurd lt q⟩⟩
    · -- the next in turn
      have hst : ∀ a, u = a + 1 → cr m a → (m 54 3) ≤ (m 54 5) := fun a h1 h2 => by
        have : ¬ m 54 5 < m 54 3 := fun q => stay ⟨a, h1, h2, q⟩
        rw [Int32.lt_iff_toInt_lt] at this
        rw [Int32.le_iff_toInt_le]
        omega
      have ex : ∃ k, k < cnt m ∧ cr m (rix (cnt m) u k) := by
        by_cases q : u ≤ a0
        · refine ⟨a0 - u, by omega, ?_⟩
          have : rix (cnt m) u (a0 - u) = a0 := by unfold rix; rw [if_neg (by omega)]; omega
          rw [this]; exact ca0
        · refine ⟨a0 + cnt m - u, by omega, ?_⟩
          have : rix (cnt m) u (a0 + cnt m - u) = a0 := by unfold rix; rw [if_pos (by omega)]; omega
          rw [this]; exact ca0
      obtain ⟨k1, hk1, ck1⟩ := ex
      obtain ⟨k0, l1, l2, l3⟩ := leastK (P := fun k => k < cnt m ∧ cr m (rix (cnt m) u k)) k1 ⟨hk1, ck1⟩
      have l3' : ∀ j, j < k0 → ¬ cr m (rix (cnt m) u j) := fun j hj c => l3 j hj ⟨by omega, c⟩
      have hx := rix_lt hu l2.1
      have J1 : Inv B (it_sv m 54 5 1) := hI.dn5 1
      refine Or.inr ⟨rix (cnt m) u k0, bt1 (it_sv m 54 5 1) (rix (cnt m) u k0), hx, by rw [bt1_9 _ (by omega), sv_n1 _ _ _ _ _ (by omega)]; exact l2.2.1, fun Φ h => cl hst ⟨k0 + 1, ?_⟩, bt_I J1 (by rw [cnt_sv _ _ _ (by omega)]; exact hx), fun k hk => by rw [bt1_f _ _ (by omega), sv_cell _ _ _ _ (by omega)], ⟨by rw [bt1_f _ _ (by omega), sv_cell _ _ _ _ (by omega)], by rw [bt1_f _ _ (by omega), sv_cell _ _ _ _ (by omega)], by rw [bt1_f _ _ (by omega), sv_cell _ _ _ _ (by omega)], by rw [bt1_f _ _ (by omega), sv_cell _ _ _ _ (by omega)]⟩, fun M hM Ψ h => r_314 hI hM ?_⟩
      · refine c_149l hI hu eu (k0 := k0) (by omega) l3' ?_ k0 0 (by omega)
        rw [if_pos l2.1]
        refine ⟨l2.2, ?_⟩
        unfold w_149_108
        exact c_155 J1 (by omega) h
      · have q1 := hM.sched ho
        have key : w_314_77 kc Ψ M := by
          unfold w_314_77 w_314_100
          rw [hM.turn]
          have lp : w_314_101 kc Ψ (fun v2 m => w_314_121 kc Ψ v2 m) (k0 + 1) (nI (rix (cnt m) u 0)) M := by
            refine r_314l hI hM hu l2.1 l3' l2.2 ?_ k0 0 (by omega)
            unfold w_314_121 w_314_173
            refine r_313 (by omega) ?_
            rw [show btM M (rix (cnt m) u k0) 66 70 = nI (rix (cnt m) u k0) by unfold btM; rw [sv_n1 _ _ _ _ _ (by omega), sv_n2 _ _ _ _ (by omega), sv_same]]
            refine h _ FrM_btM ?_
            -- 54 5 is written first: nothing of it is read
            have : Rel (it_sv m 54 5 1) (it_sv M 66 71 1) := hM.sch h8 (fun k hk => sv_cell _ _ _ _ hk.1) (sv_n2 _ _ _ _ (by omega)) (sv_n2 _ _ _ _ (by omega)) (fun k hk => sv_cell _ _ _ _ hk.1) (fun j h70 h71 => sv_n2 _ _ _ _ h71) (by rw [sv_n2 _ _ _ _ (by omega), sv_n2 _ _ _ _ (by omega)]; exact hM.turn) (fun _ _ _ => by rw [sv_same, sv_same]) (fun _ q => absurd q k2) (fun _ q => absurd q k2)
            have r := bt_R this (by rw [cnt_sv _ _ _ (by omega)]; exact h8) (i := rix (cnt m) u k0) (by rw [cnt_sv _ _ _ (by omega)]; exact hx) (by rw [sv_n2 _ _ _ _ (by omega)]; exact k2) (fun _ => sv_same _ _ _ _)
            have e : btM (it_sv M 66 71 1) (rix (cnt m) u k0) = btM M (rix (cnt m) u k0) := by
              unfold btM
              rw [sv_comm M 66 71 1 66 70 _ (by omega)]
              rw [sv_sv2]
            rw [e] at r
            exact r
          refine ⟨fun q => ⟨k0 + 1, ?_⟩, fun q => ⟨fun y => ?_, ⟨k0 + 1, ?_⟩⟩⟩
          · rw [t1] at q
            have : rix (cnt m) u 0 = 0 := by unfold rix; rw [if_neg (by omega)]; omega
            rw [this] at lp
            exact lp
          · rw [hM.count, hc] at y
            exact absurd ((nEq (by omega) (by omega)).1 (show nI (cnt m) = nI 0 from y)) (by omega)
          · have z : u ≠ 0 := fun y => q (t1.2 y)
            have e4 : m 54 4 + 1 = nI u := eu 0 (by omega)
            rw [hM.count, hc, e4, rem_t _ (by omega) _ (by omega) (by omega)]
            have : u % cnt m = rix (cnt m) u 0 := by
              unfold rix
              by_cases y : cnt m ≤ u + 0
              · rw [if_pos y, show u = cnt m by omega, Nat.mod_self]; omega
              · rw [if_neg y, Nat.mod_eq_of_lt (by omega)]; omega
            rw [this]
            exact lp
        unfold w_314_34
        refine ⟨fun q => absurd q (crC_s hI ha0 ca0), fun _ => ?_⟩
        rw [q1.1, hk, hM.turn]
        refine ⟨fun _ => ⟨fun _ => key, fun q => ?_⟩, fun q => absurd rfl q⟩
        have z : u ≠ 0 := fun y => q (t1.2 y)
        have et4 : m 54 4 = nI (u - 1) := Int32.toInt_inj.mp (by rw [nI_toInt (by omega)]; omega)
        rw [et4]
        refine r_312 hM (by omega) (by omega) ?_
        by_cases c : cr m (u - 1)
        · rw [bI_t c, hM.done ho hk q, q1.2.1]
          exact ⟨fun y => absurd y (by decide), fun _ => ⟨fun y => absurd y (by have := hst (u - 1) (by omega) c; rw [Int32.le_iff_toInt_le] at this; rw [Int32.lt_iff_toInt_lt]; omega), fun _ => key⟩⟩
        · rw [bI_f c]
          exact ⟨fun _ => key, fun y => absurd rfl y⟩
theorem c_150l {kc : it_Kc} {B : Nat} {m : it_Me} (hI : Inv B m) {Φ : Option Nat → it_Me → Prop} {K1 : Nat → it_Me → Prop} {K2 : it_Me → Prop} {k0 : Nat} (hk0 : k0 ≤ cnt m) (hno : ∀ j, j < k0 → ¬ cr m j) (h : if k0 < cnt m then cr m k0 ∧ K1 (14 + 5 * k0) m else K2 m) : ∀ d k, k + d = k0 → w_150_2 kc Φ K1 K2 (d + 1) (nI k) m := by
  have h8 := cnt_le hI
  intro d
  induction d with
  | zero =>
    intro k hk
    have e : k = k0 := by omega
    subst e
    unfold w_150_2
    rw [cntI hI]
    by_cases q : k < cnt m
    · rw [if_pos q] at h
      refine ⟨fun y => absurd ((nLe (by omega) (by omega)).1 y) (by omega), fun _ => ?_⟩
      rw [cI (by omega)]
      refine ⟨vI (by omega), c_130 ?_⟩
      rw [bI_t h.1]
      exact ⟨fun y => absurd y (by decide), fun _ => h.2⟩
    · rw [if_neg q] at h
      exact ⟨fun _ => h, fun y => absurd ((nLe (by omega) (by omega)).2 (by omega)) y⟩
  | succ d ih =>
    intro k hk
    unfold w_150_2
    rw [cntI hI]
    refine ⟨fun y => absurd ((nLe (by omega) (by omega)).1 y) (by omega), fun _ => ?_⟩
    rw [cI (by omega)]
    refine ⟨vI (by omega), c_130 ?_⟩
    rw [bI_f (hno k (by omega)), nI_s1]
    exact ⟨fun _ => ih (k + 1) (by omega), fun y => absurd rfl y⟩
theorem r_314p {kc : it_Kc} {B : Nat} {m M : it_Me} (hI : Inv B m) (hM : Rel m M) {Φ : Int32 → it_Me → Prop} {K : Int32 → it_Me → Prop} {k0 : Nat} (hk0 : k0 < cnt m) (hno : ∀ j, j < k0 → ¬ cr m j) (hc : cr m k0) (h : K (nI k0) M) : ∀ d k, k + d = k0 → w_314_139 kc Φ K (d + 1) (nI k) M := by
  have h8 := cnt_le hI
  intro d
  induction d with
  | zero =>
    intro k hk
    have e : k = k0 := by omega
    subst e
    unfold w_314_139
    refine r_312 hM (by omega) hk0 ?_
    rw [bI_t hc]
    exact ⟨fun q => absurd q (by decide), fun _ => h⟩
  | succ d ih =>
    intro k hk
    unfold w_314_139
    refine r_312 hM (by omega) (by omega) ?_
    rw [bI_f (hno k (by omega)), nI_s1]
    exact ⟨fun _ => ih (k + 1) (by omega), fun q => absurd rfl q⟩
theorem ch1 {kc : it_Kc} {B : Nat} {m : it_Me} (hI : Inv B m) (ho : m 0 10 = 1) (hk : m 54 2 = 1) : Cho kc (w_148 kc) B m := by
  have h8 := cnt_le hI
  have k2 : m 54 2 ≠ 2 := by rw [hk]; decide
  have k0' : m 54 2 ≠ 0 := by rw [hk]; decide
  have w0 : ∀ {Φ : Option Nat → it_Me → Prop}, w_150 kc m Φ → w_148 kc m Φ := fun h => by
    unfold w_148
    exact ⟨fun q => absurd q k0', fun _ => ⟨fun _ => h, fun q => absurd hk q⟩⟩
  by_cases none : ∀ i, i < cnt m → ¬ cr m i
  · refine Or.inl ⟨m, fun Φ h => w0 ⟨cnt m + 1, ?_⟩, hI, FrC.rfl, Kw.rfl, fun M hM Ψ h => r_314z hI hM none (h M FrM.rfl hM)⟩
    refine c_150l hI (k0 := cnt m) (Nat.le_refl _) none ?_ (cnt m) 0 (by omega)
    rw [if_neg (Nat.lt_irrefl _)]
    exact h
  · have ⟨a0, ha0, ca0⟩ : ∃ i, i < cnt m ∧ cr m i := Classical.byContradiction (fun q => none (fun i hi c => q ⟨i, hi, c⟩))
    obtain ⟨k0, l1, l2, l3⟩ := leastK (P := fun k => cr m k) a0 ca0
    have hk0 : k0 < cnt m := by omega
    have cl : ∀ {Φ : Option Nat → it_Me → Prop}, w_150_30 kc Φ (14 + 5 * k0) m → w_148 kc m Φ := fun h => w0 ⟨k0 + 1, by
      refine c_150l hI (k0 := k0) (by omega) l3 ?_ k0 0 (by omega)
      rw [if_pos hk0]
      exact ⟨l2, h⟩⟩
    have rl : ∀ {M : it_Me} {Ψ : Int32 → it_Me → Prop}, Rel m M → w_314_153 kc Ψ (nI k0) M → w_314 kc M Ψ := fun {M Ψ} hM h => r_314 hI hM (by
      have q1 := hM.sched ho
      unfold w_314_34
      refine ⟨fun q => absurd q (crC_s hI ha0 ca0), fun _ => ?_⟩
      rw [q1.1, hk]
      exact ⟨fun q => absurd q (by decide), fun _ => ⟨fun _ => ⟨k0 + 1, r_314p hI hM (K := fun v2 m => w_314_153 kc Ψ v2 m) hk0 l3 l2 h k0 0 (by omega)⟩, fun q => absurd rfl q⟩⟩)
    by_cases st : nI k0 = m 54 4
    · refine Or.inr ⟨k0, m, hk0, l2.1, fun Φ h => cl ?_, hI, FrC.rfl, Kw.rfl, fun M hM Ψ h => rl hM ?_⟩
      · unfold w_150_30 w_150_50
        rw [hI.num k0 (by omega)]
        exact ⟨fun _ => h, fun q => absurd st q⟩
      · unfold w_314_153 w_314_166 w_314_173
        rw [hM.turn]
        refine ⟨fun _ => ?_, fun q => absurd st q⟩
        rw [← st]
        refine h M FrM.rfl ?_
        have r := go_R hM h8 k0 (v := m 54 5) k2 (fun q => absurd q k0')
        rw [sv_self] at r
        exact r
    · refine Or.inr ⟨k0, bt1 m k0, hk0, by rw [bt1_9 _ (by omega)]; exact l2.1, fun Φ h => cl ?_, bt_I hI hk0, FrC_bt1 (by omega), Kw_bt1 (by omega), fun M hM Ψ h => rl hM ?_⟩
      · unfold w_150_30 w_150_50
        rw [hI.num k0 (by omega)]
        exact ⟨fun q => absurd q st, fun _ => c_155 hI (by omega) h⟩
      · unfold w_314_153 w_314_166 w_314_173
        rw [hM.turn]
        refine ⟨fun q => absurd q st, fun _ => r_313 (by omega) ?_⟩
        rw [show btM M k0 66 70 = nI k0 by unfold btM; rw [sv_n1 _ _ _ _ _ (by omega), sv_n2 _ _ _ _ (by omega), sv_same]]
        exact h _ FrM_btM (bt_R hM h8 hk0 k2 (fun q => absurd q k0'))
