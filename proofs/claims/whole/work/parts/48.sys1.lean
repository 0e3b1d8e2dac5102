/-! System calls: yield, subscribe, allow. -/
theorem rgAll {B : Nat} {m : it_Me} (hI : Inv B m) {i : Nat} (hi : i < cnt m) (l : List (Nat × Int32)) (hl : ∀ x ∈ l, x.1 < 32 ∧ x.1 ≠ 0) : Inv B (rgC m i l) ∧ Kp m (rgC m i l) ∧ FrC m (rgC m i l) ∧ ∀ M, Rel m M → Rel (rgC m i l) (rgM M i l) ∧ FrM M (rgM M i l) := by
  have h8 := cnt_le hI
  exact ⟨hI.rg l hi (fun x hx => (hl x hx).2), Kp.of (fun k hk => rgC_c _ _ (by omega)) (by rw [rgC_c _ _ (by omega)]), fun k hk => rgC_c _ _ (by omega), fun M hM => ⟨hM.rg l h8 hi (fun x hx => (hl x hx).1), fun k hk => rgM_c _ _ (by omega)⟩⟩
theorem lv_fail {kc : it_Kc} {B : Nat} {m : it_Me} (hI : Inv B m) {i : Nat} (hi : i < cnt m) (e : Int32) : Lv (w_136 kc (14 + 5 * i) e) (w_282 kc (nI i) e) B m (Kp m) := by
  have i8 : i < 8 := by have := cnt_le hI; omega
  obtain ⟨a1, a2, a3, a4⟩ := rgAll hI hi [(10, 0), (11, e)] (by simp)
  exact ⟨_, fun Φ h => c_136 h, a1, a3, a2, fun M hM Φ h => r_282 i8 (h _ (a4 M hM).1 (a4 M hM).2)⟩
theorem lv_ok {kc : it_Kc} {B : Nat} {m : it_Me} (hI : Inv B m) {i : Nat} (hi : i < cnt m) : Lv (w_138 kc (14 + 5 * i)) (w_280 kc (nI i)) B m (Kp m) := by
  have i8 : i < 8 := by have := cnt_le hI; omega
  obtain ⟨a1, a2, a3, a4⟩ := rgAll hI hi [(10, 128)] (by simp)
  exact ⟨_, fun Φ h => c_138 h, a1, a3, a2, fun M hM Φ h => r_280 i8 (h _ (a4 M hM).1 (a4 M hM).2)⟩
theorem lv_ok1 {kc : it_Kc} {B : Nat} {m : it_Me} (hI : Inv B m) {i : Nat} (hi : i < cnt m) (v : Int32) : Lv (w_139 kc (14 + 5 * i) v) (w_281 kc (nI i) v) B m (Kp m) := by
  have i8 : i < 8 := by have := cnt_le hI; omega
  obtain ⟨a1, a2, a3, a4⟩ := rgAll hI hi [(10, 129), (11, v)] (by simp)
  exact ⟨_, fun Φ h => c_139 h, a1, a3, a2, fun M hM Φ h => r_281 i8 (h _ (a4 M hM).1 (a4 M hM).2)⟩
theorem lv_back {kc : it_Kc} {B : Nat} {m : it_Me} (hI : Inv B m) {i : Nat} (hi : i < cnt m) (e : Int32) {f g : Int32} (hf : m (14 + 5 * i + 2) 12 = f) (hg : m (14 + 5 * i + 2) 13 = g) : Lv (w_137 kc (14 + 5 * i) e) (w_283 kc (nI i) e f g) B m (Kp m) := by
  have i8 : i < 8 := by have := cnt_le hI; omega
  obtain ⟨a1, a2, a3, a4⟩ := rgAll hI hi [(10, 2), (11, e)] (by simp)
  exact ⟨_, fun Φ h => c_137 h, a1, a3, a2, fun M hM Φ h => r_283 i8 (by rw [hM.regs i hi 12 (by omega)]; exact hf) (by rw [hM.regs i hi 13 (by omega)]; exact hg) (h _ (a4 M hM).1 (a4 M hM).2)⟩
/-- one part after another -/
theorem Lv.seq {c r c' r' : it_Me → (it_Me → Prop) → Prop} {B B' : Nat} {m : it_Me} {P : it_Me → Prop} (h : Lv c r B m P) (h2 : ∀ m', Inv B m' → FrC m m' → P m' → (∀ M, Rel m M → True) → Lv c' r' B' m' (fun _ => True)) : ∃ m2, (∀ Φ, Φ m2 → c m (fun m1 => c' m1 Φ)) ∧ Inv B' m2 ∧ FrC m m2 ∧ ∀ M, Rel m M → ∀ Φ, (∀ M', Rel m2 M' → FrM M M' → Φ M') → r M (fun m1 => r' m1 Φ) := by
  obtain ⟨m', h1, h3, h4, h5, h6⟩ := h
  obtain ⟨m2, g1, g3, g4, _, g6⟩ := h2 m' h3 h4 h5 (fun _ _ => trivial)
  exact ⟨m2, fun Φ hp => h1 _ (g1 Φ hp), g3, h4.trans g4, fun M hM Φ hp => h6 M hM _ (fun M' hR hF => g6 M' hR Φ (fun M'' hR' hF' => hp M'' hR' (hF.trans hF')))⟩
theorem Lv.mono {c r : it_Me → (it_Me → Prop) → Prop} {B B' : Nat} {m : it_Me} {P : it_Me → Prop} (h : Lv c r B m P) (hB : B ≤ B') : Lv c r B' m P := by
  obtain ⟨m', h1, h3, h4, h5, h6⟩ := h
  exact ⟨m', h1, h3.mono hB, h4, h5, h6⟩
theorem ya {kc : it_Kc} {B : Nat} {m : it_Me} (hI : Inv B m) {i : Nat} (hi : i < cnt m) {u : Int32} (hu : u = 0 ∨ u = 1) : ∃ m1, Inv B m1 ∧ (∀ k, k ≠ 2 → m1 k = m k) ∧ (∀ Φ, w_175_46 kc Φ (14 + 5 * i) u m1 → w_175_12 kc Φ (14 + 5 * i) u m) ∧ ∀ M, Rel m M → ∀ Φ, (∀ M1, Rel m1 M1 → FrM M M1 → w_285_52 kc Φ (nI i) u M1) → w_285_18 kc Φ (nI i) (m (14 + 5 * i + 2) 11) u M := by
  have hP := hI.p hi
  have s := hP.szI
  have o := hP.ord
  have cl := hP.ctlI
  have t1 := tlo (m (14 + 5 * i + 2) 11)
  have t2 := thi (m (14 + 5 * i + 2) 11)
  have e1 : (1 : Int64).toInt = 1 := by decide
  have eu : (m (14 + 5 * i) 5).toInt ≤ (m (14 + 5 * i + 2) 11).toInt % 4294967296 ∧ (m (14 + 5 * i + 2) 11).toInt % 4294967296 + 1 ≤ (m (14 + 5 * i) 7).toInt ↔ (m (14 + 5 * i) 5).toInt ≤ (m (14 + 5 * i + 2) 11).toInt ∧ (m (14 + 5 * i + 2) 11).toInt < (m (14 + 5 * i) 7).toInt := by omega
  by_cases q : (m (14 + 5 * i) 5).toInt ≤ (m (14 + 5 * i + 2) 11).toInt ∧ (m (14 + 5 * i + 2) 11).toInt < (m (14 + 5 * i) 7).toInt
  · have ow := own_b hI hi q u
    refine ⟨pb m (m (14 + 5 * i + 2) 11) u, ow.2.1, fun k hk => pb_c _ _ _ hk, fun Φ h => ?_, fun M hM Φ h => ?_⟩
    · unfold w_175_12 w_175_43
      rw [cl_11]
      refine ⟨v32_11, c_132 ?_⟩
      rw [bI_t q]
      refine ⟨fun e => absurd e (by decide), fun _ => ⟨fun e => c_17 ?_, fun e => c_17 ?_⟩⟩
      · rw [e] at h ⊢; exact h
      · have e' : u = 1 := by rcases hu with z | z; exact absurd z e; exact z
        rw [e'] at h ⊢; exact h
    · unfold w_285_18 w_285_50
      refine r_260 hI hM hi (by rw [u32]; omega) (by rw [e1]; omega) ?_
      rw [u32, e1, bI_t (eu.mpr q)]
      have hx := h _ (ow.2.2 M hM) (FrM.rfl.sv (by omega))
      refine ⟨fun e => absurd e (by decide), fun _ => ⟨fun e => ⟨by rw [vp_in_iff]; omega, ?_⟩, fun e => ⟨by rw [vp_in_iff]; omega, ?_⟩⟩⟩
      · rw [e] at hx ⊢; rw [i2b_i2b]; exact hx
      · have e' : u = 1 := by rcases hu with z | z; exact absurd z e; exact z
        rw [e'] at hx ⊢; rw [i2b_i2b]; exact hx
  · refine ⟨m, hI, fun _ _ => rfl, fun Φ h => ?_, fun M hM Φ h => ?_⟩
    · unfold w_175_12
      rw [cl_11]
      refine ⟨v32_11, c_132 ?_⟩
      rw [bI_f q]
      exact ⟨fun _ => h, fun e => absurd rfl e⟩
    · unfold w_285_18
      refine r_260 hI hM hi (by rw [u32]; omega) (by rw [e1]; omega) ?_
      rw [u32, e1, bI_f (fun z => q (eu.mp z))]
      exact ⟨fun _ => h M hM FrM.rfl, fun e => absurd rfl e⟩
theorem yl {kc : it_Kc} (hk : KC kc) {B : Nat} {m : it_Me} (hI : Inv B m) (hB : B < 2147483000) {i : Nat} (hi : i < cnt m) (hs : m (14 + 5 * i) 9 = 1) : Lv (w_174 kc (14 + 5 * i)) (w_285 kc (nI i) (m (14 + 5 * i + 2) 10) (m (14 + 5 * i + 2) 11) (m (14 + 5 * i + 2) 12)) (B + 1) m (Kp m) := by
  have h8 := cnt_le hI
  have i8 : i < 8 := by omega
  have hP := hI.p hi
  have qn := hP.qn
  have qz : ∀ M, Rel m M → (M 110 i ≤ 0 ↔ m (14 + 5 * i) 14 ≤ 0) := fun M hM => by rw [hM.queued hi]
  by_cases a0 : m (14 + 5 * i + 2) 10 = 0
  · by_cases q : m (14 + 5 * i) 14 ≤ 0
    · obtain ⟨m1, b1, b2, b3, b4⟩ := ya (kc := kc) hI hi (u := 0) (Or.inl rfl)
      refine ⟨m1, fun Φ h => ?_, b1.mono (by omega), fun k hk => b2 k (by omega), Kp.of (fun k hk => b2 k (by omega)) (by rw [b2 4 (by omega)]), fun M hM Φ h => ?_⟩
      · unfold w_174 w_174_94 w_175
        rw [cl_10]
        refine ⟨v32_10, fun _ => ⟨fun _ => b3 _ ?_, fun z => absurd q z⟩, fun z => absurd a0 z⟩
        unfold w_175_46
        exact ⟨fun _ => h, fun z => absurd rfl z⟩
      · unfold w_285
        rw [cI i8]
        refine ⟨fun _ => ⟨vI i8, fun _ => b4 M hM Φ (fun M1 r1 f1 => ?_), fun z => absurd ((qz M hM).mpr q) z⟩, fun z => absurd a0 z⟩
        unfold w_285_52
        exact ⟨fun _ => h M1 r1 f1, fun z => absurd rfl z⟩
    · obtain ⟨m1, b1, b2, b3, b4⟩ := ya (kc := kc) hI hi (u := 1) (Or.inr rfl)
      have q' : 0 < (m (14 + 5 * i) 14).toInt := by
        have : ¬ (m (14 + 5 * i) 14).toInt ≤ 0 := fun z => q (Int32.le_iff_toInt_le.mpr z)
        omega
      obtain ⟨m', c1, c2, c3, c4, c5⟩ := rf hk b1 hB (i := i) (by rw [cnt_cg (by rw [b2 9 (by omega)])]; exact hi) (by rw [b2 _ (by omega)]; exact hs) (by rw [b2 _ (by omega)]; exact q')
      refine ⟨m', fun Φ h => ?_, c2, FrC.trans (fun k hk => b2 k (by omega)) c3, Kp.trans (Kp.of (fun k hk => b2 k (by omega)) (by rw [b2 4 (by omega)])) c4, fun M hM Φ h => ?_⟩
      · unfold w_174 w_174_94 w_175
        rw [cl_10]
        refine ⟨v32_10, fun _ => ⟨fun z => absurd z q, fun _ => b3 _ ?_⟩, fun z => absurd a0 z⟩
        unfold w_175_46
        exact ⟨fun z => absurd z (by decide), fun _ => c1 _ h⟩
      · unfold w_285
        rw [cI i8]
        refine ⟨fun _ => ⟨vI i8, fun z => absurd ((qz M hM).mp z) q, fun _ => b4 M hM Φ (fun M1 r1 f1 => ?_)⟩, fun z => absurd a0 z⟩
        unfold w_285_52
        exact ⟨fun z => absurd z (by decide), fun _ => c5 M1 r1 _ (fun M' r2 f2 => h M' r2 (f1.trans f2))⟩
  by_cases a1 : m (14 + 5 * i + 2) 10 = 1
  · by_cases q : m (14 + 5 * i) 14 ≤ 0
    · have I1 := hI.fld (c := 9) (v := 2) hi (by omega) (fun _ => ⟨by decide, fun q => absurd q (by decide)⟩) (fun q => absurd q (by omega))
      refine ⟨it_sv m (14 + 5 * i) 9 2, fun Φ h => ?_, I1.mono (by omega), FrC.rfl.sv (by omega), Kp.rfl.sv (by omega), fun M hM Φ h => ?_⟩
      · unfold w_174 w_174_94
        rw [cl_10]
        exact ⟨v32_10, fun z => absurd z a0, fun _ => ⟨fun _ => ⟨fun _ => h, fun z => absurd q z⟩, fun z => absurd a1 z⟩⟩
      · have R1 := hM.ps1 h8 hi (a := 95) (c := 9) (by decide) (by omega) (by omega) 2 (fun _ _ _ => hM.rsv i hi (by rw [hs]; decide) (by rw [hs]; decide)) (fun q => absurd q (by omega))
        unfold w_285 w_285_120
        rw [cI i8]
        exact ⟨fun z => absurd z a0, fun _ => ⟨fun _ => ⟨vI i8, fun _ => ⟨vI i8, h _ R1 (FrM.rfl.sv (by omega))⟩, fun z => absurd ((qz M hM).mpr q) z⟩, fun z => absurd a1 z⟩⟩
    · have q' : 0 < (m (14 + 5 * i) 14).toInt := by
        have : ¬ (m (14 + 5 * i) 14).toInt ≤ 0 := fun z => q (Int32.le_iff_toInt_le.mpr z)
        omega
      obtain ⟨m', c1, c2, c3, c4, c5⟩ := rf hk hI hB hi hs q'
      refine ⟨m', fun Φ h => ?_, c2, c3, c4, fun M hM Φ h => ?_⟩
      · unfold w_174 w_174_94
        rw [cl_10]
        exact ⟨v32_10, fun z => absurd z a0, fun _ => ⟨fun _ => ⟨fun z => absurd z q, fun _ => c1 _ h⟩, fun z => absurd a1 z⟩⟩
      · unfold w_285 w_285_120
        rw [cI i8]
        exact ⟨fun z => absurd z a0, fun _ => ⟨fun _ => ⟨vI i8, fun z => absurd ((qz M hM).mp z) q, fun _ => c5 M hM _ h⟩, fun z => absurd a1 z⟩⟩
  by_cases a2 : m (14 + 5 * i + 2) 10 = 2
  · obtain ⟨m', c1, c2, c3, c4, c5⟩ := yf hk hI hB hi hs (m (14 + 5 * i + 2) 11) (m (14 + 5 * i + 2) 12)
    refine ⟨m', fun Φ h => ?_, c2, c3, c4, fun M hM Φ h => ?_⟩
    · unfold w_174 w_174_94
      rw [cl_10, cl_11, cl_12]
      exact ⟨v32_10, fun z => absurd z a0, fun _ => ⟨fun z => absurd z a1, fun _ => ⟨fun _ => ⟨v32_11, v32_12, c1 _ h⟩, fun z => absurd a2 z⟩⟩⟩
    · unfold w_285 w_285_120
      exact ⟨fun z => absurd z a0, fun _ => ⟨fun z => absurd z a1, fun _ => ⟨fun _ => c5 M hM _ h, fun z => absurd a2 z⟩⟩⟩
  · obtain ⟨m', c1, c2, c3, c4, c5⟩ := lv_fail (kc := kc) hI hi 10
    refine ⟨m', fun Φ h => ?_, c2.mono (by omega), c3, c4, fun M hM Φ h => ?_⟩
    · unfold w_174 w_174_94
      rw [cl_10]
      exact ⟨v32_10, fun z => absurd z a0, fun _ => ⟨fun z => absurd z a1, fun _ => ⟨fun z => absurd z a2, fun _ => c1 _ h⟩⟩⟩
    · unfold w_285 w_285_120
      exact ⟨fun z => absurd z a0, fun _ => ⟨fun z => absurd z a1, fun _ => ⟨fun z => absurd z a2, fun _ => c5 M hM _ h⟩⟩⟩
theorem drv {x : Int32} (h : 0 ≤ x.toInt ∧ x.toInt < 9) : ∃ d, d < 9 ∧ x = nI d := ⟨x.toInt.toNat, by omega, Int32.toInt_inj.mp (by rw [nI_toInt (by omega)]; omega)⟩
theorem ultN {x : Int32} {k : Nat} (hk : k < 100) : ult x (nI k) ↔ 0 ≤ x.toInt ∧ x.toInt < k := by
  have := tlo x
  have := thi x
  unfold ult
  rw [nI_toInt (by omega)]
  omega
theorem numN {x : Int32} {k : Nat} (hk : k < 100) (h : 0 ≤ x.toInt ∧ x.toInt < k) : ∃ n, n < k ∧ x = nI n := ⟨x.toInt.toNat, by omega, Int32.toInt_inj.mp (by rw [nI_toInt (by omega)]; omega)⟩
theorem gN1 {m : it_Me} {i d : Nat} (hP : PI m i) (hd : d < 9) (hg : m (14 + 5 * i + 4) d ≠ 0) : ¬ m (14 + 5 * i + 4) d = -1 := by
  intro q
  have g := hP.gI hd hg
  have l := hP.low0
  rw [q] at g
  have e1 : (-1 : Int32).toInt = -1 := by decide
  omega
/-- what follows once the grant of a subscription is there -/
theorem sb2 {kc : it_Kc} {B : Nat} {m : it_Me} (hI : Inv B m) {i d n : Nat} (hi : i < cnt m) (hd : d < 9) (hg : m (14 + 5 * i + 4) d ≠ 0) (hn : n < sbN d) (hev : (m (14 + 5 * i + 2) 12).toInt % 2 = 0) : ∃ m', (∀ Φ, Φ m' → w_144 kc (14 + 5 * i) (nI d) (nI n) m (fun m9 => w_87 kc (14 + 5 * i) (nI d) (nI n) m9 (fun r10 m11 => w_179 kc (14 + 5 * i) r10 m11 (fun m12 => w_177_137 kc Φ m12)))) ∧ Inv B m' ∧ FrC m m' ∧ Kp m m' ∧ ∀ M, Rel m M → ∀ Φ, (∀ M', Rel m' M' → FrM M M' → Φ M') → ∃ e, w_288_121 kc Φ (fun v1 v3 v4 v5 v8 m => w_288_183 kc Φ v1 v3 v4 v5 v8 m) e (nI i) (nI d) (nI n) (m (14 + 5 * i + 2) 12) (m (14 + 5 * i + 2) 13) (m (14 + 5 * i + 4) d) 0 M := by
  have h8 := cnt_le hI
  have kk := kN hd
  obtain ⟨m1, a1, a2, a3, a4, a5⟩ := rmv (kc := kc) hI hi (nI d) (nI n) (m (14 + 5 * i + 2) 12) (m (14 + 5 * i + 2) 13) (m (14 + 5 * i + 4) d)
  have g1 : m1 (14 + 5 * i + 4) = m (14 + 5 * i + 4) := a3 _ (by omega) (by omega)
  have r1 : m1 (14 + 5 * i + 2) = m (14 + 5 * i + 2) := a3 _ (by omega) (by omega)
  have hi1 : i < cnt m1 := by rw [cnt_cg (by rw [a3 9 (by omega) (by omega)])]; exact hi
  obtain ⟨b1, b2, b3, b4⟩ := ex (kc := kc) a2 (d := d) (k := 8 * (1 + n)) hi1 hd (by rw [g1]; exact hg) (by omega) (fun x hx e => by omega) (fun _ _ _ => by rw [r1]; exact hev)
  refine ⟨_, fun Φ h => a1 _ (c_87 hd (c_179 h)), b1, FrC.trans (fun k hk => a3 k (by omega) (by omega)) b3, Kp.trans (Kp.of (fun k hk => a3 k (by omega) (by omega)) (by rw [a3 4 (by omega) (by omega)])) b2, fun M hM Φ h => a5 M hM Φ _ (fun M' hR' hF' => ?_)⟩
  unfold w_288_183
  rw [ga8, ← g1, ← r1]
  exact b4 M' hR' Φ (fun M'' hR'' hF'' => h M'' hR'' (hF'.trans hF''))
theorem sb {kc : it_Kc} (hk : KC kc) {B : Nat} {m : it_Me} (hI : Inv B m) {i : Nat} (hi : i < cnt m) : Lv (w_177 kc (14 + 5 * i)) (w_288 kc (nI i) (m (14 + 5 * i + 2) 10) (m (14 + 5 * i + 2) 11) (m (14 + 5 * i + 2) 12) (m (14 + 5 * i + 2) 13)) B m (Kp m) := by
  have h8 := cnt_le hI
  have i8 : i < 8 := by omega
  have hP := hI.p hi
  have ap := hP.app
  have t1 := tlo (m (14 + 5 * i + 2) 12)
  have t2 := thi (m (14 + 5 * i + 2) 12)
  have e1 : (1 : Int64).toInt = 1 := by decide
  -- whether the function is callable
  suffices H : ∀ u : Int32, (u ≠ 0 → (m (14 + 5 * i + 2) 12).toInt % 2 = 0) → Lv (fun m Φ => w_177_51 kc Φ (14 + 5 * i) (m (14 + 5 * i + 2) 10) (m (14 + 5 * i + 2) 11) u m) (fun M Φ => w_288_36 kc Φ (nI i) (m (14 + 5 * i + 2) 10) (m (14 + 5 * i + 2) 11) (m (14 + 5 * i + 2) 12) (m (14 + 5 * i + 2) 13) 0 u M) B m (Kp m) by
    have eu : (m (14 + 5 * i + 1) 1).toInt ≤ (m (14 + 5 * i + 2) 12).toInt % 4294967296 ∧ (m (14 + 5 * i + 2) 12).toInt % 4294967296 + 1 ≤ (m (14 + 5 * i + 1) 1).toInt + (m (14 + 5 * i + 1) 3).toInt ↔ (m (14 + 5 * i + 1) 1).toInt ≤ (m (14 + 5 * i + 2) 12).toInt ∧ (m (14 + 5 * i + 2) 12).toInt < (m (14 + 5 * i + 1) 1).toInt + (m (14 + 5 * i + 1) 3).toInt := by omega
    have fin : ∀ u : Int32, (u ≠ 0 → (m (14 + 5 * i + 2) 12).toInt % 2 = 0) → ((∀ Φ, w_177_51 kc Φ (14 + 5 * i) (m (14 + 5 * i + 2) 10) (m (14 + 5 * i + 2) 11) u m → w_177 kc (14 + 5 * i) m Φ) ∧ ∀ M, Rel m M → ∀ Φ, w_288_36 kc Φ (nI i) (m (14 + 5 * i + 2) 10) (m (14 + 5 * i + 2) 11) (m (14 + 5 * i + 2) 12) (m (14 + 5 * i + 2) 13) 0 u M → w_288 kc (nI i) (m (14 + 5 * i + 2) 10) (m (14 + 5 * i + 2) 11) (m (14 + 5 * i + 2) 12) (m (14 + 5 * i + 2) 13) M Φ) → Lv (w_177 kc (14 + 5 * i)) (w_288 kc (nI i) (m (14 + 5 * i + 2) 10) (m (14 + 5 * i + 2) 11) (m (14 + 5 * i + 2) 12) (m (14 + 5 * i + 2) 13)) B m (Kp m) := fun u hv hu => by
      obtain ⟨m', c1, c2, c3, c4, c5⟩ := H u hv
      exact ⟨m', fun Φ h => hu.1 Φ (c1 Φ h), c2, c3, c4, fun M hM Φ h => hu.2 M hM Φ (c5 M hM Φ h)⟩
    by_cases z : m (14 + 5 * i + 2) 12 = 0
    · refine fin 1 (fun _ => by rw [z]; rfl) ⟨fun Φ h => ?_, fun M hM Φ h => ?_⟩
      · unfold w_177 w_177_46
        rw [cl_10, cl_11, cl_12]
        exact ⟨v32_10, v32_11, v32_12, fun _ => h, fun q => absurd z q⟩
      · unfold w_288 w_288_31
        exact ⟨fun _ => h, fun q => absurd z q⟩
    by_cases z1 : m (14 + 5 * i + 2) 12 &&& 1 = 0
    · by_cases z2 : (m (14 + 5 * i + 1) 1).toInt ≤ (m (14 + 5 * i + 2) 12).toInt ∧ (m (14 + 5 * i + 2) 12).toInt < (m (14 + 5 * i + 1) 1).toInt + (m (14 + 5 * i + 1) 3).toInt
      · refine fin 1 (fun _ => by have := and1 (m (14 + 5 * i + 2) 12); rw [z1] at this; exact this.symm) ⟨fun Φ h => ?_, fun M hM Φ h => ?_⟩
        · unfold w_177 w_177_46
          rw [cl_10, cl_11, cl_12]
          refine ⟨v32_10, v32_11, v32_12, fun q => absurd q z, fun _ => ⟨fun _ => c_133 hP ?_, fun q => absurd z1 q⟩⟩
          rw [bI_t z2]
          exact ⟨fun q => absurd q (by decide), fun _ => h⟩
        · unfold w_288 w_288_31
          refine ⟨fun q => absurd q z, fun _ => ⟨fun _ => r_261 hI hM hi (by rw [u32]; omega) (by rw [e1]; omega) ?_, fun q => absurd z1 q⟩⟩
          rw [u32, e1, bI_t (eu.mpr z2)]
          exact ⟨fun q => absurd q (by decide), fun _ => h⟩
      · refine fin 0 (fun q => absurd rfl q) ⟨fun Φ h => ?_, fun M hM Φ h => ?_⟩
        · unfold w_177 w_177_50
          rw [cl_10, cl_11, cl_12]
          refine ⟨v32_10, v32_11, v32_12, fun q => absurd q z, fun _ => ⟨fun _ => c_133 hP ?_, fun q => absurd z1 q⟩⟩
          rw [bI_f z2]
          exact ⟨fun _ => h, fun q => absurd rfl q⟩
        · unfold w_288 w_288_35
          refine ⟨fun q => absurd q z, fun _ => ⟨fun _ => r_261 hI hM hi (by rw [u32]; omega) (by rw [e1]; omega) ?_, fun q => absurd z1 q⟩⟩
          rw [u32, e1, bI_f (fun q => z2 (eu.mp q))]
          exact ⟨fun _ => h, fun q => absurd rfl q⟩
    · refine fin 0 (fun q => absurd rfl q) ⟨fun Φ h => ?_, fun M hM Φ h => ?_⟩
      · unfold w_177 w_177_50
        rw [cl_10, cl_11, cl_12]
        exact ⟨v32_10, v32_11, v32_12, fun q => absurd q z, fun _ => ⟨fun q => absurd q z1, fun _ => h⟩⟩
      · unfold w_288 w_288_35
        exact ⟨fun q => absurd q z, fun _ => ⟨fun q => absurd q z1, fun _ => h⟩⟩
  intro u hev
  -- a failure
  have bad : ∀ e : Int32, e ≠ 0 → Lv (w_137 kc (14 + 5 * i) e) (fun M Φ => w_288_73 kc Φ (nI i) (m (14 + 5 * i + 2) 10) (m (14 + 5 * i + 2) 11) (m (14 + 5 * i + 2) 12) (m (14 + 5 * i + 2) 13) e M) B m (Kp m) := fun e he => by
    obtain ⟨m', c1, c2, c3, c4, c5⟩ := lv_back (kc := kc) hI hi e (f := m (14 + 5 * i + 2) 12) (g := m (14 + 5 * i + 2) 13) rfl rfl
    refine ⟨m', c1, c2, c3, c4, fun M hM Φ h => ?_⟩
    unfold w_288_73 w_288_88 w_288_110
    exact ⟨fun q => absurd q he, fun _ => ⟨fun _ => ⟨fun q => absurd q he, fun _ => c5 M hM _ h⟩, fun q => absurd rfl q⟩⟩
  by_cases hd : 0 ≤ (m (14 + 5 * i + 2) 10).toInt ∧ (m (14 + 5 * i + 2) 10).toInt < 9
  · obtain ⟨d, hd9, ed⟩ := drv hd
    have kk := kN hd9
    rw [ed] at bad ⊢
    have cS : (kc 2).2 (Int32.toNatClampNeg (nI d)) = nI (sbN d) ∧ vp_in (nI d) (kc 2).1 := by
      rw [hk.k2, nI_clamp (by omega)]
      exact ⟨kT2 hd9, v9 hd9⟩
    have bt' : bI (0 ≤ (nI d).toInt ∧ (nI d).toInt < 9) = 1 := bI_t (by rw [← ed]; exact hd)
    by_cases hn : 0 ≤ (m (14 + 5 * i + 2) 11).toInt ∧ (m (14 + 5 * i + 2) 11).toInt < sbN d
    · by_cases hu : u = 0
      · obtain ⟨m', c1, c2, c3, c4, c5⟩ := bad 6 (by decide)
        refine ⟨m', fun Φ h => ?_, c2, c3, c4, fun M hM Φ h => ?_⟩
        · show w_177_51 kc Φ (14 + 5 * i) (m (14 + 5 * i + 2) 10) (m (14 + 5 * i + 2) 11) u m
          rw [ed]
          unfold w_177_51 w_177_86 w_177_137
          refine c_173 ?_
          rw [bt', cS.1]
          refine ⟨fun q => absurd q (by decide), fun _ => ⟨cS.2, c_213 ?_⟩⟩
          rw [bI_t ((ultN (by omega)).mpr hn)]
          exact ⟨fun q => absurd q (by decide), fun _ => ⟨fun _ => c1 _ h, fun q => absurd hu q⟩⟩
        · show w_288_36 kc Φ (nI i) (nI d) (m (14 + 5 * i + 2) 11) (m (14 + 5 * i + 2) 12) (m (14 + 5 * i + 2) 13) 0 u M
          unfold w_288_36 w_288_69
          refine r_287 ?_
          rw [bt']
          refine ⟨fun q => absurd q (by decide), fun _ => ⟨fun q => ?_, fun _ => r_264 hd9 ⟨fun q => ?_, fun _ => ⟨fun _ => c5 M hM _ h, fun q => absurd hu q⟩⟩⟩⟩
          · exfalso; rw [Int32.lt_iff_toInt_lt] at q; simp only [Int32.reduceToInt] at q; omega
          · exfalso; rw [Int32.le_iff_toInt_le, nI_toInt (by omega)] at q; omega
      · -- it is sound
        have hd2 : d ≠ 2 := fun e => by
          subst e
          have : sbN 2 = 0 := by decide
          omega
        obtain ⟨n, hnn, en⟩ := numN (by omega) hn
        have clsE : ∀ Φ, (w_85 kc (14 + 5 * i) (nI d) m (fun r6 m7 => (r6 = 0 → w_137 kc (14 + 5 * i) 9 m7 (fun m8 => w_177_137 kc Φ m8)) ∧ (¬ r6 = 0 → w_144 kc (14 + 5 * i) (nI d) (nI n) m7 (fun m9 => w_87 kc (14 + 5 * i) (nI d) (nI n) m9 (fun r10 m11 => w_179 kc (14 + 5 * i) r10 m11 (fun m12 => w_177_137 kc Φ m12)))))) → w_177_51 kc Φ (14 + 5 * i) (m (14 + 5 * i + 2) 10) (m (14 + 5 * i + 2) 11) u m := fun Φ h => by
          rw [ed, en]
          unfold w_177_51 w_177_86
          refine c_173 ?_
          rw [bt', cS.1]
          refine ⟨fun q => absurd q (by decide), fun _ => ⟨cS.2, c_213 ?_⟩⟩
          rw [← en, bI_t ((ultN (by omega)).mpr hn), en]
          exact ⟨fun q => absurd q (by decide), fun _ => ⟨fun q => absurd q hu, fun _ => h⟩⟩
        have refE : ∀ M Φ, (w_273 kc (nI i) (nI d) M (fun r1 m2 => w_288_88 kc Φ (nI i) (nI d) (nI n) (m (14 + 5 * i + 2) 12) (m (14 + 5 * i + 2) 13) 0 r1 m2)) → w_288_36 kc Φ (nI i) (nI d) (m (14 + 5 * i + 2) 11) (m (14 + 5 * i + 2) 12) (m (14 + 5 * i + 2) 13) 0 u M := fun M Φ h => by
          unfold w_288_36 w_288_69 w_288_73
          refine r_287 ?_
          rw [bt']
          refine ⟨fun q => absurd q (by decide), fun _ => ⟨fun q => ?_, fun _ => r_264 hd9 ⟨fun q => ?_, fun _ => ⟨fun q => absurd q hu, fun _ => ⟨fun _ => ?_, fun q => absurd rfl q⟩⟩⟩⟩⟩
          · exfalso; rw [Int32.lt_iff_toInt_lt] at q; simp only [Int32.reduceToInt] at q; omega
          · exfalso; rw [Int32.le_iff_toInt_le, nI_toInt (by omega)] at q; omega
          · rw [en]; exact h
        by_cases hg : m (14 + 5 * i + 4) d = 0
        · by_cases hb : (m (14 + 5 * i) 7).toInt ≤ (nAt m i d).toInt
          · have I1 := ng_I hI hi hd9 hd2 hg hb
            have hP1 : cnt (ngC m i d) = cnt m := cnt_cg (by unfold ngC; rw [sv_n1 _ _ _ _ _ (by omega), sv_n1 _ _ _ _ _ (by omega), sv_n1 _ _ _ _ _ (by omega), ng3_c _ _ _ (by omega)])
            have g1 : ngC m i d (14 + 5 * i + 4) d = nAt m i d := by unfold ngC; rw [sv_n1 _ _ _ _ _ (by omega), sv_same]
            have r1 : ngC m i d (14 + 5 * i + 2) = m (14 + 5 * i + 2) := by unfold ngC; rw [sv_cell _ _ _ _ (by omega), sv_cell _ _ _ _ (by omega), sv_cell _ _ _ _ (by omega), ng3_c _ _ _ (by omega)]
            have a := nAt_I hP hd9 hb
            have nz : nAt m i d ≠ 0 := fun q => by have := a.2.1.1; rw [q] at this; simp only [Int32.reduceToInt] at this; omega
            have n1 : ¬ nAt m i d = -1 := fun q => by have := a.2.1.1; rw [q] at this; have e1 : (-1 : Int32).toInt = -1 := (by decide); omega
            obtain ⟨m', c1, c2, c3, c4, c5⟩ := sb2 (kc := kc) I1 (i := i) (d := d) (n := n) (by rw [hP1]; exact hi) hd9 (by rw [g1]; exact nz) hnn (by rw [r1]; exact hev hu)
            have fr1 : FrC m (ngC m i d) := fun k hk => by unfold ngC; rw [sv_cell _ _ _ _ (by omega), sv_cell _ _ _ _ (by omega), sv_cell _ _ _ _ (by omega), ng3_c _ _ _ (by omega)]
            have kp1 : Kp m (ngC m i d) := Kp.of (fun k hk => by unfold ngC; rw [sv_cell _ _ _ _ (by omega), sv_cell _ _ _ _ (by omega), sv_cell _ _ _ _ (by omega), ng3_c _ _ _ (by omega)]) (by unfold ngC; rw [sv_cell _ _ _ _ (by omega), sv_cell _ _ _ _ (by omega), sv_cell _ _ _ _ (by omega), ng3_c _ _ _ (by omega)])
            refine ⟨m', fun Φ h => clsE Φ (c_85 hk hI hi hd9 (fun q => ?_) (fun _ _ q => by omega) (fun _ _ _ => ⟨fun q => absurd q (by decide), fun _ => c1 Φ h⟩)), c2, fr1.trans c3, kp1.trans c4, fun M hM Φ h => refE M Φ (r_273 hI hM hi hd9 hd2 (fun q => absurd hg q) (fun _ q => by omega) (fun _ _ M' hR' hF' => ?_))⟩
            · rcases q with q | q
              · exact absurd q hd2
              · exact absurd hg q
            · unfold w_288_88
              refine ⟨fun q => absurd q n1, fun _ => ?_⟩
              have := c5 M' hR' Φ (fun M'' hR'' hF'' => h M'' hR'' (hF'.trans hF''))
              rw [g1, r1] at this
              exact this
          · obtain ⟨m', c1, c2, c3, c4, c5⟩ := lv_back (kc := kc) hI hi 9 (f := m (14 + 5 * i + 2) 12) (g := m (14 + 5 * i + 2) 13) rfl rfl
            refine ⟨m', fun Φ h => clsE Φ (c_85 hk hI hi hd9 (fun q => ?_) (fun _ _ _ => ⟨fun _ => c1 _ h, fun q => absurd rfl q⟩) (fun _ _ q => absurd q hb)), c2, c3, c4, fun M hM Φ h => refE M Φ (r_273 hI hM hi hd9 hd2 (fun q => absurd hg q) (fun _ _ => ?_) (fun _ q => absurd q hb))⟩
            · rcases q with q | q
              · exact absurd q hd2
              · exact absurd hg q
            · unfold w_288_88 w_288_110
              exact ⟨fun _ => ⟨fun _ => c5 M hM _ h, fun q => absurd rfl q⟩, fun q => absurd rfl q⟩
        · obtain ⟨m', c1, c2, c3, c4, c5⟩ := sb2 (kc := kc) hI hi hd9 hg hnn (hev hu)
          refine ⟨m', fun Φ h => clsE Φ (c_85 hk hI hi hd9 (fun _ => ⟨fun q => absurd q (by decide), fun _ => c1 Φ h⟩) (fun _ q => absurd q hg) (fun _ q => absurd q hg)), c2, c3, c4, fun M hM Φ h => refE M Φ (r_273 hI hM hi hd9 hd2 (fun _ => ?_) (fun q => absurd q hg) (fun q => absurd q hg))⟩
          unfold w_288_88
          exact ⟨fun q => absurd q (gN1 hP hd9 hg), fun _ => c5 M hM Φ h⟩
    · obtain ⟨m', c1, c2, c3, c4, c5⟩ := bad 6 (by decide)
      refine ⟨m', fun Φ h => ?_, c2, c3, c4, fun M hM Φ h => ?_⟩
      · show w_177_51 kc Φ (14 + 5 * i) (m (14 + 5 * i + 2) 10) (m (14 + 5 * i + 2) 11) u m
        rw [ed]
        unfold w_177_51 w_177_86 w_177_137
        refine c_173 ?_
        rw [bt', cS.1]
        refine ⟨fun q => absurd q (by decide), fun _ => ⟨cS.2, c_213 ?_⟩⟩
        rw [bI_f (fun q => hn ((ultN (by omega)).mp q))]
        exact ⟨fun _ => c1 _ h, fun q => absurd rfl q⟩
      · show w_288_36 kc Φ (nI i) (nI d) (m (14 + 5 * i + 2) 11) (m (14 + 5 * i + 2) 12) (m (14 + 5 * i + 2) 13) 0 u M
        unfold w_288_36 w_288_69
        refine r_287 ?_
        rw [bt']
        refine ⟨fun q => absurd q (by decide), fun _ => ⟨fun q => c5 M hM _ h, fun q => r_264 hd9 ⟨fun q2 => c5 M hM _ h, fun q2 => ?_⟩⟩⟩
        exfalso
        rw [Int32.lt_iff_toInt_lt] at q
        rw [Int32.le_iff_toInt_le, nI_toInt (by omega)] at q2
        simp only [Int32.reduceToInt] at q
        omega
  · obtain ⟨m', c1, c2, c3, c4, c5⟩ := bad 11 (by decide)
    refine ⟨m', fun Φ h => ?_, c2, c3, c4, fun M hM Φ h => ?_⟩
    · show w_177_51 kc Φ (14 + 5 * i) (m (14 + 5 * i + 2) 10) (m (14 + 5 * i + 2) 11) u m
      unfold w_177_51 w_177_137
      refine c_173 ?_
      rw [bI_f hd]
      exact ⟨fun _ => c1 _ h, fun q => absurd rfl q⟩
    · show w_288_36 kc Φ (nI i) (m (14 + 5 * i + 2) 10) (m (14 + 5 * i + 2) 11) (m (14 + 5 * i + 2) 12) (m (14 + 5 * i + 2) 13) 0 u M
      unfold w_288_36
      refine r_287 ?_
      rw [bI_f hd]
      exact ⟨fun _ => c5 M hM _ h, fun q => absurd rfl q⟩
