/-! audit: the other checks; audit in lockstep. -/
theorem c_99 {kc : it_Kc} {B : Nat} {m : it_Me} (hI : Inv B m) {i : Nat} (hi : i < cnt m) {Φ : Int32 → it_Me → Prop} (h : Φ 1 m) : w_99 kc (14 + 5 * i) m Φ := by
  have h8 := cnt_le hI
  have bi := blk_I ((hI.p hi) 0)
  have lp : ∀ (K49 : it_Me → Prop) (K57 : Nat → it_Me → Prop), K57 (14 + 5 * i) m → ∀ r n, n + r = i → w_99_2 kc Φ K49 K57 (r + 1) (14 + 5 * i) (nI n) m := by
    intro K49 K57 k r
    induction r with
    | zero =>
      intro n hn
      unfold w_99_2
      rw [hI.num i (by omega)]
      exact ⟨fun _ => k, fun q => absurd ((nLe (by omega) (by omega)).2 (by omega)) q⟩
    | succ r ih =>
      intro n hn
      have hn' : n < cnt m := by omega
      have bn := blk_I ((hI.p hn') 0)
      have d := hI.dis (on_of hI hi) n i hi (by omega)
      have e : m (14 + 5 * n) 5 + m (14 + 5 * n) 6 ≤ m (14 + 5 * i) 5 := by
        rw [Int32.le_iff_toInt_le, add_I (by omega) (by omega)]
        exact d
      rw [w_99_2]
      unfold w_99_51
      rw [hI.num i (by omega), cI (by omega), nI_s1]
      exact ⟨fun q => absurd ((nLe (by omega) (by omega)).1 q) (by omega), fun _ => ⟨vI (by omega), fun _ => ih (n + 1) (by omega), fun q => absurd e q⟩⟩
  unfold w_99
  have k := lp (fun m => w_99_49 kc Φ m) (fun v1 m => w_99_57 kc Φ v1 m) (by
    unfold w_99_57
    refine c_215 (by decide) (by decide) ?_
    rw [bI_t (by show (131072 : Int) ≤ _ ∧ _ ∧ _ ≤ (196608 : Int); omega)]
    exact ⟨Or.inr rfl, h⟩) i 0 (by omega)
  exact ⟨_, k⟩
theorem ChL {m : it_Me} {i : Nat} : ∀ (ds : List Nat) (a : Int32), Ch m i a ds → a.toInt + 8 * ds.length ≤ (ctl m i).toInt
  | [], a, h => by
    have h : a = ctl m i := h
    rw [h, List.length_nil]
    omega
  | d :: ds, a, h => by
    obtain ⟨h1, _, _, _, _, h6, h7⟩ := h
    have t := ChL ds _ h7
    have g := kN h1
    have c := thi (ctl m i)
    have b := tlo a
    have e : (a + nI (gsz d)).toInt = a.toInt + gsz d := by
      rw [add_I] <;> rw [nI_toInt (by omega)] <;> omega
    rw [List.length_cons]
    omega
theorem c_100 {kc : it_Kc} (hk : KC kc) {B : Nat} {m : it_Me} (hI : Inv B m) {i : Nat} (hi : i < cnt m) {Φ : Int32 → it_Me → Prop} (h : Φ 1 m) : w_100 kc (14 + 5 * i) m Φ := by
  have P := hI.p hi
  have bl := blk_I (P 0)
  have o := P.ord
  have cc := P.ctlI
  obtain ⟨ds, hC, _, _, h18⟩ := P.gr
  have ll := ChL ds _ hC
  have lp : ∀ (K48 K87 : it_Me → Prop) (K98 : Nat → Int32 → it_Me → Prop), K98 (14 + 5 * i) (ctl m i) m → ∀ (l : List Nat) (a : Int32) (n : Nat), Ch m i a l → n + l.length = ds.length → w_100_7 kc Φ K48 K87 K98 (l.length + 1) (14 + 5 * i) a (nI n) m := by
    intro K48 K87 K98 k l
    induction l with
    | nil =>
      intro a n hC hn
      have e : a = ctl m i := hC
      unfold w_100_7
      rw [h18, e]
      exact ⟨fun _ => k, fun q => absurd ((nLe (by omega) (by omega)).2 (by rw [List.length_nil] at hn; omega)) q⟩
    | cons d l ih =>
      intro a n hC hn
      obtain ⟨h1, h2, h3, h4, h5, h6, h7⟩ := hC
      rw [List.length_cons] at hn
      have t := ih (a + nI (gsz d)) (n + 1) h7 (by omega)
      rw [List.length_cons, w_100_7]
      unfold w_129 w_100_84
      rw [h18, nI_s1]
      refine ⟨fun q => absurd ((nLe (by omega) (by omega)).1 q) (by omega), fun _ => c_12 ?_⟩
      rw [h4]
      refine ⟨fun q => absurd ((nLt (b := 0) (by omega) (by omega)).1 q) (by omega), fun _ => ⟨fun q => absurd ((nLe (a := 9) (by omega) (by omega)).1 q) (by omega), fun _ => ⟨v9 h1, ?_⟩⟩⟩
      rw [nI_clamp (by omega)]
      refine ⟨fun _ => c_86 hk h1 (c_12 ?_), fun q => absurd h3 q⟩
      rw [h5]
      show (a + nI (gsz d) = ctl m i → _) ∧ (¬ a + nI (gsz d) = ctl m i → _)
      refine ⟨fun q => ?_, fun q => ?_⟩
      · rw [if_pos q]
        exact ⟨fun _ => t, fun z => absurd rfl z⟩
      · rw [if_neg q]
        exact ⟨fun _ => t, fun z => absurd rfl z⟩
  unfold w_100
  have k := lp (fun m => w_100_48 kc Φ m) (fun m => w_100_87 kc Φ m) (fun v1 v2 m => w_100_98 kc Φ v1 v2 m) (by
    unfold w_100_98 w_129 w_100_111
    exact ⟨fun _ => ⟨Or.inr rfl, h⟩, fun q => absurd rfl q⟩) ds (m (14 + 5 * i) 8) 0 hC (by omega)
  exact ⟨_, k⟩
theorem Bf_all {B : Nat} {m : it_Me} (hI : Inv B m) {i d k : Nat} (hi : i < cnt m) (hd : d < 9) (hk : k < rbN d + wbN d) : Bf m i (gw m (m (14 + 5 * i + 4) d + nI (8 * (1 + sbN d + k)))) (gw m (m (14 + 5 * i + 4) d + nI (8 * (1 + sbN d + k) + 4))) (rbN d ≤ k) := by
  have P := hI.p hi
  by_cases g : m (14 + 5 * i + 4) d = 0
  · have kk := kN hd
    refine Or.inl ?_
    rw [g, Int32.zero_add]
    exact gw_low (by rw [nI_toInt (by omega)]; omega)
  · exact P.bf d hd g k hk
theorem c_101 {kc : it_Kc} (hk : KC kc) {B : Nat} {m : it_Me} (hI : Inv B m) {i : Nat} (hi : i < cnt m) {Φ : Int32 → it_Me → Prop} (h : Φ 1 m) : w_101 kc (14 + 5 * i) m Φ := by
  have P := hI.p hi
  have inn : ∀ {d : Nat}, d < 9 → ∀ (K86 : it_Me → Prop) (K94 : Nat → Int32 → it_Me → Prop), K94 (14 + 5 * i) (nI d) m → ∀ r k, k + r = rbN d + wbN d → w_101_23 kc Φ K86 K94 (r + 1) (14 + 5 * i) (nI d) (nI (rbN d + wbN d)) (nI k) m := by
    intro d hd K86 K94 g r
    have kk := kN hd
    induction r with
    | zero =>
      intro k hr
      unfold w_101_23
      exact ⟨fun _ => g, fun q => absurd ((nLe (by omega) (by omega)).2 (by omega)) q⟩
    | succ r ih =>
      intro k hr
      have bf := Bf_all hI hi hd (k := k) (by omega)
      have t := ih (k + 1) (by omega)
      rw [w_101_23]
      unfold w_101_54
      rw [hk.k3]
      dsimp only
      rw [nI_clamp (by omega), kT3 hd, nI_s1]
      refine ⟨fun q => absurd ((nLe (by omega) (by omega)).1 q) (by omega), fun _ => c_88 hk hd ⟨v9 hd, fun q => ?_, fun q => ?_⟩⟩
      · have q := (nLt (by omega) (by omega)).1 q
        refine c_12 (c_12 ?_)
        rw [ga4]
        refine c_102 P ?_
        rw [bI_t (by rw [show ((0 : Int32) ≠ 0) = (rbN d ≤ k) from propext ⟨fun y => absurd rfl y, fun y => absurd y (by omega)⟩]; exact bf)]
        exact ⟨fun z => absurd z (by decide), fun _ => t⟩
      · have q : ¬ k < rbN d := fun y => q ((nLt (by omega) (by omega)).2 y)
        refine c_12 (c_12 ?_)
        rw [ga4]
        refine c_102 P ?_
        rw [bI_t (by rw [show ((1 : Int32) ≠ 0) = (rbN d ≤ k) from propext ⟨fun _ => by omega, fun _ => by decide⟩]; exact bf)]
        exact ⟨fun z => absurd z (by decide), fun _ => t⟩
  have lp : ∀ (K86 K100 : it_Me → Prop), K100 m → ∀ r d, d + r = 9 → w_101_2 kc Φ K86 K100 (r + 1) (14 + 5 * i) (nI d) m := by
    intro K86 K100 g r
    induction r with
    | zero =>
      intro d hd
      unfold w_101_2
      exact ⟨fun _ => g, fun q => absurd ((nLe (a := 9) (by omega) (by omega)).2 (by omega)) q⟩
    | succ r ih =>
      intro d hd
      have d9 : d < 9 := by omega
      have t := ih (d + 1) (by omega)
      rw [w_101_2]
      rw [hk.k3, hk.k4, nI_clamp (by omega)]
      dsimp only
      rw [kT3 d9, kT4 d9, nI_add]
      refine ⟨fun q => absurd ((nLe (a := 9) (by omega) (by omega)).1 q) (by omega), fun _ => ⟨v9 d9, v9 d9, _, inn d9 _ _ ?_ (rbN d + wbN d) 0 (by omega)⟩⟩
      show w_101_94 kc Φ _ _ _ _ _ _
      unfold w_101_94
      rw [nI_s1]
      exact t
  unfold w_101
  have k := lp (fun m => w_101_86 kc Φ m) (fun m => w_101_100 kc Φ m) h 9 0 (by omega)
  exact ⟨_, k⟩
theorem c_93 {kc : it_Kc} (hk : KC kc) {B : Nat} {m : it_Me} (hI : Inv B m) {i : Nat} (hi : i < cnt m) {Φ : Int32 → it_Me → Prop} (h : Φ 0 (peC m (enL m i))) : w_93 kc (14 + 5 * i) m Φ := by
  have o := (hI.p hi).ord
  have e1 : ¬ m (14 + 5 * i) 7 < m (14 + 5 * i) 5 := fun q => by rw [Int32.lt_iff_toInt_lt] at q; omega
  have e2 : ¬ m (14 + 5 * i) 8 < m (14 + 5 * i) 7 := fun q => by rw [Int32.lt_iff_toInt_lt] at q; omega
  have e3 : ¬ m (14 + 5 * i) 5 + m (14 + 5 * i) 6 - 64 < m (14 + 5 * i) 8 := fun q => by
    have q : ctl m i < m (14 + 5 * i) 8 := q
    rw [Int32.lt_iff_toInt_lt] at q
    omega
  unfold w_93 w_129 w_93_38 w_93_48
  refine ⟨fun q => absurd q e1, fun _ => ⟨fun q => absurd q e2, fun _ => ⟨fun q => absurd q e3, fun _ => ⟨fun q => absurd q (by decide), fun _ => c_99 hI hi ⟨fun q => absurd q (by decide), fun _ => ?_⟩⟩⟩⟩⟩
  unfold w_93_63 w_93_79 w_93_95 w_93_111
  refine c_100 hk hI hi ⟨fun q => absurd q (by decide), fun _ => c_101 hk hI hi ⟨fun q => absurd q (by decide), fun _ => c_97 hI hi ⟨fun q => absurd q (by decide), fun _ => ?_⟩⟩⟩
  have z : ((((0 : Int32) + 0) + 0) + 0) + 0 = 0 := by decide
  first | exact h | (rw [z]; exact h)
theorem a_audit {kc : it_Kc} (hk : KC kc) {B : Nat} {m : it_Me} (hI : Inv B m) (hl : m 7 4 = 0) : Lk (w_210 kc) (w_359 kc) B m := by
  have h8 := cnt_le hI
  have lp : ∀ (r n : Nat) (mm : it_Me), n + r = cnt m → Sm m mm → ∃ m', Sm m m' ∧ ∀ (Φ : Int32 → it_Me → Prop) (K : Int32 → it_Me → Prop), K 0 m' → w_210_4 kc Φ K (r + 1) 0 (nI n) mm := by
    intro r
    induction r with
    | zero =>
      intro n mm hn S
      refine ⟨mm, S, fun Φ K k => ?_⟩
      unfold w_210_4
      rw [S.2 7 (by omega), cntI hI]
      exact ⟨fun _ => k, fun q => absurd ((nLe (by omega) (by omega)).2 (by omega)) q⟩
    | succ r ih =>
      intro n mm hn S
      have I := S.I hI
      have c1 : cnt mm = cnt m := cnt_cg (S.2 7 (by omega))
      obtain ⟨m', s1, s2⟩ := ih (n + 1) (peC mm (enL mm n)) (by omega) (S.trans (pe_S _ _))
      refine ⟨m', s1, fun Φ K k => ?_⟩
      rw [w_210_4]
      rw [S.2 7 (by omega), cntI hI, cI (by omega), nI_s1]
      refine ⟨fun q => absurd ((nLe (by omega) (by omega)).1 q) (by omega), fun _ => ⟨vI (by omega), c_93 hk I (by omega) ?_⟩⟩
      exact s2 Φ K k
  obtain ⟨m', s1, s2⟩ := lp (cnt m) 0 m (by omega) Sm.rfl
  refine ⟨0, m', fun Φ hp => ?_, s1.I hI, s1.F, by rw [s1.l]; exact hl, fun M hM Φ hp => ?_⟩
  · unfold w_210
    exact ⟨_, s2 Φ (fun v1 m => w_210_40 kc Φ v1 m) hp⟩
  · unfold w_359
    exact hp M (s1.R h8 hM) FrM.rfl
