/-! System calls: memory. -/
theorem maxI (a b : Int32) : (it_max a b).toInt = max a.toInt b.toInt := by
  show (if a < b then b else a).toInt = _
  by_cases h : a < b
  · have h' := Int32.lt_iff_toInt_lt.mp h
    rw [if_pos h]
    omega
  · have h' : ¬ a.toInt < b.toInt := fun z => h (Int32.lt_iff_toInt_lt.mpr z)
    rw [if_neg h]
    omega
theorem lt_fm {e : Int} : ∀ (l : List Int) (v : Int), e < l.foldl max v ↔ e < v ∨ ∃ y ∈ l, e < y
  | [], v => by simp
  | x :: l, v => by
    rw [List.foldl_cons, lt_fm l]
    constructor
    · rintro (h | ⟨y, hy, h⟩)
      · by_cases q : e < v
        · exact Or.inl q
        · exact Or.inr ⟨x, List.mem_cons_self, by omega⟩
      · exact Or.inr ⟨y, List.mem_cons_of_mem _ hy, h⟩
    · rintro (h | ⟨y, hy, h⟩)
      · left; omega
      · rcases List.mem_cons.mp hy with rfl | hy
        · left; omega
        · exact Or.inr ⟨y, hy, h⟩
theorem lt_fm2 {e : Int} {L : Nat → List Int} : ∀ (ds : List Nat) (v : Int), e < ds.foldl (fun v d => (L d).foldl max v) v ↔ e < v ∨ ∃ d ∈ ds, ∃ y ∈ L d, e < y
  | [], v => by simp
  | x :: ds, v => by
    rw [List.foldl_cons, lt_fm2 ds, lt_fm]
    constructor
    · rintro ((h | ⟨y, hy, h⟩) | ⟨d, hd, y, hy, h⟩)
      · exact Or.inl h
      · exact Or.inr ⟨x, List.mem_cons_self, y, hy, h⟩
      · exact Or.inr ⟨d, List.mem_cons_of_mem _ hd, y, hy, h⟩
    · rintro (h | ⟨d, hd, y, hy, h⟩)
      · exact Or.inl (Or.inl h)
      · rcases List.mem_cons.mp hd with rfl | hd
        · exact Or.inl (Or.inr ⟨y, hy, h⟩)
        · exact Or.inr ⟨d, hd, y, hy, h⟩
/-- where a buffer in RAM ends; 0 for the others -/
noncomputable def bE (m : it_Me) (i d k : Nat) : Int := if 0 < (gw m (m (14 + 5 * i + 4) d + nI (8 * (1 + sbN d + k) + 4))).toInt ∧ 131072 ≤ (gw m (m (14 + 5 * i + 4) d + nI (8 * (1 + sbN d + k)))).toInt then (gw m (m (14 + 5 * i + 4) d + nI (8 * (1 + sbN d + k)))).toInt + (gw m (m (14 + 5 * i + 4) d + nI (8 * (1 + sbN d + k) + 4))).toInt else 0
noncomputable def bL (m : it_Me) (i d : Nat) : List Int := (List.range (rbN d + wbN d)).map (bE m i d)
/-- the words of a buffer, also of a grant that isn't there -/
theorem bE_I {m : it_Me} {i d k : Nat} (hP : PI m i) (hd : d < 9) (hk : k < rbN d + wbN d) : 0 ≤ (gw m (m (14 + 5 * i + 4) d + nI (8 * (1 + sbN d + k) + 4))).toInt ∧ (0 < (gw m (m (14 + 5 * i + 4) d + nI (8 * (1 + sbN d + k) + 4))).toInt → 131072 ≤ (gw m (m (14 + 5 * i + 4) d + nI (8 * (1 + sbN d + k)))).toInt → (gw m (m (14 + 5 * i + 4) d + nI (8 * (1 + sbN d + k)))).toInt + (gw m (m (14 + 5 * i + 4) d + nI (8 * (1 + sbN d + k) + 4))).toInt ≤ (m (14 + 5 * i) 7).toInt) ∧ (m (14 + 5 * i + 4) d = 0 → gw m (m (14 + 5 * i + 4) d + nI (8 * (1 + sbN d + k) + 4)) = 0) := by
  have kk := kN hd
  have ap := hP.app
  by_cases hg : m (14 + 5 * i + 4) d = 0
  · have z : gw m (m (14 + 5 * i + 4) d + nI (8 * (1 + sbN d + k) + 4)) = 0 := by
      rw [hg, Int32.zero_add]
      exact gw_low (by rw [nI_toInt (by omega)]; omega)
    rw [z]
    exact ⟨by decide, fun q => absurd q (by decide), fun _ => rfl⟩
  · have b := hP.bf d hd hg k hk
    refine ⟨?_, fun h1 h2 => ?_, fun q => absurd q hg⟩
    · rcases b with b | ⟨b, _⟩
      · rw [b]; decide
      · omega
    · rcases b with b | ⟨_, b | ⟨_, b⟩⟩
      · rw [b] at h1; exact absurd h1 (by decide)
      · exact b.2
      · omega
theorem c_91i {kc : it_Kc} (hk : KC kc) {m : it_Me} {i d : Nat} (hP : PI m i) (hd : d < 9) : ∀ (r k : Nat) (v : Int32), k + r = rbN d + wbN d → 0 ≤ v.toInt → ∃ v' : Int32, 0 ≤ v'.toInt ∧ v'.toInt = ((List.range' k r).map (bE m i d)).foldl max v.toInt ∧ ∀ (Φ : Int32 → it_Me → Prop) (K : Nat → Int32 → Int32 → it_Me → Prop), K (14 + 5 * i) v' (nI d) m → w_91_29 kc Φ K (r + 1) (14 + 5 * i) v (nI d) (nI (rbN d + wbN d)) (nI k) m := by
  have kk := kN hd
  have o := hP.ord
  have l := hP.low0
  intro r
  induction r with
  | zero =>
    intro k v hr hv
    refine ⟨v, hv, rfl, fun Φ K h => ?_⟩
    unfold w_91_29
    exact ⟨fun _ => h, fun q => absurd (by rw [Int32.le_iff_toInt_le, nI_toInt (by omega), nI_toInt (by omega)]; omega) q⟩
  | succ r ih =>
    intro k v hr hv
    have b := bE_I hP hd (k := k) (by omega)
    rw [List.range'_succ, List.map_cons, List.foldl_cons]
    by_cases q : 0 < (gw m (m (14 + 5 * i + 4) d + nI (8 * (1 + sbN d + k) + 4))).toInt ∧ 131072 ≤ (gw m (m (14 + 5 * i + 4) d + nI (8 * (1 + sbN d + k)))).toInt
    · have eb : bE m i d k = (gw m (m (14 + 5 * i + 4) d + nI (8 * (1 + sbN d + k)))).toInt + (gw m (m (14 + 5 * i + 4) d + nI (8 * (1 + sbN d + k) + 4))).toInt := by unfold bE; rw [if_pos q]
      have es : (gw m (m (14 + 5 * i + 4) d + nI (8 * (1 + sbN d + k))) + gw m (m (14 + 5 * i + 4) d + nI (8 * (1 + sbN d + k) + 4))).toInt = bE m i d k := by
        have := b.2.1 q.1 q.2
        rw [eb, add_I] <;> omega
      obtain ⟨v', a1, a2, a3⟩ := ih (k + 1) (it_max v (gw m (m (14 + 5 * i + 4) d + nI (8 * (1 + sbN d + k))) + gw m (m (14 + 5 * i + 4) d + nI (8 * (1 + sbN d + k) + 4)))) (by omega) (by rw [maxI]; omega)
      rw [maxI, es] at a2
      refine ⟨v', a1, a2, fun Φ K h => ?_⟩
      unfold w_91_29 w_91_92
      refine ⟨fun z => ?_, fun _ => c_88 hk hd (c_12 (c_12 ?_))⟩
      · exfalso; rw [Int32.le_iff_toInt_le, nI_toInt (by omega), nI_toInt (by omega)] at z; omega
      · rw [ga4, nI_1]
        refine ⟨fun z => ?_, fun _ => ⟨fun z => ?_, fun _ => a3 Φ K h⟩⟩
        · exfalso; rw [Int32.le_iff_toInt_le] at z; simp only [Int32.reduceToInt] at z; omega
        · exfalso; rw [Int32.lt_iff_toInt_lt] at z; simp only [Int32.reduceToInt] at z; omega
    · have eb : bE m i d k = 0 := by unfold bE; rw [if_neg q]
      obtain ⟨v', a1, a2, a3⟩ := ih (k + 1) v (by omega) hv
      refine ⟨v', a1, by rw [eb, Int.max_eq_left hv]; exact a2, fun Φ K h => ?_⟩
      unfold w_91_29 w_91_92
      refine ⟨fun z => ?_, fun _ => c_88 hk hd (c_12 (c_12 ?_))⟩
      · exfalso; rw [Int32.le_iff_toInt_le, nI_toInt (by omega), nI_toInt (by omega)] at z; omega
      · rw [ga4, nI_1]
        refine ⟨fun z => a3 Φ K h, fun z => ⟨fun z2 => a3 Φ K h, fun z2 => ?_⟩⟩
        exfalso
        rw [Int32.le_iff_toInt_le] at z
        rw [Int32.lt_iff_toInt_lt] at z2
        simp only [Int32.reduceToInt] at z z2
        exact q ⟨by omega, by omega⟩
theorem c_91o {kc : it_Kc} (hk : KC kc) {m : it_Me} {i : Nat} (hP : PI m i) : ∀ (r d : Nat) (v : Int32), d + r = 9 → 0 ≤ v.toInt → ∃ v' : Int32, 0 ≤ v'.toInt ∧ v'.toInt = (List.range' d r).foldl (fun v d => (bL m i d).foldl max v) v.toInt ∧ ∀ (Φ : Int32 → it_Me → Prop) (K : Int32 → it_Me → Prop), K v' m → w_91_7 kc Φ K (r + 1) (14 + 5 * i) v (nI d) m := by
  intro r
  induction r with
  | zero =>
    intro d v hr hv
    refine ⟨v, hv, rfl, fun Φ K h => ?_⟩
    unfold w_91_7
    exact ⟨fun _ => h, fun q => absurd (by rw [Int32.le_iff_toInt_le, nI_toInt (by omega)]; show (9 : Int) ≤ _; omega) q⟩
  | succ r ih =>
    intro d v hr hv
    have hd : d < 9 := by omega
    have kk := kN hd
    obtain ⟨v1, a1, a2, a3⟩ := c_91i (kc := kc) hk hP hd (rbN d + wbN d) 0 v (by omega) hv
    obtain ⟨v', b1, b2, b3⟩ := ih (d + 1) v1 (by omega) a1
    refine ⟨v', b1, ?_, fun Φ K h => ?_⟩
    · rw [List.range'_succ, List.foldl_cons, b2, a2]
      unfold bL
      rw [List.range_eq_range']
    · unfold w_91_7
      rw [hk.k3, hk.k4, nI_clamp (by omega)]
      dsimp only
      rw [kT3 hd, kT4 hd, nI_add]
      refine ⟨fun z => ?_, fun _ => ⟨v9 hd, v9 hd, _, a3 Φ _ ?_⟩⟩
      · exfalso; rw [Int32.le_iff_toInt_le, nI_toInt (by omega)] at z; simp only [Int32.reduceToInt] at z; omega
      · unfold w_91_98
        rw [nI_1]
        exact b3 Φ K h
theorem r_292i {kc : it_Kc} {B : Nat} {m M : it_Me} (hI : Inv B m) (hR : Rel m M) {i d : Nat} (hi : i < cnt m) (hd : d < 9) (hg : m (14 + 5 * i + 4) d ≠ 0) : ∀ (r k : Nat) (v : Int32), k + r = rbN d + wbN d → 0 ≤ v.toInt → ∃ v' : Int32, 0 ≤ v'.toInt ∧ v'.toInt = ((List.range' k r).map (bE m i d)).foldl max v.toInt ∧ ∀ (Φ : Int32 → it_Me → Prop) (K : Int32 → Int32 → Int32 → Int32 → it_Me → Prop), K (nI i) v' (m (14 + 5 * i + 4) d) (nI d) M → w_292_34 kc Φ K (r + 1) (nI i) v (m (14 + 5 * i + 4) d) (nI d) (m (14 + 5 * i + 4) d + nI (8 * (1 + sbN d + k))) M := by
  have hP := hI.p hi
  have kk := kN hd
  have o := hP.ord
  have l := hP.low0
  have g := hP.gI hd hg
  intro r
  induction r with
  | zero =>
    intro k v hr hv
    refine ⟨v, hv, rfl, fun Φ K h => ?_⟩
    have a1 := gI' hP hd hg (k := owA d) (by omega)
    have a2 := gI' hP hd hg (k := 8 * (1 + sbN d + k)) (by omega)
    unfold w_292_34
    refine r_269 hd ⟨fun _ => h, fun q => absurd (by rw [Int32.le_iff_toInt_le, a1.1, a2.1]; omega) q⟩
  | succ r ih =>
    intro k v hr hv
    have b := bE_I hP hd (k := k) (by omega)
    have a1 := gI' hP hd hg (k := owA d) (by omega)
    have a2 := gI' hP hd hg (k := 8 * (1 + sbN d + k)) (by omega)
    have e8 : m (14 + 5 * i + 4) d + nI (8 * (1 + sbN d + k)) + 8 = m (14 + 5 * i + 4) d + nI (8 * (1 + sbN d + (k + 1))) := by
      rw [Int32.add_assoc, show (8 : Int32) = nI 8 from rfl, nI_add, show 8 * (1 + sbN d + k) + 8 = 8 * (1 + sbN d + (k + 1)) by omega]
    rw [List.range'_succ, List.map_cons, List.foldl_cons]
    by_cases q : 0 < (gw m (m (14 + 5 * i + 4) d + nI (8 * (1 + sbN d + k) + 4))).toInt ∧ 131072 ≤ (gw m (m (14 + 5 * i + 4) d + nI (8 * (1 + sbN d + k)))).toInt
    · have eb : bE m i d k = (gw m (m (14 + 5 * i + 4) d + nI (8 * (1 + sbN d + k)))).toInt + (gw m (m (14 + 5 * i + 4) d + nI (8 * (1 + sbN d + k) + 4))).toInt := by unfold bE; rw [if_pos q]
      have es : (gw m (m (14 + 5 * i + 4) d + nI (8 * (1 + sbN d + k))) + gw m (m (14 + 5 * i + 4) d + nI (8 * (1 + sbN d + k) + 4))).toInt = bE m i d k := by
        have := b.2.1 q.1 q.2
        rw [eb, add_I] <;> omega
      obtain ⟨v', c1, c2, c3⟩ := ih (k + 1) (it_max v (gw m (m (14 + 5 * i + 4) d + nI (8 * (1 + sbN d + k))) + gw m (m (14 + 5 * i + 4) d + nI (8 * (1 + sbN d + k) + 4)))) (by omega) (by rw [maxI]; omega)
      rw [maxI, es] at c2
      refine ⟨v', c1, c2, fun Φ K h => ?_⟩
      unfold w_292_34 w_292_87 w_292_88
      refine r_269 hd ⟨fun z => ?_, fun _ => r_220g hI hR hi hd hg (by omega) (by omega) ?_⟩
      · exfalso; rw [Int32.le_iff_toInt_le, a1.1, a2.1] at z; omega
      · rw [ga4, e8]
        refine r_220g hI hR hi hd hg (by omega) (by omega) ⟨fun z => ?_, fun _ => ⟨fun z => ?_, fun _ => c3 Φ K h⟩⟩
        · exfalso; rw [z] at q; exact absurd q.1 (by decide)
        · exfalso; rw [Int32.lt_iff_toInt_lt] at z; simp only [Int32.reduceToInt] at z; omega
    · have eb : bE m i d k = 0 := by unfold bE; rw [if_neg q]
      obtain ⟨v', c1, c2, c3⟩ := ih (k + 1) v (by omega) hv
      refine ⟨v', c1, by rw [eb, Int.max_eq_left hv]; exact c2, fun Φ K h => ?_⟩
      unfold w_292_34 w_292_87 w_292_88
      refine r_269 hd ⟨fun z => ?_, fun _ => r_220g hI hR hi hd hg (by omega) (by omega) ?_⟩
      · exfalso; rw [Int32.le_iff_toInt_le, a1.1, a2.1] at z; omega
      · rw [ga4, e8]
        refine r_220g hI hR hi hd hg (by omega) (by omega) ⟨fun z => c3 Φ K h, fun z => ⟨fun z2 => c3 Φ K h, fun z2 => ?_⟩⟩
        exfalso
        have z' : (gw m (m (14 + 5 * i + 4) d + nI (8 * (1 + sbN d + k) + 4))).toInt ≠ 0 := fun y => z (Int32.toInt_inj.mp y)
        rw [Int32.lt_iff_toInt_lt] at z2
        simp only [Int32.reduceToInt] at z2
        exact q ⟨by omega, by omega⟩
theorem r_292o {kc : it_Kc} {B : Nat} {m M : it_Me} (hI : Inv B m) (hR : Rel m M) {i : Nat} (hi : i < cnt m) : ∀ (ds : List Nat) (a v : Int32), Ch m i a ds → 131072 ≤ a.toInt → a.toInt % 4 = 0 → (m (14 + 5 * i) 8).toInt ≤ a.toInt → 0 ≤ v.toInt → ∃ v' : Int32, 0 ≤ v'.toInt ∧ v'.toInt = ds.foldl (fun v d => (bL m i d).foldl max v) v.toInt ∧ ∀ (Φ : Int32 → it_Me → Prop) (K : Int32 → it_Me → Prop), K v' M → w_292_9 kc Φ K (ds.length + 1) (nI i) v a M := by
  have hc := cnt_le hI
  have i8 : i < 8 := by omega
  have hP := hI.p hi
  have l := hP.low0
  have o := hP.ord
  have ec : (M 89 (Int32.toNatClampNeg (nI i)) + M 90 (Int32.toNatClampNeg (nI i))) - 64 = ctl m i := by rw [cI (by omega), hR.base hi, hR.size hi]; rfl
  intro ds
  induction ds with
  | nil =>
    intro a v h h0 h4 hl hv
    refine ⟨v, hv, rfl, fun Φ K hp => ?_⟩
    unfold w_292_9 w_252
    rw [ec]
    exact ⟨vI i8, vI i8, fun _ => hp, fun q => absurd h q⟩
  | cons d ds ih =>
    intro a v h h0 h4 hl hv
    obtain ⟨q1, q2, q3, q5, q8, q6, q7⟩ := h
    have kk := kN q1
    have e := adI (a := a) (k := gsz d) (by omega) (by omega) (by omega)
    have hg : m (14 + 5 * i + 4) d ≠ 0 := by rw [q3]; intro q; rw [q] at h0; simp only [Int32.reduceToInt] at h0; omega
    have na := nexA hI (a := a) (Or.inr ⟨i, hi, by omega, by omega⟩)
    obtain ⟨v1, a1, a2, a3⟩ := r_292i (kc := kc) hI hR hi q1 hg (rbN d + wbN d) 0 v (by omega) hv
    obtain ⟨v', b1, b2, b3⟩ := ih (a + nI (gsz d)) v1 q7 (by omega) (by omega) (by omega) a1
    refine ⟨v', b1, ?_, fun Φ K hp => ?_⟩
    · rw [List.foldl_cons, b2, a2]
      unfold bL
      rw [List.range_eq_range']
    · show w_292_9 kc Φ K ((ds.length + 1) + 1) (nI i) v a M
      unfold w_292_9 w_252
      rw [ec]
      refine ⟨vI i8, vI i8, fun q => ?_, fun _ => r_220 hR na.1 h4 na.2 ?_⟩
      · exfalso; rw [q] at q6; omega
      rw [q5]
      refine r_270 q1 (k := 0) ?_
      rw [← q3]
      refine ⟨_, a3 Φ _ ?_⟩
      unfold w_292_95
      refine r_268 q1 ?_
      rw [q3]
      exact b3 Φ K hp
