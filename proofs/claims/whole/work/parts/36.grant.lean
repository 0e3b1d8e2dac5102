/-! Grants: where they lie, and how the reference finds them. -/
theorem nI_mul (a b : Nat) : nI a * nI b = nI (a * b) := (Int32.ofNat_mul a b).symm
theorem r_264 {kc : it_Kc} {d : Nat} (hd : d < 9) {M : it_Me} {Φ : Int32 → it_Me → Prop} (h : Φ (nI (sbN d)) M) : w_264 kc (nI d) M Φ := by
  unfold w_264 w_264_20 w_264_25
  match d, hd with
  | 0, _ => (repeat' (first | exact h | (intro q; first | exact absurd q (by decide) | skip) | constructor))
  | 1, _ => (repeat' (first | exact h | (intro q; first | exact absurd q (by decide) | skip) | constructor))
  | 2, _ => (repeat' (first | exact h | (intro q; first | exact absurd q (by decide) | skip) | constructor))
  | 3, _ => (repeat' (first | exact h | (intro q; first | exact absurd q (by decide) | skip) | constructor))
  | 4, _ => (repeat' (first | exact h | (intro q; first | exact absurd q (by decide) | skip) | constructor))
  | 5, _ => (repeat' (first | exact h | (intro q; first | exact absurd q (by decide) | skip) | constructor))
  | 6, _ => (repeat' (first | exact h | (intro q; first | exact absurd q (by decide) | skip) | constructor))
  | 7, _ => (repeat' (first | exact h | (intro q; first | exact absurd q (by decide) | skip) | constructor))
  | 8, _ => (repeat' (first | exact h | (intro q; first | exact absurd q (by decide) | skip) | constructor))
theorem r_265 {kc : it_Kc} {d : Nat} (hd : d < 9) {M : it_Me} {Φ : Int32 → it_Me → Prop} (h : Φ (nI (rbN d)) M) : w_265 kc (nI d) M Φ := by
  unfold w_265 w_265_26 w_265_31
  match d, hd with
  | 0, _ => (repeat' (first | exact h | (intro q; first | exact absurd q (by decide) | skip) | constructor))
  | 1, _ => (repeat' (first | exact h | (intro q; first | exact absurd q (by decide) | skip) | constructor))
  | 2, _ => (repeat' (first | exact h | (intro q; first | exact absurd q (by decide) | skip) | constructor))
  | 3, _ => (repeat' (first | exact h | (intro q; first | exact absurd q (by decide) | skip) | constructor))
  | 4, _ => (repeat' (first | exact h | (intro q; first | exact absurd q (by decide) | skip) | constructor))
  | 5, _ => (repeat' (first | exact h | (intro q; first | exact absurd q (by decide) | skip) | constructor))
  | 6, _ => (repeat' (first | exact h | (intro q; first | exact absurd q (by decide) | skip) | constructor))
  | 7, _ => (repeat' (first | exact h | (intro q; first | exact absurd q (by decide) | skip) | constructor))
  | 8, _ => (repeat' (first | exact h | (intro q; first | exact absurd q (by decide) | skip) | constructor))
theorem r_266 {kc : it_Kc} {d : Nat} (hd : d < 9) {M : it_Me} {Φ : Int32 → it_Me → Prop} (h : Φ (nI (wbN d)) M) : w_266 kc (nI d) M Φ := by
  unfold w_266 w_266_25 w_266_30
  match d, hd with
  | 0, _ => (repeat' (first | exact h | (intro q; first | exact absurd q (by decide) | skip) | constructor))
  | 1, _ => (repeat' (first | exact h | (intro q; first | exact absurd q (by decide) | skip) | constructor))
  | 2, _ => (repeat' (first | exact h | (intro q; first | exact absurd q (by decide) | skip) | constructor))
  | 3, _ => (repeat' (first | exact h | (intro q; first | exact absurd q (by decide) | skip) | constructor))
  | 4, _ => (repeat' (first | exact h | (intro q; first | exact absurd q (by decide) | skip) | constructor))
  | 5, _ => (repeat' (first | exact h | (intro q; first | exact absurd q (by decide) | skip) | constructor))
  | 6, _ => (repeat' (first | exact h | (intro q; first | exact absurd q (by decide) | skip) | constructor))
  | 7, _ => (repeat' (first | exact h | (intro q; first | exact absurd q (by decide) | skip) | constructor))
  | 8, _ => (repeat' (first | exact h | (intro q; first | exact absurd q (by decide) | skip) | constructor))
theorem r_267 {kc : it_Kc} {d : Nat} (hd : d < 9) {M : it_Me} {Φ : Int32 → it_Me → Prop} (h : Φ (nI (owN d)) M) : w_267 kc (nI d) M Φ := by
  unfold w_267 w_267_10 w_267_34 w_267_39
  match d, hd with
  | 0, _ => (repeat' (first | exact h | (intro q; first | exact absurd q (by decide) | skip) | constructor))
  | 1, _ => (repeat' (first | exact h | (intro q; first | exact absurd q (by decide) | skip) | constructor))
  | 2, _ => (repeat' (first | exact h | (intro q; first | exact absurd q (by decide) | skip) | constructor))
  | 3, _ => (repeat' (first | exact h | (intro q; first | exact absurd q (by decide) | skip) | constructor))
  | 4, _ => (repeat' (first | exact h | (intro q; first | exact absurd q (by decide) | skip) | constructor))
  | 5, _ => (repeat' (first | exact h | (intro q; first | exact absurd q (by decide) | skip) | constructor))
  | 6, _ => (repeat' (first | exact h | (intro q; first | exact absurd q (by decide) | skip) | constructor))
  | 7, _ => (repeat' (first | exact h | (intro q; first | exact absurd q (by decide) | skip) | constructor))
  | 8, _ => (repeat' (first | exact h | (intro q; first | exact absurd q (by decide) | skip) | constructor))
theorem kN {d : Nat} (hd : d < 9) : sbN d ≤ 3 ∧ rbN d ≤ 2 ∧ wbN d ≤ 2 ∧ owN d ≤ 4 ∧ owA d = 8 * (1 + sbN d + rbN d + wbN d) ∧ gsz d = owA d + 4 * owN d ∧ gsz d ≤ 80 ∧ 8 ≤ owA d := (by decide : ∀ d, d < 9 → sbN d ≤ 3 ∧ rbN d ≤ 2 ∧ wbN d ≤ 2 ∧ owN d ≤ 4 ∧ owA d = 8 * (1 + sbN d + rbN d + wbN d) ∧ gsz d = owA d + 4 * owN d ∧ gsz d ≤ 80 ∧ 8 ≤ owA d) d hd
theorem r_268 {kc : it_Kc} {d : Nat} (hd : d < 9) {M : it_Me} {Φ : Int32 → it_Me → Prop} (h : Φ (nI (gsz d)) M) : w_268 kc (nI d) M Φ := by
  unfold w_268
  refine r_264 hd (r_265 hd (r_266 hd (r_267 hd ?_)))
  rw [show (8 : Int32) + 8 * (nI (sbN d) + nI (rbN d) + nI (wbN d)) + 4 * nI (owN d) = nI (gsz d) from (by decide +kernel : ∀ d, d < 9 → (8 : Int32) + 8 * (nI (sbN d) + nI (rbN d) + nI (wbN d)) + 4 * nI (owN d) = nI (gsz d)) d hd]
  exact h
theorem r_269 {kc : it_Kc} {d : Nat} (hd : d < 9) {g : Int32} {M : it_Me} {Φ : Int32 → it_Me → Prop} (h : Φ (g + nI (owA d)) M) : w_269 kc g (nI d) M Φ := by
  unfold w_269
  refine r_264 hd (r_265 hd (r_266 hd ?_))
  rw [Int32.add_assoc, show (8 : Int32) + 8 * (nI (sbN d) + nI (rbN d) + nI (wbN d)) = nI (owA d) from (by decide +kernel : ∀ d, d < 9 → (8 : Int32) + 8 * (nI (sbN d) + nI (rbN d) + nI (wbN d)) = nI (owA d)) d hd]
  exact h
theorem nI8 (n : Nat) : (8 : Int32) * nI n = nI (8 * n) := nI_mul 8 n
theorem r_270 {kc : it_Kc} {d k : Nat} (hd : d < 9) {g : Int32} {M : it_Me} {Φ : Int32 → it_Me → Prop} (h : Φ (g + nI (8 * (1 + sbN d + k))) M) : w_270 kc g (nI d) (nI k) M Φ := by
  unfold w_270
  refine r_264 hd ?_
  rw [Int32.add_assoc, nI_add, nI8, show (8 : Int32) = nI 8 from rfl, nI_add, show 8 + 8 * (sbN d + k) = 8 * (1 + sbN d + k) by omega]
  exact h
theorem r_271 {kc : it_Kc} {d k : Nat} (hd : d < 9) {g : Int32} {M : it_Me} {Φ : Int32 → it_Me → Prop} (h : Φ (g + nI (8 * (1 + sbN d + rbN d + k))) M) : w_271 kc g (nI d) (nI k) M Φ := by
  unfold w_271
  refine r_264 hd (r_265 hd ?_)
  rw [Int32.add_assoc, nI_add, nI_add, nI8, show (8 : Int32) = nI 8 from rfl, nI_add, show 8 + 8 * (sbN d + rbN d + k) = 8 * (1 + sbN d + rbN d + k) by omega]
  exact h
theorem v9 {d : Nat} (hd : d < 9) : vp_in (nI d) 9 := by rw [vp_in_iff, nI_toInt (by omega)]; omega
theorem kT2 {d : Nat} (hd : d < 9) : ([1, 3, 0, 1, 1, 1, 1, 1, 0] : List Int32).getD d 0 = nI (sbN d) := (by decide +kernel : ∀ d, d < 9 → ([1, 3, 0, 1, 1, 1, 1, 1, 0] : List Int32).getD d 0 = nI (sbN d)) d hd
theorem kT3 {d : Nat} (hd : d < 9) : ([0, 2, 0, 0, 0, 1, 0, 1, 1] : List Int32).getD d 0 = nI (rbN d) := (by decide +kernel : ∀ d, d < 9 → ([0, 2, 0, 0, 0, 1, 0, 1, 1] : List Int32).getD d 0 = nI (rbN d)) d hd
theorem kT4 {d : Nat} (hd : d < 9) : ([0, 2, 0, 0, 1, 1, 0, 1, 0] : List Int32).getD d 0 = nI (wbN d) := (by decide +kernel : ∀ d, d < 9 → ([0, 2, 0, 0, 1, 1, 0, 1, 0] : List Int32).getD d 0 = nI (wbN d)) d hd
theorem kT1 {d : Nat} (hd : d < 9) : ([3, 4, 0, 1, 0, 0, 3, 1, 0] : List Int32).getD d 0 = nI (owN d) := (by decide +kernel : ∀ d, d < 9 → ([3, 4, 0, 1, 0, 0, 3, 1, 0] : List Int32).getD d 0 = nI (owN d)) d hd
theorem c_86 {kc : it_Kc} (hk : KC kc) {d : Nat} (hd : d < 9) {m : it_Me} {Φ : Int32 → it_Me → Prop} (h : Φ (nI (gsz d)) m) : w_86 kc (nI d) m Φ := by
  unfold w_86
  rw [hk.k1, hk.k2, hk.k3, hk.k4, nI_clamp (by omega)]
  dsimp only
  rw [kT1 hd, kT2 hd, kT3 hd, kT4 hd]
  refine ⟨v9 hd, v9 hd, v9 hd, v9 hd, ?_⟩
  rw [show (8 : Int32) * (1 + nI (sbN d) + nI (rbN d) + nI (wbN d)) + 4 * nI (owN d) = nI (gsz d) from (by decide +kernel : ∀ d, d < 9 → (8 : Int32) * (1 + nI (sbN d) + nI (rbN d) + nI (wbN d)) + 4 * nI (owN d) = nI (gsz d)) d hd]
  exact h
theorem c_87 {kc : it_Kc} {i d n : Nat} (hd : d < 9) {m : it_Me} {Φ : Int32 → it_Me → Prop} (h : Φ (m (14 + 5 * i + 4) d + nI (8 * (1 + n))) m) : w_87 kc (14 + 5 * i) (nI d) (nI n) m Φ := by
  unfold w_87
  rw [nI_clamp (by omega), show (1 : Int32) = nI 1 from rfl, nI_add, nI8]
  exact ⟨v9 hd, h⟩
theorem c_88 {kc : it_Kc} (hk : KC kc) {i d n : Nat} (hd : d < 9) {m : it_Me} {Φ : Int32 → it_Me → Prop} (h : Φ (m (14 + 5 * i + 4) d + nI (8 * (1 + sbN d + n))) m) : w_88 kc (14 + 5 * i) (nI d) (nI n) m Φ := by
  unfold w_88
  rw [hk.k2, nI_clamp (by omega)]
  dsimp only
  rw [kT2 hd, show (1 : Int32) = nI 1 from rfl, nI_add, nI_add, nI8]
  exact ⟨v9 hd, v9 hd, h⟩
theorem c_89 {kc : it_Kc} (hk : KC kc) {i d n : Nat} (hd : d < 9) {m : it_Me} {Φ : Int32 → it_Me → Prop} (h : Φ (m (14 + 5 * i + 4) d + nI (8 * (1 + sbN d + rbN d + n))) m) : w_89 kc (14 + 5 * i) (nI d) (nI n) m Φ := by
  unfold w_89
  rw [hk.k2, hk.k3, nI_clamp (by omega)]
  dsimp only
  rw [kT2 hd, kT3 hd, show (1 : Int32) = nI 1 from rfl, nI_add, nI_add, nI_add, nI8]
  exact ⟨v9 hd, v9 hd, v9 hd, h⟩
theorem c_90 {kc : it_Kc} (hk : KC kc) {i d : Nat} (hd : d < 9) {m : it_Me} {Φ : Int32 → it_Me → Prop} (h : Φ (m (14 + 5 * i + 4) d + nI (owA d)) m) : w_90 kc (14 + 5 * i) (nI d) m Φ := by
  unfold w_90
  rw [hk.k2, hk.k3, hk.k4, nI_clamp (by omega)]
  dsimp only
  rw [kT2 hd, kT3 hd, kT4 hd, show (1 : Int32) = nI 1 from rfl, nI_add, nI_add, nI_add, nI8]
  exact ⟨v9 hd, v9 hd, v9 hd, v9 hd, h⟩
/-- a small step from an address -/
theorem adI {a : Int32} {k : Nat} (h0 : 0 ≤ a.toInt) (h1 : a.toInt ≤ 196608) (hk : k ≤ 196608) : (a + nI k).toInt = a.toInt + k := by
  have := nI_toInt (n := k) (by omega)
  rw [add_I] <;> omega
theorem Ch_at {m : it_Me} {i : Nat} (hc : (ctl m i).toInt ≤ 196608) : ∀ (ds : List Nat) (a : Int32), Ch m i a ds → 0 ≤ a.toInt → a.toInt % 4 = 0 → a.toInt ≤ (ctl m i).toInt ∧ ∀ d ∈ ds, d < 9 ∧ d ≠ 2 ∧ a.toInt ≤ (m (14 + 5 * i + 4) d).toInt ∧ (m (14 + 5 * i + 4) d).toInt % 4 = 0 ∧ (m (14 + 5 * i + 4) d).toInt + gsz d ≤ (ctl m i).toInt ∧ gw m (m (14 + 5 * i + 4) d) = nI d
  | [], a, h, _, _ => by
    have e : a = ctl m i := h
    exact ⟨by rw [e]; exact Int.le_refl _, fun d hd => absurd hd List.not_mem_nil⟩
  | d :: ds, a, h, h0, h4 => by
    obtain ⟨h1, h2, h3, h5, _, h6, h7⟩ := h
    have k := kN h1
    have e := adI (a := a) (k := gsz d) h0 (by omega) (by omega)
    have ih := Ch_at hc ds _ h7 (by omega) (by omega)
    refine ⟨by omega, fun x hx => ?_⟩
    rcases List.mem_cons.mp hx with rfl | hx
    · rw [h3]; exact ⟨h1, h2, Int.le_refl _, h4, h6, h5⟩
    · have := ih.2 x hx
      exact ⟨this.1, this.2.1, by omega, this.2.2.2⟩
theorem Ch_sep {m : it_Me} {i : Nat} (hc : (ctl m i).toInt ≤ 196608) : ∀ (ds : List Nat) (a : Int32), Ch m i a ds → 0 ≤ a.toInt → a.toInt % 4 = 0 → ∀ d ∈ ds, ∀ d' ∈ ds, d ≠ d' → (m (14 + 5 * i + 4) d).toInt + gsz d ≤ (m (14 + 5 * i + 4) d').toInt ∨ (m (14 + 5 * i + 4) d').toInt + gsz d' ≤ (m (14 + 5 * i + 4) d).toInt
  | [], _, _, _, _ => fun d hd => absurd hd List.not_mem_nil
  | x :: ds, a, h, h0, h4 => by
    obtain ⟨h1, h2, h3, h5, _, h6, h7⟩ := h
    have k := kN h1
    have e := adI (a := a) (k := gsz x) h0 (by omega) (by omega)
    have at' := Ch_at hc ds _ h7 (by omega) (by omega)
    have ih := Ch_sep hc ds _ h7 (by omega) (by omega)
    intro d hd d' hd' hne
    rcases List.mem_cons.mp hd with e1 | e1
    · rcases List.mem_cons.mp hd' with e2 | e2
      · exact absurd (e1.trans e2.symm) hne
      · have := at'.2 d' e2
        rw [e1, h3]
        exact Or.inl (by omega)
    · rcases List.mem_cons.mp hd' with e2 | e2
      · have := at'.2 d e1
        rw [e2, h3]
        exact Or.inr (by omega)
      · exact ih d e1 d' e2 hne
theorem PI.low0 {m : it_Me} {i : Nat} (h : PI m i) : 131072 ≤ (m (14 + 5 * i) 8).toInt ∧ (m (14 + 5 * i) 8).toInt % 4 = 0 ∧ (ctl m i).toInt ≤ 196544 := by
  have := h.szI
  have := h.ord
  have := h.ctlI
  omega
/-- a grant that is there -/
theorem PI.gI {m : it_Me} {i d : Nat} (h : PI m i) (hd : d < 9) (hg : m (14 + 5 * i + 4) d ≠ 0) : d ≠ 2 ∧ (m (14 + 5 * i) 8).toInt ≤ (m (14 + 5 * i + 4) d).toInt ∧ (m (14 + 5 * i + 4) d).toInt % 4 = 0 ∧ (m (14 + 5 * i + 4) d).toInt + gsz d ≤ (ctl m i).toInt ∧ gw m (m (14 + 5 * i + 4) d) = nI d := by
  obtain ⟨ds, h1, h2, h3, h4⟩ := h.gr
  have l := h.low0
  by_cases hm : d ∈ ds
  · exact ((Ch_at (by omega) ds _ h1 (by omega) (by omega)).2 d hm).2
  · exact absurd (h3 d hd hm) hg
theorem PI.gS {m : it_Me} {i d d' : Nat} (h : PI m i) (hd : d < 9) (hg : m (14 + 5 * i + 4) d ≠ 0) (hd' : d' < 9) (hg' : m (14 + 5 * i + 4) d' ≠ 0) (hne : d ≠ d') : (m (14 + 5 * i + 4) d).toInt + gsz d ≤ (m (14 + 5 * i + 4) d').toInt ∨ (m (14 + 5 * i + 4) d').toInt + gsz d' ≤ (m (14 + 5 * i + 4) d).toInt := by
  obtain ⟨ds, h1, h2, h3, h4⟩ := h.gr
  have l := h.low0
  by_cases hm : d ∈ ds
  · by_cases hm' : d' ∈ ds
    · exact Ch_sep (by omega) ds _ h1 (by omega) (by omega) d hm d' hm' hne
    · exact absurd (h3 d' hd' hm') hg'
  · exact absurd (h3 d hd hm) hg
/-- words of a grant: their addresses, and that both know them -/
theorem gadr {B : Nat} {m : it_Me} (hI : Inv B m) {i d k : Nat} (hi : i < cnt m) (hd : d < 9) (hg : m (14 + 5 * i + 4) d ≠ 0) (hk : k < gsz d) : (m (14 + 5 * i + 4) d + nI k).toInt = (m (14 + 5 * i + 4) d).toInt + k ∧ InM (m (14 + 5 * i + 4) d + nI k) ∧ ¬ excl m (wi (m (14 + 5 * i + 4) d + nI k)) := by
  have g := (hI.p hi).gI hd hg
  have l := (hI.p hi).low0
  have o := (hI.p hi).ord
  have n := kN hd
  have e := adI (a := m (14 + 5 * i + 4) d) (k := k) (by omega) (by omega) (by omega)
  exact ⟨e, nexA hI (Or.inr ⟨i, hi, by omega, by omega⟩)⟩
/-- the reference reads a word of a grant -/
theorem r_220g {kc : it_Kc} {B : Nat} {m M : it_Me} (hI : Inv B m) (hR : Rel m M) {i d k : Nat} (hi : i < cnt m) (hd : d < 9) (hg : m (14 + 5 * i + 4) d ≠ 0) (hk : k < gsz d) (h4 : k % 4 = 0) {Φ : Int32 → it_Me → Prop} (h : Φ (gw m (m (14 + 5 * i + 4) d + nI k)) M) : w_220 kc (m (14 + 5 * i + 4) d + nI k) M Φ := by
  have g := gadr hI hi hd hg hk
  have g2 := (hI.p hi).gI hd hg
  exact r_220 hR g.2.1 (by omega) g.2.2 h
theorem r_272c {kc : it_Kc} {B : Nat} {m M : it_Me} (hI : Inv B m) (hR : Rel m M) {i : Nat} (hi : i < cnt m) {x : Int32} {Φ : Int32 → it_Me → Prop} {K25 : Int32 → it_Me → Prop} {K41 : it_Me → Prop} : ∀ (ds : List Nat) (a : Int32), Ch m i a ds → (m (14 + 5 * i) 5).toInt ≤ a.toInt → a.toInt % 4 = 0 → (∀ d ∈ ds, nI d = x → K25 (m (14 + 5 * i + 4) d) M) → ((∀ d ∈ ds, nI d ≠ x) → K41 M) → w_272_7 kc Φ K25 K41 (ds.length + 1) (nI i) x a M := by
  have hc := cnt_le hI
  have l := (hI.p hi).low0
  have s := (hI.p hi).szI
  have ec : (M 89 (Int32.toNatClampNeg (nI i)) + M 90 (Int32.toNatClampNeg (nI i))) - 64 = ctl m i := by rw [cI (by omega), hR.base hi, hR.size hi]; rfl
  intro ds
  induction ds with
  | nil =>
    intro a h _ _ _ h2
    unfold w_272_7 w_252
    rw [ec]
    refine ⟨vI (by omega), vI (by omega), fun _ => h2 (fun d hd => absurd hd List.not_mem_nil), fun q => absurd h q⟩
  | cons d ds ih =>
    intro a h h0 h4 h1 h2
    obtain ⟨q1, q2, q3, q5, _, q6, q7⟩ := h
    have k := kN q1
    have e := adI (a := a) (k := gsz d) (by omega) (by omega) (by omega)
    have na := nexA hI (a := a) (Or.inr ⟨i, hi, by omega, by omega⟩)
    show w_272_7 kc Φ K25 K41 ((ds.length + 1) + 1) (nI i) x a M
    unfold w_272_7 w_252
    rw [ec]
    refine ⟨vI (by omega), vI (by omega), fun q => ?_, fun _ => r_220 hR na.1 h4 na.2 ?_⟩
    · exfalso; rw [q] at q6; omega
    rw [q5]
    refine ⟨fun q => ?_, fun q => r_220 hR na.1 h4 na.2 ?_⟩
    · have := h1 d List.mem_cons_self q
      rw [q3] at this
      exact this
    · rw [q5]
      refine r_268 q1 (ih _ q7 (by omega) (by omega) (fun d' hd' e' => h1 d' (List.mem_cons_of_mem _ hd') e') (fun hh => h2 (fun d' hd' => ?_)))
      rcases List.mem_cons.mp hd' with rfl | hd'
      · exact q
      · exact hh d' hd'
/-- grantOf -/
theorem r_272 {kc : it_Kc} {B : Nat} {m M : it_Me} (hI : Inv B m) (hR : Rel m M) {i d : Nat} (hi : i < cnt m) (hd : d < 9) {Φ : Int32 → it_Me → Prop} (h : Φ (if m (14 + 5 * i + 4) d = 0 then -1 else m (14 + 5 * i + 4) d) M) : w_272 kc (nI i) (nI d) M Φ := by
  have hc := cnt_le hI
  have l := (hI.p hi).low0
  have o := (hI.p hi).ord
  obtain ⟨ds, h1, h2, h3, h4⟩ := (hI.p hi).gr
  have at' := (Ch_at (by omega) ds _ h1 (by omega) (by omega)).2
  unfold w_272
  rw [cI (by omega), hR.low hi]
  refine ⟨vI (by omega), ds.length + 1, r_272c hI hR hi ds _ h1 (by omega) (by omega) (fun d' hd' e => ?_) (fun hh => ?_)⟩
  · have e2 : d' = d := (nI_eq (by have := (at' d' hd').1; omega) (by omega)).mp e
    subst e2
    rw [if_neg (fun q => by have := at' d' hd'; rw [q] at this; simp only [Int32.reduceToInt] at this; omega)] at h
    exact h
  · rw [if_pos (h3 d hd (fun q => hh d q rfl))] at h
    exact h
theorem r_272n {kc : it_Kc} {B : Nat} {m M : it_Me} (hI : Inv B m) (hR : Rel m M) {i : Nat} (hi : i < cnt m) {x : Int32} (hx : x.toInt < 0 ∨ 9 ≤ x.toInt) {Φ : Int32 → it_Me → Prop} (h : Φ (-1) M) : w_272 kc (nI i) x M Φ := by
  have hc := cnt_le hI
  have l := (hI.p hi).low0
  have o := (hI.p hi).ord
  obtain ⟨ds, h1, h2, h3, h4⟩ := (hI.p hi).gr
  have at' := (Ch_at (by omega) ds _ h1 (by omega) (by omega)).2
  unfold w_272
  rw [cI (by omega), hR.low hi]
  refine ⟨vI (by omega), ds.length + 1, r_272c hI hR hi ds _ h1 (by omega) (by omega) (fun d' hd' e => ?_) (fun hh => h)⟩
  exfalso
  have := (at' d' hd').1
  have := nI_toInt (n := d') (by omega)
  rw [e] at this
  omega
/-- the words that PI reads lie from the break on, or in the apps -/
theorem gw_w {m m' : it_Me} {a : Int32} (h : InM a → m' 2 (wi a) = m 2 (wi a)) : gw m' a = gw m a := by
  unfold gw
  split
  · rfl
  · split
    · rename_i h1 h2
      exact h ⟨by ((try simp only [Int32.lt_iff_toInt_lt, Int32.le_iff_toInt_le, ← Int32.toInt_inj, Int32.reduceToInt, clampI, vp_in_iff, ne_eq, not_and, not_or, Int32.not_lt, Int32.not_le] at *) <;> (try simp (disch := omega) only [Int32.toInt_add, Int32.toInt_sub, Int32.toInt_mul, Int32.toInt_neg, Int32.reduceToInt, bmI, bmI', and1, and3, and7, and31, and127, and255, and65535, shr2, nI_toInt] at *) <;> (try simp only [bm32, bm32'] at *) <;> omega), by ((try simp only [Int32.lt_iff_toInt_lt, Int32.le_iff_toInt_le, ← Int32.toInt_inj, Int32.reduceToInt, clampI, vp_in_iff, ne_eq, not_and, not_or, Int32.not_lt, Int32.not_le] at *) <;> (try simp (disch := omega) only [Int32.toInt_add, Int32.toInt_sub, Int32.toInt_mul, Int32.toInt_neg, Int32.reduceToInt, bmI, bmI', and1, and3, and7, and31, and127, and255, and65535, shr2, nI_toInt] at *) <;> (try simp only [bm32, bm32'] at *) <;> omega)⟩
    · rfl
theorem PI.mem {m m' : it_Me} {j : Nat} (h : PI m j) (hc : ∀ k, 14 + 5 * j ≤ k → k < 14 + 5 * j + 5 → m' k = m k) (hw : ∀ w : Nat, w < 15360 ∨ ((m (14 + 5 * j) 8).toInt ≤ 65536 + 4 * (w : Int) ∧ 65536 + 4 * (w : Int) < (ctl m j).toInt) ∨ ((ctl m j).toInt + 44 ≤ 65536 + 4 * (w : Int) ∧ 65536 + 4 * (w : Int) < (ctl m j).toInt + 64) → m' 2 w = m 2 w) : PI m' j := by
  have e0 : m' (14 + 5 * j) = m (14 + 5 * j) := hc _ (by omega) (by omega)
  have e1 : m' (14 + 5 * j + 1) = m (14 + 5 * j + 1) := hc _ (by omega) (by omega)
  have e2 : m' (14 + 5 * j + 2) = m (14 + 5 * j + 2) := hc _ (by omega) (by omega)
  have e3 : m' (14 + 5 * j + 3) = m (14 + 5 * j + 3) := hc _ (by omega) (by omega)
  have e4 : m' (14 + 5 * j + 4) = m (14 + 5 * j + 4) := hc _ (by omega) (by omega)
  have l := h.low0
  have hct : ctl m' j = ctl m j := ctl_cg e0
  have gx : ∀ a : Int32, (m (14 + 5 * j) 8).toInt ≤ a.toInt → a.toInt < (ctl m j).toInt → gw m' a = gw m a := fun a h1 h2 => gw_w (fun ha => hw (wi a) (Or.inr (Or.inl (by have := wi_eq ha; omega))))
  have gg : ∀ d k, d < 9 → m (14 + 5 * j + 4) d ≠ 0 → k < gsz d → gw m' (m (14 + 5 * j + 4) d + nI k) = gw m (m (14 + 5 * j + 4) d + nI k) := fun d k hd hg hk => by
    have g := h.gI hd hg
    have n := kN hd
    have e := adI (a := m (14 + 5 * j + 4) d) (k := k) (by omega) (by omega) (by omega)
    exact gx _ (by omega) (by omega)
  have hCh : ∀ ds a, (m (14 + 5 * j) 8).toInt ≤ a.toInt → Ch m j a ds → Ch m' j a ds := fun ds => by
    induction ds with
    | nil => intro a _ q; exact (q : a = ctl m j).trans hct.symm
    | cons d ds ih =>
      intro a h0 q
      obtain ⟨q1, q2, q3, q5, q8, q6, q7⟩ := q
      have k := kN q1
      have e := adI (a := a) (k := gsz d) (by omega) (by omega) (by omega)
      have e' := adI (a := a) (k := 4) (by omega) (by omega) (by omega)
      have e4' : a + 4 = a + nI 4 := rfl
      refine ⟨q1, q2, by rw [e4]; exact q3, ?_, ?_, by rw [hct]; exact q6, ih _ (by omega) q7⟩
      · rw [gx a h0 (by omega)]; exact q5
      · rw [gx (a + 4) (by rw [e4']; omega) (by rw [e4']; omega), hct]; exact q8
  have hBf : ∀ a n w, Bf m' j a n w ↔ Bf m j a n w := fun a n w => by unfold Bf; rw [e0, e1]
  refine PI.mk ?_ ?_ ?_ ?_ ?_ ?_ ?_ ?_ ?_ ?_ ?_ ?_ ?_ ?_ ?_ ?_ ?_ ?_ ?_ ?_ ?_
  · rw [e0]; exact h.blk
  · rw [e0, hct]; exact h.ord
  · rw [e1]; exact h.app
  · rw [e1, h.hd]
    have hp := h.app
    unfold gh
    have ea : (m (14 + 5 * j + 1) 1 + 2).toInt = (m (14 + 5 * j + 1) 1).toInt + 2 := adI (k := 2) (by omega) (by omega) (by omega)
    have ha : InM (m (14 + 5 * j + 1) 1 + 2) := ⟨by omega, by omega⟩
    rw [hw (wi (m (14 + 5 * j + 1) 1 + 2)) (Or.inl (by have := wi_eq ha; omega))]
  · rw [e0, e1]; exact h.ram
  · rw [e0]; exact h.st
  · rw [e0]; exact h.he
  · rw [e0]; exact h.qn
  · rw [e0, e3, e4]; exact h.q
  · obtain ⟨ds, h1, h2, h3, h4⟩ := h.gr
    rw [e0, e4]
    exact ⟨ds, hCh ds _ (Int.le_refl _) h1, h2, h3, h4⟩
  · rw [e4]
    intro d hd hg k hk
    have n := kN hd
    rw [gg d _ hd hg (by omega), gg d _ hd hg (by omega), hBf]
    exact h.bf d hd hg k hk
  · rw [e4]
    intro hg k hk
    rw [gg 1 _ (by omega) hg (by show 64 + 4 * k < 80; omega)]
    exact h.ow1 hg k hk
  · rw [e4]
    intro hg
    have := gg 6 16 (by omega) hg (by decide)
    rw [show m (14 + 5 * j + 4) 6 + 16 = m (14 + 5 * j + 4) 6 + nI 16 from rfl, this]
    exact h.ow6 hg
  · rw [e0, e4]
    intro hs
    refine ⟨(h.ovr hs).1, fun d hd hg k hk => ?_⟩
    have n := kN hd
    rw [gg d _ hd hg (by omega)]
    exact (h.ovr hs).2 d hd hg k hk
  · rw [e1]; exact h.nm
  · rw [e1]; exact h.so
  · rw [e1]; exact h.pm
  · intro k hk
    have s' := h.szI
    have cl' := h.ctlI
    have ek := adI (a := ctl m j) (k := 44 + 4 * k) (by omega) (by omega) (by omega)
    rw [hct, gw_w (m := m) (fun ha => hw (wi (ctl m j + nI (44 + 4 * k))) (Or.inr (Or.inr (by have := wi_eq ha; omega))))]
    exact h.cz k hk
  · rw [e0]; exact h.pce
  · rw [e4]
    intro d hd hg n hn
    have kk := kN hd
    rw [gg d _ hd hg (by omega)]
    exact h.sfe d hd hg n hn
  · rw [e2]; exact h.r0
/-- memory is written where nobody looks -/
theorem Inv.memx {B : Nat} {m m' : it_Me} (hI : Inv B m) (ho : m 0 10 = 1) (hc : ∀ k, k ≠ 2 → m' k = m k) (hw : ∀ w, m' 2 w ≠ m 2 w → 15360 ≤ w ∧ ∀ j, j < cnt m → (65536 + 4 * (w : Int) < (m (14 + 5 * j) 8).toInt ∨ (ctl m j).toInt ≤ 65536 + 4 * (w : Int)) ∧ (65536 + 4 * (w : Int) < (ctl m j).toInt + 44 ∨ (ctl m j).toInt + 64 ≤ 65536 + 4 * (w : Int))) : Inv B m' := by
  have hm := hc
  have ecn : cnt m' = cnt m := cnt_cg (by rw [hc 9 (by omega)])
  have und : ∀ j, j < cnt m → ∀ k, k = 64 ∨ k = 72 → m (14 + 5 * j + 4) 1 ≠ 0 → gw m' (m (14 + 5 * j + 4) 1 + nI k) = gw m (m (14 + 5 * j + 4) 1 + nI k) := fun j hj k hk hg1 => gw_w (fun ha => by
    have g' := (hI.p hj).gI (d := 1) (by omega) hg1
    have l' := (hI.p hj).low0
    have e := adI (a := m (14 + 5 * j + 4) 1) (k := k) (by omega) (by omega) (by omega)
    have z : gsz 1 = 80 := by decide
    have := wi_eq ha
    by_cases q : m' 2 (wi (m (14 + 5 * j + 4) 1 + nI k)) = m 2 (wi (m (14 + 5 * j + 4) 1 + nI k))
    · exact q
    · exfalso
      have := (hw _ q).2 j hj
      omega)
  exact (Inv.upd (hI) (Nat.le_refl B) ([2]) (fun k hk => hc k (by simpa using hk)) (by first | (refine Or.inl (And.intro ?_ ?_) <;> first | (simp only [List.mem_cons, List.not_mem_nil, or_false, forall_eq_or_imp, forall_eq, false_implies, implies_true, and_true] <;> omega) | (repeat' (first | exact True.intro | rfl | refine And.intro ?_ ?_ | (rw [sv_ne _ _ _ _ (by omega)]) | (rw [up_cell _ _ _ (by omega)]) | (rw [fil_cell _ _ _ _ _ (by omega)]) | (rw [hM _ (by omega)]) | (rw [hm _ (by omega)])))) | (have t_ := Inv.tl (hI); exact Or.inr t_)) (by first | (refine Or.inl (And.intro ?_ ?_) <;> first | (simp only [List.mem_cons, List.not_mem_nil, or_false, forall_eq_or_imp, forall_eq, false_implies, implies_true, and_true] <;> omega) | (repeat' (first | exact True.intro | rfl | refine And.intro ?_ ?_ | (rw [sv_ne _ _ _ _ (by omega)]) | (rw [up_cell _ _ _ (by omega)]) | (rw [fil_cell _ _ _ _ _ (by omega)]) | (rw [hM _ (by omega)]) | (rw [hm _ (by omega)])))) | (have t_ := Inv.tp (hI); exact Or.inr t_)) (by first | (refine Or.inl (And.intro ?_ ?_) <;> first | (simp only [List.mem_cons, List.not_mem_nil, or_false, forall_eq_or_imp, forall_eq, false_implies, implies_true, and_true] <;> omega) | (repeat' (first | exact True.intro | rfl | refine And.intro ?_ ?_ | (rw [sv_ne _ _ _ _ (by omega)]) | (rw [up_cell _ _ _ (by omega)]) | (rw [fil_cell _ _ _ _ _ (by omega)]) | (rw [hM _ (by omega)]) | (rw [hm _ (by omega)])))) | (have t_ := Inv.on (hI); exact Or.inr t_)) (Or.inr (by
    intro q
    exfalso
    rw [hc 0 (by omega), ho] at q
    exact absurd q (by decide))) (by first | (refine Or.inl (And.intro ?_ ?_) <;> first | (simp only [List.mem_cons, List.not_mem_nil, or_false, forall_eq_or_imp, forall_eq, false_implies, implies_true, and_true] <;> omega) | (repeat' (first | exact True.intro | rfl | refine And.intro ?_ ?_ | (rw [sv_ne _ _ _ _ (by omega)]) | (rw [up_cell _ _ _ (by omega)]) | (rw [fil_cell _ _ _ _ _ (by omega)]) | (rw [hM _ (by omega)]) | (rw [hm _ (by omega)])))) | (have t_ := Inv.cn (hI); exact Or.inr t_)) (by first | (refine Or.inl (And.intro ?_ ?_) <;> first | (simp only [List.mem_cons, List.not_mem_nil, or_false, forall_eq_or_imp, forall_eq, false_implies, implies_true, and_true] <;> omega) | (repeat' (first | exact True.intro | rfl | refine And.intro ?_ ?_ | (rw [sv_ne _ _ _ _ (by omega)]) | (rw [up_cell _ _ _ (by omega)]) | (rw [fil_cell _ _ _ _ _ (by omega)]) | (rw [hM _ (by omega)]) | (rw [hm _ (by omega)])))) | (have t_ := Inv.ev (hI); exact Or.inr t_)) (by first | (refine Or.inl (And.intro ?_ ?_) <;> first | (simp only [List.mem_cons, List.not_mem_nil, or_false, forall_eq_or_imp, forall_eq, false_implies, implies_true, and_true] <;> omega) | (repeat' (first | exact True.intro | rfl | refine And.intro ?_ ?_ | (rw [sv_ne _ _ _ _ (by omega)]) | (rw [up_cell _ _ _ (by omega)]) | (rw [fil_cell _ _ _ _ _ (by omega)]) | (rw [hM _ (by omega)]) | (rw [hm _ (by omega)])))) | (have t_ := Inv.out (hI); exact Or.inr t_)) (by first | (refine Or.inl (And.intro ?_ ?_) <;> first | (simp only [List.mem_cons, List.not_mem_nil, or_false, forall_eq_or_imp, forall_eq, false_implies, implies_true, and_true] <;> omega) | (repeat' (first | exact True.intro | rfl | refine And.intro ?_ ?_ | (rw [sv_ne _ _ _ _ (by omega)]) | (rw [up_cell _ _ _ (by omega)]) | (rw [fil_cell _ _ _ _ _ (by omega)]) | (rw [hM _ (by omega)]) | (rw [hm _ (by omega)])))) | (have t_ := Inv.num (hI); exact Or.inr t_)) (by first | (refine Or.inl (And.intro ?_ ?_) <;> first | (simp only [List.mem_cons, List.not_mem_nil, or_false, forall_eq_or_imp, forall_eq, false_implies, implies_true, and_true] <;> omega) | (repeat' (first | exact True.intro | rfl | refine And.intro ?_ ?_ | (rw [sv_ne _ _ _ _ (by omega)]) | (rw [up_cell _ _ _ (by omega)]) | (rw [fil_cell _ _ _ _ _ (by omega)]) | (rw [hM _ (by omega)]) | (rw [hm _ (by omega)])))) | (have t_ := Inv.crc (hI); exact Or.inr t_)) (by first | (refine Or.inl (And.intro ?_ ?_) <;> first | (simp only [List.mem_cons, List.not_mem_nil, or_false, forall_eq_or_imp, forall_eq, false_implies, implies_true, and_true] <;> omega) | (repeat' (first | exact True.intro | rfl | refine And.intro ?_ ?_ | (rw [sv_ne _ _ _ _ (by omega)]) | (rw [up_cell _ _ _ (by omega)]) | (rw [fil_cell _ _ _ _ _ (by omega)]) | (rw [hM _ (by omega)]) | (rw [hm _ (by omega)])))) | (have t_ := Inv.bk (hI); exact Or.inr t_)) (by first | (refine Or.inl (And.intro ?_ ?_) <;> first | (simp only [List.mem_cons, List.not_mem_nil, or_false, forall_eq_or_imp, forall_eq, false_implies, implies_true, and_true] <;> omega) | (repeat' (first | exact True.intro | rfl | refine And.intro ?_ ?_ | (rw [sv_ne _ _ _ _ (by omega)]) | (rw [up_cell _ _ _ (by omega)]) | (rw [fil_cell _ _ _ _ _ (by omega)]) | (rw [hM _ (by omega)]) | (rw [hm _ (by omega)])))) | (have t_ := Inv.bk1 (hI); exact Or.inr t_)) (by first | (refine Or.inl (And.intro ?_ ?_) <;> first | (simp only [List.mem_cons, List.not_mem_nil, or_false, forall_eq_or_imp, forall_eq, false_implies, implies_true, and_true] <;> omega) | (repeat' (first | exact True.intro | rfl | refine And.intro ?_ ?_ | (rw [sv_ne _ _ _ _ (by omega)]) | (rw [up_cell _ _ _ (by omega)]) | (rw [fil_cell _ _ _ _ _ (by omega)]) | (rw [hM _ (by omega)]) | (rw [hm _ (by omega)])))) | (have t_ := Inv.pw (hI); exact Or.inr t_)) (by first | (refine Or.inl (And.intro ?_ ?_) <;> first | (simp only [List.mem_cons, List.not_mem_nil, or_false, forall_eq_or_imp, forall_eq, false_implies, implies_true, and_true] <;> omega) | (repeat' (first | exact True.intro | rfl | refine And.intro ?_ ?_ | (rw [sv_ne _ _ _ _ (by omega)]) | (rw [up_cell _ _ _ (by omega)]) | (rw [fil_cell _ _ _ _ _ (by omega)]) | (rw [hM _ (by omega)]) | (rw [hm _ (by omega)])))) | (have t_ := Inv.kd (hI); exact Or.inr t_)) (by first | (refine Or.inl (And.intro ?_ ?_) <;> first | (simp only [List.mem_cons, List.not_mem_nil, or_false, forall_eq_or_imp, forall_eq, false_implies, implies_true, and_true] <;> omega) | (repeat' (first | exact True.intro | rfl | refine And.intro ?_ ?_ | (rw [sv_ne _ _ _ _ (by omega)]) | (rw [up_cell _ _ _ (by omega)]) | (rw [fil_cell _ _ _ _ _ (by omega)]) | (rw [hM _ (by omega)]) | (rw [hm _ (by omega)])))) | (have t_ := Inv.tn (hI); exact Or.inr t_)) (by first | (refine Or.inl (And.intro ?_ ?_) <;> first | (simp only [List.mem_cons, List.not_mem_nil, or_false, forall_eq_or_imp, forall_eq, false_implies, implies_true, and_true] <;> omega) | (repeat' (first | exact True.intro | rfl | refine And.intro ?_ ?_ | (rw [sv_ne _ _ _ _ (by omega)]) | (rw [up_cell _ _ _ (by omega)]) | (rw [fil_cell _ _ _ _ _ (by omega)]) | (rw [hM _ (by omega)]) | (rw [hm _ (by omega)])))) | (have t_ := Inv.ask (hI); exact Or.inr t_)) (Or.inr (by
    intro _ j hj hu
    rw [ecn] at hj
    rw [hc 62 (by omega), hc 59 (by omega)]
    unfold undW at hu
    rw [hc _ (by omega)] at hu
    have := und j hj 64 (Or.inl rfl) hu.1
    refine hI.askW ho j hj ⟨hu.1, ?_⟩
    rw [show m (14 + 5 * j + 4) 1 + 64 = m (14 + 5 * j + 4) 1 + nI 64 from rfl, ← this]
    exact hu.2)) (Or.inr (by
    intro _ j hj hu
    rw [ecn] at hj
    rw [hc 63 (by omega), hc 59 (by omega)]
    unfold undR at hu
    rw [hc _ (by omega)] at hu
    have := und j hj 72 (Or.inr rfl) hu.1
    refine hI.askR ho j hj ⟨hu.1, ?_⟩
    rw [show m (14 + 5 * j + 4) 1 + 72 = m (14 + 5 * j + 4) 1 + nI 72 from rfl, ← this]
    exact hu.2)) (by first | (refine Or.inl (And.intro ?_ ?_) <;> first | (simp only [List.mem_cons, List.not_mem_nil, or_false, forall_eq_or_imp, forall_eq, false_implies, implies_true, and_true] <;> omega) | (repeat' (first | exact True.intro | rfl | refine And.intro ?_ ?_ | (rw [sv_ne _ _ _ _ (by omega)]) | (rw [up_cell _ _ _ (by omega)]) | (rw [fil_cell _ _ _ _ _ (by omega)]) | (rw [hM _ (by omega)]) | (rw [hm _ (by omega)])))) | (have t_ := Inv.lv0 (hI); exact Or.inr t_)) (by first | (refine Or.inl (And.intro ?_ ?_) <;> first | (simp only [List.mem_cons, List.not_mem_nil, or_false, forall_eq_or_imp, forall_eq, false_implies, implies_true, and_true] <;> omega) | (repeat' (first | exact True.intro | rfl | refine And.intro ?_ ?_ | (rw [sv_ne _ _ _ _ (by omega)]) | (rw [up_cell _ _ _ (by omega)]) | (rw [fil_cell _ _ _ _ _ (by omega)]) | (rw [hM _ (by omega)]) | (rw [hm _ (by omega)])))) | (have t_ := Inv.lv2 (hI); exact Or.inr t_)) (by first | (refine Or.inl (And.intro ?_ ?_) <;> first | (simp only [List.mem_cons, List.not_mem_nil, or_false, forall_eq_or_imp, forall_eq, false_implies, implies_true, and_true] <;> omega) | (repeat' (first | exact True.intro | rfl | refine And.intro ?_ ?_ | (rw [sv_ne _ _ _ _ (by omega)]) | (rw [up_cell _ _ _ (by omega)]) | (rw [fil_cell _ _ _ _ _ (by omega)]) | (rw [hM _ (by omega)]) | (rw [hm _ (by omega)])))) | (have t_ := Inv.pl (hI); exact Or.inr t_)) (Or.inr (by
    intro _ j hj
    rw [ecn] at hj
    refine (hI.p hj).mem (fun k h1 h2 => hc k (by omega)) (fun w h => ?_)
    by_cases q : m' 2 w = m 2 w
    · exact q
    · exfalso
      have := hw _ q
      have := this.2 j hj
      omega)) (by first | (refine Or.inl (And.intro ?_ ?_) <;> first | (simp only [List.mem_cons, List.not_mem_nil, or_false, forall_eq_or_imp, forall_eq, false_implies, implies_true, and_true] <;> omega) | (repeat' (first | exact True.intro | rfl | refine And.intro ?_ ?_ | (rw [sv_ne _ _ _ _ (by omega)]) | (rw [up_cell _ _ _ (by omega)]) | (rw [fil_cell _ _ _ _ _ (by omega)]) | (rw [hM _ (by omega)]) | (rw [hm _ (by omega)])))) | (have t_ := Inv.dis (hI); exact Or.inr t_)))
