/-! Drivers: a driver's own words; alarm, lamps, buttons. -/
theorem ow_I {B : Nat} {m : it_Me} (hI : Inv B m) {i d k : Nat} (hi : i < cnt m) (hd : d < 9) (hg : m (14 + 5 * i + 4) d ≠ 0) (hk : owA d ≤ k ∧ k < gsz d ∧ k % 4 = 0) {v : Int32} (hov : m (14 + 5 * i) 9 = 4 ∨ m (14 + 5 * i) 9 = 5 → v = 0) (h1 : d = 1 → 0 ≤ v.toInt ∧ v.toInt ≤ 65536) (h6 : d = 6 → k = 16 → 0 ≤ v.toInt ∧ v.toInt ≤ 2) (hW : d = 1 → k = 64 → v ≠ 0 → 0 ≤ (m 62 i).toInt ∧ (m 62 i).toInt < (m 59 12).toInt) (hR : d = 1 → k = 72 → v ≠ 0 → 0 ≤ (m 63 i).toInt ∧ (m 63 i).toInt < (m 59 12).toInt) : Inv B (pw m (m (14 + 5 * i + 4) d + nI k) v) := by
  have hP := hI.p hi
  have n := kN hd
  have rd : ∀ x, x < gsz d → x % 4 = 0 → gw (pw m (m (14 + 5 * i + 4) d + nI k) v) (m (14 + 5 * i + 4) d + nI x) = if x = k then v else gw m (m (14 + 5 * i + 4) d + nI x) := fun x hx hx4 => gw_gr hI hi hd hg hk.2.1 hk.2.2 v hx hx4
  refine hI.grw hi hd hg (fun x hx => pw_c _ _ _ hx) (gr_w hI hi hd hg hk.2.1 hk.2.2 (by omega) v) (fun x hx => ?_) (fun e x hx => ?_) (fun e => ?_) (fun hs x hx => ?_) (fun e hu => ?_) (fun e hu => ?_) (fun x hx => by rw [rd _ (by omega) (by omega), if_neg (by omega)]; exact hP.sfe d hd hg x hx)
  · rw [rd _ (by omega) (by omega), rd _ (by omega) (by omega), if_neg (by omega), if_neg (by omega)]
    exact hP.bf d hd hg x hx
  · subst e
    have z : gsz 1 = 80 := by decide
    rw [rd _ (by omega) (by omega)]
    by_cases q : 64 + 4 * x = k
    · rw [if_pos q]; exact h1 rfl
    · rw [if_neg q]; exact hP.ow1 hg x hx
  · subst e
    have z : gsz 6 = 28 := by decide
    have := rd 16 (by omega) (by omega)
    rw [show m (14 + 5 * i + 4) 6 + 16 = m (14 + 5 * i + 4) 6 + nI 16 from rfl, this]
    by_cases q : 16 = k
    · rw [if_pos q]; exact h6 rfl q.symm
    · rw [if_neg q]; exact hP.ow6 hg
  · rw [rd _ (by omega) (by omega)]
    by_cases q : owA d + 4 * x = k
    · rw [if_pos q]; exact hov hs
    · rw [if_neg q]; exact (hP.ovr hs).2 d hd hg x hx
  · subst e
    have z : gsz 1 = 80 := by decide
    unfold undW at hu
    rw [pw_c _ _ _ (by omega)] at hu
    have := rd 64 (by omega) (by omega)
    by_cases q : 64 = k
    · rw [if_pos q] at this
      exact hW rfl q.symm (fun y => hu.2 (this.trans y))
    · rw [if_neg q] at this
      exact hI.askW (on_of hI hi) i hi ⟨hu.1, by rw [show m (14 + 5 * i + 4) 1 + 64 = m (14 + 5 * i + 4) 1 + nI 64 from rfl, ← this]; exact hu.2⟩
  · subst e
    have z : gsz 1 = 80 := by decide
    unfold undR at hu
    rw [pw_c _ _ _ (by omega)] at hu
    have := rd 72 (by omega) (by omega)
    by_cases q : 72 = k
    · rw [if_pos q] at this
      exact hR rfl q.symm (fun y => hu.2 (this.trans y))
    · rw [if_neg q] at this
      exact hI.askR (on_of hI hi) i hi ⟨hu.1, by rw [show m (14 + 5 * i + 4) 1 + 72 = m (14 + 5 * i + 4) 1 + nI 72 from rfl, ← this]; exact hu.2⟩
/-- both write a word of a driver's own (not the console's) -/
theorem lv_w {kc : it_Kc} {B : Nat} {m : it_Me} (hI : Inv B m) {i d k : Nat} (hi : i < cnt m) (hd : d < 9) (hd1 : d ≠ 1) (hg : m (14 + 5 * i + 4) d ≠ 0) (hk : owA d ≤ k ∧ k < gsz d ∧ k % 4 = 0) {v : Int32} (hov : m (14 + 5 * i) 9 = 4 ∨ m (14 + 5 * i) 9 = 5 → v = 0) (h6 : d = 6 → k = 16 → 0 ≤ v.toInt ∧ v.toInt ≤ 2) : Inv B (pw m (m (14 + 5 * i + 4) d + nI k) v) ∧ (∀ Φ, Φ (pw m (m (14 + 5 * i + 4) d + nI k) v) → w_13 kc (m (14 + 5 * i + 4) d + nI k) v m Φ) ∧ ∀ M, Rel m M → Rel (pw m (m (14 + 5 * i + 4) d + nI k) v) (pwM M (m (14 + 5 * i + 4) d + nI k) v) ∧ ∀ Φ, Φ (pwM M (m (14 + 5 * i + 4) d + nI k) v) → w_221 kc (m (14 + 5 * i + 4) d + nI k) v M Φ := by
  have a := gadr hI hi hd hg hk.2.1
  have g := (hI.p hi).gI hd hg
  have n := kN hd
  exact ⟨ow_I hI hi hd hg hk hov (fun e => absurd e hd1) h6 (fun e => absurd e hd1) (fun e => absurd e hd1), fun Φ h => c_13 h, fun M hM => ⟨hM.grw hI hi hd hg hk.2.1 hk.2.2 (by omega) v (fun e => absurd e hd1) (fun e => absurd e hd1), fun Φ h => r_221 _ a.2.1 (by omega) h⟩⟩
theorem Kp.pwK {a b : it_Me} (h : Kp a b) (x v : Int32) : Kp a (pw b x v) := ⟨by rw [pw_c _ _ _ (by omega)]; exact h.1, by rw [pw_c _ _ _ (by omega)]; exact h.2.1, by rw [pw_c _ _ _ (by omega)]; exact h.2.2.1, by rw [pw_c _ _ _ (by omega)]; exact h.2.2.2.1, fun k h1 h2 => by rw [pw_c _ _ _ (by omega)]; exact h.2.2.2.2 k h1 h2⟩
/-- what a command leaves as it is -/
def Kq (m m' : it_Me) : Prop := m' 0 = m 0 ∧ m' 9 = m 9
theorem Kp.q {m m' : it_Me} (h : Kp m m') : Kq m m' := ⟨h.1, h.2.1⟩
theorem Kq.trans {a b c : it_Me} (h : Kq a b) (g : Kq b c) : Kq a c := ⟨g.1.trans h.1, g.2.trans h.2⟩
theorem Lv.q {c r : it_Me → (it_Me → Prop) → Prop} {B : Nat} {m : it_Me} (h : Lv c r B m (Kp m)) : Lv c r B m (Kq m) := by
  obtain ⟨m', h1, h3, h4, h5, h6⟩ := h
  exact ⟨m', h1, h3, h4, h5.q, h6⟩
/-- answerEnd -/
theorem ae {kc : it_Kc} {B : Nat} {m : it_Me} (hI : Inv B m) {i d k : Nat} (hi : i < cnt m) (hd : d < 9) (hd1 : d ≠ 1) (hg : m (14 + 5 * i + 4) d ≠ 0) (hk : owA d ≤ k ∧ k < gsz d ∧ k % 4 = 0) : Lv (w_44 kc (14 + 5 * i) (m (14 + 5 * i + 4) d + nI k)) (fun M Φ => w_220 kc (m (14 + 5 * i + 4) d + nI k) M (fun r3 m4 => (r3 = 0 → w_282 kc (nI i) 3 m4 Φ) ∧ (¬ r3 = 0 → w_221 kc (m (14 + 5 * i + 4) d + nI k) 0 m4 (fun m6 => w_280 kc (nI i) m6 Φ)))) B m (Kp m) := by
  by_cases z : gw m (m (14 + 5 * i + 4) d + nI k) = 0
  · obtain ⟨m', c1, c2, c3, c4, c5⟩ := lv_fail (kc := kc) hI hi 3
    refine ⟨m', fun Φ h => ?_, c2, c3, c4, fun M hM Φ h => r_220g hI hM hi hd hg hk.2.1 hk.2.2 ⟨fun _ => c5 M hM _ h, fun q => absurd z q⟩⟩
    unfold w_44
    exact c_12 ⟨fun _ => c1 _ h, fun q => absurd z q⟩
  · obtain ⟨b1, b2, b3⟩ := lv_w (kc := kc) hI hi hd hd1 hg hk (v := 0) (fun _ => rfl) (fun _ _ => by decide)
    obtain ⟨m', c1, c2, c3, c4, c5⟩ := lv_ok (kc := kc) b1 (i := i) (by rw [cnt_pw]; exact hi)
    refine ⟨m', fun Φ h => ?_, c2, FrC.trans (FrC.rfl.pwF _ _) c3, (Kp.rfl.pwK _ _).trans c4, fun M hM Φ h => r_220g hI hM hi hd hg hk.2.1 hk.2.2 ⟨fun q => absurd q z, fun _ => (b3 M hM).2 _ (c5 _ (b3 M hM).1 _ (fun M' r f => h M' r (FrM.trans (FrM.rfl.pwF _ _) f)))⟩⟩
    unfold w_44
    exact c_12 ⟨fun q => absurd q z, fun _ => b2 _ (c1 _ h)⟩
/-- arm -/
theorem ar {kc : it_Kc} {B : Nat} {m : it_Me} (hI : Inv B m) {i : Nat} (hi : i < cnt m) (hg : m (14 + 5 * i + 4) 0 ≠ 0) (hs : ¬ (m (14 + 5 * i) 9 = 4 ∨ m (14 + 5 * i) 9 = 5)) (x y : Int32) : Lv (w_43 kc (14 + 5 * i) (m (14 + 5 * i + 4) 0 + nI 16) x y) (fun M Φ => w_298_97 kc Φ (nI i) (m (14 + 5 * i + 4) 0 + nI 16) x y M) B m (Kp m) := by
  have z : owA 0 = 16 ∧ gsz 0 = 28 := by decide
  obtain ⟨b1, b2, b3⟩ := lv_w (kc := kc) hI hi (d := 0) (k := 16) (by omega) (by omega) hg (by omega) (v := 1) (fun q => absurd q hs) (fun e => absurd e (by omega))
  have g1 : pw m (m (14 + 5 * i + 4) 0 + nI 16) 1 (14 + 5 * i + 4) = m (14 + 5 * i + 4) := pw_c _ _ _ (by omega)
  have s1 : pw m (m (14 + 5 * i + 4) 0 + nI 16) 1 (14 + 5 * i) = m (14 + 5 * i) := pw_c _ _ _ (by omega)
  obtain ⟨d1, d2, d3⟩ := lv_w (kc := kc) b1 (i := i) (d := 0) (k := 20) (by rw [cnt_pw]; exact hi) (by omega) (by omega) (by rw [g1]; exact hg) (by omega) (v := x) (fun q => by rw [s1] at q; exact absurd q hs) (fun e => absurd e (by omega))
  rw [g1] at d1 d2 d3
  have g2 : pw (pw m (m (14 + 5 * i + 4) 0 + nI 16) 1) (m (14 + 5 * i + 4) 0 + nI 20) x (14 + 5 * i + 4) = m (14 + 5 * i + 4) := by rw [pw_c _ _ _ (by omega), g1]
  have s2 : pw (pw m (m (14 + 5 * i + 4) 0 + nI 16) 1) (m (14 + 5 * i + 4) 0 + nI 20) x (14 + 5 * i) = m (14 + 5 * i) := by rw [pw_c _ _ _ (by omega), s1]
  obtain ⟨f1, f2, f3⟩ := lv_w (kc := kc) d1 (i := i) (d := 0) (k := 24) (by rw [cnt_pw, cnt_pw]; exact hi) (by omega) (by omega) (by rw [g2]; exact hg) (by omega) (v := y) (fun q => by rw [s2] at q; exact absurd q hs) (fun e => absurd e (by omega))
  rw [g2] at f1 f2 f3
  obtain ⟨m', c1, c2, c3, c4, c5⟩ := lv_ok1 (kc := kc) f1 (i := i) (by rw [cnt_pw, cnt_pw, cnt_pw]; exact hi) (x + y)
  have e4 : m (14 + 5 * i + 4) 0 + nI 16 + 4 = m (14 + 5 * i + 4) 0 + nI 20 := by rw [Int32.add_assoc]; rfl
  have e8 : m (14 + 5 * i + 4) 0 + nI 16 + 8 = m (14 + 5 * i + 4) 0 + nI 24 := by rw [Int32.add_assoc]; rfl
  refine ⟨m', fun Φ h => ?_, c2, FrC.trans (((FrC.rfl.pwF _ _).pwF _ _).pwF _ _) c3, (((Kp.rfl.pwK _ _).pwK _ _).pwK _ _).trans c4, fun M hM Φ h => ?_⟩
  · unfold w_43
    rw [e4, e8]
    exact b2 _ (d2 _ (f2 _ (c1 _ h)))
  · show w_298_97 kc Φ (nI i) (m (14 + 5 * i + 4) 0 + nI 16) x y M
    unfold w_298_97
    rw [e4, e8]
    have R1 := b3 M hM
    have R2 := d3 _ R1.1
    have R3 := f3 _ R2.1
    exact R1.2 _ (R2.2 _ (R3.2 _ (c5 _ R3.1 _ (fun M' r f => h M' r (FrM.trans (((FrM.rfl.pwF _ _).pwF _ _).pwF _ _) f)))))
theorem d_alarm {kc : it_Kc} (hk : KC kc) {B : Nat} {m : it_Me} (hI : Inv B m) {i : Nat} (hi : i < cnt m) (hg : m (14 + 5 * i + 4) 0 ≠ 0) (hs : ¬ (m (14 + 5 * i) 9 = 4 ∨ m (14 + 5 * i) 9 = 5)) (c v w : Int32) : Lv (w_42 kc (14 + 5 * i) c v w) (fun M Φ => w_269 kc (m (14 + 5 * i + 4) 0) 0 M (fun r2 m3 => w_298 kc (nI i) r2 c v w m3 Φ)) B m (Kp m) := by
  have i8 : i < 8 := by have := cnt_le hI; omega
  have z : owA 0 = 16 ∧ gsz 0 = 28 := by decide
  have go : ∀ (cc rr : it_Me → (it_Me → Prop) → Prop), Lv cc rr B m (Kp m) → (∀ Φ, cc m Φ → (c = 1 → w_139 kc (14 + 5 * i) 1000 m (fun m3 => w_42_110 kc Φ m3)) ∧ (¬ c = 1 → (c = 2 → w_139 kc (14 + 5 * i) (m 4 0) m (fun m4 => w_42_110 kc Φ m4)) ∧ (¬ c = 2 → (c = 3 → w_44 kc (14 + 5 * i) (m (14 + 5 * i + 4) 0 + nI 16) m (fun m5 => w_42_110 kc Φ m5)) ∧ (¬ c = 3 → (c = 4 → w_43 kc (14 + 5 * i) (m (14 + 5 * i + 4) 0 + nI 16) v w m (fun m6 => w_42_110 kc Φ m6)) ∧ (¬ c = 4 → (c = 5 → w_43 kc (14 + 5 * i) (m (14 + 5 * i + 4) 0 + nI 16) (m 4 0) v m (fun m7 => w_42_110 kc Φ m7)) ∧ (¬ c = 5 → w_43 kc (14 + 5 * i) (m (14 + 5 * i + 4) 0 + nI 16) v w m (fun m8 => w_42_110 kc Φ m8))))))) → (∀ M, Rel m M → ∀ Φ, rr M Φ → w_298 kc (nI i) (m (14 + 5 * i + 4) 0 + nI 16) c v w M Φ) → Lv (w_42 kc (14 + 5 * i) c v w) (fun M Φ => w_269 kc (m (14 + 5 * i + 4) 0) 0 M (fun r2 m3 => w_298 kc (nI i) r2 c v w m3 Φ)) B m (Kp m) := fun cc rr h hc hr => by
    obtain ⟨m', c1, c2, c3, c4, c5⟩ := h
    refine ⟨m', fun Φ h => ?_, c2, c3, c4, fun M hM Φ h => ?_⟩
    · unfold w_42
      exact c_90 hk (d := 0) (by omega) (hc Φ (c1 Φ h))
    · exact r_269 (d := 0) (by omega) (hr M hM Φ (c5 M hM Φ h))
  by_cases a1 : c = 1
  · refine go _ _ (lv_ok1 (kc := kc) hI hi 1000) (fun Φ h => ⟨fun _ => h, fun q => absurd a1 q⟩) (fun M hM Φ h => ?_)
    unfold w_298
    exact ⟨fun _ => h, fun q => absurd a1 q⟩
  by_cases a2 : c = 2
  · refine go _ _ (lv_ok1 (kc := kc) hI hi (m 4 0)) (fun Φ h => ⟨fun q => absurd q a1, fun _ => ⟨fun _ => h, fun q => absurd a2 q⟩⟩) (fun M hM Φ h => ?_)
    unfold w_298
    rw [hM.time]
    exact ⟨fun q => absurd q a1, fun _ => ⟨fun _ => h, fun q => absurd a2 q⟩⟩
  by_cases a3 : c = 3
  · refine go _ _ (ae (kc := kc) hI hi (d := 0) (k := 16) (by omega) (by omega) hg (by omega)) (fun Φ h => ⟨fun q => absurd q a1, fun _ => ⟨fun q => absurd q a2, fun _ => ⟨fun _ => h, fun q => absurd a3 q⟩⟩⟩) (fun M hM Φ h => ?_)
    unfold w_298
    exact ⟨fun q => absurd q a1, fun _ => ⟨fun q => absurd q a2, fun _ => ⟨fun _ => h, fun q => absurd a3 q⟩⟩⟩
  by_cases a5 : c = 5
  · refine go _ _ (ar (kc := kc) hI hi hg hs (m 4 0) v) (fun Φ h => ⟨fun q => absurd q a1, fun _ => ⟨fun q => absurd q a2, fun _ => ⟨fun q => absurd q a3, fun _ => ⟨fun q => absurd (a5.symm.trans q) (by decide), fun _ => ⟨fun _ => h, fun q => absurd a5 q⟩⟩⟩⟩⟩) (fun M hM Φ h => ?_)
    unfold w_298 w_298_83
    rw [hM.time]
    exact ⟨fun q => absurd q a1, fun _ => ⟨fun q => absurd q a2, fun _ => ⟨fun q => absurd q a3, fun _ => ⟨fun _ => ⟨fun _ => h, fun q => absurd a5 q⟩, fun q => absurd a5 q⟩⟩⟩⟩
  · refine go _ _ (ar (kc := kc) hI hi hg hs v w) (fun Φ h => ⟨fun q => absurd q a1, fun _ => ⟨fun q => absurd q a2, fun _ => ⟨fun q => absurd q a3, fun _ => ⟨fun _ => h, fun _ => ⟨fun q => absurd q a5, fun _ => h⟩⟩⟩⟩⟩) (fun M hM Φ h => ?_)
    unfold w_298 w_298_83
    exact ⟨fun q => absurd q a1, fun _ => ⟨fun q => absurd q a2, fun _ => ⟨fun q => absurd q a3, fun _ => ⟨fun q => absurd q a5, fun _ => ⟨fun q => absurd q a5, fun _ => h⟩⟩⟩⟩⟩
theorem bt_1s : ∀ v, v < 4 → ∀ k, k < 32 → bt (it_shl 1 (nI v)) k = decide (k = v) := by decide +kernel
/-- one lamp set to a bit -/
theorem Rel.lmp {m M : it_Me} (h : Rel m M) (hc : cnt m ≤ 8) {v : Nat} (hv : v < 4) (x : Int32) (b : Int32) (hb : ∀ k, k < 4 → b01 (bt x k) = if k = v then b else b01 (bt (m 59 4) k)) : Rel (it_sv m 59 4 x) (it_sv M 71 v b) :=
  (Rel.upd (h) (hc) ([59]) ([71]) (by intro k hk; simp only [List.mem_cons, List.not_mem_nil, or_false, not_or, not_false_eq_true] at hk; first | rfl | (repeat (first | rw [sv_cell _ _ _ _ (by omega)] | rw [up_cell _ _ _ (by omega)] | rw [fil_cell _ _ _ _ _ (by omega)]))) (by intro k hk; simp only [List.mem_cons, List.not_mem_nil, or_false, not_or, not_false_eq_true] at hk; first | rfl | (repeat (first | rw [sv_cell _ _ _ _ (by omega)] | rw [up_cell _ _ _ (by omega)] | rw [fil_cell _ _ _ _ _ (by omega)]))) (by first | (refine Or.inl (And.intro ?_ (And.intro ?_ ?_)) <;> first | (simp only [List.mem_cons, List.not_mem_nil, or_false, forall_eq_or_imp, forall_eq, false_implies, implies_true, and_true] <;> omega) | (repeat' (first | exact True.intro | rfl | refine And.intro ?_ ?_ | (rw [sv_ne _ _ _ _ (by omega)]) | (rw [up_cell _ _ _ (by omega)]) | (rw [fil_cell _ _ _ _ _ (by omega)]) | (rw [hM _ (by omega)]) | (rw [hm _ (by omega)])))) | (have t_ := Rel.tapeLen (h); exact Or.inr t_)) (by first | (refine Or.inl (And.intro ?_ (And.intro ?_ ?_)) <;> first | (simp only [List.mem_cons, List.not_mem_nil, or_false, forall_eq_or_imp, forall_eq, false_implies, implies_true, and_true] <;> omega) | (repeat' (first | exact True.intro | rfl | refine And.intro ?_ ?_ | (rw [sv_ne _ _ _ _ (by omega)]) | (rw [up_cell _ _ _ (by omega)]) | (rw [fil_cell _ _ _ _ _ (by omega)]) | (rw [hM _ (by omega)]) | (rw [hm _ (by omega)])))) | (have t_ := Rel.on (h); exact Or.inr t_)) (by first | (refine Or.inl (And.intro ?_ (And.intro ?_ ?_)) <;> first | (simp only [List.mem_cons, List.not_mem_nil, or_false, forall_eq_or_imp, forall_eq, false_implies, implies_true, and_true] <;> omega) | (repeat' (first | exact True.intro | rfl | refine And.intro ?_ ?_ | (rw [sv_ne _ _ _ _ (by omega)]) | (rw [up_cell _ _ _ (by omega)]) | (rw [fil_cell _ _ _ _ _ (by omega)]) | (rw [hM _ (by omega)]) | (rw [hm _ (by omega)])))) | (have t_ := Rel.lost (h); exact Or.inr t_)) (by first | (refine Or.inl (And.intro ?_ (And.intro ?_ ?_)) <;> first | (simp only [List.mem_cons, List.not_mem_nil, or_false, forall_eq_or_imp, forall_eq, false_implies, implies_true, and_true] <;> omega) | (repeat' (first | exact True.intro | rfl | refine And.intro ?_ ?_ | (rw [sv_ne _ _ _ _ (by omega)]) | (rw [up_cell _ _ _ (by omega)]) | (rw [fil_cell _ _ _ _ _ (by omega)]) | (rw [hM _ (by omega)]) | (rw [hm _ (by omega)])))) | (have t_ := Rel.power (h); exact Or.inr t_)) (by first | (refine Or.inl (And.intro ?_ (And.intro ?_ ?_)) <;> first | (simp only [List.mem_cons, List.not_mem_nil, or_false, forall_eq_or_imp, forall_eq, false_implies, implies_true, and_true] <;> omega) | (repeat' (first | exact True.intro | rfl | refine And.intro ?_ ?_ | (rw [sv_ne _ _ _ _ (by omega)]) | (rw [up_cell _ _ _ (by omega)]) | (rw [fil_cell _ _ _ _ _ (by omega)]) | (rw [hM _ (by omega)]) | (rw [hm _ (by omega)])))) | (have t_ := Rel.time (h); exact Or.inr t_)) (by first | (refine Or.inl (And.intro ?_ (And.intro ?_ ?_)) <;> first | (simp only [List.mem_cons, List.not_mem_nil, or_false, forall_eq_or_imp, forall_eq, false_implies, implies_true, and_true] <;> omega) | (repeat' (first | exact True.intro | rfl | refine And.intro ?_ ?_ | (rw [sv_ne _ _ _ _ (by omega)]) | (rw [up_cell _ _ _ (by omega)]) | (rw [fil_cell _ _ _ _ _ (by omega)]) | (rw [hM _ (by omega)]) | (rw [hm _ (by omega)])))) | (have t_ := Rel.z (h); exact Or.inr t_)) (by first | (refine Or.inl (And.intro ?_ (And.intro ?_ ?_)) <;> first | (simp only [List.mem_cons, List.not_mem_nil, or_false, forall_eq_or_imp, forall_eq, false_implies, implies_true, and_true] <;> omega) | (repeat' (first | exact True.intro | rfl | refine And.intro ?_ ?_ | (rw [sv_ne _ _ _ _ (by omega)]) | (rw [up_cell _ _ _ (by omega)]) | (rw [fil_cell _ _ _ _ _ (by omega)]) | (rw [hM _ (by omega)]) | (rw [hm _ (by omega)])))) | (have t_ := Rel.count (h); exact Or.inr t_)) (by first | (refine Or.inl (And.intro ?_ (And.intro ?_ ?_)) <;> first | (simp only [List.mem_cons, List.not_mem_nil, or_false, forall_eq_or_imp, forall_eq, false_implies, implies_true, and_true] <;> omega) | (repeat' (first | exact True.intro | rfl | refine And.intro ?_ ?_ | (rw [sv_ne _ _ _ _ (by omega)]) | (rw [up_cell _ _ _ (by omega)]) | (rw [fil_cell _ _ _ _ _ (by omega)]) | (rw [hM _ (by omega)]) | (rw [hm _ (by omega)])))) | (have t_ := Rel.turn (h); exact Or.inr t_)) (by first | (refine Or.inl (And.intro ?_ (And.intro ?_ ?_)) <;> first | (simp only [List.mem_cons, List.not_mem_nil, or_false, forall_eq_or_imp, forall_eq, false_implies, implies_true, and_true] <;> omega) | (repeat' (first | exact True.intro | rfl | refine And.intro ?_ ?_ | (rw [sv_ne _ _ _ _ (by omega)]) | (rw [up_cell _ _ _ (by omega)]) | (rw [fil_cell _ _ _ _ _ (by omega)]) | (rw [hM _ (by omega)]) | (rw [hm _ (by omega)])))) | (have t_ := Rel.bank (h); exact Or.inr t_)) (by first | (refine Or.inl (And.intro ?_ (And.intro ?_ ?_)) <;> first | (simp only [List.mem_cons, List.not_mem_nil, or_false, forall_eq_or_imp, forall_eq, false_implies, implies_true, and_true] <;> omega) | (repeat' (first | exact True.intro | rfl | refine And.intro ?_ ?_ | (rw [sv_ne _ _ _ _ (by omega)]) | (rw [up_cell _ _ _ (by omega)]) | (rw [fil_cell _ _ _ _ _ (by omega)]) | (rw [hM _ (by omega)]) | (rw [hm _ (by omega)])))) | (have t_ := Rel.tape (h); exact Or.inr t_)) (by first | (refine Or.inl (And.intro ?_ (And.intro ?_ ?_)) <;> first | (simp only [List.mem_cons, List.not_mem_nil, or_false, forall_eq_or_imp, forall_eq, false_implies, implies_true, and_true] <;> omega) | (repeat' (first | exact True.intro | rfl | refine And.intro ?_ ?_ | (rw [sv_ne _ _ _ _ (by omega)]) | (rw [up_cell _ _ _ (by omega)]) | (rw [fil_cell _ _ _ _ _ (by omega)]) | (rw [hM _ (by omega)]) | (rw [hm _ (by omega)])))) | (have t_ := Rel.counts (h); exact Or.inr t_)) (by first | (refine Or.inl (And.intro ?_ (And.intro ?_ ?_)) <;> first | (simp only [List.mem_cons, List.not_mem_nil, or_false, forall_eq_or_imp, forall_eq, false_implies, implies_true, and_true] <;> omega) | (repeat' (first | exact True.intro | rfl | refine And.intro ?_ ?_ | (rw [sv_ne _ _ _ _ (by omega)]) | (rw [up_cell _ _ _ (by omega)]) | (rw [fil_cell _ _ _ _ _ (by omega)]) | (rw [hM _ (by omega)]) | (rw [hm _ (by omega)])))) | (have t_ := Rel.events (h); exact Or.inr t_)) (by first | (refine Or.inl (And.intro ?_ (And.intro ?_ ?_)) <;> first | (simp only [List.mem_cons, List.not_mem_nil, or_false, forall_eq_or_imp, forall_eq, false_implies, implies_true, and_true] <;> omega) | (repeat' (first | exact True.intro | rfl | refine And.intro ?_ ?_ | (rw [sv_ne _ _ _ _ (by omega)]) | (rw [up_cell _ _ _ (by omega)]) | (rw [fil_cell _ _ _ _ _ (by omega)]) | (rw [hM _ (by omega)]) | (rw [hm _ (by omega)])))) | (have t_ := Rel.out (h); exact Or.inr t_)) (Or.inr (by
    intro k hk
    rw [sv_same, hb k hk, sv_rd, h.lamps k hk]
    simp only [true_and])) (by first | (refine Or.inl (And.intro ?_ (And.intro ?_ ?_)) <;> first | (simp only [List.mem_cons, List.not_mem_nil, or_false, forall_eq_or_imp, forall_eq, false_implies, implies_true, and_true] <;> omega) | (repeat' (first | exact True.intro | rfl | refine And.intro ?_ ?_ | (rw [sv_ne _ _ _ _ (by omega)]) | (rw [up_cell _ _ _ (by omega)]) | (rw [fil_cell _ _ _ _ _ (by omega)]) | (rw [hM _ (by omega)]) | (rw [hm _ (by omega)])))) | (have t_ := Rel.buttons (h); exact Or.inr t_)) (by first | (refine Or.inl (And.intro ?_ (And.intro ?_ ?_)) <;> first | (simp only [List.mem_cons, List.not_mem_nil, or_false, forall_eq_or_imp, forall_eq, false_implies, implies_true, and_true] <;> omega) | (repeat' (first | exact True.intro | rfl | refine And.intro ?_ ?_ | (rw [sv_ne _ _ _ _ (by omega)]) | (rw [up_cell _ _ _ (by omega)]) | (rw [fil_cell _ _ _ _ _ (by omega)]) | (rw [hM _ (by omega)]) | (rw [hm _ (by omega)])))) | (have t_ := Rel.lev (h); exact Or.inr t_)) (by first | (refine Or.inl (And.intro ?_ (And.intro ?_ ?_)) <;> first | (simp only [List.mem_cons, List.not_mem_nil, or_false, forall_eq_or_imp, forall_eq, false_implies, implies_true, and_true] <;> omega) | (repeat' (first | exact True.intro | rfl | refine And.intro ?_ ?_ | (rw [sv_ne _ _ _ _ (by omega)]) | (rw [up_cell _ _ _ (by omega)]) | (rw [fil_cell _ _ _ _ _ (by omega)]) | (rw [hM _ (by omega)]) | (rw [hm _ (by omega)])))) | (have t_ := Rel.mem (h); exact Or.inr t_)) (by first | (refine Or.inl (And.intro ?_ (And.intro ?_ ?_)) <;> first | (simp only [List.mem_cons, List.not_mem_nil, or_false, forall_eq_or_imp, forall_eq, false_implies, implies_true, and_true] <;> omega) | (repeat' (first | exact True.intro | rfl | refine And.intro ?_ ?_ | (rw [sv_ne _ _ _ _ (by omega)]) | (rw [up_cell _ _ _ (by omega)]) | (rw [fil_cell _ _ _ _ _ (by omega)]) | (rw [hM _ (by omega)]) | (rw [hm _ (by omega)])))) | (have t_ := Rel.sched (h); exact Or.inr t_)) (by first | (refine Or.inl (And.intro ?_ (And.intro ?_ ?_)) <;> first | (simp only [List.mem_cons, List.not_mem_nil, or_false, forall_eq_or_imp, forall_eq, false_implies, implies_true, and_true] <;> omega) | (repeat' (first | exact True.intro | rfl | refine And.intro ?_ ?_ | (rw [sv_ne _ _ _ _ (by omega)]) | (rw [up_cell _ _ _ (by omega)]) | (rw [fil_cell _ _ _ _ _ (by omega)]) | (rw [hM _ (by omega)]) | (rw [hm _ (by omega)])))) | (have t_ := Rel.done (h); exact Or.inr t_)) (by first | (refine Or.inl (And.intro ?_ (And.intro ?_ ?_)) <;> first | (simp only [List.mem_cons, List.not_mem_nil, or_false, forall_eq_or_imp, forall_eq, false_implies, implies_true, and_true] <;> omega) | (repeat' (first | exact True.intro | rfl | refine And.intro ?_ ?_ | (rw [sv_ne _ _ _ _ (by omega)]) | (rw [up_cell _ _ _ (by omega)]) | (rw [fil_cell _ _ _ _ _ (by omega)]) | (rw [hM _ (by omega)]) | (rw [hm _ (by omega)])))) | (have t_ := Rel.levels (h); exact Or.inr t_)) (by first | (refine Or.inl (And.intro ?_ (And.intro ?_ ?_)) <;> first | (simp only [List.mem_cons, List.not_mem_nil, or_false, forall_eq_or_imp, forall_eq, false_implies, implies_true, and_true] <;> omega) | (repeat' (first | exact True.intro | rfl | refine And.intro ?_ ?_ | (rw [sv_ne _ _ _ _ (by omega)]) | (rw [up_cell _ _ _ (by omega)]) | (rw [fil_cell _ _ _ _ _ (by omega)]) | (rw [hM _ (by omega)]) | (rw [hm _ (by omega)])))) | (have t_ := Rel.places (h); exact Or.inr t_)) (by first | (refine Or.inl (And.intro ?_ (And.intro ?_ ?_)) <;> first | (simp only [List.mem_cons, List.not_mem_nil, or_false, forall_eq_or_imp, forall_eq, false_implies, implies_true, and_true] <;> omega) | (repeat' (first | exact True.intro | rfl | refine And.intro ?_ ?_ | (rw [sv_ne _ _ _ _ (by omega)]) | (rw [up_cell _ _ _ (by omega)]) | (rw [fil_cell _ _ _ _ _ (by omega)]) | (rw [hM _ (by omega)]) | (rw [hm _ (by omega)])))) | (have t_ := Rel.asked (h); exact Or.inr t_)) (by first | (refine Or.inl (And.intro ?_ (And.intro ?_ ?_)) <;> first | (simp only [List.mem_cons, List.not_mem_nil, or_false, forall_eq_or_imp, forall_eq, false_implies, implies_true, and_true] <;> omega) | (repeat' (first | exact True.intro | rfl | refine And.intro ?_ ?_ | (rw [sv_ne _ _ _ _ (by omega)]) | (rw [up_cell _ _ _ (by omega)]) | (rw [fil_cell _ _ _ _ _ (by omega)]) | (rw [hM _ (by omega)]) | (rw [hm _ (by omega)])))) | (have t_ := Rel.worder (h); exact Or.inr t_)) (by first | (refine Or.inl (And.intro ?_ (And.intro ?_ ?_)) <;> first | (simp only [List.mem_cons, List.not_mem_nil, or_false, forall_eq_or_imp, forall_eq, false_implies, implies_true, and_true] <;> omega) | (repeat' (first | exact True.intro | rfl | refine And.intro ?_ ?_ | (rw [sv_ne _ _ _ _ (by omega)]) | (rw [up_cell _ _ _ (by omega)]) | (rw [fil_cell _ _ _ _ _ (by omega)]) | (rw [hM _ (by omega)]) | (rw [hm _ (by omega)])))) | (have t_ := Rel.rorder (h); exact Or.inr t_)) (by first | (refine Or.inl (And.intro ?_ (And.intro ?_ ?_)) <;> first | (simp only [List.mem_cons, List.not_mem_nil, or_false, forall_eq_or_imp, forall_eq, false_implies, implies_true, and_true] <;> omega) | (repeat' (first | exact True.intro | rfl | refine And.intro ?_ ?_ | (rw [sv_ne _ _ _ _ (by omega)]) | (rw [up_cell _ _ _ (by omega)]) | (rw [fil_cell _ _ _ _ _ (by omega)]) | (rw [hM _ (by omega)]) | (rw [hm _ (by omega)])))) | (have t_ := Rel.ps (h); exact Or.inr t_)) (by first | (refine Or.inl (And.intro ?_ (And.intro ?_ ?_)) <;> first | (simp only [List.mem_cons, List.not_mem_nil, or_false, forall_eq_or_imp, forall_eq, false_implies, implies_true, and_true] <;> omega) | (repeat' (first | exact True.intro | rfl | refine And.intro ?_ ?_ | (rw [sv_ne _ _ _ _ (by omega)]) | (rw [up_cell _ _ _ (by omega)]) | (rw [fil_cell _ _ _ _ _ (by omega)]) | (rw [hM _ (by omega)]) | (rw [hm _ (by omega)])))) | (have t_ := Rel.app (h); exact Or.inr t_)) (by first | (refine Or.inl (And.intro ?_ (And.intro ?_ ?_)) <;> first | (simp only [List.mem_cons, List.not_mem_nil, or_false, forall_eq_or_imp, forall_eq, false_implies, implies_true, and_true] <;> omega) | (repeat' (first | exact True.intro | rfl | refine And.intro ?_ ?_ | (rw [sv_ne _ _ _ _ (by omega)]) | (rw [up_cell _ _ _ (by omega)]) | (rw [fil_cell _ _ _ _ _ (by omega)]) | (rw [hM _ (by omega)]) | (rw [hm _ (by omega)])))) | (have t_ := Rel.name (h); exact Or.inr t_)) (by first | (refine Or.inl (And.intro ?_ (And.intro ?_ ?_)) <;> first | (simp only [List.mem_cons, List.not_mem_nil, or_false, forall_eq_or_imp, forall_eq, false_implies, implies_true, and_true] <;> omega) | (repeat' (first | exact True.intro | rfl | refine And.intro ?_ ?_ | (rw [sv_ne _ _ _ _ (by omega)]) | (rw [up_cell _ _ _ (by omega)]) | (rw [fil_cell _ _ _ _ _ (by omega)]) | (rw [hM _ (by omega)]) | (rw [hm _ (by omega)])))) | (have t_ := Rel.number (h); exact Or.inr t_)) (by first | (refine Or.inl (And.intro ?_ (And.intro ?_ ?_)) <;> first | (simp only [List.mem_cons, List.not_mem_nil, or_false, forall_eq_or_imp, forall_eq, false_implies, implies_true, and_true] <;> omega) | (repeat' (first | exact True.intro | rfl | refine And.intro ?_ ?_ | (rw [sv_ne _ _ _ _ (by omega)]) | (rw [up_cell _ _ _ (by omega)]) | (rw [fil_cell _ _ _ _ _ (by omega)]) | (rw [hM _ (by omega)]) | (rw [hm _ (by omega)])))) | (have t_ := Rel.bits (h); exact Or.inr t_)) (by first | (refine Or.inl (And.intro ?_ (And.intro ?_ ?_)) <;> first | (simp only [List.mem_cons, List.not_mem_nil, or_false, forall_eq_or_imp, forall_eq, false_implies, implies_true, and_true] <;> omega) | (repeat' (first | exact True.intro | rfl | refine And.intro ?_ ?_ | (rw [sv_ne _ _ _ _ (by omega)]) | (rw [up_cell _ _ _ (by omega)]) | (rw [fil_cell _ _ _ _ _ (by omega)]) | (rw [hM _ (by omega)]) | (rw [hm _ (by omega)])))) | (have t_ := Rel.regs (h); exact Or.inr t_)) (by first | (refine Or.inl (And.intro ?_ (And.intro ?_ ?_)) <;> first | (simp only [List.mem_cons, List.not_mem_nil, or_false, forall_eq_or_imp, forall_eq, false_implies, implies_true, and_true] <;> omega) | (repeat' (first | exact True.intro | rfl | refine And.intro ?_ ?_ | (rw [sv_ne _ _ _ _ (by omega)]) | (rw [up_cell _ _ _ (by omega)]) | (rw [fil_cell _ _ _ _ _ (by omega)]) | (rw [hM _ (by omega)]) | (rw [hm _ (by omega)])))) | (have t_ := Rel.rsv (h); exact Or.inr t_)) (by first | (refine Or.inl (And.intro ?_ (And.intro ?_ ?_)) <;> first | (simp only [List.mem_cons, List.not_mem_nil, or_false, forall_eq_or_imp, forall_eq, false_implies, implies_true, and_true] <;> omega) | (repeat' (first | exact True.intro | rfl | refine And.intro ?_ ?_ | (rw [sv_ne _ _ _ _ (by omega)]) | (rw [up_cell _ _ _ (by omega)]) | (rw [fil_cell _ _ _ _ _ (by omega)]) | (rw [hM _ (by omega)]) | (rw [hm _ (by omega)])))) | (have t_ := Rel.queue (h); exact Or.inr t_)) (by first | (refine Or.inl (And.intro ?_ (And.intro ?_ ?_)) <;> first | (simp only [List.mem_cons, List.not_mem_nil, or_false, forall_eq_or_imp, forall_eq, false_implies, implies_true, and_true] <;> omega) | (repeat' (first | exact True.intro | rfl | refine And.intro ?_ ?_ | (rw [sv_ne _ _ _ _ (by omega)]) | (rw [up_cell _ _ _ (by omega)]) | (rw [fil_cell _ _ _ _ _ (by omega)]) | (rw [hM _ (by omega)]) | (rw [hm _ (by omega)])))) | (have t_ := Rel.ctlw (h); exact Or.inr t_)) (by first | (refine Or.inl (And.intro ?_ (And.intro ?_ ?_)) <;> first | (simp only [List.mem_cons, List.not_mem_nil, or_false, forall_eq_or_imp, forall_eq, false_implies, implies_true, and_true] <;> omega) | (repeat' (first | exact True.intro | rfl | refine And.intro ?_ ?_ | (rw [sv_ne _ _ _ _ (by omega)]) | (rw [up_cell _ _ _ (by omega)]) | (rw [fil_cell _ _ _ _ _ (by omega)]) | (rw [hM _ (by omega)]) | (rw [hm _ (by omega)])))) | (have t_ := Rel.wt (h); exact Or.inr t_)))
theorem d_lamps {kc : it_Kc} {B : Nat} {m : it_Me} (hI : Inv B m) {i : Nat} (hi : i < cnt m) {c : Int32} (hcc : c = 1 ∨ c = 2 ∨ c = 3) (v : Int32) : Lv (w_52 kc (14 + 5 * i) c v) (w_300 kc (nI i) c v) B m (Kq m) := by
  have h8 := cnt_le hI
  have i8 : i < 8 := by omega
  by_cases hv : 0 ≤ v.toInt ∧ v.toInt ≤ 3
  · obtain ⟨n, hn, en⟩ := numN (k := 4) (by omega) (x := v) (by omega)
    subst en
    have nn : ¬ nI n < 0 := by rw [Int32.lt_iff_toInt_lt, nI_toInt (by omega)]; simp only [Int32.reduceToInt]; omega
    have n3 : nI n ≤ 3 := by rw [Int32.le_iff_toInt_le, nI_toInt (by omega)]; simp only [Int32.reduceToInt]; omega
    have v4 : vp_in (nI n) 4 := by rw [vp_in_iff, nI_toInt (by omega)]; omega
    have I1 : ∀ x, Inv B (it_sv m 59 4 x) := fun x => (Inv.upd (hI) (Nat.le_refl B) ([59]) (by intro k hk; simp only [List.mem_cons, List.not_mem_nil, or_false, not_or, not_false_eq_true] at hk; first | rfl | (repeat (first | rw [sv_cell _ _ _ _ (by omega)] | rw [up_cell _ _ _ (by omega)] | rw [fil_cell _ _ _ _ _ (by omega)]))) (by first | (refine Or.inl (And.intro ?_ ?_) <;> first | (simp only [List.mem_cons, List.not_mem_nil, or_false, forall_eq_or_imp, forall_eq, false_implies, implies_true, and_true] <;> omega) | (repeat' (first | exact True.intro | rfl | refine And.intro ?_ ?_ | (rw [sv_ne _ _ _ _ (by omega)]) | (rw [up_cell _ _ _ (by omega)]) | (rw [fil_cell _ _ _ _ _ (by omega)]) | (rw [hM _ (by omega)]) | (rw [hm _ (by omega)])))) | (have t_ := Inv.tl (hI); exact Or.inr t_)) (by first | (refine Or.inl (And.intro ?_ ?_) <;> first | (simp only [List.mem_cons, List.not_mem_nil, or_false, forall_eq_or_imp, forall_eq, false_implies, implies_true, and_true] <;> omega) | (repeat' (first | exact True.intro | rfl | refine And.intro ?_ ?_ | (rw [sv_ne _ _ _ _ (by omega)]) | (rw [up_cell _ _ _ (by omega)]) | (rw [fil_cell _ _ _ _ _ (by omega)]) | (rw [hM _ (by omega)]) | (rw [hm _ (by omega)])))) | (have t_ := Inv.tp (hI); exact Or.inr t_)) (by first | (refine Or.inl (And.intro ?_ ?_) <;> first | (simp only [List.mem_cons, List.not_mem_nil, or_false, forall_eq_or_imp, forall_eq, false_implies, implies_true, and_true] <;> omega) | (repeat' (first | exact True.intro | rfl | refine And.intro ?_ ?_ | (rw [sv_ne _ _ _ _ (by omega)]) | (rw [up_cell _ _ _ (by omega)]) | (rw [fil_cell _ _ _ _ _ (by omega)]) | (rw [hM _ (by omega)]) | (rw [hm _ (by omega)])))) | (have t_ := Inv.on (hI); exact Or.inr t_)) (by first | (refine Or.inl (And.intro ?_ ?_) <;> first | (simp only [List.mem_cons, List.not_mem_nil, or_false, forall_eq_or_imp, forall_eq, false_implies, implies_true, and_true] <;> omega) | (repeat' (first | exact True.intro | rfl | refine And.intro ?_ ?_ | (rw [sv_ne _ _ _ _ (by omega)]) | (rw [up_cell _ _ _ (by omega)]) | (rw [fil_cell _ _ _ _ _ (by omega)]) | (rw [hM _ (by omega)]) | (rw [hm _ (by omega)])))) | (have t_ := Inv.off (hI); exact Or.inr t_)) (by first | (refine Or.inl (And.intro ?_ ?_) <;> first | (simp only [List.mem_cons, List.not_mem_nil, or_false, forall_eq_or_imp, forall_eq, false_implies, implies_true, and_true] <;> omega) | (repeat' (first | exact True.intro | rfl | refine And.intro ?_ ?_ | (rw [sv_ne _ _ _ _ (by omega)]) | (rw [up_cell _ _ _ (by omega)]) | (rw [fil_cell _ _ _ _ _ (by omega)]) | (rw [hM _ (by omega)]) | (rw [hm _ (by omega)])))) | (have t_ := Inv.cn (hI); exact Or.inr t_)) (by first | (refine Or.inl (And.intro ?_ ?_) <;> first | (simp only [List.mem_cons, List.not_mem_nil, or_false, forall_eq_or_imp, forall_eq, false_implies, implies_true, and_true] <;> omega) | (repeat' (first | exact True.intro | rfl | refine And.intro ?_ ?_ | (rw [sv_ne _ _ _ _ (by omega)]) | (rw [up_cell _ _ _ (by omega)]) | (rw [fil_cell _ _ _ _ _ (by omega)]) | (rw [hM _ (by omega)]) | (rw [hm _ (by omega)])))) | (have t_ := Inv.ev (hI); exact Or.inr t_)) (by first | (refine Or.inl (And.intro ?_ ?_) <;> first | (simp only [List.mem_cons, List.not_mem_nil, or_false, forall_eq_or_imp, forall_eq, false_implies, implies_true, and_true] <;> omega) | (repeat' (first | exact True.intro | rfl | refine And.intro ?_ ?_ | (rw [sv_ne _ _ _ _ (by omega)]) | (rw [up_cell _ _ _ (by omega)]) | (rw [fil_cell _ _ _ _ _ (by omega)]) | (rw [hM _ (by omega)]) | (rw [hm _ (by omega)])))) | (have t_ := Inv.out (hI); exact Or.inr t_)) (by first | (refine Or.inl (And.intro ?_ ?_) <;> first | (simp only [List.mem_cons, List.not_mem_nil, or_false, forall_eq_or_imp, forall_eq, false_implies, implies_true, and_true] <;> omega) | (repeat' (first | exact True.intro | rfl | refine And.intro ?_ ?_ | (rw [sv_ne _ _ _ _ (by omega)]) | (rw [up_cell _ _ _ (by omega)]) | (rw [fil_cell _ _ _ _ _ (by omega)]) | (rw [hM _ (by omega)]) | (rw [hm _ (by omega)])))) | (have t_ := Inv.num (hI); exact Or.inr t_)) (by first | (refine Or.inl (And.intro ?_ ?_) <;> first | (simp only [List.mem_cons, List.not_mem_nil, or_false, forall_eq_or_imp, forall_eq, false_implies, implies_true, and_true] <;> omega) | (repeat' (first | exact True.intro | rfl | refine And.intro ?_ ?_ | (rw [sv_ne _ _ _ _ (by omega)]) | (rw [up_cell _ _ _ (by omega)]) | (rw [fil_cell _ _ _ _ _ (by omega)]) | (rw [hM _ (by omega)]) | (rw [hm _ (by omega)])))) | (have t_ := Inv.crc (hI); exact Or.inr t_)) (by first | (refine Or.inl (And.intro ?_ ?_) <;> first | (simp only [List.mem_cons, List.not_mem_nil, or_false, forall_eq_or_imp, forall_eq, false_implies, implies_true, and_true] <;> omega) | (repeat' (first | exact True.intro | rfl | refine And.intro ?_ ?_ | (rw [sv_ne _ _ _ _ (by omega)]) | (rw [up_cell _ _ _ (by omega)]) | (rw [fil_cell _ _ _ _ _ (by omega)]) | (rw [hM _ (by omega)]) | (rw [hm _ (by omega)])))) | (have t_ := Inv.bk (hI); exact Or.inr t_)) (by first | (refine Or.inl (And.intro ?_ ?_) <;> first | (simp only [List.mem_cons, List.not_mem_nil, or_false, forall_eq_or_imp, forall_eq, false_implies, implies_true, and_true] <;> omega) | (repeat' (first | exact True.intro | rfl | refine And.intro ?_ ?_ | (rw [sv_ne _ _ _ _ (by omega)]) | (rw [up_cell _ _ _ (by omega)]) | (rw [fil_cell _ _ _ _ _ (by omega)]) | (rw [hM _ (by omega)]) | (rw [hm _ (by omega)])))) | (have t_ := Inv.bk1 (hI); exact Or.inr t_)) (by first | (refine Or.inl (And.intro ?_ ?_) <;> first | (simp only [List.mem_cons, List.not_mem_nil, or_false, forall_eq_or_imp, forall_eq, false_implies, implies_true, and_true] <;> omega) | (repeat' (first | exact True.intro | rfl | refine And.intro ?_ ?_ | (rw [sv_ne _ _ _ _ (by omega)]) | (rw [up_cell _ _ _ (by omega)]) | (rw [fil_cell _ _ _ _ _ (by omega)]) | (rw [hM _ (by omega)]) | (rw [hm _ (by omega)])))) | (have t_ := Inv.pw (hI); exact Or.inr t_)) (by first | (refine Or.inl (And.intro ?_ ?_) <;> first | (simp only [List.mem_cons, List.not_mem_nil, or_false, forall_eq_or_imp, forall_eq, false_implies, implies_true, and_true] <;> omega) | (repeat' (first | exact True.intro | rfl | refine And.intro ?_ ?_ | (rw [sv_ne _ _ _ _ (by omega)]) | (rw [up_cell _ _ _ (by omega)]) | (rw [fil_cell _ _ _ _ _ (by omega)]) | (rw [hM _ (by omega)]) | (rw [hm _ (by omega)])))) | (have t_ := Inv.kd (hI); exact Or.inr t_)) (by first | (refine Or.inl (And.intro ?_ ?_) <;> first | (simp only [List.mem_cons, List.not_mem_nil, or_false, forall_eq_or_imp, forall_eq, false_implies, implies_true, and_true] <;> omega) | (repeat' (first | exact True.intro | rfl | refine And.intro ?_ ?_ | (rw [sv_ne _ _ _ _ (by omega)]) | (rw [up_cell _ _ _ (by omega)]) | (rw [fil_cell _ _ _ _ _ (by omega)]) | (rw [hM _ (by omega)]) | (rw [hm _ (by omega)])))) | (have t_ := Inv.tn (hI); exact Or.inr t_)) (by first | (refine Or.inl (And.intro ?_ ?_) <;> first | (simp only [List.mem_cons, List.not_mem_nil, or_false, forall_eq_or_imp, forall_eq, false_implies, implies_true, and_true] <;> omega) | (repeat' (first | exact True.intro | rfl | refine And.intro ?_ ?_ | (rw [sv_ne _ _ _ _ (by omega)]) | (rw [up_cell _ _ _ (by omega)]) | (rw [fil_cell _ _ _ _ _ (by omega)]) | (rw [hM _ (by omega)]) | (rw [hm _ (by omega)])))) | (have t_ := Inv.ask (hI); exact Or.inr t_)) (by first | (refine Or.inl (And.intro ?_ ?_) <;> first | (simp only [List.mem_cons, List.not_mem_nil, or_false, forall_eq_or_imp, forall_eq, false_implies, implies_true, and_true] <;> omega) | (repeat' (first | exact True.intro | rfl | refine And.intro ?_ ?_ | (rw [sv_ne _ _ _ _ (by omega)]) | (rw [up_cell _ _ _ (by omega)]) | (rw [fil_cell _ _ _ _ _ (by omega)]) | (rw [hM _ (by omega)]) | (rw [hm _ (by omega)])))) | (have t_ := Inv.askW (hI); exact Or.inr t_)) (by first | (refine Or.inl (And.intro ?_ ?_) <;> first | (simp only [List.mem_cons, List.not_mem_nil, or_false, forall_eq_or_imp, forall_eq, false_implies, implies_true, and_true] <;> omega) | (repeat' (first | exact True.intro | rfl | refine And.intro ?_ ?_ | (rw [sv_ne _ _ _ _ (by omega)]) | (rw [up_cell _ _ _ (by omega)]) | (rw [fil_cell _ _ _ _ _ (by omega)]) | (rw [hM _ (by omega)]) | (rw [hm _ (by omega)])))) | (have t_ := Inv.askR (hI); exact Or.inr t_)) (by first | (refine Or.inl (And.intro ?_ ?_) <;> first | (simp only [List.mem_cons, List.not_mem_nil, or_false, forall_eq_or_imp, forall_eq, false_implies, implies_true, and_true] <;> omega) | (repeat' (first | exact True.intro | rfl | refine And.intro ?_ ?_ | (rw [sv_ne _ _ _ _ (by omega)]) | (rw [up_cell _ _ _ (by omega)]) | (rw [fil_cell _ _ _ _ _ (by omega)]) | (rw [hM _ (by omega)]) | (rw [hm _ (by omega)])))) | (have t_ := Inv.lv0 (hI); exact Or.inr t_)) (by first | (refine Or.inl (And.intro ?_ ?_) <;> first | (simp only [List.mem_cons, List.not_mem_nil, or_false, forall_eq_or_imp, forall_eq, false_implies, implies_true, and_true] <;> omega) | (repeat' (first | exact True.intro | rfl | refine And.intro ?_ ?_ | (rw [sv_ne _ _ _ _ (by omega)]) | (rw [up_cell _ _ _ (by omega)]) | (rw [fil_cell _ _ _ _ _ (by omega)]) | (rw [hM _ (by omega)]) | (rw [hm _ (by omega)])))) | (have t_ := Inv.lv2 (hI); exact Or.inr t_)) (by first | (refine Or.inl (And.intro ?_ ?_) <;> first | (simp only [List.mem_cons, List.not_mem_nil, or_false, forall_eq_or_imp, forall_eq, false_implies, implies_true, and_true] <;> omega) | (repeat' (first | exact True.intro | rfl | refine And.intro ?_ ?_ | (rw [sv_ne _ _ _ _ (by omega)]) | (rw [up_cell _ _ _ (by omega)]) | (rw [fil_cell _ _ _ _ _ (by omega)]) | (rw [hM _ (by omega)]) | (rw [hm _ (by omega)])))) | (have t_ := Inv.pl (hI); exact Or.inr t_)) (by first | (refine Or.inl (And.intro ?_ ?_) <;> first | (simp only [List.mem_cons, List.not_mem_nil, or_false, forall_eq_or_imp, forall_eq, false_implies, implies_true, and_true] <;> omega) | (repeat' (first | exact True.intro | rfl | refine And.intro ?_ ?_ | (rw [sv_ne _ _ _ _ (by omega)]) | (rw [up_cell _ _ _ (by omega)]) | (rw [fil_cell _ _ _ _ _ (by omega)]) | (rw [hM _ (by omega)]) | (rw [hm _ (by omega)])))) | (have t_ := Inv.pi (hI); exact Or.inr t_)) (by first | (refine Or.inl (And.intro ?_ ?_) <;> first | (simp only [List.mem_cons, List.not_mem_nil, or_false, forall_eq_or_imp, forall_eq, false_implies, implies_true, and_true] <;> omega) | (repeat' (first | exact True.intro | rfl | refine And.intro ?_ ?_ | (rw [sv_ne _ _ _ _ (by omega)]) | (rw [up_cell _ _ _ (by omega)]) | (rw [fil_cell _ _ _ _ _ (by omega)]) | (rw [hM _ (by omega)]) | (rw [hm _ (by omega)])))) | (have t_ := Inv.dis (hI); exact Or.inr t_)))
    have k1 : ∀ x, i < cnt (it_sv m 59 4 x) := fun x => by rw [cnt_sv _ _ _ (by omega)]; exact hi
    have kq : ∀ x, Kq m (it_sv m 59 4 x) := fun x => ⟨sv_cell _ _ _ _ (by omega), sv_cell _ _ _ _ (by omega)⟩
    have mk : ∀ x b : Int32, (∀ k, k < 4 → b01 (bt x k) = if k = n then b else b01 (bt (m 59 4) k)) → (∀ Φ, w_52_72 kc Φ (14 + 5 * i) (it_sv m 59 4 x) → w_52 kc (14 + 5 * i) c (nI n) m Φ) → (∀ M, Rel m M → ∀ Φ, w_280 kc (nI i) (it_sv M 71 n b) (fun m1 => w_300_54 kc Φ m1) → w_300 kc (nI i) c (nI n) M Φ) → Lv (w_52 kc (14 + 5 * i) c (nI n)) (w_300 kc (nI i) c (nI n)) B m (Kq m) := fun x b hb hc hr => by
      obtain ⟨m', c1, c2, c3, c4, c5⟩ := lv_ok (kc := kc) (I1 x) (k1 x)
      exact ⟨m', fun Φ h => hc Φ (c1 _ h), c2, FrC.trans (FrC.rfl.sv (by omega)) c3, (kq x).trans c4.q, fun M hM Φ h => hr M hM Φ (c5 _ (hM.lmp h8 hn x b hb) _ (fun M' r f => h M' r (FrM.trans (FrM.rfl.sv (by omega)) f)))⟩
    rcases hcc with rfl | rfl | rfl
    · refine mk (m 59 4 ||| it_shl 1 (nI n)) 1 (fun k hk => ?_) (fun Φ h => ?_) (fun M hM Φ h => ?_)
      · rw [b_or, bt_1s n hn k (by omega)]
        by_cases e : k = n
        · rw [if_pos e, decide_eq_true e, Bool.or_true]; rfl
        · rw [if_neg e, decide_eq_false e, Bool.or_false]
      · unfold w_52
        exact ⟨fun q => absurd q nn, fun _ => ⟨fun _ => ⟨fun _ => h, fun q => absurd rfl q⟩, fun q => absurd n3 q⟩⟩
      · unfold w_300 w_300_43 w_300_48
        rw [nI_clamp (by omega)]
        exact ⟨fun q => absurd q nn, fun _ => ⟨fun _ => ⟨fun _ => ⟨v4, h⟩, fun q => absurd rfl q⟩, fun q => absurd n3 q⟩⟩
    · refine mk (m 59 4 &&& (it_shl 1 (nI n) ^^^ (-1 : Int32))) 0 (fun k hk => ?_) (fun Φ h => ?_) (fun M hM Φ h => ?_)
      · rw [b_and, bt_not _ (by omega), bt_1s n hn k (by omega)]
        by_cases e : k = n
        · rw [if_pos e, decide_eq_true e]; simp [b01]
        · rw [if_neg e, decide_eq_false e]; simp
      · unfold w_52
        exact ⟨fun q => absurd q nn, fun _ => ⟨fun _ => ⟨fun q => absurd q (by decide), fun _ => ⟨fun _ => h, fun q => absurd rfl q⟩⟩, fun q => absurd n3 q⟩⟩
      · unfold w_300 w_300_47 w_300_48
        rw [nI_clamp (by omega)]
        exact ⟨fun q => absurd q nn, fun _ => ⟨fun _ => ⟨fun q => absurd q (by decide), fun _ => ⟨fun q => absurd q (by decide), fun _ => ⟨v4, h⟩⟩⟩, fun q => absurd n3 q⟩⟩
    · refine mk (m 59 4 ^^^ it_shl 1 (nI n)) (b01 (!bt (m 59 4) n)) (fun k hk => ?_) (fun Φ h => ?_) (fun M hM Φ h => ?_)
      · rw [b_xor, bt_1s n hn k (by omega)]
        by_cases e : k = n
        · subst e; rw [if_pos rfl, decide_eq_true rfl, Bool.xor_true]
        · rw [if_neg e, decide_eq_false e, Bool.xor_false]
      · unfold w_52
        exact ⟨fun q => absurd q nn, fun _ => ⟨fun _ => ⟨fun q => absurd q (by decide), fun _ => ⟨fun q => absurd q (by decide), fun _ => h⟩⟩, fun q => absurd n3 q⟩⟩
      · unfold w_300 w_300_43 w_300_47 w_300_48
        rw [nI_clamp (by omega), hM.lamps n hn]
        refine ⟨fun q => absurd q nn, fun _ => ⟨fun _ => ⟨fun q => absurd q (by decide), fun _ => ⟨fun _ => ⟨v4, ?_⟩, fun q => absurd rfl q⟩⟩, fun q => absurd n3 q⟩⟩
        cases hb : bt (m 59 4) n
        · rw [hb] at h
          exact ⟨fun _ => ⟨v4, h⟩, fun q => absurd rfl q⟩
        · rw [hb] at h
          exact ⟨fun q => absurd q (by decide), fun _ => ⟨v4, h⟩⟩
  · obtain ⟨m', c1, c2, c3, c4, c5⟩ := lv_fail (kc := kc) hI hi 6
    refine ⟨m', fun Φ h => ?_, c2, c3, c4.q, fun M hM Φ h => ?_⟩
    · unfold w_52 w_52_9
      refine ⟨fun _ => c1 _ h, fun q => ⟨fun q2 => ?_, fun _ => c1 _ h⟩⟩
      exfalso
      rw [Int32.lt_iff_toInt_lt] at q
      rw [Int32.le_iff_toInt_le] at q2
      simp only [Int32.reduceToInt] at q q2
      exact hv ⟨by omega, by omega⟩
    · unfold w_300 w_300_9
      refine ⟨fun _ => c5 M hM _ h, fun q => ⟨fun q2 => ?_, fun _ => c5 M hM _ h⟩⟩
      exfalso
      rw [Int32.lt_iff_toInt_lt] at q
      rw [Int32.le_iff_toInt_le] at q2
      simp only [Int32.reduceToInt] at q q2
      exact hv ⟨by omega, by omega⟩
theorem d_buttons {kc : it_Kc} (hk : KC kc) {B : Nat} {m : it_Me} (hI : Inv B m) {i : Nat} (hi : i < cnt m) (hg : m (14 + 5 * i + 4) 3 ≠ 0) (hs : ¬ (m (14 + 5 * i) 9 = 4 ∨ m (14 + 5 * i) 9 = 5)) (c v : Int32) : Lv (w_53 kc (14 + 5 * i) c v) (fun M Φ => w_269 kc (m (14 + 5 * i + 4) 3) 3 M (fun r7 m8 => w_301 kc (nI i) r7 c v m8 Φ)) B m (Kp m) := by
  have h8 := cnt_le hI
  have i8 : i < 8 := by omega
  have z : owA 3 = 16 ∧ gsz 3 = 20 := by decide
  by_cases hv : 0 ≤ v.toInt ∧ v.toInt ≤ 3
  · obtain ⟨n, hn, en⟩ := numN (k := 4) (by omega) (x := v) (by omega)
    subst en
    have nn : ¬ nI n < 0 := by rw [Int32.lt_iff_toInt_lt, nI_toInt (by omega)]; simp only [Int32.reduceToInt]; omega
    have n3 : nI n ≤ 3 := by rw [Int32.le_iff_toInt_le, nI_toInt (by omega)]; simp only [Int32.reduceToInt]; omega
    have v4 : vp_in (nI n) 4 := by rw [vp_in_iff, nI_toInt (by omega)]; omega
    by_cases a3 : c = 3
    · obtain ⟨m', c1, c2, c3, c4, c5⟩ := lv_ok1 (kc := kc) hI hi (b01 (bt (m 59 5) n))
      refine ⟨m', fun Φ h => ?_, c2, c3, c4, fun M hM Φ h => r_269 (d := 3) (by omega) ?_⟩
      · unfold w_53
        refine ⟨fun q => absurd q nn, fun _ => ⟨fun _ => c_90 hk (d := 3) (by omega) ⟨fun _ => ?_, fun q => absurd a3 q⟩, fun q => absurd n3 q⟩⟩
        rw [bit_of (m 59 5) (show n < 32 by omega) rfl]
        exact c1 _ h
      · unfold w_301 w_301_43
        rw [nI_clamp (by omega), hM.buttons n hn]
        refine ⟨fun q => absurd q nn, fun _ => ⟨fun _ => ⟨fun _ => ⟨v4, ?_⟩, fun q => absurd a3 q⟩, fun q => absurd n3 q⟩⟩
        have h' := c5 M hM _ h
        cases hb : bt (m 59 5) n
        · rw [hb] at h'
          exact ⟨fun _ => h', fun q => absurd rfl q⟩
        · rw [hb] at h'
          exact ⟨fun q => absurd q (by decide), fun _ => h'⟩
    · have mk : ∀ f : Int32, (∀ Φ, w_53_89 kc Φ (14 + 5 * i) (m (14 + 5 * i + 4) 3 + nI 16) f m → (c = 1 → w_53_89 kc Φ (14 + 5 * i) (m (14 + 5 * i + 4) 3 + nI 16) (gw m (m (14 + 5 * i + 4) 3 + nI 16) ||| it_shl 1 (nI n)) m) ∧ (¬ c = 1 → w_53_89 kc Φ (14 + 5 * i) (m (14 + 5 * i + 4) 3 + nI 16) (gw m (m (14 + 5 * i + 4) 3 + nI 16) &&& (it_shl 1 (nI n) ^^^ (-1 : Int32))) m)) → (∀ M Φ, Rel m M → w_301_81 kc Φ (nI i) (m (14 + 5 * i + 4) 3 + nI 16) f M → (c = 1 → w_220 kc (m (14 + 5 * i + 4) 3 + nI 16) M (fun r1 m2 => w_301_81 kc Φ (nI i) (m (14 + 5 * i + 4) 3 + nI 16) (r1 ||| it_shl 1 (nI n)) m2)) ∧ (¬ c = 1 → w_220 kc (m (14 + 5 * i + 4) 3 + nI 16) M (fun r3 m4 => w_301_81 kc Φ (nI i) (m (14 + 5 * i + 4) 3 + nI 16) (r3 &&& (it_shl 1 (nI n) ^^^ (-1 : Int32))) m4))) → Lv (w_53 kc (14 + 5 * i) c (nI n)) (fun M Φ => w_269 kc (m (14 + 5 * i + 4) 3) 3 M (fun r7 m8 => w_301 kc (nI i) r7 c (nI n) m8 Φ)) B m (Kp m) := fun f hc hr => by
        obtain ⟨b1, b2, b3⟩ := lv_w (kc := kc) hI hi (d := 3) (k := 16) (by omega) (by omega) hg (by omega) (v := f) (fun q => absurd q hs) (fun e => absurd e (by omega))
        obtain ⟨m', c1, c2, c3, c4, c5⟩ := lv_ok (kc := kc) b1 (i := i) (by rw [cnt_pw]; exact hi)
        refine ⟨m', fun Φ h => ?_, c2, FrC.trans (FrC.rfl.pwF _ _) c3, (Kp.rfl.pwK _ _).trans c4, fun M hM Φ h => r_269 (d := 3) (by omega) ?_⟩
        · unfold w_53
          refine ⟨fun q => absurd q nn, fun _ => ⟨fun _ => c_90 hk (d := 3) (by omega) ⟨fun q => absurd q a3, fun _ => c_12 (hc Φ ?_)⟩, fun q => absurd n3 q⟩⟩
          unfold w_53_89
          exact b2 _ (c1 _ h)
        · unfold w_301
          refine ⟨fun q => absurd q nn, fun _ => ⟨fun _ => ⟨fun q => absurd q a3, fun _ => hr M Φ hM ?_⟩, fun q => absurd n3 q⟩⟩
          unfold w_301_81
          exact (b3 M hM).2 _ (c5 _ (b3 M hM).1 _ (fun M' r f => h M' r (FrM.trans (FrM.rfl.pwF _ _) f)))
      by_cases a1 : c = 1
      · exact mk (gw m (m (14 + 5 * i + 4) 3 + nI 16) ||| it_shl 1 (nI n)) (fun Φ h => ⟨fun _ => h, fun q => absurd a1 q⟩) (fun M Φ hM h => ⟨fun _ => r_220g hI hM hi (by omega) hg (by omega) (by omega) h, fun q => absurd a1 q⟩)
      · exact mk (gw m (m (14 + 5 * i + 4) 3 + nI 16) &&& (it_shl 1 (nI n) ^^^ (-1 : Int32))) (fun Φ h => ⟨fun q => absurd q a1, fun _ => h⟩) (fun M Φ hM h => ⟨fun q => absurd q a1, fun _ => r_220g hI hM hi (by omega) hg (by omega) (by omega) h⟩)
  · have nv : ¬ (¬ v < 0 ∧ v ≤ 3) := fun q => by
      have q1 := q.1
      have q2 := q.2
      rw [Int32.lt_iff_toInt_lt] at q1
      rw [Int32.le_iff_toInt_le] at q2
      simp only [Int32.reduceToInt] at q1 q2
      exact hv ⟨by omega, by omega⟩
    obtain ⟨m', c1, c2, c3, c4, c5⟩ := lv_fail (kc := kc) hI hi 6
    refine ⟨m', fun Φ h => ?_, c2, c3, c4, fun M hM Φ h => r_269 (d := 3) (by omega) ?_⟩
    · unfold w_53 w_53_9
      exact ⟨fun _ => c1 _ h, fun q => ⟨fun q2 => absurd ⟨q, q2⟩ nv, fun _ => c1 _ h⟩⟩
    · unfold w_301 w_301_11
      exact ⟨fun _ => c5 M hM _ h, fun q => ⟨fun q2 => absurd ⟨q, q2⟩ nv, fun _ => c5 M hM _ h⟩⟩
