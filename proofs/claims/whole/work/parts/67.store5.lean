/-! The store: a record put. -/
noncomputable def vwF (m : it_Me) (a n : Int32) : Nat → Nat → Int32 → Int32
  | 0, _, c => c
  | r + 1, k, c => vwF m a n r (k + 1) (if (k : Int) < n.toInt then c ||| it_shl (gb m (a + nI k)) (nI (8 * k)) else c)
theorem vwF_e (m : it_Me) (a n : Int32) : ∀ (r k : Nat) (c : Int32), n.toInt ≤ (k : Int) → vwF m a n r k c = c := by
  intro r
  induction r with
  | zero => intro k c _; rfl
  | succ r ih =>
    intro k c h
    simp only [vwF]
    rw [if_neg (by omega)]
    exact ih (k + 1) c (by omega)
theorem sh3 : ∀ k, k < 4 → it_shl (nI k) 3 = nI (8 * k) := by decide +kernel
theorem nL4 {k : Nat} (hk : k < 2147483648) : (4 : Int32) ≤ nI k ↔ 4 ≤ k := nLe (a := 4) (by omega) hk
theorem leN (n : Int32) {k : Nat} (hk : k < 2147483648) : n ≤ nI k ↔ n.toInt ≤ (k : Int) := by rw [Int32.le_iff_toInt_le, nI_toInt (by omega)]
theorem c_161L {kc : it_Kc} {m : it_Me} {a n : Int32} {Φ : Int32 → it_Me → Prop} {K : Int32 → it_Me → Prop} : ∀ (r k : Nat) (c : Int32), k + r = 4 → K (vwF m a n r k c) m → w_161_5 kc Φ K (r + 1) a n c (nI k) m := by
  intro r
  induction r with
  | zero =>
    intro k c hk h
    unfold w_161_5
    rw [nL4 (by omega)]
    exact ⟨fun _ => h, fun q => absurd (by omega) q⟩
  | succ r ih =>
    intro k c hk h
    unfold w_161_5
    rw [nL4 (by omega), leN n (by omega), sh3 k (by omega), nI_1]
    simp only [vwF] at h
    refine ⟨fun q => absurd q (by omega), fun _ => ⟨fun q => ?_, fun q => c_16 (ih (k + 1) _ (by omega) ?_)⟩⟩
    · rw [if_neg (by omega), vwF_e _ _ _ _ _ _ (by omega)] at h
      exact h
    · rw [if_pos (by omega)] at h
      exact h
theorem c_161 {kc : it_Kc} {m : it_Me} {a n : Int32} {Φ : Int32 → it_Me → Prop} (h : Φ (vwF m a n 4 0 0) m) : w_161 kc a n m Φ := by
  unfold w_161 w_161_42
  exact ⟨_, c_161L 4 0 0 rfl h⟩
theorem r_242i {kc : it_Kc} {m M : it_Me} (hR : Rel m M) {a : Int32} {L w : Nat} (hL : L ≤ 32) (hw : 4 * w ≤ 32) (hs : ∀ x, x < L → InM (a + nI x) ∧ ¬ excl m (wi (a + nI x))) {v5 v7 v8 : Int32} {Φ : Int32 → it_Me → Prop} {K : Int32 → Int32 → Int32 → Int32 → Int32 → Int32 → Int32 → it_Me → Prop} : ∀ (r k : Nat) (c : Int32), k + r = 4 → K (nI L) a v5 v7 v8 (nI w) (vwF m (a + nI (4 * w)) (nI L - nI (4 * w)) r k c) M → w_242_157 kc Φ K (r + 1) (nI L) a v5 v7 v8 (nI w) c (nI k) M := by
  have e4 : (4 : Int32) * nI w = nI (4 * w) := nI_mul 4 w
  have eN : (nI L - nI (4 * w)).toInt = (L : Int) - (4 * w : Nat) := by
    have a1 := nI_toInt (n := L) (by omega)
    have a2 := nI_toInt (n := 4 * w) (by omega)
    rw [sub_I (by omega) (by omega), a1, a2]
  intro r
  induction r with
  | zero =>
    intro k c hk h
    unfold w_242_157
    rw [nL4 (by omega)]
    exact ⟨fun _ => h, fun q => absurd (by omega) q⟩
  | succ r ih =>
    intro k c hk h
    unfold w_242_157 w_242_200
    rw [nL4 (by omega), e4, nI_add, nLe (by omega) (by omega), nI_1, nI8]
    simp only [vwF] at h
    refine ⟨fun q => absurd q (by omega), fun _ => ⟨fun q => ?_, fun q => ?_⟩⟩
    · rw [if_neg (by omega)] at h
      rw [Int32.or_zero]
      exact ih (k + 1) _ (by omega) h
    · rw [if_pos (by omega)] at h
      have ex : a + nI (4 * w) + nI k = a + nI (4 * w + k) := by rw [Int32.add_assoc, nI_add]
      have hx := hs (4 * w + k) (by omega)
      rw [ex] at h ⊢
      exact r_218 hR hx.1 hx.2 (ih (k + 1) _ (by omega) h)
theorem exK {m m' : it_Me} {lo hi : Nat} (h : Kst m m' lo hi) (w : Nat) : excl m' w ↔ excl m w := excl_ctl (by rw [h.1 9 (by omega) (by omega) (by omega)]) (fun j _ => ctl_cg (by
  by_cases e : 14 + 5 * j = 2 ∨ 14 + 5 * j = 5 ∨ 14 + 5 * j = 7
  · omega
  · exact h.1 _ (by omega) (by omega) (by omega))) w
/-- the words of a value -/
theorem pv {kc : it_Kc} {B : Nat} {a : Int32} {A L W s : Nat} (hs : s = 16 + 4 * W) (hA : 126976 ≤ A ∧ A + s ≤ 131072 ∧ A % 4 = 0) (hL : L ≤ 32) (hW : W ≤ 8) : ∀ (r w : Nat) (c : Int32) (m : it_Me), w + r = W → Inv B m → (∀ x, x < L → InM (a + nI x) ∧ ¬ excl m (wi (a + nI x))) → ∃ c' m', (∀ (Φ : Int32 → it_Me → Prop) (K : Int32 → Int32 → Int32 → it_Me → Prop), K (nI s) (nI A) c' m' → w_160_108 kc Φ K (r + 1) (nI L) a (nI s) (nI A) c (nI (4 * w)) m) ∧ Inv B m' ∧ Kst m m' 126976 131072 ∧ ∀ M, Rel m M → ∀ (Φ : Int32 → it_Me → Prop) (K : Int32 → Int32 → Int32 → it_Me → Prop), (∀ M', Rel m' M' → FrM M M' → K (nI W) (nI A) c' M') → w_242_144 kc Φ K (r + 1) (nI L) a (nI W) (nI A) c (nI w) M := by
  have e16 : nI s - 16 = nI (4 * W) := by
    rw [show (16 : Int32) = nI 16 from rfl, nSub (by omega)]
    congr 1
    omega
  intro r
  induction r with
  | zero =>
    intro w c m hw hI hx
    refine ⟨c, m, fun Φ K h => ?_, hI, kst_0 _ _ _, fun M hM Φ K h => ?_⟩
    · unfold w_160_108
      rw [e16, nLe (by omega) (by omega)]
      exact ⟨fun _ => h, fun q => absurd (by omega) q⟩
    · unfold w_242_144
      rw [nLe (by omega) (by omega)]
      exact ⟨fun _ => h M hM FrM.rfl, fun q => absurd (by omega) q⟩
  | succ r ih =>
    intro w c m hw hI hx
    obtain ⟨m1, a1, a2, a3, a4⟩ := pt (kc := kc) hI (A := A + 12 + 4 * w) (by omega) (by omega) (vwF m (a + nI (4 * w)) (nI L - nI (4 * w)) 4 0 0)
    obtain ⟨c', m', b1, b2, b3, b4⟩ := ih (w + 1) (c ^^^ vwF m (a + nI (4 * w)) (nI L - nI (4 * w)) 4 0 0) m1 (by omega) a2 (fun x h => ⟨(hx x h).1, fun q => (hx x h).2 ((exK a3 _).1 q)⟩)
    refine ⟨c', m', fun Φ K h => ?_, b2, kst_t (kst_m a3 (by omega) (by omega)) b3, fun M hM Φ K h => ?_⟩
    · unfold w_160_108
      rw [e16, nLe (by omega) (by omega), n_12, nI_add, n_4]
      exact ⟨fun q => absurd q (by omega), fun _ => c_161 (a1 _ (b1 Φ K h))⟩
    · unfold w_242_144
      rw [nLe (by omega) (by omega)]
      refine ⟨fun q => absurd q (by omega), fun _ => ⟨_, r_242i hM hL (by omega) hx 4 0 0 rfl ?_⟩⟩
      unfold w_242_209
      rw [show (4 : Int32) * nI w = nI (4 * w) from nI_mul 4 w, n_12, nI_add, nI_1]
      exact a4 M hM _ (fun M1 r1 f1 => b4 M1 r1 Φ K (fun M' r f => h M' r (f1.trans f)))
theorem BkF.cg {m m' : it_Me} {b : Nat} (e : m' 7 2 = m 7 2) (F : BkF m b) : BkF m' b := by
  unfold BkF
  rw [e]
  exact F
/-- the record's words, from its number to its check -/
theorem pbd {kc : it_Kc} {B : Nat} {m : it_Me} (hI : Inv B m) {x y len a : Int32} {A L W s : Nat} (h7 : m 7 7 = nI A) (hs : s = 16 + 4 * W) (hA : 126976 ≤ A ∧ A + s ≤ 131072 ∧ A % 4 = 0) (hL : L ≤ 32) (hW : W ≤ 8) (hlen : W = 0 ∨ len = nI L) (hx : ∀ x, x < L → InM (a + nI x) ∧ ¬ excl m (wi (a + nI x))) : ∃ m', (∀ Φ : Int32 → it_Me → Prop, Φ 1 m' → w_160_63 kc Φ x y len a (nI s) m) ∧ Inv B m' ∧ Kst m m' 126976 131072 ∧ ∀ M, Rel m M → ∀ Φ : Int32 → it_Me → Prop, (∀ M', Rel m' M' → FrM M M' → Φ (if m' 7 4 = 0 then 1 else 0) M') → w_231 kc (nI A) x M (fun m5 => w_231 kc (nI A + 4) y m5 (fun m6 => w_231 kc (nI A + 8) len m6 (fun m7 => ∃ e, w_242_144 kc Φ (fun v5 v7 v8 m => w_242_238 kc Φ v5 v7 v8 m) e len a (nI W) (nI A) ((((1515870810 : Int32) ^^^ x) ^^^ y) ^^^ len) 0 m7))) := by
  have ec : (((1515870810 : Int32) ^^^ x) ^^^ y) ^^^ len = ((x ^^^ y) ^^^ len) ^^^ 1515870810 := by
    rw [Int32.xor_comm 1515870810 x, Int32.xor_assoc x 1515870810 y, Int32.xor_comm 1515870810 y, ← Int32.xor_assoc x y 1515870810, Int32.xor_assoc (x ^^^ y) 1515870810 len, Int32.xor_comm 1515870810 len, ← Int32.xor_assoc (x ^^^ y) len 1515870810]
  obtain ⟨m1, a1, a2, a3, a4⟩ := pt (kc := kc) hI (A := A) (by omega) (by omega) x
  obtain ⟨m2, b1, b2, b3, b4⟩ := pt (kc := kc) a2 (A := A + 4) (by omega) (by omega) y
  obtain ⟨m3, c1, c2, c3, c4⟩ := pt (kc := kc) b2 (A := A + 8) (by omega) (by omega) len
  have k3 : Kst m m3 126976 131072 := kst_t (kst_t (kst_m a3 (by omega) (by omega)) (kst_m b3 (by omega) (by omega))) (kst_m c3 (by omega) (by omega))
  have main : ∃ c' m4, (∀ (Φ : Int32 → it_Me → Prop) (K : Int32 → Int32 → Int32 → it_Me → Prop), K (nI s) (nI A) c' m4 → w_160_108 kc Φ K (W + 1) len a (nI s) (nI A) (((x ^^^ y) ^^^ len) ^^^ 1515870810) 0 m3) ∧ Inv B m4 ∧ Kst m3 m4 126976 131072 ∧ ∀ M, Rel m3 M → ∀ (Φ : Int32 → it_Me → Prop) (K : Int32 → Int32 → Int32 → it_Me → Prop), (∀ M', Rel m4 M' → FrM M M' → K (nI W) (nI A) c' M') → w_242_144 kc Φ K (W + 1) len a (nI W) (nI A) (((x ^^^ y) ^^^ len) ^^^ 1515870810) 0 M := by
    rcases hlen with e | e
    · subst e
      refine ⟨((x ^^^ y) ^^^ len) ^^^ 1515870810, m3, fun Φ K h => ?_, c2, kst_0 _ _ _, fun M hM Φ K h => ?_⟩
      · unfold w_160_108
        subst hs
        exact ⟨fun _ => h, fun q => absurd (by decide) q⟩
      · unfold w_242_144
        exact ⟨fun _ => h M hM FrM.rfl, fun q => absurd (by decide) q⟩
    · subst e
      exact pv (kc := kc) hs hA hL hW W 0 _ m3 (by omega) c2 (fun z hz => ⟨(hx z hz).1, fun q => (hx z hz).2 ((exK k3 _).1 q)⟩)
  obtain ⟨c', m4, d1, d2, d3, d4⟩ := main
  obtain ⟨m', e1, e2, e3, e4⟩ := pt (kc := kc) d2 (A := A + s - 4) (by omega) (by omega) (fx c')
  refine ⟨m', fun Φ h => ?_, e2, kst_t (kst_t k3 d3) (kst_m e3 (by omega) (by omega)), fun M hM Φ h => ?_⟩
  · unfold w_160_63
    rw [h7, n_4, n_8]
    refine a1 _ (b1 _ (c1 _ ⟨_, d1 _ _ ?_⟩))
    have fin := e1 (fun m1 => Φ 1 m1) h
    unfold w_160_160 w_160_180
    rw [nI_add, nS4 (by omega)]
    refine ⟨fun q => ?_, fun q => ?_⟩
    · rw [fx, if_pos q] at fin
      exact fin
    · rw [fx, if_neg q] at fin
      exact fin
  · rw [n_4, n_8, ec]
    refine a4 M hM _ (fun M1 r1 f1 => b4 M1 r1 _ (fun M2 r2 f2 => c4 M2 r2 _ (fun M3 r3 f3 => ⟨_, d4 M3 r3 _ _ (fun M4 r4 f4 => ?_)⟩)))
    have fin : w_242_261 kc Φ (nI (A + s - 4)) (fx c') M4 := by
      unfold w_242_261 w_242_276
      refine e4 M4 r4 _ (fun M' r f => ?_)
      have hh := h M' r ((((f1.trans f2).trans f3).trans f4).trans f)
      rw [r.lost]
      refine ⟨fun q => ?_, fun q => ?_⟩
      · rw [if_pos q] at hh
        exact ⟨Or.inr rfl, hh⟩
      · rw [if_neg q] at hh
        exact ⟨Or.inl rfl, hh⟩
    have eA : nI A + 12 + 4 * nI W = nI (A + s - 4) := by
      rw [show (4 : Int32) * nI W = nI (4 * W) from nI_mul 4 W, n_12, nI_add]
      congr 1
      omega
    unfold w_242_238
    rw [eA]
    refine ⟨fun q => ?_, fun q => ?_⟩
    · rw [fx, if_pos q] at fin
      exact fin
    · rw [fx, if_neg q] at fin
      exact fin
theorem sz_d : ∀ k, k < 33 → (nI k + 3) / 4 = nI ((k + 3) / 4) := by decide +kernel
theorem Sc.F {m m' : it_Me} {A b : Nat} {ss : List Nat} (h : Sc m m' A ss) (F : BkF m b) : BkF m' b := BkF.cg (h.2.2.2.2 2 (by omega) (by omega)) F
/-- put, putRecord -/
theorem pu {kc : it_Kc} {B : Nat} {m : it_Me} (hI : Inv B m) (hb0 : m 7 2 ≠ 0) {x y len a : Int32} {L : Nat} (hL : L ≤ 32) (hlen : len = 255 ∧ L = 0 ∨ len = nI L) (hx : ∀ x, x < L → InM (a + nI x) ∧ ¬ excl m (wi (a + nI x))) : ∃ r m', (∀ Φ : Int32 → it_Me → Prop, Φ r m' → w_160 kc x y len a m Φ) ∧ Inv B m' ∧ (∀ c, c ≠ 2 → c ≠ 5 → c ≠ 7 → c ≠ 8 → m' c = m c) ∧ ∀ M, Rel m M → ∀ Φ : Int32 → it_Me → Prop, (∀ r' M', (m' 7 4 = 0 → r' = r) → Rel m' M' → FrM M M' → Φ r' M') → w_242 kc x y len a M Φ := by
  by_cases hx1 : x = -1
  · refine ⟨0, m, fun Φ h => ?_, hI, fun _ _ _ _ _ => rfl, fun M hM Φ h => ?_⟩
    · unfold w_160
      exact ⟨fun _ => h, fun q => absurd hx1 q⟩
    · have fin := h 0 M (fun _ => rfl) hM FrM.rfl
      unfold w_242 w_242_16
      exact ⟨fun _ => ⟨fun _ => fin, fun q => absurd hx1 q⟩, fun _ => ⟨by decide, fun _ => fin, fun q => absurd hx1 q⟩⟩
  have hok : okN len := by
    rcases hlen with e | e
    · exact Or.inl e.1
    · rw [e]
      exact Or.inr (by rw [nI_toInt (by omega)]; omega)
  have hW : ∃ W, W ≤ 8 ∧ szR len = 16 + 4 * W ∧ (W = 0 ∨ len = nI L) ∧ ∀ (M : it_Me) (Φ : Int32 → it_Me → Prop), w_242_16 kc Φ x y len a (nI W) M → w_242 kc x y len a M Φ := by
    rcases hlen with ⟨e, _⟩ | e
    · refine ⟨0, by omega, by rw [e]; rfl, Or.inl rfl, fun M Φ h => ?_⟩
      unfold w_242
      exact ⟨fun _ => h, fun q => absurd e q⟩
    · refine ⟨(L + 3) / 4, by omega, by rw [e, szK (by omega)]; omega, Or.inr e, fun M Φ h => ?_⟩
      unfold w_242
      refine ⟨fun q => ?_, fun _ => ⟨by decide, ?_⟩⟩
      · rw [e] at q
        exact absurd q (n255 (by omega))
      · rw [e, sz_d L (by omega)]
        rw [e] at h
        exact h
  obtain ⟨W, hW8, hsz, hWl, refW⟩ := hW
  have eW : (16 : Int32) + 4 * nI W = nI (16 + 4 * W) := by rw [show (4 : Int32) * nI W = nI (4 * W) from nI_mul 4 W, show (16 : Int32) = nI 16 from rfl, nI_add]
  obtain ⟨b, F⟩ := bkF hI hb0
  have hB := bkR F.bb
  obtain ⟨ss, w1, w2⟩ := Wk_ex m b 2048 (b + 4) (by omega) (by omega)
  obtain ⟨m1, s1, s2⟩ := c_163 (kc := kc) F.h2 (by omega) w1 (by omega)
  have I1 := s2.I hI
  have hE := Wk_end (b := b) (by omega) ss (b + 4) w1 (by omega) (by omega)
  have e72 : m1 7 2 = nI b := by rw [s2.2.2.2.2 2 (by omega) (by omega)]; exact F.h2
  have ex1 : ∀ w, excl m1 w ↔ excl m w := excl_ctl (by rw [s2.2.2.2.1 9 (by omega) (by omega)]) (fun j _ => ctl_cg (s2.2.2.2.1 _ (by omega) (by omega)))
  by_cases fit : wEnd (b + 4) ss + (16 + 4 * W) ≤ b + 2048
  · obtain ⟨m', a1, a2, a3, a4⟩ := pbd (kc := kc) I1 (x := x) (y := y) (len := len) (a := a) (L := L) (W := W) s2.1 rfl (by omega) hL hW8 hWl (fun z hz => ⟨(hx z hz).1, fun q => (hx z hz).2 ((ex1 _).1 q)⟩)
    refine ⟨1, m', fun Φ h => ?_, a2, fun c c1 c2 c3 c4 => by rw [a3.1 c c1 c2 c3, s2.2.2.2.1 c c3 c4], fun M hM Φ h => refW M Φ ?_⟩
    · unfold w_160
      refine ⟨fun q => absurd q hx1, fun _ => c_162 hok (s1 _ ?_)⟩
      rw [hsz, e72, s2.1, n_2048, nSub (by omega), nLe (by omega) (by omega)]
      exact ⟨fun _ => a1 Φ h, fun q => absurd (by omega) q⟩
    · unfold w_242_16
      rw [hM.bank, eW]
      refine ⟨fun q => absurd q hx1, fun _ => r_236 hI hM F.eb hB w1 ?_⟩
      rw [hM.bank]
      refine r_233 ?_
      rw [F.eb, nI_add, n_2048, nLe (by omega) (by omega)]
      refine ⟨fun _ => ?_, fun q => absurd fit q⟩
      unfold w_242_73
      rw [hM.bank]
      refine r_236 hI hM F.eb hB w1 ?_
      rw [hM.bank]
      refine r_233 ?_
      rw [F.eb, nI_add, n_2048, nLe (by omega) (by omega)]
      exact ⟨fun _ => a4 M (s2.R hI hM) Φ (fun M' r f => h _ M' (fun q => if_pos q) r f), fun q => absurd fit q⟩
  · have W1 := Wk_c2 (s2.2.2.2.1 2 (by omega) (by omega)) b ss _ w1
    obtain ⟨m2, c1, c2, c3, c4, c5⟩ := cm (kc := kc) I1 (s2.F F) W1 s2.2.1 s2.2.2.1 (by omega)
    have hb2 : m2 7 2 ≠ 0 := by
      rcases c4 with e | e
      · rw [e]; rcases F.bb with e | e <;> rw [e] <;> decide
      · rw [e]; rcases F.bb with e | e <;> rw [e] <;> decide
    obtain ⟨b2, F2⟩ := bkF c2 hb2
    have hB2 := bkR F2.bb
    obtain ⟨ss2, x1, x2⟩ := Wk_ex m2 b2 2048 (b2 + 4) (by omega) (by omega)
    obtain ⟨m3, t1, t2⟩ := c_163 (kc := kc) F2.h2 (by omega) x1 (by omega)
    have I3 := t2.I c2
    have hE2 := Wk_end (b := b2) (by omega) ss2 (b2 + 4) x1 (by omega) (by omega)
    have e73 : m3 7 2 = nI b2 := by rw [t2.2.2.2.2 2 (by omega) (by omega)]; exact F2.h2
    have e74 : m3 7 4 = m2 7 4 := t2.2.2.2.2 4 (by omega) (by omega)
    have ex3 : ∀ w, excl m3 w ↔ excl m w := fun w => (excl_ctl (by rw [t2.2.2.2.1 9 (by omega) (by omega), c3 9 (by omega) (by omega) (by omega)]) (fun j _ => ctl_cg ((t2.2.2.2.1 _ (by omega) (by omega)).trans (c3 _ (by omega) (by omega) (by omega)))) w).trans (ex1 w)
    have cl3 : ∀ c, c ≠ 2 → c ≠ 5 → c ≠ 7 → c ≠ 8 → m3 c = m c := fun c q1 q2 q3 q4 => by rw [t2.2.2.2.1 c q3 q4, c3 c q1 q2 q3, s2.2.2.2.1 c q3 q4]
    have cls : ∀ Φ : Int32 → it_Me → Prop, (wEnd (b2 + 4) ss2 + (16 + 4 * W) ≤ b2 + 2048 → w_160_63 kc Φ x y len a (nI (16 + 4 * W)) m3) → (¬ wEnd (b2 + 4) ss2 + (16 + 4 * W) ≤ b2 + 2048 → Φ 0 m3) → w_160 kc x y len a m Φ := fun Φ h1 h2 => by
      unfold w_160
      refine ⟨fun q => absurd q hx1, fun _ => c_162 hok (s1 _ ?_)⟩
      rw [hsz, e72, s2.1, n_2048, nSub (by omega), nLe (by omega) (by omega)]
      refine ⟨fun q => absurd (by omega) fit, fun _ => c1 _ (t1 _ ?_)⟩
      rw [e73, t2.1, n_2048, nSub (by omega), nLe (by omega) (by omega)]
      exact ⟨fun q => h1 (by omega), fun q => h2 (by omega)⟩
    have ref : ∀ M, Rel m M → ∀ Φ : Int32 → it_Me → Prop, (∀ M2, Rel m2 M2 → FrM M M2 → (m2 7 4 = 0 → w_242_73 kc Φ x y len a (nI W) (nI (16 + 4 * W)) M2) ∧ (¬ m2 7 4 = 0 → Φ 0 M2)) → w_242 kc x y len a M Φ := fun M hM Φ h => refW M Φ (by
      unfold w_242_16
      rw [hM.bank, eW]
      refine ⟨fun q => absurd q hx1, fun _ => r_236 hI hM F.eb hB w1 ?_⟩
      rw [hM.bank]
      refine r_233 ?_
      rw [F.eb, nI_add, n_2048, nLe (by omega) (by omega)]
      refine ⟨fun q => absurd q fit, fun _ => c5 M (s2.R hI hM) _ (fun M2 r2 f2 => ?_)⟩
      have hh := h M2 r2 f2
      rw [r2.lost]
      exact hh)
    by_cases fit2 : wEnd (b2 + 4) ss2 + (16 + 4 * W) ≤ b2 + 2048
    · obtain ⟨m', a1, a2, a3, a4⟩ := pbd (kc := kc) I3 (x := x) (y := y) (len := len) (a := a) (L := L) (W := W) t2.1 rfl (by omega) hL hW8 hWl (fun z hz => ⟨(hx z hz).1, fun q => (hx z hz).2 ((ex3 _).1 q)⟩)
      refine ⟨1, m', fun Φ h => cls Φ (fun _ => a1 Φ h) (fun q => absurd fit2 q), a2, fun c q1 q2 q3 q4 => by rw [a3.1 c q1 q2 q3]; exact cl3 c q1 q2 q3 q4, fun M hM Φ h => ref M hM Φ (fun M2 r2 f2 => ⟨fun q => ?_, fun q => ?_⟩)⟩
      · unfold w_242_73
        rw [r2.bank]
        refine r_236 c2 r2 F2.eb hB2 x1 ?_
        rw [r2.bank]
        refine r_233 ?_
        rw [F2.eb, nI_add, n_2048, nLe (by omega) (by omega)]
        exact ⟨fun _ => a4 M2 (t2.R c2 r2) Φ (fun M' r f => h _ M' (fun q => if_pos q) r (f2.trans f)), fun q => absurd fit2 q⟩
      · have e3 : m' = m3 := a3.2.2.2 (by rw [e74]; exact q)
        refine h 0 M2 (fun y => ?_) (by rw [e3]; exact t2.R c2 r2) f2
        rw [e3, e74] at y
        exact absurd y q
    · refine ⟨0, m3, fun Φ h => cls Φ (fun q => absurd q fit2) (fun _ => h), I3, cl3, fun M hM Φ h => ref M hM Φ (fun M2 r2 f2 => ?_)⟩
      have fin := h 0 M2 (fun _ => rfl) (t2.R c2 r2) f2
      refine ⟨fun q => ?_, fun q => fin⟩
      unfold w_242_73
      rw [r2.bank]
      refine r_236 c2 r2 F2.eb hB2 x1 ?_
      rw [r2.bank]
      refine r_233 ?_
      rw [F2.eb, nI_add, n_2048, nLe (by omega) (by omega)]
      exact ⟨fun q => absurd q fit2, fun _ => fin⟩
