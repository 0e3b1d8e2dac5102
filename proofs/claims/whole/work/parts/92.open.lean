/-! The store is opened. -/
def cln (m : it_Me) (b E : Nat) : Prop := ∀ X, E ≤ X → X < b + 2048 → X % 4 = 0 → gw m (nI X) = -1
theorem c_165 {kc : it_Kc} {m : it_Me} {b E : Nat} (hb : m 7 2 = nI b) (hE : m 7 7 = nI E) (hB : 126976 ≤ b ∧ b + 2048 ≤ 131072 ∧ b % 4 = 0) (hE2 : E ≤ b + 2048 ∧ E % 4 = 0) {Φ : Int32 → it_Me → Prop} (h : Φ (bI (cln m b E)) m) : w_165 kc m Φ := by
  have lp : ∀ d X, X + 4 * d = b + 2048 → E ≤ X → (∀ Y, E ≤ Y → Y < X → Y % 4 = 0 → gw m (nI Y) = -1) → w_165_5 kc Φ (fun m => w_165_29 kc Φ m) (fun m => w_165_37 kc Φ m) (d + 1) (nI X) m := by
    intro d
    induction d with
    | zero =>
      intro X hX hEX hno
      unfold w_165_5
      rw [hb, n_2048]
      refine ⟨fun _ => ?_, fun q => absurd ((nLe (by omega) (by omega)).2 (by omega)) q⟩
      unfold w_165_37
      rw [bI_t (show cln m b E from fun Y h1 h2 h3 => hno Y h1 (by omega) h3)] at h
      exact h
    | succ d ih =>
      intro X hX hEX hno
      unfold w_165_5
      rw [hb, n_2048]
      refine ⟨fun q => absurd ((nLe (by omega) (by omega)).1 q) (by omega), fun _ => c_12 ⟨fun e => ?_, fun e => ?_⟩⟩
      · rw [n_4]
        refine ih (X + 4) (by omega) (by omega) (fun Y h1 h2 h3 => ?_)
        by_cases q : Y < X
        · exact hno Y h1 q h3
        · have : Y = X := by omega
          rw [this]; exact e
      · unfold w_165_29
        rw [bI_f (fun q : cln m b E => e (q X hEX (by omega) (by omega)))] at h
        exact h
  unfold w_165
  rw [hE]
  exact ⟨(b + 2048 - E) / 4 + 1, lp _ E (by omega) (Nat.le_refl _) (fun Y h1 h2 => absurd h2 (by omega))⟩
theorem r_237 {kc : it_Kc} {B : Nat} {m M : it_Me} (hI : Inv B m) (hR : Rel m M) {b E : Nat} {bk : Int32} (hb : 126976 + 2048 * bk = nI b) (hB : 126976 ≤ b ∧ b + 2048 ≤ 131072 ∧ b % 4 = 0) {ss : List Nat} (hW : Wk m b (b + 4) ss) (eE : wEnd (b + 4) ss = E) {Φ : Int32 → it_Me → Prop} (h : Φ (bI (cln m b E)) M) : w_237 kc bk M Φ := by
  have we := Wk_end hB.2.2 ss (b + 4) hW (by omega) (by omega)
  rw [eE] at we
  have byt : ∀ X j, E ≤ X → X < b + 2048 → X % 4 = 0 → j < 4 → M 67 (X + j) = sb8 (gw m (nI X)) j := fun X j h1 h2 h3 hj => by
    have w := wiF (A := X) (by omega)
    have := hR.mem (wi (nI X)) (by omega) (nxF hI (by omega)) j hj
    rw [gw_in (inF (by omega)), ← this, w]
    congr 1
    omega
  have lp : ∀ d Z, Z + d = b + 2048 → E ≤ Z → (∀ Y, E ≤ Y → Y < Z → M 67 Y = -1) → w_237_6 kc Φ (fun m => w_237_29 kc Φ m) (fun m => w_237_37 kc Φ m) (d + 1) bk (nI Z) M := by
    intro d
    induction d with
    | zero =>
      intro Z hZ hEZ hno
      unfold w_237_6
      refine r_233 ?_
      rw [hb, n_2048]
      refine ⟨fun _ => ?_, fun q => absurd ((nLe (by omega) (by omega)).2 (by omega)) q⟩
      unfold w_237_37
      rw [bI_t (show cln m b E from fun X h1 h2 h3 => (sw_m1 _).2 (fun j hj => by rw [← byt X j h1 h2 h3 hj]; exact hno (X + j) (by omega) (by omega)))] at h
      exact h
    | succ d ih =>
      intro Z hZ hEZ hno
      unfold w_237_6
      refine r_233 ?_
      rw [hb, n_2048, nI_clamp (by omega)]
      refine ⟨fun q => absurd ((nLe (by omega) (by omega)).1 q) (by omega), fun _ => ⟨by rw [vp_in_iff, nI_toInt (by omega)]; omega, fun e => ?_, fun e => ?_⟩⟩
      · rw [nI_s1]
        refine ih (Z + 1) (by omega) (by omega) (fun Y h1 h2 => ?_)
        by_cases q : Y < Z
        · exact hno Y h1 q
        · have : Y = Z := by omega
          rw [this]; exact e
      · unfold w_237_29
        rw [bI_f (fun q : cln m b E => e (by
          have g := q (Z / 4 * 4) (by omega) (by omega) (by omega)
          have k := byt (Z / 4 * 4) (Z % 4) (by omega) (by omega) (by omega) (by omega)
          rw [show Z / 4 * 4 + Z % 4 = Z by omega, g] at k
          rw [k]
          exact sbm1 (by omega)))] at h
        exact h
  unfold w_237
  refine r_236 hI hR hb hB hW ?_
  rw [eE]
  exact ⟨(b + 2048 - E) + 1, lp _ E (by omega) (Nat.le_refl _) (fun Y h1 h2 => absurd h2 (by omega))⟩
theorem hi16 (x : Int32) : x &&& (-65536) = it_shl (it_us x 16) 16 := b_ext (fun i hi => by
  rw [bl_16 _ hi, b_and, bu_16]
  by_cases h : 16 ≤ i
  · rw [show 16 + (i - 16) = i by omega, (by decide +kernel : ∀ i, i < 32 → bt (-65536) i = decide (16 ≤ i)) i hi, decide_eq_true h, Bool.true_and, Bool.and_true]
  · rw [(by decide +kernel : ∀ i, i < 32 → bt (-65536) i = decide (16 ≤ i)) i hi, decide_eq_false h, Bool.false_and, Bool.and_false])
theorem us16s (x : Int32) : it_us (it_shl (it_us x 16) 16) 16 = it_us x 16 := b_ext (fun i hi => by
  rw [bu_16]
  by_cases h : i < 16
  · rw [bl_16 _ (by omega), bu_16, decide_eq_true (by omega), Bool.true_and, show 16 + (16 + i - 16) = 16 + i by omega, bu_16]
  · rw [bu_16, b_ge _ (by omega), b_ge _ (by omega)])
theorem vld (x : Int32) : x &&& (-65536) = 1263927296 ↔ it_us x 16 = 19286 := by
  rw [hi16]
  constructor
  · intro h
    rw [← us16s, h]
    decide
  · intro h
    rw [h]
    decide
theorem r_234 {kc : it_Kc} {B : Nat} {m M : it_Me} (hI : Inv B m) (hR : Rel m M) {b : Nat} {bk : Int32} (hb : 126976 + 2048 * bk = nI b) (hB : b = 126976 ∨ b = 129024) {Φ : Int32 → it_Me → Prop} (h : Φ (bI (gw m (nI b) &&& (-65536) = 1263927296)) M) : w_234 kc bk M Φ := by
  unfold w_234 w_234_23
  refine r_233 ?_
  rw [hb]
  refine rS hI hR (by omega) (by omega) ⟨fun q => ⟨Or.inr rfl, ?_⟩, fun q => ⟨Or.inl rfl, ?_⟩⟩
  · rw [bI_t ((vld _).2 q)] at h; exact h
  · rw [bI_f (fun y => q ((vld _).1 y))] at h; exact h
/-- the bank is known: the store is scanned, and compacted if it isn't clean -/
theorem opB {kc : it_Kc} {B : Nat} {m : it_Me} (hI : Inv B m) {b : Nat} (hb : b = 126976 ∨ b = 129024) {bk : Int32} (eb : (bk = 0 ∧ b = 126976) ∨ (bk = 1 ∧ b = 129024)) : ∃ m', (∀ Φ : it_Me → Prop, Φ m' → w_157_139 kc Φ (it_sv m 7 2 (nI b))) ∧ Inv B m' ∧ (∀ k, k ≠ 2 → k ≠ 5 → k ≠ 7 → k ≠ 8 → m' k = m k) ∧ m' 7 2 ≠ 0 ∧ ∀ M, Rel m M → ∀ Φ : it_Me → Prop, (∀ M', Rel m' M' → FrM M M' → Φ M') → w_241_103 kc Φ bk M := by
  have h8 := cnt_le hI
  have eB : bkI (nI b) = bk := by rcases eb with ⟨rfl, rfl⟩ | ⟨rfl, rfl⟩ <;> decide
  have e2 : (126976 : Int32) + 2048 * bk = nI b := by rcases eb with ⟨rfl, rfl⟩ | ⟨rfl, rfl⟩ <;> decide
  have n1 : ¬ bk = -1 := by rcases eb with ⟨rfl, rfl⟩ | ⟨rfl, rfl⟩ <;> decide
  have I1 : Inv B (it_sv m 7 2 (nI b)) := bkI_I hI (by rcases hb with rfl | rfl; exact Or.inl rfl; exact Or.inr rfl)
  have R1 : ∀ M, Rel m M → Rel (it_sv m 7 2 (nI b)) (it_sv M 66 17 bk) := fun M hM => by rw [← eB]; exact bkI_R hM h8 _
  have s2 : it_sv m 7 2 (nI b) 7 2 = nI b := sv_same _ _ _ _
  obtain ⟨ss, hW, hl⟩ := Wk_ex (it_sv m 7 2 (nI b)) b 2048 (b + 4) (by omega) (by omega)
  have we := Wk_end (b := b) (by omega) ss (b + 4) hW (by omega) (by omega)
  obtain ⟨m1, a1, a2⟩ := c_163 (kc := kc) s2 (by omega) hW (by omega)
  have I2 := a2.I I1
  have R2 : ∀ M, Rel m M → Rel m1 (it_sv M 66 17 bk) := fun M hM => a2.R I1 (R1 M hM)
  have t2 : m1 7 2 = nI b := by rw [a2.2.2.2.2 2 (by omega) (by omega)]; exact s2
  have F : BkF m1 b := ⟨t2, hb, by rw [t2, eB]; exact e2, by rw [t2, eB]; exact n1⟩
  have hW1 : Wk m1 b (b + 4) ss := Wk_c2 (a2.2.2.2.1 2 (by omega) (by omega)) b ss (b + 4) hW
  have fr : ∀ k, k ≠ 2 → k ≠ 5 → k ≠ 7 → k ≠ 8 → m1 k = m k := fun k h2 h5 h7 hh8 => by rw [a2.2.2.2.1 k h7 hh8, sv_cell _ _ _ _ h7]
  have nb : nI b ≠ 0 := by rcases hb with rfl | rfl <;> decide
  by_cases cl : cln m1 b (wEnd (b + 4) ss)
  · refine ⟨m1, fun Φ h => ?_, I2, fr, by rw [t2]; exact nb, fun M hM Φ h => ?_⟩
    · unfold w_157_139 w_157_154
      refine a1 _ (c_165 t2 a2.1 (by omega) (by omega) ?_)
      rw [bI_t cl]
      exact ⟨fun q => absurd q (by decide), fun _ => h⟩
    · unfold w_241_103 w_241_121
      rw [sv_same]
      refine r_237 I2 (R2 M hM) e2 (by omega) hW1 rfl ?_
      rw [bI_t cl]
      exact ⟨fun q => absurd q (by decide), fun _ => h _ (R2 M hM) (FrM.rfl.sv (by omega))⟩
  · obtain ⟨m', b1, b2, b3, b4, b5⟩ := cm (kc := kc) I2 F hW1 a2.2.1 a2.2.2.1 (by omega)
    refine ⟨m', fun Φ h => ?_, b2, fun k h2 h5 h7 hh8 => by rw [b3 k h2 h5 h7]; exact fr k h2 h5 h7 hh8, ?_, fun M hM Φ h => ?_⟩
    · unfold w_157_139 w_157_154
      refine a1 _ (c_165 t2 a2.1 (by omega) (by omega) ?_)
      rw [bI_f cl]
      exact ⟨fun _ => b1 _ h, fun q => absurd rfl q⟩
    · rcases b4 with q | q <;> rw [q]
      · exact nb
      · rcases hb with rfl | rfl <;> decide
    · unfold w_241_103 w_241_121
      rw [sv_same]
      refine r_237 I2 (R2 M hM) e2 (by omega) hW1 rfl ?_
      rw [bI_f cl]
      exact ⟨fun _ => b5 _ (R2 M hM) Φ (fun M' r f => h M' r (fun k hk => by rw [f k hk, sv_cell _ _ _ _ (by omega)])), fun q => absurd rfl q⟩
theorem opn {kc : it_Kc} {B : Nat} {m : it_Me} (hI : Inv B m) : ∃ m', (∀ Φ : it_Me → Prop, Φ m' → w_157 kc m Φ) ∧ Inv B m' ∧ (∀ k, k ≠ 2 → k ≠ 5 → k ≠ 7 → k ≠ 8 → m' k = m k) ∧ m' 7 2 ≠ 0 ∧ ∀ M, Rel m M → ∀ Φ : it_Me → Prop, (∀ M', Rel m' M' → FrM M M' → Φ M') → w_241 kc M Φ := by
  have h8 := cnt_le hI
  have b0 : (126976 : Int32) + 2048 * 0 = nI 126976 := by decide
  have b1 : (126976 : Int32) + 2048 * 1 = nI 129024 := by decide
  -- the class, by which banks are valid
  have cv : ∀ {v : Int32} {p : Prop} {X : Int32 → Prop}, (X (bI p)) → (p → X 1) ∧ (¬ p → X 0) := fun {v p X} h => ⟨fun q => by rw [bI_t q] at h; exact h, fun q => by rw [bI_f q] at h; exact h⟩
  have cl : ∀ {Φ : it_Me → Prop}, w_157_49 kc Φ 126976 129024 (bI (gw m 126976 &&& (-65536) = 1263927296)) (bI (gw m 129024 &&& (-65536) = 1263927296)) m → w_157 kc m Φ := fun {Φ} h => by
    unfold w_157 w_157_27
    refine c_12 ?_
    refine ⟨fun q => c_12 ⟨fun q2 => ?_, fun q2 => ?_⟩, fun q => c_12 ⟨fun q2 => ?_, fun q2 => ?_⟩⟩
    · rw [bI_t q, bI_t q2] at h; exact h
    · rw [bI_t q, bI_f q2] at h; exact h
    · rw [bI_f q, bI_t q2] at h; exact h
    · rw [bI_f q, bI_f q2] at h; exact h
  have rf : ∀ {M : it_Me} {Φ : it_Me → Prop} {X : Int32 → Int32 → it_Me → Prop}, Rel m M → X (bI (gw m 126976 &&& (-65536) = 1263927296)) (bI (gw m 129024 &&& (-65536) = 1263927296)) M → w_234 kc 0 M (fun r1 m2 => w_234 kc 1 m2 (fun r3 m4 => X r1 r3 m4)) := fun {M Φ X} hM h => r_234 hI hM b0 (Or.inl rfl) (r_234 hI hM b1 (Or.inr rfl) h)
  have r42 : ∀ {M : it_Me} {Φ : it_Me → Prop} {v1 v2 : Int32}, Rel m M → ((v1 = 0 → w_241_94 kc Φ v1 M) ∧ (¬ v1 = 0 → (v2 = 0 → w_241_94 kc Φ v1 M) ∧ (¬ v2 = 0 → (((gw m 129024 - gw m 126976) &&& (65535 : Int32)) < (1 : Int32) → w_241_90 kc Φ M) ∧ (¬ ((gw m 129024 - gw m 126976) &&& (65535 : Int32)) < (1 : Int32) → ((32767 : Int32) < ((gw m 129024 - gw m 126976) &&& (65535 : Int32)) → w_241_90 kc Φ M) ∧ (¬ (32767 : Int32) < ((gw m 129024 - gw m 126976) &&& (65535 : Int32)) → w_241_103 kc Φ (1 : Int32) M))))) → w_241_42 kc Φ v1 v2 M := fun {M Φ v1 v2} hM h => by
    unfold w_241_42
    refine r_233 ?_
    rw [b1]
    refine rS hI hM (by omega) (by omega) (r_233 ?_)
    rw [b0]
    exact rS hI hM (by omega) (by omega) h
  obtain ⟨p0, x1, x2, x3, x4, x5⟩ := opB (kc := kc) hI (Or.inl rfl) (bk := 0) (Or.inl ⟨rfl, rfl⟩)
  obtain ⟨p1, y1, y2, y3, y4, y5⟩ := opB (kc := kc) hI (Or.inr rfl) (bk := 1) (Or.inr ⟨rfl, rfl⟩)
  by_cases v0 : gw m 126976 &&& (-65536) = 1263927296
  · by_cases v1 : gw m 129024 &&& (-65536) = 1263927296
    · by_cases nw : ((gw m 129024 - gw m 126976) &&& (65535 : Int32)) < (1 : Int32) ∨ (32767 : Int32) < ((gw m 129024 - gw m 126976) &&& (65535 : Int32))
      · refine ⟨p0, fun Φ h => cl ?_, x2, x3, x4, fun M hM Φ h => ?_⟩
        · rw [bI_t v0, bI_t v1]
          unfold w_157_49
          have t : w_157_91 kc Φ 126976 129024 1 1 m := by
            unfold w_157_91 w_157_92 w_157_113 w_157_114
            exact ⟨fun q => absurd q (by decide), fun _ => ⟨fun q => absurd q (by decide), fun _ => ⟨fun _ => ⟨fun q => absurd q (by decide), fun _ => x1 Φ h⟩, fun q => absurd rfl q⟩⟩⟩
          exact c_12 (c_12 ⟨fun _ => t, fun q => ⟨fun _ => t, fun q2 => absurd nw (fun y => y.elim q q2)⟩⟩)
        · unfold w_241
          refine rf (Φ := Φ) (X := fun r1 r3 m4 => (r1 = 0 → (r3 = 0 → w_232 kc (0 : Int32) (it_sv m4 66 17 (0 : Int32)) (fun m5 => w_233 kc (0 : Int32) m5 (fun r6 m7 => w_231 kc r6 (1263927296 : Int32) m7 (fun m8 => Φ m8)))) ∧ (¬ r3 = 0 → w_241_42 kc Φ r1 r3 m4)) ∧ (¬ r1 = 0 → w_241_42 kc Φ r1 r3 m4)) hM ?_
          rw [bI_t v0, bI_t v1]
          refine ⟨fun q => absurd q (by decide), fun _ => r42 hM ⟨fun q => absurd q (by decide), fun _ => ⟨fun q => absurd q (by decide), fun _ => ⟨fun _ => x5 M hM Φ h, fun q => ⟨fun _ => x5 M hM Φ h, fun q2 => absurd nw (fun y => y.elim q q2)⟩⟩⟩⟩⟩
      · have nw1 : ¬ ((gw m 129024 - gw m 126976) &&& (65535 : Int32)) < (1 : Int32) := fun q => nw (Or.inl q)
        have nw2 : ¬ (32767 : Int32) < ((gw m 129024 - gw m 126976) &&& (65535 : Int32)) := fun q => nw (Or.inr q)
        refine ⟨p1, fun Φ h => cl ?_, y2, y3, y4, fun M hM Φ h => ?_⟩
        · rw [bI_t v0, bI_t v1]
          unfold w_157_49
          refine c_12 (c_12 ⟨fun q => absurd q nw1, fun _ => ⟨fun q => absurd q nw2, fun _ => ?_⟩⟩)
          unfold w_157_92 w_157_109 w_157_114
          exact ⟨fun q => absurd q (by decide), fun _ => ⟨fun q => absurd q (by decide), fun _ => ⟨fun q => absurd q (by decide), fun _ => ⟨fun q => absurd q (by decide), fun _ => y1 Φ h⟩⟩⟩⟩
        · unfold w_241
          refine rf (Φ := Φ) (X := fun r1 r3 m4 => (r1 = 0 → (r3 = 0 → w_232 kc (0 : Int32) (it_sv m4 66 17 (0 : Int32)) (fun m5 => w_233 kc (0 : Int32) m5 (fun r6 m7 => w_231 kc r6 (1263927296 : Int32) m7 (fun m8 => Φ m8)))) ∧ (¬ r3 = 0 → w_241_42 kc Φ r1 r3 m4)) ∧ (¬ r1 = 0 → w_241_42 kc Φ r1 r3 m4)) hM ?_
          rw [bI_t v0, bI_t v1]
          refine ⟨fun q => absurd q (by decide), fun _ => r42 hM ⟨fun q => absurd q (by decide), fun _ => ⟨fun q => absurd q (by decide), fun _ => ⟨fun q => absurd q nw1, fun _ => ⟨fun q => absurd q nw2, fun _ => y5 M hM Φ h⟩⟩⟩⟩⟩
    · refine ⟨p0, fun Φ h => cl ?_, x2, x3, x4, fun M hM Φ h => ?_⟩
      · rw [bI_t v0, bI_f v1]
        unfold w_157_49
        have t : ∀ u, w_157_92 kc Φ 126976 129024 1 0 u m := fun u => by
          unfold w_157_92 w_157_113 w_157_114
          exact ⟨fun _ => ⟨fun q => absurd q (by decide), fun _ => x1 Φ h⟩, fun q => absurd rfl q⟩
        exact c_12 (c_12 ⟨fun _ => t 0, fun q => ⟨fun _ => t 0, fun q2 => t 1⟩⟩)
      · unfold w_241
        refine rf (Φ := Φ) (X := fun r1 r3 m4 => (r1 = 0 → (r3 = 0 → w_232 kc (0 : Int32) (it_sv m4 66 17 (0 : Int32)) (fun m5 => w_233 kc (0 : Int32) m5 (fun r6 m7 => w_231 kc r6 (1263927296 : Int32) m7 (fun m8 => Φ m8)))) ∧ (¬ r3 = 0 → w_241_42 kc Φ r1 r3 m4)) ∧ (¬ r1 = 0 → w_241_42 kc Φ r1 r3 m4)) hM ?_
        rw [bI_t v0, bI_f v1]
        refine ⟨fun q => absurd q (by decide), fun _ => r42 hM ⟨fun q => absurd q (by decide), fun _ => ⟨fun _ => ⟨fun q => absurd q (by decide), fun _ => x5 M hM Φ h⟩, fun q => absurd rfl q⟩⟩⟩
  · by_cases v1 : gw m 129024 &&& (-65536) = 1263927296
    · refine ⟨p1, fun Φ h => cl ?_, y2, y3, y4, fun M hM Φ h => ?_⟩
      · rw [bI_f v0, bI_t v1]
        unfold w_157_49
        have t : ∀ u, w_157_92 kc Φ 126976 129024 0 1 u m := fun u => by
          unfold w_157_92 w_157_109 w_157_114
          exact ⟨fun q => absurd q (by decide), fun _ => ⟨fun _ => ⟨fun _ => ⟨fun q => absurd q (by decide), fun _ => y1 Φ h⟩, fun q => absurd rfl q⟩, fun q => absurd rfl q⟩⟩
        exact c_12 (c_12 ⟨fun _ => t 0, fun q => ⟨fun _ => t 0, fun q2 => t 1⟩⟩)
      · unfold w_241
        refine rf (Φ := Φ) (X := fun r1 r3 m4 => (r1 = 0 → (r3 = 0 → w_232 kc (0 : Int32) (it_sv m4 66 17 (0 : Int32)) (fun m5 => w_233 kc (0 : Int32) m5 (fun r6 m7 => w_231 kc r6 (1263927296 : Int32) m7 (fun m8 => Φ m8)))) ∧ (¬ r3 = 0 → w_241_42 kc Φ r1 r3 m4)) ∧ (¬ r1 = 0 → w_241_42 kc Φ r1 r3 m4)) hM ?_
        rw [bI_f v0, bI_t v1]
        refine ⟨fun _ => ⟨fun q => absurd q (by decide), fun _ => r42 hM ⟨fun _ => ⟨fun _ => y5 M hM Φ h, fun q => absurd rfl q⟩, fun q => absurd rfl q⟩⟩, fun q => absurd rfl q⟩
    · -- neither: the first bank is made anew
      have I1 : Inv B (it_sv m 7 2 126976) := bkI_I hI (Or.inl rfl)
      have R1 : ∀ M, Rel m M → Rel (it_sv m 7 2 126976) (it_sv M 66 17 0) := fun M hM => bkI_R hM h8 126976
      obtain ⟨m1, a1, a2, a3, a4⟩ := er (kc := kc) I1 b0 (Or.inl rfl)
      obtain ⟨m2, d1, d2, d3, d4⟩ := pt (kc := kc) a2 (A := 126976) (by omega) (by omega) 1263927296
      refine ⟨m2, fun Φ h => cl ?_, d2, fun k h2 h5 h7 _ => by rw [d3.1 k h2 h5 h7, a3.1 k h2 h5 h7, sv_cell _ _ _ _ h7], ?_, fun M hM Φ h => ?_⟩
      · rw [bI_f v0, bI_f v1]
        unfold w_157_49
        have t : ∀ u, w_157_92 kc Φ 126976 129024 0 0 u m := fun u => by
          unfold w_157_92 w_157_113 w_157_114
          exact ⟨fun _ => ⟨fun _ => ⟨fun _ => a1 _ (d1 _ h), fun q => absurd rfl q⟩, fun q => absurd rfl q⟩, fun q => absurd rfl q⟩
        exact c_12 (c_12 ⟨fun _ => t 0, fun q => ⟨fun _ => t 0, fun q2 => t 1⟩⟩)
      · rw [d3.2.1 2 (by omega) (by omega), a3.2.1 2 (by omega) (by omega), sv_same]
        decide
      · unfold w_241
        refine rf (Φ := Φ) (X := fun r1 r3 m4 => (r1 = 0 → (r3 = 0 → w_232 kc (0 : Int32) (it_sv m4 66 17 (0 : Int32)) (fun m5 => w_233 kc (0 : Int32) m5 (fun r6 m7 => w_231 kc r6 (1263927296 : Int32) m7 (fun m8 => Φ m8)))) ∧ (¬ r3 = 0 → w_241_42 kc Φ r1 r3 m4)) ∧ (¬ r1 = 0 → w_241_42 kc Φ r1 r3 m4)) hM ?_
        rw [bI_f v0, bI_f v1]
        refine ⟨fun _ => ⟨fun _ => a4 _ (R1 M hM) _ (fun M1 r1 f1 => r_233 ?_), fun q => absurd rfl q⟩, fun q => absurd rfl q⟩
        rw [b0]
        exact d4 M1 r1 _ (fun M2 r2 f2 => h M2 r2 (fun k hk => by rw [f2 k hk, f1 k hk, sv_cell _ _ _ _ (by omega)]))
