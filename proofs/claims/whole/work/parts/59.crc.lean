/-! The CRC in lockstep; random bytes, sums. -/
theorem i2b_by (w : Int32) {j : Nat} (hj : j < 4) : it_i2b (by8 w j) = sb8 w j := b_ext (fun i hi => by
  rw [it_i2b, b_i2b _ hi, bt_by8 _ hj, bt_sb8 _ hj hi]
  by_cases h : i < 8
  · rw [if_pos h, decide_eq_true h, Bool.and_true]
  · rw [if_neg h, decide_eq_true (show 7 < 8 by omega), Bool.and_true])
theorem c1_bt (c : Int32) (i : Nat) : bt (it_crc1 c) i = (bt c (1 + i) ^^ (bt c 0 && bt (-306674912 : Int32) i)) := by
  have e : c &&& 1 = b01 (bt c 0) := by
    have := bit_of c (k := 0) (by omega) rfl
    rw [us_0] at this
    exact this
  have s : bt (it_us c 1) i = bt c (1 + i) := by
    show bt (it_us c (nI 1)) i = _
    rw [it_us, b_ushr 1 (by omega)]
  rw [it_crc1, e]
  cases hb : bt c 0
  · rw [if_pos (by decide), s]; simp
  · rw [if_neg (by decide), b_xor, s]; simp
theorem c1_lin (x y : Int32) : it_crc1 (x ^^^ y) = it_crc1 x ^^^ it_crc1 y := b_ext (fun i _ => by
  rw [c1_bt, b_xor, b_xor, b_xor, c1_bt, c1_bt]
  generalize bt x (1 + i) = a
  generalize bt y (1 + i) = b
  generalize bt x 0 = c
  generalize bt y 0 = d
  generalize bt (-306674912 : Int32) i = e
  cases a <;> cases b <;> cases c <;> cases d <;> cases e <;> rfl)
theorem cK_lin : ∀ (k : Nat) (x y : Int32), it_crcK k (x ^^^ y) = it_crcK k x ^^^ it_crcK k y := by
  intro k
  induction k with
  | zero => intro x y; rfl
  | succ k ih =>
    intro x y
    show it_crcK k (it_crc1 (x ^^^ y)) = it_crcK k (it_crc1 x) ^^^ it_crcK k (it_crc1 y)
    rw [c1_lin, ih]
theorem cK_sh : ∀ (k : Nat) (y : Int32), k < 32 → (∀ i, i < k → bt y i = false) → it_crcK k y = it_us y (nI k) := by
  intro k
  induction k with
  | zero => intro y _ _; rw [us_0]; rfl
  | succ k ih =>
    intro y h32 h
    show it_crcK k (it_crc1 y) = _
    have h0 := h 0 (by omega)
    rw [ih (it_crc1 y) (by omega) (fun i hi => by rw [c1_bt, h0, h (1 + i) (by omega)]; rfl)]
    refine b_ext (fun i _ => ?_)
    rw [it_us, b_ushr k (by omega), it_us, b_ushr (k + 1) (by omega), c1_bt, h0, show 1 + (k + i) = k + 1 + i by omega]
    simp
theorem i255 (x : Int32) : x &&& 255 = nI (Int32.toNatClampNeg (x &&& 255)) ∧ Int32.toNatClampNeg (x &&& 255) < 256 ∧ vp_in (x &&& 255) 256 := by
  have h : 0 ≤ (x &&& 255).toInt ∧ (x &&& 255).toInt < 256 := by rw [and255]; omega
  have e := clampI (x &&& 255)
  refine ⟨Int32.toInt_inj.mp (by rw [nI_toInt (by omega)]; omega), by omega, by rw [vp_in_iff]; omega⟩
theorem crc8 (x : Int32) : it_crcK 8 x = it_us x 8 ^^^ it_tab (Int32.toNatClampNeg (x &&& 255)) := by
  have e : x = (x &&& (255 ^^^ (-1 : Int32))) ^^^ (x &&& 255) := b_ext (fun i hi => by
    rw [b_xor, b_and, b_and, bt_not _ hi, b_255]
    by_cases h : i < 8
    · rw [decide_eq_true h]; simp
    · rw [decide_eq_false h]; simp)
  have s : it_us x 8 = it_us (x &&& (255 ^^^ (-1 : Int32))) (nI 8) := b_ext (fun i hi => by
    show bt (it_us x (nI 8)) i = _
    rw [it_us, b_ushr 8 (by omega), it_us, b_ushr 8 (by omega), b_and]
    by_cases h : 8 + i < 32
    · rw [bt_not _ h, b_255, decide_eq_false (by omega)]; simp
    · rw [b_big (x := x) (by omega)]; simp)
  rw [it_tab, ← (i255 x).1, s, ← cK_sh 8 (x &&& (255 ^^^ (-1 : Int32))) (by omega) (fun i hi => by rw [b_and, bt_not _ (by omega), b_255, decide_eq_true hi]; simp), ← cK_lin, ← e]
/-- the CRC over r bytes from place k -/
noncomputable def crcV (m : it_Me) (a : Int32) : Nat → Nat → Int32 → Int32
  | 0, _, c => c
  | r + 1, k, c => crcV m a r (k + 1) (it_us c 8 ^^^ it_tab (Int32.toNatClampNeg ((c ^^^ gb m (a + nI k)) &&& 255)))
noncomputable def crcR (m : it_Me) (a n : Int32) : Int32 := crcV m a n.toInt.toNat 0 (-1) ^^^ (-1 : Int32)
theorem crN {n : Int32} {r k : Nat} (h : k + r = n.toInt.toNat) : (n ≤ nI k ↔ r = 0) := by
  have := n.toInt_lt
  have e : (nI k).toInt = k := nI_toInt (by omega)
  rw [Int32.le_iff_toInt_le, e]
  omega
theorem c_21L {kc : it_Kc} {B : Nat} {m : it_Me} (hI : Inv B m) {a n : Int32} {Φ : Int32 → it_Me → Prop} {K : Int32 → it_Me → Prop} : ∀ (r k : Nat) (c : Int32), k + r = n.toInt.toNat → K (crcV m a r k c) m → w_21_5 kc Φ K (r + 1) a n c (nI k) m := by
  intro r
  induction r with
  | zero =>
    intro k c hr h
    unfold w_21_5
    exact ⟨fun _ => h, fun q => absurd ((crN hr).2 rfl) q⟩
  | succ r ih =>
    intro k c hr h
    unfold w_21_5
    refine ⟨fun q => absurd ((crN hr).1 q) (by omega), fun _ => c_16 ⟨(i255 _).2.2, ?_⟩⟩
    rw [hI.crc _ (i255 _).2.1, nI_1]
    exact ih (k + 1) _ (by omega) h
theorem c_21 {kc : it_Kc} {B : Nat} {m : it_Me} (hI : Inv B m) {a n : Int32} {Φ : Int32 → it_Me → Prop} (h : Φ (crcR m a n) m) : w_21 kc a n m Φ := by
  unfold w_21
  exact ⟨_, c_21L (r := n.toInt.toNat) (k := 0) hI (-1) (by omega) h⟩
theorem r_222i {kc : it_Kc} {M : it_Me} {v1 v2 v4 : Int32} {Φ : Int32 → it_Me → Prop} {K : Int32 → Int32 → Int32 → Int32 → it_Me → Prop} : ∀ (r k : Nat) (x : Int32), k + r = 8 → K v1 v2 (it_crcK r x) v4 M → w_222_25 kc Φ K (r + 1) v1 v2 x v4 (nI k) M := by
  intro r
  induction r with
  | zero =>
    intro k x hk h
    have e : (8 : Int32) ≤ nI k := by rw [Int32.le_iff_toInt_le, nI_toInt (by omega)]; simp only [Int32.reduceToInt]; omega
    unfold w_222_25
    exact ⟨fun _ => h, fun q => absurd e q⟩
  | succ r ih =>
    intro k x hk h
    have e : ¬ (8 : Int32) ≤ nI k := by rw [Int32.le_iff_toInt_le, nI_toInt (by omega)]; simp only [Int32.reduceToInt]; omega
    have eb : x &&& 1 = b01 (bt x 0) := by
      have := bit_of x (k := 0) (by omega) rfl
      rw [us_0] at this
      exact this
    have h' : K v1 v2 (it_crcK r (it_crc1 x)) v4 M := h
    unfold w_222_25 w_222_48
    rw [nI_1, eb]
    rw [it_crc1, eb] at h'
    cases hb : bt x 0
    · rw [hb, if_pos (by decide)] at h'
      refine ⟨fun q => absurd q e, fun _ => ⟨fun q => absurd q (by decide), fun _ => ih (k + 1) _ (by omega) ?_⟩⟩
      rw [show it_us x 1 ^^^ (0 : Int32) = it_us x 1 from b_ext (fun i _ => by rw [b_xor, b_0, Bool.xor_false])]
      exact h'
    · rw [hb, if_neg (by decide)] at h'
      exact ⟨fun q => absurd q e, fun _ => ⟨fun _ => ih (k + 1) _ (by omega) h', fun q => absurd rfl q⟩⟩
theorem gb_8 (m : it_Me) (a : Int32) {i : Nat} (h : 8 ≤ i) : bt (gb m a) i = false := by
  unfold gb
  split
  · exact b_0 i
  · split
    · rw [bt_by8 _ (bj_lt a), decide_eq_false (by omega), Bool.and_false]
    · exact b_0 i
theorem r_222L {kc : it_Kc} {m M : it_Me} (hR : Rel m M) {a n : Int32} (ha : ∀ k : Nat, (k : Int) < n.toInt → InM (a + nI k) ∧ ¬ excl m (wi (a + nI k))) {Φ : Int32 → it_Me → Prop} {K : Int32 → it_Me → Prop} : ∀ (r k : Nat) (c : Int32), k + r = n.toInt.toNat → K (crcV m a r k c) M → w_222_5 kc Φ K (r + 1) a n c (nI k) M := by
  intro r
  induction r with
  | zero =>
    intro k c hr h
    unfold w_222_5
    exact ⟨fun _ => h, fun q => absurd ((crN hr).2 rfl) q⟩
  | succ r ih =>
    intro k c hr h
    unfold w_222_5
    have hA := ha k (by omega)
    refine ⟨fun q => absurd ((crN hr).1 q) (by omega), fun _ => r_218 hR hA.1 hA.2 ⟨_, r_222i 8 0 _ rfl ?_⟩⟩
    unfold w_222_56
    rw [nI_1, crc8]
    refine ih (k + 1) _ (by omega) ?_
    rw [show it_us (c ^^^ gb m (a + nI k)) 8 = it_us c 8 from b_ext (fun i _ => by
      show bt (it_us (c ^^^ gb m (a + nI k)) (nI 8)) i = bt (it_us c (nI 8)) i
      rw [it_us, b_ushr 8 (by omega), it_us, b_ushr 8 (by omega), b_xor, gb_8 _ _ (by omega), Bool.xor_false])]
    exact h
theorem r_222 {kc : it_Kc} {m M : it_Me} (hR : Rel m M) {a n : Int32} (ha : ∀ k : Nat, (k : Int) < n.toInt → InM (a + nI k) ∧ ¬ excl m (wi (a + nI k))) {Φ : Int32 → it_Me → Prop} (h : Φ (crcR m a n) M) : w_222 kc a n M Φ := by
  unfold w_222
  exact ⟨_, r_222L hR ha n.toInt.toNat 0 (-1) (by omega) h⟩
/-- the bytes of a buffer -/
theorem bfA {B : Nat} {m : it_Me} (hI : Inv B m) {i d k : Nat} (hi : i < cnt m) (hd : d < 9) (hg : m (14 + 5 * i + 4) d ≠ 0) (hk : k < rbN d + wbN d) {n : Int32} (hn : n.toInt ≤ (gw m (m (14 + 5 * i + 4) d + nI (8 * (1 + sbN d + k) + 4))).toInt) : ∀ x : Nat, (x : Int) < n.toInt → InM (gw m (m (14 + 5 * i + 4) d + nI (8 * (1 + sbN d + k))) + nI x) ∧ ¬ excl m (wi (gw m (m (14 + 5 * i + 4) d + nI (8 * (1 + sbN d + k))) + nI x)) ∧ (rbN d ≤ k → (m (14 + 5 * i) 5).toInt ≤ (gw m (m (14 + 5 * i + 4) d + nI (8 * (1 + sbN d + k))) + nI x).toInt ∧ (gw m (m (14 + 5 * i + 4) d + nI (8 * (1 + sbN d + k))) + nI x).toInt < (m (14 + 5 * i) 7).toInt) := fun x hx => by
  have l := n.toInt_lt
  have e : (nI x).toInt = x := nI_toInt (by omega)
  exact (bfB hI hi hd hg hk (x := nI x) (by omega) (by omega)).2
theorem bfN {B : Nat} {m : it_Me} (hI : Inv B m) {i d k : Nat} (hi : i < cnt m) (hd : d < 9) (hg : m (14 + 5 * i + 4) d ≠ 0) (hk : k < rbN d + wbN d) : 0 ≤ (gw m (m (14 + 5 * i + 4) d + nI (8 * (1 + sbN d + k) + 4))).toInt ∧ (gw m (m (14 + 5 * i + 4) d + nI (8 * (1 + sbN d + k) + 4))).toInt ≤ 65536 := by
  have hP := hI.p hi
  have s := hP.szI
  have o := hP.ord
  have cl := hP.ctlI
  have ap := hP.app
  rcases hP.bf d hd hg k hk with b | ⟨b1, b2 | ⟨_, b3⟩⟩
  · rw [b]; decide
  · omega
  · omega
theorem d_sums {kc : it_Kc} (hk : KC kc) {B : Nat} {m : it_Me} (hI : Inv B m) {i : Nat} (hi : i < cnt m) (hg : m (14 + 5 * i + 4) 8 ≠ 0) (v : Int32) : Lv (w_67 kc (14 + 5 * i) v) (fun M Φ => w_270 kc (m (14 + 5 * i + 4) 8) 8 0 M (fun r16 m17 => w_220 kc (r16 + 4) m17 (fun r18 m19 => w_270 kc (m (14 + 5 * i + 4) 8) 8 0 m19 (fun r20 m21 => w_220 kc r20 m21 (fun r22 m23 => w_297 kc v r18 m23 (fun r24 m25 => w_222 kc r22 r24 m25 (fun r26 m27 => w_281 kc (nI i) r26 m27 Φ))))))) B m (Kp m) := by
  have z : gsz 8 = 16 ∧ sbN 8 = 0 ∧ rbN 8 = 1 ∧ wbN 8 = 0 := by decide
  have n0 := bfN hI hi (d := 8) (k := 0) (by omega) hg (by omega)
  have hl := lst_I (a := v) n0.1
  obtain ⟨m', c1, c2, c3, c4, c5⟩ := lv_ok1 (kc := kc) hI hi (crcR m (gw m (m (14 + 5 * i + 4) 8 + nI 8)) (lst v (gw m (m (14 + 5 * i + 4) 8 + nI 12))))
  refine ⟨m', fun Φ h => ?_, c2, c3, c4, fun M hM Φ h => ?_⟩
  · unfold w_67
    refine c_88 hk (d := 8) (n := 0) (by omega) (c_12 (c_12 (c_214 (c_21 hI ?_))))
    rw [ga4]
    exact c1 _ h
  · refine r_270 (d := 8) (k := 0) (by omega) ?_
    rw [ga4]
    refine r_220g hI hM hi (d := 8) (k := 12) (by omega) hg (by omega) (by omega) (r_270 (d := 8) (k := 0) (by omega) (r_220g hI hM hi (d := 8) (k := 8) (by omega) hg (by omega) (by omega) (r_297 n0.1 (r_222 hM (fun x hx => ?_) (c5 M hM _ h)))))
    have := bfA hI hi (d := 8) (k := 0) (by omega) hg (by omega) hl.2 x hx
    exact ⟨this.1, this.2.1⟩
