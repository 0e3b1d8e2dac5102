/-! The relation between the class's cells (0 .. 65 of m) and the reference's (66 .. 112 of M). -/
theorem sv_rd (m : it_Me) (k i : Nat) (v : Int32) (k' i' : Nat) : it_sv m k i v k' i' = if k' = k ∧ i' = i then v else m k' i' := by
  simp only [it_sv, it_up]
  by_cases h : k' = k
  · subst h
    simp only [if_true, upd, true_and]
  · simp only [if_neg h, h, false_and, if_false]
theorem sv_same (m : it_Me) (k i : Nat) (v : Int32) : it_sv m k i v k i = v := by rw [sv_rd, if_pos ⟨rfl, rfl⟩]
theorem sv_cell (m : it_Me) (k i : Nat) (v : Int32) {k' : Nat} (h : k' ≠ k) : it_sv m k i v k' = m k' := by
  simp only [it_sv, it_up, if_neg h]
theorem sv_ne (m : it_Me) (k i : Nat) (v : Int32) {k' i' : Nat} (h : k' ≠ k ∨ i' ≠ i) : it_sv m k i v k' i' = m k' i' := by
  rw [sv_rd, if_neg (by omega)]
theorem up_cell (m : it_Me) (k : Nat) (f : Nat → Int32) {k' : Nat} (h : k' ≠ k) : it_up m k f k' = m k' := by
  simp only [it_up, if_neg h]
theorem up_same (m : it_Me) (k : Nat) (f : Nat → Int32) : it_up m k f k = f := by
  simp only [it_up, if_true]
/-- an address of memory -/
def InM (a : Int32) : Prop := 65536 ≤ a.toInt ∧ a.toInt < 196608
def wi (a : Int32) : Nat := Int32.toNatClampNeg (it_shr (a - 65536) 2)
theorem wi_eq {a : Int32} (h : InM a) : (wi a : Int) = (a.toInt - 65536) / 4 := by
  have := h.1
  have := h.2
  rw [wi, clampI, it_shr, shr2, Int32.toInt_sub]
  simp only [Int32.reduceToInt, bm32]
  omega
theorem wi_lt {a : Int32} (h : InM a) : wi a < 32768 := by
  have := wi_eq h
  have := h.1
  have := h.2
  omega
theorem wi_in {a : Int32} (h : InM a) : vp_in (it_shr (a - 65536) 2) 32768 := by
  have := h.1
  have := h.2
  rw [vp_in_iff, it_shr, shr2, Int32.toInt_sub]
  simp only [Int32.reduceToInt, bm32]
  omega
theorem InM.ge {a : Int32} (h : InM a) : ¬ a < 65536 := by
  have := h.1
  ((try simp only [Int32.lt_iff_toInt_lt, Int32.le_iff_toInt_le, ← Int32.toInt_inj, Int32.reduceToInt, clampI, vp_in_iff, ne_eq, not_and, not_or, Int32.not_lt, Int32.not_le] at *) <;> (try simp (disch := omega) only [Int32.toInt_add, Int32.toInt_sub, Int32.toInt_mul, Int32.toInt_neg, Int32.reduceToInt, bmI, bmI', and1, and3, and7, and31, and127, and255, and65535, shr2] at *) <;> (try simp only [bm32, bm32'] at *) <;> omega)
theorem InM.lt {a : Int32} (h : InM a) : a < 196608 := by
  have := h.2
  ((try simp only [Int32.lt_iff_toInt_lt, Int32.le_iff_toInt_le, ← Int32.toInt_inj, Int32.reduceToInt, clampI, vp_in_iff, ne_eq, not_and, not_or, Int32.not_lt, Int32.not_le] at *) <;> (try simp (disch := omega) only [Int32.toInt_add, Int32.toInt_sub, Int32.toInt_mul, Int32.toInt_neg, Int32.reduceToInt, bmI, bmI', and1, and3, and7, and31, and127, and255, and65535, shr2] at *) <;> (try simp only [bm32, bm32'] at *) <;> omega)
theorem InM.no {a : Int32} (h : ¬ InM a) : a < 65536 ∨ ¬ a < 65536 ∧ ¬ a < 196608 := by
  unfold InM at h
  ((try simp only [Int32.lt_iff_toInt_lt, Int32.le_iff_toInt_le, ← Int32.toInt_inj, Int32.reduceToInt, clampI, vp_in_iff, ne_eq, not_and, not_or, Int32.not_lt, Int32.not_le] at *) <;> (try simp (disch := omega) only [Int32.toInt_add, Int32.toInt_sub, Int32.toInt_mul, Int32.toInt_neg, Int32.reduceToInt, bmI, bmI', and1, and3, and7, and31, and127, and255, and65535, shr2] at *) <;> (try simp only [bm32, bm32'] at *) <;> omega)
noncomputable def gw (m : it_Me) (a : Int32) : Int32 := if a < 65536 then 0 else if a < 196608 then m 2 (wi a) else 0
theorem gw_in {m : it_Me} {a : Int32} (h : InM a) : gw m a = m 2 (wi a) := by
  rw [gw, if_neg h.ge, if_pos h.lt]
noncomputable def pw (m : it_Me) (a v : Int32) : it_Me := if a < 65536 then m else if a < 196608 then it_sv m 2 (wi a) v else m
theorem pw_in {m : it_Me} {a v : Int32} (h : InM a) : pw m a v = it_sv m 2 (wi a) v := by
  rw [pw, if_neg h.ge, if_pos h.lt]
theorem c_12 {kc : it_Kc} {a : Int32} {m : it_Me} {Φ : Int32 → it_Me → Prop} (h : Φ (gw m a) m) : w_12 kc a m Φ := by
  unfold w_12 w_12_12
  unfold gw at h
  refine ⟨fun h1 => ?_, fun h1 => ⟨fun h2 => ⟨wi_in ?_, ?_⟩, fun h2 => ?_⟩⟩
  · rw [if_pos h1] at h; exact h
  · unfold InM; ((try simp only [Int32.lt_iff_toInt_lt, Int32.le_iff_toInt_le, ← Int32.toInt_inj, Int32.reduceToInt, clampI, vp_in_iff, ne_eq, not_and, not_or, Int32.not_lt, Int32.not_le] at *) <;> (try simp (disch := omega) only [Int32.toInt_add, Int32.toInt_sub, Int32.toInt_mul, Int32.toInt_neg, Int32.reduceToInt, bmI, bmI', and1, and3, and7, and31, and127, and255, and65535, shr2] at *) <;> (try simp only [bm32, bm32'] at *) <;> omega)
  · rw [if_neg h1, if_pos h2] at h; exact h
  · rw [if_neg h1, if_neg h2] at h; exact h
theorem c_13 {kc : it_Kc} {a v : Int32} {m : it_Me} {Φ : it_Me → Prop} (h : Φ (pw m a v)) : w_13 kc a v m Φ := by
  unfold w_13 w_13_24
  unfold pw at h
  refine ⟨fun h1 => ?_, fun h1 => ⟨fun h2 => ?_, fun h2 => ⟨wi_in ?_, ?_⟩⟩⟩
  · rw [if_pos h1] at h; exact h
  · rw [if_neg h1, if_neg (by ((try simp only [Int32.lt_iff_toInt_lt, Int32.le_iff_toInt_le, ← Int32.toInt_inj, Int32.reduceToInt, clampI, vp_in_iff, ne_eq, not_and, not_or, Int32.not_lt, Int32.not_le] at *) <;> (try simp (disch := omega) only [Int32.toInt_add, Int32.toInt_sub, Int32.toInt_mul, Int32.toInt_neg, Int32.reduceToInt, bmI, bmI', and1, and3, and7, and31, and127, and255, and65535, shr2] at *) <;> (try simp only [bm32, bm32'] at *) <;> omega))] at h; exact h
  · unfold InM; ((try simp only [Int32.lt_iff_toInt_lt, Int32.le_iff_toInt_le, ← Int32.toInt_inj, Int32.reduceToInt, clampI, vp_in_iff, ne_eq, not_and, not_or, Int32.not_lt, Int32.not_le] at *) <;> (try simp (disch := omega) only [Int32.toInt_add, Int32.toInt_sub, Int32.toInt_mul, Int32.toInt_neg, Int32.reduceToInt, bmI, bmI', and1, and3, and7, and31, and127, and255, and65535, shr2] at *) <;> (try simp only [bm32, bm32'] at *) <;> omega)
  · rw [if_neg h1, if_pos (by ((try simp only [Int32.lt_iff_toInt_lt, Int32.le_iff_toInt_le, ← Int32.toInt_inj, Int32.reduceToInt, clampI, vp_in_iff, ne_eq, not_and, not_or, Int32.not_lt, Int32.not_le] at *) <;> (try simp (disch := omega) only [Int32.toInt_add, Int32.toInt_sub, Int32.toInt_mul, Int32.toInt_neg, Int32.reduceToInt, bmI, bmI', and1, and3, and7, and31, and127, and255, and65535, shr2] at *) <;> (try simp only [bm32, bm32'] at *) <;> omega))] at h; exact h
/-- the place of an address in its word -/
def bj (a : Int32) : Nat := (a.toInt % 4).toNat
theorem bj_lt (a : Int32) : bj a < 4 := by unfold bj; omega
theorem bj_eq (a : Int32) : (bj a : Int) = a.toInt % 4 := by unfold bj; omega
theorem sh8 (a : Int32) : it_shl (a &&& 3) 3 = nI (8 * bj a) := by
  rw [a3of a (bj_lt a) (bj_eq a).symm]
  exact (by decide +kernel : ∀ j, j < 4 → it_shl (nI j) 3 = nI (8 * j)) _ (bj_lt a)
theorem sh16 (a : Int32) : it_shl (a &&& 2) 3 = nI (8 * (bj a / 2 * 2)) := by
  rw [a2of a (bj_lt a) (bj_eq a).symm]
  exact (by decide +kernel : ∀ j, j < 4 → it_shl (nI j &&& 2) 3 = nI (8 * (j / 2 * 2))) _ (bj_lt a)
noncomputable def gb (m : it_Me) (a : Int32) : Int32 := if a < 65536 then 0 else if a < 196608 then by8 (m 2 (wi a)) (bj a) else 0
theorem gb_in {m : it_Me} {a : Int32} (h : InM a) : gb m a = by8 (m 2 (wi a)) (bj a) := by
  rw [gb, if_neg h.ge, if_pos h.lt]
theorem c_16 {kc : it_Kc} {a : Int32} {m : it_Me} {Φ : Int32 → it_Me → Prop} (h : Φ (gb m a) m) : w_16 kc a m Φ := by
  unfold w_16 w_16_12
  unfold gb at h
  refine ⟨fun h1 => ?_, fun h1 => ⟨fun h2 => ⟨wi_in ?_, ?_⟩, fun h2 => ?_⟩⟩
  · rw [if_pos h1] at h; exact h
  · unfold InM; ((try simp only [Int32.lt_iff_toInt_lt, Int32.le_iff_toInt_le, ← Int32.toInt_inj, Int32.reduceToInt, clampI, vp_in_iff, ne_eq, not_and, not_or, Int32.not_lt, Int32.not_le] at *) <;> (try simp (disch := omega) only [Int32.toInt_add, Int32.toInt_sub, Int32.toInt_mul, Int32.toInt_neg, Int32.reduceToInt, bmI, bmI', and1, and3, and7, and31, and127, and255, and65535, shr2] at *) <;> (try simp only [bm32, bm32'] at *) <;> omega)
  · rw [if_neg h1, if_pos h2] at h; rw [sh8]; exact h
  · rw [if_neg h1, if_neg h2] at h; exact h
noncomputable def pb (m : it_Me) (a v : Int32) : it_Me := if a < 65536 then m else if a < 196608 then it_sv m 2 (wi a) (pB (m 2 (wi a)) v (bj a)) else m
theorem pb_in {m : it_Me} {a v : Int32} (h : InM a) : pb m a v = it_sv m 2 (wi a) (pB (m 2 (wi a)) v (bj a)) := by
  rw [pb, if_neg h.ge, if_pos h.lt]
theorem c_17 {kc : it_Kc} {a v : Int32} {m : it_Me} {Φ : it_Me → Prop} (h : Φ (pb m a v)) : w_17 kc a v m Φ := by
  unfold w_17 w_17_56
  unfold pb at h
  refine ⟨fun h1 => ?_, fun h1 => ⟨fun h2 => ?_, fun h2 => ⟨wi_in ?_, wi_in ?_, ?_⟩⟩⟩
  · rw [if_pos h1] at h; exact h
  · rw [if_neg h1, if_neg (by ((try simp only [Int32.lt_iff_toInt_lt, Int32.le_iff_toInt_le, ← Int32.toInt_inj, Int32.reduceToInt, clampI, vp_in_iff, ne_eq, not_and, not_or, Int32.not_lt, Int32.not_le] at *) <;> (try simp (disch := omega) only [Int32.toInt_add, Int32.toInt_sub, Int32.toInt_mul, Int32.toInt_neg, Int32.reduceToInt, bmI, bmI', and1, and3, and7, and31, and127, and255, and65535, shr2] at *) <;> (try simp only [bm32, bm32'] at *) <;> omega))] at h; exact h
  · unfold InM; ((try simp only [Int32.lt_iff_toInt_lt, Int32.le_iff_toInt_le, ← Int32.toInt_inj, Int32.reduceToInt, clampI, vp_in_iff, ne_eq, not_and, not_or, Int32.not_lt, Int32.not_le] at *) <;> (try simp (disch := omega) only [Int32.toInt_add, Int32.toInt_sub, Int32.toInt_mul, Int32.toInt_neg, Int32.reduceToInt, bmI, bmI', and1, and3, and7, and31, and127, and255, and65535, shr2] at *) <;> (try simp only [bm32, bm32'] at *) <;> omega)
  · unfold InM; ((try simp only [Int32.lt_iff_toInt_lt, Int32.le_iff_toInt_le, ← Int32.toInt_inj, Int32.reduceToInt, clampI, vp_in_iff, ne_eq, not_and, not_or, Int32.not_lt, Int32.not_le] at *) <;> (try simp (disch := omega) only [Int32.toInt_add, Int32.toInt_sub, Int32.toInt_mul, Int32.toInt_neg, Int32.reduceToInt, bmI, bmI', and1, and3, and7, and31, and127, and255, and65535, shr2] at *) <;> (try simp only [bm32, bm32'] at *) <;> omega)
  · rw [if_neg h1, if_pos (by ((try simp only [Int32.lt_iff_toInt_lt, Int32.le_iff_toInt_le, ← Int32.toInt_inj, Int32.reduceToInt, clampI, vp_in_iff, ne_eq, not_and, not_or, Int32.not_lt, Int32.not_le] at *) <;> (try simp (disch := omega) only [Int32.toInt_add, Int32.toInt_sub, Int32.toInt_mul, Int32.toInt_neg, Int32.reduceToInt, bmI, bmI', and1, and3, and7, and31, and127, and255, and65535, shr2] at *) <;> (try simp only [bm32, bm32'] at *) <;> omega))] at h; rw [sh8]; exact h
/-- the half at place 0 or 2 -/
def hf (w : Int32) (j : Nat) : Int32 := it_us w (nI (8 * (j / 2 * 2))) &&& 65535
theorem us_0 (x : Int32) : it_us x (nI 0) = x := b_ext (fun i hi => by rw [it_us, b_ushr 0 (by omega), Nat.zero_add])
theorem hf_by (w : Int32) {j : Nat} (hj : j = 0 ∨ j = 2) : by8 w j ||| it_shl (by8 w (j + 1)) 8 = hf w j := by
  rcases hj with rfl | rfl
  · rw [half_lo, hf]; show _ = it_us w (nI 0) &&& 65535; rw [us_0]
  · rw [half_hi, hf]; rfl
noncomputable def gh (m : it_Me) (a : Int32) : Int32 := if a < 65536 then 0 else if a < 196608 then hf (m 2 (wi a)) (bj a) else 0
theorem gh_in {m : it_Me} {a : Int32} (h : InM a) : gh m a = hf (m 2 (wi a)) (bj a) := by
  rw [gh, if_neg h.ge, if_pos h.lt]
theorem c_14 {kc : it_Kc} {a : Int32} {m : it_Me} {Φ : Int32 → it_Me → Prop} (h : Φ (gh m a) m) : w_14 kc a m Φ := by
  unfold w_14 w_14_12
  unfold gh at h
  refine ⟨fun h1 => ?_, fun h1 => ⟨fun h2 => ⟨wi_in ?_, ?_⟩, fun h2 => ?_⟩⟩
  · rw [if_pos h1] at h; exact h
  · unfold InM; ((try simp only [Int32.lt_iff_toInt_lt, Int32.le_iff_toInt_le, ← Int32.toInt_inj, Int32.reduceToInt, clampI, vp_in_iff, ne_eq, not_and, not_or, Int32.not_lt, Int32.not_le] at *) <;> (try simp (disch := omega) only [Int32.toInt_add, Int32.toInt_sub, Int32.toInt_mul, Int32.toInt_neg, Int32.reduceToInt, bmI, bmI', and1, and3, and7, and31, and127, and255, and65535, shr2] at *) <;> (try simp only [bm32, bm32'] at *) <;> omega)
  · rw [if_neg h1, if_pos h2] at h; rw [sh16]; exact h
  · rw [if_neg h1, if_neg h2] at h; exact h
noncomputable def ph (m : it_Me) (a v : Int32) : it_Me := if a < 65536 then m else if a < 196608 then it_sv m 2 (wi a) (pH (m 2 (wi a)) v (bj a / 2 * 2)) else m
theorem ph_in {m : it_Me} {a v : Int32} (h : InM a) : ph m a v = it_sv m 2 (wi a) (pH (m 2 (wi a)) v (bj a / 2 * 2)) := by
  rw [ph, if_neg h.ge, if_pos h.lt]
theorem c_15 {kc : it_Kc} {a v : Int32} {m : it_Me} {Φ : it_Me → Prop} (h : Φ (ph m a v)) : w_15 kc a v m Φ := by
  unfold w_15 w_15_54
  unfold ph at h
  refine ⟨fun h1 => ?_, fun h1 => ⟨fun h2 => ?_, fun h2 => ⟨wi_in ?_, wi_in ?_, ?_⟩⟩⟩
  · rw [if_pos h1] at h; exact h
  · rw [if_neg h1, if_neg (by ((try simp only [Int32.lt_iff_toInt_lt, Int32.le_iff_toInt_le, ← Int32.toInt_inj, Int32.reduceToInt, clampI, vp_in_iff, ne_eq, not_and, not_or, Int32.not_lt, Int32.not_le] at *) <;> (try simp (disch := omega) only [Int32.toInt_add, Int32.toInt_sub, Int32.toInt_mul, Int32.toInt_neg, Int32.reduceToInt, bmI, bmI', and1, and3, and7, and31, and127, and255, and65535, shr2] at *) <;> (try simp only [bm32, bm32'] at *) <;> omega))] at h; exact h
  · unfold InM; ((try simp only [Int32.lt_iff_toInt_lt, Int32.le_iff_toInt_le, ← Int32.toInt_inj, Int32.reduceToInt, clampI, vp_in_iff, ne_eq, not_and, not_or, Int32.not_lt, Int32.not_le] at *) <;> (try simp (disch := omega) only [Int32.toInt_add, Int32.toInt_sub, Int32.toInt_mul, Int32.toInt_neg, Int32.reduceToInt, bmI, bmI', and1, and3, and7, and31, and127, and255, and65535, shr2] at *) <;> (try simp only [bm32, bm32'] at *) <;> omega)
  · unfold InM; ((try simp only [Int32.lt_iff_toInt_lt, Int32.le_iff_toInt_le, ← Int32.toInt_inj, Int32.reduceToInt, clampI, vp_in_iff, ne_eq, not_and, not_or, Int32.not_lt, Int32.not_le] at *) <;> (try simp (disch := omega) only [Int32.toInt_add, Int32.toInt_sub, Int32.toInt_mul, Int32.toInt_neg, Int32.reduceToInt, bmI, bmI', and1, and3, and7, and31, and127, and255, and65535, shr2] at *) <;> (try simp only [bm32, bm32'] at *) <;> omega)
  · rw [if_neg h1, if_pos (by ((try simp only [Int32.lt_iff_toInt_lt, Int32.le_iff_toInt_le, ← Int32.toInt_inj, Int32.reduceToInt, clampI, vp_in_iff, ne_eq, not_and, not_or, Int32.not_lt, Int32.not_le] at *) <;> (try simp (disch := omega) only [Int32.toInt_add, Int32.toInt_sub, Int32.toInt_mul, Int32.toInt_neg, Int32.reduceToInt, bmI, bmI', and1, and3, and7, and31, and127, and255, and65535, shr2] at *) <;> (try simp only [bm32, bm32'] at *) <;> omega))] at h; rw [sh16]; exact h
/-- fill of words: address and size multiples of 4, in range -/
theorem c_18 {kc : it_Kc} {a n v : Int32} {m : it_Me} {Φ : it_Me → Prop} (ha : InM a) (hn : 0 < n.toInt) (hn4 : n.toInt % 4 = 0) (he : a.toInt + n.toInt ≤ 196608) (h : Φ (it_fil m 2 (wi a) (wi a + n.toInt.toNat / 4) v)) : w_18 kc a n v m Φ := by
  unfold w_18 w_18_48 w_362
  have h1 := ha.1
  have h2 := ha.2
  have hw := wi_eq ha
  have e1 : (it_shr (a - 65536) 2).toInt = (a.toInt - 65536) / 4 := by
    rw [it_shr, shr2, Int32.toInt_sub]
    simp only [Int32.reduceToInt, bm32]
    omega
  have e2 : (it_shr n 2).toInt = n.toInt / 4 := by rw [it_shr, shr2]
  have e3 : (it_shr (a - 65536) 2 + it_shr n 2).toInt = (a.toInt - 65536) / 4 + n.toInt / 4 := by
    rw [Int32.toInt_add, e1, e2, bm32]
    omega
  refine ⟨fun h => ?_, fun _ => ⟨fun h => ?_, fun _ => ⟨fun h => ?_, fun _ => ⟨fun h => ?_, fun _ => ⟨⟨?_, ?_, ?_⟩, ?_⟩⟩⟩⟩⟩
  · exfalso; ((try simp only [Int32.lt_iff_toInt_lt, Int32.le_iff_toInt_le, ← Int32.toInt_inj, Int32.reduceToInt, clampI, vp_in_iff, ne_eq, not_and, not_or, Int32.not_lt, Int32.not_le] at *) <;> (try simp (disch := omega) only [Int32.toInt_add, Int32.toInt_sub, Int32.toInt_mul, Int32.toInt_neg, Int32.reduceToInt, bmI, bmI', and1, and3, and7, and31, and127, and255, and65535, shr2] at *) <;> (try simp only [bm32, bm32'] at *) <;> omega)
  · exfalso; exact ha.ge h
  · exfalso; ((try simp only [Int32.lt_iff_toInt_lt, Int32.le_iff_toInt_le, ← Int32.toInt_inj, Int32.reduceToInt, clampI, vp_in_iff, ne_eq, not_and, not_or, Int32.not_lt, Int32.not_le] at *) <;> (try simp (disch := omega) only [Int32.toInt_add, Int32.toInt_sub, Int32.toInt_mul, Int32.toInt_neg, Int32.reduceToInt, bmI, bmI', and1, and3, and7, and31, and127, and255, and65535, shr2] at *) <;> (try simp only [bm32, bm32'] at *) <;> omega)
  · exfalso
    have : (196608 - a).toInt = 196608 - a.toInt := by rw [Int32.toInt_sub]; simp only [Int32.reduceToInt, bm32]; omega
    rw [Int32.lt_iff_toInt_lt, this] at h
    omega
  · rw [Int32.le_iff_toInt_le, e1]; show (0 : Int) ≤ _; omega
  · rw [Int32.le_iff_toInt_le, e1, e3]; omega
  · rw [Int32.le_iff_toInt_le, e3]; show _ ≤ (32768 : Int); omega
  · have e4 : Int32.toNatClampNeg (it_shr (a - 65536) 2) = wi a := rfl
    have e5 : Int32.toNatClampNeg (it_shr (a - 65536) 2 + it_shr n 2) = wi a + n.toInt.toNat / 4 := by
      rw [clampI, e3]
      omega
    rw [e4, e5]
    exact h
theorem c_18n {kc : it_Kc} {a n v : Int32} {m : it_Me} {Φ : it_Me → Prop} (ha : n.toInt ≤ 0 ∨ a.toInt < 65536) (h : Φ m) : w_18 kc a n v m Φ := by
  unfold w_18 w_18_48
  refine ⟨fun _ => h, fun h0 => ⟨fun _ => h, fun h1 => ?_⟩⟩
  exfalso
  ((try simp only [Int32.lt_iff_toInt_lt, Int32.le_iff_toInt_le, ← Int32.toInt_inj, Int32.reduceToInt, clampI, vp_in_iff, ne_eq, not_and, not_or, Int32.not_lt, Int32.not_le] at *) <;> (try simp (disch := omega) only [Int32.toInt_add, Int32.toInt_sub, Int32.toInt_mul, Int32.toInt_neg, Int32.reduceToInt, bmI, bmI', and1, and3, and7, and31, and127, and255, and65535, shr2] at *) <;> (try simp only [bm32, bm32'] at *) <;> omega)
