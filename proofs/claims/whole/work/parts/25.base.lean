/-! Arithmetic and bits of Int32. The family bt is the kit's own text to paste. -/
def bt (x : Int32) (i : Nat) : Bool := x.toBitVec.getLsbD i
theorem b_ext {x y : Int32} (h : ∀ i, i < 32 → bt x i = bt y i) : x = y := Int32.toBitVec_inj.mp (BitVec.eq_of_getLsbD_eq (fun i hi => h i hi))
theorem b_or (x y : Int32) (i : Nat) : bt (x ||| y) i = (bt x i || bt y i) := by unfold bt; rw [Int32.toBitVec_or, BitVec.getLsbD_or]
theorem b_and (x y : Int32) (i : Nat) : bt (x &&& y) i = (bt x i && bt y i) := by unfold bt; rw [Int32.toBitVec_and, BitVec.getLsbD_and]
theorem b_xor (x y : Int32) (i : Nat) : bt (x ^^^ y) i = (bt x i ^^ bt y i) := by unfold bt; rw [Int32.toBitVec_xor, BitVec.getLsbD_xor]
theorem b_big {x : Int32} {i : Nat} (h : 32 ≤ i) : bt x i = false := BitVec.getLsbD_of_ge _ _ h
theorem b_255 (i : Nat) : bt 255 i = decide (i < 8) := by
  rcases Nat.lt_or_ge i 32 with h | h
  · exact (by decide +kernel : ∀ i, i < 32 → bt 255 i = decide (i < 8)) i h
  · rw [b_big h, decide_eq_false (by omega)]
theorem b_65535 (i : Nat) : bt 65535 i = decide (i < 16) := by
  rcases Nat.lt_or_ge i 32 with h | h
  · exact (by decide +kernel : ∀ i, i < 32 → bt 65535 i = decide (i < 16)) i h
  · rw [b_big h, decide_eq_false (by omega)]
theorem b_m1 : ∀ i, i < 32 → bt (-1) i = true := by decide +kernel
theorem b_0 (i : Nat) : bt 0 i = false := BitVec.getLsbD_zero
theorem s_l : ∀ n, n < 32 → ((nI n &&& 31).toBitVec.smod 32).toNat = n := by decide +kernel
theorem s_u : ∀ n, n < 32 → (((nI n).toUInt32 &&& Int32.toUInt32 31).toBitVec % 32).toNat = n := by decide +kernel
theorem b_shl (n : Nat) (hn : n < 32) (x : Int32) {i : Nat} (hi : i < 32) : bt (x <<< (nI n &&& 31)) i = (decide (n ≤ i) && bt x (i - n)) := by
  unfold bt
  rw [Int32.toBitVec_shiftLeft]
  show (x.toBitVec <<< ((nI n &&& 31).toBitVec.smod 32).toNat).getLsbD i = _
  rw [s_l n hn, BitVec.getLsbD_shiftLeft]
  rcases Nat.lt_or_ge i n with h | h
  · simp [h, Nat.not_le.mpr h]
  · simp [hi, h, Nat.not_lt.mpr h]
theorem b_ushr (n : Nat) (hn : n < 32) (x : Int32) (i : Nat) : bt ((x.toUInt32 >>> ((nI n).toUInt32 &&& Int32.toUInt32 31)).toInt32) i = bt x (n + i) := by
  show (x.toUInt32 >>> ((nI n).toUInt32 &&& Int32.toUInt32 31)).toBitVec.getLsbD i = x.toUInt32.toBitVec.getLsbD (n + i)
  rw [UInt32.toBitVec_shiftRight]
  show (x.toUInt32.toBitVec >>> (((nI n).toUInt32 &&& Int32.toUInt32 31).toBitVec % 32).toNat).getLsbD i = _
  rw [s_u n hn, BitVec.getLsbD_ushiftRight]
theorem b_sshr (n : Nat) (hn : n < 32) (x : Int32) {i : Nat} (hi : i < 32) : bt (x >>> (nI n &&& 31)) i = if n + i < 32 then bt x (n + i) else bt x 31 := by
  unfold bt
  rw [Int32.toBitVec_shiftRight]
  show (x.toBitVec.sshiftRight ((nI n &&& 31).toBitVec.smod 32).toNat).getLsbD i = _
  rw [s_l n hn, BitVec.getLsbD_sshiftRight, BitVec.msb_eq_getLsbD_last]
  simp [hi]
theorem bl_0 (x : Int32) {i : Nat} (hi : i < 32) : bt (x <<< ((0 : Int32) &&& 31)) i = (decide (0 ≤ i) && bt x (i - 0)) := b_shl 0 (by omega) x hi
theorem bu_0 (x : Int32) (i : Nat) : bt ((x.toUInt32 >>> (Int32.toUInt32 0 &&& Int32.toUInt32 31)).toInt32) i = bt x (0 + i) := b_ushr 0 (by omega) x i
theorem bs_0 (x : Int32) {i : Nat} (hi : i < 32) : bt (x >>> ((0 : Int32) &&& 31)) i = if 0 + i < 32 then bt x (0 + i) else bt x 31 := b_sshr 0 (by omega) x hi
theorem bl_1 (x : Int32) {i : Nat} (hi : i < 32) : bt (x <<< ((1 : Int32) &&& 31)) i = (decide (1 ≤ i) && bt x (i - 1)) := b_shl 1 (by omega) x hi
theorem bu_1 (x : Int32) (i : Nat) : bt ((x.toUInt32 >>> (Int32.toUInt32 1 &&& Int32.toUInt32 31)).toInt32) i = bt x (1 + i) := b_ushr 1 (by omega) x i
theorem bs_1 (x : Int32) {i : Nat} (hi : i < 32) : bt (x >>> ((1 : Int32) &&& 31)) i = if 1 + i < 32 then bt x (1 + i) else bt x 31 := b_sshr 1 (by omega) x hi
theorem bl_2 (x : Int32) {i : Nat} (hi : i < 32) : bt (x <<< ((2 : Int32) &&& 31)) i = (decide (2 ≤ i) && bt x (i - 2)) := b_shl 2 (by omega) x hi
theorem bu_2 (x : Int32) (i : Nat) : bt ((x.toUInt32 >>> (Int32.toUInt32 2 &&& Int32.toUInt32 31)).toInt32) i = bt x (2 + i) := b_ushr 2 (by omega) x i
theorem bs_2 (x : Int32) {i : Nat} (hi : i < 32) : bt (x >>> ((2 : Int32) &&& 31)) i = if 2 + i < 32 then bt x (2 + i) else bt x 31 := b_sshr 2 (by omega) x hi
theorem bl_3 (x : Int32) {i : Nat} (hi : i < 32) : bt (x <<< ((3 : Int32) &&& 31)) i = (decide (3 ≤ i) && bt x (i - 3)) := b_shl 3 (by omega) x hi
theorem bu_3 (x : Int32) (i : Nat) : bt ((x.toUInt32 >>> (Int32.toUInt32 3 &&& Int32.toUInt32 31)).toInt32) i = bt x (3 + i) := b_ushr 3 (by omega) x i
theorem bs_3 (x : Int32) {i : Nat} (hi : i < 32) : bt (x >>> ((3 : Int32) &&& 31)) i = if 3 + i < 32 then bt x (3 + i) else bt x 31 := b_sshr 3 (by omega) x hi
theorem bl_4 (x : Int32) {i : Nat} (hi : i < 32) : bt (x <<< ((4 : Int32) &&& 31)) i = (decide (4 ≤ i) && bt x (i - 4)) := b_shl 4 (by omega) x hi
theorem bu_4 (x : Int32) (i : Nat) : bt ((x.toUInt32 >>> (Int32.toUInt32 4 &&& Int32.toUInt32 31)).toInt32) i = bt x (4 + i) := b_ushr 4 (by omega) x i
theorem bs_4 (x : Int32) {i : Nat} (hi : i < 32) : bt (x >>> ((4 : Int32) &&& 31)) i = if 4 + i < 32 then bt x (4 + i) else bt x 31 := b_sshr 4 (by omega) x hi
theorem bl_5 (x : Int32) {i : Nat} (hi : i < 32) : bt (x <<< ((5 : Int32) &&& 31)) i = (decide (5 ≤ i) && bt x (i - 5)) := b_shl 5 (by omega) x hi
theorem bu_5 (x : Int32) (i : Nat) : bt ((x.toUInt32 >>> (Int32.toUInt32 5 &&& Int32.toUInt32 31)).toInt32) i = bt x (5 + i) := b_ushr 5 (by omega) x i
theorem bs_5 (x : Int32) {i : Nat} (hi : i < 32) : bt (x >>> ((5 : Int32) &&& 31)) i = if 5 + i < 32 then bt x (5 + i) else bt x 31 := b_sshr 5 (by omega) x hi
theorem bl_6 (x : Int32) {i : Nat} (hi : i < 32) : bt (x <<< ((6 : Int32) &&& 31)) i = (decide (6 ≤ i) && bt x (i - 6)) := b_shl 6 (by omega) x hi
theorem bu_6 (x : Int32) (i : Nat) : bt ((x.toUInt32 >>> (Int32.toUInt32 6 &&& Int32.toUInt32 31)).toInt32) i = bt x (6 + i) := b_ushr 6 (by omega) x i
theorem bs_6 (x : Int32) {i : Nat} (hi : i < 32) : bt (x >>> ((6 : Int32) &&& 31)) i = if 6 + i < 32 then bt x (6 + i) else bt x 31 := b_sshr 6 (by omega) x hi
theorem bl_7 (x : Int32) {i : Nat} (hi : i < 32) : bt (x <<< ((7 : Int32) &&& 31)) i = (decide (7 ≤ i) && bt x (i - 7)) := b_shl 7 (by omega) x hi
theorem bu_7 (x : Int32) (i : Nat) : bt ((x.toUInt32 >>> (Int32.toUInt32 7 &&& Int32.toUInt32 31)).toInt32) i = bt x (7 + i) := b_ushr 7 (by omega) x i
theorem bs_7 (x : Int32) {i : Nat} (hi : i < 32) : bt (x >>> ((7 : Int32) &&& 31)) i = if 7 + i < 32 then bt x (7 + i) else bt x 31 := b_sshr 7 (by omega) x hi
theorem bl_8 (x : Int32) {i : Nat} (hi : i < 32) : bt (x <<< ((8 : Int32) &&& 31)) i = (decide (8 ≤ i) && bt x (i - 8)) := b_shl 8 (by omega) x hi
theorem bu_8 (x : Int32) (i : Nat) : bt ((x.toUInt32 >>> (Int32.toUInt32 8 &&& Int32.toUInt32 31)).toInt32) i = bt x (8 + i) := b_ushr 8 (by omega) x i
theorem bs_8 (x : Int32) {i : Nat} (hi : i < 32) : bt (x >>> ((8 : Int32) &&& 31)) i = if 8 + i < 32 then bt x (8 + i) else bt x 31 := b_sshr 8 (by omega) x hi
theorem bl_9 (x : Int32) {i : Nat} (hi : i < 32) : bt (x <<< ((9 : Int32) &&& 31)) i = (decide (9 ≤ i) && bt x (i - 9)) := b_shl 9 (by omega) x hi
theorem bu_9 (x : Int32) (i : Nat) : bt ((x.toUInt32 >>> (Int32.toUInt32 9 &&& Int32.toUInt32 31)).toInt32) i = bt x (9 + i) := b_ushr 9 (by omega) x i
theorem bs_9 (x : Int32) {i : Nat} (hi : i < 32) : bt (x >>> ((9 : Int32) &&& 31)) i = if 9 + i < 32 then bt x (9 + i) else bt x 31 := b_sshr 9 (by omega) x hi
theorem bl_10 (x : Int32) {i : Nat} (hi : i < 32) : bt (x <<< ((10 : Int32) &&& 31)) i = (decide (10 ≤ i) && bt x (i - 10)) := b_shl 10 (by omega) x hi
theorem bu_10 (x : Int32) (i : Nat) : bt ((x.toUInt32 >>> (Int32.toUInt32 10 &&& Int32.toUInt32 31)).toInt32) i = bt x (10 + i) := b_ushr 10 (by omega) x i
theorem bs_10 (x : Int32) {i : Nat} (hi : i < 32) : bt (x >>> ((10 : Int32) &&& 31)) i = if 10 + i < 32 then bt x (10 + i) else bt x 31 := b_sshr 10 (by omega) x hi
theorem bl_11 (x : Int32) {i : Nat} (hi : i < 32) : bt (x <<< ((11 : Int32) &&& 31)) i = (decide (11 ≤ i) && bt x (i - 11)) := b_shl 11 (by omega) x hi
theorem bu_11 (x : Int32) (i : Nat) : bt ((x.toUInt32 >>> (Int32.toUInt32 11 &&& Int32.toUInt32 31)).toInt32) i = bt x (11 + i) := b_ushr 11 (by omega) x i
theorem bs_11 (x : Int32) {i : Nat} (hi : i < 32) : bt (x >>> ((11 : Int32) &&& 31)) i = if 11 + i < 32 then bt x (11 + i) else bt x 31 := b_sshr 11 (by omega) x hi
theorem bl_12 (x : Int32) {i : Nat} (hi : i < 32) : bt (x <<< ((12 : Int32) &&& 31)) i = (decide (12 ≤ i) && bt x (i - 12)) := b_shl 12 (by omega) x hi
theorem bu_12 (x : Int32) (i : Nat) : bt ((x.toUInt32 >>> (Int32.toUInt32 12 &&& Int32.toUInt32 31)).toInt32) i = bt x (12 + i) := b_ushr 12 (by omega) x i
theorem bs_12 (x : Int32) {i : Nat} (hi : i < 32) : bt (x >>> ((12 : Int32) &&& 31)) i = if 12 + i < 32 then bt x (12 + i) else bt x 31 := b_sshr 12 (by omega) x hi
theorem bl_13 (x : Int32) {i : Nat} (hi : i < 32) : bt (x <<< ((13 : Int32) &&& 31)) i = (decide (13 ≤ i) && bt x (i - 13)) := b_shl 13 (by omega) x hi
theorem bu_13 (x : Int32) (i : Nat) : bt ((x.toUInt32 >>> (Int32.toUInt32 13 &&& Int32.toUInt32 31)).toInt32) i = bt x (13 + i) := b_ushr 13 (by omega) x i
theorem bs_13 (x : Int32) {i : Nat} (hi : i < 32) : bt (x >>> ((13 : Int32) &&& 31)) i = if 13 + i < 32 then bt x (13 + i) else bt x 31 := b_sshr 13 (by omega) x hi
theorem bl_14 (x : Int32) {i : Nat} (hi : i < 32) : bt (x <<< ((14 : Int32) &&& 31)) i = (decide (14 ≤ i) && bt x (i - 14)) := b_shl 14 (by omega) x hi
theorem bu_14 (x : Int32) (i : Nat) : bt ((x.toUInt32 >>> (Int32.toUInt32 14 &&& Int32.toUInt32 31)).toInt32) i = bt x (14 + i) := b_ushr 14 (by omega) x i
theorem bs_14 (x : Int32) {i : Nat} (hi : i < 32) : bt (x >>> ((14 : Int32) &&& 31)) i = if 14 + i < 32 then bt x (14 + i) else bt x 31 := b_sshr 14 (by omega) x hi
theorem bl_15 (x : Int32) {i : Nat} (hi : i < 32) : bt (x <<< ((15 : Int32) &&& 31)) i = (decide (15 ≤ i) && bt x (i - 15)) := b_shl 15 (by omega) x hi
theorem bu_15 (x : Int32) (i : Nat) : bt ((x.toUInt32 >>> (Int32.toUInt32 15 &&& Int32.toUInt32 31)).toInt32) i = bt x (15 + i) := b_ushr 15 (by omega) x i
theorem bs_15 (x : Int32) {i : Nat} (hi : i < 32) : bt (x >>> ((15 : Int32) &&& 31)) i = if 15 + i < 32 then bt x (15 + i) else bt x 31 := b_sshr 15 (by omega) x hi
theorem bl_16 (x : Int32) {i : Nat} (hi : i < 32) : bt (x <<< ((16 : Int32) &&& 31)) i = (decide (16 ≤ i) && bt x (i - 16)) := b_shl 16 (by omega) x hi
theorem bu_16 (x : Int32) (i : Nat) : bt ((x.toUInt32 >>> (Int32.toUInt32 16 &&& Int32.toUInt32 31)).toInt32) i = bt x (16 + i) := b_ushr 16 (by omega) x i
theorem bs_16 (x : Int32) {i : Nat} (hi : i < 32) : bt (x >>> ((16 : Int32) &&& 31)) i = if 16 + i < 32 then bt x (16 + i) else bt x 31 := b_sshr 16 (by omega) x hi
theorem bl_17 (x : Int32) {i : Nat} (hi : i < 32) : bt (x <<< ((17 : Int32) &&& 31)) i = (decide (17 ≤ i) && bt x (i - 17)) := b_shl 17 (by omega) x hi
theorem bu_17 (x : Int32) (i : Nat) : bt ((x.toUInt32 >>> (Int32.toUInt32 17 &&& Int32.toUInt32 31)).toInt32) i = bt x (17 + i) := b_ushr 17 (by omega) x i
theorem bs_17 (x : Int32) {i : Nat} (hi : i < 32) : bt (x >>> ((17 : Int32) &&& 31)) i = if 17 + i < 32 then bt x (17 + i) else bt x 31 := b_sshr 17 (by omega) x hi
theorem bl_18 (x : Int32) {i : Nat} (hi : i < 32) : bt (x <<< ((18 : Int32) &&& 31)) i = (decide (18 ≤ i) && bt x (i - 18)) := b_shl 18 (by omega) x hi
theorem bu_18 (x : Int32) (i : Nat) : bt ((x.toUInt32 >>> (Int32.toUInt32 18 &&& Int32.toUInt32 31)).toInt32) i = bt x (18 + i) := b_ushr 18 (by omega) x i
theorem bs_18 (x : Int32) {i : Nat} (hi : i < 32) : bt (x >>> ((18 : Int32) &&& 31)) i = if 18 + i < 32 then bt x (18 + i) else bt x 31 := b_sshr 18 (by omega) x hi
theorem bl_19 (x : Int32) {i : Nat} (hi : i < 32) : bt (x <<< ((19 : Int32) &&& 31)) i = (decide (19 ≤ i) && bt x (i - 19)) := b_shl 19 (by omega) x hi
theorem bu_19 (x : Int32) (i : Nat) : bt ((x.toUInt32 >>> (Int32.toUInt32 19 &&& Int32.toUInt32 31)).toInt32) i = bt x (19 + i) := b_ushr 19 (by omega) x i
theorem bs_19 (x : Int32) {i : Nat} (hi : i < 32) : bt (x >>> ((19 : Int32) &&& 31)) i = if 19 + i < 32 then bt x (19 + i) else bt x 31 := b_sshr 19 (by omega) x hi
theorem bl_20 (x : Int32) {i : Nat} (hi : i < 32) : bt (x <<< ((20 : Int32) &&& 31)) i = (decide (20 ≤ i) && bt x (i - 20)) := b_shl 20 (by omega) x hi
theorem bu_20 (x : Int32) (i : Nat) : bt ((x.toUInt32 >>> (Int32.toUInt32 20 &&& Int32.toUInt32 31)).toInt32) i = bt x (20 + i) := b_ushr 20 (by omega) x i
theorem bs_20 (x : Int32) {i : Nat} (hi : i < 32) : bt (x >>> ((20 : Int32) &&& 31)) i = if 20 + i < 32 then bt x (20 + i) else bt x 31 := b_sshr 20 (by omega) x hi
theorem bl_21 (x : Int32) {i : Nat} (hi : i < 32) : bt (x <<< ((21 : Int32) &&& 31)) i = (decide (21 ≤ i) && bt x (i - 21)) := b_shl 21 (by omega) x hi
theorem bu_21 (x : Int32) (i : Nat) : bt ((x.toUInt32 >>> (Int32.toUInt32 21 &&& Int32.toUInt32 31)).toInt32) i = bt x (21 + i) := b_ushr 21 (by omega) x i
theorem bs_21 (x : Int32) {i : Nat} (hi : i < 32) : bt (x >>> ((21 : Int32) &&& 31)) i = if 21 + i < 32 then bt x (21 + i) else bt x 31 := b_sshr 21 (by omega) x hi
theorem bl_22 (x : Int32) {i : Nat} (hi : i < 32) : bt (x <<< ((22 : Int32) &&& 31)) i = (decide (22 ≤ i) && bt x (i - 22)) := b_shl 22 (by omega) x hi
theorem bu_22 (x : Int32) (i : Nat) : bt ((x.toUInt32 >>> (Int32.toUInt32 22 &&& Int32.toUInt32 31)).toInt32) i = bt x (22 + i) := b_ushr 22 (by omega) x i
theorem bs_22 (x : Int32) {i : Nat} (hi : i < 32) : bt (x >>> ((22 : Int32) &&& 31)) i = if 22 + i < 32 then bt x (22 + i) else bt x 31 := b_sshr 22 (by omega) x hi
theorem bl_23 (x : Int32) {i : Nat} (hi : i < 32) : bt (x <<< ((23 : Int32) &&& 31)) i = (decide (23 ≤ i) && bt x (i - 23)) := b_shl 23 (by omega) x hi
theorem bu_23 (x : Int32) (i : Nat) : bt ((x.toUInt32 >>> (Int32.toUInt32 23 &&& Int32.toUInt32 31)).toInt32) i = bt x (23 + i) := b_ushr 23 (by omega) x i
theorem bs_23 (x : Int32) {i : Nat} (hi : i < 32) : bt (x >>> ((23 : Int32) &&& 31)) i = if 23 + i < 32 then bt x (23 + i) else bt x 31 := b_sshr 23 (by omega) x hi
theorem bl_24 (x : Int32) {i : Nat} (hi : i < 32) : bt (x <<< ((24 : Int32) &&& 31)) i = (decide (24 ≤ i) && bt x (i - 24)) := b_shl 24 (by omega) x hi
theorem bu_24 (x : Int32) (i : Nat) : bt ((x.toUInt32 >>> (Int32.toUInt32 24 &&& Int32.toUInt32 31)).toInt32) i = bt x (24 + i) := b_ushr 24 (by omega) x i
theorem bs_24 (x : Int32) {i : Nat} (hi : i < 32) : bt (x >>> ((24 : Int32) &&& 31)) i = if 24 + i < 32 then bt x (24 + i) else bt x 31 := b_sshr 24 (by omega) x hi
theorem bl_25 (x : Int32) {i : Nat} (hi : i < 32) : bt (x <<< ((25 : Int32) &&& 31)) i = (decide (25 ≤ i) && bt x (i - 25)) := b_shl 25 (by omega) x hi
theorem bu_25 (x : Int32) (i : Nat) : bt ((x.toUInt32 >>> (Int32.toUInt32 25 &&& Int32.toUInt32 31)).toInt32) i = bt x (25 + i) := b_ushr 25 (by omega) x i
theorem bs_25 (x : Int32) {i : Nat} (hi : i < 32) : bt (x >>> ((25 : Int32) &&& 31)) i = if 25 + i < 32 then bt x (25 + i) else bt x 31 := b_sshr 25 (by omega) x hi
theorem bl_26 (x : Int32) {i : Nat} (hi : i < 32) : bt (x <<< ((26 : Int32) &&& 31)) i = (decide (26 ≤ i) && bt x (i - 26)) := b_shl 26 (by omega) x hi
theorem bu_26 (x : Int32) (i : Nat) : bt ((x.toUInt32 >>> (Int32.toUInt32 26 &&& Int32.toUInt32 31)).toInt32) i = bt x (26 + i) := b_ushr 26 (by omega) x i
theorem bs_26 (x : Int32) {i : Nat} (hi : i < 32) : bt (x >>> ((26 : Int32) &&& 31)) i = if 26 + i < 32 then bt x (26 + i) else bt x 31 := b_sshr 26 (by omega) x hi
theorem bl_27 (x : Int32) {i : Nat} (hi : i < 32) : bt (x <<< ((27 : Int32) &&& 31)) i = (decide (27 ≤ i) && bt x (i - 27)) := b_shl 27 (by omega) x hi
theorem bu_27 (x : Int32) (i : Nat) : bt ((x.toUInt32 >>> (Int32.toUInt32 27 &&& Int32.toUInt32 31)).toInt32) i = bt x (27 + i) := b_ushr 27 (by omega) x i
theorem bs_27 (x : Int32) {i : Nat} (hi : i < 32) : bt (x >>> ((27 : Int32) &&& 31)) i = if 27 + i < 32 then bt x (27 + i) else bt x 31 := b_sshr 27 (by omega) x hi
theorem bl_28 (x : Int32) {i : Nat} (hi : i < 32) : bt (x <<< ((28 : Int32) &&& 31)) i = (decide (28 ≤ i) && bt x (i - 28)) := b_shl 28 (by omega) x hi
theorem bu_28 (x : Int32) (i : Nat) : bt ((x.toUInt32 >>> (Int32.toUInt32 28 &&& Int32.toUInt32 31)).toInt32) i = bt x (28 + i) := b_ushr 28 (by omega) x i
theorem bs_28 (x : Int32) {i : Nat} (hi : i < 32) : bt (x >>> ((28 : Int32) &&& 31)) i = if 28 + i < 32 then bt x (28 + i) else bt x 31 := b_sshr 28 (by omega) x hi
theorem bl_29 (x : Int32) {i : Nat} (hi : i < 32) : bt (x <<< ((29 : Int32) &&& 31)) i = (decide (29 ≤ i) && bt x (i - 29)) := b_shl 29 (by omega) x hi
theorem bu_29 (x : Int32) (i : Nat) : bt ((x.toUInt32 >>> (Int32.toUInt32 29 &&& Int32.toUInt32 31)).toInt32) i = bt x (29 + i) := b_ushr 29 (by omega) x i
theorem bs_29 (x : Int32) {i : Nat} (hi : i < 32) : bt (x >>> ((29 : Int32) &&& 31)) i = if 29 + i < 32 then bt x (29 + i) else bt x 31 := b_sshr 29 (by omega) x hi
theorem bl_30 (x : Int32) {i : Nat} (hi : i < 32) : bt (x <<< ((30 : Int32) &&& 31)) i = (decide (30 ≤ i) && bt x (i - 30)) := b_shl 30 (by omega) x hi
theorem bu_30 (x : Int32) (i : Nat) : bt ((x.toUInt32 >>> (Int32.toUInt32 30 &&& Int32.toUInt32 31)).toInt32) i = bt x (30 + i) := b_ushr 30 (by omega) x i
theorem bs_30 (x : Int32) {i : Nat} (hi : i < 32) : bt (x >>> ((30 : Int32) &&& 31)) i = if 30 + i < 32 then bt x (30 + i) else bt x 31 := b_sshr 30 (by omega) x hi
theorem bl_31 (x : Int32) {i : Nat} (hi : i < 32) : bt (x <<< ((31 : Int32) &&& 31)) i = (decide (31 ≤ i) && bt x (i - 31)) := b_shl 31 (by omega) x hi
theorem bu_31 (x : Int32) (i : Nat) : bt ((x.toUInt32 >>> (Int32.toUInt32 31 &&& Int32.toUInt32 31)).toInt32) i = bt x (31 + i) := b_ushr 31 (by omega) x i
theorem bs_31 (x : Int32) {i : Nat} (hi : i < 32) : bt (x >>> ((31 : Int32) &&& 31)) i = if 31 + i < 32 then bt x (31 + i) else bt x 31 := b_sshr 31 (by omega) x hi
theorem bm32 (x : Int) : x.bmod (2 ^ 32) = x - 4294967296 * ((x + 2147483648) / 4294967296) := by
  rw [Int.bmod_def]
  show (if x % 4294967296 < (4294967296 + 1) / 2 then x % 4294967296 else x % 4294967296 - 4294967296) = _
  split <;> omega
theorem bm32' (x : Int) : x.bmod 4294967296 = x - 4294967296 * ((x + 2147483648) / 4294967296) := bm32 x
theorem bmI {x : Int} (h1 : -2147483648 ≤ x) (h2 : x < 2147483648) : x.bmod 4294967296 = x := by rw [bm32']; omega
theorem bmI' {x : Int} (h1 : -2147483648 ≤ x) (h2 : x < 2147483648) : x.bmod (2 ^ 32) = x := bmI h1 h2
theorem tlo (x : Int32) : -2147483648 ≤ x.toInt := Int32.le_toInt x
theorem thi (x : Int32) : x.toInt < 2147483648 := Int32.toInt_lt x
theorem clampI (x : Int32) : x.toNatClampNeg = x.toInt.toNat := rfl
theorem toNatI (x : Int32) : (x.toBitVec.toNat : Int) = x.toInt % 4294967296 := by
  have : x.toInt = x.toBitVec.toInt := rfl
  rw [this, BitVec.toInt_eq_toNat_bmod, bm32]
  have := x.toBitVec.isLt
  omega
theorem andI (x : Int32) {m : Int32} (k : Nat) (hk : k < 32) (hm : m.toBitVec.toNat = 2 ^ k - 1) : (x &&& m).toInt = x.toInt % (2 ^ k : Nat) := by
  rw [pk_and x k hm, nI_toInt]
  · have h := toNatI x
    have : ((2 ^ k : Nat) : Int) ∣ 4294967296 := by
      have : (4294967296 : Int) = ((2 ^ 32 : Nat) : Int) := rfl
      rw [this]
      exact Int.natCast_dvd_natCast.mpr (Nat.pow_dvd_pow 2 (by omega))
    show (x.toBitVec.toNat : Int) % ((2 ^ k : Nat) : Int) = _
    rw [h, Int.emod_emod_of_dvd _ this]
  · calc _ < 2 ^ k := Nat.mod_lt _ (Nat.two_pow_pos k)
      _ ≤ 2 ^ 31 := Nat.pow_le_pow_right (by omega) (by omega)
theorem and1 (x : Int32) : (x &&& 1).toInt = x.toInt % 2 := andI x 1 (by omega) rfl
theorem and3 (x : Int32) : (x &&& 3).toInt = x.toInt % 4 := andI x 2 (by omega) rfl
theorem and7 (x : Int32) : (x &&& 7).toInt = x.toInt % 8 := andI x 3 (by omega) rfl
theorem and31 (x : Int32) : (x &&& 31).toInt = x.toInt % 32 := andI x 5 (by omega) rfl
theorem and127 (x : Int32) : (x &&& 127).toInt = x.toInt % 128 := andI x 7 (by omega) rfl
theorem and255 (x : Int32) : (x &&& 255).toInt = x.toInt % 256 := andI x 8 (by omega) rfl
theorem and65535 (x : Int32) : (x &&& 65535).toInt = x.toInt % 65536 := andI x 16 (by omega) rfl
theorem a3of (x : Int32) {j : Nat} (hj : j < 4) (h : x.toInt % 4 = j) : x &&& 3 = nI j := by
  apply Int32.toInt_inj.mp
  rw [and3, nI_toInt (by omega), h]
theorem a2of (x : Int32) {j : Nat} (hj : j < 4) (h : x.toInt % 4 = j) : x &&& 2 = nI j &&& 2 := by
  rw [← a3of x hj h, Int32.and_assoc]
  rfl
theorem shrI (x : Int32) (n : Nat) (hn : n < 32) : (x >>> (nI n &&& 31)).toInt = x.toInt / (2 ^ n : Nat) := by
  rw [pk_shr x (nI n &&& 31) n (s_l n hn), Int.shiftRight_eq_div_pow]
theorem shr2 (x : Int32) : (x >>> ((2 : Int32) &&& 31)).toInt = x.toInt / 4 := shrI x 2 (by omega)

theorem b_i2b (x : Int32) {i : Nat} (hi : i < 32) : bt (x.toInt8.toInt32) i = bt x (if i < 8 then i else 7) := by
  unfold bt
  rw [Int8.toBitVec_toInt32, Int32.toBitVec_toInt8, BitVec.getLsbD_signExtend, BitVec.msb_eq_getLsbD_last]
  simp only [BitVec.getLsbD_signExtend]
  by_cases h : i < 8
  · simp [h, hi]
  · simp [h, hi]
theorem b_i2s (x : Int32) {i : Nat} (hi : i < 32) : bt (x.toInt16.toInt32) i = bt x (if i < 16 then i else 15) := by
  unfold bt
  rw [Int16.toBitVec_toInt32, Int32.toBitVec_toInt16, BitVec.getLsbD_signExtend, BitVec.msb_eq_getLsbD_last]
  simp only [BitVec.getLsbD_signExtend]
  by_cases h : i < 16
  · simp [h, hi]
  · simp [h, hi]
/-- byte j of a word, without and with sign -/
def by8 (w : Int32) (j : Nat) : Int32 := it_us w (nI (8 * j)) &&& 255
def sb8 (w : Int32) (j : Nat) : Int32 := it_i2b (it_shr w (nI (8 * j)))
theorem bt_by8 (w : Int32) {j : Nat} (hj : j < 4) (i : Nat) : bt (by8 w j) i = (bt w (8 * j + i) && decide (i < 8)) := by
  rw [by8, b_and, it_us, b_ushr (8 * j) (by omega), b_255]
theorem bt_sb8 (w : Int32) {j : Nat} (hj : j < 4) {i : Nat} (hi : i < 32) : bt (sb8 w j) i = bt w (8 * j + (if i < 8 then i else 7)) := by
  rw [sb8, it_i2b, b_i2b _ hi, it_shr, b_sshr (8 * j) (by omega) _ (by split <;> omega), if_pos (by split <;> omega)]
theorem sb_by (w : Int32) {j : Nat} (hj : j < 4) : sb8 w j &&& 255 = by8 w j := b_ext (fun i hi => by
  rw [b_and, bt_sb8 w hj hi, bt_by8 w hj, b_255]
  by_cases h : i < 8
  · simp [h]
  · simp [h])
theorem sb_inj {w v : Int32} {j k : Nat} (hj : j < 4) (hk : k < 4) : sb8 w j = sb8 v k ↔ by8 w j = by8 v k := by
  constructor
  · intro h; rw [← sb_by w hj, ← sb_by v hk, h]
  · intro h
    refine b_ext (fun i hi => ?_)
    rw [bt_sb8 w hj hi, bt_sb8 v hk hi]
    have := congrArg (fun x => bt x (if i < 8 then i else 7)) h
    simp only [bt_by8 w hj, bt_by8 v hk] at this
    have e : (if i < 8 then i else 7) < 8 := by split <;> omega
    simpa [e] using this
theorem half_lo (w : Int32) : by8 w 0 ||| it_shl (by8 w 1) 8 = w &&& 65535 := b_ext (fun i hi => by
  rw [b_or, it_shl, bl_8 _ hi, bt_by8 w (by omega), bt_by8 w (by omega), b_and, b_65535]
  by_cases h : i < 8
  · simp [h, show ¬ 8 ≤ i by omega, show i < 16 by omega]
  · by_cases h2 : i < 16
    · simp [h, h2, show 8 ≤ i by omega, show i - 8 < 8 by omega, show 8 + (i - 8) = i by omega]
    · simp [h, h2, show ¬ i - 8 < 8 by omega])
theorem half_hi (w : Int32) : by8 w 2 ||| it_shl (by8 w 3) 8 = it_us w 16 &&& 65535 := b_ext (fun i hi => by
  rw [b_or, it_shl, bl_8 _ hi, bt_by8 w (by omega), bt_by8 w (by omega), b_and, b_65535, it_us, bu_16]
  by_cases h : i < 8
  · simp [h, show ¬ 8 ≤ i by omega, show i < 16 by omega]
  · by_cases h2 : i < 16
    · simp [h, h2, show 8 ≤ i by omega, show i - 8 < 8 by omega, show 24 + (i - 8) = 16 + i by omega]
    · simp [h, h2, show ¬ i - 8 < 8 by omega])
theorem word_of (w : Int32) : (w &&& 65535) ||| it_shl (it_us w 16 &&& 65535) 16 = w := b_ext (fun i hi => by
  rw [b_or, it_shl, bl_16 _ hi, b_and, b_and, b_65535, b_65535, it_us, bu_16]
  by_cases h : i < 16
  · simp [h, show ¬ 16 ≤ i by omega]
  · simp [h, show 16 ≤ i by omega, show i - 16 < 16 by omega, show 16 + (i - 16) = i by omega])
theorem bt_not (x : Int32) {i : Nat} (hi : i < 32) : bt (x ^^^ (-1)) i = !bt x i := by rw [b_xor, b_m1 i hi]; simp
/-- setByte of the class -/
def pB (w v : Int32) (j : Nat) : Int32 := (w &&& (it_shl 255 (nI (8 * j)) ^^^ (-1 : Int32))) ||| it_shl (v &&& 255) (nI (8 * j))
theorem bt_pB (w v : Int32) {j : Nat} (hj : j < 4) {i : Nat} (hi : i < 32) : bt (pB w v j) i = if 8 * j ≤ i ∧ i < 8 * j + 8 then bt v (i - 8 * j) else bt w i := by
  rw [pB, b_or, b_and, bt_not _ hi, it_shl, it_shl, b_shl (8 * j) (by omega) _ hi, b_shl (8 * j) (by omega) _ hi, b_255, b_and, b_255]
  by_cases h : 8 * j ≤ i
  · by_cases h2 : i < 8 * j + 8
    · simp [h, h2, show i - 8 * j < 8 by omega]
    · simp [h, h2, show ¬ i - 8 * j < 8 by omega]
  · simp [h]
theorem sb_pB (w v : Int32) {j k : Nat} (hj : j < 4) (hk : k < 4) : sb8 (pB w v j) k = if k = j then it_i2b v else sb8 w k := by
  refine b_ext (fun i hi => ?_)
  rw [bt_sb8 _ hk hi, bt_pB w v hj (by split <;> omega)]
  by_cases h : k = j
  · subst h
    rw [if_pos rfl, if_pos (by split <;> omega), it_i2b, b_i2b _ hi]
    congr 1
    omega
  · rw [if_neg h, if_neg (by split <;> omega), bt_sb8 _ hk hi]
/-- setHalf of the class: j is 0 or 2 -/
def pH (w v : Int32) (j : Nat) : Int32 := (w &&& (it_shl 65535 (nI (8 * j)) ^^^ (-1 : Int32))) ||| it_shl (v &&& 65535) (nI (8 * j))
theorem bt_pH (w v : Int32) {j : Nat} (hj : j = 0 ∨ j = 2) {i : Nat} (hi : i < 32) : bt (pH w v j) i = if 8 * j ≤ i ∧ i < 8 * j + 16 then bt v (i - 8 * j) else bt w i := by
  rw [pH, b_or, b_and, bt_not _ hi, it_shl, it_shl, b_shl (8 * j) (by omega) _ hi, b_shl (8 * j) (by omega) _ hi, b_65535, b_and, b_65535]
  by_cases h : 8 * j ≤ i
  · by_cases h2 : i < 8 * j + 16
    · simp [h, h2, show i - 8 * j < 16 by omega]
    · simp [h, h2, show ¬ i - 8 * j < 16 by omega]
  · simp [h]
theorem sb_pH (w v : Int32) {j k : Nat} (hj : j = 0 ∨ j = 2) (hk : k < 4) : sb8 (pH w v j) k = if k = j ∨ k = j + 1 then sb8 v (k - j) else sb8 w k := by
  refine b_ext (fun i hi => ?_)
  rw [bt_sb8 _ hk hi, bt_pH w v hj (by split <;> omega)]
  by_cases h : k = j ∨ k = j + 1
  · rw [if_pos h, if_pos (by split <;> omega), bt_sb8 _ (by omega) hi]
    congr 1
    split <;> omega
  · rw [if_neg h, if_neg (by split <;> omega), bt_sb8 _ hk hi]
theorem i2b_sb (w : Int32) {j : Nat} (hj : j < 4) : it_i2b (sb8 w j) = sb8 w j := b_ext (fun i hi => by
  rw [it_i2b, b_i2b _ hi, bt_sb8 _ hj hi, bt_sb8 _ hj (by split <;> omega)]
  congr 2
  split <;> simp [*])
theorem i2b_i2b (x : Int32) : it_i2b (it_i2b x) = it_i2b x := b_ext (fun i hi => by
  rw [it_i2b, b_i2b _ hi, it_i2b, b_i2b _ (by split <;> omega), b_i2b _ hi]
  congr 1
  split <;> simp [*])
theorem sw_m1 (w : Int32) : w = -1 ↔ ∀ j, j < 4 → sb8 w j = -1 := by
  constructor
  · rintro rfl j hj
    refine b_ext (fun i hi => ?_)
    rw [bt_sb8 _ hj hi, b_m1 _ (by split <;> omega), b_m1 _ hi]
  · intro h
    refine b_ext (fun i hi => ?_)
    have := congrArg (fun x => bt x (i % 8)) (h (i / 8) (by omega))
    simp only [bt_sb8 w (show i / 8 < 4 by omega) (show i % 8 < 32 by omega), b_m1 (i % 8) (by omega)] at this
    rw [b_m1 i hi, ← this, if_pos (by omega), show 8 * (i / 8) + i % 8 = i by omega]
theorem sb_0 {j : Nat} (hj : j < 4) : sb8 0 j = 0 := b_ext (fun i hi => by rw [bt_sb8 _ hj hi, b_0, b_0])

