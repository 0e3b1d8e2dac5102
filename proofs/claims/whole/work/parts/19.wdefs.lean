/-! For each method a formula: what must hold ahead of it, so that it ends with Φ. Written by wip/whole/gen_wp.py -/
abbrev it_shl (x y : Int32) : Int32 := x <<< (y &&& 31)
abbrev it_shr (x y : Int32) : Int32 := x >>> (y &&& 31)
abbrev it_us (x y : Int32) : Int32 := (x.toUInt32 >>> (y.toUInt32 &&& Int32.toUInt32 31)).toInt32
abbrev it_rem (x y : Int32) : Int32 := x - x / y * y
abbrev it_lrem (x y : Int64) : Int64 := x - x / y * y
abbrev it_lshr (x : Int64) (y : Int32) : Int64 := x >>> (y.toInt64 &&& 63)
abbrev it_lus (x : Int64) (y : Int32) : Int64 := (x.toUInt64 >>> (y.toInt64.toUInt64 &&& Int64.toUInt64 63)).toInt64
abbrev it_i2b (x : Int32) : Int32 := x.toInt8.toInt32
abbrev it_i2s (x : Int32) : Int32 := x.toInt16.toInt32
abbrev it_max (x y : Int32) : Int32 := if x < y then y else x
abbrev it_min (x y : Int32) : Int32 := if y < x then y else x
/-- the length of an array of numbers -/
def it_alen (c : Nat) : Nat := match it_sh0[c]? with
  | some (.inr (.inl (_, n))) => n
  | _ => 0
/-- places a .. b - 1 of an array hold v -/
def it_fil (m : it_Me) (c a b : Nat) (v : Int32) : it_Me := it_up m c (fun i => if a ≤ i ∧ i < b then v else m c i)
/-- java/util/Arrays.fill([II)V -/
def w_361 (kc : it_Kc) (x0 : Nat) (x1 : Int32) (m : it_Me) (Φ : it_Me → Prop) : Prop := Φ (it_fil m x0 0 (it_alen x0) x1)
/-- java/util/Arrays.fill([IIII)V -/
def w_362 (kc : it_Kc) (x0 : Nat) (x1 x2 x3 : Int32) (m : it_Me) (Φ : it_Me → Prop) : Prop := (0 ≤ x1 ∧ x1 ≤ x2 ∧ x2 ≤ Int32.ofNat (it_alen x0)) ∧ Φ (it_fil m x0 (Int32.toNatClampNeg x1) (Int32.toNatClampNeg x2) x3)
/-- GrantBoard$Cells.getWord(I)I -/
def w_12_12 (kc : it_Kc) (Φ : Int32 → it_Me → Prop) (m : it_Me) : Prop :=
  Φ (0 : Int32) m
def w_12 (kc : it_Kc) (x0 : Int32) (m : it_Me) (Φ : Int32 → it_Me → Prop) : Prop :=
  (x0 < (65536 : Int32) → w_12_12 kc Φ m) ∧ (¬ x0 < (65536 : Int32) → (x0 < (196608 : Int32) → vp_in (it_shr (x0 - (65536 : Int32)) (2 : Int32)) 32768 ∧ (Φ (m 2 (Int32.toNatClampNeg (it_shr (x0 - (65536 : Int32)) (2 : Int32)))) m)) ∧ (¬ x0 < (196608 : Int32) → w_12_12 kc Φ m))
/-- GrantBoard$Cells.getHalf(I)I -/
def w_14_12 (kc : it_Kc) (Φ : Int32 → it_Me → Prop) (m : it_Me) : Prop :=
  Φ (0 : Int32) m
def w_14 (kc : it_Kc) (x0 : Int32) (m : it_Me) (Φ : Int32 → it_Me → Prop) : Prop :=
  (x0 < (65536 : Int32) → w_14_12 kc Φ m) ∧ (¬ x0 < (65536 : Int32) → (x0 < (196608 : Int32) → vp_in (it_shr (x0 - (65536 : Int32)) (2 : Int32)) 32768 ∧ (Φ ((it_us (m 2 (Int32.toNatClampNeg (it_shr (x0 - (65536 : Int32)) (2 : Int32)))) (it_shl (x0 &&& (2 : Int32)) (3 : Int32))) &&& (65535 : Int32)) m)) ∧ (¬ x0 < (196608 : Int32) → w_14_12 kc Φ m))
/-- GrantBoard$AppHead.readFrame(I)Z -/
def w_1_140 (kc : it_Kc) (Φ : Int32 → it_Me → Prop) (u0 : Int32) (m : it_Me) : Prop :=
  (u0 = 0 ∨ u0 = 1) ∧ Φ u0 m
def w_1_139 (kc : it_Kc) (Φ : Int32 → it_Me → Prop) (m : it_Me) : Prop :=
  w_1_140 kc Φ (0 : Int32) m
def w_1_114 (kc : it_Kc) (Φ : Int32 → it_Me → Prop) (v0 : Nat) (v1 : Int32) (v2 : Int32) (u0 : Int32) (m : it_Me) : Prop :=
  w_14 kc v1 m (fun r1 m2 => (r1 = (2 : Int32) → (v2 = 0 → w_1_139 kc Φ m2) ∧ (¬ v2 = 0 → (u0 = 0 → w_1_139 kc Φ m2) ∧ (¬ u0 = 0 → w_1_140 kc Φ (1 : Int32) m2))) ∧ (¬ r1 = (2 : Int32) → w_1_139 kc Φ m2))
def w_1_113 (kc : it_Kc) (Φ : Int32 → it_Me → Prop) (v0 : Nat) (v1 : Int32) (v2 : Int32) (m : it_Me) : Prop :=
  w_1_114 kc Φ v0 v1 v2 (0 : Int32) m
def w_1_77 (kc : it_Kc) (Φ : Int32 → it_Me → Prop) (v0 : Nat) (v1 : Int32) (u0 : Int32) (m : it_Me) : Prop :=
  (((m v0 3) &&& (3 : Int32)) = 0 → ((m v0 3) < (m v0 2) → w_1_113 kc Φ v0 v1 u0 m) ∧ (¬ (m v0 3) < (m v0 2) → (((126976 : Int32) - v1) < (m v0 3) → w_1_113 kc Φ v0 v1 u0 m) ∧ (¬ ((126976 : Int32) - v1) < (m v0 3) → w_1_114 kc Φ v0 v1 u0 (1 : Int32) m))) ∧ (¬ ((m v0 3) &&& (3 : Int32)) = 0 → w_1_113 kc Φ v0 v1 u0 m)
def w_1_76 (kc : it_Kc) (Φ : Int32 → it_Me → Prop) (v0 : Nat) (v1 : Int32) (m : it_Me) : Prop :=
  w_1_77 kc Φ v0 v1 (0 : Int32) m
def w_1 (kc : it_Kc) (k : Nat) (x0 : Int32) (m : it_Me) (Φ : Int32 → it_Me → Prop) : Prop :=
  ((16 : Int32) ≤ ((126976 : Int32) - x0) → w_14 kc (x0 + (2 : Int32)) (it_sv m k 1 x0) (fun r1 m2 => w_12 kc (x0 + (4 : Int32)) (it_sv m2 k 2 r1) (fun r3 m4 => (((it_sv m4 k 3 r3) k 2) < (16 : Int32) → w_1_76 kc Φ k x0 (it_sv m4 k 3 r3)) ∧ (¬ ((it_sv m4 k 3 r3) k 2) < (16 : Int32) → ((512 : Int32) < ((it_sv m4 k 3 r3) k 2) → w_1_76 kc Φ k x0 (it_sv m4 k 3 r3)) ∧ (¬ (512 : Int32) < ((it_sv m4 k 3 r3) k 2) → ((((it_sv m4 k 3 r3) k 2) &&& (3 : Int32)) = 0 → w_1_77 kc Φ k x0 (1 : Int32) (it_sv m4 k 3 r3)) ∧ (¬ (((it_sv m4 k 3 r3) k 2) &&& (3 : Int32)) = 0 → w_1_76 kc Φ k x0 (it_sv m4 k 3 r3))))))) ∧ (¬ (16 : Int32) ≤ ((126976 : Int32) - x0) → Φ (0 : Int32) m)
/-- GrantBoard$AppHead.takeElement(III)V -/
def w_4_157 (kc : it_Kc) (Φ : it_Me → Prop) (m : it_Me) : Prop :=
  Φ m
def w_4_115 (kc : it_Kc) (Φ : it_Me → Prop) (v0 : Nat) (v1 : Int32) (v2 : Int32) (v3 : Int32) (m : it_Me) : Prop :=
  (v1 = (8 : Int32) → (v2 < (8 : Int32) → w_4_157 kc Φ m) ∧ (¬ v2 < (8 : Int32) → ((64 : Int32) < v2 → w_4_157 kc Φ m) ∧ (¬ (64 : Int32) < v2 → ((v2 &&& (7 : Int32)) = 0 → ((m v0 13) = 0 → w_4_157 kc Φ (it_sv (it_sv m v0 13 v3) v0 14 v2)) ∧ (¬ (m v0 13) = 0 → w_4_157 kc Φ m)) ∧ (¬ (v2 &&& (7 : Int32)) = 0 → w_4_157 kc Φ m)))) ∧ (¬ v1 = (8 : Int32) → w_4_157 kc Φ m)
def w_4_89 (kc : it_Kc) (Φ : it_Me → Prop) (v0 : Nat) (v1 : Int32) (v2 : Int32) (v3 : Int32) (m : it_Me) : Prop :=
  (v1 = (7 : Int32) → (v2 = (4 : Int32) → ((m v0 12) = 0 → w_4_157 kc Φ (it_sv m v0 12 v3)) ∧ (¬ (m v0 12) = 0 → w_4_115 kc Φ v0 v1 v2 v3 m)) ∧ (¬ v2 = (4 : Int32) → w_4_115 kc Φ v0 v1 v2 v3 m)) ∧ (¬ v1 = (7 : Int32) → w_4_115 kc Φ v0 v1 v2 v3 m)
def w_4_53 (kc : it_Kc) (Φ : it_Me → Prop) (v0 : Nat) (v1 : Int32) (v2 : Int32) (v3 : Int32) (m : it_Me) : Prop :=
  (v1 = (3 : Int32) → (v2 < (1 : Int32) → w_4_89 kc Φ v0 v1 v2 v3 m) ∧ (¬ v2 < (1 : Int32) → ((16 : Int32) < v2 → w_4_89 kc Φ v0 v1 v2 v3 m) ∧ (¬ (16 : Int32) < v2 → ((m v0 10) = 0 → w_4_157 kc Φ (it_sv (it_sv m v0 10 v3) v0 11 v2)) ∧ (¬ (m v0 10) = 0 → w_4_89 kc Φ v0 v1 v2 v3 m)))) ∧ (¬ v1 = (3 : Int32) → w_4_89 kc Φ v0 v1 v2 v3 m)
def w_4_26 (kc : it_Kc) (Φ : it_Me → Prop) (v0 : Nat) (v1 : Int32) (v2 : Int32) (v3 : Int32) (m : it_Me) : Prop :=
  (v1 = (9 : Int32) → (v2 = (20 : Int32) → ((m v0 9) = 0 → w_4_157 kc Φ (it_sv m v0 9 v3)) ∧ (¬ (m v0 9) = 0 → w_4_53 kc Φ v0 v1 v2 v3 m)) ∧ (¬ v2 = (20 : Int32) → w_4_53 kc Φ v0 v1 v2 v3 m)) ∧ (¬ v1 = (9 : Int32) → w_4_53 kc Φ v0 v1 v2 v3 m)
def w_4 (kc : it_Kc) (k : Nat) (x0 : Int32) (x1 : Int32) (x2 : Int32) (m : it_Me) (Φ : it_Me → Prop) : Prop :=
  (x0 = (1 : Int32) → (x1 = (12 : Int32) → ((m k 8) = 0 → w_4_157 kc Φ (it_sv m k 8 x2)) ∧ (¬ (m k 8) = 0 → w_4_26 kc Φ k x0 x1 x2 m)) ∧ (¬ x1 = (12 : Int32) → w_4_26 kc Φ k x0 x1 x2 m)) ∧ (¬ x0 = (1 : Int32) → w_4_26 kc Φ k x0 x1 x2 m)
/-- GrantBoard.roundUp(I)I -/
def w_216 (kc : it_Kc) (x0 : Int32) (m : it_Me) (Φ : Int32 → it_Me → Prop) : Prop :=
  Φ ((x0 + (3 : Int32)) &&& (-4 : Int32)) m
/-- GrantBoard$AppHead.readElements()Z -/
def w_3_30 (kc : it_Kc) (Φ : Int32 → it_Me → Prop) (K79 : it_Me → Prop) (K116 : it_Me → Prop) : Nat → Nat → Int32 → Int32 → it_Me → Prop
  | 0, _, _, _, _ => False
  | n30 + 1, v0, v1, v2, m =>
  ((124 : Int32) ≤ v2 → K116 m) ∧ (¬ (124 : Int32) ≤ v2 → ((m v0 2) ≤ v1 → K116 m) ∧ (¬ (m v0 2) ≤ v1 → w_14 kc (((m v0 1) + v1) + (2 : Int32)) m (fun r1 m2 => w_216 kc r1 m2 (fun r3 m4 => (((v1 + (4 : Int32)) + r3) ≤ (m4 v0 2) → w_14 kc ((m4 v0 1) + v1) m4 (fun r5 m6 => w_4 kc v0 r5 r1 (((m6 v0 1) + v1) + (4 : Int32)) m6 (fun m7 => (w_3_30 kc Φ K79 K116 n30) v0 ((v1 + (4 : Int32)) + r3) (v2 + (1 : Int32)) m7))) ∧ (¬ ((v1 + (4 : Int32)) + r3) ≤ (m4 v0 2) → K79 m4)))))
def w_3_79 (kc : it_Kc) (Φ : Int32 → it_Me → Prop) (m : it_Me) : Prop :=
  Φ (0 : Int32) m
def w_3_116 (kc : it_Kc) (Φ : Int32 → it_Me → Prop) (m : it_Me) : Prop :=
  Φ (1 : Int32) m
def w_3 (kc : it_Kc) (k : Nat) (m : it_Me) (Φ : Int32 → it_Me → Prop) : Prop :=
  ∃ e, w_3_30 kc Φ (fun m => w_3_79 kc Φ m) (fun m => w_3_116 kc Φ m) e k (16 : Int32) (0 : Int32) (it_sv (it_sv (it_sv (it_sv (it_sv m k 8 (0 : Int32)) k 9 (0 : Int32)) k 10 (0 : Int32)) k 12 (0 : Int32)) k 13 (0 : Int32))
/-- GrantBoard$AppHead.readRest()Z -/
def w_2_4 (kc : it_Kc) (Φ : Int32 → it_Me → Prop) (K34 : Nat → Int32 → it_Me → Prop) : Nat → Nat → Int32 → Int32 → it_Me → Prop
  | 0, _, _, _, _ => False
  | n4 + 1, v0, v1, v2, m =>
  ((m v0 2) ≤ v2 → K34 v0 v1 m) ∧ (¬ (m v0 2) ≤ v2 → w_12 kc ((m v0 1) + v2) m (fun r1 m2 => (w_2_4 kc Φ K34 n4) v0 (v1 ^^^ r1) (v2 + (4 : Int32)) m2))
def w_2_75 (kc : it_Kc) (Φ : Int32 → it_Me → Prop) (m : it_Me) : Prop :=
  Φ (0 : Int32) m
def w_2_187 (kc : it_Kc) (Φ : Int32 → it_Me → Prop) (u0 : Int32) (m : it_Me) : Prop :=
  (u0 = 0 ∨ u0 = 1) ∧ Φ u0 m
def w_2_175 (kc : it_Kc) (Φ : Int32 → it_Me → Prop) (v3 : Int32) (u0 : Nat) (u1 : Int32) (m : it_Me) : Prop :=
  (v3 = 0 → w_2_187 kc Φ (0 : Int32) (it_sv m u0 7 u1)) ∧ (¬ v3 = 0 → w_2_187 kc Φ (1 : Int32) (it_sv m u0 7 u1))
def w_2_149 (kc : it_Kc) (Φ : Int32 → it_Me → Prop) (v0 : Nat) (v3 : Int32) (u0 : Nat) (u1 : Int32) (m : it_Me) : Prop :=
  (((it_sv m u0 6 u1) v0 9) = 0 → w_2_175 kc Φ v3 v0 (0 : Int32) (it_sv m u0 6 u1)) ∧ (¬ ((it_sv m u0 6 u1) v0 9) = 0 → w_12 kc (v3 + (16 : Int32)) (it_sv m u0 6 u1) (fun r1 m2 => w_2_175 kc Φ v3 v0 r1 m2))
def w_2_95 (kc : it_Kc) (Φ : Int32 → it_Me → Prop) (v0 : Nat) (u0 : Int32) (m : it_Me) : Prop :=
  w_12 kc u0 m (fun r1 m2 => w_12 kc (u0 + (8 : Int32)) (it_sv m2 v0 4 r1) (fun r3 m4 => (((it_sv m4 v0 5 r3) v0 9) = 0 → w_2_149 kc Φ v0 u0 v0 ((it_sv m4 v0 5 r3) v0 3) (it_sv m4 v0 5 r3)) ∧ (¬ ((it_sv m4 v0 5 r3) v0 9) = 0 → w_12 kc (u0 + (12 : Int32)) (it_sv m4 v0 5 r3) (fun r5 m6 => w_2_149 kc Φ v0 u0 v0 r5 m6))))
def w_2_59 (kc : it_Kc) (Φ : Int32 → it_Me → Prop) (v0 : Nat) (v1 : Int32) (u0 : Int32) (m : it_Me) : Prop :=
  (v1 = 0 → (u0 = 0 → w_2_75 kc Φ m) ∧ (¬ u0 = 0 → w_3 kc v0 m (fun r1 m2 => (r1 = 0 → w_2_75 kc Φ m2) ∧ (¬ r1 = 0 → ((m2 v0 9) = 0 → w_2_95 kc Φ v0 (m2 v0 8) m2) ∧ (¬ (m2 v0 9) = 0 → w_2_95 kc Φ v0 (m2 v0 9) m2))))) ∧ (¬ v1 = 0 → w_2_75 kc Φ m)
def w_2_34 (kc : it_Kc) (Φ : Int32 → it_Me → Prop) (v0 : Nat) (v1 : Int32) (m : it_Me) : Prop :=
  w_12 kc ((m v0 1) + (8 : Int32)) m (fun r1 m2 => ((r1 &&& (1 : Int32)) = (1 : Int32) → w_2_59 kc Φ v0 v1 (1 : Int32) m2) ∧ (¬ (r1 &&& (1 : Int32)) = (1 : Int32) → w_2_59 kc Φ v0 v1 (0 : Int32) m2))
def w_2 (kc : it_Kc) (k : Nat) (m : it_Me) (Φ : Int32 → it_Me → Prop) : Prop :=
  ∃ e, w_2_4 kc Φ (fun v0 v1 m => w_2_34 kc Φ v0 v1 m) e k (0 : Int32) (0 : Int32) m
/-- GrantBoard$Cells.getByte(I)I -/
def w_16_12 (kc : it_Kc) (Φ : Int32 → it_Me → Prop) (m : it_Me) : Prop :=
  Φ (0 : Int32) m
def w_16 (kc : it_Kc) (x0 : Int32) (m : it_Me) (Φ : Int32 → it_Me → Prop) : Prop :=
  (x0 < (65536 : Int32) → w_16_12 kc Φ m) ∧ (¬ x0 < (65536 : Int32) → (x0 < (196608 : Int32) → vp_in (it_shr (x0 - (65536 : Int32)) (2 : Int32)) 32768 ∧ (Φ ((it_us (m 2 (Int32.toNatClampNeg (it_shr (x0 - (65536 : Int32)) (2 : Int32)))) (it_shl (x0 &&& (3 : Int32)) (3 : Int32))) &&& (255 : Int32)) m)) ∧ (¬ x0 < (196608 : Int32) → w_16_12 kc Φ m))
/-- GrantBoard$Cells.crc(II)I -/
def w_21_5 (kc : it_Kc) (Φ : Int32 → it_Me → Prop) (K42 : Int32 → it_Me → Prop) : Nat → Int32 → Int32 → Int32 → Int32 → it_Me → Prop
  | 0, _, _, _, _, _ => False
  | n5 + 1, v1, v2, v3, v4, m =>
  (v2 ≤ v4 → K42 v3 m) ∧ (¬ v2 ≤ v4 → w_16 kc (v1 + v4) m (fun r1 m2 => vp_in ((v3 ^^^ r1) &&& (255 : Int32)) 256 ∧ ((w_21_5 kc Φ K42 n5) v1 v2 ((it_us v3 (8 : Int32)) ^^^ (m2 3 (Int32.toNatClampNeg ((v3 ^^^ r1) &&& (255 : Int32))))) (v4 + (1 : Int32)) m2)))
def w_21_42 (kc : it_Kc) (Φ : Int32 → it_Me → Prop) (v3 : Int32) (m : it_Me) : Prop :=
  Φ (v3 ^^^ (-1 : Int32)) m
def w_21 (kc : it_Kc) (x0 : Int32) (x1 : Int32) (m : it_Me) (Φ : Int32 → it_Me → Prop) : Prop :=
  ∃ e, w_21_5 kc Φ (fun v3 m => w_21_42 kc Φ v3 m) e x0 x1 (-1 : Int32) (0 : Int32) m
/-- GrantBoard$AppHead.hasCredentials()Z -/
def w_5_34 (kc : it_Kc) (Φ : Int32 → it_Me → Prop) (m : it_Me) : Prop :=
  Φ (0 : Int32) m
def w_5_133 (kc : it_Kc) (Φ : Int32 → it_Me → Prop) (u0 : Int32) (m : it_Me) : Prop :=
  (u0 = 0 ∨ u0 = 1) ∧ Φ u0 m
def w_5_132 (kc : it_Kc) (Φ : Int32 → it_Me → Prop) (m : it_Me) : Prop :=
  w_5_133 kc Φ (0 : Int32) m
def w_5_94 (kc : it_Kc) (Φ : Int32 → it_Me → Prop) (v0 : Nat) (v1 : Int32) (u0 : Int32) (m : it_Me) : Prop :=
  (u0 = 0 → w_5_132 kc Φ m) ∧ (¬ u0 = 0 → w_12 kc (v1 + (8 : Int32)) m (fun r1 m2 => w_21 kc (m2 v0 1) (m2 v0 6) m2 (fun r3 m4 => (r1 = r3 → w_5_133 kc Φ (1 : Int32) m4) ∧ (¬ r1 = r3 → w_5_132 kc Φ m4))))
def w_5_93 (kc : it_Kc) (Φ : Int32 → it_Me → Prop) (v0 : Nat) (v1 : Int32) (m : it_Me) : Prop :=
  w_5_94 kc Φ v0 v1 (0 : Int32) m
def w_5 (kc : it_Kc) (k : Nat) (m : it_Me) (Φ : Int32 → it_Me → Prop) : Prop :=
  (((m k 6) &&& (3 : Int32)) = 0 → ((m k 6) < (m k 2) → w_5_34 kc Φ m) ∧ (¬ (m k 6) < (m k 2) → ((m k 6) ≤ ((m k 3) - (12 : Int32)) → w_14 kc ((m k 1) + (m k 6)) m (fun r1 m2 => (r1 = (128 : Int32) → w_14 kc (((m k 1) + (m k 6)) + (2 : Int32)) m2 (fun r3 m4 => (r3 = (8 : Int32) → w_12 kc (((m k 1) + (m k 6)) + (4 : Int32)) m4 (fun r5 m6 => (r5 = (1 : Int32) → w_5_94 kc Φ k ((m k 1) + (m k 6)) (1 : Int32) m6) ∧ (¬ r5 = (1 : Int32) → w_5_93 kc Φ k ((m k 1) + (m k 6)) m6))) ∧ (¬ r3 = (8 : Int32) → w_5_93 kc Φ k ((m k 1) + (m k 6)) m4))) ∧ (¬ r1 = (128 : Int32) → w_5_93 kc Φ k ((m k 1) + (m k 6)) m2))) ∧ (¬ (m k 6) ≤ ((m k 3) - (12 : Int32)) → w_5_34 kc Φ m))) ∧ (¬ ((m k 6) &&& (3 : Int32)) = 0 → w_5_34 kc Φ m)
/-- GrantBoard$AppHead.mayLoad(Z)Z -/
def w_6_33 (kc : it_Kc) (Φ : Int32 → it_Me → Prop) (u0 : Int32) (m : it_Me) : Prop :=
  (u0 = 0 ∨ u0 = 1) ∧ Φ u0 m
def w_6_28 (kc : it_Kc) (Φ : Int32 → it_Me → Prop) (m : it_Me) : Prop :=
  w_6_33 kc Φ (1 : Int32) m
def w_6_32 (kc : it_Kc) (Φ : Int32 → it_Me → Prop) (m : it_Me) : Prop :=
  w_6_33 kc Φ (0 : Int32) m
def w_6 (kc : it_Kc) (k : Nat) (x0 : Int32) (m : it_Me) (Φ : Int32 → it_Me → Prop) : Prop :=
  ((m k 5) < 0 → w_6_32 kc Φ m) ∧ (¬ (m k 5) < 0 → ((15872 : Int32) < (m k 5) → w_6_32 kc Φ m) ∧ (¬ (15872 : Int32) < (m k 5) → (x0 = 0 → w_6_28 kc Φ m) ∧ (¬ x0 = 0 → w_5 kc k m (fun r1 m2 => (r1 = 0 → w_6_32 kc Φ m2) ∧ (¬ r1 = 0 → w_6_28 kc Φ m2)))))
/-- GrantBoard$Cells.sameBytes(III)Z -/
def w_20_3 (kc : it_Kc) (Φ : Int32 → it_Me → Prop) (K28 : it_Me → Prop) (K36 : it_Me → Prop) : Nat → Int32 → Int32 → Int32 → Int32 → it_Me → Prop
  | 0, _, _, _, _, _ => False
  | n3 + 1, v1, v2, v3, v4, m =>
  (v3 ≤ v4 → K36 m) ∧ (¬ v3 ≤ v4 → w_16 kc (v1 + v4) m (fun r1 m2 => w_16 kc (v2 + v4) m2 (fun r3 m4 => (r1 = r3 → (w_20_3 kc Φ K28 K36 n3) v1 v2 v3 (v4 + (1 : Int32)) m4) ∧ (¬ r1 = r3 → K28 m4))))
def w_20_28 (kc : it_Kc) (Φ : Int32 → it_Me → Prop) (m : it_Me) : Prop :=
  Φ (0 : Int32) m
def w_20_36 (kc : it_Kc) (Φ : Int32 → it_Me → Prop) (m : it_Me) : Prop :=
  Φ (1 : Int32) m
def w_20 (kc : it_Kc) (x0 : Int32) (x1 : Int32) (x2 : Int32) (m : it_Me) (Φ : Int32 → it_Me → Prop) : Prop :=
  ∃ e, w_20_3 kc Φ (fun m => w_20_28 kc Φ m) (fun m => w_20_36 kc Φ m) e x0 x1 x2 (0 : Int32) m
/-- GrantBoard$AppHead.hasName(II)Z -/
def w_7_36 (kc : it_Kc) (Φ : Int32 → it_Me → Prop) (u0 : Int32) (m : it_Me) : Prop :=
  (u0 = 0 ∨ u0 = 1) ∧ Φ u0 m
def w_7_35 (kc : it_Kc) (Φ : Int32 → it_Me → Prop) (m : it_Me) : Prop :=
  w_7_36 kc Φ (0 : Int32) m
def w_7 (kc : it_Kc) (k : Nat) (x0 : Int32) (x1 : Int32) (m : it_Me) (Φ : Int32 → it_Me → Prop) : Prop :=
  ((m k 10) = 0 → w_7_35 kc Φ m) ∧ (¬ (m k 10) = 0 → ((m k 11) = x1 → w_20 kc (m k 10) x0 x1 m (fun r1 m2 => (r1 = 0 → w_7_35 kc Φ m2) ∧ (¬ r1 = 0 → w_7_36 kc Φ (1 : Int32) m2))) ∧ (¬ (m k 11) = x1 → w_7_35 kc Φ m))
/-- GrantBoard.below(II)Z -/
def w_213_16 (kc : it_Kc) (Φ : Int32 → it_Me → Prop) (u0 : Int32) (m : it_Me) : Prop :=
  (u0 = 0 ∨ u0 = 1) ∧ Φ u0 m
def w_213 (kc : it_Kc) (x0 : Int32) (x1 : Int32) (m : it_Me) (Φ : Int32 → it_Me → Prop) : Prop :=
  ((x1 ^^^ (-2147483648 : Int32)) ≤ (x0 ^^^ (-2147483648 : Int32)) → w_213_16 kc Φ (0 : Int32) m) ∧ (¬ (x1 ^^^ (-2147483648 : Int32)) ≤ (x0 ^^^ (-2147483648 : Int32)) → w_213_16 kc Φ (1 : Int32) m)
/-- GrantBoard$AppHead.goesBefore(LGrantBoard$AppHead;)Z -/
def w_8_40 (kc : it_Kc) (Φ : Int32 → it_Me → Prop) (u0 : Int32) (m : it_Me) : Prop :=
  (u0 = 0 ∨ u0 = 1) ∧ Φ u0 m
def w_8 (kc : it_Kc) (k : Nat) (x0 : Nat) (m : it_Me) (Φ : Int32 → it_Me → Prop) : Prop :=
  ((m k 1) = (m x0 1) → Φ (0 : Int32) m) ∧ (¬ (m k 1) = (m x0 1) → ((m k 7) = (m x0 7) → ((m x0 1) ≤ (m k 1) → w_8_40 kc Φ (0 : Int32) m) ∧ (¬ (m x0 1) ≤ (m k 1) → w_8_40 kc Φ (1 : Int32) m)) ∧ (¬ (m k 7) = (m x0 7) → w_213 kc (m x0 7) (m k 7) m (fun r1 m2 => (r1 = 0 ∨ r1 = 1) ∧ Φ r1 m2)))
/-- GrantBoard$AppHead.permits(II)Z -/
def w_9_81 (kc : it_Kc) (Φ : Int32 → it_Me → Prop) (K27 : Nat → Int32 → Int32 → Int32 → it_Me → Prop) (K79 : it_Me → Prop) (K87 : it_Me → Prop) (v0 : Nat) (v1 : Int32) (v2 : Int32) (v3 : Int32) (m : it_Me) : Prop :=
  K27 v0 v1 v2 (v3 + (8 : Int32)) m
def w_9_27 (kc : it_Kc) (Φ : Int32 → it_Me → Prop) (K79 : it_Me → Prop) (K87 : it_Me → Prop) : Nat → Nat → Int32 → Int32 → Int32 → it_Me → Prop
  | 0, _, _, _, _, _ => False
  | n27 + 1, v0, v1, v2, v3, m =>
  ((m v0 14) ≤ v3 → K87 m) ∧ (¬ (m v0 14) ≤ v3 → w_12 kc (((m v0 13) + v3) + (4 : Int32)) m (fun r1 m2 => w_12 kc ((m2 v0 13) + v3) m2 (fun r3 m4 => (r3 = v1 → (((it_us r1 v2) &&& (1 : Int32)) = (1 : Int32) → K79 m4) ∧ (¬ ((it_us r1 v2) &&& (1 : Int32)) = (1 : Int32) → w_9_81 kc Φ (w_9_27 kc Φ K79 K87 n27) K79 K87 v0 v1 v2 v3 m4)) ∧ (¬ r3 = v1 → w_9_81 kc Φ (w_9_27 kc Φ K79 K87 n27) K79 K87 v0 v1 v2 v3 m4))))
def w_9_11 (kc : it_Kc) (Φ : Int32 → it_Me → Prop) (m : it_Me) : Prop :=
  Φ (1 : Int32) m
def w_9_23 (kc : it_Kc) (Φ : Int32 → it_Me → Prop) (m : it_Me) : Prop :=
  Φ (0 : Int32) m
def w_9_79 (kc : it_Kc) (Φ : Int32 → it_Me → Prop) (m : it_Me) : Prop :=
  Φ (1 : Int32) m
def w_9_87 (kc : it_Kc) (Φ : Int32 → it_Me → Prop) (m : it_Me) : Prop :=
  Φ (0 : Int32) m
def w_9 (kc : it_Kc) (k : Nat) (x0 : Int32) (x1 : Int32) (m : it_Me) (Φ : Int32 → it_Me → Prop) : Prop :=
  ((m k 13) = 0 → w_9_11 kc Φ m) ∧ (¬ (m k 13) = 0 → (x1 = 0 → w_9_11 kc Φ m) ∧ (¬ x1 = 0 → (x1 < 0 → w_9_23 kc Φ m) ∧ (¬ x1 < 0 → (x1 ≤ (31 : Int32) → ∃ e, w_9_27 kc Φ (fun m => w_9_79 kc Φ m) (fun m => w_9_87 kc Φ m) e k x0 x1 (0 : Int32) m) ∧ (¬ x1 ≤ (31 : Int32) → w_9_23 kc Φ m))))
/-- GrantBoard$AppHead.blockSize()I -/
def w_10_6 (kc : it_Kc) (Φ : Int32 → it_Me → Prop) (K33 : Int32 → it_Me → Prop) : Nat → Nat → Int32 → Int32 → it_Me → Prop
  | 0, _, _, _, _ => False
  | n6 + 1, v0, v1, v2, m =>
  ((5 : Int32) ≤ v2 → K33 v1 m) ∧ (¬ (5 : Int32) ≤ v2 → (((m v0 5) + (512 : Int32)) ≤ v1 → K33 v1 m) ∧ (¬ ((m v0 5) + (512 : Int32)) ≤ v1 → (w_10_6 kc Φ K33 n6) v0 (v1 * (2 : Int32)) (v2 + (1 : Int32)) m))
def w_10_33 (kc : it_Kc) (Φ : Int32 → it_Me → Prop) (v1 : Int32) (m : it_Me) : Prop :=
  Φ v1 m
def w_10 (kc : it_Kc) (k : Nat) (m : it_Me) (Φ : Int32 → it_Me → Prop) : Prop :=
  ∃ e, w_10_6 kc Φ (fun v1 m => w_10_33 kc Φ v1 m) e k (1024 : Int32) (0 : Int32) m
/-- GrantBoard$Cells.setWord(II)V -/
def w_13_24 (kc : it_Kc) (Φ : it_Me → Prop) (m : it_Me) : Prop :=
  Φ m
def w_13 (kc : it_Kc) (x0 : Int32) (x1 : Int32) (m : it_Me) (Φ : it_Me → Prop) : Prop :=
  (x0 < (65536 : Int32) → w_13_24 kc Φ m) ∧ (¬ x0 < (65536 : Int32) → ((196608 : Int32) ≤ x0 → w_13_24 kc Φ m) ∧ (¬ (196608 : Int32) ≤ x0 → vp_in (it_shr (x0 - (65536 : Int32)) (2 : Int32)) 32768 ∧ (w_13_24 kc Φ (it_sv m 2 (Int32.toNatClampNeg (it_shr (x0 - (65536 : Int32)) (2 : Int32))) x1))))
/-- GrantBoard$Cells.setHalf(II)V -/
def w_15_54 (kc : it_Kc) (Φ : it_Me → Prop) (m : it_Me) : Prop :=
  Φ m
def w_15 (kc : it_Kc) (x0 : Int32) (x1 : Int32) (m : it_Me) (Φ : it_Me → Prop) : Prop :=
  (x0 < (65536 : Int32) → w_15_54 kc Φ m) ∧ (¬ x0 < (65536 : Int32) → ((196608 : Int32) ≤ x0 → w_15_54 kc Φ m) ∧ (¬ (196608 : Int32) ≤ x0 → vp_in (it_shr (x0 - (65536 : Int32)) (2 : Int32)) 32768 ∧ (vp_in (it_shr (x0 - (65536 : Int32)) (2 : Int32)) 32768 ∧ (w_15_54 kc Φ (it_sv m 2 (Int32.toNatClampNeg (it_shr (x0 - (65536 : Int32)) (2 : Int32))) (((m 2 (Int32.toNatClampNeg (it_shr (x0 - (65536 : Int32)) (2 : Int32)))) &&& ((it_shl (65535 : Int32) (it_shl (x0 &&& (2 : Int32)) (3 : Int32))) ^^^ (-1 : Int32))) ||| (it_shl (x1 &&& (65535 : Int32)) (it_shl (x0 &&& (2 : Int32)) (3 : Int32)))))))))
/-- GrantBoard$Cells.setByte(II)V -/
def w_17_56 (kc : it_Kc) (Φ : it_Me → Prop) (m : it_Me) : Prop :=
  Φ m
def w_17 (kc : it_Kc) (x0 : Int32) (x1 : Int32) (m : it_Me) (Φ : it_Me → Prop) : Prop :=
  (x0 < (65536 : Int32) → w_17_56 kc Φ m) ∧ (¬ x0 < (65536 : Int32) → ((196608 : Int32) ≤ x0 → w_17_56 kc Φ m) ∧ (¬ (196608 : Int32) ≤ x0 → vp_in (it_shr (x0 - (65536 : Int32)) (2 : Int32)) 32768 ∧ (vp_in (it_shr (x0 - (65536 : Int32)) (2 : Int32)) 32768 ∧ (w_17_56 kc Φ (it_sv m 2 (Int32.toNatClampNeg (it_shr (x0 - (65536 : Int32)) (2 : Int32))) (((m 2 (Int32.toNatClampNeg (it_shr (x0 - (65536 : Int32)) (2 : Int32)))) &&& ((it_shl (255 : Int32) (it_shl (x0 &&& (3 : Int32)) (3 : Int32))) ^^^ (-1 : Int32))) ||| (it_shl (x1 &&& (255 : Int32)) (it_shl (x0 &&& (3 : Int32)) (3 : Int32)))))))))
/-- GrantBoard$Cells.fill(III)V -/
def w_18_48 (kc : it_Kc) (Φ : it_Me → Prop) (m : it_Me) : Prop :=
  Φ m
def w_18 (kc : it_Kc) (x0 : Int32) (x1 : Int32) (x2 : Int32) (m : it_Me) (Φ : it_Me → Prop) : Prop :=
  (x1 ≤ 0 → w_18_48 kc Φ m) ∧ (¬ x1 ≤ 0 → (x0 < (65536 : Int32) → w_18_48 kc Φ m) ∧ (¬ x0 < (65536 : Int32) → ((196608 : Int32) ≤ x0 → w_18_48 kc Φ m) ∧ (¬ (196608 : Int32) ≤ x0 → (((196608 : Int32) - x0) < x1 → w_18_48 kc Φ m) ∧ (¬ ((196608 : Int32) - x0) < x1 → w_362 kc 2 (it_shr (x0 - (65536 : Int32)) (2 : Int32)) ((it_shr (x0 - (65536 : Int32)) (2 : Int32)) + (it_shr x1 (2 : Int32))) x2 m (fun m1 => w_18_48 kc Φ m1)))))
/-- GrantBoard$Cells.copy(III)V -/
def w_19_3 (kc : it_Kc) (Φ : it_Me → Prop) (K31 : it_Me → Prop) : Nat → Int32 → Int32 → Int32 → Int32 → it_Me → Prop
  | 0, _, _, _, _, _ => False
  | n3 + 1, v1, v2, v3, v4, m =>
  (v3 ≤ v4 → K31 m) ∧ (¬ v3 ≤ v4 → w_16 kc (v1 + v4) m (fun r1 m2 => w_17 kc (v2 + v4) r1 m2 (fun m3 => (w_19_3 kc Φ K31 n3) v1 v2 v3 (v4 + (1 : Int32)) m3)))
def w_19_31 (kc : it_Kc) (Φ : it_Me → Prop) (m : it_Me) : Prop :=
  Φ m
def w_19 (kc : it_Kc) (x0 : Int32) (x1 : Int32) (x2 : Int32) (m : it_Me) (Φ : it_Me → Prop) : Prop :=
  ∃ e, w_19_3 kc Φ (fun m => w_19_31 kc Φ m) e x0 x1 x2 (0 : Int32) m
/-- GrantBoard$Compressed.bits(IIII)I -/
def w_23 (kc : it_Kc) (x0 : Int32) (x1 : Int32) (x2 : Int32) (x3 : Int32) (m : it_Me) (Φ : Int32 → it_Me → Prop) : Prop :=
  Φ (it_shl ((it_us x0 x1) &&& ((it_shl (1 : Int32) x2) - (1 : Int32))) x3) m
/-- GrantBoard$Compressed.narrow(II)I -/
def w_24 (kc : it_Kc) (x0 : Int32) (x1 : Int32) (m : it_Me) (Φ : Int32 → it_Me → Prop) : Prop :=
  Φ ((8 : Int32) + ((it_us x0 x1) &&& (7 : Int32))) m
/-- GrantBoard$Compressed.immediate(IIIII)I -/
def w_25 (kc : it_Kc) (x0 : Int32) (x1 : Int32) (x2 : Int32) (x3 : Int32) (x4 : Int32) (m : it_Me) (Φ : Int32 → it_Me → Prop) : Prop :=
  Φ (((((it_shl x4 (20 : Int32)) ||| (it_shl x3 (15 : Int32))) ||| (it_shl x1 (12 : Int32))) ||| (it_shl x2 (7 : Int32))) ||| x0) m
/-- GrantBoard$Compressed.saveWord(III)I -/
def w_27 (kc : it_Kc) (x0 : Int32) (x1 : Int32) (x2 : Int32) (m : it_Me) (Φ : Int32 → it_Me → Prop) : Prop :=
  Φ ((((((it_shl (it_shr x2 (5 : Int32)) (25 : Int32)) ||| (it_shl x1 (20 : Int32))) ||| (it_shl x0 (15 : Int32))) ||| (8192 : Int32)) ||| (it_shl (x2 &&& (31 : Int32)) (7 : Int32))) ||| (35 : Int32)) m
/-- GrantBoard$Compressed.expandFirst(I)I -/
def w_28_121 (kc : it_Kc) (Φ : Int32 → it_Me → Prop) (u0 : Int32) (m : it_Me) : Prop :=
  Φ u0 m
def w_28 (kc : it_Kc) (x0 : Int32) (m : it_Me) (Φ : Int32 → it_Me → Prop) : Prop :=
  w_23 kc x0 (10 : Int32) (3 : Int32) (3 : Int32) m (fun r1 m2 => w_23 kc x0 (6 : Int32) (1 : Int32) (2 : Int32) m2 (fun r3 m4 => w_23 kc x0 (5 : Int32) (1 : Int32) (6 : Int32) m4 (fun r5 m6 => ((it_us x0 (13 : Int32)) = (0 : Int32) → w_23 kc x0 (11 : Int32) (2 : Int32) (4 : Int32) m6 (fun r7 m8 => w_23 kc x0 (7 : Int32) (4 : Int32) (6 : Int32) m8 (fun r9 m10 => w_23 kc x0 (6 : Int32) (1 : Int32) (2 : Int32) m10 (fun r11 m12 => w_23 kc x0 (5 : Int32) (1 : Int32) (3 : Int32) m12 (fun r13 m14 => ((((r7 ||| r9) ||| r11) ||| r13) = 0 → w_28_121 kc Φ (0 : Int32) m14) ∧ (¬ (((r7 ||| r9) ||| r11) ||| r13) = 0 → w_24 kc x0 (2 : Int32) m14 (fun r15 m16 => w_25 kc (19 : Int32) (0 : Int32) r15 (2 : Int32) (((r7 ||| r9) ||| r11) ||| r13) m16 (fun r17 m18 => w_28_121 kc Φ r17 m18)))))))) ∧ (¬ (it_us x0 (13 : Int32)) = (0 : Int32) → ((it_us x0 (13 : Int32)) = (2 : Int32) → w_24 kc x0 (2 : Int32) m6 (fun r19 m20 => w_24 kc x0 (7 : Int32) m20 (fun r21 m22 => w_25 kc (3 : Int32) (2 : Int32) r19 r21 ((r1 ||| r3) ||| r5) m22 (fun r23 m24 => Φ r23 m24)))) ∧ (¬ (it_us x0 (13 : Int32)) = (2 : Int32) → ((it_us x0 (13 : Int32)) = (6 : Int32) → w_24 kc x0 (7 : Int32) m6 (fun r25 m26 => w_24 kc x0 (2 : Int32) m26 (fun r27 m28 => w_27 kc r25 r27 ((r1 ||| r3) ||| r5) m28 (fun r29 m30 => Φ r29 m30)))) ∧ (¬ (it_us x0 (13 : Int32)) = (6 : Int32) → Φ (0 : Int32) m6))))))
/-- GrantBoard$Compressed.moveStack(I)I -/
def w_30_63 (kc : it_Kc) (Φ : Int32 → it_Me → Prop) (u0 : Int32) (m : it_Me) : Prop :=
  Φ u0 m
def w_30 (kc : it_Kc) (x0 : Int32) (m : it_Me) (Φ : Int32 → it_Me → Prop) : Prop :=
  w_23 kc x0 (6 : Int32) (1 : Int32) (4 : Int32) m (fun r1 m2 => w_23 kc x0 (5 : Int32) (1 : Int32) (6 : Int32) m2 (fun r3 m4 => w_23 kc x0 (3 : Int32) (2 : Int32) (7 : Int32) m4 (fun r5 m6 => w_23 kc x0 (2 : Int32) (1 : Int32) (5 : Int32) m6 (fun r7 m8 => ((((((it_shl (it_shr (it_shl x0 (19 : Int32)) (31 : Int32)) (9 : Int32)) ||| r1) ||| r3) ||| r5) ||| r7) = 0 → w_30_63 kc Φ (0 : Int32) m8) ∧ (¬ (((((it_shl (it_shr (it_shl x0 (19 : Int32)) (31 : Int32)) (9 : Int32)) ||| r1) ||| r3) ||| r5) ||| r7) = 0 → w_25 kc (19 : Int32) (0 : Int32) (2 : Int32) (2 : Int32) (((((it_shl (it_shr (it_shl x0 (19 : Int32)) (31 : Int32)) (9 : Int32)) ||| r1) ||| r3) ||| r5) ||| r7) m8 (fun r9 m10 => w_30_63 kc Φ r9 m10))))))
/-- GrantBoard$Compressed.jump(II)I -/
def w_31 (kc : it_Kc) (x0 : Int32) (x1 : Int32) (m : it_Me) (Φ : Int32 → it_Me → Prop) : Prop :=
  w_23 kc x0 (11 : Int32) (1 : Int32) (4 : Int32) m (fun r1 m2 => w_23 kc x0 (9 : Int32) (2 : Int32) (8 : Int32) m2 (fun r3 m4 => w_23 kc x0 (8 : Int32) (1 : Int32) (10 : Int32) m4 (fun r5 m6 => w_23 kc x0 (7 : Int32) (1 : Int32) (6 : Int32) m6 (fun r7 m8 => w_23 kc x0 (6 : Int32) (1 : Int32) (7 : Int32) m8 (fun r9 m10 => w_23 kc x0 (3 : Int32) (3 : Int32) (1 : Int32) m10 (fun r11 m12 => w_23 kc x0 (2 : Int32) (1 : Int32) (5 : Int32) m12 (fun r13 m14 => w_23 kc ((((((((it_shl (it_shr (it_shl x0 (19 : Int32)) (31 : Int32)) (11 : Int32)) ||| r1) ||| r3) ||| r5) ||| r7) ||| r9) ||| r11) ||| r13) (20 : Int32) (1 : Int32) (31 : Int32) m14 (fun r15 m16 => w_23 kc ((((((((it_shl (it_shr (it_shl x0 (19 : Int32)) (31 : Int32)) (11 : Int32)) ||| r1) ||| r3) ||| r5) ||| r7) ||| r9) ||| r11) ||| r13) (1 : Int32) (10 : Int32) (21 : Int32) m16 (fun r17 m18 => w_23 kc ((((((((it_shl (it_shr (it_shl x0 (19 : Int32)) (31 : Int32)) (11 : Int32)) ||| r1) ||| r3) ||| r5) ||| r7) ||| r9) ||| r11) ||| r13) (11 : Int32) (1 : Int32) (20 : Int32) m18 (fun r19 m20 => Φ (((((r15 ||| r17) ||| r19) ||| (((((((((it_shl (it_shr (it_shl x0 (19 : Int32)) (31 : Int32)) (11 : Int32)) ||| r1) ||| r3) ||| r5) ||| r7) ||| r9) ||| r11) ||| r13) &&& (1044480 : Int32))) ||| (it_shl x1 (7 : Int32))) ||| (111 : Int32)) m20))))))))))
/-- GrantBoard$Compressed.branch(II)I -/
def w_32 (kc : it_Kc) (x0 : Int32) (x1 : Int32) (m : it_Me) (Φ : Int32 → it_Me → Prop) : Prop :=
  w_23 kc x0 (10 : Int32) (2 : Int32) (3 : Int32) m (fun r1 m2 => w_23 kc x0 (5 : Int32) (2 : Int32) (6 : Int32) m2 (fun r3 m4 => w_23 kc x0 (3 : Int32) (2 : Int32) (1 : Int32) m4 (fun r5 m6 => w_23 kc x0 (2 : Int32) (1 : Int32) (5 : Int32) m6 (fun r7 m8 => w_23 kc (((((it_shl (it_shr (it_shl x0 (19 : Int32)) (31 : Int32)) (8 : Int32)) ||| r1) ||| r3) ||| r5) ||| r7) (12 : Int32) (1 : Int32) (31 : Int32) m8 (fun r9 m10 => w_23 kc (((((it_shl (it_shr (it_shl x0 (19 : Int32)) (31 : Int32)) (8 : Int32)) ||| r1) ||| r3) ||| r5) ||| r7) (5 : Int32) (6 : Int32) (25 : Int32) m10 (fun r11 m12 => w_24 kc x0 (7 : Int32) m12 (fun r13 m14 => w_23 kc (((((it_shl (it_shr (it_shl x0 (19 : Int32)) (31 : Int32)) (8 : Int32)) ||| r1) ||| r3) ||| r5) ||| r7) (1 : Int32) (4 : Int32) (8 : Int32) m14 (fun r15 m16 => w_23 kc (((((it_shl (it_shr (it_shl x0 (19 : Int32)) (31 : Int32)) (8 : Int32)) ||| r1) ||| r3) ||| r5) ||| r7) (11 : Int32) (1 : Int32) (7 : Int32) m16 (fun r17 m18 => Φ ((((((r9 ||| r11) ||| (it_shl r13 (15 : Int32))) ||| (it_shl x1 (12 : Int32))) ||| r15) ||| r17) ||| (99 : Int32)) m18)))))))))
/-- GrantBoard$Compressed.registers(IIIII)I -/
def w_26 (kc : it_Kc) (x0 : Int32) (x1 : Int32) (x2 : Int32) (x3 : Int32) (x4 : Int32) (m : it_Me) (Φ : Int32 → it_Me → Prop) : Prop :=
  Φ ((((((it_shl x1 (25 : Int32)) ||| (it_shl x4 (20 : Int32))) ||| (it_shl x3 (15 : Int32))) ||| (it_shl x0 (12 : Int32))) ||| (it_shl x2 (7 : Int32))) ||| (51 : Int32)) m
/-- GrantBoard$Compressed.calculate(II)I -/
def w_33_82 (kc : it_Kc) (Φ : Int32 → it_Me → Prop) (u0 : Int32) (m : it_Me) : Prop :=
  Φ u0 m
def w_33_105 (kc : it_Kc) (Φ : Int32 → it_Me → Prop) (u0 : Int32) (m : it_Me) : Prop :=
  Φ u0 m
def w_33_28 (kc : it_Kc) (Φ : Int32 → it_Me → Prop) (v0 : Int32) (v1 : Int32) (v2 : Int32) (v3 : Int32) (u0 : Int32) (m : it_Me) : Prop :=
  (((it_us v0 (10 : Int32)) &&& (3 : Int32)) = (0 : Int32) → (u0 = 0 → w_25 kc (19 : Int32) (5 : Int32) v2 v2 v1 m (fun r1 m2 => w_33_82 kc Φ r1 m2)) ∧ (¬ u0 = 0 → w_33_82 kc Φ (0 : Int32) m)) ∧ (¬ ((it_us v0 (10 : Int32)) &&& (3 : Int32)) = (0 : Int32) → (((it_us v0 (10 : Int32)) &&& (3 : Int32)) = (1 : Int32) → (u0 = 0 → w_25 kc (19 : Int32) (5 : Int32) v2 v2 (v1 ||| (1024 : Int32)) m (fun r3 m4 => w_33_105 kc Φ r3 m4)) ∧ (¬ u0 = 0 → w_33_105 kc Φ (0 : Int32) m)) ∧ (¬ ((it_us v0 (10 : Int32)) &&& (3 : Int32)) = (1 : Int32) → (((it_us v0 (10 : Int32)) &&& (3 : Int32)) = (2 : Int32) → w_25 kc (19 : Int32) (7 : Int32) v2 v2 v1 m (fun r5 m6 => Φ r5 m6)) ∧ (¬ ((it_us v0 (10 : Int32)) &&& (3 : Int32)) = (2 : Int32) → (u0 = 0 → (((it_us v0 (5 : Int32)) &&& (3 : Int32)) = (0 : Int32) → w_26 kc (0 : Int32) (32 : Int32) v2 v2 v3 m (fun r7 m8 => Φ r7 m8)) ∧ (¬ ((it_us v0 (5 : Int32)) &&& (3 : Int32)) = (0 : Int32) → (((it_us v0 (5 : Int32)) &&& (3 : Int32)) = (1 : Int32) → w_26 kc (4 : Int32) (0 : Int32) v2 v2 v3 m (fun r9 m10 => Φ r9 m10)) ∧ (¬ ((it_us v0 (5 : Int32)) &&& (3 : Int32)) = (1 : Int32) → (((it_us v0 (5 : Int32)) &&& (3 : Int32)) = (2 : Int32) → w_26 kc (6 : Int32) (0 : Int32) v2 v2 v3 m (fun r11 m12 => Φ r11 m12)) ∧ (¬ ((it_us v0 (5 : Int32)) &&& (3 : Int32)) = (2 : Int32) → w_26 kc (7 : Int32) (0 : Int32) v2 v2 v3 m (fun r13 m14 => Φ r13 m14))))) ∧ (¬ u0 = 0 → Φ (0 : Int32) m))))
def w_33 (kc : it_Kc) (x0 : Int32) (x1 : Int32) (m : it_Me) (Φ : Int32 → it_Me → Prop) : Prop :=
  w_24 kc x0 (7 : Int32) m (fun r1 m2 => w_24 kc x0 (2 : Int32) m2 (fun r3 m4 => (((it_us x0 (12 : Int32)) &&& (1 : Int32)) = (1 : Int32) → w_33_28 kc Φ x0 x1 r1 r3 (1 : Int32) m4) ∧ (¬ ((it_us x0 (12 : Int32)) &&& (1 : Int32)) = (1 : Int32) → w_33_28 kc Φ x0 x1 r1 r3 (0 : Int32) m4)))
/-- GrantBoard$Compressed.expandSecond(I)I -/
def w_29_130 (kc : it_Kc) (Φ : Int32 → it_Me → Prop) (u0 : Int32) (m : it_Me) : Prop :=
  Φ u0 m
def w_29 (kc : it_Kc) (x0 : Int32) (m : it_Me) (Φ : Int32 → it_Me → Prop) : Prop :=
  ((it_us x0 (13 : Int32)) = (0 : Int32) → w_25 kc (19 : Int32) (0 : Int32) ((it_us x0 (7 : Int32)) &&& (31 : Int32)) ((it_us x0 (7 : Int32)) &&& (31 : Int32)) ((it_shl (it_shr (it_shl x0 (19 : Int32)) (31 : Int32)) (5 : Int32)) ||| ((it_us x0 (2 : Int32)) &&& (31 : Int32))) m (fun r1 m2 => Φ r1 m2)) ∧ (¬ (it_us x0 (13 : Int32)) = (0 : Int32) → ((it_us x0 (13 : Int32)) = (1 : Int32) → w_31 kc x0 (1 : Int32) m (fun r3 m4 => Φ r3 m4)) ∧ (¬ (it_us x0 (13 : Int32)) = (1 : Int32) → ((it_us x0 (13 : Int32)) = (2 : Int32) → w_25 kc (19 : Int32) (0 : Int32) ((it_us x0 (7 : Int32)) &&& (31 : Int32)) (0 : Int32) ((it_shl (it_shr (it_shl x0 (19 : Int32)) (31 : Int32)) (5 : Int32)) ||| ((it_us x0 (2 : Int32)) &&& (31 : Int32))) m (fun r5 m6 => Φ r5 m6)) ∧ (¬ (it_us x0 (13 : Int32)) = (2 : Int32) → ((it_us x0 (13 : Int32)) = (3 : Int32) → (((it_us x0 (7 : Int32)) &&& (31 : Int32)) = (2 : Int32) → w_30 kc x0 m (fun r7 m8 => w_29_130 kc Φ r7 m8)) ∧ (¬ ((it_us x0 (7 : Int32)) &&& (31 : Int32)) = (2 : Int32) → (((it_shl (it_shr (it_shl x0 (19 : Int32)) (31 : Int32)) (5 : Int32)) ||| ((it_us x0 (2 : Int32)) &&& (31 : Int32))) = 0 → w_29_130 kc Φ (0 : Int32) m) ∧ (¬ ((it_shl (it_shr (it_shl x0 (19 : Int32)) (31 : Int32)) (5 : Int32)) ||| ((it_us x0 (2 : Int32)) &&& (31 : Int32))) = 0 → w_29_130 kc Φ (((it_shl ((it_shl (it_shr (it_shl x0 (19 : Int32)) (31 : Int32)) (5 : Int32)) ||| ((it_us x0 (2 : Int32)) &&& (31 : Int32))) (12 : Int32)) ||| (it_shl ((it_us x0 (7 : Int32)) &&& (31 : Int32)) (7 : Int32))) ||| (55 : Int32)) m))) ∧ (¬ (it_us x0 (13 : Int32)) = (3 : Int32) → ((it_us x0 (13 : Int32)) = (4 : Int32) → w_33 kc x0 ((it_shl (it_shr (it_shl x0 (19 : Int32)) (31 : Int32)) (5 : Int32)) ||| ((it_us x0 (2 : Int32)) &&& (31 : Int32))) m (fun r9 m10 => Φ r9 m10)) ∧ (¬ (it_us x0 (13 : Int32)) = (4 : Int32) → ((it_us x0 (13 : Int32)) = (5 : Int32) → w_31 kc x0 (0 : Int32) m (fun r11 m12 => Φ r11 m12)) ∧ (¬ (it_us x0 (13 : Int32)) = (5 : Int32) → ((it_us x0 (13 : Int32)) = (6 : Int32) → w_32 kc x0 (0 : Int32) m (fun r13 m14 => Φ r13 m14)) ∧ (¬ (it_us x0 (13 : Int32)) = (6 : Int32) → w_32 kc x0 (1 : Int32) m (fun r15 m16 => Φ r15 m16))))))))
/-- GrantBoard$Compressed.expandThird(I)I -/
def w_34_93 (kc : it_Kc) (Φ : Int32 → it_Me → Prop) (u0 : Int32) (m : it_Me) : Prop :=
  Φ u0 m
def w_34_138 (kc : it_Kc) (Φ : Int32 → it_Me → Prop) (u0 : Int32) (m : it_Me) : Prop :=
  Φ u0 m
def w_34_155 (kc : it_Kc) (Φ : Int32 → it_Me → Prop) (v2 : Int32) (u0 : Int32) (u1 : Int32) (u2 : Int32) (u3 : Int32) (m : it_Me) : Prop :=
  w_26 kc u0 u1 u2 u3 v2 m (fun r1 m2 => Φ r1 m2)
def w_34_174 (kc : it_Kc) (Φ : Int32 → it_Me → Prop) (u0 : Int32) (m : it_Me) : Prop :=
  Φ u0 m
def w_34_187 (kc : it_Kc) (Φ : Int32 → it_Me → Prop) (v1 : Int32) (u0 : Int32) (u1 : Int32) (u2 : Int32) (m : it_Me) : Prop :=
  w_25 kc u0 u1 u2 v1 (0 : Int32) m (fun r1 m2 => Φ r1 m2)
def w_34_30 (kc : it_Kc) (Φ : Int32 → it_Me → Prop) (v0 : Int32) (v1 : Int32) (v2 : Int32) (u0 : Int32) (m : it_Me) : Prop :=
  ((it_us v0 (13 : Int32)) = (0 : Int32) → (u0 = 0 → w_25 kc (19 : Int32) (1 : Int32) v1 v1 v2 m (fun r1 m2 => w_34_93 kc Φ r1 m2)) ∧ (¬ u0 = 0 → w_34_93 kc Φ (0 : Int32) m)) ∧ (¬ (it_us v0 (13 : Int32)) = (0 : Int32) → ((it_us v0 (13 : Int32)) = (1 : Int32) → Φ (0 : Int32) m) ∧ (¬ (it_us v0 (13 : Int32)) = (1 : Int32) → ((it_us v0 (13 : Int32)) = (2 : Int32) → w_23 kc v0 (12 : Int32) (1 : Int32) (5 : Int32) m (fun r3 m4 => w_23 kc v0 (4 : Int32) (3 : Int32) (2 : Int32) m4 (fun r5 m6 => w_23 kc v0 (2 : Int32) (2 : Int32) (6 : Int32) m6 (fun r7 m8 => (v1 = 0 → w_34_138 kc Φ (0 : Int32) m8) ∧ (¬ v1 = 0 → w_25 kc (3 : Int32) (2 : Int32) v1 (2 : Int32) ((r3 ||| r5) ||| r7) m8 (fun r9 m10 => w_34_138 kc Φ r9 m10)))))) ∧ (¬ (it_us v0 (13 : Int32)) = (2 : Int32) → ((it_us v0 (13 : Int32)) = (3 : Int32) → Φ (0 : Int32) m) ∧ (¬ (it_us v0 (13 : Int32)) = (3 : Int32) → ((it_us v0 (13 : Int32)) = (4 : Int32) → (v2 = 0 → (v1 = 0 → (u0 = 0 → w_34_174 kc Φ (0 : Int32) m) ∧ (¬ u0 = 0 → w_34_174 kc Φ (1048691 : Int32) m)) ∧ (¬ v1 = 0 → (u0 = 0 → w_34_187 kc Φ v1 (103 : Int32) (0 : Int32) (0 : Int32) m) ∧ (¬ u0 = 0 → w_34_187 kc Φ v1 (103 : Int32) (0 : Int32) (1 : Int32) m))) ∧ (¬ v2 = 0 → (u0 = 0 → w_34_155 kc Φ v2 (0 : Int32) (0 : Int32) v1 (0 : Int32) m) ∧ (¬ u0 = 0 → w_34_155 kc Φ v2 (0 : Int32) (0 : Int32) v1 v1 m))) ∧ (¬ (it_us v0 (13 : Int32)) = (4 : Int32) → ((it_us v0 (13 : Int32)) = (5 : Int32) → Φ (0 : Int32) m) ∧ (¬ (it_us v0 (13 : Int32)) = (5 : Int32) → ((it_us v0 (13 : Int32)) = (6 : Int32) → w_23 kc v0 (9 : Int32) (4 : Int32) (2 : Int32) m (fun r11 m12 => w_23 kc v0 (7 : Int32) (2 : Int32) (6 : Int32) m12 (fun r13 m14 => w_27 kc (2 : Int32) v2 (r11 ||| r13) m14 (fun r15 m16 => Φ r15 m16)))) ∧ (¬ (it_us v0 (13 : Int32)) = (6 : Int32) → Φ (0 : Int32) m)))))))
def w_34 (kc : it_Kc) (x0 : Int32) (m : it_Me) (Φ : Int32 → it_Me → Prop) : Prop :=
  (((it_us x0 (12 : Int32)) &&& (1 : Int32)) = (1 : Int32) → w_34_30 kc Φ x0 ((it_us x0 (7 : Int32)) &&& (31 : Int32)) ((it_us x0 (2 : Int32)) &&& (31 : Int32)) (1 : Int32) m) ∧ (¬ ((it_us x0 (12 : Int32)) &&& (1 : Int32)) = (1 : Int32) → w_34_30 kc Φ x0 ((it_us x0 (7 : Int32)) &&& (31 : Int32)) ((it_us x0 (2 : Int32)) &&& (31 : Int32)) (0 : Int32) m)
/-- GrantBoard$Compressed.expand(I)I -/
def w_22 (kc : it_Kc) (x0 : Int32) (m : it_Me) (Φ : Int32 → it_Me → Prop) : Prop :=
  ((x0 &&& (3 : Int32)) = (0 : Int32) → w_28 kc x0 m (fun r1 m2 => Φ r1 m2)) ∧ (¬ (x0 &&& (3 : Int32)) = (0 : Int32) → ((x0 &&& (3 : Int32)) = (1 : Int32) → w_29 kc x0 m (fun r3 m4 => Φ r3 m4)) ∧ (¬ (x0 &&& (3 : Int32)) = (1 : Int32) → w_34 kc x0 m (fun r5 m6 => Φ r5 m6)))
/-- GrantBoard$Drivers.wake(I)V -/
def w_36 (kc : it_Kc) (x0 : Int32) (m : it_Me) (Φ : it_Me → Prop) : Prop :=
  Φ (it_sv (it_sv (it_sv m 59 4 (0 : Int32)) 59 7 x0) 59 12 (0 : Int32))
/-- GrantBoard$Process.ok1(I)V -/
def w_139 (kc : it_Kc) (k : Nat) (x0 : Int32) (m : it_Me) (Φ : it_Me → Prop) : Prop :=
  vp_in (10 : Int32) 32 ∧ (vp_in (11 : Int32) 32 ∧ (Φ (it_sv (it_sv m (k + 2) (Int32.toNatClampNeg (10 : Int32)) (129 : Int32)) (k + 2) (Int32.toNatClampNeg (11 : Int32)) x0)))
/-- GrantBoard$Drivers.arm(LGrantBoard$Process;III)V -/
def w_43 (kc : it_Kc) (x0 : Nat) (x1 : Int32) (x2 : Int32) (x3 : Int32) (m : it_Me) (Φ : it_Me → Prop) : Prop :=
  w_13 kc x1 (1 : Int32) m (fun m1 => w_13 kc (x1 + (4 : Int32)) x2 m1 (fun m2 => w_13 kc (x1 + (8 : Int32)) x3 m2 (fun m3 => w_139 kc x0 (x2 + x3) m3 (fun m4 => Φ m4))))
/-- GrantBoard$Process.fail(I)V -/
def w_136 (kc : it_Kc) (k : Nat) (x0 : Int32) (m : it_Me) (Φ : it_Me → Prop) : Prop :=
  vp_in (10 : Int32) 32 ∧ (vp_in (11 : Int32) 32 ∧ (Φ (it_sv (it_sv m (k + 2) (Int32.toNatClampNeg (10 : Int32)) (0 : Int32)) (k + 2) (Int32.toNatClampNeg (11 : Int32)) x0)))
/-- GrantBoard$Process.ok()V -/
def w_138 (kc : it_Kc) (k : Nat) (m : it_Me) (Φ : it_Me → Prop) : Prop :=
  vp_in (10 : Int32) 32 ∧ (Φ (it_sv m (k + 2) (Int32.toNatClampNeg (10 : Int32)) (128 : Int32)))
/-- GrantBoard$Drivers.answerEnd(LGrantBoard$Process;I)V -/
def w_44_32 (kc : it_Kc) (Φ : it_Me → Prop) (m : it_Me) : Prop :=
  Φ m
def w_44 (kc : it_Kc) (x0 : Nat) (x1 : Int32) (m : it_Me) (Φ : it_Me → Prop) : Prop :=
  w_12 kc x1 m (fun r1 m2 => (r1 = 0 → w_136 kc x0 (3 : Int32) m2 (fun m3 => w_44_32 kc Φ m3)) ∧ (¬ r1 = 0 → w_13 kc x1 (0 : Int32) m2 (fun m4 => w_138 kc x0 m4 (fun m5 => w_44_32 kc Φ m5))))
/-- GrantBoard$Kernel.ownAt(LGrantBoard$Process;I)I -/
def w_90 (kc : it_Kc) (x0 : Nat) (x1 : Int32) (m : it_Me) (Φ : Int32 → it_Me → Prop) : Prop :=
  vp_in x1 (kc 2).1 ∧ (vp_in x1 (kc 3).1 ∧ (vp_in x1 (kc 4).1 ∧ (vp_in x1 9 ∧ (Φ ((m (x0 + 4) (Int32.toNatClampNeg x1)) + ((8 : Int32) * ((((1 : Int32) + ((kc 2).2 (Int32.toNatClampNeg x1))) + ((kc 3).2 (Int32.toNatClampNeg x1))) + ((kc 4).2 (Int32.toNatClampNeg x1))))) m))))
/-- GrantBoard$Drivers.commandAlarm(LGrantBoard$Process;III)V -/
def w_42_110 (kc : it_Kc) (Φ : it_Me → Prop) (m : it_Me) : Prop :=
  Φ m
def w_42 (kc : it_Kc) (x0 : Nat) (x1 : Int32) (x2 : Int32) (x3 : Int32) (m : it_Me) (Φ : it_Me → Prop) : Prop :=
  w_90 kc x0 (0 : Int32) m (fun r1 m2 => (x1 = (1 : Int32) → w_139 kc x0 (1000 : Int32) m2 (fun m3 => w_42_110 kc Φ m3)) ∧ (¬ x1 = (1 : Int32) → (x1 = (2 : Int32) → w_139 kc x0 (m2 4 0) m2 (fun m4 => w_42_110 kc Φ m4)) ∧ (¬ x1 = (2 : Int32) → (x1 = (3 : Int32) → w_44 kc x0 r1 m2 (fun m5 => w_42_110 kc Φ m5)) ∧ (¬ x1 = (3 : Int32) → (x1 = (4 : Int32) → w_43 kc x0 r1 x2 x3 m2 (fun m6 => w_42_110 kc Φ m6)) ∧ (¬ x1 = (4 : Int32) → (x1 = (5 : Int32) → w_43 kc x0 r1 (m2 4 0) x2 m2 (fun m7 => w_42_110 kc Φ m7)) ∧ (¬ x1 = (5 : Int32) → w_43 kc x0 r1 x2 x3 m2 (fun m8 => w_42_110 kc Φ m8)))))))
/-- GrantBoard$Drivers.ask(LGrantBoard$Process;II[I)V -/
def w_46_77 (kc : it_Kc) (Φ : it_Me → Prop) (m : it_Me) : Prop :=
  Φ m
def w_46 (kc : it_Kc) (x0 : Nat) (x1 : Int32) (x2 : Int32) (x3 : Nat) (m : it_Me) (Φ : it_Me → Prop) : Prop :=
  w_12 kc x1 m (fun r1 m2 => (r1 = 0 → (x2 = 0 → w_136 kc x0 (7 : Int32) m2 (fun m3 => w_46_77 kc Φ m3)) ∧ (¬ x2 = 0 → w_13 kc x1 x2 m2 (fun m4 => w_13 kc (x1 + (4 : Int32)) (0 : Int32) m4 (fun m5 => vp_in (m5 x0 0) 8 ∧ (w_138 kc x0 (it_sv (it_sv m5 x3 (Int32.toNatClampNeg (m5 x0 0)) (m5 59 12)) 59 12 (((it_sv m5 x3 (Int32.toNatClampNeg (m5 x0 0)) (m5 59 12)) 59 12) + (1 : Int32))) (fun m6 => w_46_77 kc Φ m6)))))) ∧ (¬ r1 = 0 → w_136 kc x0 (2 : Int32) m2 (fun m7 => w_46_77 kc Φ m7)))
/-- GrantBoard$Journal.note(III)V -/
def w_69_134 (kc : it_Kc) (Φ : it_Me → Prop) (m : it_Me) : Prop :=
  Φ m
def w_69_98 (kc : it_Kc) (Φ : it_Me → Prop) (v2 : Int32) (u1 : Int32) (m : it_Me) : Prop :=
  vp_in (11 : Int32) 12 ∧ (vp_in (11 : Int32) 12 ∧ (vp_in v2 (kc 0).1 ∧ ((((kc 0).2 (Int32.toNatClampNeg v2)) = 0 → w_69_134 kc Φ (it_sv (it_sv m 4 4 u1) 5 (Int32.toNatClampNeg (11 : Int32)) (((it_sv m 4 4 u1) 5 (Int32.toNatClampNeg (11 : Int32))) + (1 : Int32)))) ∧ (¬ ((kc 0).2 (Int32.toNatClampNeg v2)) = 0 → vp_in v2 (kc 0).1 ∧ (vp_in ((kc 0).2 (Int32.toNatClampNeg v2)) 12 ∧ (vp_in ((kc 0).2 (Int32.toNatClampNeg v2)) 12 ∧ (w_69_134 kc Φ (it_sv (it_sv (it_sv m 4 4 u1) 5 (Int32.toNatClampNeg (11 : Int32)) (((it_sv m 4 4 u1) 5 (Int32.toNatClampNeg (11 : Int32))) + (1 : Int32))) 5 (Int32.toNatClampNeg ((kc 0).2 (Int32.toNatClampNeg v2))) (((it_sv (it_sv m 4 4 u1) 5 (Int32.toNatClampNeg (11 : Int32)) (((it_sv m 4 4 u1) 5 (Int32.toNatClampNeg (11 : Int32))) + (1 : Int32))) 5 (Int32.toNatClampNeg ((kc 0).2 (Int32.toNatClampNeg v2)))) + (1 : Int32))))))))))
def w_69_72 (kc : it_Kc) (Φ : it_Me → Prop) (v2 : Int32) (u1 : Int32) (m : it_Me) : Prop :=
  ((200 : Int32) ≤ ((it_sv m 4 3 u1) 4 4) → w_69_98 kc Φ v2 (200 : Int32) (it_sv m 4 3 u1)) ∧ (¬ (200 : Int32) ≤ ((it_sv m 4 3 u1) 4 4) → w_69_98 kc Φ v2 (((it_sv m 4 3 u1) 4 4) + (1 : Int32)) (it_sv m 4 3 u1))
def w_69 (kc : it_Kc) (x0 : Int32) (x1 : Int32) (x2 : Int32) (m : it_Me) (Φ : it_Me → Prop) : Prop :=
  vp_in ((m 4 3) * (4 : Int32)) 800 ∧ (vp_in (((m 4 3) * (4 : Int32)) + (1 : Int32)) 800 ∧ (vp_in (((m 4 3) * (4 : Int32)) + (2 : Int32)) 800 ∧ (vp_in (((m 4 3) * (4 : Int32)) + (3 : Int32)) 800 ∧ (((200 : Int32) ≤ (((it_sv (it_sv (it_sv (it_sv m 6 (Int32.toNatClampNeg ((m 4 3) * (4 : Int32))) (m 4 0)) 6 (Int32.toNatClampNeg (((m 4 3) * (4 : Int32)) + (1 : Int32))) x0) 6 (Int32.toNatClampNeg (((m 4 3) * (4 : Int32)) + (2 : Int32))) x1) 6 (Int32.toNatClampNeg (((m 4 3) * (4 : Int32)) + (3 : Int32))) x2) 4 3) + (1 : Int32)) → w_69_72 kc Φ x1 (0 : Int32) (it_sv (it_sv (it_sv (it_sv m 6 (Int32.toNatClampNeg ((m 4 3) * (4 : Int32))) (m 4 0)) 6 (Int32.toNatClampNeg (((m 4 3) * (4 : Int32)) + (1 : Int32))) x0) 6 (Int32.toNatClampNeg (((m 4 3) * (4 : Int32)) + (2 : Int32))) x1) 6 (Int32.toNatClampNeg (((m 4 3) * (4 : Int32)) + (3 : Int32))) x2)) ∧ (¬ (200 : Int32) ≤ (((it_sv (it_sv (it_sv (it_sv m 6 (Int32.toNatClampNeg ((m 4 3) * (4 : Int32))) (m 4 0)) 6 (Int32.toNatClampNeg (((m 4 3) * (4 : Int32)) + (1 : Int32))) x0) 6 (Int32.toNatClampNeg (((m 4 3) * (4 : Int32)) + (2 : Int32))) x1) 6 (Int32.toNatClampNeg (((m 4 3) * (4 : Int32)) + (3 : Int32))) x2) 4 3) + (1 : Int32)) → w_69_72 kc Φ x1 (((it_sv (it_sv (it_sv (it_sv m 6 (Int32.toNatClampNeg ((m 4 3) * (4 : Int32))) (m 4 0)) 6 (Int32.toNatClampNeg (((m 4 3) * (4 : Int32)) + (1 : Int32))) x0) 6 (Int32.toNatClampNeg (((m 4 3) * (4 : Int32)) + (2 : Int32))) x1) 6 (Int32.toNatClampNeg (((m 4 3) * (4 : Int32)) + (3 : Int32))) x2) 4 3) + (1 : Int32)) (it_sv (it_sv (it_sv (it_sv m 6 (Int32.toNatClampNeg ((m 4 3) * (4 : Int32))) (m 4 0)) 6 (Int32.toNatClampNeg (((m 4 3) * (4 : Int32)) + (1 : Int32))) x0) 6 (Int32.toNatClampNeg (((m 4 3) * (4 : Int32)) + (2 : Int32))) x1) 6 (Int32.toNatClampNeg (((m 4 3) * (4 : Int32)) + (3 : Int32))) x2))))))
/-- GrantBoard$Kernel.give(LGrantBoard$Process;IIIII)V -/
def w_83 (kc : it_Kc) (x0 : Nat) (x1 : Int32) (x2 : Int32) (x3 : Int32) (x4 : Int32) (x5 : Int32) (m : it_Me) (Φ : it_Me → Prop) : Prop :=
  vp_in (10 : Int32) 32 ∧ (vp_in (11 : Int32) 32 ∧ (vp_in (12 : Int32) 32 ∧ (w_69 kc ((it_sv (it_sv (it_sv (it_sv (it_sv m (x0 + 2) (Int32.toNatClampNeg (10 : Int32)) x3) (x0 + 2) (Int32.toNatClampNeg (11 : Int32)) x4) (x0 + 2) (Int32.toNatClampNeg (12 : Int32)) x5) x0 4 (1 : Int32)) x0 9 (1 : Int32)) x0 0) (1 : Int32) (((16 : Int32) * x1) + x2) (it_sv (it_sv (it_sv (it_sv (it_sv m (x0 + 2) (Int32.toNatClampNeg (10 : Int32)) x3) (x0 + 2) (Int32.toNatClampNeg (11 : Int32)) x4) (x0 + 2) (Int32.toNatClampNeg (12 : Int32)) x5) x0 4 (1 : Int32)) x0 9 (1 : Int32)) (fun m1 => Φ m1))))
/-- GrantBoard$Kernel.subscriptionAt(LGrantBoard$Process;II)I -/
def w_87 (kc : it_Kc) (x0 : Nat) (x1 : Int32) (x2 : Int32) (m : it_Me) (Φ : Int32 → it_Me → Prop) : Prop :=
  vp_in x1 9 ∧ (Φ ((m (x0 + 4) (Int32.toNatClampNeg x1)) + ((8 : Int32) * ((1 : Int32) + x2))) m)
/-- GrantBoard$Kernel.enter(LGrantBoard$Process;II)V -/
def w_84 (kc : it_Kc) (x0 : Nat) (x1 : Int32) (x2 : Int32) (m : it_Me) (Φ : it_Me → Prop) : Prop :=
  w_87 kc x0 x1 x2 m (fun r1 m2 => vp_in (1 : Int32) 32 ∧ (w_12 kc (r1 + (4 : Int32)) (it_sv m2 (x0 + 2) (Int32.toNatClampNeg (1 : Int32)) (m2 x0 3)) (fun r3 m4 => vp_in (13 : Int32) 32 ∧ (w_12 kc r1 (it_sv m4 (x0 + 2) (Int32.toNatClampNeg (13 : Int32)) r3) (fun r5 m6 => Φ (it_sv m6 x0 3 r5))))))
/-- GrantBoard$Process.control()I -/
def w_129 (kc : it_Kc) (k : Nat) (m : it_Me) (Φ : Int32 → it_Me → Prop) : Prop :=
  Φ (((m k 5) + (m k 6)) - (64 : Int32)) m
/-- GrantBoard$Process.isOver()Z -/
def w_131_21 (kc : it_Kc) (Φ : Int32 → it_Me → Prop) (u0 : Int32) (m : it_Me) : Prop :=
  (u0 = 0 ∨ u0 = 1) ∧ Φ u0 m
def w_131_16 (kc : it_Kc) (Φ : Int32 → it_Me → Prop) (m : it_Me) : Prop :=
  w_131_21 kc Φ (1 : Int32) m
def w_131 (kc : it_Kc) (k : Nat) (m : it_Me) (Φ : Int32 → it_Me → Prop) : Prop :=
  ((m k 9) = (4 : Int32) → w_131_16 kc Φ m) ∧ (¬ (m k 9) = (4 : Int32) → ((m k 9) = (5 : Int32) → w_131_16 kc Φ m) ∧ (¬ (m k 9) = (5 : Int32) → w_131_21 kc Φ (0 : Int32) m))
/-- GrantBoard$Process.addUpcall(IIIII)V -/
def w_141_77 (kc : it_Kc) (Φ : it_Me → Prop) (m : it_Me) : Prop :=
  Φ m
def w_141 (kc : it_Kc) (k : Nat) (x0 : Int32) (x1 : Int32) (x2 : Int32) (x3 : Int32) (x4 : Int32) (m : it_Me) (Φ : it_Me → Prop) : Prop :=
  ((10 : Int32) ≤ (m k 14) → w_141_77 kc Φ m) ∧ (¬ (10 : Int32) ≤ (m k 14) → vp_in ((m k 14) * (5 : Int32)) 50 ∧ (vp_in (((m k 14) * (5 : Int32)) + (1 : Int32)) 50 ∧ (vp_in (((m k 14) * (5 : Int32)) + (2 : Int32)) 50 ∧ (vp_in (((m k 14) * (5 : Int32)) + (3 : Int32)) 50 ∧ (vp_in (((m k 14) * (5 : Int32)) + (4 : Int32)) 50 ∧ (w_141_77 kc Φ (it_sv (it_sv (it_sv (it_sv (it_sv (it_sv m (k + 3) (Int32.toNatClampNeg ((m k 14) * (5 : Int32))) x0) (k + 3) (Int32.toNatClampNeg (((m k 14) * (5 : Int32)) + (1 : Int32))) x1) (k + 3) (Int32.toNatClampNeg (((m k 14) * (5 : Int32)) + (2 : Int32))) x2) (k + 3) (Int32.toNatClampNeg (((m k 14) * (5 : Int32)) + (3 : Int32))) x3) (k + 3) (Int32.toNatClampNeg (((m k 14) * (5 : Int32)) + (4 : Int32))) x4) k 14 (((it_sv (it_sv (it_sv (it_sv (it_sv m (k + 3) (Int32.toNatClampNeg ((m k 14) * (5 : Int32))) x0) (k + 3) (Int32.toNatClampNeg (((m k 14) * (5 : Int32)) + (1 : Int32))) x1) (k + 3) (Int32.toNatClampNeg (((m k 14) * (5 : Int32)) + (2 : Int32))) x2) (k + 3) (Int32.toNatClampNeg (((m k 14) * (5 : Int32)) + (3 : Int32))) x3) (k + 3) (Int32.toNatClampNeg (((m k 14) * (5 : Int32)) + (4 : Int32))) x4) k 14) + (1 : Int32)))))))))
/-- GrantBoard$Kernel.send(LGrantBoard$Process;IIIII)V -/
def w_80_168 (kc : it_Kc) (Φ : it_Me → Prop) (m : it_Me) : Prop :=
  Φ m
def w_80_48 (kc : it_Kc) (Φ : it_Me → Prop) (v1 : Nat) (v2 : Int32) (v3 : Int32) (v4 : Int32) (v5 : Int32) (v6 : Int32) (m : it_Me) : Prop :=
  w_87 kc v1 v2 v3 m (fun r1 m2 => w_12 kc r1 m2 (fun r3 m4 => (r3 = 0 → Φ m4) ∧ (¬ r3 = 0 → ((m4 v1 9) = (2 : Int32) → w_83 kc v1 v2 v3 v4 v5 v6 m4 (fun m5 => w_84 kc v1 v2 v3 m5 (fun m6 => w_80_168 kc Φ m6))) ∧ (¬ (m4 v1 9) = (2 : Int32) → ((10 : Int32) ≤ (m4 v1 14) → w_129 kc v1 m4 (fun r7 m8 => w_12 kc (r7 + (40 : Int32)) m8 (fun r9 m10 => w_13 kc (r7 + (40 : Int32)) (r9 + (1 : Int32)) m10 (fun m11 => w_69 kc (m11 v1 0) (5 : Int32) (((16 : Int32) * v2) + v3) m11 (fun m12 => w_80_168 kc Φ m12))))) ∧ (¬ (10 : Int32) ≤ (m4 v1 14) → w_141 kc v1 v2 v3 v4 v5 v6 m4 (fun m13 => w_80_168 kc Φ m13))))))
def w_80 (kc : it_Kc) (x0 : Nat) (x1 : Int32) (x2 : Int32) (x3 : Int32) (x4 : Int32) (x5 : Int32) (m : it_Me) (Φ : it_Me → Prop) : Prop :=
  w_131 kc x0 m (fun r1 m2 => (r1 = 0 → ((m2 x0 9) = (3 : Int32) → ((m2 x0 15) = x1 → ((m2 x0 16) = x2 → w_83 kc x0 x1 x2 x3 x4 x5 m2 (fun m3 => w_80_168 kc Φ m3)) ∧ (¬ (m2 x0 16) = x2 → w_80_48 kc Φ x0 x1 x2 x3 x4 x5 m2)) ∧ (¬ (m2 x0 15) = x1 → w_80_48 kc Φ x0 x1 x2 x3 x4 x5 m2)) ∧ (¬ (m2 x0 9) = (3 : Int32) → w_80_48 kc Φ x0 x1 x2 x3 x4 x5 m2)) ∧ (¬ r1 = 0 → Φ m2))
/-- GrantBoard$Drivers.endRead(LGrantBoard$Process;II)V -/
def w_51 (kc : it_Kc) (x0 : Nat) (x1 : Int32) (x2 : Int32) (m : it_Me) (Φ : it_Me → Prop) : Prop :=
  w_12 kc (x1 + (4 : Int32)) m (fun r1 m2 => w_13 kc x1 (0 : Int32) m2 (fun m3 => w_13 kc (x1 + (4 : Int32)) (0 : Int32) m3 (fun m4 => w_80 kc x0 (1 : Int32) (2 : Int32) x2 r1 (0 : Int32) m4 (fun m5 => Φ m5))))
/-- GrantBoard$Kernel.readBufferAt(LGrantBoard$Process;II)I -/
def w_88 (kc : it_Kc) (x0 : Nat) (x1 : Int32) (x2 : Int32) (m : it_Me) (Φ : Int32 → it_Me → Prop) : Prop :=
  vp_in x1 9 ∧ (vp_in x1 (kc 2).1 ∧ (Φ ((m (x0 + 4) (Int32.toNatClampNeg x1)) + ((8 : Int32) * (((1 : Int32) + ((kc 2).2 (Int32.toNatClampNeg x1))) + x2))) m))
/-- GrantBoard$Kernel.writeBufferAt(LGrantBoard$Process;II)I -/
def w_89 (kc : it_Kc) (x0 : Nat) (x1 : Int32) (x2 : Int32) (m : it_Me) (Φ : Int32 → it_Me → Prop) : Prop :=
  vp_in x1 9 ∧ (vp_in x1 (kc 2).1 ∧ (vp_in x1 (kc 3).1 ∧ (Φ ((m (x0 + 4) (Int32.toNatClampNeg x1)) + ((8 : Int32) * ((((1 : Int32) + ((kc 2).2 (Int32.toNatClampNeg x1))) + ((kc 3).2 (Int32.toNatClampNeg x1))) + x2))) m)))
/-- GrantBoard.atMost(II)I -/
def w_214_13 (kc : it_Kc) (Φ : Int32 → it_Me → Prop) (u0 : Int32) (m : it_Me) : Prop :=
  Φ u0 m
def w_214 (kc : it_Kc) (x0 : Int32) (x1 : Int32) (m : it_Me) (Φ : Int32 → it_Me → Prop) : Prop :=
  w_213 kc x0 x1 m (fun r1 m2 => (r1 = 0 → w_214_13 kc Φ x1 m2) ∧ (¬ r1 = 0 → w_214_13 kc Φ x0 m2))
/-- GrantBoard$Drivers.commandConsole(LGrantBoard$Process;II)V -/
def w_45_156 (kc : it_Kc) (Φ : it_Me → Prop) (m : it_Me) : Prop :=
  Φ m
def w_45 (kc : it_Kc) (x0 : Nat) (x1 : Int32) (x2 : Int32) (m : it_Me) (Φ : it_Me → Prop) : Prop :=
  w_90 kc x0 (1 : Int32) m (fun r1 m2 => (x1 = (1 : Int32) → w_88 kc x0 (1 : Int32) (1 : Int32) m2 (fun r3 m4 => w_12 kc (r3 + (4 : Int32)) m4 (fun r5 m6 => w_214 kc x2 r5 m6 (fun r7 m8 => w_46 kc x0 r1 r7 62 m8 (fun m9 => w_45_156 kc Φ m9))))) ∧ (¬ x1 = (1 : Int32) → (x1 = (2 : Int32) → w_89 kc x0 (1 : Int32) (1 : Int32) m2 (fun r10 m11 => w_12 kc (r10 + (4 : Int32)) m11 (fun r12 m13 => w_214 kc x2 r12 m13 (fun r14 m15 => w_46 kc x0 (r1 + (8 : Int32)) r14 63 m15 (fun m16 => w_45_156 kc Φ m16))))) ∧ (¬ x1 = (2 : Int32) → w_12 kc (r1 + (8 : Int32)) m2 (fun r17 m18 => (r17 = 0 → w_136 kc x0 (3 : Int32) m18 (fun m19 => w_45_156 kc Φ m19)) ∧ (¬ r17 = 0 → w_51 kc x0 (r1 + (8 : Int32)) (8 : Int32) m18 (fun m20 => w_138 kc x0 m20 (fun m21 => w_45_156 kc Φ m21)))))))
/-- GrantBoard$Drivers.commandLamps(LGrantBoard$Process;II)V -/
def w_52_9 (kc : it_Kc) (Φ : it_Me → Prop) (v1 : Nat) (m : it_Me) : Prop :=
  w_136 kc v1 (6 : Int32) m (fun m1 => Φ m1)
def w_52_72 (kc : it_Kc) (Φ : it_Me → Prop) (v1 : Nat) (m : it_Me) : Prop :=
  w_138 kc v1 m (fun m1 => Φ m1)
def w_52 (kc : it_Kc) (x0 : Nat) (x1 : Int32) (x2 : Int32) (m : it_Me) (Φ : it_Me → Prop) : Prop :=
  (x2 < 0 → w_52_9 kc Φ x0 m) ∧ (¬ x2 < 0 → (x2 ≤ (3 : Int32) → (x1 = (1 : Int32) → w_52_72 kc Φ x0 (it_sv m 59 4 ((m 59 4) ||| (it_shl (1 : Int32) x2)))) ∧ (¬ x1 = (1 : Int32) → (x1 = (2 : Int32) → w_52_72 kc Φ x0 (it_sv m 59 4 ((m 59 4) &&& ((it_shl (1 : Int32) x2) ^^^ (-1 : Int32))))) ∧ (¬ x1 = (2 : Int32) → w_52_72 kc Φ x0 (it_sv m 59 4 ((m 59 4) ^^^ (it_shl (1 : Int32) x2)))))) ∧ (¬ x2 ≤ (3 : Int32) → w_52_9 kc Φ x0 m))
/-- GrantBoard$Drivers.commandButtons(LGrantBoard$Process;II)V -/
def w_53_9 (kc : it_Kc) (Φ : it_Me → Prop) (v1 : Nat) (m : it_Me) : Prop :=
  w_136 kc v1 (6 : Int32) m (fun m1 => Φ m1)
def w_53_96 (kc : it_Kc) (Φ : it_Me → Prop) (m : it_Me) : Prop :=
  Φ m
def w_53_89 (kc : it_Kc) (Φ : it_Me → Prop) (v1 : Nat) (u1 : Int32) (u2 : Int32) (m : it_Me) : Prop :=
  w_13 kc u1 u2 m (fun m1 => w_138 kc v1 m1 (fun m2 => w_53_96 kc Φ m2))
def w_53 (kc : it_Kc) (x0 : Nat) (x1 : Int32) (x2 : Int32) (m : it_Me) (Φ : it_Me → Prop) : Prop :=
  (x2 < 0 → w_53_9 kc Φ x0 m) ∧ (¬ x2 < 0 → (x2 ≤ (3 : Int32) → w_90 kc x0 (3 : Int32) m (fun r1 m2 => (x1 = (3 : Int32) → w_139 kc x0 ((it_us (m2 59 5) x2) &&& (1 : Int32)) m2 (fun m3 => w_53_96 kc Φ m3)) ∧ (¬ x1 = (3 : Int32) → w_12 kc r1 m2 (fun r4 m5 => (x1 = (1 : Int32) → w_53_89 kc Φ x0 r1 (r4 ||| (it_shl (1 : Int32) x2)) m5) ∧ (¬ x1 = (1 : Int32) → w_53_89 kc Φ x0 r1 (r4 &&& ((it_shl (1 : Int32) x2) ^^^ (-1 : Int32))) m5))))) ∧ (¬ x2 ≤ (3 : Int32) → w_53_9 kc Φ x0 m))
/-- GrantBoard$Drivers.drawBytes(LGrantBoard$Process;I)V -/
def w_55_40 (kc : it_Kc) (Φ : it_Me → Prop) (K86 : Nat → Int32 → it_Me → Prop) : Nat → Nat → Int32 → Int32 → Int32 → it_Me → Prop
  | 0, _, _, _, _, _ => False
  | n40 + 1, v1, v4, v5, v6, m =>
  (v5 ≤ v6 → K86 v1 v5 m) ∧ (¬ v5 ≤ v6 → w_17 kc (v4 + v6) (it_us ((it_sv m 59 7 (((m 59 7) * (1664525 : Int32)) + (1013904223 : Int32))) 59 7) (24 : Int32)) (it_sv m 59 7 (((m 59 7) * (1664525 : Int32)) + (1013904223 : Int32))) (fun m1 => (w_55_40 kc Φ K86 n40) v1 v4 v5 (v6 + (1 : Int32)) m1))
def w_55_86 (kc : it_Kc) (Φ : it_Me → Prop) (v1 : Nat) (v5 : Int32) (m : it_Me) : Prop :=
  w_138 kc v1 m (fun m1 => w_80 kc v1 (4 : Int32) (0 : Int32) (0 : Int32) v5 (0 : Int32) m1 (fun m2 => Φ m2))
def w_55 (kc : it_Kc) (x0 : Nat) (x1 : Int32) (m : it_Me) (Φ : it_Me → Prop) : Prop :=
  w_89 kc x0 (4 : Int32) (0 : Int32) m (fun r1 m2 => w_12 kc r1 m2 (fun r3 m4 => w_12 kc (r1 + (4 : Int32)) m4 (fun r5 m6 => w_214 kc x1 r5 m6 (fun r7 m8 => ∃ e, w_55_40 kc Φ (fun v1 v5 m => w_55_86 kc Φ v1 v5 m) e x0 r3 r7 (0 : Int32) m8))))
/-- GrantBoard$Store.sizeFor(I)I -/
def w_162_19 (kc : it_Kc) (Φ : Int32 → it_Me → Prop) (u0 : Int32) (u1 : Int32) (m : it_Me) : Prop :=
  Φ (u0 + u1) m
def w_162 (kc : it_Kc) (x0 : Int32) (m : it_Me) (Φ : Int32 → it_Me → Prop) : Prop :=
  (x0 = (255 : Int32) → w_162_19 kc Φ (16 : Int32) (0 : Int32) m) ∧ (¬ x0 = (255 : Int32) → w_162_19 kc Φ (16 : Int32) ((x0 + (3 : Int32)) &&& (-4 : Int32)) m)
/-- GrantBoard$Store.recordSize(I)I -/
def w_164_83 (kc : it_Kc) (Φ : Int32 → it_Me → Prop) (K114 : Int32 → Int32 → Int32 → it_Me → Prop) : Nat → Int32 → Int32 → Int32 → Int32 → it_Me → Prop
  | 0, _, _, _, _, _ => False
  | n83 + 1, v1, v4, v5, v6, m =>
  ((v4 - (4 : Int32)) ≤ v6 → K114 v1 v4 v5 m) ∧ (¬ (v4 - (4 : Int32)) ≤ v6 → w_12 kc (v1 + v6) m (fun r1 m2 => (w_164_83 kc Φ K114 n83) v1 v4 (v5 ^^^ r1) (v6 + (4 : Int32)) m2))
def w_164_29 (kc : it_Kc) (Φ : Int32 → it_Me → Prop) (m : it_Me) : Prop :=
  Φ (0 : Int32) m
def w_164_60 (kc : it_Kc) (Φ : Int32 → it_Me → Prop) (m : it_Me) : Prop :=
  Φ (0 : Int32) m
def w_164_148 (kc : it_Kc) (Φ : Int32 → it_Me → Prop) (u0 : Int32) (m : it_Me) : Prop :=
  Φ u0 m
def w_164_139 (kc : it_Kc) (Φ : Int32 → it_Me → Prop) (v4 : Int32) (u0 : Int32) (u1 : Int32) (m : it_Me) : Prop :=
  (u0 = u1 → w_164_148 kc Φ v4 m) ∧ (¬ u0 = u1 → w_164_148 kc Φ (0 : Int32) m)
def w_164_114 (kc : it_Kc) (Φ : Int32 → it_Me → Prop) (v1 : Int32) (v4 : Int32) (v5 : Int32) (m : it_Me) : Prop :=
  w_12 kc ((v1 + v4) - (4 : Int32)) m (fun r1 m2 => (v5 = (-1 : Int32) → w_164_139 kc Φ v4 r1 (0 : Int32) m2) ∧ (¬ v5 = (-1 : Int32) → w_164_139 kc Φ v4 r1 v5 m2))
def w_164_62 (kc : it_Kc) (Φ : Int32 → it_Me → Prop) (v1 : Int32) (v2 : Int32) (v3 : Int32) (m : it_Me) : Prop :=
  w_162 kc v3 m (fun r1 m2 => (r1 ≤ v2 → ∃ e, w_164_83 kc Φ (fun v1 v4 v5 m => w_164_114 kc Φ v1 v4 v5 m) e v1 r1 (1515870810 : Int32) (0 : Int32) m2) ∧ (¬ r1 ≤ v2 → Φ (0 : Int32) m2))
def w_164 (kc : it_Kc) (x0 : Int32) (m : it_Me) (Φ : Int32 → it_Me → Prop) : Prop :=
  ((((m 7 2) + (2048 : Int32)) - x0) < (16 : Int32) → w_164_29 kc Φ m) ∧ (¬ (((m 7 2) + (2048 : Int32)) - x0) < (16 : Int32) → w_12 kc x0 m (fun r1 m2 => (r1 = (-1 : Int32) → w_164_29 kc Φ m2) ∧ (¬ r1 = (-1 : Int32) → w_12 kc (x0 + (8 : Int32)) m2 (fun r3 m4 => (r3 = (255 : Int32) → w_164_62 kc Φ x0 (((m 7 2) + (2048 : Int32)) - x0) r3 m4) ∧ (¬ r3 = (255 : Int32) → (r3 < 0 → w_164_60 kc Φ m4) ∧ (¬ r3 < 0 → (r3 ≤ (32 : Int32) → w_164_62 kc Φ x0 (((m 7 2) + (2048 : Int32)) - x0) r3 m4) ∧ (¬ r3 ≤ (32 : Int32) → w_164_60 kc Φ m4)))))))
/-- GrantBoard$Store.scan()V -/
def w_163_25 (kc : it_Kc) (Φ : it_Me → Prop) (K47 : it_Me → Prop) (K81 : it_Me → Prop) : Nat → Int32 → it_Me → Prop
  | 0, _, _ => False
  | n25 + 1, v1, m =>
  ((128 : Int32) ≤ v1 → K81 m) ∧ (¬ (128 : Int32) ≤ v1 → w_164 kc (m 7 7) m (fun r1 m2 => (r1 = 0 → K47 m2) ∧ (¬ r1 = 0 → vp_in v1 128 ∧ ((w_163_25 kc Φ K47 K81 n25) (v1 + (1 : Int32)) (it_sv (it_sv (it_sv m2 8 (Int32.toNatClampNeg v1) (m2 7 7)) 7 6 (v1 + (1 : Int32))) 7 7 (((it_sv (it_sv m2 8 (Int32.toNatClampNeg v1) (m2 7 7)) 7 6 (v1 + (1 : Int32))) 7 7) + r1))))))
def w_163_47 (kc : it_Kc) (Φ : it_Me → Prop) (m : it_Me) : Prop :=
  Φ m
def w_163_81 (kc : it_Kc) (Φ : it_Me → Prop) (m : it_Me) : Prop :=
  Φ m
def w_163 (kc : it_Kc) (m : it_Me) (Φ : it_Me → Prop) : Prop :=
  (((it_sv (it_sv m 7 6 (0 : Int32)) 7 7 (((it_sv m 7 6 (0 : Int32)) 7 2) + (4 : Int32))) 7 2) = 0 → Φ (it_sv (it_sv m 7 6 (0 : Int32)) 7 7 (((it_sv m 7 6 (0 : Int32)) 7 2) + (4 : Int32)))) ∧ (¬ ((it_sv (it_sv m 7 6 (0 : Int32)) 7 7 (((it_sv m 7 6 (0 : Int32)) 7 2) + (4 : Int32))) 7 2) = 0 → ∃ e, w_163_25 kc Φ (fun m => w_163_47 kc Φ m) (fun m => w_163_81 kc Φ m) e (0 : Int32) (it_sv (it_sv m 7 6 (0 : Int32)) 7 7 (((it_sv m 7 6 (0 : Int32)) 7 2) + (4 : Int32))))
/-- GrantBoard$Store.find(II)I -/
def w_159_76 (kc : it_Kc) (Φ : Int32 → it_Me → Prop) (K11 : Int32 → Int32 → Int32 → it_Me → Prop) (K51 : Int32 → it_Me → Prop) (K82 : it_Me → Prop) (v1 : Int32) (v2 : Int32) (v3 : Int32) (m : it_Me) : Prop :=
  K11 v1 v2 (v3 + (-1 : Int32)) m
def w_159_11 (kc : it_Kc) (Φ : Int32 → it_Me → Prop) (K51 : Int32 → it_Me → Prop) (K82 : it_Me → Prop) : Nat → Int32 → Int32 → Int32 → it_Me → Prop
  | 0, _, _, _, _ => False
  | n11 + 1, v1, v2, v3, m =>
  (v3 < 0 → K82 m) ∧ (¬ v3 < 0 → vp_in v3 128 ∧ (w_12 kc (m 8 (Int32.toNatClampNeg v3)) m (fun r1 m2 => (r1 = v1 → w_12 kc ((m 8 (Int32.toNatClampNeg v3)) + (4 : Int32)) m2 (fun r3 m4 => (r3 = v2 → K51 (m 8 (Int32.toNatClampNeg v3)) m4) ∧ (¬ r3 = v2 → w_159_76 kc Φ (w_159_11 kc Φ K51 K82 n11) K51 K82 v1 v2 v3 m4))) ∧ (¬ r1 = v1 → w_159_76 kc Φ (w_159_11 kc Φ K51 K82 n11) K51 K82 v1 v2 v3 m2))))
def w_159_75 (kc : it_Kc) (Φ : Int32 → it_Me → Prop) (u0 : Int32) (m : it_Me) : Prop :=
  Φ u0 m
def w_159_51 (kc : it_Kc) (Φ : Int32 → it_Me → Prop) (v4 : Int32) (m : it_Me) : Prop :=
  w_12 kc (v4 + (8 : Int32)) m (fun r1 m2 => (r1 = (255 : Int32) → w_159_75 kc Φ (0 : Int32) m2) ∧ (¬ r1 = (255 : Int32) → w_159_75 kc Φ v4 m2))
def w_159_82 (kc : it_Kc) (Φ : Int32 → it_Me → Prop) (m : it_Me) : Prop :=
  Φ (0 : Int32) m
def w_159 (kc : it_Kc) (x0 : Int32) (x1 : Int32) (m : it_Me) (Φ : Int32 → it_Me → Prop) : Prop :=
  w_163 kc m (fun m1 => ∃ e, w_159_11 kc Φ (fun v4 m => w_159_51 kc Φ v4 m) (fun m => w_159_82 kc Φ m) e x0 x1 ((m1 7 6) - (1 : Int32)) m1)
/-- GrantBoard$Drivers.fetchValue(LGrantBoard$Process;II)V -/
def w_57_104 (kc : it_Kc) (Φ : it_Me → Prop) (v3 : Int32) (v5 : Int32) (u1 : Nat) (u2 : Int32) (u3 : Int32) (u4 : Int32) (m : it_Me) : Prop :=
  w_80 kc u1 u2 u3 u4 v5 v3 m (fun m1 => Φ m1)
def w_57_82 (kc : it_Kc) (Φ : it_Me → Prop) (v1 : Nat) (v3 : Int32) (v4 : Int32) (v5 : Int32) (m : it_Me) : Prop :=
  w_138 kc v1 m (fun m1 => (v4 = 0 → w_57_104 kc Φ v3 v5 v1 (5 : Int32) (0 : Int32) (10 : Int32) m1) ∧ (¬ v4 = 0 → w_57_104 kc Φ v3 v5 v1 (5 : Int32) (0 : Int32) (0 : Int32) m1))
def w_57 (kc : it_Kc) (x0 : Nat) (x1 : Int32) (x2 : Int32) (m : it_Me) (Φ : it_Me → Prop) : Prop :=
  w_159 kc x1 x2 m (fun r1 m2 => (r1 = 0 → w_57_82 kc Φ x0 x2 r1 (0 : Int32) m2) ∧ (¬ r1 = 0 → w_12 kc (r1 + (8 : Int32)) m2 (fun r3 m4 => w_89 kc x0 (5 : Int32) (0 : Int32) m4 (fun r5 m6 => w_12 kc r5 m6 (fun r7 m8 => w_12 kc (r5 + (4 : Int32)) m8 (fun r9 m10 => w_214 kc r3 r9 m10 (fun r11 m12 => w_19 kc (r1 + (12 : Int32)) r7 r11 m12 (fun m13 => w_57_82 kc Φ x0 x2 r1 r3 m13))))))))
/-- GrantBoard$Drivers.answerPut(LGrantBoard$Process;III)V -/
def w_60_28 (kc : it_Kc) (Φ : it_Me → Prop) (m : it_Me) : Prop :=
  Φ m
def w_60 (kc : it_Kc) (x0 : Nat) (x1 : Int32) (x2 : Int32) (x3 : Int32) (m : it_Me) (Φ : it_Me → Prop) : Prop :=
  ((m 7 4) = 0 → w_138 kc x0 m (fun m1 => w_80 kc x0 (5 : Int32) (0 : Int32) x1 x2 x3 m1 (fun m2 => w_60_28 kc Φ m2))) ∧ (¬ (m 7 4) = 0 → w_60_28 kc Φ m)
/-- GrantBoard$Store.valueWord(II)I -/
def w_161_5 (kc : it_Kc) (Φ : Int32 → it_Me → Prop) (K42 : Int32 → it_Me → Prop) : Nat → Int32 → Int32 → Int32 → Int32 → it_Me → Prop
  | 0, _, _, _, _, _ => False
  | n5 + 1, v1, v2, v3, v4, m =>
  ((4 : Int32) ≤ v4 → K42 v3 m) ∧ (¬ (4 : Int32) ≤ v4 → (v2 ≤ v4 → K42 v3 m) ∧ (¬ v2 ≤ v4 → w_16 kc (v1 + v4) m (fun r1 m2 => (w_161_5 kc Φ K42 n5) v1 v2 (v3 ||| (it_shl r1 (it_shl v4 (3 : Int32)))) (v4 + (1 : Int32)) m2)))
def w_161_42 (kc : it_Kc) (Φ : Int32 → it_Me → Prop) (v3 : Int32) (m : it_Me) : Prop :=
  Φ v3 m
def w_161 (kc : it_Kc) (x0 : Int32) (x1 : Int32) (m : it_Me) (Φ : Int32 → it_Me → Prop) : Prop :=
  ∃ e, w_161_5 kc Φ (fun v3 m => w_161_42 kc Φ v3 m) e x0 x1 (0 : Int32) (0 : Int32) m
/-- GrantBoard$Store.isLatest(I)Z -/
def w_167_84 (kc : it_Kc) (Φ : Int32 → it_Me → Prop) (K35 : Int32 → Int32 → Int32 → it_Me → Prop) (K82 : it_Me → Prop) (K90 : it_Me → Prop) (v2 : Int32) (v3 : Int32) (v4 : Int32) (m : it_Me) : Prop :=
  K35 v2 v3 (v4 + (1 : Int32)) m
def w_167_35 (kc : it_Kc) (Φ : Int32 → it_Me → Prop) (K82 : it_Me → Prop) (K90 : it_Me → Prop) : Nat → Int32 → Int32 → Int32 → it_Me → Prop
  | 0, _, _, _, _ => False
  | n35 + 1, v2, v3, v4, m =>
  ((m 7 6) ≤ v4 → K90 m) ∧ (¬ (m 7 6) ≤ v4 → vp_in v4 128 ∧ (w_12 kc (m 8 (Int32.toNatClampNeg v4)) m (fun r1 m2 => (r1 = v2 → vp_in v4 128 ∧ (w_12 kc ((m2 8 (Int32.toNatClampNeg v4)) + (4 : Int32)) m2 (fun r3 m4 => (r3 = v3 → K82 m4) ∧ (¬ r3 = v3 → w_167_84 kc Φ (w_167_35 kc Φ K82 K90 n35) K82 K90 v2 v3 v4 m4)))) ∧ (¬ r1 = v2 → w_167_84 kc Φ (w_167_35 kc Φ K82 K90 n35) K82 K90 v2 v3 v4 m2))))
def w_167_82 (kc : it_Kc) (Φ : Int32 → it_Me → Prop) (m : it_Me) : Prop :=
  Φ (0 : Int32) m
def w_167_90 (kc : it_Kc) (Φ : Int32 → it_Me → Prop) (m : it_Me) : Prop :=
  Φ (1 : Int32) m
def w_167 (kc : it_Kc) (x0 : Int32) (m : it_Me) (Φ : Int32 → it_Me → Prop) : Prop :=
  vp_in x0 128 ∧ (w_12 kc (m 8 (Int32.toNatClampNeg x0)) m (fun r1 m2 => vp_in x0 128 ∧ (w_12 kc ((m2 8 (Int32.toNatClampNeg x0)) + (4 : Int32)) m2 (fun r3 m4 => ∃ e, w_167_35 kc Φ (fun m => w_167_82 kc Φ m) (fun m => w_167_90 kc Φ m) e r1 r3 (x0 + (1 : Int32)) m4))))
/-- GrantBoard$Store.spendWrite()Z -/
def w_170_36 (kc : it_Kc) (Φ : Int32 → it_Me → Prop) (m : it_Me) : Prop :=
  vp_in (4 : Int32) 12 ∧ (vp_in (4 : Int32) 12 ∧ (Φ (1 : Int32) (it_sv m 5 (Int32.toNatClampNeg (4 : Int32)) ((m 5 (Int32.toNatClampNeg (4 : Int32))) + (1 : Int32)))))
def w_170 (kc : it_Kc) (m : it_Me) (Φ : Int32 → it_Me → Prop) : Prop :=
  ((m 7 3) = 0 → Φ (0 : Int32) (it_sv (it_sv m 7 3 (-1 : Int32)) 7 4 (1 : Int32))) ∧ (¬ (m 7 3) = 0 → ((m 7 3) ≤ 0 → w_170_36 kc Φ m) ∧ (¬ (m 7 3) ≤ 0 → w_170_36 kc Φ (it_sv m 7 3 ((m 7 3) - (1 : Int32)))))
/-- GrantBoard$Store.putWord(II)V -/
def w_168_23 (kc : it_Kc) (Φ : it_Me → Prop) (m : it_Me) : Prop :=
  Φ m
def w_168 (kc : it_Kc) (x0 : Int32) (x1 : Int32) (m : it_Me) (Φ : it_Me → Prop) : Prop :=
  ((m 7 4) = 0 → w_170 kc m (fun r1 m2 => (r1 = 0 → w_168_23 kc Φ m2) ∧ (¬ r1 = 0 → w_13 kc x0 x1 m2 (fun m3 => w_168_23 kc Φ m3)))) ∧ (¬ (m 7 4) = 0 → w_168_23 kc Φ m)
/-- GrantBoard$Store.eraseBank(I)V -/
def w_169_26 (kc : it_Kc) (Φ : it_Me → Prop) (K48 : it_Me → Prop) : Nat → Int32 → Int32 → Int32 → it_Me → Prop
  | 0, _, _, _, _ => False
  | n26 + 1, v1, v2, v3, m =>
  (v2 ≤ v3 → K48 m) ∧ (¬ v2 ≤ v3 → w_13 kc (v1 + v3) (-1 : Int32) m (fun m1 => (w_169_26 kc Φ K48 n26) v1 v2 (v3 + (4 : Int32)) m1))
def w_169_48 (kc : it_Kc) (Φ : it_Me → Prop) (m : it_Me) : Prop :=
  Φ m
def w_169_23 (kc : it_Kc) (Φ : it_Me → Prop) (v1 : Int32) (u0 : Int32) (m : it_Me) : Prop :=
  ∃ e, w_169_26 kc Φ (fun m => w_169_48 kc Φ m) e v1 u0 (0 : Int32) m
def w_169 (kc : it_Kc) (x0 : Int32) (m : it_Me) (Φ : it_Me → Prop) : Prop :=
  ((m 7 4) = 0 → w_170 kc m (fun r1 m2 => (r1 = 0 → w_169_23 kc Φ x0 (1024 : Int32) m2) ∧ (¬ r1 = 0 → w_169_23 kc Φ x0 (2048 : Int32) m2))) ∧ (¬ (m 7 4) = 0 → w_169_48 kc Φ m)
/-- GrantBoard$Store.compact()V -/
def w_166_84 (kc : it_Kc) (Φ : it_Me → Prop) (K117 : Int32 → Int32 → Int32 → Int32 → it_Me → Prop) : Nat → Int32 → Int32 → Int32 → Int32 → Int32 → Int32 → it_Me → Prop
  | 0, _, _, _, _, _, _, _ => False
  | n84 + 1, v1, v2, v3, v4, v6, v7, m =>
  (v6 ≤ v7 → K117 v1 v2 v3 v6 m) ∧ (¬ v6 ≤ v7 → w_12 kc (v4 + v7) m (fun r1 m2 => w_168 kc (v2 + v7) r1 m2 (fun m3 => (w_166_84 kc Φ K117 n84) v1 v2 v3 v4 v6 (v7 + (4 : Int32)) m3)))
def w_166_122 (kc : it_Kc) (Φ : it_Me → Prop) (K28 : Int32 → Int32 → Int32 → it_Me → Prop) (K128 : Int32 → it_Me → Prop) (v1 : Int32) (v2 : Int32) (v3 : Int32) (m : it_Me) : Prop :=
  K28 v1 v2 (v3 + (1 : Int32)) m
def w_166_117 (kc : it_Kc) (Φ : it_Me → Prop) (K28 : Int32 → Int32 → Int32 → it_Me → Prop) (K128 : Int32 → it_Me → Prop) (v1 : Int32) (v2 : Int32) (v3 : Int32) (v6 : Int32) (m : it_Me) : Prop :=
  w_166_122 kc Φ K28 K128 v1 (v2 + v6) v3 m
def w_166_28 (kc : it_Kc) (Φ : it_Me → Prop) (K128 : Int32 → it_Me → Prop) : Nat → Int32 → Int32 → Int32 → it_Me → Prop
  | 0, _, _, _, _ => False
  | n28 + 1, v1, v2, v3, m =>
  ((m 7 6) ≤ v3 → K128 v1 m) ∧ (¬ (m 7 6) ≤ v3 → vp_in v3 128 ∧ (w_12 kc ((m 8 (Int32.toNatClampNeg v3)) + (8 : Int32)) m (fun r1 m2 => (r1 = (255 : Int32) → w_166_122 kc Φ (w_166_28 kc Φ K128 n28) K128 v1 v2 v3 m2) ∧ (¬ r1 = (255 : Int32) → w_167 kc v3 m2 (fun r3 m4 => (r3 = 0 → w_166_122 kc Φ (w_166_28 kc Φ K128 n28) K128 v1 v2 v3 m4) ∧ (¬ r3 = 0 → w_162 kc r1 m4 (fun r5 m6 => ∃ e, w_166_84 kc Φ (fun v1 v2 v3 v6 m => w_166_117 kc Φ (w_166_28 kc Φ K128 n28) K128 v1 v2 v3 v6 m) e v1 v2 v3 (m 8 (Int32.toNatClampNeg v3)) r5 (0 : Int32) m6)))))))
def w_166_164 (kc : it_Kc) (Φ : it_Me → Prop) (m : it_Me) : Prop :=
  Φ m
def w_166_128 (kc : it_Kc) (Φ : it_Me → Prop) (v1 : Int32) (m : it_Me) : Prop :=
  w_12 kc (m 7 2) m (fun r1 m2 => w_168 kc v1 ((1263927296 : Int32) ||| ((r1 + (1 : Int32)) &&& (65535 : Int32))) m2 (fun m3 => ((m3 7 4) = 0 → w_166_164 kc Φ (it_sv m3 7 2 v1)) ∧ (¬ (m3 7 4) = 0 → w_166_164 kc Φ m3)))
def w_166_16 (kc : it_Kc) (Φ : it_Me → Prop) (u0 : Int32) (m : it_Me) : Prop :=
  w_169 kc u0 m (fun m1 => ∃ e, w_166_28 kc Φ (fun v1 m => w_166_128 kc Φ v1 m) e u0 (u0 + (4 : Int32)) (0 : Int32) m1)
def w_166 (kc : it_Kc) (m : it_Me) (Φ : it_Me → Prop) : Prop :=
  ((m 7 2) = (126976 : Int32) → w_166_16 kc Φ (129024 : Int32) m) ∧ (¬ (m 7 2) = (126976 : Int32) → w_166_16 kc Φ (126976 : Int32) m)
/-- GrantBoard$Store.put(IIII)Z -/
def w_160_108 (kc : it_Kc) (Φ : Int32 → it_Me → Prop) (K160 : Int32 → Int32 → Int32 → it_Me → Prop) : Nat → Int32 → Int32 → Int32 → Int32 → Int32 → Int32 → it_Me → Prop
  | 0, _, _, _, _, _, _, _ => False
  | n108 + 1, v3, v4, v5, v6, v7, v8, m =>
  ((v5 - (16 : Int32)) ≤ v8 → K160 v5 v6 v7 m) ∧ (¬ (v5 - (16 : Int32)) ≤ v8 → w_161 kc (v4 + v8) (v3 - v8) m (fun r1 m2 => w_168 kc ((v6 + (12 : Int32)) + v8) r1 m2 (fun m3 => (w_160_108 kc Φ K160 n108) v3 v4 v5 v6 (v7 ^^^ r1) (v8 + (4 : Int32)) m3)))
def w_160_180 (kc : it_Kc) (Φ : Int32 → it_Me → Prop) (u1 : Int32) (u2 : Int32) (m : it_Me) : Prop :=
  w_168 kc u1 u2 m (fun m1 => Φ (1 : Int32) m1)
def w_160_160 (kc : it_Kc) (Φ : Int32 → it_Me → Prop) (v5 : Int32) (v6 : Int32) (v7 : Int32) (m : it_Me) : Prop :=
  (v7 = (-1 : Int32) → w_160_180 kc Φ ((v6 + v5) - (4 : Int32)) (0 : Int32) m) ∧ (¬ v7 = (-1 : Int32) → w_160_180 kc Φ ((v6 + v5) - (4 : Int32)) v7 m)
def w_160_63 (kc : it_Kc) (Φ : Int32 → it_Me → Prop) (v1 : Int32) (v2 : Int32) (v3 : Int32) (v4 : Int32) (v5 : Int32) (m : it_Me) : Prop :=
  w_168 kc (m 7 7) v1 m (fun m1 => w_168 kc ((m 7 7) + (4 : Int32)) v2 m1 (fun m2 => w_168 kc ((m 7 7) + (8 : Int32)) v3 m2 (fun m3 => ∃ e, w_160_108 kc Φ (fun v5 v6 v7 m => w_160_160 kc Φ v5 v6 v7 m) e v3 v4 v5 (m 7 7) (((v1 ^^^ v2) ^^^ v3) ^^^ (1515870810 : Int32)) (0 : Int32) m3)))
def w_160 (kc : it_Kc) (x0 : Int32) (x1 : Int32) (x2 : Int32) (x3 : Int32) (m : it_Me) (Φ : Int32 → it_Me → Prop) : Prop :=
  (x0 = (-1 : Int32) → Φ (0 : Int32) m) ∧ (¬ x0 = (-1 : Int32) → w_162 kc x2 m (fun r1 m2 => w_163 kc m2 (fun m3 => (r1 ≤ (((m3 7 2) + (2048 : Int32)) - (m3 7 7)) → w_160_63 kc Φ x0 x1 x2 x3 r1 m3) ∧ (¬ r1 ≤ (((m3 7 2) + (2048 : Int32)) - (m3 7 7)) → w_166 kc m3 (fun m4 => w_163 kc m4 (fun m5 => (r1 ≤ (((m5 7 2) + (2048 : Int32)) - (m5 7 7)) → w_160_63 kc Φ x0 x1 x2 x3 r1 m5) ∧ (¬ r1 ≤ (((m5 7 2) + (2048 : Int32)) - (m5 7 7)) → Φ (0 : Int32) m5)))))))
/-- GrantBoard$Drivers.keepValue(LGrantBoard$Process;III)V -/
def w_58_38 (kc : it_Kc) (Φ : it_Me → Prop) (v1 : Nat) (m : it_Me) : Prop :=
  w_136 kc v1 (7 : Int32) m (fun m1 => Φ m1)
def w_58_80 (kc : it_Kc) (Φ : it_Me → Prop) (v3 : Int32) (v4 : Int32) (u1 : Nat) (u2 : Int32) (m : it_Me) : Prop :=
  w_60 kc u1 u2 v4 v3 m (fun m1 => Φ m1)
def w_58 (kc : it_Kc) (x0 : Nat) (x1 : Int32) (x2 : Int32) (x3 : Int32) (m : it_Me) (Φ : it_Me → Prop) : Prop :=
  w_88 kc x0 (5 : Int32) (0 : Int32) m (fun r1 m2 => w_213 kc (32 : Int32) x3 m2 (fun r3 m4 => (r3 = 0 → w_12 kc (r1 + (4 : Int32)) m4 (fun r5 m6 => (x3 ≤ r5 → w_12 kc r1 m6 (fun r7 m8 => w_160 kc x1 x2 x3 r7 m8 (fun r9 m10 => (r9 = 0 → w_58_80 kc Φ x2 x3 x0 (9 : Int32) m10) ∧ (¬ r9 = 0 → w_58_80 kc Φ x2 x3 x0 (0 : Int32) m10)))) ∧ (¬ x3 ≤ r5 → w_58_38 kc Φ x0 m6))) ∧ (¬ r3 = 0 → w_58_38 kc Φ x0 m4)))
/-- GrantBoard$Drivers.forgetValue(LGrantBoard$Process;II)V -/
def w_59_50 (kc : it_Kc) (Φ : it_Me → Prop) (v3 : Int32) (u1 : Nat) (u2 : Int32) (m : it_Me) : Prop :=
  w_60 kc u1 u2 (0 : Int32) v3 m (fun m1 => Φ m1)
def w_59 (kc : it_Kc) (x0 : Nat) (x1 : Int32) (x2 : Int32) (m : it_Me) (Φ : it_Me → Prop) : Prop :=
  w_159 kc x1 x2 m (fun r1 m2 => (r1 = 0 → w_60 kc x0 (10 : Int32) (0 : Int32) x2 m2 (fun m3 => Φ m3)) ∧ (¬ r1 = 0 → w_160 kc x1 x2 (255 : Int32) (0 : Int32) m2 (fun r4 m5 => (r4 = 0 → w_59_50 kc Φ x2 x0 (9 : Int32) m5) ∧ (¬ r4 = 0 → w_59_50 kc Φ x2 x0 (0 : Int32) m5))))
/-- GrantBoard$Drivers.commandStore(LGrantBoard$Process;III)V -/
def w_56_76 (kc : it_Kc) (Φ : it_Me → Prop) (m : it_Me) : Prop :=
  Φ m
def w_56 (kc : it_Kc) (x0 : Nat) (x1 : Int32) (x2 : Int32) (x3 : Int32) (m : it_Me) (Φ : it_Me → Prop) : Prop :=
  w_12 kc (m (x0 + 1) 12) m (fun r1 m2 => (x1 = (1 : Int32) → w_57 kc x0 r1 x2 m2 (fun m3 => w_56_76 kc Φ m3)) ∧ (¬ x1 = (1 : Int32) → (x1 = (2 : Int32) → w_58 kc x0 r1 x2 x3 m2 (fun m4 => w_56_76 kc Φ m4)) ∧ (¬ x1 = (2 : Int32) → w_59 kc x0 r1 x2 m2 (fun m5 => w_56_76 kc Φ m5))))
/-- GrantBoard$Drivers.commandSampler(LGrantBoard$Process;III)V -/
def w_63_165 (kc : it_Kc) (Φ : it_Me → Prop) (m : it_Me) : Prop :=
  Φ m
def w_63_54 (kc : it_Kc) (Φ : it_Me → Prop) (v1 : Nat) (m : it_Me) : Prop :=
  w_136 kc v1 (6 : Int32) m (fun m1 => w_63_165 kc Φ m1)
def w_63_63 (kc : it_Kc) (Φ : it_Me → Prop) (v1 : Nat) (v2 : Int32) (v3 : Int32) (v4 : Int32) (v5 : Int32) (m : it_Me) : Prop :=
  (v2 = (1 : Int32) → w_138 kc v1 m (fun m1 => vp_in v3 2 ∧ (w_80 kc v1 (6 : Int32) (0 : Int32) v3 (m1 60 (Int32.toNatClampNeg v3)) (1 : Int32) m1 (fun m2 => w_63_165 kc Φ m2)))) ∧ (¬ v2 = (1 : Int32) → w_12 kc v5 m (fun r3 m4 => (r3 = 0 → w_13 kc v5 ((1 : Int32) + v3) m4 (fun m5 => w_13 kc (v5 + (4 : Int32)) v4 m5 (fun m6 => w_13 kc (v5 + (8 : Int32)) ((m6 4 0) + v4) m6 (fun m7 => w_138 kc v1 m7 (fun m8 => w_63_165 kc Φ m8))))) ∧ (¬ r3 = 0 → w_136 kc v1 (2 : Int32) m4 (fun m9 => w_63_165 kc Φ m9))))
def w_63 (kc : it_Kc) (x0 : Nat) (x1 : Int32) (x2 : Int32) (x3 : Int32) (m : it_Me) (Φ : it_Me → Prop) : Prop :=
  w_90 kc x0 (6 : Int32) m (fun r1 m2 => (x1 = (3 : Int32) → w_44 kc x0 r1 m2 (fun m3 => w_63_165 kc Φ m3)) ∧ (¬ x1 = (3 : Int32) → (x2 < 0 → w_63_54 kc Φ x0 m2) ∧ (¬ x2 < 0 → ((1 : Int32) < x2 → w_63_54 kc Φ x0 m2) ∧ (¬ (1 : Int32) < x2 → (x1 = (2 : Int32) → (x3 < (1 : Int32) → w_63_54 kc Φ x0 m2) ∧ (¬ x3 < (1 : Int32) → (x3 ≤ (100000 : Int32) → w_63_63 kc Φ x0 x1 x2 x3 r1 m2) ∧ (¬ x3 ≤ (100000 : Int32) → w_63_54 kc Φ x0 m2))) ∧ (¬ x1 = (2 : Int32) → w_63_63 kc Φ x0 x1 x2 x3 r1 m2)))))
/-- GrantBoard$Kernel.find(I)LGrantBoard$Process; -/
def w_72_22 (kc : it_Kc) (Φ : Option Nat → it_Me → Prop) (u0 : Option Nat) (m : it_Me) : Prop :=
  Φ u0 m
def w_72_12 (kc : it_Kc) (Φ : Option Nat → it_Me → Prop) (m : it_Me) : Prop :=
  w_72_22 kc Φ none m
def w_72 (kc : it_Kc) (x0 : Int32) (m : it_Me) (Φ : Option Nat → it_Me → Prop) : Prop :=
  (x0 < 0 → w_72_12 kc Φ m) ∧ (¬ x0 < 0 → (x0 < (m 9 7) → vp_in x0 8 ∧ (w_72_22 kc Φ (some (14 + 5 * Int32.toNatClampNeg x0)) m)) ∧ (¬ x0 < (m 9 7) → w_72_12 kc Φ m))
/-- GrantBoard$Drivers.sendPost(LGrantBoard$Process;II)V -/
def w_65_58 (kc : it_Kc) (Φ : it_Me → Prop) (v1 : Nat) (m : it_Me) : Prop :=
  w_136 kc v1 (11 : Int32) m (fun m1 => Φ m1)
def w_65_233 (kc : it_Kc) (Φ : it_Me → Prop) (m : it_Me) : Prop :=
  Φ m
def w_65 (kc : it_Kc) (x0 : Nat) (x1 : Int32) (x2 : Int32) (m : it_Me) (Φ : it_Me → Prop) : Prop :=
  w_72 kc x1 m (fun r1 m2 => (r1 = none → w_65_58 kc Φ x0 m2) ∧ (∀ q3, r1 = some q3 → w_131 kc q3 m2 (fun r4 m5 => (r4 = 0 → vp_in (7 : Int32) 9 ∧ (((m5 (q3 + 4) (Int32.toNatClampNeg (7 : Int32))) = 0 → w_65_58 kc Φ x0 m5) ∧ (¬ (m5 (q3 + 4) (Int32.toNatClampNeg (7 : Int32))) = 0 → w_89 kc q3 (7 : Int32) (0 : Int32) m5 (fun r6 m7 => w_12 kc (r6 + (4 : Int32)) m7 (fun r8 m9 => (r8 = 0 → w_65_58 kc Φ x0 m9) ∧ (¬ r8 = 0 → w_90 kc q3 (7 : Int32) m9 (fun r10 m11 => (q3 = x0 → w_136 kc x0 (6 : Int32) m11 (fun m12 => w_65_233 kc Φ m12)) ∧ (¬ q3 = x0 → w_12 kc r10 m11 (fun r13 m14 => (r13 = 0 → w_88 kc x0 (7 : Int32) (0 : Int32) m14 (fun r15 m16 => w_89 kc q3 (7 : Int32) (0 : Int32) m16 (fun r17 m18 => w_12 kc (r15 + (4 : Int32)) m18 (fun r19 m20 => w_214 kc x2 r19 m20 (fun r21 m22 => w_12 kc (r17 + (4 : Int32)) m22 (fun r23 m24 => w_214 kc r21 r23 m24 (fun r25 m26 => w_12 kc r15 m26 (fun r27 m28 => w_12 kc r17 m28 (fun r29 m30 => w_19 kc r27 r29 r25 m30 (fun m31 => w_13 kc r10 (1 : Int32) m31 (fun m32 => w_139 kc x0 r25 m32 (fun m33 => w_80 kc q3 (7 : Int32) (0 : Int32) (m33 x0 0) r25 (0 : Int32) m33 (fun m34 => w_65_233 kc Φ m34))))))))))))) ∧ (¬ r13 = 0 → w_136 kc x0 (2 : Int32) m14 (fun m35 => w_65_233 kc Φ m35))))))))))) ∧ (¬ r4 = 0 → w_65_58 kc Φ x0 m5))))
/-- GrantBoard$Drivers.findByName(LGrantBoard$Process;I)V -/
def w_66_57 (kc : it_Kc) (Φ : it_Me → Prop) (K91 : Nat → Int32 → it_Me → Prop) (K104 : Nat → it_Me → Prop) : Nat → Nat → Int32 → Int32 → Int32 → it_Me → Prop
  | 0, _, _, _, _, _ => False
  | n57 + 1, v1, v2, v4, v5, m =>
  ((m 9 7) ≤ v5 → K104 v1 m) ∧ (¬ (m 9 7) ≤ v5 → vp_in v5 8 ∧ (w_7 kc ((14 + 5 * Int32.toNatClampNeg v5) + 1) v4 v2 m (fun r1 m2 => (r1 = 0 → (w_66_57 kc Φ K91 K104 n57) v1 v2 v4 (v5 + (1 : Int32)) m2) ∧ (¬ r1 = 0 → K91 v1 v5 m2))))
def w_66_37 (kc : it_Kc) (Φ : it_Me → Prop) (v1 : Nat) (m : it_Me) : Prop :=
  w_136 kc v1 (7 : Int32) m (fun m1 => Φ m1)
def w_66_91 (kc : it_Kc) (Φ : it_Me → Prop) (v1 : Nat) (v5 : Int32) (m : it_Me) : Prop :=
  w_139 kc v1 v5 m (fun m1 => Φ m1)
def w_66_104 (kc : it_Kc) (Φ : it_Me → Prop) (v1 : Nat) (m : it_Me) : Prop :=
  w_136 kc v1 (11 : Int32) m (fun m1 => Φ m1)
def w_66 (kc : it_Kc) (x0 : Nat) (x1 : Int32) (m : it_Me) (Φ : it_Me → Prop) : Prop :=
  w_88 kc x0 (7 : Int32) (0 : Int32) m (fun r1 m2 => (x1 < (1 : Int32) → w_66_37 kc Φ x0 m2) ∧ (¬ x1 < (1 : Int32) → ((16 : Int32) < x1 → w_66_37 kc Φ x0 m2) ∧ (¬ (16 : Int32) < x1 → w_12 kc (r1 + (4 : Int32)) m2 (fun r3 m4 => (x1 ≤ r3 → w_12 kc r1 m4 (fun r5 m6 => ∃ e, w_66_57 kc Φ (fun v1 v5 m => w_66_91 kc Φ v1 v5 m) (fun v1 m => w_66_104 kc Φ v1 m) e x0 x1 r5 (0 : Int32) m6)) ∧ (¬ x1 ≤ r3 → w_66_37 kc Φ x0 m4)))))
/-- GrantBoard$Drivers.commandPost(LGrantBoard$Process;III)V -/
def w_64_63 (kc : it_Kc) (Φ : it_Me → Prop) (m : it_Me) : Prop :=
  Φ m
def w_64 (kc : it_Kc) (x0 : Nat) (x1 : Int32) (x2 : Int32) (x3 : Int32) (m : it_Me) (Φ : it_Me → Prop) : Prop :=
  (x1 = (1 : Int32) → w_65 kc x0 x2 x3 m (fun m1 => w_64_63 kc Φ m1)) ∧ (¬ x1 = (1 : Int32) → (x1 = (2 : Int32) → w_90 kc x0 (7 : Int32) m (fun r2 m3 => w_44 kc x0 r2 m3 (fun m4 => w_64_63 kc Φ m4))) ∧ (¬ x1 = (2 : Int32) → w_66 kc x0 x2 m (fun m5 => w_64_63 kc Φ m5)))
/-- GrantBoard$Drivers.sumBytes(LGrantBoard$Process;I)V -/
def w_67 (kc : it_Kc) (x0 : Nat) (x1 : Int32) (m : it_Me) (Φ : it_Me → Prop) : Prop :=
  w_88 kc x0 (8 : Int32) (0 : Int32) m (fun r1 m2 => w_12 kc r1 m2 (fun r3 m4 => w_12 kc (r1 + (4 : Int32)) m4 (fun r5 m6 => w_214 kc x1 r5 m6 (fun r7 m8 => w_21 kc r3 r7 m8 (fun r9 m10 => w_139 kc x0 r9 m10 (fun m11 => Φ m11))))))
/-- GrantBoard$Drivers.obey(LGrantBoard$Process;I)V -/
def w_37_174 (kc : it_Kc) (Φ : it_Me → Prop) (m : it_Me) : Prop :=
  Φ m
def w_37 (kc : it_Kc) (x0 : Nat) (x1 : Int32) (m : it_Me) (Φ : it_Me → Prop) : Prop :=
  vp_in (11 : Int32) 32 ∧ (vp_in (12 : Int32) 32 ∧ (vp_in (13 : Int32) 32 ∧ ((x1 = (0 : Int32) → w_42 kc x0 (m (x0 + 2) (Int32.toNatClampNeg (11 : Int32))) (m (x0 + 2) (Int32.toNatClampNeg (12 : Int32))) (m (x0 + 2) (Int32.toNatClampNeg (13 : Int32))) m (fun m1 => w_37_174 kc Φ m1)) ∧ (¬ x1 = (0 : Int32) → (x1 = (1 : Int32) → w_45 kc x0 (m (x0 + 2) (Int32.toNatClampNeg (11 : Int32))) (m (x0 + 2) (Int32.toNatClampNeg (12 : Int32))) m (fun m2 => w_37_174 kc Φ m2)) ∧ (¬ x1 = (1 : Int32) → (x1 = (2 : Int32) → w_52 kc x0 (m (x0 + 2) (Int32.toNatClampNeg (11 : Int32))) (m (x0 + 2) (Int32.toNatClampNeg (12 : Int32))) m (fun m3 => w_37_174 kc Φ m3)) ∧ (¬ x1 = (2 : Int32) → (x1 = (3 : Int32) → w_53 kc x0 (m (x0 + 2) (Int32.toNatClampNeg (11 : Int32))) (m (x0 + 2) (Int32.toNatClampNeg (12 : Int32))) m (fun m4 => w_37_174 kc Φ m4)) ∧ (¬ x1 = (3 : Int32) → (x1 = (4 : Int32) → w_55 kc x0 (m (x0 + 2) (Int32.toNatClampNeg (12 : Int32))) m (fun m5 => w_37_174 kc Φ m5)) ∧ (¬ x1 = (4 : Int32) → (x1 = (5 : Int32) → w_56 kc x0 (m (x0 + 2) (Int32.toNatClampNeg (11 : Int32))) (m (x0 + 2) (Int32.toNatClampNeg (12 : Int32))) (m (x0 + 2) (Int32.toNatClampNeg (13 : Int32))) m (fun m6 => w_37_174 kc Φ m6)) ∧ (¬ x1 = (5 : Int32) → (x1 = (6 : Int32) → w_63 kc x0 (m (x0 + 2) (Int32.toNatClampNeg (11 : Int32))) (m (x0 + 2) (Int32.toNatClampNeg (12 : Int32))) (m (x0 + 2) (Int32.toNatClampNeg (13 : Int32))) m (fun m7 => w_37_174 kc Φ m7)) ∧ (¬ x1 = (6 : Int32) → (x1 = (7 : Int32) → w_64 kc x0 (m (x0 + 2) (Int32.toNatClampNeg (11 : Int32))) (m (x0 + 2) (Int32.toNatClampNeg (12 : Int32))) (m (x0 + 2) (Int32.toNatClampNeg (13 : Int32))) m (fun m8 => w_37_174 kc Φ m8)) ∧ (¬ x1 = (7 : Int32) → w_67 kc x0 (m (x0 + 2) (Int32.toNatClampNeg (12 : Int32))) m (fun m9 => w_37_174 kc Φ m9))))))))))))
/-- GrantBoard$Drivers.tellOut(I)I -/
def w_38_26 (kc : it_Kc) (Φ : Int32 → it_Me → Prop) (u0 : Int32) (m : it_Me) : Prop :=
  Φ u0 m
def w_38_12 (kc : it_Kc) (Φ : Int32 → it_Me → Prop) (m : it_Me) : Prop :=
  w_38_26 kc Φ (-1 : Int32) m
def w_38 (kc : it_Kc) (x0 : Int32) (m : it_Me) (Φ : Int32 → it_Me → Prop) : Prop :=
  (x0 < 0 → w_38_12 kc Φ m) ∧ (¬ x0 < 0 → (x0 < (m 59 9) → vp_in x0 4000 ∧ (w_38_26 kc Φ ((m 61 (Int32.toNatClampNeg x0)) &&& (255 : Int32)) m)) ∧ (¬ x0 < (m 59 9) → w_38_12 kc Φ m))
/-- GrantBoard$Drivers.ringIfDue(LGrantBoard$Process;I)V -/
def w_41_84 (kc : it_Kc) (Φ : it_Me → Prop) (m : it_Me) : Prop :=
  Φ m
def w_41 (kc : it_Kc) (x0 : Nat) (x1 : Int32) (m : it_Me) (Φ : it_Me → Prop) : Prop :=
  w_12 kc (x1 + (4 : Int32)) m (fun r1 m2 => w_12 kc (x1 + (8 : Int32)) m2 (fun r3 m4 => w_12 kc x1 m4 (fun r5 m6 => (r5 = (1 : Int32) → w_213 kc ((m6 4 0) - r1) r3 m6 (fun r7 m8 => (r7 = 0 → w_13 kc x1 (0 : Int32) m8 (fun m9 => w_80 kc x0 (0 : Int32) (0 : Int32) (m9 4 0) (r1 + r3) (0 : Int32) m9 (fun m10 => w_41_84 kc Φ m10))) ∧ (¬ r7 = 0 → w_41_84 kc Φ m8))) ∧ (¬ r5 = (1 : Int32) → w_41_84 kc Φ m6))))
/-- GrantBoard$Drivers.tickAlarm()V -/
def w_40_46 (kc : it_Kc) (Φ : it_Me → Prop) (K2 : Int32 → it_Me → Prop) (K52 : it_Me → Prop) (v1 : Int32) (m : it_Me) : Prop :=
  K2 (v1 + (1 : Int32)) m
def w_40_2 (kc : it_Kc) (Φ : it_Me → Prop) (K52 : it_Me → Prop) : Nat → Int32 → it_Me → Prop
  | 0, _, _ => False
  | n2 + 1, v1, m =>
  ((m 9 7) ≤ v1 → K52 m) ∧ (¬ (m 9 7) ≤ v1 → vp_in v1 8 ∧ (vp_in (0 : Int32) 9 ∧ (((m ((14 + 5 * Int32.toNatClampNeg v1) + 4) (Int32.toNatClampNeg (0 : Int32))) = 0 → w_40_46 kc Φ (w_40_2 kc Φ K52 n2) K52 v1 m) ∧ (¬ (m ((14 + 5 * Int32.toNatClampNeg v1) + 4) (Int32.toNatClampNeg (0 : Int32))) = 0 → w_90 kc (14 + 5 * Int32.toNatClampNeg v1) (0 : Int32) m (fun r1 m2 => w_41 kc (14 + 5 * Int32.toNatClampNeg v1) r1 m2 (fun m3 => w_40_46 kc Φ (w_40_2 kc Φ K52 n2) K52 v1 m3))))))
def w_40_52 (kc : it_Kc) (Φ : it_Me → Prop) (m : it_Me) : Prop :=
  Φ m
def w_40 (kc : it_Kc) (m : it_Me) (Φ : it_Me → Prop) : Prop :=
  ∃ e, w_40_2 kc Φ (fun m => w_40_52 kc Φ m) e (0 : Int32) m
/-- GrantBoard$Drivers.firstAsked(I[I)LGrantBoard$Process; -/
def w_47_85 (kc : it_Kc) (Φ : Option Nat → it_Me → Prop) (K5 : Int32 → Nat → Option Nat → Int32 → it_Me → Prop) (K91 : Option Nat → it_Me → Prop) (v1 : Int32) (v2 : Nat) (v3 : Option Nat) (v4 : Int32) (m : it_Me) : Prop :=
  K5 v1 v2 v3 (v4 + (1 : Int32)) m
def w_47_82 (kc : it_Kc) (Φ : Option Nat → it_Me → Prop) (K5 : Int32 → Nat → Option Nat → Int32 → it_Me → Prop) (K91 : Option Nat → it_Me → Prop) (v1 : Int32) (v2 : Nat) (v4 : Int32) (v5 : Nat) (m : it_Me) : Prop :=
  w_47_85 kc Φ K5 K91 v1 v2 (some v5) v4 m
def w_47_58 (kc : it_Kc) (Φ : Option Nat → it_Me → Prop) (K5 : Int32 → Nat → Option Nat → Int32 → it_Me → Prop) (K91 : Option Nat → it_Me → Prop) (v1 : Int32) (v2 : Nat) (v3 : Option Nat) (v4 : Int32) (v5 : Nat) (u0 : Int32) (m : it_Me) : Prop :=
  (u0 = 0 → w_47_85 kc Φ K5 K91 v1 v2 v3 v4 m) ∧ (¬ u0 = 0 → (v3 = none → w_47_82 kc Φ K5 K91 v1 v2 v4 v5 m) ∧ (∀ q1, v3 = some q1 → vp_in v4 8 ∧ (vp_in (m q1 0) 8 ∧ (((m v2 (Int32.toNatClampNeg (m q1 0))) ≤ (m v2 (Int32.toNatClampNeg v4)) → w_47_85 kc Φ K5 K91 v1 v2 (some q1) v4 m) ∧ (¬ (m v2 (Int32.toNatClampNeg (m q1 0))) ≤ (m v2 (Int32.toNatClampNeg v4)) → w_47_82 kc Φ K5 K91 v1 v2 v4 v5 m)))))
def w_47_5 (kc : it_Kc) (Φ : Option Nat → it_Me → Prop) (K91 : Option Nat → it_Me → Prop) : Nat → Int32 → Nat → Option Nat → Int32 → it_Me → Prop
  | 0, _, _, _, _, _ => False
  | n5 + 1, v1, v2, v3, v4, m =>
  ((m 9 7) ≤ v4 → K91 v3 m) ∧ (¬ (m 9 7) ≤ v4 → vp_in v4 8 ∧ (w_90 kc (14 + 5 * Int32.toNatClampNeg v4) (1 : Int32) m (fun r1 m2 => w_12 kc (r1 + ((4 : Int32) * v1)) m2 (fun r3 m4 => (r3 = 0 → w_47_58 kc Φ (w_47_5 kc Φ K91 n5) K91 v1 v2 v3 v4 (14 + 5 * Int32.toNatClampNeg v4) (0 : Int32) m4) ∧ (¬ r3 = 0 → w_47_58 kc Φ (w_47_5 kc Φ K91 n5) K91 v1 v2 v3 v4 (14 + 5 * Int32.toNatClampNeg v4) (1 : Int32) m4)))))
def w_47_91 (kc : it_Kc) (Φ : Option Nat → it_Me → Prop) (v3 : Option Nat) (m : it_Me) : Prop :=
  Φ v3 m
def w_47 (kc : it_Kc) (x0 : Int32) (x1 : Nat) (m : it_Me) (Φ : Option Nat → it_Me → Prop) : Prop :=
  ∃ e, w_47_5 kc Φ (fun v3 m => w_47_91 kc Φ v3 m) e x0 x1 none (0 : Int32) m
/-- GrantBoard$Drivers.putOut(I)V -/
def w_49_44 (kc : it_Kc) (Φ : it_Me → Prop) (m : it_Me) : Prop :=
  Φ m
def w_49 (kc : it_Kc) (x0 : Int32) (m : it_Me) (Φ : it_Me → Prop) : Prop :=
  vp_in (3 : Int32) 12 ∧ (vp_in (3 : Int32) 12 ∧ (((4000 : Int32) ≤ ((it_sv m 5 (Int32.toNatClampNeg (3 : Int32)) ((m 5 (Int32.toNatClampNeg (3 : Int32))) + (1 : Int32))) 59 9) → w_49_44 kc Φ (it_sv m 5 (Int32.toNatClampNeg (3 : Int32)) ((m 5 (Int32.toNatClampNeg (3 : Int32))) + (1 : Int32)))) ∧ (¬ (4000 : Int32) ≤ ((it_sv m 5 (Int32.toNatClampNeg (3 : Int32)) ((m 5 (Int32.toNatClampNeg (3 : Int32))) + (1 : Int32))) 59 9) → vp_in ((it_sv m 5 (Int32.toNatClampNeg (3 : Int32)) ((m 5 (Int32.toNatClampNeg (3 : Int32))) + (1 : Int32))) 59 9) 4000 ∧ (w_49_44 kc Φ (it_sv (it_sv (it_sv m 5 (Int32.toNatClampNeg (3 : Int32)) ((m 5 (Int32.toNatClampNeg (3 : Int32))) + (1 : Int32))) 61 (Int32.toNatClampNeg ((it_sv m 5 (Int32.toNatClampNeg (3 : Int32)) ((m 5 (Int32.toNatClampNeg (3 : Int32))) + (1 : Int32))) 59 9)) (it_i2b (it_i2b x0))) 59 9 (((it_sv (it_sv m 5 (Int32.toNatClampNeg (3 : Int32)) ((m 5 (Int32.toNatClampNeg (3 : Int32))) + (1 : Int32))) 61 (Int32.toNatClampNeg ((it_sv m 5 (Int32.toNatClampNeg (3 : Int32)) ((m 5 (Int32.toNatClampNeg (3 : Int32))) + (1 : Int32))) 59 9)) (it_i2b (it_i2b x0))) 59 9) + (1 : Int32)))))))
/-- GrantBoard$Drivers.writeNextByte()V -/
def w_48_164 (kc : it_Kc) (Φ : it_Me → Prop) (m : it_Me) : Prop :=
  Φ m
def w_48_130 (kc : it_Kc) (Φ : it_Me → Prop) (v1 : Nat) (v2 : Int32) (v4 : Int32) (m : it_Me) : Prop :=
  w_13 kc v2 (0 : Int32) m (fun m1 => w_13 kc (v2 + (4 : Int32)) (0 : Int32) m1 (fun m2 => w_80 kc v1 (1 : Int32) (1 : Int32) v4 (0 : Int32) (0 : Int32) m2 (fun m3 => w_48_164 kc Φ m3)))
def w_48_112 (kc : it_Kc) (Φ : it_Me → Prop) (v1 : Nat) (v2 : Int32) (v4 : Int32) (v5 : Int32) (m : it_Me) : Prop :=
  (v5 = 0 → w_12 kc v2 m (fun r1 m2 => (v4 = r1 → w_48_130 kc Φ v1 v2 v4 m2) ∧ (¬ v4 = r1 → w_48_164 kc Φ m2))) ∧ (¬ v5 = 0 → w_48_130 kc Φ v1 v2 v4 m)
def w_48_68 (kc : it_Kc) (Φ : it_Me → Prop) (v1 : Nat) (v2 : Int32) (v3 : Int32) (v4 : Int32) (u0 : Int32) (m : it_Me) : Prop :=
  (u0 = 0 → w_12 kc v3 m (fun r1 m2 => w_16 kc (r1 + v4) m2 (fun r3 m4 => w_49 kc r3 m4 (fun m5 => w_13 kc (v2 + (4 : Int32)) (v4 + (1 : Int32)) m5 (fun m6 => w_48_112 kc Φ v1 v2 (v4 + (1 : Int32)) u0 m6))))) ∧ (¬ u0 = 0 → w_48_112 kc Φ v1 v2 v4 u0 m)
def w_48 (kc : it_Kc) (m : it_Me) (Φ : it_Me → Prop) : Prop :=
  w_47 kc (0 : Int32) 62 m (fun r1 m2 => (r1 = none → Φ m2) ∧ (∀ q3, r1 = some q3 → w_90 kc q3 (1 : Int32) m2 (fun r4 m5 => w_88 kc q3 (1 : Int32) (1 : Int32) m5 (fun r6 m7 => w_12 kc (r4 + (4 : Int32)) m7 (fun r8 m9 => w_12 kc (r6 + (4 : Int32)) m9 (fun r10 m11 => (r8 < r10 → w_48_68 kc Φ q3 r4 r6 r8 (0 : Int32) m11) ∧ (¬ r8 < r10 → w_48_68 kc Φ q3 r4 r6 r8 (1 : Int32) m11)))))))
/-- GrantBoard$Drivers.sampleIfDue(LGrantBoard$Process;I)V -/
def w_62_89 (kc : it_Kc) (Φ : it_Me → Prop) (m : it_Me) : Prop :=
  Φ m
def w_62 (kc : it_Kc) (x0 : Nat) (x1 : Int32) (m : it_Me) (Φ : it_Me → Prop) : Prop :=
  w_12 kc x1 m (fun r1 m2 => ((r1 - (1 : Int32)) < 0 → w_62_89 kc Φ m2) ∧ (¬ (r1 - (1 : Int32)) < 0 → ((1 : Int32) < (r1 - (1 : Int32)) → w_62_89 kc Φ m2) ∧ (¬ (1 : Int32) < (r1 - (1 : Int32)) → w_12 kc (x1 + (8 : Int32)) m2 (fun r3 m4 => (r3 = (m4 4 0) → w_12 kc (x1 + (4 : Int32)) m4 (fun r5 m6 => w_13 kc (x1 + (8 : Int32)) ((m4 4 0) + r5) m6 (fun m7 => vp_in (r1 - (1 : Int32)) 2 ∧ (w_80 kc x0 (6 : Int32) (0 : Int32) (r1 - (1 : Int32)) (m7 60 (Int32.toNatClampNeg (r1 - (1 : Int32)))) (0 : Int32) m7 (fun m8 => w_62_89 kc Φ m8))))) ∧ (¬ r3 = (m4 4 0) → w_62_89 kc Φ m4)))))
/-- GrantBoard$Drivers.tickSampler()V -/
def w_61_48 (kc : it_Kc) (Φ : it_Me → Prop) (K2 : Int32 → it_Me → Prop) (K54 : it_Me → Prop) (v1 : Int32) (m : it_Me) : Prop :=
  K2 (v1 + (1 : Int32)) m
def w_61_2 (kc : it_Kc) (Φ : it_Me → Prop) (K54 : it_Me → Prop) : Nat → Int32 → it_Me → Prop
  | 0, _, _ => False
  | n2 + 1, v1, m =>
  ((m 9 7) ≤ v1 → K54 m) ∧ (¬ (m 9 7) ≤ v1 → vp_in v1 8 ∧ (vp_in (6 : Int32) 9 ∧ (((m ((14 + 5 * Int32.toNatClampNeg v1) + 4) (Int32.toNatClampNeg (6 : Int32))) = 0 → w_61_48 kc Φ (w_61_2 kc Φ K54 n2) K54 v1 m) ∧ (¬ (m ((14 + 5 * Int32.toNatClampNeg v1) + 4) (Int32.toNatClampNeg (6 : Int32))) = 0 → w_90 kc (14 + 5 * Int32.toNatClampNeg v1) (6 : Int32) m (fun r1 m2 => w_62 kc (14 + 5 * Int32.toNatClampNeg v1) r1 m2 (fun m3 => w_61_48 kc Φ (w_61_2 kc Φ K54 n2) K54 v1 m3))))))
def w_61_54 (kc : it_Kc) (Φ : it_Me → Prop) (m : it_Me) : Prop :=
  Φ m
def w_61 (kc : it_Kc) (m : it_Me) (Φ : it_Me → Prop) : Prop :=
  ∃ e, w_61_2 kc Φ (fun m => w_61_54 kc Φ m) e (0 : Int32) m
/-- GrantBoard$Drivers.tick()V -/
def w_39_21 (kc : it_Kc) (Φ : it_Me → Prop) (m : it_Me) : Prop :=
  w_61 kc m (fun m1 => Φ m1)
def w_39 (kc : it_Kc) (m : it_Me) (Φ : it_Me → Prop) : Prop :=
  w_40 kc m (fun m1 => (((m1 4 0) &&& (7 : Int32)) = 0 → w_48 kc m1 (fun m2 => w_39_21 kc Φ m2)) ∧ (¬ ((m1 4 0) &&& (7 : Int32)) = 0 → w_39_21 kc Φ m1))
/-- GrantBoard$Drivers.takeTyped(I)Z -/
def w_50_141 (kc : it_Kc) (Φ : Int32 → it_Me → Prop) (v6 : Int32) (m : it_Me) : Prop :=
  (v6 = 0 ∨ v6 = 1) ∧ Φ v6 m
def w_50_134 (kc : it_Kc) (Φ : Int32 → it_Me → Prop) (v2 : Nat) (v3 : Int32) (v6 : Int32) (m : it_Me) : Prop :=
  w_51 kc v2 v3 (0 : Int32) m (fun m1 => w_50_141 kc Φ v6 m1)
def w_50_116 (kc : it_Kc) (Φ : Int32 → it_Me → Prop) (v2 : Nat) (v3 : Int32) (v5 : Int32) (v6 : Int32) (m : it_Me) : Prop :=
  (v6 = 0 → w_50_134 kc Φ v2 v3 v6 m) ∧ (¬ v6 = 0 → w_12 kc v3 m (fun r1 m2 => (v5 = r1 → w_50_134 kc Φ v2 v3 v6 m2) ∧ (¬ v5 = r1 → w_50_141 kc Φ v6 m2)))
def w_50_74 (kc : it_Kc) (Φ : Int32 → it_Me → Prop) (v1 : Int32) (v2 : Nat) (v3 : Int32) (v4 : Int32) (v5 : Int32) (u0 : Int32) (m : it_Me) : Prop :=
  (u0 = 0 → w_50_116 kc Φ v2 v3 v5 u0 m) ∧ (¬ u0 = 0 → w_12 kc v4 m (fun r1 m2 => w_17 kc (r1 + v5) v1 m2 (fun m3 => w_13 kc (v3 + (4 : Int32)) (v5 + (1 : Int32)) m3 (fun m4 => w_50_116 kc Φ v2 v3 (v5 + (1 : Int32)) u0 m4))))
def w_50 (kc : it_Kc) (x0 : Int32) (m : it_Me) (Φ : Int32 → it_Me → Prop) : Prop :=
  w_47 kc (2 : Int32) 63 m (fun r1 m2 => (r1 = none → Φ (0 : Int32) m2) ∧ (∀ q3, r1 = some q3 → w_90 kc q3 (1 : Int32) m2 (fun r4 m5 => w_89 kc q3 (1 : Int32) (1 : Int32) m5 (fun r6 m7 => w_12 kc ((r4 + (8 : Int32)) + (4 : Int32)) m7 (fun r8 m9 => w_12 kc (r6 + (4 : Int32)) m9 (fun r10 m11 => (r10 ≤ r8 → w_50_74 kc Φ x0 q3 (r4 + (8 : Int32)) r6 r8 (0 : Int32) m11) ∧ (¬ r10 ≤ r8 → w_50_74 kc Φ x0 q3 (r4 + (8 : Int32)) r6 r8 (1 : Int32) m11)))))))
/-- GrantBoard$Drivers.moveButton(IZ)Z -/
def w_54_102 (kc : it_Kc) (Φ : Int32 → it_Me → Prop) (K39 : Int32 → Int32 → Int32 → it_Me → Prop) (K108 : it_Me → Prop) (v1 : Int32) (v3 : Int32) (v4 : Int32) (m : it_Me) : Prop :=
  K39 v1 v3 (v4 + (1 : Int32)) m
def w_54_39 (kc : it_Kc) (Φ : Int32 → it_Me → Prop) (K108 : it_Me → Prop) : Nat → Int32 → Int32 → Int32 → it_Me → Prop
  | 0, _, _, _, _ => False
  | n39 + 1, v1, v3, v4, m =>
  ((m 9 7) ≤ v4 → K108 m) ∧ (¬ (m 9 7) ≤ v4 → vp_in v4 8 ∧ (w_90 kc (14 + 5 * Int32.toNatClampNeg v4) (3 : Int32) m (fun r1 m2 => w_12 kc r1 m2 (fun r3 m4 => (((it_us r3 v1) &&& (1 : Int32)) = (1 : Int32) → w_80 kc (14 + 5 * Int32.toNatClampNeg v4) (3 : Int32) (0 : Int32) v1 v3 (0 : Int32) m4 (fun m5 => w_54_102 kc Φ (w_54_39 kc Φ K108 n39) K108 v1 v3 v4 m5)) ∧ (¬ ((it_us r3 v1) &&& (1 : Int32)) = (1 : Int32) → w_54_102 kc Φ (w_54_39 kc Φ K108 n39) K108 v1 v3 v4 m4)))))
def w_54_108 (kc : it_Kc) (Φ : Int32 → it_Me → Prop) (m : it_Me) : Prop :=
  Φ (1 : Int32) m
def w_54_9 (kc : it_Kc) (Φ : Int32 → it_Me → Prop) (v1 : Int32) (u0 : Int32) (m : it_Me) : Prop :=
  (((it_us (m 59 5) v1) &&& (1 : Int32)) = u0 → Φ (0 : Int32) m) ∧ (¬ ((it_us (m 59 5) v1) &&& (1 : Int32)) = u0 → ∃ e, w_54_39 kc Φ (fun m => w_54_108 kc Φ m) e v1 u0 (0 : Int32) (it_sv m 59 5 ((m 59 5) ^^^ (it_shl (1 : Int32) v1))))
def w_54 (kc : it_Kc) (x0 : Int32) (x1 : Int32) (m : it_Me) (Φ : Int32 → it_Me → Prop) : Prop :=
  (x1 = 0 → w_54_9 kc Φ x0 (0 : Int32) m) ∧ (¬ x1 = 0 → w_54_9 kc Φ x0 (1 : Int32) m)
/-- GrantBoard$Journal.tell(II)I -/
def w_70_12 (kc : it_Kc) (Φ : Int32 → it_Me → Prop) (m : it_Me) : Prop :=
  Φ (-1 : Int32) m
def w_70_23 (kc : it_Kc) (Φ : Int32 → it_Me → Prop) (m : it_Me) : Prop :=
  Φ (-2 : Int32) m
def w_70_52 (kc : it_Kc) (Φ : Int32 → it_Me → Prop) (v2 : Int32) (u1 : Int32) (m : it_Me) : Prop :=
  vp_in ((u1 * (4 : Int32)) + v2) 800 ∧ (Φ (m 6 (Int32.toNatClampNeg ((u1 * (4 : Int32)) + v2))) m)
def w_70 (kc : it_Kc) (x0 : Int32) (x1 : Int32) (m : it_Me) (Φ : Int32 → it_Me → Prop) : Prop :=
  (x0 < 0 → w_70_12 kc Φ m) ∧ (¬ x0 < 0 → (x0 < (m 4 4) → (x1 < 0 → w_70_23 kc Φ m) ∧ (¬ x1 < 0 → (x1 ≤ (3 : Int32) → (0 ≤ (((m 4 3) - (1 : Int32)) - x0) → w_70_52 kc Φ x1 (((m 4 3) - (1 : Int32)) - x0) m) ∧ (¬ 0 ≤ (((m 4 3) - (1 : Int32)) - x0) → w_70_52 kc Φ x1 ((((m 4 3) - (1 : Int32)) - x0) + (200 : Int32)) m)) ∧ (¬ x1 ≤ (3 : Int32) → w_70_23 kc Φ m))) ∧ (¬ x0 < (m 4 4) → w_70_12 kc Φ m))
/-- GrantBoard$Kernel.isOutdone(LGrantBoard$AppHead;Z)Z -/
def w_74_96 (kc : it_Kc) (Φ : Int32 → it_Me → Prop) (K15 : Nat → Int32 → Int32 → Int32 → it_Me → Prop) (K94 : it_Me → Prop) (K102 : it_Me → Prop) (v1 : Nat) (v2 : Int32) (v3 : Int32) (v4 : Int32) (m : it_Me) : Prop :=
  K15 v1 v2 v3 (v4 + (1 : Int32)) m
def w_74_15 (kc : it_Kc) (Φ : Int32 → it_Me → Prop) (K94 : it_Me → Prop) (K102 : it_Me → Prop) : Nat → Nat → Int32 → Int32 → Int32 → it_Me → Prop
  | 0, _, _, _, _, _ => False
  | n15 + 1, v1, v2, v3, v4, m =>
  ((3840 : Int32) ≤ v4 → K102 m) ∧ (¬ (3840 : Int32) ≤ v4 → w_1 kc 13 v3 m (fun r1 m2 => (r1 = 0 → K102 m2) ∧ (¬ r1 = 0 → w_2 kc 13 m2 (fun r3 m4 => (r3 = 0 → w_74_96 kc Φ (w_74_15 kc Φ K94 K102 n15) K94 K102 v1 v2 (v3 + (m2 13 3)) v4 m4) ∧ (¬ r3 = 0 → w_7 kc 13 (m4 v1 10) (m4 v1 11) m4 (fun r5 m6 => (r5 = 0 → w_74_96 kc Φ (w_74_15 kc Φ K94 K102 n15) K94 K102 v1 v2 (v3 + (m2 13 3)) v4 m6) ∧ (¬ r5 = 0 → w_8 kc 13 v1 m6 (fun r7 m8 => (r7 = 0 → w_74_96 kc Φ (w_74_15 kc Φ K94 K102 n15) K94 K102 v1 v2 (v3 + (m2 13 3)) v4 m8) ∧ (¬ r7 = 0 → w_6 kc 13 v2 m8 (fun r9 m10 => (r9 = 0 → w_74_96 kc Φ (w_74_15 kc Φ K94 K102 n15) K94 K102 v1 v2 (v3 + (m2 13 3)) v4 m10) ∧ (¬ r9 = 0 → K94 m10)))))))))))
def w_74_94 (kc : it_Kc) (Φ : Int32 → it_Me → Prop) (m : it_Me) : Prop :=
  Φ (1 : Int32) m
def w_74_102 (kc : it_Kc) (Φ : Int32 → it_Me → Prop) (m : it_Me) : Prop :=
  Φ (0 : Int32) m
def w_74 (kc : it_Kc) (x0 : Nat) (x1 : Int32) (m : it_Me) (Φ : Int32 → it_Me → Prop) : Prop :=
  ((m x0 10) = 0 → Φ (0 : Int32) m) ∧ (¬ (m x0 10) = 0 → ∃ e, w_74_15 kc Φ (fun m => w_74_94 kc Φ m) (fun m => w_74_102 kc Φ m) e x0 x1 (65536 : Int32) (0 : Int32) m)
/-- GrantBoard$Process.reset()V -/
def w_128 (kc : it_Kc) (k : Nat) (m : it_Me) (Φ : it_Me → Prop) : Prop :=
  w_216 kc (m (k + 1) 5) m (fun r1 m2 => w_129 kc k (it_sv m2 k 7 ((m k 5) + r1)) (fun r3 m4 => w_361 kc (k + 4) (0 : Int32) (it_sv m4 k 8 r3) (fun m5 => w_361 kc (k + 2) (0 : Int32) (it_sv (it_sv m5 k 18 (0 : Int32)) k 14 (0 : Int32)) (fun m6 => vp_in (2 : Int32) 32 ∧ (vp_in (10 : Int32) 32 ∧ (vp_in (11 : Int32) 32 ∧ (vp_in (12 : Int32) 32 ∧ (vp_in (13 : Int32) 32 ∧ (vp_in (10 : Int32) 32 ∧ (Φ (it_sv (it_sv (it_sv (it_sv (it_sv (it_sv (it_sv (it_sv (it_sv m6 (k + 2) (Int32.toNatClampNeg (2 : Int32)) (m6 k 7)) (k + 2) (Int32.toNatClampNeg (10 : Int32)) (((it_sv m6 (k + 2) (Int32.toNatClampNeg (2 : Int32)) (m6 k 7)) (k + 1) 1) + ((it_sv m6 (k + 2) (Int32.toNatClampNeg (2 : Int32)) (m6 k 7)) (k + 1) 2))) (k + 2) (Int32.toNatClampNeg (11 : Int32)) ((it_sv (it_sv m6 (k + 2) (Int32.toNatClampNeg (2 : Int32)) (m6 k 7)) (k + 2) (Int32.toNatClampNeg (10 : Int32)) (((it_sv m6 (k + 2) (Int32.toNatClampNeg (2 : Int32)) (m6 k 7)) (k + 1) 1) + ((it_sv m6 (k + 2) (Int32.toNatClampNeg (2 : Int32)) (m6 k 7)) (k + 1) 2))) k 5)) (k + 2) (Int32.toNatClampNeg (12 : Int32)) ((it_sv (it_sv (it_sv m6 (k + 2) (Int32.toNatClampNeg (2 : Int32)) (m6 k 7)) (k + 2) (Int32.toNatClampNeg (10 : Int32)) (((it_sv m6 (k + 2) (Int32.toNatClampNeg (2 : Int32)) (m6 k 7)) (k + 1) 1) + ((it_sv m6 (k + 2) (Int32.toNatClampNeg (2 : Int32)) (m6 k 7)) (k + 1) 2))) (k + 2) (Int32.toNatClampNeg (11 : Int32)) ((it_sv (it_sv m6 (k + 2) (Int32.toNatClampNeg (2 : Int32)) (m6 k 7)) (k + 2) (Int32.toNatClampNeg (10 : Int32)) (((it_sv m6 (k + 2) (Int32.toNatClampNeg (2 : Int32)) (m6 k 7)) (k + 1) 1) + ((it_sv m6 (k + 2) (Int32.toNatClampNeg (2 : Int32)) (m6 k 7)) (k + 1) 2))) k 5)) k 6)) (k + 2) (Int32.toNatClampNeg (13 : Int32)) ((it_sv (it_sv (it_sv (it_sv m6 (k + 2) (Int32.toNatClampNeg (2 : Int32)) (m6 k 7)) (k + 2) (Int32.toNatClampNeg (10 : Int32)) (((it_sv m6 (k + 2) (Int32.toNatClampNeg (2 : Int32)) (m6 k 7)) (k + 1) 1) + ((it_sv m6 (k + 2) (Int32.toNatClampNeg (2 : Int32)) (m6 k 7)) (k + 1) 2))) (k + 2) (Int32.toNatClampNeg (11 : Int32)) ((it_sv (it_sv m6 (k + 2) (Int32.toNatClampNeg (2 : Int32)) (m6 k 7)) (k + 2) (Int32.toNatClampNeg (10 : Int32)) (((it_sv m6 (k + 2) (Int32.toNatClampNeg (2 : Int32)) (m6 k 7)) (k + 1) 1) + ((it_sv m6 (k + 2) (Int32.toNatClampNeg (2 : Int32)) (m6 k 7)) (k + 1) 2))) k 5)) (k + 2) (Int32.toNatClampNeg (12 : Int32)) ((it_sv (it_sv (it_sv m6 (k + 2) (Int32.toNatClampNeg (2 : Int32)) (m6 k 7)) (k + 2) (Int32.toNatClampNeg (10 : Int32)) (((it_sv m6 (k + 2) (Int32.toNatClampNeg (2 : Int32)) (m6 k 7)) (k + 1) 1) + ((it_sv m6 (k + 2) (Int32.toNatClampNeg (2 : Int32)) (m6 k 7)) (k + 1) 2))) (k + 2) (Int32.toNatClampNeg (11 : Int32)) ((it_sv (it_sv m6 (k + 2) (Int32.toNatClampNeg (2 : Int32)) (m6 k 7)) (k + 2) (Int32.toNatClampNeg (10 : Int32)) (((it_sv m6 (k + 2) (Int32.toNatClampNeg (2 : Int32)) (m6 k 7)) (k + 1) 1) + ((it_sv m6 (k + 2) (Int32.toNatClampNeg (2 : Int32)) (m6 k 7)) (k + 1) 2))) k 5)) k 6)) k 7)) k 3 ((((it_sv (it_sv (it_sv (it_sv (it_sv m6 (k + 2) (Int32.toNatClampNeg (2 : Int32)) (m6 k 7)) (k + 2) (Int32.toNatClampNeg (10 : Int32)) (((it_sv m6 (k + 2) (Int32.toNatClampNeg (2 : Int32)) (m6 k 7)) (k + 1) 1) + ((it_sv m6 (k + 2) (Int32.toNatClampNeg (2 : Int32)) (m6 k 7)) (k + 1) 2))) (k + 2) (Int32.toNatClampNeg (11 : Int32)) ((it_sv (it_sv m6 (k + 2) (Int32.toNatClampNeg (2 : Int32)) (m6 k 7)) (k + 2) (Int32.toNatClampNeg (10 : Int32)) (((it_sv m6 (k + 2) (Int32.toNatClampNeg (2 : Int32)) (m6 k 7)) (k + 1) 1) + ((it_sv m6 (k + 2) (Int32.toNatClampNeg (2 : Int32)) (m6 k 7)) (k + 1) 2))) k 5)) (k + 2) (Int32.toNatClampNeg (12 : Int32)) ((it_sv (it_sv (it_sv m6 (k + 2) (Int32.toNatClampNeg (2 : Int32)) (m6 k 7)) (k + 2) (Int32.toNatClampNeg (10 : Int32)) (((it_sv m6 (k + 2) (Int32.toNatClampNeg (2 : Int32)) (m6 k 7)) (k + 1) 1) + ((it_sv m6 (k + 2) (Int32.toNatClampNeg (2 : Int32)) (m6 k 7)) (k + 1) 2))) (k + 2) (Int32.toNatClampNeg (11 : Int32)) ((it_sv (it_sv m6 (k + 2) (Int32.toNatClampNeg (2 : Int32)) (m6 k 7)) (k + 2) (Int32.toNatClampNeg (10 : Int32)) (((it_sv m6 (k + 2) (Int32.toNatClampNeg (2 : Int32)) (m6 k 7)) (k + 1) 1) + ((it_sv m6 (k + 2) (Int32.toNatClampNeg (2 : Int32)) (m6 k 7)) (k + 1) 2))) k 5)) k 6)) (k + 2) (Int32.toNatClampNeg (13 : Int32)) ((it_sv (it_sv (it_sv (it_sv m6 (k + 2) (Int32.toNatClampNeg (2 : Int32)) (m6 k 7)) (k + 2) (Int32.toNatClampNeg (10 : Int32)) (((it_sv m6 (k + 2) (Int32.toNatClampNeg (2 : Int32)) (m6 k 7)) (k + 1) 1) + ((it_sv m6 (k + 2) (Int32.toNatClampNeg (2 : Int32)) (m6 k 7)) (k + 1) 2))) (k + 2) (Int32.toNatClampNeg (11 : Int32)) ((it_sv (it_sv m6 (k + 2) (Int32.toNatClampNeg (2 : Int32)) (m6 k 7)) (k + 2) (Int32.toNatClampNeg (10 : Int32)) (((it_sv m6 (k + 2) (Int32.toNatClampNeg (2 : Int32)) (m6 k 7)) (k + 1) 1) + ((it_sv m6 (k + 2) (Int32.toNatClampNeg (2 : Int32)) (m6 k 7)) (k + 1) 2))) k 5)) (k + 2) (Int32.toNatClampNeg (12 : Int32)) ((it_sv (it_sv (it_sv m6 (k + 2) (Int32.toNatClampNeg (2 : Int32)) (m6 k 7)) (k + 2) (Int32.toNatClampNeg (10 : Int32)) (((it_sv m6 (k + 2) (Int32.toNatClampNeg (2 : Int32)) (m6 k 7)) (k + 1) 1) + ((it_sv m6 (k + 2) (Int32.toNatClampNeg (2 : Int32)) (m6 k 7)) (k + 1) 2))) (k + 2) (Int32.toNatClampNeg (11 : Int32)) ((it_sv (it_sv m6 (k + 2) (Int32.toNatClampNeg (2 : Int32)) (m6 k 7)) (k + 2) (Int32.toNatClampNeg (10 : Int32)) (((it_sv m6 (k + 2) (Int32.toNatClampNeg (2 : Int32)) (m6 k 7)) (k + 1) 1) + ((it_sv m6 (k + 2) (Int32.toNatClampNeg (2 : Int32)) (m6 k 7)) (k + 1) 2))) k 5)) k 6)) k 7)) (k + 2) (Int32.toNatClampNeg (10 : Int32))) + ((it_sv (it_sv (it_sv (it_sv (it_sv m6 (k + 2) (Int32.toNatClampNeg (2 : Int32)) (m6 k 7)) (k + 2) (Int32.toNatClampNeg (10 : Int32)) (((it_sv m6 (k + 2) (Int32.toNatClampNeg (2 : Int32)) (m6 k 7)) (k + 1) 1) + ((it_sv m6 (k + 2) (Int32.toNatClampNeg (2 : Int32)) (m6 k 7)) (k + 1) 2))) (k + 2) (Int32.toNatClampNeg (11 : Int32)) ((it_sv (it_sv m6 (k + 2) (Int32.toNatClampNeg (2 : Int32)) (m6 k 7)) (k + 2) (Int32.toNatClampNeg (10 : Int32)) (((it_sv m6 (k + 2) (Int32.toNatClampNeg (2 : Int32)) (m6 k 7)) (k + 1) 1) + ((it_sv m6 (k + 2) (Int32.toNatClampNeg (2 : Int32)) (m6 k 7)) (k + 1) 2))) k 5)) (k + 2) (Int32.toNatClampNeg (12 : Int32)) ((it_sv (it_sv (it_sv m6 (k + 2) (Int32.toNatClampNeg (2 : Int32)) (m6 k 7)) (k + 2) (Int32.toNatClampNeg (10 : Int32)) (((it_sv m6 (k + 2) (Int32.toNatClampNeg (2 : Int32)) (m6 k 7)) (k + 1) 1) + ((it_sv m6 (k + 2) (Int32.toNatClampNeg (2 : Int32)) (m6 k 7)) (k + 1) 2))) (k + 2) (Int32.toNatClampNeg (11 : Int32)) ((it_sv (it_sv m6 (k + 2) (Int32.toNatClampNeg (2 : Int32)) (m6 k 7)) (k + 2) (Int32.toNatClampNeg (10 : Int32)) (((it_sv m6 (k + 2) (Int32.toNatClampNeg (2 : Int32)) (m6 k 7)) (k + 1) 1) + ((it_sv m6 (k + 2) (Int32.toNatClampNeg (2 : Int32)) (m6 k 7)) (k + 1) 2))) k 5)) k 6)) (k + 2) (Int32.toNatClampNeg (13 : Int32)) ((it_sv (it_sv (it_sv (it_sv m6 (k + 2) (Int32.toNatClampNeg (2 : Int32)) (m6 k 7)) (k + 2) (Int32.toNatClampNeg (10 : Int32)) (((it_sv m6 (k + 2) (Int32.toNatClampNeg (2 : Int32)) (m6 k 7)) (k + 1) 1) + ((it_sv m6 (k + 2) (Int32.toNatClampNeg (2 : Int32)) (m6 k 7)) (k + 1) 2))) (k + 2) (Int32.toNatClampNeg (11 : Int32)) ((it_sv (it_sv m6 (k + 2) (Int32.toNatClampNeg (2 : Int32)) (m6 k 7)) (k + 2) (Int32.toNatClampNeg (10 : Int32)) (((it_sv m6 (k + 2) (Int32.toNatClampNeg (2 : Int32)) (m6 k 7)) (k + 1) 1) + ((it_sv m6 (k + 2) (Int32.toNatClampNeg (2 : Int32)) (m6 k 7)) (k + 1) 2))) k 5)) (k + 2) (Int32.toNatClampNeg (12 : Int32)) ((it_sv (it_sv (it_sv m6 (k + 2) (Int32.toNatClampNeg (2 : Int32)) (m6 k 7)) (k + 2) (Int32.toNatClampNeg (10 : Int32)) (((it_sv m6 (k + 2) (Int32.toNatClampNeg (2 : Int32)) (m6 k 7)) (k + 1) 1) + ((it_sv m6 (k + 2) (Int32.toNatClampNeg (2 : Int32)) (m6 k 7)) (k + 1) 2))) (k + 2) (Int32.toNatClampNeg (11 : Int32)) ((it_sv (it_sv m6 (k + 2) (Int32.toNatClampNeg (2 : Int32)) (m6 k 7)) (k + 2) (Int32.toNatClampNeg (10 : Int32)) (((it_sv m6 (k + 2) (Int32.toNatClampNeg (2 : Int32)) (m6 k 7)) (k + 1) 1) + ((it_sv m6 (k + 2) (Int32.toNatClampNeg (2 : Int32)) (m6 k 7)) (k + 1) 2))) k 5)) k 6)) k 7)) (k + 1) 4)) &&& (-2 : Int32))) k 4 (1 : Int32)) k 9 (1 : Int32)) k 11 (0 : Int32))))))))))))
/-- GrantBoard$Kernel.start(LGrantBoard$Process;)V -/
def w_75 (kc : it_Kc) (x0 : Nat) (m : it_Me) (Φ : it_Me → Prop) : Prop :=
  w_18 kc (m x0 5) ((m x0 6) - (64 : Int32)) (0 : Int32) m (fun m1 => w_128 kc x0 m1 (fun m2 => Φ m2))
/-- GrantBoard$Process.settle(II)V -/
def w_127 (kc : it_Kc) (k : Nat) (x0 : Int32) (x1 : Int32) (m : it_Me) (Φ : it_Me → Prop) : Prop :=
  Φ (it_sv (it_sv (it_sv (it_sv m k 5 x0) k 6 x1) k 10 (0 : Int32)) k 12 (0 : Int32))
/-- GrantBoard$Kernel.load(Z)V -/
def w_73_149 (kc : it_Kc) (Φ : it_Me → Prop) (K9 : Int32 → Int32 → Int32 → Int32 → it_Me → Prop) (K53 : it_Me → Prop) (K155 : it_Me → Prop) (v1 : Int32) (v2 : Int32) (v3 : Int32) (v4 : Int32) (m : it_Me) : Prop :=
  K9 v1 v2 v3 (v4 + (1 : Int32)) m
def w_73_9 (kc : it_Kc) (Φ : it_Me → Prop) (K53 : it_Me → Prop) (K155 : it_Me → Prop) : Nat → Int32 → Int32 → Int32 → Int32 → it_Me → Prop
  | 0, _, _, _, _, _ => False
  | n9 + 1, v1, v2, v3, v4, m =>
  ((3840 : Int32) ≤ v4 → K155 m) ∧ (¬ (3840 : Int32) ≤ v4 → ((8 : Int32) ≤ (m 9 7) → K155 m) ∧ (¬ (8 : Int32) ≤ (m 9 7) → vp_in (m 9 7) 8 ∧ (w_1 kc ((14 + 5 * Int32.toNatClampNeg (m 9 7)) + 1) v2 m (fun r1 m2 => (r1 = 0 → K53 m2) ∧ (¬ r1 = 0 → w_2 kc ((14 + 5 * Int32.toNatClampNeg (m 9 7)) + 1) m2 (fun r3 m4 => (r3 = 0 → w_73_149 kc Φ (w_73_9 kc Φ K53 K155 n9) K53 K155 v1 (v2 + (m2 ((14 + 5 * Int32.toNatClampNeg (m 9 7)) + 1) 3)) v3 v4 m4) ∧ (¬ r3 = 0 → w_6 kc ((14 + 5 * Int32.toNatClampNeg (m 9 7)) + 1) v1 m4 (fun r5 m6 => (r5 = 0 → w_73_149 kc Φ (w_73_9 kc Φ K53 K155 n9) K53 K155 v1 (v2 + (m2 ((14 + 5 * Int32.toNatClampNeg (m 9 7)) + 1) 3)) v3 v4 m6) ∧ (¬ r5 = 0 → w_74 kc ((14 + 5 * Int32.toNatClampNeg (m 9 7)) + 1) v1 m6 (fun r7 m8 => (r7 = 0 → w_10 kc ((14 + 5 * Int32.toNatClampNeg (m 9 7)) + 1) m8 (fun r9 m10 => (((196608 : Int32) - (((v3 + r9) - (1 : Int32)) &&& (-r9))) < r9 → w_73_149 kc Φ (w_73_9 kc Φ K53 K155 n9) K53 K155 v1 (v2 + (m2 ((14 + 5 * Int32.toNatClampNeg (m 9 7)) + 1) 3)) v3 v4 m10) ∧ (¬ ((196608 : Int32) - (((v3 + r9) - (1 : Int32)) &&& (-r9))) < r9 → w_127 kc (14 + 5 * Int32.toNatClampNeg (m 9 7)) (((v3 + r9) - (1 : Int32)) &&& (-r9)) r9 m10 (fun m11 => w_75 kc (14 + 5 * Int32.toNatClampNeg (m 9 7)) m11 (fun m12 => w_73_149 kc Φ (w_73_9 kc Φ K53 K155 n9) K53 K155 v1 (v2 + (m2 ((14 + 5 * Int32.toNatClampNeg (m 9 7)) + 1) 3)) ((((v3 + r9) - (1 : Int32)) &&& (-r9)) + r9) v4 (it_sv m12 9 7 ((m12 9 7) + (1 : Int32)))))))) ∧ (¬ r7 = 0 → w_73_149 kc Φ (w_73_9 kc Φ K53 K155 n9) K53 K155 v1 (v2 + (m2 ((14 + 5 * Int32.toNatClampNeg (m 9 7)) + 1) 3)) v3 v4 m8)))))))))))
def w_73_53 (kc : it_Kc) (Φ : it_Me → Prop) (m : it_Me) : Prop :=
  Φ m
def w_73_155 (kc : it_Kc) (Φ : it_Me → Prop) (m : it_Me) : Prop :=
  Φ m
def w_73 (kc : it_Kc) (x0 : Int32) (m : it_Me) (Φ : it_Me → Prop) : Prop :=
  ∃ e, w_73_9 kc Φ (fun m => w_73_53 kc Φ m) (fun m => w_73_155 kc Φ m) e x0 (65536 : Int32) (131072 : Int32) (0 : Int32) m
/-- GrantBoard$Kernel.startAgain(LGrantBoard$Process;)V -/
def w_76 (kc : it_Kc) (x0 : Nat) (m : it_Me) (Φ : it_Me → Prop) : Prop :=
  w_75 kc x0 m (fun m1 => w_69 kc ((it_sv m1 x0 12 ((m1 x0 12) + (1 : Int32))) x0 0) (3 : Int32) ((it_sv m1 x0 12 ((m1 x0 12) + (1 : Int32))) x0 12) (it_sv m1 x0 12 ((m1 x0 12) + (1 : Int32))) (fun m2 => Φ m2))
/-- GrantBoard$Kernel.stop(LGrantBoard$Process;I)V -/
def w_79_12 (kc : it_Kc) (Φ : it_Me → Prop) (K45 : it_Me → Prop) : Nat → Nat → Int32 → it_Me → Prop
  | 0, _, _, _ => False
  | n12 + 1, v1, v3, m =>
  ((9 : Int32) ≤ v3 → K45 m) ∧ (¬ (9 : Int32) ≤ v3 → w_90 kc v1 v3 m (fun r1 m2 => vp_in v3 (kc 1).1 ∧ (w_18 kc r1 (((kc 1).2 (Int32.toNatClampNeg v3)) * (4 : Int32)) (0 : Int32) m2 (fun m3 => (w_79_12 kc Φ K45 n12) v1 (v3 + (1 : Int32)) m3))))
def w_79_45 (kc : it_Kc) (Φ : it_Me → Prop) (m : it_Me) : Prop :=
  Φ m
def w_79 (kc : it_Kc) (x0 : Nat) (x1 : Int32) (m : it_Me) (Φ : it_Me → Prop) : Prop :=
  ∃ e, w_79_12 kc Φ (fun m => w_79_45 kc Φ m) e x0 (0 : Int32) (it_sv (it_sv m x0 9 x1) x0 14 (0 : Int32))
/-- GrantBoard$Kernel.takeFault(LGrantBoard$Process;II)V -/
def w_77_87 (kc : it_Kc) (Φ : it_Me → Prop) (m : it_Me) : Prop :=
  Φ m
def w_77 (kc : it_Kc) (x0 : Nat) (x1 : Int32) (x2 : Int32) (m : it_Me) (Φ : it_Me → Prop) : Prop :=
  w_129 kc x0 m (fun r1 m2 => w_13 kc (r1 + (24 : Int32)) ((1 : Int32) + x1) m2 (fun m3 => w_13 kc ((r1 + (24 : Int32)) + (4 : Int32)) x2 m3 (fun m4 => w_13 kc ((r1 + (24 : Int32)) + (8 : Int32)) (m4 x0 3) m4 (fun m5 => w_69 kc (m5 x0 0) (2 : Int32) x1 m5 (fun m6 => ((m6 9 8) ≤ (m6 x0 12) → w_79 kc x0 (5 : Int32) m6 (fun m7 => w_77_87 kc Φ m7)) ∧ (¬ (m6 9 8) ≤ (m6 x0 12) → w_76 kc x0 m6 (fun m8 => w_77_87 kc Φ m8)))))))
/-- GrantBoard$Kernel.endWith(LGrantBoard$Process;I)V -/
def w_78 (kc : it_Kc) (x0 : Nat) (x1 : Int32) (m : it_Me) (Φ : it_Me → Prop) : Prop :=
  w_69 kc ((it_sv m x0 11 x1) x0 0) (4 : Int32) x1 (it_sv m x0 11 x1) (fun m1 => w_79 kc x0 (4 : Int32) m1 (fun m2 => Φ m2))
/-- GrantBoard$Process.removeUpcall(I)V -/
def w_143_51 (kc : it_Kc) (Φ : it_Me → Prop) (m : it_Me) : Prop :=
  Φ m
def w_143 (kc : it_Kc) (k : Nat) (x0 : Int32) (m : it_Me) (Φ : it_Me → Prop) : Prop :=
  (x0 < 0 → w_143_51 kc Φ m) ∧ (¬ x0 < 0 → ((m k 14) ≤ x0 → w_143_51 kc Φ m) ∧ (¬ (m k 14) ≤ x0 → (¬ ((x0 * (5 : Int32)) + (5 : Int32)) < 0 ∧ ¬ (x0 * (5 : Int32)) < 0 ∧ ¬ (((m k 14) * (5 : Int32)) - ((x0 * (5 : Int32)) + (5 : Int32))) < 0 ∧ Int32.toNatClampNeg ((x0 * (5 : Int32)) + (5 : Int32)) + Int32.toNatClampNeg (((m k 14) * (5 : Int32)) - ((x0 * (5 : Int32)) + (5 : Int32))) ≤ 50 ∧ Int32.toNatClampNeg (x0 * (5 : Int32)) + Int32.toNatClampNeg (((m k 14) * (5 : Int32)) - ((x0 * (5 : Int32)) + (5 : Int32))) ≤ 50) ∧ (w_143_51 kc Φ (it_sv (it_up m (k + 3) (va_cpy (m (k + 3)) (m (k + 3)) (Int32.toNatClampNeg ((x0 * (5 : Int32)) + (5 : Int32))) (Int32.toNatClampNeg (x0 * (5 : Int32))) (Int32.toNatClampNeg (((m k 14) * (5 : Int32)) - ((x0 * (5 : Int32)) + (5 : Int32)))))) k 14 (((it_up m (k + 3) (va_cpy (m (k + 3)) (m (k + 3)) (Int32.toNatClampNeg ((x0 * (5 : Int32)) + (5 : Int32))) (Int32.toNatClampNeg (x0 * (5 : Int32))) (Int32.toNatClampNeg (((m k 14) * (5 : Int32)) - ((x0 * (5 : Int32)) + (5 : Int32)))))) k 14) - (1 : Int32))))))
/-- GrantBoard$Kernel.giveWaiting(LGrantBoard$Process;I)V -/
def w_81_60 (kc : it_Kc) (Φ : it_Me → Prop) (m : it_Me) : Prop :=
  Φ m
def w_81 (kc : it_Kc) (x0 : Nat) (x1 : Int32) (m : it_Me) (Φ : it_Me → Prop) : Prop :=
  (x1 < 0 → w_81_60 kc Φ m) ∧ (¬ x1 < 0 → ((m x0 14) ≤ x1 → w_81_60 kc Φ m) ∧ (¬ (m x0 14) ≤ x1 → vp_in (x1 * (5 : Int32)) 50 ∧ (vp_in ((x1 * (5 : Int32)) + (1 : Int32)) 50 ∧ (vp_in ((x1 * (5 : Int32)) + (2 : Int32)) 50 ∧ (vp_in ((x1 * (5 : Int32)) + (3 : Int32)) 50 ∧ (vp_in ((x1 * (5 : Int32)) + (4 : Int32)) 50 ∧ (w_83 kc x0 (m (x0 + 3) (Int32.toNatClampNeg (x1 * (5 : Int32)))) (m (x0 + 3) (Int32.toNatClampNeg ((x1 * (5 : Int32)) + (1 : Int32)))) (m (x0 + 3) (Int32.toNatClampNeg ((x1 * (5 : Int32)) + (2 : Int32)))) (m (x0 + 3) (Int32.toNatClampNeg ((x1 * (5 : Int32)) + (3 : Int32)))) (m (x0 + 3) (Int32.toNatClampNeg ((x1 * (5 : Int32)) + (4 : Int32)))) m (fun m1 => w_143 kc x0 x1 m1 (fun m2 => w_81_60 kc Φ m2)))))))))
/-- GrantBoard$Kernel.runFirst(LGrantBoard$Process;)V -/
def w_82 (kc : it_Kc) (x0 : Nat) (m : it_Me) (Φ : it_Me → Prop) : Prop :=
  vp_in (0 : Int32) 50 ∧ (vp_in (1 : Int32) 50 ∧ (w_81 kc x0 (0 : Int32) m (fun m1 => w_84 kc x0 (m (x0 + 3) (Int32.toNatClampNeg (0 : Int32))) (m (x0 + 3) (Int32.toNatClampNeg (1 : Int32))) m1 (fun m2 => Φ m2))))
/-- GrantBoard$Kernel.grantSize(I)I -/
def w_86 (kc : it_Kc) (x0 : Int32) (m : it_Me) (Φ : Int32 → it_Me → Prop) : Prop :=
  vp_in x0 (kc 2).1 ∧ (vp_in x0 (kc 3).1 ∧ (vp_in x0 (kc 4).1 ∧ (vp_in x0 (kc 1).1 ∧ (Φ (((8 : Int32) * ((((1 : Int32) + ((kc 2).2 (Int32.toNatClampNeg x0))) + ((kc 3).2 (Int32.toNatClampNeg x0))) + ((kc 4).2 (Int32.toNatClampNeg x0)))) + ((4 : Int32) * ((kc 1).2 (Int32.toNatClampNeg x0)))) m))))
/-- GrantBoard$Kernel.reachGrant(LGrantBoard$Process;I)Z -/
def w_85_14 (kc : it_Kc) (Φ : Int32 → it_Me → Prop) (m : it_Me) : Prop :=
  Φ (1 : Int32) m
def w_85_84 (kc : it_Kc) (Φ : Int32 → it_Me → Prop) (v1 : Nat) (v2 : Int32) (v4 : Int32) (u1 : Int32) (u2 : Int32) (m : it_Me) : Prop :=
  w_13 kc u1 u2 m (fun m1 => vp_in v2 9 ∧ (Φ (1 : Int32) (it_sv (it_sv (it_sv m1 v1 8 v4) (v1 + 4) (Int32.toNatClampNeg v2) v4) v1 18 (((it_sv (it_sv m1 v1 8 v4) (v1 + 4) (Int32.toNatClampNeg v2) v4) v1 18) + (1 : Int32)))))
def w_85 (kc : it_Kc) (x0 : Nat) (x1 : Int32) (m : it_Me) (Φ : Int32 → it_Me → Prop) : Prop :=
  (x1 = (2 : Int32) → w_85_14 kc Φ m) ∧ (¬ x1 = (2 : Int32) → vp_in x1 9 ∧ (((m (x0 + 4) (Int32.toNatClampNeg x1)) = 0 → w_86 kc x1 m (fun r1 m2 => ((m2 x0 7) ≤ ((m2 x0 8) - r1) → w_18 kc ((m2 x0 8) - r1) r1 (0 : Int32) m2 (fun m3 => w_13 kc ((m2 x0 8) - r1) x1 m3 (fun m4 => ((m4 x0 18) = 0 → w_85_84 kc Φ x0 x1 ((m2 x0 8) - r1) (((m2 x0 8) - r1) + (4 : Int32)) (0 : Int32) m4) ∧ (¬ (m4 x0 18) = 0 → w_85_84 kc Φ x0 x1 ((m2 x0 8) - r1) (((m2 x0 8) - r1) + (4 : Int32)) (m4 x0 8) m4)))) ∧ (¬ (m2 x0 7) ≤ ((m2 x0 8) - r1) → Φ (0 : Int32) m2))) ∧ (¬ (m (x0 + 4) (Int32.toNatClampNeg x1)) = 0 → w_85_14 kc Φ m)))
/-- GrantBoard$Kernel.buffersEnd(LGrantBoard$Process;)I -/
def w_91_92 (kc : it_Kc) (Φ : Int32 → it_Me → Prop) (K29 : Nat → Int32 → Int32 → Int32 → Int32 → it_Me → Prop) (K98 : Nat → Int32 → Int32 → it_Me → Prop) (v1 : Nat) (v2 : Int32) (v3 : Int32) (v4 : Int32) (v5 : Int32) (m : it_Me) : Prop :=
  K29 v1 v2 v3 v4 (v5 + (1 : Int32)) m
def w_91_29 (kc : it_Kc) (Φ : Int32 → it_Me → Prop) (K98 : Nat → Int32 → Int32 → it_Me → Prop) : Nat → Nat → Int32 → Int32 → Int32 → Int32 → it_Me → Prop
  | 0, _, _, _, _, _, _ => False
  | n29 + 1, v1, v2, v3, v4, v5, m =>
  (v4 ≤ v5 → K98 v1 v2 v3 m) ∧ (¬ v4 ≤ v5 → w_88 kc v1 v3 v5 m (fun r1 m2 => w_12 kc r1 m2 (fun r3 m4 => w_12 kc (r1 + (4 : Int32)) m4 (fun r5 m6 => (r5 ≤ 0 → w_91_92 kc Φ (w_91_29 kc Φ K98 n29) K98 v1 v2 v3 v4 v5 m6) ∧ (¬ r5 ≤ 0 → (r3 < (131072 : Int32) → w_91_92 kc Φ (w_91_29 kc Φ K98 n29) K98 v1 v2 v3 v4 v5 m6) ∧ (¬ r3 < (131072 : Int32) → w_91_92 kc Φ (w_91_29 kc Φ K98 n29) K98 v1 (it_max v2 (r3 + r5)) v3 v4 v5 m6))))))
def w_91_98 (kc : it_Kc) (Φ : Int32 → it_Me → Prop) (K7 : Nat → Int32 → Int32 → it_Me → Prop) (K104 : Int32 → it_Me → Prop) (v1 : Nat) (v2 : Int32) (v3 : Int32) (m : it_Me) : Prop :=
  K7 v1 v2 (v3 + (1 : Int32)) m
def w_91_7 (kc : it_Kc) (Φ : Int32 → it_Me → Prop) (K104 : Int32 → it_Me → Prop) : Nat → Nat → Int32 → Int32 → it_Me → Prop
  | 0, _, _, _, _ => False
  | n7 + 1, v1, v2, v3, m =>
  ((9 : Int32) ≤ v3 → K104 v2 m) ∧ (¬ (9 : Int32) ≤ v3 → vp_in v3 (kc 3).1 ∧ (vp_in v3 (kc 4).1 ∧ (∃ e, w_91_29 kc Φ (fun v1 v2 v3 m => w_91_98 kc Φ (w_91_7 kc Φ K104 n7) K104 v1 v2 v3 m) e v1 v2 v3 (((kc 3).2 (Int32.toNatClampNeg v3)) + ((kc 4).2 (Int32.toNatClampNeg v3))) (0 : Int32) m)))
def w_91_104 (kc : it_Kc) (Φ : Int32 → it_Me → Prop) (v2 : Int32) (m : it_Me) : Prop :=
  Φ v2 m
def w_91 (kc : it_Kc) (x0 : Nat) (m : it_Me) (Φ : Int32 → it_Me → Prop) : Prop :=
  ∃ e, w_91_7 kc Φ (fun v2 m => w_91_104 kc Φ v2 m) e x0 (m x0 5) (0 : Int32) m
/-- GrantBoard$Process.stateTold()I -/
def w_134_21 (kc : it_Kc) (Φ : Int32 → it_Me → Prop) (u0 : Int32) (m : it_Me) : Prop :=
  Φ u0 m
def w_134 (kc : it_Kc) (k : Nat) (m : it_Me) (Φ : Int32 → it_Me → Prop) : Prop :=
  ((m k 10) = 0 → w_134_21 kc Φ (m k 9) m) ∧ (¬ (m k 10) = 0 → w_134_21 kc Φ ((m k 9) + (8 : Int32)) m)
/-- GrantBoard$Kernel.writeControls()V -/
def w_92_2 (kc : it_Kc) (Φ : it_Me → Prop) (K132 : it_Me → Prop) : Nat → Int32 → it_Me → Prop
  | 0, _, _ => False
  | n2 + 1, v1, m =>
  ((m 9 7) ≤ v1 → K132 m) ∧ (¬ (m 9 7) ≤ v1 → vp_in v1 8 ∧ (w_129 kc (14 + 5 * Int32.toNatClampNeg v1) m (fun r1 m2 => w_13 kc r1 (m2 (14 + 5 * Int32.toNatClampNeg v1) 0) m2 (fun m3 => w_13 kc (r1 + (4 : Int32)) (m3 ((14 + 5 * Int32.toNatClampNeg v1) + 1) 1) m3 (fun m4 => w_13 kc (r1 + (8 : Int32)) (m4 (14 + 5 * Int32.toNatClampNeg v1) 7) m4 (fun m5 => w_13 kc (r1 + (12 : Int32)) (m5 (14 + 5 * Int32.toNatClampNeg v1) 8) m5 (fun m6 => w_13 kc (r1 + (16 : Int32)) (m6 (14 + 5 * Int32.toNatClampNeg v1) 12) m6 (fun m7 => w_13 kc (r1 + (20 : Int32)) (m7 (14 + 5 * Int32.toNatClampNeg v1) 14) m7 (fun m8 => w_134 kc (14 + 5 * Int32.toNatClampNeg v1) m8 (fun r9 m10 => w_13 kc (r1 + (36 : Int32)) r9 m10 (fun m11 => (w_92_2 kc Φ K132 n2) (v1 + (1 : Int32)) m11)))))))))))
def w_92_132 (kc : it_Kc) (Φ : it_Me → Prop) (m : it_Me) : Prop :=
  Φ m
def w_92 (kc : it_Kc) (m : it_Me) (Φ : it_Me → Prop) : Prop :=
  ∃ e, w_92_2 kc Φ (fun m => w_92_132 kc Φ m) e (0 : Int32) m
/-- GrantBoard$Kernel.addEntry(II)V -/
def w_96_39 (kc : it_Kc) (Φ : it_Me → Prop) (m : it_Me) : Prop :=
  Φ m
def w_96 (kc : it_Kc) (x0 : Int32) (x1 : Int32) (m : it_Me) (Φ : it_Me → Prop) : Prop :=
  ((16 : Int32) ≤ (m 9 6) → w_96_39 kc Φ m) ∧ (¬ (16 : Int32) ≤ (m 9 6) → vp_in (m 9 6) 16 ∧ (vp_in ((it_sv m 11 (Int32.toNatClampNeg (m 9 6)) x0) 9 6) 16 ∧ (w_96_39 kc Φ (it_sv (it_sv (it_sv m 11 (Int32.toNatClampNeg (m 9 6)) x0) 12 (Int32.toNatClampNeg ((it_sv m 11 (Int32.toNatClampNeg (m 9 6)) x0) 9 6)) x1) 9 6 (((it_sv (it_sv m 11 (Int32.toNatClampNeg (m 9 6)) x0) 12 (Int32.toNatClampNeg ((it_sv m 11 (Int32.toNatClampNeg (m 9 6)) x0) 9 6)) x1) 9 6) + (1 : Int32))))))
/-- GrantBoard$Kernel.addRegion(III)V -/
def w_95_98 (kc : it_Kc) (Φ : it_Me → Prop) (m : it_Me) : Prop :=
  Φ m
def w_95_52 (kc : it_Kc) (Φ : it_Me → Prop) (v1 : Int32) (v2 : Int32) (v3 : Int32) (v4 : Int32) (m : it_Me) : Prop :=
  (v4 = 0 → w_96 kc (it_shr v1 (2 : Int32)) (0 : Int32) m (fun m1 => w_96 kc (it_shr (v1 + v2) (2 : Int32)) (v3 ||| (8 : Int32)) m1 (fun m2 => w_95_98 kc Φ m2))) ∧ (¬ v4 = 0 → w_96 kc ((it_shr v1 (2 : Int32)) ||| ((it_shr v2 (3 : Int32)) - (1 : Int32))) (v3 ||| (24 : Int32)) m (fun m3 => w_95_98 kc Φ m3))
def w_95_26 (kc : it_Kc) (Φ : it_Me → Prop) (v1 : Int32) (v2 : Int32) (v3 : Int32) (u0 : Int32) (m : it_Me) : Prop :=
  (u0 = 0 → w_95_52 kc Φ v1 v2 v3 u0 m) ∧ (¬ u0 = 0 → (v2 = (4 : Int32) → w_96 kc (it_shr v1 (2 : Int32)) (v3 ||| (16 : Int32)) m (fun m1 => w_95_98 kc Φ m1)) ∧ (¬ v2 = (4 : Int32) → w_95_52 kc Φ v1 v2 v3 u0 m))
def w_95_25 (kc : it_Kc) (Φ : it_Me → Prop) (v1 : Int32) (v2 : Int32) (v3 : Int32) (m : it_Me) : Prop :=
  w_95_26 kc Φ v1 v2 v3 (0 : Int32) m
def w_95 (kc : it_Kc) (x0 : Int32) (x1 : Int32) (x2 : Int32) (m : it_Me) (Φ : it_Me → Prop) : Prop :=
  (x1 = 0 → Φ m) ∧ (¬ x1 = 0 → ((x1 &&& (x1 - (1 : Int32))) = 0 → ((x0 &&& (x1 - (1 : Int32))) = 0 → w_95_26 kc Φ x0 x1 x2 (1 : Int32) m) ∧ (¬ (x0 &&& (x1 - (1 : Int32))) = 0 → w_95_25 kc Φ x0 x1 x2 m)) ∧ (¬ (x1 &&& (x1 - (1 : Int32))) = 0 → w_95_25 kc Φ x0 x1 x2 m))
/-- GrantBoard$Kernel.makePlan(LGrantBoard$Process;)V -/
def w_94 (kc : it_Kc) (x0 : Nat) (m : it_Me) (Φ : it_Me → Prop) : Prop :=
  w_361 kc 11 (0 : Int32) m (fun m1 => w_361 kc 12 (0 : Int32) m1 (fun m2 => w_95 kc ((it_sv m2 9 6 (0 : Int32)) (x0 + 1) 1) ((it_sv m2 9 6 (0 : Int32)) (x0 + 1) 3) (5 : Int32) (it_sv m2 9 6 (0 : Int32)) (fun m3 => w_95 kc (m3 x0 5) ((m3 x0 7) - (m3 x0 5)) (3 : Int32) m3 (fun m4 => Φ m4))))
/-- GrantBoard$Kernel.entryReaches(III)Z -/
def w_98_116 (kc : it_Kc) (Φ : Int32 → it_Me → Prop) (u0 : Int32) (m : it_Me) : Prop :=
  (u0 = 0 ∨ u0 = 1) ∧ Φ u0 m
def w_98_115 (kc : it_Kc) (Φ : Int32 → it_Me → Prop) (m : it_Me) : Prop :=
  w_98_116 kc Φ (0 : Int32) m
def w_98_92 (kc : it_Kc) (Φ : Int32 → it_Me → Prop) (v2 : Int32) (v3 : Int32) (v5 : Int32) (v6 : Int32) (m : it_Me) : Prop :=
  ((it_shl v5 (2 : Int32)) = v2 → ((it_shl (v6 - v5) (2 : Int32)) = v3 → w_98_116 kc Φ (1 : Int32) m) ∧ (¬ (it_shl (v6 - v5) (2 : Int32)) = v3 → w_98_115 kc Φ m)) ∧ (¬ (it_shl v5 (2 : Int32)) = v2 → w_98_115 kc Φ m)
def w_98_50 (kc : it_Kc) (Φ : Int32 → it_Me → Prop) (v2 : Int32) (v3 : Int32) (v4 : Int32) (u0 : Int32) (m : it_Me) : Prop :=
  w_98_92 kc Φ v2 v3 u0 v4 m
def w_98 (kc : it_Kc) (x0 : Int32) (x1 : Int32) (x2 : Int32) (m : it_Me) (Φ : Int32 → it_Me → Prop) : Prop :=
  vp_in x0 16 ∧ (vp_in x0 16 ∧ (((it_shr (m 12 (Int32.toNatClampNeg x0)) (3 : Int32)) = (1 : Int32) → (x0 ≤ 0 → w_98_50 kc Φ x1 x2 (m 11 (Int32.toNatClampNeg x0)) (0 : Int32) m) ∧ (¬ x0 ≤ 0 → vp_in (x0 - (1 : Int32)) 16 ∧ (w_98_50 kc Φ x1 x2 (m 11 (Int32.toNatClampNeg x0)) (m 11 (Int32.toNatClampNeg (x0 - (1 : Int32)))) m))) ∧ (¬ (it_shr (m 12 (Int32.toNatClampNeg x0)) (3 : Int32)) = (1 : Int32) → ((it_shr (m 12 (Int32.toNatClampNeg x0)) (3 : Int32)) = (3 : Int32) → w_98_92 kc Φ x1 x2 ((m 11 (Int32.toNatClampNeg x0)) &&& (((m 11 (Int32.toNatClampNeg x0)) ^^^ ((m 11 (Int32.toNatClampNeg x0)) + (1 : Int32))) ^^^ (-1 : Int32))) ((((m 11 (Int32.toNatClampNeg x0)) &&& (((m 11 (Int32.toNatClampNeg x0)) ^^^ ((m 11 (Int32.toNatClampNeg x0)) + (1 : Int32))) ^^^ (-1 : Int32))) + ((m 11 (Int32.toNatClampNeg x0)) ^^^ ((m 11 (Int32.toNatClampNeg x0)) + (1 : Int32)))) + (1 : Int32)) m) ∧ (¬ (it_shr (m 12 (Int32.toNatClampNeg x0)) (3 : Int32)) = (3 : Int32) → w_98_92 kc Φ x1 x2 (m 11 (Int32.toNatClampNeg x0)) ((m 11 (Int32.toNatClampNeg x0)) + (1 : Int32)) m))))
/-- GrantBoard$Kernel.entriesAllowJust(LGrantBoard$Process;)Z -/
def w_97_141 (kc : it_Kc) (Φ : Int32 → it_Me → Prop) (K12 : Nat → Int32 → Int32 → Int32 → it_Me → Prop) (K139 : it_Me → Prop) (K147 : Nat → Int32 → Int32 → it_Me → Prop) (v1 : Nat) (v2 : Int32) (v3 : Int32) (v4 : Int32) (m : it_Me) : Prop :=
  K12 v1 v2 v3 (v4 + (1 : Int32)) m
def w_97_129 (kc : it_Kc) (Φ : Int32 → it_Me → Prop) (K12 : Nat → Int32 → Int32 → Int32 → it_Me → Prop) (K139 : it_Me → Prop) (K147 : Nat → Int32 → Int32 → it_Me → Prop) (v1 : Nat) (v2 : Int32) (v3 : Int32) (v4 : Int32) (v5 : Int32) (v6 : Int32) (m : it_Me) : Prop :=
  (v5 = 0 → (v6 = 0 → w_97_141 kc Φ K12 K139 K147 v1 v2 v3 v4 m) ∧ (¬ v6 = 0 → K139 m)) ∧ (¬ v5 = 0 → K139 m)
def w_97_90 (kc : it_Kc) (Φ : Int32 → it_Me → Prop) (K12 : Nat → Int32 → Int32 → Int32 → it_Me → Prop) (K139 : it_Me → Prop) (K147 : Nat → Int32 → Int32 → it_Me → Prop) (v1 : Nat) (v2 : Int32) (v3 : Int32) (v4 : Int32) (v5 : Int32) (v6 : Int32) (m : it_Me) : Prop :=
  (v5 = 0 → w_97_129 kc Φ K12 K139 K147 v1 v2 v3 v4 v5 v6 m) ∧ (¬ v5 = 0 → (v6 = (3 : Int32) → w_98 kc v4 (m v1 5) ((m v1 7) - (m v1 5)) m (fun r1 m2 => (r1 = 0 → w_97_129 kc Φ K12 K139 K147 v1 v2 v3 v4 v5 v6 m2) ∧ (¬ r1 = 0 → w_97_141 kc Φ K12 K139 K147 v1 v2 (v3 + (1 : Int32)) v4 m2))) ∧ (¬ v6 = (3 : Int32) → w_97_129 kc Φ K12 K139 K147 v1 v2 v3 v4 v5 v6 m))
def w_97_36 (kc : it_Kc) (Φ : Int32 → it_Me → Prop) (K12 : Nat → Int32 → Int32 → Int32 → it_Me → Prop) (K139 : it_Me → Prop) (K147 : Nat → Int32 → Int32 → it_Me → Prop) (v1 : Nat) (v2 : Int32) (v3 : Int32) (v4 : Int32) (u0 : Int32) (m : it_Me) : Prop :=
  vp_in v4 16 ∧ ((u0 = 0 → w_97_90 kc Φ K12 K139 K147 v1 v2 v3 v4 u0 ((m 12 (Int32.toNatClampNeg v4)) &&& (7 : Int32)) m) ∧ (¬ u0 = 0 → (((m 12 (Int32.toNatClampNeg v4)) &&& (7 : Int32)) = (5 : Int32) → w_98 kc v4 (m (v1 + 1) 1) (m (v1 + 1) 3) m (fun r1 m2 => (r1 = 0 → w_97_90 kc Φ K12 K139 K147 v1 v2 v3 v4 u0 ((m 12 (Int32.toNatClampNeg v4)) &&& (7 : Int32)) m2) ∧ (¬ r1 = 0 → w_97_141 kc Φ K12 K139 K147 v1 (v2 + (1 : Int32)) v3 v4 m2))) ∧ (¬ ((m 12 (Int32.toNatClampNeg v4)) &&& (7 : Int32)) = (5 : Int32) → w_97_90 kc Φ K12 K139 K147 v1 v2 v3 v4 u0 ((m 12 (Int32.toNatClampNeg v4)) &&& (7 : Int32)) m)))
def w_97_12 (kc : it_Kc) (Φ : Int32 → it_Me → Prop) (K139 : it_Me → Prop) (K147 : Nat → Int32 → Int32 → it_Me → Prop) : Nat → Nat → Int32 → Int32 → Int32 → it_Me → Prop
  | 0, _, _, _, _, _ => False
  | n12 + 1, v1, v2, v3, v4, m =>
  ((16 : Int32) ≤ v4 → K147 v1 v2 v3 m) ∧ (¬ (16 : Int32) ≤ v4 → vp_in v4 16 ∧ (((it_shr (m 12 (Int32.toNatClampNeg v4)) (3 : Int32)) = 0 → w_97_36 kc Φ (w_97_12 kc Φ K139 K147 n12) K139 K147 v1 v2 v3 v4 (0 : Int32) m) ∧ (¬ (it_shr (m 12 (Int32.toNatClampNeg v4)) (3 : Int32)) = 0 → w_97_36 kc Φ (w_97_12 kc Φ K139 K147 n12) K139 K147 v1 v2 v3 v4 (1 : Int32) m)))
def w_97_139 (kc : it_Kc) (Φ : Int32 → it_Me → Prop) (m : it_Me) : Prop :=
  Φ (0 : Int32) m
def w_97_177 (kc : it_Kc) (Φ : Int32 → it_Me → Prop) (u0 : Int32) (m : it_Me) : Prop :=
  (u0 = 0 ∨ u0 = 1) ∧ Φ u0 m
def w_97_176 (kc : it_Kc) (Φ : Int32 → it_Me → Prop) (m : it_Me) : Prop :=
  w_97_177 kc Φ (0 : Int32) m
def w_97_169 (kc : it_Kc) (Φ : Int32 → it_Me → Prop) (u0 : Int32) (u1 : Int32) (m : it_Me) : Prop :=
  (u0 = u1 → w_97_177 kc Φ (1 : Int32) m) ∧ (¬ u0 = u1 → w_97_176 kc Φ m)
def w_97_147 (kc : it_Kc) (Φ : Int32 → it_Me → Prop) (v1 : Nat) (v2 : Int32) (v3 : Int32) (m : it_Me) : Prop :=
  (v2 = (1 : Int32) → ((m v1 7) ≤ (m v1 5) → w_97_169 kc Φ v3 (0 : Int32) m) ∧ (¬ (m v1 7) ≤ (m v1 5) → w_97_169 kc Φ v3 (1 : Int32) m)) ∧ (¬ v2 = (1 : Int32) → w_97_176 kc Φ m)
def w_97 (kc : it_Kc) (x0 : Nat) (m : it_Me) (Φ : Int32 → it_Me → Prop) : Prop :=
  w_94 kc x0 m (fun m1 => ∃ e, w_97_12 kc Φ (fun m => w_97_139 kc Φ m) (fun v1 v2 v3 m => w_97_147 kc Φ v1 v2 v3 m) e x0 (0 : Int32) (0 : Int32) (0 : Int32) m1)
/-- GrantBoard.liesIn(IIII)Z -/
def w_215_26 (kc : it_Kc) (Φ : Int32 → it_Me → Prop) (u0 : Int32) (m : it_Me) : Prop :=
  (u0 = 0 ∨ u0 = 1) ∧ Φ u0 m
def w_215_25 (kc : it_Kc) (Φ : Int32 → it_Me → Prop) (m : it_Me) : Prop :=
  w_215_26 kc Φ (0 : Int32) m
def w_215 (kc : it_Kc) (x0 : Int32) (x1 : Int32) (x2 : Int32) (x3 : Int32) (m : it_Me) (Φ : Int32 → it_Me → Prop) : Prop :=
  (x0 < x2 → w_215_25 kc Φ m) ∧ (¬ x0 < x2 → (x3 ≤ x0 → w_215_25 kc Φ m) ∧ (¬ x3 ≤ x0 → (x1 ≤ 0 → w_215_25 kc Φ m) ∧ (¬ x1 ≤ 0 → ((x3 - x0) < x1 → w_215_25 kc Φ m) ∧ (¬ (x3 - x0) < x1 → w_215_26 kc Φ (1 : Int32) m))))
/-- GrantBoard$Kernel.blockStandsAlone(LGrantBoard$Process;)Z -/
def w_99_51 (kc : it_Kc) (Φ : Int32 → it_Me → Prop) (K2 : Nat → Int32 → it_Me → Prop) (K49 : it_Me → Prop) (K57 : Nat → it_Me → Prop) (v1 : Nat) (v2 : Int32) (m : it_Me) : Prop :=
  K2 v1 (v2 + (1 : Int32)) m
def w_99_2 (kc : it_Kc) (Φ : Int32 → it_Me → Prop) (K49 : it_Me → Prop) (K57 : Nat → it_Me → Prop) : Nat → Nat → Int32 → it_Me → Prop
  | 0, _, _, _ => False
  | n2 + 1, v1, v2, m =>
  ((m v1 0) ≤ v2 → K57 v1 m) ∧ (¬ (m v1 0) ≤ v2 → vp_in v2 8 ∧ ((((m (14 + 5 * Int32.toNatClampNeg v2) 5) + (m (14 + 5 * Int32.toNatClampNeg v2) 6)) ≤ (m v1 5) → w_99_51 kc Φ (w_99_2 kc Φ K49 K57 n2) K49 K57 v1 v2 m) ∧ (¬ ((m (14 + 5 * Int32.toNatClampNeg v2) 5) + (m (14 + 5 * Int32.toNatClampNeg v2) 6)) ≤ (m v1 5) → (((m v1 5) + (m v1 6)) ≤ (m (14 + 5 * Int32.toNatClampNeg v2) 5) → w_99_51 kc Φ (w_99_2 kc Φ K49 K57 n2) K49 K57 v1 v2 m) ∧ (¬ ((m v1 5) + (m v1 6)) ≤ (m (14 + 5 * Int32.toNatClampNeg v2) 5) → K49 m))))
def w_99_49 (kc : it_Kc) (Φ : Int32 → it_Me → Prop) (m : it_Me) : Prop :=
  Φ (0 : Int32) m
def w_99_57 (kc : it_Kc) (Φ : Int32 → it_Me → Prop) (v1 : Nat) (m : it_Me) : Prop :=
  w_215 kc (m v1 5) (m v1 6) (131072 : Int32) (196608 : Int32) m (fun r1 m2 => (r1 = 0 ∨ r1 = 1) ∧ Φ r1 m2)
def w_99 (kc : it_Kc) (x0 : Nat) (m : it_Me) (Φ : Int32 → it_Me → Prop) : Prop :=
  ∃ e, w_99_2 kc Φ (fun m => w_99_49 kc Φ m) (fun v1 m => w_99_57 kc Φ v1 m) e x0 (0 : Int32) m
/-- GrantBoard$Kernel.grantsLieInOrder(LGrantBoard$Process;)Z -/
def w_100_84 (kc : it_Kc) (Φ : Int32 → it_Me → Prop) (K7 : Nat → Int32 → Int32 → it_Me → Prop) (K48 : it_Me → Prop) (K87 : it_Me → Prop) (K98 : Nat → Int32 → it_Me → Prop) (v1 : Nat) (v3 : Int32) (v5 : Int32) (u0 : Int32) (u1 : Int32) (m : it_Me) : Prop :=
  (u0 = u1 → K7 v1 v5 (v3 + (1 : Int32)) m) ∧ (¬ u0 = u1 → K87 m)
def w_100_7 (kc : it_Kc) (Φ : Int32 → it_Me → Prop) (K48 : it_Me → Prop) (K87 : it_Me → Prop) (K98 : Nat → Int32 → it_Me → Prop) : Nat → Nat → Int32 → Int32 → it_Me → Prop
  | 0, _, _, _, _ => False
  | n7 + 1, v1, v2, v3, m =>
  ((m v1 18) ≤ v3 → K98 v1 v2 m) ∧ (¬ (m v1 18) ≤ v3 → w_12 kc v2 m (fun r1 m2 => (r1 < 0 → K48 m2) ∧ (¬ r1 < 0 → ((9 : Int32) ≤ r1 → K48 m2) ∧ (¬ (9 : Int32) ≤ r1 → vp_in r1 9 ∧ (((m2 (v1 + 4) (Int32.toNatClampNeg r1)) = v2 → w_86 kc r1 m2 (fun r3 m4 => w_12 kc (v2 + (4 : Int32)) m4 (fun r5 m6 => w_129 kc v1 m6 (fun r7 m8 => ((v2 + r3) = r7 → w_100_84 kc Φ (w_100_7 kc Φ K48 K87 K98 n7) K48 K87 K98 v1 v3 (v2 + r3) r5 (0 : Int32) m8) ∧ (¬ (v2 + r3) = r7 → w_100_84 kc Φ (w_100_7 kc Φ K48 K87 K98 n7) K48 K87 K98 v1 v3 (v2 + r3) r5 (v2 + r3) m8))))) ∧ (¬ (m2 (v1 + 4) (Int32.toNatClampNeg r1)) = v2 → K48 m2))))))
def w_100_48 (kc : it_Kc) (Φ : Int32 → it_Me → Prop) (m : it_Me) : Prop :=
  Φ (0 : Int32) m
def w_100_87 (kc : it_Kc) (Φ : Int32 → it_Me → Prop) (m : it_Me) : Prop :=
  Φ (0 : Int32) m
def w_100_111 (kc : it_Kc) (Φ : Int32 → it_Me → Prop) (u0 : Int32) (m : it_Me) : Prop :=
  (u0 = 0 ∨ u0 = 1) ∧ Φ u0 m
def w_100_98 (kc : it_Kc) (Φ : Int32 → it_Me → Prop) (v1 : Nat) (v2 : Int32) (m : it_Me) : Prop :=
  w_129 kc v1 m (fun r1 m2 => (v2 = r1 → w_100_111 kc Φ (1 : Int32) m2) ∧ (¬ v2 = r1 → w_100_111 kc Φ (0 : Int32) m2))
def w_100 (kc : it_Kc) (x0 : Nat) (m : it_Me) (Φ : Int32 → it_Me → Prop) : Prop :=
  ∃ e, w_100_7 kc Φ (fun m => w_100_48 kc Φ m) (fun m => w_100_87 kc Φ m) (fun v1 v2 m => w_100_98 kc Φ v1 v2 m) e x0 (m x0 8) (0 : Int32) m
/-- GrantBoard$Kernel.bufferFits(LGrantBoard$Process;IIZ)Z -/
def w_102_20 (kc : it_Kc) (Φ : Int32 → it_Me → Prop) (m : it_Me) : Prop :=
  Φ (1 : Int32) m
def w_102_62 (kc : it_Kc) (Φ : Int32 → it_Me → Prop) (u0 : Int32) (m : it_Me) : Prop :=
  (u0 = 0 ∨ u0 = 1) ∧ Φ u0 m
def w_102_61 (kc : it_Kc) (Φ : Int32 → it_Me → Prop) (m : it_Me) : Prop :=
  w_102_62 kc Φ (0 : Int32) m
def w_102 (kc : it_Kc) (x0 : Nat) (x1 : Int32) (x2 : Int32) (x3 : Int32) (m : it_Me) (Φ : Int32 → it_Me → Prop) : Prop :=
  (x2 = 0 → w_102_20 kc Φ m) ∧ (¬ x2 = 0 → w_215 kc x1 x2 (m x0 5) (m x0 7) m (fun r1 m2 => (r1 = 0 → (x3 = 0 → w_215 kc x1 x2 (m2 (x0 + 1) 1) ((m2 (x0 + 1) 1) + (m2 (x0 + 1) 3)) m2 (fun r3 m4 => (r3 = 0 → w_102_61 kc Φ m4) ∧ (¬ r3 = 0 → w_102_62 kc Φ (1 : Int32) m4))) ∧ (¬ x3 = 0 → w_102_61 kc Φ m2)) ∧ (¬ r1 = 0 → w_102_20 kc Φ m2)))
/-- GrantBoard$Kernel.buffersLieInside(LGrantBoard$Process;)Z -/
def w_101_54 (kc : it_Kc) (Φ : Int32 → it_Me → Prop) (K23 : Nat → Int32 → Int32 → Int32 → it_Me → Prop) (K86 : it_Me → Prop) (K94 : Nat → Int32 → it_Me → Prop) (v1 : Nat) (v2 : Int32) (v3 : Int32) (v4 : Int32) (v5 : Int32) (u0 : Int32) (m : it_Me) : Prop :=
  w_12 kc v5 m (fun r1 m2 => w_12 kc (v5 + (4 : Int32)) m2 (fun r3 m4 => w_102 kc v1 r1 r3 u0 m4 (fun r5 m6 => (r5 = 0 → K86 m6) ∧ (¬ r5 = 0 → K23 v1 v2 v3 (v4 + (1 : Int32)) m6))))
def w_101_23 (kc : it_Kc) (Φ : Int32 → it_Me → Prop) (K86 : it_Me → Prop) (K94 : Nat → Int32 → it_Me → Prop) : Nat → Nat → Int32 → Int32 → Int32 → it_Me → Prop
  | 0, _, _, _, _, _ => False
  | n23 + 1, v1, v2, v3, v4, m =>
  (v3 ≤ v4 → K94 v1 v2 m) ∧ (¬ v3 ≤ v4 → w_88 kc v1 v2 v4 m (fun r1 m2 => vp_in v2 (kc 3).1 ∧ ((v4 < ((kc 3).2 (Int32.toNatClampNeg v2)) → w_101_54 kc Φ (w_101_23 kc Φ K86 K94 n23) K86 K94 v1 v2 v3 v4 r1 (0 : Int32) m2) ∧ (¬ v4 < ((kc 3).2 (Int32.toNatClampNeg v2)) → w_101_54 kc Φ (w_101_23 kc Φ K86 K94 n23) K86 K94 v1 v2 v3 v4 r1 (1 : Int32) m2))))
def w_101_94 (kc : it_Kc) (Φ : Int32 → it_Me → Prop) (K2 : Nat → Int32 → it_Me → Prop) (K86 : it_Me → Prop) (K100 : it_Me → Prop) (v1 : Nat) (v2 : Int32) (m : it_Me) : Prop :=
  K2 v1 (v2 + (1 : Int32)) m
def w_101_2 (kc : it_Kc) (Φ : Int32 → it_Me → Prop) (K86 : it_Me → Prop) (K100 : it_Me → Prop) : Nat → Nat → Int32 → it_Me → Prop
  | 0, _, _, _ => False
  | n2 + 1, v1, v2, m =>
  ((9 : Int32) ≤ v2 → K100 m) ∧ (¬ (9 : Int32) ≤ v2 → vp_in v2 (kc 3).1 ∧ (vp_in v2 (kc 4).1 ∧ (∃ e, w_101_23 kc Φ K86 (fun v1 v2 m => w_101_94 kc Φ (w_101_2 kc Φ K86 K100 n2) K86 K100 v1 v2 m) e v1 v2 (((kc 3).2 (Int32.toNatClampNeg v2)) + ((kc 4).2 (Int32.toNatClampNeg v2))) (0 : Int32) m)))
def w_101_86 (kc : it_Kc) (Φ : Int32 → it_Me → Prop) (m : it_Me) : Prop :=
  Φ (0 : Int32) m
def w_101_100 (kc : it_Kc) (Φ : Int32 → it_Me → Prop) (m : it_Me) : Prop :=
  Φ (1 : Int32) m
def w_101 (kc : it_Kc) (x0 : Nat) (m : it_Me) (Φ : Int32 → it_Me → Prop) : Prop :=
  ∃ e, w_101_2 kc Φ (fun m => w_101_86 kc Φ m) (fun m => w_101_100 kc Φ m) e x0 (0 : Int32) m
/-- GrantBoard$Kernel.countBreaches(LGrantBoard$Process;)I -/
def w_93_111 (kc : it_Kc) (Φ : Int32 → it_Me → Prop) (u0 : Int32) (u1 : Int32) (m : it_Me) : Prop :=
  Φ (u0 + u1) m
def w_93_95 (kc : it_Kc) (Φ : Int32 → it_Me → Prop) (v1 : Nat) (u0 : Int32) (u1 : Int32) (m : it_Me) : Prop :=
  w_97 kc v1 m (fun r1 m2 => (r1 = 0 → w_93_111 kc Φ (u0 + u1) (1 : Int32) m2) ∧ (¬ r1 = 0 → w_93_111 kc Φ (u0 + u1) (0 : Int32) m2))
def w_93_79 (kc : it_Kc) (Φ : Int32 → it_Me → Prop) (v1 : Nat) (u0 : Int32) (u1 : Int32) (m : it_Me) : Prop :=
  w_101 kc v1 m (fun r1 m2 => (r1 = 0 → w_93_95 kc Φ v1 (u0 + u1) (1 : Int32) m2) ∧ (¬ r1 = 0 → w_93_95 kc Φ v1 (u0 + u1) (0 : Int32) m2))
def w_93_63 (kc : it_Kc) (Φ : Int32 → it_Me → Prop) (v1 : Nat) (u0 : Int32) (u1 : Int32) (m : it_Me) : Prop :=
  w_100 kc v1 m (fun r1 m2 => (r1 = 0 → w_93_79 kc Φ v1 (u0 + u1) (1 : Int32) m2) ∧ (¬ r1 = 0 → w_93_79 kc Φ v1 (u0 + u1) (0 : Int32) m2))
def w_93_48 (kc : it_Kc) (Φ : Int32 → it_Me → Prop) (v1 : Nat) (u0 : Int32) (m : it_Me) : Prop :=
  w_99 kc v1 m (fun r1 m2 => (r1 = 0 → w_93_63 kc Φ v1 u0 (1 : Int32) m2) ∧ (¬ r1 = 0 → w_93_63 kc Φ v1 u0 (0 : Int32) m2))
def w_93_38 (kc : it_Kc) (Φ : Int32 → it_Me → Prop) (v1 : Nat) (u0 : Int32) (m : it_Me) : Prop :=
  (u0 = 0 → w_93_48 kc Φ v1 (1 : Int32) m) ∧ (¬ u0 = 0 → w_93_48 kc Φ v1 (0 : Int32) m)
def w_93_37 (kc : it_Kc) (Φ : Int32 → it_Me → Prop) (v1 : Nat) (m : it_Me) : Prop :=
  w_93_38 kc Φ v1 (0 : Int32) m
def w_93 (kc : it_Kc) (x0 : Nat) (m : it_Me) (Φ : Int32 → it_Me → Prop) : Prop :=
  ((m x0 7) < (m x0 5) → w_93_37 kc Φ x0 m) ∧ (¬ (m x0 7) < (m x0 5) → ((m x0 8) < (m x0 7) → w_93_37 kc Φ x0 m) ∧ (¬ (m x0 8) < (m x0 7) → w_129 kc x0 m (fun r1 m2 => (r1 < (m x0 8) → w_93_37 kc Φ x0 m2) ∧ (¬ r1 < (m x0 8) → w_93_38 kc Φ x0 (1 : Int32) m2))))
/-- GrantBoard$Machine.fail(II)I -/
def w_105 (kc : it_Kc) (x0 : Int32) (x1 : Int32) (m : it_Me) (Φ : Int32 → it_Me → Prop) : Prop :=
  Φ (2 : Int32) (it_sv (it_sv m 58 1 x0) 58 2 x1)
/-- GrantBoard$Machine.finish(LGrantBoard$Process;III)I -/
def w_107_22 (kc : it_Kc) (Φ : Int32 → it_Me → Prop) (v0 : Nat) (v3 : Int32) (m : it_Me) : Prop :=
  Φ (0 : Int32) (it_sv m v0 3 v3)
def w_107 (kc : it_Kc) (x0 : Nat) (x1 : Int32) (x2 : Int32) (x3 : Int32) (m : it_Me) (Φ : Int32 → it_Me → Prop) : Prop :=
  (((it_us x1 (7 : Int32)) &&& (31 : Int32)) = 0 → w_107_22 kc Φ x0 x3 m) ∧ (¬ ((it_us x1 (7 : Int32)) &&& (31 : Int32)) = 0 → vp_in ((it_us x1 (7 : Int32)) &&& (31 : Int32)) 32 ∧ (w_107_22 kc Φ x0 x3 (it_sv m (x0 + 2) (Int32.toNatClampNeg ((it_us x1 (7 : Int32)) &&& (31 : Int32))) x2)))
/-- GrantBoard$Machine.jumpOffset(I)I -/
def w_111 (kc : it_Kc) (x0 : Int32) (m : it_Me) (Φ : Int32 → it_Me → Prop) : Prop :=
  Φ ((((it_shl (it_shr x0 (31 : Int32)) (20 : Int32)) ||| (x0 &&& (1044480 : Int32))) ||| (it_shl ((it_us x0 (20 : Int32)) &&& (1 : Int32)) (11 : Int32))) ||| (it_shl ((it_us x0 (21 : Int32)) &&& (1023 : Int32)) (1 : Int32))) m
/-- GrantBoard$Machine.kindOf(I)I -/
def w_108 (kc : it_Kc) (x0 : Int32) (m : it_Me) (Φ : Int32 → it_Me → Prop) : Prop :=
  Φ ((it_us x0 (12 : Int32)) &&& (7 : Int32)) m
/-- GrantBoard$Machine.first(LGrantBoard$Process;I)I -/
def w_109 (kc : it_Kc) (x0 : Nat) (x1 : Int32) (m : it_Me) (Φ : Int32 → it_Me → Prop) : Prop :=
  vp_in ((it_us x1 (15 : Int32)) &&& (31 : Int32)) 32 ∧ (Φ (m (x0 + 2) (Int32.toNatClampNeg ((it_us x1 (15 : Int32)) &&& (31 : Int32)))) m)
/-- GrantBoard$Machine.jumpToRegister(LGrantBoard$Process;II)I -/
def w_113 (kc : it_Kc) (x0 : Nat) (x1 : Int32) (x2 : Int32) (m : it_Me) (Φ : Int32 → it_Me → Prop) : Prop :=
  w_108 kc x1 m (fun r1 m2 => (r1 = 0 → w_109 kc x0 x1 m2 (fun r3 m4 => w_107 kc x0 x1 x2 ((r3 + (it_shr x1 (20 : Int32))) &&& (-2 : Int32)) m4 (fun r5 m6 => Φ r5 m6))) ∧ (¬ r1 = 0 → w_105 kc (2 : Int32) x1 m2 (fun r7 m8 => Φ r7 m8)))
/-- GrantBoard$Machine.second(LGrantBoard$Process;I)I -/
def w_110 (kc : it_Kc) (x0 : Nat) (x1 : Int32) (m : it_Me) (Φ : Int32 → it_Me → Prop) : Prop :=
  vp_in ((it_us x1 (20 : Int32)) &&& (31 : Int32)) 32 ∧ (Φ (m (x0 + 2) (Int32.toNatClampNeg ((it_us x1 (20 : Int32)) &&& (31 : Int32)))) m)
/-- GrantBoard$Machine.branchOffset(I)I -/
def w_112 (kc : it_Kc) (x0 : Int32) (m : it_Me) (Φ : Int32 → it_Me → Prop) : Prop :=
  Φ ((((it_shl (it_shr x0 (31 : Int32)) (12 : Int32)) ||| (it_shl ((it_us x0 (7 : Int32)) &&& (1 : Int32)) (11 : Int32))) ||| (it_shl ((it_us x0 (25 : Int32)) &&& (63 : Int32)) (5 : Int32))) ||| (it_shl ((it_us x0 (8 : Int32)) &&& (15 : Int32)) (1 : Int32))) m
/-- GrantBoard$Machine.branch(LGrantBoard$Process;II)I -/
def w_114_190 (kc : it_Kc) (Φ : Int32 → it_Me → Prop) (u0 : Nat) (u1 : Int32) (m : it_Me) : Prop :=
  Φ (0 : Int32) (it_sv m u0 3 u1)
def w_114_171 (kc : it_Kc) (Φ : Int32 → it_Me → Prop) (v1 : Nat) (v2 : Int32) (v3 : Int32) (v6 : Int32) (m : it_Me) : Prop :=
  (v6 = 0 → w_114_190 kc Φ v1 v3 m) ∧ (¬ v6 = 0 → w_112 kc v2 m (fun r1 m2 => w_114_190 kc Φ v1 ((m v1 3) + r1) m2))
def w_114_76 (kc : it_Kc) (Φ : Int32 → it_Me → Prop) (v1 : Nat) (v2 : Int32) (v3 : Int32) (u0 : Int32) (m : it_Me) : Prop :=
  w_114_171 kc Φ v1 v2 v3 u0 m
def w_114_93 (kc : it_Kc) (Φ : Int32 → it_Me → Prop) (v1 : Nat) (v2 : Int32) (v3 : Int32) (u0 : Int32) (m : it_Me) : Prop :=
  w_114_171 kc Φ v1 v2 v3 u0 m
def w_114_110 (kc : it_Kc) (Φ : Int32 → it_Me → Prop) (v1 : Nat) (v2 : Int32) (v3 : Int32) (u0 : Int32) (m : it_Me) : Prop :=
  w_114_171 kc Φ v1 v2 v3 u0 m
def w_114_127 (kc : it_Kc) (Φ : Int32 → it_Me → Prop) (v1 : Nat) (v2 : Int32) (v3 : Int32) (u0 : Int32) (m : it_Me) : Prop :=
  w_114_171 kc Φ v1 v2 v3 u0 m
def w_114_159 (kc : it_Kc) (Φ : Int32 → it_Me → Prop) (v1 : Nat) (v2 : Int32) (v3 : Int32) (u0 : Int32) (m : it_Me) : Prop :=
  w_114_171 kc Φ v1 v2 v3 u0 m
def w_114 (kc : it_Kc) (x0 : Nat) (x1 : Int32) (x2 : Int32) (m : it_Me) (Φ : Int32 → it_Me → Prop) : Prop :=
  w_109 kc x0 x1 m (fun r1 m2 => w_110 kc x0 x1 m2 (fun r3 m4 => w_108 kc x1 m4 (fun r5 m6 => (r5 = (0 : Int32) → (r1 = r3 → w_114_76 kc Φ x0 x1 x2 (1 : Int32) m6) ∧ (¬ r1 = r3 → w_114_76 kc Φ x0 x1 x2 (0 : Int32) m6)) ∧ (¬ r5 = (0 : Int32) → (r5 = (1 : Int32) → (r1 = r3 → w_114_93 kc Φ x0 x1 x2 (0 : Int32) m6) ∧ (¬ r1 = r3 → w_114_93 kc Φ x0 x1 x2 (1 : Int32) m6)) ∧ (¬ r5 = (1 : Int32) → (r5 = (2 : Int32) → w_105 kc (2 : Int32) x1 m6 (fun r7 m8 => Φ r7 m8)) ∧ (¬ r5 = (2 : Int32) → (r5 = (3 : Int32) → w_105 kc (2 : Int32) x1 m6 (fun r9 m10 => Φ r9 m10)) ∧ (¬ r5 = (3 : Int32) → (r5 = (4 : Int32) → (r3 ≤ r1 → w_114_110 kc Φ x0 x1 x2 (0 : Int32) m6) ∧ (¬ r3 ≤ r1 → w_114_110 kc Φ x0 x1 x2 (1 : Int32) m6)) ∧ (¬ r5 = (4 : Int32) → (r5 = (5 : Int32) → (r1 < r3 → w_114_127 kc Φ x0 x1 x2 (0 : Int32) m6) ∧ (¬ r1 < r3 → w_114_127 kc Φ x0 x1 x2 (1 : Int32) m6)) ∧ (¬ r5 = (5 : Int32) → (r5 = (6 : Int32) → w_213 kc r1 r3 m6 (fun r11 m12 => w_114_171 kc Φ x0 x1 x2 r11 m12)) ∧ (¬ r5 = (6 : Int32) → (r5 = (7 : Int32) → w_213 kc r1 r3 m6 (fun r13 m14 => (r13 = 0 → w_114_159 kc Φ x0 x1 x2 (1 : Int32) m14) ∧ (¬ r13 = 0 → w_114_159 kc Φ x0 x1 x2 (0 : Int32) m14))) ∧ (¬ r5 = (7 : Int32) → w_105 kc (2 : Int32) x1 m6 (fun r15 m16 => Φ r15 m16))))))))))))
/-- GrantBoard$Process.ownsRam(I)Z -/
def w_132_21 (kc : it_Kc) (Φ : Int32 → it_Me → Prop) (u0 : Int32) (m : it_Me) : Prop :=
  (u0 = 0 ∨ u0 = 1) ∧ Φ u0 m
def w_132_20 (kc : it_Kc) (Φ : Int32 → it_Me → Prop) (m : it_Me) : Prop :=
  w_132_21 kc Φ (0 : Int32) m
def w_132 (kc : it_Kc) (k : Nat) (x0 : Int32) (m : it_Me) (Φ : Int32 → it_Me → Prop) : Prop :=
  (x0 < (m k 5) → w_132_20 kc Φ m) ∧ (¬ x0 < (m k 5) → ((m k 7) ≤ x0 → w_132_20 kc Φ m) ∧ (¬ (m k 7) ≤ x0 → w_132_21 kc Φ (1 : Int32) m))
/-- GrantBoard$Process.ownsApp(I)Z -/
def w_133_35 (kc : it_Kc) (Φ : Int32 → it_Me → Prop) (u0 : Int32) (m : it_Me) : Prop :=
  (u0 = 0 ∨ u0 = 1) ∧ Φ u0 m
def w_133_34 (kc : it_Kc) (Φ : Int32 → it_Me → Prop) (m : it_Me) : Prop :=
  w_133_35 kc Φ (0 : Int32) m
def w_133 (kc : it_Kc) (k : Nat) (x0 : Int32) (m : it_Me) (Φ : Int32 → it_Me → Prop) : Prop :=
  (x0 < (m (k + 1) 1) → w_133_34 kc Φ m) ∧ (¬ x0 < (m (k + 1) 1) → (((m (k + 1) 1) + (m (k + 1) 3)) ≤ x0 → w_133_34 kc Φ m) ∧ (¬ ((m (k + 1) 1) + (m (k + 1) 3)) ≤ x0 → w_133_35 kc Φ (1 : Int32) m))
/-- GrantBoard$Machine.load(LGrantBoard$Process;II)I -/
def w_115_18 (kc : it_Kc) (Φ : Int32 → it_Me → Prop) (v2 : Int32) (m : it_Me) : Prop :=
  w_105 kc (2 : Int32) v2 m (fun r1 m2 => Φ r1 m2)
def w_115_85 (kc : it_Kc) (Φ : Int32 → it_Me → Prop) (v1 : Nat) (v2 : Int32) (v3 : Int32) (v4 : Int32) (v5 : Int32) (m : it_Me) : Prop :=
  (v4 = (0 : Int32) → w_16 kc v5 m (fun r1 m2 => w_107 kc v1 v2 (it_i2b r1) v3 m2 (fun r3 m4 => Φ r3 m4))) ∧ (¬ v4 = (0 : Int32) → (v4 = (1 : Int32) → w_14 kc v5 m (fun r5 m6 => w_107 kc v1 v2 (it_i2s r5) v3 m6 (fun r7 m8 => Φ r7 m8))) ∧ (¬ v4 = (1 : Int32) → (v4 = (2 : Int32) → w_12 kc v5 m (fun r9 m10 => w_107 kc v1 v2 r9 v3 m10 (fun r11 m12 => Φ r11 m12))) ∧ (¬ v4 = (2 : Int32) → (v4 = (3 : Int32) → w_14 kc v5 m (fun r13 m14 => w_107 kc v1 v2 r13 v3 m14 (fun r15 m16 => Φ r15 m16))) ∧ (¬ v4 = (3 : Int32) → (v4 = (4 : Int32) → w_16 kc v5 m (fun r17 m18 => w_107 kc v1 v2 r17 v3 m18 (fun r19 m20 => Φ r19 m20))) ∧ (¬ v4 = (4 : Int32) → w_14 kc v5 m (fun r21 m22 => w_107 kc v1 v2 r21 v3 m22 (fun r23 m24 => Φ r23 m24)))))))
def w_115 (kc : it_Kc) (x0 : Nat) (x1 : Int32) (x2 : Int32) (m : it_Me) (Φ : Int32 → it_Me → Prop) : Prop :=
  w_108 kc x1 m (fun r1 m2 => (r1 = (3 : Int32) → w_115_18 kc Φ x1 m2) ∧ (¬ r1 = (3 : Int32) → (r1 ≤ (5 : Int32) → w_109 kc x0 x1 m2 (fun r3 m4 => (((r3 + (it_shr x1 (20 : Int32))) &&& ((it_shl (1 : Int32) (r1 &&& (3 : Int32))) - (1 : Int32))) = 0 → w_132 kc x0 (r3 + (it_shr x1 (20 : Int32))) m4 (fun r5 m6 => (r5 = 0 → w_133 kc x0 (r3 + (it_shr x1 (20 : Int32))) m6 (fun r7 m8 => (r7 = 0 → w_105 kc (5 : Int32) (r3 + (it_shr x1 (20 : Int32))) m8 (fun r9 m10 => Φ r9 m10)) ∧ (¬ r7 = 0 → w_115_85 kc Φ x0 x1 x2 r1 (r3 + (it_shr x1 (20 : Int32))) m8))) ∧ (¬ r5 = 0 → w_115_85 kc Φ x0 x1 x2 r1 (r3 + (it_shr x1 (20 : Int32))) m6))) ∧ (¬ ((r3 + (it_shr x1 (20 : Int32))) &&& ((it_shl (1 : Int32) (r1 &&& (3 : Int32))) - (1 : Int32))) = 0 → w_105 kc (4 : Int32) (r3 + (it_shr x1 (20 : Int32))) m4 (fun r11 m12 => Φ r11 m12)))) ∧ (¬ r1 ≤ (5 : Int32) → w_115_18 kc Φ x1 m2)))
/-- GrantBoard$Machine.save(LGrantBoard$Process;II)I -/
def w_116_137 (kc : it_Kc) (Φ : Int32 → it_Me → Prop) (v1 : Nat) (v3 : Int32) (m : it_Me) : Prop :=
  Φ (0 : Int32) (it_sv m v1 3 v3)
def w_116 (kc : it_Kc) (x0 : Nat) (x1 : Int32) (x2 : Int32) (m : it_Me) (Φ : Int32 → it_Me → Prop) : Prop :=
  w_108 kc x1 m (fun r1 m2 => (r1 ≤ (2 : Int32) → w_109 kc x0 x1 m2 (fun r3 m4 => (((r3 + ((it_shl (it_shr x1 (25 : Int32)) (5 : Int32)) ||| ((it_us x1 (7 : Int32)) &&& (31 : Int32)))) &&& ((it_shl (1 : Int32) r1) - (1 : Int32))) = 0 → w_132 kc x0 (r3 + ((it_shl (it_shr x1 (25 : Int32)) (5 : Int32)) ||| ((it_us x1 (7 : Int32)) &&& (31 : Int32)))) m4 (fun r5 m6 => (r5 = 0 → w_105 kc (7 : Int32) (r3 + ((it_shl (it_shr x1 (25 : Int32)) (5 : Int32)) ||| ((it_us x1 (7 : Int32)) &&& (31 : Int32)))) m6 (fun r7 m8 => Φ r7 m8)) ∧ (¬ r5 = 0 → w_110 kc x0 x1 m6 (fun r9 m10 => (r1 = 0 → w_17 kc (r3 + ((it_shl (it_shr x1 (25 : Int32)) (5 : Int32)) ||| ((it_us x1 (7 : Int32)) &&& (31 : Int32)))) r9 m10 (fun m11 => w_116_137 kc Φ x0 x2 m11)) ∧ (¬ r1 = 0 → (r1 = (1 : Int32) → w_15 kc (r3 + ((it_shl (it_shr x1 (25 : Int32)) (5 : Int32)) ||| ((it_us x1 (7 : Int32)) &&& (31 : Int32)))) r9 m10 (fun m12 => w_116_137 kc Φ x0 x2 m12)) ∧ (¬ r1 = (1 : Int32) → w_13 kc (r3 + ((it_shl (it_shr x1 (25 : Int32)) (5 : Int32)) ||| ((it_us x1 (7 : Int32)) &&& (31 : Int32)))) r9 m10 (fun m13 => w_116_137 kc Φ x0 x2 m13))))))) ∧ (¬ ((r3 + ((it_shl (it_shr x1 (25 : Int32)) (5 : Int32)) ||| ((it_us x1 (7 : Int32)) &&& (31 : Int32)))) &&& ((it_shl (1 : Int32) r1) - (1 : Int32))) = 0 → w_105 kc (6 : Int32) (r3 + ((it_shl (it_shr x1 (25 : Int32)) (5 : Int32)) ||| ((it_us x1 (7 : Int32)) &&& (31 : Int32)))) m4 (fun r14 m15 => Φ r14 m15)))) ∧ (¬ r1 ≤ (2 : Int32) → w_105 kc (2 : Int32) x1 m2 (fun r16 m17 => Φ r16 m17)))
/-- GrantBoard$Machine.compute(IZII)I -/
def w_119_57 (kc : it_Kc) (Φ : Int32 → it_Me → Prop) (u0 : Int32) (m : it_Me) : Prop :=
  Φ u0 m
def w_119_75 (kc : it_Kc) (Φ : Int32 → it_Me → Prop) (u0 : Int32) (m : it_Me) : Prop :=
  Φ u0 m
def w_119_89 (kc : it_Kc) (Φ : Int32 → it_Me → Prop) (u0 : Int32) (m : it_Me) : Prop :=
  Φ u0 m
def w_119_113 (kc : it_Kc) (Φ : Int32 → it_Me → Prop) (u0 : Int32) (m : it_Me) : Prop :=
  Φ u0 m
def w_119 (kc : it_Kc) (x0 : Int32) (x1 : Int32) (x2 : Int32) (x3 : Int32) (m : it_Me) (Φ : Int32 → it_Me → Prop) : Prop :=
  (x0 = (0 : Int32) → (x1 = 0 → w_119_57 kc Φ (x2 + x3) m) ∧ (¬ x1 = 0 → w_119_57 kc Φ (x2 - x3) m)) ∧ (¬ x0 = (0 : Int32) → (x0 = (1 : Int32) → Φ (it_shl x2 (x3 &&& (31 : Int32))) m) ∧ (¬ x0 = (1 : Int32) → (x0 = (2 : Int32) → (x3 ≤ x2 → w_119_75 kc Φ (0 : Int32) m) ∧ (¬ x3 ≤ x2 → w_119_75 kc Φ (1 : Int32) m)) ∧ (¬ x0 = (2 : Int32) → (x0 = (3 : Int32) → w_213 kc x2 x3 m (fun r1 m2 => (r1 = 0 → w_119_89 kc Φ (0 : Int32) m2) ∧ (¬ r1 = 0 → w_119_89 kc Φ (1 : Int32) m2))) ∧ (¬ x0 = (3 : Int32) → (x0 = (4 : Int32) → Φ (x2 ^^^ x3) m) ∧ (¬ x0 = (4 : Int32) → (x0 = (5 : Int32) → (x1 = 0 → w_119_113 kc Φ (it_us x2 (x3 &&& (31 : Int32))) m) ∧ (¬ x1 = 0 → w_119_113 kc Φ (it_shr x2 (x3 &&& (31 : Int32))) m)) ∧ (¬ x0 = (5 : Int32) → (x0 = (6 : Int32) → Φ (x2 ||| x3) m) ∧ (¬ x0 = (6 : Int32) → Φ (x2 &&& x3) m)))))))
/-- GrantBoard$Machine.operateImmediate(LGrantBoard$Process;II)I -/
def w_117_41 (kc : it_Kc) (Φ : Int32 → it_Me → Prop) (v2 : Int32) (m : it_Me) : Prop :=
  w_105 kc (2 : Int32) v2 m (fun r1 m2 => Φ r1 m2)
def w_117_66 (kc : it_Kc) (Φ : Int32 → it_Me → Prop) (v1 : Nat) (v2 : Int32) (v3 : Int32) (v4 : Int32) (u0 : Int32) (m : it_Me) : Prop :=
  w_109 kc v1 v2 m (fun r1 m2 => w_119 kc v4 u0 r1 (it_shr v2 (20 : Int32)) m2 (fun r3 m4 => w_107 kc v1 v2 r3 v3 m4 (fun r5 m6 => Φ r5 m6)))
def w_117_65 (kc : it_Kc) (Φ : Int32 → it_Me → Prop) (v1 : Nat) (v2 : Int32) (v3 : Int32) (v4 : Int32) (m : it_Me) : Prop :=
  w_117_66 kc Φ v1 v2 v3 v4 (0 : Int32) m
def w_117_48 (kc : it_Kc) (Φ : Int32 → it_Me → Prop) (v1 : Nat) (v2 : Int32) (v3 : Int32) (v4 : Int32) (v5 : Int32) (m : it_Me) : Prop :=
  (v4 = (5 : Int32) → (v5 = (32 : Int32) → w_117_66 kc Φ v1 v2 v3 v4 (1 : Int32) m) ∧ (¬ v5 = (32 : Int32) → w_117_65 kc Φ v1 v2 v3 v4 m)) ∧ (¬ v4 = (5 : Int32) → w_117_65 kc Φ v1 v2 v3 v4 m)
def w_117_23 (kc : it_Kc) (Φ : Int32 → it_Me → Prop) (v1 : Nat) (v2 : Int32) (v3 : Int32) (v4 : Int32) (v5 : Int32) (m : it_Me) : Prop :=
  (v4 = (5 : Int32) → (v5 = 0 → w_117_48 kc Φ v1 v2 v3 v4 v5 m) ∧ (¬ v5 = 0 → (v5 = (32 : Int32) → w_117_48 kc Φ v1 v2 v3 v4 v5 m) ∧ (¬ v5 = (32 : Int32) → w_117_41 kc Φ v2 m))) ∧ (¬ v4 = (5 : Int32) → w_117_48 kc Φ v1 v2 v3 v4 v5 m)
def w_117 (kc : it_Kc) (x0 : Nat) (x1 : Int32) (x2 : Int32) (m : it_Me) (Φ : Int32 → it_Me → Prop) : Prop :=
  w_108 kc x1 m (fun r1 m2 => (r1 = (1 : Int32) → ((it_us x1 (25 : Int32)) = 0 → w_117_23 kc Φ x0 x1 x2 r1 (it_us x1 (25 : Int32)) m2) ∧ (¬ (it_us x1 (25 : Int32)) = 0 → w_117_41 kc Φ x1 m2)) ∧ (¬ r1 = (1 : Int32) → w_117_23 kc Φ x0 x1 x2 r1 (it_us x1 (25 : Int32)) m2))
/-- GrantBoard$Machine.multiply(III)I -/
def w_120_104 (kc : it_Kc) (Φ : Int32 → it_Me → Prop) (u0 : Int32) (m : it_Me) : Prop :=
  Φ u0 m
def w_120_118 (kc : it_Kc) (Φ : Int32 → it_Me → Prop) (u0 : Int32) (m : it_Me) : Prop :=
  Φ u0 m
def w_120_130 (kc : it_Kc) (Φ : Int32 → it_Me → Prop) (u0 : Int32) (m : it_Me) : Prop :=
  Φ u0 m
def w_120_144 (kc : it_Kc) (Φ : Int32 → it_Me → Prop) (u0 : Int32) (m : it_Me) : Prop :=
  Φ u0 m
def w_120 (kc : it_Kc) (x0 : Int32) (x1 : Int32) (x2 : Int32) (m : it_Me) (Φ : Int32 → it_Me → Prop) : Prop :=
  (x0 = (0 : Int32) → Φ (x1 * x2) m) ∧ (¬ x0 = (0 : Int32) → (x0 = (1 : Int32) → Φ (Int64.toInt32 (it_lshr ((Int32.toInt64 x1) * (Int32.toInt64 x2)) (32 : Int32))) m) ∧ (¬ x0 = (1 : Int32) → (x0 = (2 : Int32) → Φ (Int64.toInt32 (it_lshr ((Int32.toInt64 x1) * ((Int32.toInt64 x2) &&& (4294967295 : Int64))) (32 : Int32))) m) ∧ (¬ x0 = (2 : Int32) → (x0 = (3 : Int32) → Φ (Int64.toInt32 (it_lus (((Int32.toInt64 x1) &&& (4294967295 : Int64)) * ((Int32.toInt64 x2) &&& (4294967295 : Int64))) (32 : Int32))) m) ∧ (¬ x0 = (3 : Int32) → (x0 = (4 : Int32) → (x2 = 0 → w_120_104 kc Φ (-1 : Int32) m) ∧ (¬ x2 = 0 → ¬ x2 = 0 ∧ (w_120_104 kc Φ (x1 / x2) m))) ∧ (¬ x0 = (4 : Int32) → (x0 = (5 : Int32) → (x2 = 0 → w_120_118 kc Φ (-1 : Int32) m) ∧ (¬ x2 = 0 → ¬ ((Int32.toInt64 x2) &&& (4294967295 : Int64)) = 0 ∧ (w_120_118 kc Φ (Int64.toInt32 (((Int32.toInt64 x1) &&& (4294967295 : Int64)) / ((Int32.toInt64 x2) &&& (4294967295 : Int64)))) m))) ∧ (¬ x0 = (5 : Int32) → (x0 = (6 : Int32) → (x2 = 0 → w_120_130 kc Φ x1 m) ∧ (¬ x2 = 0 → ¬ x2 = 0 ∧ (w_120_130 kc Φ (it_rem x1 x2) m))) ∧ (¬ x0 = (6 : Int32) → (x2 = 0 → w_120_144 kc Φ x1 m) ∧ (¬ x2 = 0 → ¬ ((Int32.toInt64 x2) &&& (4294967295 : Int64)) = 0 ∧ (w_120_144 kc Φ (Int64.toInt32 (it_lrem ((Int32.toInt64 x1) &&& (4294967295 : Int64)) ((Int32.toInt64 x2) &&& (4294967295 : Int64)))) m)))))))))
/-- GrantBoard$Machine.operate(LGrantBoard$Process;II)I -/
def w_118_71 (kc : it_Kc) (Φ : Int32 → it_Me → Prop) (v2 : Int32) (m : it_Me) : Prop :=
  w_105 kc (2 : Int32) v2 m (fun r1 m2 => Φ r1 m2)
def w_118_94 (kc : it_Kc) (Φ : Int32 → it_Me → Prop) (v3 : Int32) (v6 : Int32) (v7 : Int32) (u0 : Nat) (u1 : Int32) (u2 : Int32) (u3 : Int32) (m : it_Me) : Prop :=
  w_119 kc u2 u3 v6 v7 m (fun r1 m2 => w_107 kc u0 u1 r1 v3 m2 (fun r3 m4 => Φ r3 m4))
def w_118_78 (kc : it_Kc) (Φ : Int32 → it_Me → Prop) (v1 : Nat) (v2 : Int32) (v3 : Int32) (v4 : Int32) (v5 : Int32) (v6 : Int32) (v7 : Int32) (m : it_Me) : Prop :=
  (v5 = (32 : Int32) → w_118_94 kc Φ v3 v6 v7 v1 v2 v4 (1 : Int32) m) ∧ (¬ v5 = (32 : Int32) → w_118_94 kc Φ v3 v6 v7 v1 v2 v4 (0 : Int32) m)
def w_118 (kc : it_Kc) (x0 : Nat) (x1 : Int32) (x2 : Int32) (m : it_Me) (Φ : Int32 → it_Me → Prop) : Prop :=
  w_108 kc x1 m (fun r1 m2 => w_109 kc x0 x1 m2 (fun r3 m4 => w_110 kc x0 x1 m4 (fun r5 m6 => ((it_us x1 (25 : Int32)) = (1 : Int32) → w_120 kc r1 r3 r5 m6 (fun r7 m8 => w_107 kc x0 x1 r7 x2 m8 (fun r9 m10 => Φ r9 m10))) ∧ (¬ (it_us x1 (25 : Int32)) = (1 : Int32) → ((it_us x1 (25 : Int32)) = 0 → w_118_78 kc Φ x0 x1 x2 r1 (it_us x1 (25 : Int32)) r3 r5 m6) ∧ (¬ (it_us x1 (25 : Int32)) = 0 → ((it_us x1 (25 : Int32)) = (32 : Int32) → (r1 = 0 → w_118_78 kc Φ x0 x1 x2 r1 (it_us x1 (25 : Int32)) r3 r5 m6) ∧ (¬ r1 = 0 → (r1 = (5 : Int32) → w_118_78 kc Φ x0 x1 x2 r1 (it_us x1 (25 : Int32)) r3 r5 m6) ∧ (¬ r1 = (5 : Int32) → w_118_71 kc Φ x1 m6))) ∧ (¬ (it_us x1 (25 : Int32)) = (32 : Int32) → w_118_71 kc Φ x1 m6))))))
/-- GrantBoard$Machine.saveReserved(LGrantBoard$Process;II)I -/
def w_122_59 (kc : it_Kc) (Φ : Int32 → it_Me → Prop) (v3 : Int32) (u0 : Nat) (u1 : Int32) (u2 : Int32) (m : it_Me) : Prop :=
  w_107 kc u0 u1 u2 v3 m (fun r1 m2 => Φ r1 m2)
def w_122_42 (kc : it_Kc) (Φ : Int32 → it_Me → Prop) (v1 : Nat) (v2 : Int32) (v3 : Int32) (v5 : Int32) (m : it_Me) : Prop :=
  (v5 = 0 → w_122_59 kc Φ v3 v1 v2 (1 : Int32) (it_sv m v1 4 (1 : Int32))) ∧ (¬ v5 = 0 → w_122_59 kc Φ v3 v1 v2 (0 : Int32) (it_sv m v1 4 (1 : Int32)))
def w_122_21 (kc : it_Kc) (Φ : Int32 → it_Me → Prop) (v1 : Nat) (v2 : Int32) (v3 : Int32) (v4 : Int32) (u0 : Int32) (m : it_Me) : Prop :=
  (u0 = 0 → w_122_42 kc Φ v1 v2 v3 u0 m) ∧ (¬ u0 = 0 → w_110 kc v1 v2 m (fun r1 m2 => w_13 kc v4 r1 m2 (fun m3 => w_122_42 kc Φ v1 v2 v3 u0 m3)))
def w_122 (kc : it_Kc) (x0 : Nat) (x1 : Int32) (x2 : Int32) (m : it_Me) (Φ : Int32 → it_Me → Prop) : Prop :=
  w_109 kc x0 x1 m (fun r1 m2 => ((m2 x0 4) = r1 → w_122_21 kc Φ x0 x1 x2 r1 (1 : Int32) m2) ∧ (¬ (m2 x0 4) = r1 → w_122_21 kc Φ x0 x1 x2 r1 (0 : Int32) m2))
/-- GrantBoard$Machine.combine(III)I -/
def w_123_173 (kc : it_Kc) (Φ : Int32 → it_Me → Prop) (u0 : Int32) (m : it_Me) : Prop :=
  Φ u0 m
def w_123_187 (kc : it_Kc) (Φ : Int32 → it_Me → Prop) (u0 : Int32) (m : it_Me) : Prop :=
  Φ u0 m
def w_123 (kc : it_Kc) (x0 : Int32) (x1 : Int32) (x2 : Int32) (m : it_Me) (Φ : Int32 → it_Me → Prop) : Prop :=
  (x0 = (0 : Int32) → Φ (x1 + x2) m) ∧ (¬ x0 = (0 : Int32) → (x0 = (1 : Int32) → Φ x2 m) ∧ (¬ x0 = (1 : Int32) → (x0 = (2 : Int32) → Φ x2 m) ∧ (¬ x0 = (2 : Int32) → (x0 = (3 : Int32) → Φ x2 m) ∧ (¬ x0 = (3 : Int32) → (x0 = (4 : Int32) → Φ (x1 ^^^ x2) m) ∧ (¬ x0 = (4 : Int32) → (x0 = (5 : Int32) → Φ x2 m) ∧ (¬ x0 = (5 : Int32) → (x0 = (6 : Int32) → Φ x2 m) ∧ (¬ x0 = (6 : Int32) → (x0 = (7 : Int32) → Φ x2 m) ∧ (¬ x0 = (7 : Int32) → (x0 = (8 : Int32) → Φ (x1 ||| x2) m) ∧ (¬ x0 = (8 : Int32) → (x0 = (9 : Int32) → Φ x2 m) ∧ (¬ x0 = (9 : Int32) → (x0 = (10 : Int32) → Φ x2 m) ∧ (¬ x0 = (10 : Int32) → (x0 = (11 : Int32) → Φ x2 m) ∧ (¬ x0 = (11 : Int32) → (x0 = (12 : Int32) → Φ (x1 &&& x2) m) ∧ (¬ x0 = (12 : Int32) → (x0 = (13 : Int32) → Φ x2 m) ∧ (¬ x0 = (13 : Int32) → (x0 = (14 : Int32) → Φ x2 m) ∧ (¬ x0 = (14 : Int32) → (x0 = (15 : Int32) → Φ x2 m) ∧ (¬ x0 = (15 : Int32) → (x0 = (16 : Int32) → Φ (it_min x1 x2) m) ∧ (¬ x0 = (16 : Int32) → (x0 = (17 : Int32) → Φ x2 m) ∧ (¬ x0 = (17 : Int32) → (x0 = (18 : Int32) → Φ x2 m) ∧ (¬ x0 = (18 : Int32) → (x0 = (19 : Int32) → Φ x2 m) ∧ (¬ x0 = (19 : Int32) → (x0 = (20 : Int32) → Φ (it_max x1 x2) m) ∧ (¬ x0 = (20 : Int32) → (x0 = (21 : Int32) → Φ x2 m) ∧ (¬ x0 = (21 : Int32) → (x0 = (22 : Int32) → Φ x2 m) ∧ (¬ x0 = (22 : Int32) → (x0 = (23 : Int32) → Φ x2 m) ∧ (¬ x0 = (23 : Int32) → (x0 = (24 : Int32) → w_213 kc x1 x2 m (fun r1 m2 => (r1 = 0 → w_123_173 kc Φ x2 m2) ∧ (¬ r1 = 0 → w_123_173 kc Φ x1 m2))) ∧ (¬ x0 = (24 : Int32) → (x0 = (25 : Int32) → Φ x2 m) ∧ (¬ x0 = (25 : Int32) → (x0 = (26 : Int32) → Φ x2 m) ∧ (¬ x0 = (26 : Int32) → (x0 = (27 : Int32) → Φ x2 m) ∧ (¬ x0 = (27 : Int32) → (x0 = (28 : Int32) → w_213 kc x1 x2 m (fun r3 m4 => (r3 = 0 → w_123_187 kc Φ x1 m4) ∧ (¬ r3 = 0 → w_123_187 kc Φ x2 m4))) ∧ (¬ x0 = (28 : Int32) → Φ x2 m)))))))))))))))))))))))))))))
/-- GrantBoard$Machine.doAtomic(LGrantBoard$Process;II)I -/
def w_121_55 (kc : it_Kc) (Φ : Int32 → it_Me → Prop) (v2 : Int32) (m : it_Me) : Prop :=
  w_105 kc (2 : Int32) v2 m (fun r1 m2 => Φ r1 m2)
def w_121_101 (kc : it_Kc) (Φ : Int32 → it_Me → Prop) (v6 : Int32) (u1 : Int32) (m : it_Me) : Prop :=
  w_105 kc u1 v6 m (fun r1 m2 => Φ r1 m2)
def w_121_142 (kc : it_Kc) (Φ : Int32 → it_Me → Prop) (v6 : Int32) (u1 : Int32) (m : it_Me) : Prop :=
  w_105 kc u1 v6 m (fun r1 m2 => Φ r1 m2)
def w_121_130 (kc : it_Kc) (Φ : Int32 → it_Me → Prop) (v6 : Int32) (v7 : Int32) (m : it_Me) : Prop :=
  (v7 = 0 → w_121_142 kc Φ v6 (7 : Int32) m) ∧ (¬ v7 = 0 → w_121_142 kc Φ v6 (5 : Int32) m)
def w_121_148 (kc : it_Kc) (Φ : Int32 → it_Me → Prop) (v1 : Nat) (v2 : Int32) (v3 : Int32) (v4 : Int32) (v6 : Int32) (v7 : Int32) (m : it_Me) : Prop :=
  (v7 = 0 → (v4 = (3 : Int32) → w_122 kc v1 v2 v3 m (fun r1 m2 => Φ r1 m2)) ∧ (¬ v4 = (3 : Int32) → w_12 kc v6 m (fun r3 m4 => w_110 kc v1 v2 m4 (fun r5 m6 => w_123 kc v4 r3 r5 m6 (fun r7 m8 => w_13 kc v6 r7 m8 (fun m9 => w_107 kc v1 v2 r3 v3 m9 (fun r10 m11 => Φ r10 m11))))))) ∧ (¬ v7 = 0 → w_12 kc v6 (it_sv m v1 4 v6) (fun r12 m13 => w_107 kc v1 v2 r12 v3 m13 (fun r14 m15 => Φ r14 m15)))
def w_121_80 (kc : it_Kc) (Φ : Int32 → it_Me → Prop) (v1 : Nat) (v2 : Int32) (v3 : Int32) (v4 : Int32) (v6 : Int32) (u0 : Int32) (m : it_Me) : Prop :=
  ((v6 &&& (3 : Int32)) = 0 → w_132 kc v1 v6 m (fun r1 m2 => (r1 = 0 → (u0 = 0 → w_121_130 kc Φ v6 u0 m2) ∧ (¬ u0 = 0 → w_133 kc v1 v6 m2 (fun r3 m4 => (r3 = 0 → w_121_130 kc Φ v6 u0 m4) ∧ (¬ r3 = 0 → w_121_148 kc Φ v1 v2 v3 v4 v6 u0 m4)))) ∧ (¬ r1 = 0 → w_121_148 kc Φ v1 v2 v3 v4 v6 u0 m2))) ∧ (¬ (v6 &&& (3 : Int32)) = 0 → (u0 = 0 → w_121_101 kc Φ v6 (6 : Int32) m) ∧ (¬ u0 = 0 → w_121_101 kc Φ v6 (4 : Int32) m))
def w_121_62 (kc : it_Kc) (Φ : Int32 → it_Me → Prop) (v1 : Nat) (v2 : Int32) (v3 : Int32) (v4 : Int32) (m : it_Me) : Prop :=
  w_109 kc v1 v2 m (fun r1 m2 => (v4 = (2 : Int32) → w_121_80 kc Φ v1 v2 v3 v4 r1 (1 : Int32) m2) ∧ (¬ v4 = (2 : Int32) → w_121_80 kc Φ v1 v2 v3 v4 r1 (0 : Int32) m2))
def w_121_24 (kc : it_Kc) (Φ : Int32 → it_Me → Prop) (v1 : Nat) (v2 : Int32) (v3 : Int32) (v4 : Int32) (u0 : Int32) (m : it_Me) : Prop :=
  w_108 kc v2 m (fun r1 m2 => (r1 = (2 : Int32) → (u0 = 0 → w_121_55 kc Φ v2 m2) ∧ (¬ u0 = 0 → (v4 = (2 : Int32) → (((it_us v2 (20 : Int32)) &&& (31 : Int32)) = 0 → w_121_62 kc Φ v1 v2 v3 v4 m2) ∧ (¬ ((it_us v2 (20 : Int32)) &&& (31 : Int32)) = 0 → w_121_55 kc Φ v2 m2)) ∧ (¬ v4 = (2 : Int32) → w_121_62 kc Φ v1 v2 v3 v4 m2))) ∧ (¬ r1 = (2 : Int32) → w_121_55 kc Φ v2 m2))
def w_121_19 (kc : it_Kc) (Φ : Int32 → it_Me → Prop) (v1 : Nat) (v2 : Int32) (v3 : Int32) (v4 : Int32) (m : it_Me) : Prop :=
  w_121_24 kc Φ v1 v2 v3 v4 (1 : Int32) m
def w_121 (kc : it_Kc) (x0 : Nat) (x1 : Int32) (x2 : Int32) (m : it_Me) (Φ : Int32 → it_Me → Prop) : Prop :=
  ((it_us x1 (27 : Int32)) < (4 : Int32) → w_121_19 kc Φ x0 x1 x2 (it_us x1 (27 : Int32)) m) ∧ (¬ (it_us x1 (27 : Int32)) < (4 : Int32) → (((it_us x1 (27 : Int32)) &&& (3 : Int32)) = 0 → w_121_19 kc Φ x0 x1 x2 (it_us x1 (27 : Int32)) m) ∧ (¬ ((it_us x1 (27 : Int32)) &&& (3 : Int32)) = 0 → w_121_24 kc Φ x0 x1 x2 (it_us x1 (27 : Int32)) (0 : Int32) m))
/-- GrantBoard$Machine.fence(LGrantBoard$Process;II)I -/
def w_124 (kc : it_Kc) (x0 : Nat) (x1 : Int32) (x2 : Int32) (m : it_Me) (Φ : Int32 → it_Me → Prop) : Prop :=
  w_108 kc x1 m (fun r1 m2 => (r1 ≤ (1 : Int32) → Φ (0 : Int32) (it_sv m2 x0 3 x2)) ∧ (¬ r1 ≤ (1 : Int32) → w_105 kc (2 : Int32) x1 m2 (fun r3 m4 => Φ r3 m4)))
/-- GrantBoard$Machine.callKernel(LGrantBoard$Process;II)I -/
def w_125_37 (kc : it_Kc) (Φ : Int32 → it_Me → Prop) (u0 : Int32) (m : it_Me) : Prop :=
  Φ u0 m
def w_125 (kc : it_Kc) (x0 : Nat) (x1 : Int32) (x2 : Int32) (m : it_Me) (Φ : Int32 → it_Me → Prop) : Prop :=
  (x1 = (115 : Int32) → Φ (1 : Int32) (it_sv m x0 3 x2)) ∧ (¬ x1 = (115 : Int32) → (x1 = (1048691 : Int32) → w_105 kc (3 : Int32) (m x0 3) m (fun r1 m2 => w_125_37 kc Φ r1 m2)) ∧ (¬ x1 = (1048691 : Int32) → w_105 kc (2 : Int32) x1 m (fun r3 m4 => w_125_37 kc Φ r3 m4)))
/-- GrantBoard$Machine.execute(LGrantBoard$Process;II)I -/
def w_106 (kc : it_Kc) (x0 : Nat) (x1 : Int32) (x2 : Int32) (m : it_Me) (Φ : Int32 → it_Me → Prop) : Prop :=
  ((x1 &&& (127 : Int32)) = (3 : Int32) → w_115 kc x0 x1 x2 m (fun r1 m2 => Φ r1 m2)) ∧ (¬ (x1 &&& (127 : Int32)) = (3 : Int32) → ((x1 &&& (127 : Int32)) = (15 : Int32) → w_124 kc x0 x1 x2 m (fun r3 m4 => Φ r3 m4)) ∧ (¬ (x1 &&& (127 : Int32)) = (15 : Int32) → ((x1 &&& (127 : Int32)) = (19 : Int32) → w_117 kc x0 x1 x2 m (fun r5 m6 => Φ r5 m6)) ∧ (¬ (x1 &&& (127 : Int32)) = (19 : Int32) → ((x1 &&& (127 : Int32)) = (23 : Int32) → w_107 kc x0 x1 ((m x0 3) + (x1 &&& (-4096 : Int32))) x2 m (fun r7 m8 => Φ r7 m8)) ∧ (¬ (x1 &&& (127 : Int32)) = (23 : Int32) → ((x1 &&& (127 : Int32)) = (35 : Int32) → w_116 kc x0 x1 x2 m (fun r9 m10 => Φ r9 m10)) ∧ (¬ (x1 &&& (127 : Int32)) = (35 : Int32) → ((x1 &&& (127 : Int32)) = (47 : Int32) → w_121 kc x0 x1 x2 m (fun r11 m12 => Φ r11 m12)) ∧ (¬ (x1 &&& (127 : Int32)) = (47 : Int32) → ((x1 &&& (127 : Int32)) = (51 : Int32) → w_118 kc x0 x1 x2 m (fun r13 m14 => Φ r13 m14)) ∧ (¬ (x1 &&& (127 : Int32)) = (51 : Int32) → ((x1 &&& (127 : Int32)) = (55 : Int32) → w_107 kc x0 x1 (x1 &&& (-4096 : Int32)) x2 m (fun r15 m16 => Φ r15 m16)) ∧ (¬ (x1 &&& (127 : Int32)) = (55 : Int32) → ((x1 &&& (127 : Int32)) = (99 : Int32) → w_114 kc x0 x1 x2 m (fun r17 m18 => Φ r17 m18)) ∧ (¬ (x1 &&& (127 : Int32)) = (99 : Int32) → ((x1 &&& (127 : Int32)) = (103 : Int32) → w_113 kc x0 x1 x2 m (fun r19 m20 => Φ r19 m20)) ∧ (¬ (x1 &&& (127 : Int32)) = (103 : Int32) → ((x1 &&& (127 : Int32)) = (111 : Int32) → w_111 kc x1 m (fun r21 m22 => w_107 kc x0 x1 x2 ((m x0 3) + r21) m22 (fun r23 m24 => Φ r23 m24))) ∧ (¬ (x1 &&& (127 : Int32)) = (111 : Int32) → ((x1 &&& (127 : Int32)) = (115 : Int32) → w_125 kc x0 x1 x2 m (fun r25 m26 => Φ r25 m26)) ∧ (¬ (x1 &&& (127 : Int32)) = (115 : Int32) → w_105 kc (2 : Int32) x1 m (fun r27 m28 => Φ r27 m28)))))))))))))
/-- GrantBoard$Machine.step(LGrantBoard$Process;)I -/
def w_104_66 (kc : it_Kc) (Φ : Int32 → it_Me → Prop) (u0 : Int32) (m : it_Me) : Prop :=
  Φ u0 m
def w_104 (kc : it_Kc) (x0 : Nat) (m : it_Me) (Φ : Int32 → it_Me → Prop) : Prop :=
  w_133 kc x0 (m x0 3) m (fun r1 m2 => (r1 = 0 → w_105 kc (1 : Int32) (m x0 3) m2 (fun r3 m4 => Φ r3 m4)) ∧ (¬ r1 = 0 → w_14 kc (m x0 3) m2 (fun r5 m6 => ((r5 &&& (3 : Int32)) = (3 : Int32) → w_133 kc x0 ((m x0 3) + (2 : Int32)) m6 (fun r7 m8 => (r7 = 0 → w_105 kc (1 : Int32) ((m x0 3) + (2 : Int32)) m8 (fun r9 m10 => Φ r9 m10)) ∧ (¬ r7 = 0 → w_14 kc ((m x0 3) + (2 : Int32)) m8 (fun r11 m12 => w_106 kc x0 (r5 ||| (it_shl r11 (16 : Int32))) ((m x0 3) + (4 : Int32)) m12 (fun r13 m14 => Φ r13 m14))))) ∧ (¬ (r5 &&& (3 : Int32)) = (3 : Int32) → w_22 kc r5 m6 (fun r15 m16 => (r15 = 0 → w_105 kc (2 : Int32) r5 m16 (fun r17 m18 => w_104_66 kc Φ r17 m18)) ∧ (¬ r15 = 0 → w_106 kc x0 r15 ((m x0 3) + (2 : Int32)) m16 (fun r19 m20 => w_104_66 kc Φ r19 m20)))))))
/-- GrantBoard$Process.canRun()Z -/
def w_130_20 (kc : it_Kc) (Φ : Int32 → it_Me → Prop) (u0 : Int32) (m : it_Me) : Prop :=
  (u0 = 0 ∨ u0 = 1) ∧ Φ u0 m
def w_130_19 (kc : it_Kc) (Φ : Int32 → it_Me → Prop) (m : it_Me) : Prop :=
  w_130_20 kc Φ (0 : Int32) m
def w_130 (kc : it_Kc) (k : Nat) (m : it_Me) (Φ : Int32 → it_Me → Prop) : Prop :=
  ((m k 9) = (1 : Int32) → ((m k 10) = 0 → w_130_20 kc Φ (1 : Int32) m) ∧ (¬ (m k 10) = 0 → w_130_19 kc Φ m)) ∧ (¬ (m k 9) = (1 : Int32) → w_130_19 kc Φ m)
/-- GrantBoard$Process.tell(I)I -/
def w_135 (kc : it_Kc) (k : Nat) (x0 : Int32) (m : it_Me) (Φ : Int32 → it_Me → Prop) : Prop :=
  (x0 = (0 : Int32) → w_134 kc k m (fun r1 m2 => Φ r1 m2)) ∧ (¬ x0 = (0 : Int32) → (x0 = (1 : Int32) → Φ (m k 3) m) ∧ (¬ x0 = (1 : Int32) → (x0 = (2 : Int32) → Φ (m (k + 1) 1) m) ∧ (¬ x0 = (2 : Int32) → (x0 = (3 : Int32) → Φ (m (k + 1) 3) m) ∧ (¬ x0 = (3 : Int32) → (x0 = (4 : Int32) → Φ (m k 5) m) ∧ (¬ x0 = (4 : Int32) → (x0 = (5 : Int32) → Φ (m k 6) m) ∧ (¬ x0 = (5 : Int32) → (x0 = (6 : Int32) → Φ (m k 7) m) ∧ (¬ x0 = (6 : Int32) → (x0 = (7 : Int32) → Φ (m k 8) m) ∧ (¬ x0 = (7 : Int32) → (x0 = (8 : Int32) → Φ (m k 12) m) ∧ (¬ x0 = (8 : Int32) → (x0 = (9 : Int32) → Φ (m k 14) m) ∧ (¬ x0 = (9 : Int32) → (x0 = (10 : Int32) → Φ (m k 18) m) ∧ (¬ x0 = (10 : Int32) → (x0 = (11 : Int32) → Φ (m k 11) m) ∧ (¬ x0 = (11 : Int32) → Φ (m (k + 1) 7) m))))))))))))
/-- GrantBoard$Process.failBack(I)V -/
def w_137 (kc : it_Kc) (k : Nat) (x0 : Int32) (m : it_Me) (Φ : it_Me → Prop) : Prop :=
  vp_in (10 : Int32) 32 ∧ (vp_in (11 : Int32) 32 ∧ (Φ (it_sv (it_sv m (k + 2) (Int32.toNatClampNeg (10 : Int32)) (2 : Int32)) (k + 2) (Int32.toNatClampNeg (11 : Int32)) x0)))
/-- GrantBoard$Process.ok2(II)V -/
def w_140 (kc : it_Kc) (k : Nat) (x0 : Int32) (x1 : Int32) (m : it_Me) (Φ : it_Me → Prop) : Prop :=
  vp_in (10 : Int32) 32 ∧ (vp_in (11 : Int32) 32 ∧ (vp_in (12 : Int32) 32 ∧ (Φ (it_sv (it_sv (it_sv m (k + 2) (Int32.toNatClampNeg (10 : Int32)) (130 : Int32)) (k + 2) (Int32.toNatClampNeg (11 : Int32)) x0) (k + 2) (Int32.toNatClampNeg (12 : Int32)) x1))))
/-- GrantBoard$Process.findUpcall(II)I -/
def w_142_41 (kc : it_Kc) (Φ : Int32 → it_Me → Prop) (K2 : Nat → Int32 → Int32 → Int32 → it_Me → Prop) (K39 : Int32 → it_Me → Prop) (K47 : it_Me → Prop) (v0 : Nat) (v1 : Int32) (v2 : Int32) (v3 : Int32) (m : it_Me) : Prop :=
  K2 v0 v1 v2 (v3 + (1 : Int32)) m
def w_142_2 (kc : it_Kc) (Φ : Int32 → it_Me → Prop) (K39 : Int32 → it_Me → Prop) (K47 : it_Me → Prop) : Nat → Nat → Int32 → Int32 → Int32 → it_Me → Prop
  | 0, _, _, _, _, _ => False
  | n2 + 1, v0, v1, v2, v3, m =>
  ((m v0 14) ≤ v3 → K47 m) ∧ (¬ (m v0 14) ≤ v3 → vp_in (v3 * (5 : Int32)) 50 ∧ (((m (v0 + 3) (Int32.toNatClampNeg (v3 * (5 : Int32)))) = v1 → vp_in ((v3 * (5 : Int32)) + (1 : Int32)) 50 ∧ (((m (v0 + 3) (Int32.toNatClampNeg ((v3 * (5 : Int32)) + (1 : Int32)))) = v2 → K39 v3 m) ∧ (¬ (m (v0 + 3) (Int32.toNatClampNeg ((v3 * (5 : Int32)) + (1 : Int32)))) = v2 → w_142_41 kc Φ (w_142_2 kc Φ K39 K47 n2) K39 K47 v0 v1 v2 v3 m))) ∧ (¬ (m (v0 + 3) (Int32.toNatClampNeg (v3 * (5 : Int32)))) = v1 → w_142_41 kc Φ (w_142_2 kc Φ K39 K47 n2) K39 K47 v0 v1 v2 v3 m)))
def w_142_39 (kc : it_Kc) (Φ : Int32 → it_Me → Prop) (v3 : Int32) (m : it_Me) : Prop :=
  Φ v3 m
def w_142_47 (kc : it_Kc) (Φ : Int32 → it_Me → Prop) (m : it_Me) : Prop :=
  Φ (-1 : Int32) m
def w_142 (kc : it_Kc) (k : Nat) (x0 : Int32) (x1 : Int32) (m : it_Me) (Φ : Int32 → it_Me → Prop) : Prop :=
  ∃ e, w_142_2 kc Φ (fun v3 m => w_142_39 kc Φ v3 m) (fun m => w_142_47 kc Φ m) e k x0 x1 (0 : Int32) m
/-- GrantBoard$Process.removeUpcalls(II)V -/
def w_144_45 (kc : it_Kc) (Φ : it_Me → Prop) (K7 : Nat → Int32 → Int32 → Int32 → it_Me → Prop) (K51 : it_Me → Prop) (v0 : Nat) (v1 : Int32) (v2 : Int32) (v3 : Int32) (m : it_Me) : Prop :=
  K7 v0 v1 v2 (v3 + (-1 : Int32)) m
def w_144_7 (kc : it_Kc) (Φ : it_Me → Prop) (K51 : it_Me → Prop) : Nat → Nat → Int32 → Int32 → Int32 → it_Me → Prop
  | 0, _, _, _, _, _ => False
  | n7 + 1, v0, v1, v2, v3, m =>
  (v3 < 0 → K51 m) ∧ (¬ v3 < 0 → vp_in (v3 * (5 : Int32)) 50 ∧ (((m (v0 + 3) (Int32.toNatClampNeg (v3 * (5 : Int32)))) = v1 → vp_in ((v3 * (5 : Int32)) + (1 : Int32)) 50 ∧ (((m (v0 + 3) (Int32.toNatClampNeg ((v3 * (5 : Int32)) + (1 : Int32)))) = v2 → w_143 kc v0 v3 m (fun m1 => w_144_45 kc Φ (w_144_7 kc Φ K51 n7) K51 v0 v1 v2 v3 m1)) ∧ (¬ (m (v0 + 3) (Int32.toNatClampNeg ((v3 * (5 : Int32)) + (1 : Int32)))) = v2 → w_144_45 kc Φ (w_144_7 kc Φ K51 n7) K51 v0 v1 v2 v3 m))) ∧ (¬ (m (v0 + 3) (Int32.toNatClampNeg (v3 * (5 : Int32)))) = v1 → w_144_45 kc Φ (w_144_7 kc Φ K51 n7) K51 v0 v1 v2 v3 m)))
def w_144_51 (kc : it_Kc) (Φ : it_Me → Prop) (m : it_Me) : Prop :=
  Φ m
def w_144 (kc : it_Kc) (k : Nat) (x0 : Int32) (x1 : Int32) (m : it_Me) (Φ : it_Me → Prop) : Prop :=
  ∃ e, w_144_7 kc Φ (fun m => w_144_51 kc Φ m) e k x0 x1 ((m k 14) - (1 : Int32)) m
/-- GrantBoard$Scheduler.forget()V -/
def w_147_18 (kc : it_Kc) (Φ : it_Me → Prop) (K51 : it_Me → Prop) : Nat → Int32 → it_Me → Prop
  | 0, _, _ => False
  | n18 + 1, v1, m =>
  ((8 : Int32) ≤ v1 → K51 m) ∧ (¬ (8 : Int32) ≤ v1 → vp_in v1 8 ∧ (vp_in v1 8 ∧ (vp_in v1 8 ∧ ((w_147_18 kc Φ K51 n18) (v1 + (1 : Int32)) (it_sv (it_sv (it_sv m 55 (Int32.toNatClampNeg v1) (0 : Int32)) 56 (Int32.toNatClampNeg v1) (0 : Int32)) 57 (Int32.toNatClampNeg v1) v1)))))
def w_147_51 (kc : it_Kc) (Φ : it_Me → Prop) (m : it_Me) : Prop :=
  Φ m
def w_147 (kc : it_Kc) (m : it_Me) (Φ : it_Me → Prop) : Prop :=
  ∃ e, w_147_18 kc Φ (fun m => w_147_51 kc Φ m) e (0 : Int32) (it_sv (it_sv (it_sv m 54 4 (-1 : Int32)) 54 5 (0 : Int32)) 54 9 (7 : Int32))
/-- GrantBoard$Scheduler.reset(II)V -/
def w_146 (kc : it_Kc) (x0 : Int32) (x1 : Int32) (m : it_Me) (Φ : it_Me → Prop) : Prop :=
  w_147 kc (it_sv (it_sv m 54 2 x0) 54 3 x1) (fun m1 => Φ m1)
/-- GrantBoard$Scheduler.begin(LGrantBoard$Process;)LGrantBoard$Process; -/
def w_155 (kc : it_Kc) (x0 : Nat) (m : it_Me) (Φ : Option Nat → it_Me → Prop) : Prop :=
  Φ (some x0) (it_sv (it_sv m 54 4 (m x0 0)) x0 4 (1 : Int32))
/-- GrantBoard$Scheduler.chooseNext()LGrantBoard$Process; -/
def w_149_97 (kc : it_Kc) (Φ : Option Nat → it_Me → Prop) (K48 : Int32 → it_Me → Prop) (K108 : Nat → it_Me → Prop) (K126 : it_Me → Prop) (v2 : Int32) (u1 : Int32) (m : it_Me) : Prop :=
  vp_in u1 8 ∧ (w_130 kc (14 + 5 * Int32.toNatClampNeg u1) m (fun r1 m2 => (r1 = 0 → K48 (v2 + (1 : Int32)) m2) ∧ (¬ r1 = 0 → K108 (14 + 5 * Int32.toNatClampNeg u1) m2)))
def w_149_48 (kc : it_Kc) (Φ : Option Nat → it_Me → Prop) (K108 : Nat → it_Me → Prop) (K126 : it_Me → Prop) : Nat → Int32 → it_Me → Prop
  | 0, _, _ => False
  | n48 + 1, v2, m =>
  ((m 9 7) < v2 → K126 m) ∧ (¬ (m 9 7) < v2 → ((m 9 7) ≤ ((m 54 4) + v2) → w_149_97 kc Φ (w_149_48 kc Φ K108 K126 n48) K108 K126 v2 (((m 54 4) + v2) - (m 9 7)) m) ∧ (¬ (m 9 7) ≤ ((m 54 4) + v2) → w_149_97 kc Φ (w_149_48 kc Φ K108 K126 n48) K108 K126 v2 ((m 54 4) + v2) m))
def w_149_108 (kc : it_Kc) (Φ : Option Nat → it_Me → Prop) (v4 : Nat) (m : it_Me) : Prop :=
  w_155 kc v4 (it_sv m 54 5 (1 : Int32)) (fun r1 m2 => Φ r1 m2)
def w_149_126 (kc : it_Kc) (Φ : Option Nat → it_Me → Prop) (m : it_Me) : Prop :=
  Φ none m
def w_149_46 (kc : it_Kc) (Φ : Option Nat → it_Me → Prop) (m : it_Me) : Prop :=
  ∃ e, w_149_48 kc Φ (fun v4 m => w_149_108 kc Φ v4 m) (fun m => w_149_126 kc Φ m) e (1 : Int32) m
def w_149 (kc : it_Kc) (m : it_Me) (Φ : Option Nat → it_Me → Prop) : Prop :=
  w_72 kc (m 54 4) m (fun r1 m2 => (r1 = none → w_149_46 kc Φ m2) ∧ (∀ q3, r1 = some q3 → w_130 kc q3 m2 (fun r4 m5 => (r4 = 0 → w_149_46 kc Φ m5) ∧ (¬ r4 = 0 → ((m5 54 3) ≤ (m5 54 5) → w_149_46 kc Φ m5) ∧ (¬ (m5 54 3) ≤ (m5 54 5) → Φ (some q3) (it_sv m5 54 5 ((m5 54 5) + (1 : Int32))))))))
/-- GrantBoard$Scheduler.chooseFirst()LGrantBoard$Process; -/
def w_150_2 (kc : it_Kc) (Φ : Option Nat → it_Me → Prop) (K30 : Nat → it_Me → Prop) (K57 : it_Me → Prop) : Nat → Int32 → it_Me → Prop
  | 0, _, _ => False
  | n2 + 1, v1, m =>
  ((m 9 7) ≤ v1 → K57 m) ∧ (¬ (m 9 7) ≤ v1 → vp_in v1 8 ∧ (w_130 kc (14 + 5 * Int32.toNatClampNeg v1) m (fun r1 m2 => (r1 = 0 → (w_150_2 kc Φ K30 K57 n2) (v1 + (1 : Int32)) m2) ∧ (¬ r1 = 0 → K30 (14 + 5 * Int32.toNatClampNeg v1) m2))))
def w_150_50 (kc : it_Kc) (Φ : Option Nat → it_Me → Prop) (u0 : Option Nat) (m : it_Me) : Prop :=
  Φ u0 m
def w_150_30 (kc : it_Kc) (Φ : Option Nat → it_Me → Prop) (v2 : Nat) (m : it_Me) : Prop :=
  ((m v2 0) = (m 54 4) → w_150_50 kc Φ (some v2) m) ∧ (¬ (m v2 0) = (m 54 4) → w_155 kc v2 m (fun r1 m2 => w_150_50 kc Φ r1 m2))
def w_150_57 (kc : it_Kc) (Φ : Option Nat → it_Me → Prop) (m : it_Me) : Prop :=
  Φ none m
def w_150 (kc : it_Kc) (m : it_Me) (Φ : Option Nat → it_Me → Prop) : Prop :=
  ∃ e, w_150_2 kc Φ (fun v2 m => w_150_30 kc Φ v2 m) (fun m => w_150_57 kc Φ m) e (0 : Int32) m
/-- GrantBoard$Scheduler.someCanRun()Z -/
def w_152_2 (kc : it_Kc) (Φ : Int32 → it_Me → Prop) (K28 : it_Me → Prop) (K36 : it_Me → Prop) : Nat → Int32 → it_Me → Prop
  | 0, _, _ => False
  | n2 + 1, v1, m =>
  ((m 9 7) ≤ v1 → K36 m) ∧ (¬ (m 9 7) ≤ v1 → vp_in v1 8 ∧ (w_130 kc (14 + 5 * Int32.toNatClampNeg v1) m (fun r1 m2 => (r1 = 0 → (w_152_2 kc Φ K28 K36 n2) (v1 + (1 : Int32)) m2) ∧ (¬ r1 = 0 → K28 m2))))
def w_152_28 (kc : it_Kc) (Φ : Int32 → it_Me → Prop) (m : it_Me) : Prop :=
  Φ (1 : Int32) m
def w_152_36 (kc : it_Kc) (Φ : Int32 → it_Me → Prop) (m : it_Me) : Prop :=
  Φ (0 : Int32) m
def w_152 (kc : it_Kc) (m : it_Me) (Φ : Int32 → it_Me → Prop) : Prop :=
  ∃ e, w_152_2 kc Φ (fun m => w_152_28 kc Φ m) (fun m => w_152_36 kc Φ m) e (0 : Int32) m
/-- GrantBoard$Scheduler.endTurn(Z)V -/
def w_153_38 (kc : it_Kc) (Φ : it_Me → Prop) (m : it_Me) : Prop :=
  vp_in ((it_sv m 54 9 ((m 54 9) + (1 : Int32))) 54 4) 8 ∧ (Φ (it_sv (it_sv m 54 9 ((m 54 9) + (1 : Int32))) 57 (Int32.toNatClampNeg ((it_sv m 54 9 ((m 54 9) + (1 : Int32))) 54 4)) ((it_sv m 54 9 ((m 54 9) + (1 : Int32))) 54 9)))
def w_153 (kc : it_Kc) (x0 : Int32) (m : it_Me) (Φ : it_Me → Prop) : Prop :=
  (x0 = 0 → vp_in (m 54 4) 8 ∧ (vp_in (m 54 4) 8 ∧ (vp_in ((it_sv m 55 (Int32.toNatClampNeg (m 54 4)) (it_min (2 : Int32) ((m 55 (Int32.toNatClampNeg (m 54 4))) + (1 : Int32)))) 54 4) 8 ∧ (w_153_38 kc Φ (it_sv (it_sv m 55 (Int32.toNatClampNeg (m 54 4)) (it_min (2 : Int32) ((m 55 (Int32.toNatClampNeg (m 54 4))) + (1 : Int32)))) 56 (Int32.toNatClampNeg ((it_sv m 55 (Int32.toNatClampNeg (m 54 4)) (it_min (2 : Int32) ((m 55 (Int32.toNatClampNeg (m 54 4))) + (1 : Int32)))) 54 4)) (0 : Int32)))))) ∧ (¬ x0 = 0 → w_153_38 kc Φ m)
/-- GrantBoard$Scheduler.leastPlaced()I -/
def w_154_82 (kc : it_Kc) (Φ : Int32 → it_Me → Prop) (K4 : Int32 → Int32 → it_Me → Prop) (K88 : Int32 → it_Me → Prop) (v1 : Int32) (v2 : Int32) (m : it_Me) : Prop :=
  K4 v1 (v2 + (1 : Int32)) m
def w_154_80 (kc : it_Kc) (Φ : Int32 → it_Me → Prop) (K4 : Int32 → Int32 → it_Me → Prop) (K88 : Int32 → it_Me → Prop) (v2 : Int32) (m : it_Me) : Prop :=
  w_154_82 kc Φ K4 K88 v2 v2 m
def w_154_4 (kc : it_Kc) (Φ : Int32 → it_Me → Prop) (K88 : Int32 → it_Me → Prop) : Nat → Int32 → Int32 → it_Me → Prop
  | 0, _, _, _ => False
  | n4 + 1, v1, v2, m =>
  ((m 9 7) ≤ v2 → K88 v1 m) ∧ (¬ (m 9 7) ≤ v2 → vp_in v2 8 ∧ (w_130 kc (14 + 5 * Int32.toNatClampNeg v2) m (fun r1 m2 => (r1 = 0 → w_154_82 kc Φ (w_154_4 kc Φ K88 n4) K88 v1 v2 m2) ∧ (¬ r1 = 0 → (v1 = (-1 : Int32) → w_154_80 kc Φ (w_154_4 kc Φ K88 n4) K88 v2 m2) ∧ (¬ v1 = (-1 : Int32) → vp_in v2 8 ∧ (vp_in v1 8 ∧ (((m2 55 (Int32.toNatClampNeg v2)) < (m2 55 (Int32.toNatClampNeg v1)) → w_154_80 kc Φ (w_154_4 kc Φ K88 n4) K88 v2 m2) ∧ (¬ (m2 55 (Int32.toNatClampNeg v2)) < (m2 55 (Int32.toNatClampNeg v1)) → vp_in v2 8 ∧ (vp_in v1 8 ∧ (((m2 55 (Int32.toNatClampNeg v2)) = (m2 55 (Int32.toNatClampNeg v1)) → vp_in v2 8 ∧ (vp_in v1 8 ∧ (((m2 57 (Int32.toNatClampNeg v1)) ≤ (m2 57 (Int32.toNatClampNeg v2)) → w_154_82 kc Φ (w_154_4 kc Φ K88 n4) K88 v1 v2 m2) ∧ (¬ (m2 57 (Int32.toNatClampNeg v1)) ≤ (m2 57 (Int32.toNatClampNeg v2)) → w_154_80 kc Φ (w_154_4 kc Φ K88 n4) K88 v2 m2)))) ∧ (¬ (m2 55 (Int32.toNatClampNeg v2)) = (m2 55 (Int32.toNatClampNeg v1)) → w_154_82 kc Φ (w_154_4 kc Φ K88 n4) K88 v1 v2 m2)))))))))))
def w_154_88 (kc : it_Kc) (Φ : Int32 → it_Me → Prop) (v1 : Int32) (m : it_Me) : Prop :=
  Φ (it_max v1 (0 : Int32)) m
def w_154 (kc : it_Kc) (m : it_Me) (Φ : Int32 → it_Me → Prop) : Prop :=
  ∃ e, w_154_4 kc Φ (fun v1 m => w_154_88 kc Φ v1 m) e (-1 : Int32) (0 : Int32) m
/-- GrantBoard$Scheduler.chooseByLevel()LGrantBoard$Process; -/
def w_151_119 (kc : it_Kc) (Φ : Option Nat → it_Me → Prop) (m : it_Me) : Prop :=
  w_154 kc m (fun r1 m2 => vp_in r1 8 ∧ (vp_in (m2 (14 + 5 * Int32.toNatClampNeg r1) 0) 8 ∧ (vp_in (m2 (14 + 5 * Int32.toNatClampNeg r1) 0) 8 ∧ (w_155 kc (14 + 5 * Int32.toNatClampNeg r1) (it_sv m2 56 (Int32.toNatClampNeg (m2 (14 + 5 * Int32.toNatClampNeg r1) 0)) ((m2 56 (Int32.toNatClampNeg (m2 (14 + 5 * Int32.toNatClampNeg r1) 0))) + (1 : Int32))) (fun r3 m4 => Φ r3 m4)))))
def w_151_114 (kc : it_Kc) (Φ : Option Nat → it_Me → Prop) (v2 : Int32) (m : it_Me) : Prop :=
  w_153 kc v2 m (fun m1 => w_151_119 kc Φ m1)
def w_151_87 (kc : it_Kc) (Φ : Option Nat → it_Me → Prop) (v1 : Nat) (u0 : Int32) (m : it_Me) : Prop :=
  (u0 = 0 → w_151_114 kc Φ u0 m) ∧ (¬ u0 = 0 → w_130 kc v1 m (fun r1 m2 => (r1 = 0 → w_151_114 kc Φ u0 m2) ∧ (¬ r1 = 0 → vp_in (m2 54 4) 8 ∧ (vp_in (m2 54 4) 8 ∧ (Φ (some v1) (it_sv m2 56 (Int32.toNatClampNeg (m2 54 4)) ((m2 56 (Int32.toNatClampNeg (m2 54 4))) + (1 : Int32))))))))
def w_151_31 (kc : it_Kc) (Φ : Option Nat → it_Me → Prop) (m : it_Me) : Prop :=
  w_152 kc m (fun r1 m2 => (r1 = 0 → Φ none m2) ∧ (¬ r1 = 0 → w_72 kc (m2 54 4) m2 (fun r3 m4 => (r3 = none → w_151_119 kc Φ m4) ∧ (∀ q5, r3 = some q5 → vp_in (m4 54 4) 8 ∧ (vp_in (m4 54 4) 8 ∧ (((it_shl (m4 54 3) (m4 55 (Int32.toNatClampNeg (m4 54 4)))) ≤ (m4 56 (Int32.toNatClampNeg (m4 54 4))) → w_151_87 kc Φ q5 (0 : Int32) m4) ∧ (¬ (it_shl (m4 54 3) (m4 55 (Int32.toNatClampNeg (m4 54 4)))) ≤ (m4 56 (Int32.toNatClampNeg (m4 54 4))) → w_151_87 kc Φ q5 (1 : Int32) m4)))))))
def w_151 (kc : it_Kc) (m : it_Me) (Φ : Option Nat → it_Me → Prop) : Prop :=
  ¬ ((64 : Int64) * (Int32.toInt64 (m 54 3))) = 0 ∧ (((lg_cmp (it_lrem ((Int32.toInt64 (m 4 0)) &&& (4294967295 : Int64)) ((64 : Int64) * (Int32.toInt64 (m 54 3)))) (0 : Int64)) = 0 → w_147 kc m (fun m1 => w_151_31 kc Φ m1)) ∧ (¬ (lg_cmp (it_lrem ((Int32.toInt64 (m 4 0)) &&& (4294967295 : Int64)) ((64 : Int64) * (Int32.toInt64 (m 54 3)))) (0 : Int64)) = 0 → w_151_31 kc Φ m))
/-- GrantBoard$Scheduler.choose()LGrantBoard$Process; -/
def w_148 (kc : it_Kc) (m : it_Me) (Φ : Option Nat → it_Me → Prop) : Prop :=
  ((m 54 2) = (0 : Int32) → w_149 kc m (fun r1 m2 => Φ r1 m2)) ∧ (¬ (m 54 2) = (0 : Int32) → ((m 54 2) = (1 : Int32) → w_150 kc m (fun r3 m4 => Φ r3 m4)) ∧ (¬ (m 54 2) = (1 : Int32) → w_151 kc m (fun r5 m6 => Φ r5 m6)))
/-- GrantBoard$Store.isClean()Z -/
def w_165_5 (kc : it_Kc) (Φ : Int32 → it_Me → Prop) (K29 : it_Me → Prop) (K37 : it_Me → Prop) : Nat → Int32 → it_Me → Prop
  | 0, _, _ => False
  | n5 + 1, v1, m =>
  (((m 7 2) + (2048 : Int32)) ≤ v1 → K37 m) ∧ (¬ ((m 7 2) + (2048 : Int32)) ≤ v1 → w_12 kc v1 m (fun r1 m2 => (r1 = (-1 : Int32) → (w_165_5 kc Φ K29 K37 n5) (v1 + (4 : Int32)) m2) ∧ (¬ r1 = (-1 : Int32) → K29 m2)))
def w_165_29 (kc : it_Kc) (Φ : Int32 → it_Me → Prop) (m : it_Me) : Prop :=
  Φ (0 : Int32) m
def w_165_37 (kc : it_Kc) (Φ : Int32 → it_Me → Prop) (m : it_Me) : Prop :=
  Φ (1 : Int32) m
def w_165 (kc : it_Kc) (m : it_Me) (Φ : Int32 → it_Me → Prop) : Prop :=
  ∃ e, w_165_5 kc Φ (fun m => w_165_29 kc Φ m) (fun m => w_165_37 kc Φ m) e (m 7 7) m
/-- GrantBoard$Store.open()V -/
def w_157_154 (kc : it_Kc) (Φ : it_Me → Prop) (m : it_Me) : Prop :=
  Φ m
def w_157_139 (kc : it_Kc) (Φ : it_Me → Prop) (m : it_Me) : Prop :=
  w_163 kc m (fun m1 => w_165 kc m1 (fun r2 m3 => (r2 = 0 → w_166 kc m3 (fun m4 => w_157_154 kc Φ m4)) ∧ (¬ r2 = 0 → w_157_154 kc Φ m3)))
def w_157_114 (kc : it_Kc) (Φ : it_Me → Prop) (v1 : Int32) (v3 : Int32) (v4 : Int32) (u1 : Int32) (m : it_Me) : Prop :=
  (v3 = 0 → (v4 = 0 → w_169 kc v1 (it_sv m 7 2 u1) (fun m1 => w_168 kc v1 (1263927296 : Int32) m1 (fun m2 => Φ m2))) ∧ (¬ v4 = 0 → w_157_139 kc Φ (it_sv m 7 2 u1))) ∧ (¬ v3 = 0 → w_157_139 kc Φ (it_sv m 7 2 u1))
def w_157_109 (kc : it_Kc) (Φ : it_Me → Prop) (v1 : Int32) (v2 : Int32) (v3 : Int32) (v4 : Int32) (m : it_Me) : Prop :=
  w_157_114 kc Φ v1 v3 v4 v2 m
def w_157_113 (kc : it_Kc) (Φ : it_Me → Prop) (v1 : Int32) (v3 : Int32) (v4 : Int32) (m : it_Me) : Prop :=
  w_157_114 kc Φ v1 v3 v4 v1 m
def w_157_92 (kc : it_Kc) (Φ : it_Me → Prop) (v1 : Int32) (v2 : Int32) (v3 : Int32) (v4 : Int32) (u0 : Int32) (m : it_Me) : Prop :=
  (v4 = 0 → w_157_113 kc Φ v1 v3 v4 m) ∧ (¬ v4 = 0 → (v3 = 0 → w_157_109 kc Φ v1 v2 v3 v4 m) ∧ (¬ v3 = 0 → (u0 = 0 → w_157_113 kc Φ v1 v3 v4 m) ∧ (¬ u0 = 0 → w_157_109 kc Φ v1 v2 v3 v4 m)))
def w_157_91 (kc : it_Kc) (Φ : it_Me → Prop) (v1 : Int32) (v2 : Int32) (v3 : Int32) (v4 : Int32) (m : it_Me) : Prop :=
  w_157_92 kc Φ v1 v2 v3 v4 (0 : Int32) m
def w_157_49 (kc : it_Kc) (Φ : it_Me → Prop) (v1 : Int32) (v2 : Int32) (v3 : Int32) (u0 : Int32) (m : it_Me) : Prop :=
  w_12 kc v2 m (fun r1 m2 => w_12 kc v1 m2 (fun r3 m4 => (((r1 - r3) &&& (65535 : Int32)) < (1 : Int32) → w_157_91 kc Φ v1 v2 v3 u0 m4) ∧ (¬ ((r1 - r3) &&& (65535 : Int32)) < (1 : Int32) → ((32767 : Int32) < ((r1 - r3) &&& (65535 : Int32)) → w_157_91 kc Φ v1 v2 v3 u0 m4) ∧ (¬ (32767 : Int32) < ((r1 - r3) &&& (65535 : Int32)) → w_157_92 kc Φ v1 v2 v3 u0 (1 : Int32) m4))))
def w_157_27 (kc : it_Kc) (Φ : it_Me → Prop) (v1 : Int32) (v2 : Int32) (u0 : Int32) (m : it_Me) : Prop :=
  w_12 kc v2 m (fun r1 m2 => ((r1 &&& (-65536 : Int32)) = (1263927296 : Int32) → w_157_49 kc Φ v1 v2 u0 (1 : Int32) m2) ∧ (¬ (r1 &&& (-65536 : Int32)) = (1263927296 : Int32) → w_157_49 kc Φ v1 v2 u0 (0 : Int32) m2))
def w_157 (kc : it_Kc) (m : it_Me) (Φ : it_Me → Prop) : Prop :=
  w_12 kc (126976 : Int32) m (fun r1 m2 => ((r1 &&& (-65536 : Int32)) = (1263927296 : Int32) → w_157_27 kc Φ (126976 : Int32) (129024 : Int32) (1 : Int32) m2) ∧ (¬ (r1 &&& (-65536 : Int32)) = (1263927296 : Int32) → w_157_27 kc Φ (126976 : Int32) (129024 : Int32) (0 : Int32) m2))
/-- GrantBoard$Store.tell(III)I -/
def w_158_65 (kc : it_Kc) (Φ : Int32 → it_Me → Prop) (u0 : Int32) (m : it_Me) : Prop :=
  Φ u0 m
def w_158_47 (kc : it_Kc) (Φ : Int32 → it_Me → Prop) (m : it_Me) : Prop :=
  w_158_65 kc Φ (-1 : Int32) m
def w_158 (kc : it_Kc) (x0 : Int32) (x1 : Int32) (x2 : Int32) (m : it_Me) (Φ : Int32 → it_Me → Prop) : Prop :=
  w_159 kc x0 x1 m (fun r1 m2 => (r1 = 0 → Φ (-1 : Int32) m2) ∧ (¬ r1 = 0 → w_12 kc (r1 + (8 : Int32)) m2 (fun r3 m4 => (x2 = (-1 : Int32) → Φ r3 m4) ∧ (¬ x2 = (-1 : Int32) → (x2 < 0 → w_158_47 kc Φ m4) ∧ (¬ x2 < 0 → (x2 < r3 → w_16 kc ((r1 + (12 : Int32)) + x2) m4 (fun r5 m6 => w_158_65 kc Φ r5 m6)) ∧ (¬ x2 < r3 → w_158_47 kc Φ m4))))))
/-- GrantBoard$SystemCalls.yieldAtOnce(LGrantBoard$Process;)V -/
def w_175_58 (kc : it_Kc) (Φ : it_Me → Prop) (m : it_Me) : Prop :=
  Φ m
def w_175_46 (kc : it_Kc) (Φ : it_Me → Prop) (v1 : Nat) (v2 : Int32) (m : it_Me) : Prop :=
  (v2 = 0 → w_175_58 kc Φ m) ∧ (¬ v2 = 0 → w_82 kc v1 m (fun m1 => w_175_58 kc Φ m1))
def w_175_43 (kc : it_Kc) (Φ : it_Me → Prop) (v1 : Nat) (v2 : Int32) (u1 : Int32) (u2 : Int32) (m : it_Me) : Prop :=
  w_17 kc u1 u2 m (fun m1 => w_175_46 kc Φ v1 v2 m1)
def w_175_12 (kc : it_Kc) (Φ : it_Me → Prop) (v1 : Nat) (u0 : Int32) (m : it_Me) : Prop :=
  vp_in (11 : Int32) 32 ∧ (w_132 kc v1 (m (v1 + 2) (Int32.toNatClampNeg (11 : Int32))) m (fun r1 m2 => (r1 = 0 → w_175_46 kc Φ v1 u0 m2) ∧ (¬ r1 = 0 → (u0 = 0 → w_175_43 kc Φ v1 u0 (m (v1 + 2) (Int32.toNatClampNeg (11 : Int32))) (0 : Int32) m2) ∧ (¬ u0 = 0 → w_175_43 kc Φ v1 u0 (m (v1 + 2) (Int32.toNatClampNeg (11 : Int32))) (1 : Int32) m2))))
def w_175 (kc : it_Kc) (x0 : Nat) (m : it_Me) (Φ : it_Me → Prop) : Prop :=
  ((m x0 14) ≤ 0 → w_175_12 kc Φ x0 (0 : Int32) m) ∧ (¬ (m x0 14) ≤ 0 → w_175_12 kc Φ x0 (1 : Int32) m)
/-- GrantBoard$SystemCalls.yieldFor(LGrantBoard$Process;II)V -/
def w_176_42 (kc : it_Kc) (Φ : it_Me → Prop) (m : it_Me) : Prop :=
  Φ m
def w_176 (kc : it_Kc) (x0 : Nat) (x1 : Int32) (x2 : Int32) (m : it_Me) (Φ : it_Me → Prop) : Prop :=
  w_142 kc x0 x1 x2 m (fun r1 m2 => (r1 = (-1 : Int32) → w_176_42 kc Φ (it_sv (it_sv (it_sv m2 x0 9 (3 : Int32)) x0 15 x1) x0 16 x2)) ∧ (¬ r1 = (-1 : Int32) → w_81 kc x0 r1 m2 (fun m3 => w_176_42 kc Φ m3)))
/-- GrantBoard$SystemCalls.yieldBy(LGrantBoard$Process;)V -/
def w_174_94 (kc : it_Kc) (Φ : it_Me → Prop) (m : it_Me) : Prop :=
  Φ m
def w_174 (kc : it_Kc) (x0 : Nat) (m : it_Me) (Φ : it_Me → Prop) : Prop :=
  vp_in (10 : Int32) 32 ∧ (((m (x0 + 2) (Int32.toNatClampNeg (10 : Int32))) = (0 : Int32) → w_175 kc x0 m (fun m1 => w_174_94 kc Φ m1)) ∧ (¬ (m (x0 + 2) (Int32.toNatClampNeg (10 : Int32))) = (0 : Int32) → ((m (x0 + 2) (Int32.toNatClampNeg (10 : Int32))) = (1 : Int32) → ((m x0 14) ≤ 0 → w_174_94 kc Φ (it_sv m x0 9 (2 : Int32))) ∧ (¬ (m x0 14) ≤ 0 → w_82 kc x0 m (fun m2 => w_174_94 kc Φ m2))) ∧ (¬ (m (x0 + 2) (Int32.toNatClampNeg (10 : Int32))) = (1 : Int32) → ((m (x0 + 2) (Int32.toNatClampNeg (10 : Int32))) = (2 : Int32) → vp_in (11 : Int32) 32 ∧ (vp_in (12 : Int32) 32 ∧ (w_176 kc x0 (m (x0 + 2) (Int32.toNatClampNeg (11 : Int32))) (m (x0 + 2) (Int32.toNatClampNeg (12 : Int32))) m (fun m3 => w_174_94 kc Φ m3)))) ∧ (¬ (m (x0 + 2) (Int32.toNatClampNeg (10 : Int32))) = (2 : Int32) → w_136 kc x0 (10 : Int32) m (fun m4 => w_174_94 kc Φ m4)))))
/-- GrantBoard$SystemCalls.isDriver(I)Z -/
def w_173_15 (kc : it_Kc) (Φ : Int32 → it_Me → Prop) (u0 : Int32) (m : it_Me) : Prop :=
  (u0 = 0 ∨ u0 = 1) ∧ Φ u0 m
def w_173_14 (kc : it_Kc) (Φ : Int32 → it_Me → Prop) (m : it_Me) : Prop :=
  w_173_15 kc Φ (0 : Int32) m
def w_173 (kc : it_Kc) (x0 : Int32) (m : it_Me) (Φ : Int32 → it_Me → Prop) : Prop :=
  (x0 < 0 → w_173_14 kc Φ m) ∧ (¬ x0 < 0 → ((9 : Int32) ≤ x0 → w_173_14 kc Φ m) ∧ (¬ (9 : Int32) ≤ x0 → w_173_15 kc Φ (1 : Int32) m))
/-- GrantBoard$SystemCalls.exchange(LGrantBoard$Process;I)V -/
def w_179 (kc : it_Kc) (x0 : Nat) (x1 : Int32) (m : it_Me) (Φ : it_Me → Prop) : Prop :=
  w_12 kc x1 m (fun r1 m2 => w_12 kc (x1 + (4 : Int32)) m2 (fun r3 m4 => vp_in (12 : Int32) 32 ∧ (w_13 kc x1 (m4 (x0 + 2) (Int32.toNatClampNeg (12 : Int32))) m4 (fun m5 => vp_in (13 : Int32) 32 ∧ (w_13 kc (x1 + (4 : Int32)) (m5 (x0 + 2) (Int32.toNatClampNeg (13 : Int32))) m5 (fun m6 => w_140 kc x0 r1 r3 m6 (fun m7 => Φ m7)))))))
/-- GrantBoard$SystemCalls.subscribe(LGrantBoard$Process;)V -/
def w_177_137 (kc : it_Kc) (Φ : it_Me → Prop) (m : it_Me) : Prop :=
  Φ m
def w_177_86 (kc : it_Kc) (Φ : it_Me → Prop) (v1 : Nat) (m : it_Me) : Prop :=
  w_137 kc v1 (6 : Int32) m (fun m1 => w_177_137 kc Φ m1)
def w_177_51 (kc : it_Kc) (Φ : it_Me → Prop) (v1 : Nat) (v2 : Int32) (v3 : Int32) (u0 : Int32) (m : it_Me) : Prop :=
  w_173 kc v2 m (fun r1 m2 => (r1 = 0 → w_137 kc v1 (11 : Int32) m2 (fun m3 => w_177_137 kc Φ m3)) ∧ (¬ r1 = 0 → vp_in v2 (kc 2).1 ∧ (w_213 kc v3 ((kc 2).2 (Int32.toNatClampNeg v2)) m2 (fun r4 m5 => (r4 = 0 → w_177_86 kc Φ v1 m5) ∧ (¬ r4 = 0 → (u0 = 0 → w_177_86 kc Φ v1 m5) ∧ (¬ u0 = 0 → w_85 kc v1 v2 m5 (fun r6 m7 => (r6 = 0 → w_137 kc v1 (9 : Int32) m7 (fun m8 => w_177_137 kc Φ m8)) ∧ (¬ r6 = 0 → w_144 kc v1 v2 v3 m7 (fun m9 => w_87 kc v1 v2 v3 m9 (fun r10 m11 => w_179 kc v1 r10 m11 (fun m12 => w_177_137 kc Φ m12)))))))))))
def w_177_46 (kc : it_Kc) (Φ : it_Me → Prop) (v1 : Nat) (v2 : Int32) (v3 : Int32) (m : it_Me) : Prop :=
  w_177_51 kc Φ v1 v2 v3 (1 : Int32) m
def w_177_50 (kc : it_Kc) (Φ : it_Me → Prop) (v1 : Nat) (v2 : Int32) (v3 : Int32) (m : it_Me) : Prop :=
  w_177_51 kc Φ v1 v2 v3 (0 : Int32) m
def w_177 (kc : it_Kc) (x0 : Nat) (m : it_Me) (Φ : it_Me → Prop) : Prop :=
  vp_in (10 : Int32) 32 ∧ (vp_in (11 : Int32) 32 ∧ (vp_in (12 : Int32) 32 ∧ (((m (x0 + 2) (Int32.toNatClampNeg (12 : Int32))) = 0 → w_177_46 kc Φ x0 (m (x0 + 2) (Int32.toNatClampNeg (10 : Int32))) (m (x0 + 2) (Int32.toNatClampNeg (11 : Int32))) m) ∧ (¬ (m (x0 + 2) (Int32.toNatClampNeg (12 : Int32))) = 0 → (((m (x0 + 2) (Int32.toNatClampNeg (12 : Int32))) &&& (1 : Int32)) = 0 → w_133 kc x0 (m (x0 + 2) (Int32.toNatClampNeg (12 : Int32))) m (fun r1 m2 => (r1 = 0 → w_177_50 kc Φ x0 (m (x0 + 2) (Int32.toNatClampNeg (10 : Int32))) (m (x0 + 2) (Int32.toNatClampNeg (11 : Int32))) m2) ∧ (¬ r1 = 0 → w_177_46 kc Φ x0 (m (x0 + 2) (Int32.toNatClampNeg (10 : Int32))) (m (x0 + 2) (Int32.toNatClampNeg (11 : Int32))) m2))) ∧ (¬ ((m (x0 + 2) (Int32.toNatClampNeg (12 : Int32))) &&& (1 : Int32)) = 0 → w_177_50 kc Φ x0 (m (x0 + 2) (Int32.toNatClampNeg (10 : Int32))) (m (x0 + 2) (Int32.toNatClampNeg (11 : Int32))) m)))))
/-- GrantBoard$SystemCalls.allow(LGrantBoard$Process;Z)V -/
def w_178_155 (kc : it_Kc) (Φ : it_Me → Prop) (m : it_Me) : Prop :=
  Φ m
def w_178_86 (kc : it_Kc) (Φ : it_Me → Prop) (v1 : Nat) (m : it_Me) : Prop :=
  w_137 kc v1 (6 : Int32) m (fun m1 => w_178_155 kc Φ m1)
def w_178_48 (kc : it_Kc) (Φ : it_Me → Prop) (v1 : Nat) (v2 : Int32) (v3 : Int32) (v4 : Int32) (u0 : Int32) (m : it_Me) : Prop :=
  w_213 kc v4 u0 m (fun r1 m2 => (r1 = 0 → w_178_86 kc Φ v1 m2) ∧ (¬ r1 = 0 → vp_in (12 : Int32) 32 ∧ (vp_in (13 : Int32) 32 ∧ (w_102 kc v1 (m2 (v1 + 2) (Int32.toNatClampNeg (12 : Int32))) (m2 (v1 + 2) (Int32.toNatClampNeg (13 : Int32))) v2 m2 (fun r3 m4 => (r3 = 0 → w_178_86 kc Φ v1 m4) ∧ (¬ r3 = 0 → w_85 kc v1 v3 m4 (fun r5 m6 => (r5 = 0 → w_137 kc v1 (9 : Int32) m6 (fun m7 => w_178_155 kc Φ m7)) ∧ (¬ r5 = 0 → (v2 = 0 → w_88 kc v1 v3 v4 m6 (fun r8 m9 => w_179 kc v1 r8 m9 (fun m10 => w_178_155 kc Φ m10))) ∧ (¬ v2 = 0 → w_89 kc v1 v3 v4 m6 (fun r11 m12 => w_179 kc v1 r11 m12 (fun m13 => w_178_155 kc Φ m13)))))))))))
def w_178 (kc : it_Kc) (x0 : Nat) (x1 : Int32) (m : it_Me) (Φ : it_Me → Prop) : Prop :=
  vp_in (10 : Int32) 32 ∧ (vp_in (11 : Int32) 32 ∧ (w_173 kc (m (x0 + 2) (Int32.toNatClampNeg (10 : Int32))) m (fun r1 m2 => (r1 = 0 → w_137 kc x0 (11 : Int32) m2 (fun m3 => Φ m3)) ∧ (¬ r1 = 0 → (x1 = 0 → vp_in (m (x0 + 2) (Int32.toNatClampNeg (10 : Int32))) (kc 3).1 ∧ (w_178_48 kc Φ x0 x1 (m (x0 + 2) (Int32.toNatClampNeg (10 : Int32))) (m (x0 + 2) (Int32.toNatClampNeg (11 : Int32))) ((kc 3).2 (Int32.toNatClampNeg (m (x0 + 2) (Int32.toNatClampNeg (10 : Int32))))) m2)) ∧ (¬ x1 = 0 → vp_in (m (x0 + 2) (Int32.toNatClampNeg (10 : Int32))) (kc 4).1 ∧ (w_178_48 kc Φ x0 x1 (m (x0 + 2) (Int32.toNatClampNeg (10 : Int32))) (m (x0 + 2) (Int32.toNatClampNeg (11 : Int32))) ((kc 4).2 (Int32.toNatClampNeg (m (x0 + 2) (Int32.toNatClampNeg (10 : Int32))))) m2))))))
/-- GrantBoard$SystemCalls.answerZero(LGrantBoard$Process;I)V -/
def w_181_16 (kc : it_Kc) (Φ : it_Me → Prop) (m : it_Me) : Prop :=
  Φ m
def w_181 (kc : it_Kc) (x0 : Nat) (x1 : Int32) (m : it_Me) (Φ : it_Me → Prop) : Prop :=
  (x1 = 0 → w_138 kc x0 m (fun m1 => w_181_16 kc Φ m1)) ∧ (¬ x1 = 0 → w_139 kc x0 x1 m (fun m2 => w_181_16 kc Φ m2))
/-- GrantBoard$SystemCalls.hasCommand(LGrantBoard$Process;II)Z -/
def w_182_45 (kc : it_Kc) (Φ : Int32 → it_Me → Prop) (u0 : Int32) (m : it_Me) : Prop :=
  (u0 = 0 ∨ u0 = 1) ∧ Φ u0 m
def w_182_44 (kc : it_Kc) (Φ : Int32 → it_Me → Prop) (m : it_Me) : Prop :=
  w_182_45 kc Φ (0 : Int32) m
def w_182_17 (kc : it_Kc) (Φ : Int32 → it_Me → Prop) (v1 : Int32) (v2 : Int32) (m : it_Me) : Prop :=
  (v2 ≤ 0 → w_182_44 kc Φ m) ∧ (¬ v2 ≤ 0 → ((32 : Int32) ≤ v2 → w_182_44 kc Φ m) ∧ (¬ (32 : Int32) ≤ v2 → vp_in v1 (kc 6).1 ∧ ((((it_us ((kc 6).2 (Int32.toNatClampNeg v1)) v2) &&& (1 : Int32)) = (1 : Int32) → w_182_45 kc Φ (1 : Int32) m) ∧ (¬ ((it_us ((kc 6).2 (Int32.toNatClampNeg v1)) v2) &&& (1 : Int32)) = (1 : Int32) → w_182_44 kc Φ m))))
def w_182 (kc : it_Kc) (x0 : Nat) (x1 : Int32) (x2 : Int32) (m : it_Me) (Φ : Int32 → it_Me → Prop) : Prop :=
  (x1 = (5 : Int32) → ((m (x0 + 1) 12) = 0 → Φ (0 : Int32) m) ∧ (¬ (m (x0 + 1) 12) = 0 → w_182_17 kc Φ x1 x2 m)) ∧ (¬ x1 = (5 : Int32) → w_182_17 kc Φ x1 x2 m)
/-- GrantBoard$SystemCalls.checkCommand(LGrantBoard$Process;)I -/
def w_180_101 (kc : it_Kc) (Φ : Int32 → it_Me → Prop) (m : it_Me) : Prop :=
  Φ (-1 : Int32) m
def w_180_35 (kc : it_Kc) (Φ : Int32 → it_Me → Prop) (v1 : Nat) (m : it_Me) : Prop :=
  w_136 kc v1 (11 : Int32) m (fun m1 => w_180_101 kc Φ m1)
def w_180 (kc : it_Kc) (x0 : Nat) (m : it_Me) (Φ : Int32 → it_Me → Prop) : Prop :=
  vp_in (10 : Int32) 32 ∧ (vp_in (11 : Int32) 32 ∧ (w_173 kc (m (x0 + 2) (Int32.toNatClampNeg (10 : Int32))) m (fun r1 m2 => (r1 = 0 → w_180_35 kc Φ x0 m2) ∧ (¬ r1 = 0 → w_9 kc (x0 + 1) (m (x0 + 2) (Int32.toNatClampNeg (10 : Int32))) (m (x0 + 2) (Int32.toNatClampNeg (11 : Int32))) m2 (fun r3 m4 => (r3 = 0 → w_180_35 kc Φ x0 m4) ∧ (¬ r3 = 0 → ((m (x0 + 2) (Int32.toNatClampNeg (11 : Int32))) = 0 → vp_in (m (x0 + 2) (Int32.toNatClampNeg (10 : Int32))) (kc 5).1 ∧ (w_181 kc x0 ((kc 5).2 (Int32.toNatClampNeg (m (x0 + 2) (Int32.toNatClampNeg (10 : Int32))))) m4 (fun m5 => w_180_101 kc Φ m5))) ∧ (¬ (m (x0 + 2) (Int32.toNatClampNeg (11 : Int32))) = 0 → w_182 kc x0 (m (x0 + 2) (Int32.toNatClampNeg (10 : Int32))) (m (x0 + 2) (Int32.toNatClampNeg (11 : Int32))) m4 (fun r6 m7 => (r6 = 0 → w_136 kc x0 (10 : Int32) m7 (fun m8 => w_180_101 kc Φ m8)) ∧ (¬ r6 = 0 → w_85 kc x0 (m (x0 + 2) (Int32.toNatClampNeg (10 : Int32))) m7 (fun r9 m10 => (r9 = 0 → w_136 kc x0 (9 : Int32) m10 (fun m11 => w_180_101 kc Φ m11)) ∧ (¬ r9 = 0 → Φ (m (x0 + 2) (Int32.toNatClampNeg (10 : Int32))) m10)))))))))))
/-- GrantBoard$SystemCalls.moveBreak(LGrantBoard$Process;JZ)V -/
def w_184_86 (kc : it_Kc) (Φ : it_Me → Prop) (m : it_Me) : Prop :=
  Φ m
def w_184 (kc : it_Kc) (x0 : Nat) (x1 : Int64) (x2 : Int32) (m : it_Me) (Φ : it_Me → Prop) : Prop :=
  w_91 kc x0 m (fun r1 m2 => (0 ≤ (lg_cmp ((x1 + (3 : Int64)) &&& (-4 : Int64)) (Int32.toInt64 r1)) → ((lg_cmp ((x1 + (3 : Int64)) &&& (-4 : Int64)) (Int32.toInt64 (m2 x0 8))) ≤ 0 → (x2 = 0 → w_138 kc x0 (it_sv m2 x0 7 (Int64.toInt32 ((x1 + (3 : Int64)) &&& (-4 : Int64)))) (fun m3 => w_184_86 kc Φ m3)) ∧ (¬ x2 = 0 → w_139 kc x0 (m x0 7) (it_sv m2 x0 7 (Int64.toInt32 ((x1 + (3 : Int64)) &&& (-4 : Int64)))) (fun m4 => w_184_86 kc Φ m4))) ∧ (¬ (lg_cmp ((x1 + (3 : Int64)) &&& (-4 : Int64)) (Int32.toInt64 (m2 x0 8))) ≤ 0 → w_136 kc x0 (9 : Int32) m2 (fun m5 => w_184_86 kc Φ m5))) ∧ (¬ 0 ≤ (lg_cmp ((x1 + (3 : Int64)) &&& (-4 : Int64)) (Int32.toInt64 r1)) → w_136 kc x0 (6 : Int32) m2 (fun m6 => w_184_86 kc Φ m6)))
/-- GrantBoard$SystemCalls.askMemory(LGrantBoard$Process;)V -/
def w_183_163 (kc : it_Kc) (Φ : it_Me → Prop) (m : it_Me) : Prop :=
  Φ m
def w_183 (kc : it_Kc) (x0 : Nat) (m : it_Me) (Φ : it_Me → Prop) : Prop :=
  vp_in (11 : Int32) 32 ∧ (vp_in (10 : Int32) 32 ∧ (((m (x0 + 2) (Int32.toNatClampNeg (10 : Int32))) = (0 : Int32) → w_184 kc x0 ((Int32.toInt64 (m (x0 + 2) (Int32.toNatClampNeg (11 : Int32)))) &&& (4294967295 : Int64)) (0 : Int32) m (fun m1 => w_183_163 kc Φ m1)) ∧ (¬ (m (x0 + 2) (Int32.toNatClampNeg (10 : Int32))) = (0 : Int32) → ((m (x0 + 2) (Int32.toNatClampNeg (10 : Int32))) = (1 : Int32) → w_184 kc x0 ((Int32.toInt64 (m x0 7)) + (Int32.toInt64 (m (x0 + 2) (Int32.toNatClampNeg (11 : Int32))))) (1 : Int32) m (fun m2 => w_183_163 kc Φ m2)) ∧ (¬ (m (x0 + 2) (Int32.toNatClampNeg (10 : Int32))) = (1 : Int32) → ((m (x0 + 2) (Int32.toNatClampNeg (10 : Int32))) = (2 : Int32) → w_139 kc x0 (m (x0 + 1) 1) m (fun m3 => w_183_163 kc Φ m3)) ∧ (¬ (m (x0 + 2) (Int32.toNatClampNeg (10 : Int32))) = (2 : Int32) → ((m (x0 + 2) (Int32.toNatClampNeg (10 : Int32))) = (3 : Int32) → w_139 kc x0 ((m (x0 + 1) 1) + (m (x0 + 1) 3)) m (fun m4 => w_183_163 kc Φ m4)) ∧ (¬ (m (x0 + 2) (Int32.toNatClampNeg (10 : Int32))) = (3 : Int32) → ((m (x0 + 2) (Int32.toNatClampNeg (10 : Int32))) = (4 : Int32) → w_139 kc x0 (m x0 5) m (fun m5 => w_183_163 kc Φ m5)) ∧ (¬ (m (x0 + 2) (Int32.toNatClampNeg (10 : Int32))) = (4 : Int32) → ((m (x0 + 2) (Int32.toNatClampNeg (10 : Int32))) = (5 : Int32) → w_139 kc x0 (m x0 7) m (fun m6 => w_183_163 kc Φ m6)) ∧ (¬ (m (x0 + 2) (Int32.toNatClampNeg (10 : Int32))) = (5 : Int32) → ((m (x0 + 2) (Int32.toNatClampNeg (10 : Int32))) = (6 : Int32) → w_139 kc x0 (m x0 8) m (fun m7 => w_183_163 kc Φ m7)) ∧ (¬ (m (x0 + 2) (Int32.toNatClampNeg (10 : Int32))) = (6 : Int32) → w_136 kc x0 (10 : Int32) m (fun m8 => w_183_163 kc Φ m8))))))))))
/-- GrantBoard$SystemCalls.exit(LGrantBoard$Process;)V -/
def w_185_67 (kc : it_Kc) (Φ : it_Me → Prop) (m : it_Me) : Prop :=
  Φ m
def w_185 (kc : it_Kc) (x0 : Nat) (m : it_Me) (Φ : it_Me → Prop) : Prop :=
  vp_in (10 : Int32) 32 ∧ (((m (x0 + 2) (Int32.toNatClampNeg (10 : Int32))) = (0 : Int32) → vp_in (11 : Int32) 32 ∧ (w_78 kc x0 (m (x0 + 2) (Int32.toNatClampNeg (11 : Int32))) m (fun m1 => w_185_67 kc Φ m1))) ∧ (¬ (m (x0 + 2) (Int32.toNatClampNeg (10 : Int32))) = (0 : Int32) → ((m (x0 + 2) (Int32.toNatClampNeg (10 : Int32))) = (1 : Int32) → w_76 kc x0 m (fun m2 => w_185_67 kc Φ m2)) ∧ (¬ (m (x0 + 2) (Int32.toNatClampNeg (10 : Int32))) = (1 : Int32) → w_136 kc x0 (10 : Int32) m (fun m3 => w_185_67 kc Φ m3))))
/-- GrantBoard$SystemCalls.serve(LGrantBoard$Process;)I -/
def w_172 (kc : it_Kc) (x0 : Nat) (m : it_Me) (Φ : Int32 → it_Me → Prop) : Prop :=
  vp_in (14 : Int32) 32 ∧ (w_69 kc (m x0 0) (0 : Int32) (m (x0 + 2) (Int32.toNatClampNeg (14 : Int32))) m (fun m1 => ((m (x0 + 2) (Int32.toNatClampNeg (14 : Int32))) = (0 : Int32) → w_174 kc x0 (it_sv m1 x0 4 (1 : Int32)) (fun m2 => Φ (-1 : Int32) m2)) ∧ (¬ (m (x0 + 2) (Int32.toNatClampNeg (14 : Int32))) = (0 : Int32) → ((m (x0 + 2) (Int32.toNatClampNeg (14 : Int32))) = (1 : Int32) → w_177 kc x0 (it_sv m1 x0 4 (1 : Int32)) (fun m3 => Φ (-1 : Int32) m3)) ∧ (¬ (m (x0 + 2) (Int32.toNatClampNeg (14 : Int32))) = (1 : Int32) → ((m (x0 + 2) (Int32.toNatClampNeg (14 : Int32))) = (2 : Int32) → w_180 kc x0 (it_sv m1 x0 4 (1 : Int32)) (fun r4 m5 => Φ r4 m5)) ∧ (¬ (m (x0 + 2) (Int32.toNatClampNeg (14 : Int32))) = (2 : Int32) → ((m (x0 + 2) (Int32.toNatClampNeg (14 : Int32))) = (3 : Int32) → w_178 kc x0 (1 : Int32) (it_sv m1 x0 4 (1 : Int32)) (fun m6 => Φ (-1 : Int32) m6)) ∧ (¬ (m (x0 + 2) (Int32.toNatClampNeg (14 : Int32))) = (3 : Int32) → ((m (x0 + 2) (Int32.toNatClampNeg (14 : Int32))) = (4 : Int32) → w_178 kc x0 (0 : Int32) (it_sv m1 x0 4 (1 : Int32)) (fun m7 => Φ (-1 : Int32) m7)) ∧ (¬ (m (x0 + 2) (Int32.toNatClampNeg (14 : Int32))) = (4 : Int32) → ((m (x0 + 2) (Int32.toNatClampNeg (14 : Int32))) = (5 : Int32) → w_183 kc x0 (it_sv m1 x0 4 (1 : Int32)) (fun m8 => Φ (-1 : Int32) m8)) ∧ (¬ (m (x0 + 2) (Int32.toNatClampNeg (14 : Int32))) = (5 : Int32) → ((m (x0 + 2) (Int32.toNatClampNeg (14 : Int32))) = (6 : Int32) → w_185 kc x0 (it_sv m1 x0 4 (1 : Int32)) (fun m9 => Φ (-1 : Int32) m9)) ∧ (¬ (m (x0 + 2) (Int32.toNatClampNeg (14 : Int32))) = (6 : Int32) → w_136 kc x0 (10 : Int32) (it_sv m1 x0 4 (1 : Int32)) (fun m10 => Φ (-1 : Int32) m10))))))))))
/-- GrantBoard.addToTape(I)V -/
def w_211_3 (kc : it_Kc) (Φ : it_Me → Prop) (K48 : it_Me → Prop) : Nat → Int32 → Int32 → it_Me → Prop
  | 0, _, _, _ => False
  | n3 + 1, v1, v2, m =>
  (v2 < 0 → K48 m) ∧ (¬ v2 < 0 → ((8192 : Int32) ≤ (m 0 9) → K48 m) ∧ (¬ (8192 : Int32) ≤ (m 0 9) → vp_in (m 0 9) 8192 ∧ ((w_211_3 kc Φ K48 n3) v1 (v2 + (-8 : Int32)) (it_sv (it_sv m 65 (Int32.toNatClampNeg (m 0 9)) (it_i2b (it_i2b (it_us v1 v2)))) 0 9 (((it_sv m 65 (Int32.toNatClampNeg (m 0 9)) (it_i2b (it_i2b (it_us v1 v2)))) 0 9) + (1 : Int32))))))
def w_211_48 (kc : it_Kc) (Φ : it_Me → Prop) (m : it_Me) : Prop :=
  Φ m
def w_211 (kc : it_Kc) (x0 : Int32) (m : it_Me) (Φ : it_Me → Prop) : Prop :=
  ∃ e, w_211_3 kc Φ (fun m => w_211_48 kc Φ m) e x0 (24 : Int32) m
/-- GrantBoard.feed(IIIII)I -/
def w_187 (kc : it_Kc) (x0 : Int32) (x1 : Int32) (x2 : Int32) (x3 : Int32) (x4 : Int32) (m : it_Me) (Φ : Int32 → it_Me → Prop) : Prop :=
  (((m 0 9) + (20 : Int32)) ≤ (8192 : Int32) → w_211 kc x0 m (fun m1 => w_211 kc x1 m1 (fun m2 => w_211 kc x2 m2 (fun m3 => w_211 kc x3 m3 (fun m4 => w_211 kc x4 m4 (fun m5 => Φ (m5 0 9) m5)))))) ∧ (¬ ((m 0 9) + (20 : Int32)) ≤ (8192 : Int32) → Φ (-1 : Int32) m)
/-- GrantBoard.end(I)I -/
def w_188_12 (kc : it_Kc) (Φ : Int32 → it_Me → Prop) (m : it_Me) : Prop :=
  Φ (-2 : Int32) m
def w_188 (kc : it_Kc) (x0 : Int32) (m : it_Me) (Φ : Int32 → it_Me → Prop) : Prop :=
  (x0 < 0 → w_188_12 kc Φ m) ∧ (¬ x0 < 0 → (x0 ≤ (m 0 9) → Φ x0 (it_sv m 0 9 x0)) ∧ (¬ x0 ≤ (m 0 9) → w_188_12 kc Φ m))
/-- GrantBoard.burn(I)I -/
def w_189_45 (kc : it_Kc) (Φ : Int32 → it_Me → Prop) (K81 : Int32 → it_Me → Prop) : Nat → Int32 → Int32 → Int32 → it_Me → Prop
  | 0, _, _, _, _ => False
  | n45 + 1, v1, v2, v3, m =>
  (v2 ≤ v3 → K81 v2 m) ∧ (¬ v2 ≤ v3 → ((8192 : Int32) ≤ v3 → K81 v2 m) ∧ (¬ (8192 : Int32) ≤ v3 → vp_in v3 8192 ∧ (w_17 kc (v1 + v3) (m 65 (Int32.toNatClampNeg v3)) m (fun m1 => (w_189_45 kc Φ K81 n45) v1 v2 (v3 + (1 : Int32)) m1))))
def w_189_40 (kc : it_Kc) (Φ : Int32 → it_Me → Prop) (m : it_Me) : Prop :=
  Φ (-2 : Int32) m
def w_189_81 (kc : it_Kc) (Φ : Int32 → it_Me → Prop) (v2 : Int32) (m : it_Me) : Prop :=
  Φ v2 m
def w_189 (kc : it_Kc) (x0 : Int32) (m : it_Me) (Φ : Int32 → it_Me → Prop) : Prop :=
  (((it_sv m 0 9 (0 : Int32)) 0 10) = 0 → (x0 < (65536 : Int32) → w_189_40 kc Φ (it_sv m 0 9 (0 : Int32))) ∧ (¬ x0 < (65536 : Int32) → ((131072 : Int32) < x0 → w_189_40 kc Φ (it_sv m 0 9 (0 : Int32))) ∧ (¬ (131072 : Int32) < x0 → ((m 0 9) ≤ ((131072 : Int32) - x0) → ∃ e, w_189_45 kc Φ (fun v2 m => w_189_81 kc Φ v2 m) e x0 (m 0 9) (0 : Int32) (it_sv m 0 9 (0 : Int32))) ∧ (¬ (m 0 9) ≤ ((131072 : Int32) - x0) → w_189_40 kc Φ (it_sv m 0 9 (0 : Int32)))))) ∧ (¬ ((it_sv m 0 9 (0 : Int32)) 0 10) = 0 → Φ (-3 : Int32) (it_sv m 0 9 (0 : Int32)))
/-- GrantBoard.powerDown()V -/
def w_212 (kc : it_Kc) (m : it_Me) (Φ : it_Me → Prop) : Prop :=
  w_18 kc (131072 : Int32) (65536 : Int32) (0 : Int32) (it_sv (it_sv (it_sv (it_sv m 0 10 (0 : Int32)) 7 4 (0 : Int32)) 4 0 (0 : Int32)) 9 7 (0 : Int32)) (fun m1 => Φ m1)
/-- GrantBoard.boot(IIIZI)I -/
def w_190_41 (kc : it_Kc) (Φ : Int32 → it_Me → Prop) (m : it_Me) : Prop :=
  Φ (-2 : Int32) m
def w_190 (kc : it_Kc) (x0 : Int32) (x1 : Int32) (x2 : Int32) (x3 : Int32) (x4 : Int32) (m : it_Me) (Φ : Int32 → it_Me → Prop) : Prop :=
  ((m 0 10) = 0 → (x0 < 0 → w_190_41 kc Φ m) ∧ (¬ x0 < 0 → ((2 : Int32) < x0 → w_190_41 kc Φ m) ∧ (¬ (2 : Int32) < x0 → (x1 < (1 : Int32) → w_190_41 kc Φ m) ∧ (¬ x1 < (1 : Int32) → ((1000 : Int32) < x1 → w_190_41 kc Φ m) ∧ (¬ (1000 : Int32) < x1 → (x2 < 0 → w_190_41 kc Φ m) ∧ (¬ x2 < 0 → (x2 ≤ (100 : Int32) → w_36 kc x4 m (fun m1 => w_157 kc m1 (fun m2 => ((m2 7 4) = 0 → w_146 kc x0 x1 (it_sv m2 0 10 (1 : Int32)) (fun m3 => w_73 kc x3 (it_sv m3 9 8 x2) (fun m4 => Φ (m4 9 7) m4))) ∧ (¬ (m2 7 4) = 0 → w_212 kc m2 (fun m5 => Φ (-4 : Int32) m5))))) ∧ (¬ x2 ≤ (100 : Int32) → w_190_41 kc Φ m))))))) ∧ (¬ (m 0 10) = 0 → Φ (-3 : Int32) m)
/-- GrantBoard.off()I -/
def w_191 (kc : it_Kc) (m : it_Me) (Φ : Int32 → it_Me → Prop) : Prop :=
  ((m 0 10) = 0 → Φ (-3 : Int32) m) ∧ (¬ (m 0 10) = 0 → w_212 kc m (fun m1 => Φ (1 : Int32) m1))
/-- GrantBoard.cut(I)I -/
def w_192_12 (kc : it_Kc) (Φ : Int32 → it_Me → Prop) (m : it_Me) : Prop :=
  Φ (-2 : Int32) m
def w_192 (kc : it_Kc) (x0 : Int32) (m : it_Me) (Φ : Int32 → it_Me → Prop) : Prop :=
  (x0 < (-1 : Int32) → w_192_12 kc Φ m) ∧ (¬ x0 < (-1 : Int32) → (x0 ≤ (10000 : Int32) → Φ (1 : Int32) (it_sv m 7 3 x0)) ∧ (¬ x0 ≤ (10000 : Int32) → w_192_12 kc Φ m))
/-- GrantBoard.run(I)I -/
def w_193_151 (kc : it_Kc) (Φ : Int32 → it_Me → Prop) (K27 : Int32 → Int32 → it_Me → Prop) (K161 : it_Me → Prop) (K174 : Int32 → it_Me → Prop) (v1 : Int32) (v2 : Int32) (m : it_Me) : Prop :=
  ((m 7 4) = 0 → K27 v1 (v2 + (1 : Int32)) m) ∧ (¬ (m 7 4) = 0 → K161 m)
def w_193_120 (kc : it_Kc) (Φ : Int32 → it_Me → Prop) (K27 : Int32 → Int32 → it_Me → Prop) (K161 : it_Me → Prop) (K174 : Int32 → it_Me → Prop) (v1 : Int32) (v2 : Int32) (m : it_Me) : Prop :=
  w_193_151 kc Φ K27 K161 K174 v1 v2 m
def w_193_27 (kc : it_Kc) (Φ : Int32 → it_Me → Prop) (K161 : it_Me → Prop) (K174 : Int32 → it_Me → Prop) : Nat → Int32 → Int32 → it_Me → Prop
  | 0, _, _, _ => False
  | n27 + 1, v1, v2, m =>
  (v1 ≤ v2 → K174 v1 m) ∧ (¬ v1 ≤ v2 → w_39 kc (it_sv m 4 0 ((m 4 0) + (1 : Int32))) (fun m1 => w_148 kc m1 (fun r2 m3 => (r2 = none → w_193_151 kc Φ (w_193_27 kc Φ K161 K174 n27) K161 K174 v1 v2 m3) ∧ (∀ q4, r2 = some q4 → vp_in (10 : Int32) 12 ∧ (vp_in (10 : Int32) 12 ∧ (w_104 kc q4 (it_sv m3 5 (Int32.toNatClampNeg (10 : Int32)) ((m3 5 (Int32.toNatClampNeg (10 : Int32))) + (1 : Int32))) (fun r5 m6 => (r5 = (1 : Int32) → w_172 kc q4 m6 (fun r7 m8 => (r7 = (-1 : Int32) → w_193_120 kc Φ (w_193_27 kc Φ K161 K174 n27) K161 K174 v1 v2 m8) ∧ (¬ r7 = (-1 : Int32) → w_37 kc q4 r7 m8 (fun m9 => w_193_120 kc Φ (w_193_27 kc Φ K161 K174 n27) K161 K174 v1 v2 m9)))) ∧ (¬ r5 = (1 : Int32) → (r5 = (2 : Int32) → w_77 kc q4 (m6 58 1) (m6 58 2) m6 (fun m10 => w_193_151 kc Φ (w_193_27 kc Φ K161 K174 n27) K161 K174 v1 v2 m10)) ∧ (¬ r5 = (2 : Int32) → w_193_151 kc Φ (w_193_27 kc Φ K161 K174 n27) K161 K174 v1 v2 m6)))))))))
def w_193_22 (kc : it_Kc) (Φ : Int32 → it_Me → Prop) (m : it_Me) : Prop :=
  Φ (-2 : Int32) m
def w_193_161 (kc : it_Kc) (Φ : Int32 → it_Me → Prop) (m : it_Me) : Prop :=
  w_212 kc m (fun m1 => Φ (-4 : Int32) m1)
def w_193_174 (kc : it_Kc) (Φ : Int32 → it_Me → Prop) (v1 : Int32) (m : it_Me) : Prop :=
  Φ v1 m
def w_193 (kc : it_Kc) (x0 : Int32) (m : it_Me) (Φ : Int32 → it_Me → Prop) : Prop :=
  ((m 0 10) = 0 → Φ (-3 : Int32) m) ∧ (¬ (m 0 10) = 0 → (x0 < (1 : Int32) → w_193_22 kc Φ m) ∧ (¬ x0 < (1 : Int32) → (x0 ≤ (20000 : Int32) → ∃ e, w_193_27 kc Φ (fun m => w_193_161 kc Φ m) (fun v1 m => w_193_174 kc Φ v1 m) e x0 (0 : Int32) m) ∧ (¬ x0 ≤ (20000 : Int32) → w_193_22 kc Φ m)))
/-- GrantBoard.press(IZ)I -/
def w_194_9 (kc : it_Kc) (Φ : Int32 → it_Me → Prop) (m : it_Me) : Prop :=
  Φ (-2 : Int32) m
def w_194_29 (kc : it_Kc) (Φ : Int32 → it_Me → Prop) (u0 : Int32) (m : it_Me) : Prop :=
  Φ u0 m
def w_194 (kc : it_Kc) (x0 : Int32) (x1 : Int32) (m : it_Me) (Φ : Int32 → it_Me → Prop) : Prop :=
  (x0 < 0 → w_194_9 kc Φ m) ∧ (¬ x0 < 0 → (x0 ≤ (3 : Int32) → w_54 kc x0 x1 m (fun r1 m2 => (r1 = 0 → w_194_29 kc Φ (0 : Int32) m2) ∧ (¬ r1 = 0 → w_194_29 kc Φ (1 : Int32) m2))) ∧ (¬ x0 ≤ (3 : Int32) → w_194_9 kc Φ m))
/-- GrantBoard.type(I)I -/
def w_195_21 (kc : it_Kc) (Φ : Int32 → it_Me → Prop) (m : it_Me) : Prop :=
  Φ (-2 : Int32) m
def w_195_40 (kc : it_Kc) (Φ : Int32 → it_Me → Prop) (u0 : Int32) (m : it_Me) : Prop :=
  Φ u0 m
def w_195 (kc : it_Kc) (x0 : Int32) (m : it_Me) (Φ : Int32 → it_Me → Prop) : Prop :=
  ((m 0 10) = 0 → Φ (-3 : Int32) m) ∧ (¬ (m 0 10) = 0 → (x0 < 0 → w_195_21 kc Φ m) ∧ (¬ x0 < 0 → (x0 ≤ (255 : Int32) → w_50 kc x0 m (fun r1 m2 => (r1 = 0 → w_195_40 kc Φ (0 : Int32) m2) ∧ (¬ r1 = 0 → w_195_40 kc Φ (1 : Int32) m2))) ∧ (¬ x0 ≤ (255 : Int32) → w_195_21 kc Φ m)))
/-- GrantBoard.level(II)I -/
def w_196_9 (kc : it_Kc) (Φ : Int32 → it_Me → Prop) (m : it_Me) : Prop :=
  Φ (-2 : Int32) m
def w_196 (kc : it_Kc) (x0 : Int32) (x1 : Int32) (m : it_Me) (Φ : Int32 → it_Me → Prop) : Prop :=
  (x0 < 0 → w_196_9 kc Φ m) ∧ (¬ x0 < 0 → (x0 ≤ (1 : Int32) → vp_in x0 2 ∧ (Φ (1 : Int32) (it_sv m 60 (Int32.toNatClampNeg x0) x1))) ∧ (¬ x0 ≤ (1 : Int32) → w_196_9 kc Φ m))
/-- GrantBoard.hold(IZ)I -/
def w_197 (kc : it_Kc) (x0 : Int32) (x1 : Int32) (m : it_Me) (Φ : Int32 → it_Me → Prop) : Prop :=
  ((m 0 10) = 0 → Φ (-3 : Int32) m) ∧ (¬ (m 0 10) = 0 → w_72 kc x0 m (fun r1 m2 => (r1 = none → Φ (-1 : Int32) m2) ∧ (∀ q3, r1 = some q3 → ((m2 q3 10) = x1 → Φ (0 : Int32) m2) ∧ (¬ (m2 q3 10) = x1 → (x1 = 0 ∨ x1 = 1) ∧ (Φ (1 : Int32) (it_sv m2 q3 10 x1))))))
/-- GrantBoard.restart(I)I -/
def w_198 (kc : it_Kc) (x0 : Int32) (m : it_Me) (Φ : Int32 → it_Me → Prop) : Prop :=
  ((m 0 10) = 0 → Φ (-3 : Int32) m) ∧ (¬ (m 0 10) = 0 → w_72 kc x0 m (fun r1 m2 => (r1 = none → Φ (-1 : Int32) m2) ∧ (∀ q3, r1 = some q3 → w_76 kc q3 m2 (fun m4 => Φ (1 : Int32) m4))))
/-- GrantBoard.count(I)I -/
def w_199_40 (kc : it_Kc) (Φ : Int32 → it_Me → Prop) (u0 : Int32) (m : it_Me) : Prop :=
  Φ u0 m
def w_199_88 (kc : it_Kc) (Φ : Int32 → it_Me → Prop) (u0 : Int32) (m : it_Me) : Prop :=
  Φ u0 m
def w_199_86 (kc : it_Kc) (Φ : Int32 → it_Me → Prop) (m : it_Me) : Prop :=
  w_199_88 kc Φ (-2 : Int32) m
def w_199 (kc : it_Kc) (x0 : Int32) (m : it_Me) (Φ : Int32 → it_Me → Prop) : Prop :=
  (x0 = (0 : Int32) → ((m 0 10) = 0 → w_199_40 kc Φ (0 : Int32) m) ∧ (¬ (m 0 10) = 0 → w_199_40 kc Φ (1 : Int32) m)) ∧ (¬ x0 = (0 : Int32) → (x0 = (1 : Int32) → Φ (m 9 7) m) ∧ (¬ x0 = (1 : Int32) → (x0 = (2 : Int32) → Φ (m 4 0) m) ∧ (¬ x0 = (2 : Int32) → (x0 ≤ (2 : Int32) → w_199_86 kc Φ m) ∧ (¬ x0 ≤ (2 : Int32) → ((12 : Int32) ≤ x0 → w_199_86 kc Φ m) ∧ (¬ (12 : Int32) ≤ x0 → vp_in x0 12 ∧ (w_199_88 kc Φ (m 5 (Int32.toNatClampNeg x0)) m))))))
/-- GrantBoard.process(II)I -/
def w_200_84 (kc : it_Kc) (Φ : Int32 → it_Me → Prop) (u0 : Int32) (m : it_Me) : Prop :=
  Φ u0 m
def w_200_105 (kc : it_Kc) (Φ : Int32 → it_Me → Prop) (u0 : Int32) (m : it_Me) : Prop :=
  Φ u0 m
def w_200_95 (kc : it_Kc) (Φ : Int32 → it_Me → Prop) (m : it_Me) : Prop :=
  w_200_105 kc Φ (-2 : Int32) m
def w_200 (kc : it_Kc) (x0 : Int32) (x1 : Int32) (m : it_Me) (Φ : Int32 → it_Me → Prop) : Prop :=
  ((m 0 10) = 0 → Φ (-3 : Int32) m) ∧ (¬ (m 0 10) = 0 → w_72 kc x0 m (fun r1 m2 => (r1 = none → Φ (-1 : Int32) m2) ∧ (∀ q3, r1 = some q3 → (x1 = (12 : Int32) → vp_in (m2 q3 0) 8 ∧ (Φ (m2 55 (Int32.toNatClampNeg (m2 q3 0))) m2)) ∧ (¬ x1 = (12 : Int32) → (x1 = (14 : Int32) → ((m2 54 4) = (m2 q3 0) → w_200_84 kc Φ (1 : Int32) m2) ∧ (¬ (m2 54 4) = (m2 q3 0) → w_200_84 kc Φ (0 : Int32) m2)) ∧ (¬ x1 = (14 : Int32) → (x1 < 0 → w_200_95 kc Φ m2) ∧ (¬ x1 < 0 → (x1 ≤ (14 : Int32) → w_135 kc q3 x1 m2 (fun r4 m5 => w_200_105 kc Φ r4 m5)) ∧ (¬ x1 ≤ (14 : Int32) → w_200_95 kc Φ m2)))))))
/-- GrantBoard.register(II)I -/
def w_201_43 (kc : it_Kc) (Φ : Int32 → it_Me → Prop) (u0 : Int32) (m : it_Me) : Prop :=
  Φ u0 m
def w_201_33 (kc : it_Kc) (Φ : Int32 → it_Me → Prop) (m : it_Me) : Prop :=
  w_201_43 kc Φ (-1 : Int32) m
def w_201 (kc : it_Kc) (x0 : Int32) (x1 : Int32) (m : it_Me) (Φ : Int32 → it_Me → Prop) : Prop :=
  ((m 0 10) = 0 → Φ (-3 : Int32) m) ∧ (¬ (m 0 10) = 0 → w_72 kc x0 m (fun r1 m2 => (r1 = none → w_201_33 kc Φ m2) ∧ (∀ q3, r1 = some q3 → (x1 < 0 → w_201_33 kc Φ m2) ∧ (¬ x1 < 0 → (x1 ≤ (31 : Int32) → vp_in x1 32 ∧ (w_201_43 kc Φ (m2 (q3 + 2) (Int32.toNatClampNeg x1)) m2)) ∧ (¬ x1 ≤ (31 : Int32) → w_201_33 kc Φ m2)))))
/-- GrantBoard.memory(I)I -/
def w_202_12 (kc : it_Kc) (Φ : Int32 → it_Me → Prop) (m : it_Me) : Prop :=
  Φ (-1 : Int32) m
def w_202_27 (kc : it_Kc) (Φ : Int32 → it_Me → Prop) (v1 : Int32) (m : it_Me) : Prop :=
  w_16 kc v1 m (fun r1 m2 => Φ r1 m2)
def w_202 (kc : it_Kc) (x0 : Int32) (m : it_Me) (Φ : Int32 → it_Me → Prop) : Prop :=
  (x0 < (65536 : Int32) → w_202_12 kc Φ m) ∧ (¬ x0 < (65536 : Int32) → (x0 < (196608 : Int32) → (x0 < (131072 : Int32) → w_202_27 kc Φ x0 m) ∧ (¬ x0 < (131072 : Int32) → w_92 kc m (fun m1 => w_202_27 kc Φ x0 m1))) ∧ (¬ x0 < (196608 : Int32) → w_202_12 kc Φ m))
/-- GrantBoard.entry(III)I -/
def w_203_35 (kc : it_Kc) (Φ : Int32 → it_Me → Prop) (m : it_Me) : Prop :=
  Φ (-1 : Int32) m
def w_203_46 (kc : it_Kc) (Φ : Int32 → it_Me → Prop) (m : it_Me) : Prop :=
  Φ (-2 : Int32) m
def w_203_83 (kc : it_Kc) (Φ : Int32 → it_Me → Prop) (u0 : Int32) (m : it_Me) : Prop :=
  Φ u0 m
def w_203 (kc : it_Kc) (x0 : Int32) (x1 : Int32) (x2 : Int32) (m : it_Me) (Φ : Int32 → it_Me → Prop) : Prop :=
  ((m 0 10) = 0 → Φ (-3 : Int32) m) ∧ (¬ (m 0 10) = 0 → w_72 kc x0 m (fun r1 m2 => (r1 = none → w_203_35 kc Φ m2) ∧ (∀ q3, r1 = some q3 → (x1 < 0 → w_203_35 kc Φ m2) ∧ (¬ x1 < 0 → (x1 ≤ (15 : Int32) → (x2 < 0 → w_203_46 kc Φ m2) ∧ (¬ x2 < 0 → (x2 ≤ (1 : Int32) → w_94 kc q3 m2 (fun m4 => (x2 = 0 → vp_in x1 16 ∧ (w_203_83 kc Φ (m4 11 (Int32.toNatClampNeg x1)) m4)) ∧ (¬ x2 = 0 → vp_in x1 16 ∧ (w_203_83 kc Φ (m4 12 (Int32.toNatClampNeg x1)) m4)))) ∧ (¬ x2 ≤ (1 : Int32) → w_203_46 kc Φ m2))) ∧ (¬ x1 ≤ (15 : Int32) → w_203_35 kc Φ m2)))))
/-- GrantBoard.upcall(III)I -/
def w_204_38 (kc : it_Kc) (Φ : Int32 → it_Me → Prop) (m : it_Me) : Prop :=
  Φ (-1 : Int32) m
def w_204_49 (kc : it_Kc) (Φ : Int32 → it_Me → Prop) (m : it_Me) : Prop :=
  Φ (-2 : Int32) m
def w_204 (kc : it_Kc) (x0 : Int32) (x1 : Int32) (x2 : Int32) (m : it_Me) (Φ : Int32 → it_Me → Prop) : Prop :=
  ((m 0 10) = 0 → Φ (-3 : Int32) m) ∧ (¬ (m 0 10) = 0 → w_72 kc x0 m (fun r1 m2 => (r1 = none → w_204_38 kc Φ m2) ∧ (∀ q3, r1 = some q3 → (x1 < 0 → w_204_38 kc Φ m2) ∧ (¬ x1 < 0 → (x1 < (m2 q3 14) → (x2 < 0 → w_204_49 kc Φ m2) ∧ (¬ x2 < 0 → (x2 ≤ (4 : Int32) → vp_in ((x1 * (5 : Int32)) + x2) 50 ∧ (Φ (m2 (q3 + 3) (Int32.toNatClampNeg ((x1 * (5 : Int32)) + x2))) m2)) ∧ (¬ x2 ≤ (4 : Int32) → w_204_49 kc Φ m2))) ∧ (¬ x1 < (m2 q3 14) → w_204_38 kc Φ m2)))))
/-- GrantBoard.grant(II)I -/
def w_205_42 (kc : it_Kc) (Φ : Int32 → it_Me → Prop) (m : it_Me) : Prop :=
  Φ (-1 : Int32) m
def w_205 (kc : it_Kc) (x0 : Int32) (x1 : Int32) (m : it_Me) (Φ : Int32 → it_Me → Prop) : Prop :=
  ((m 0 10) = 0 → Φ (-3 : Int32) m) ∧ (¬ (m 0 10) = 0 → w_72 kc x0 m (fun r1 m2 => (r1 = none → w_205_42 kc Φ m2) ∧ (∀ q3, r1 = some q3 → (x1 < 0 → w_205_42 kc Φ m2) ∧ (¬ x1 < 0 → ((9 : Int32) ≤ x1 → w_205_42 kc Φ m2) ∧ (¬ (9 : Int32) ≤ x1 → vp_in x1 9 ∧ (((m2 (q3 + 4) (Int32.toNatClampNeg x1)) = 0 → w_205_42 kc Φ m2) ∧ (¬ (m2 (q3 + 4) (Int32.toNatClampNeg x1)) = 0 → vp_in x1 9 ∧ (Φ (m2 (q3 + 4) (Int32.toNatClampNeg x1)) m2))))))))
/-- GrantBoard.out(I)I -/
def w_206 (kc : it_Kc) (x0 : Int32) (m : it_Me) (Φ : Int32 → it_Me → Prop) : Prop :=
  w_38 kc x0 m (fun r1 m2 => Φ r1 m2)
/-- GrantBoard.lamp(I)I -/
def w_207_24 (kc : it_Kc) (Φ : Int32 → it_Me → Prop) (u0 : Int32) (m : it_Me) : Prop :=
  Φ u0 m
def w_207_9 (kc : it_Kc) (Φ : Int32 → it_Me → Prop) (m : it_Me) : Prop :=
  w_207_24 kc Φ (-1 : Int32) m
def w_207 (kc : it_Kc) (x0 : Int32) (m : it_Me) (Φ : Int32 → it_Me → Prop) : Prop :=
  (x0 < 0 → w_207_9 kc Φ m) ∧ (¬ x0 < 0 → (x0 ≤ (3 : Int32) → w_207_24 kc Φ ((it_us (m 59 4) x0) &&& (1 : Int32)) m) ∧ (¬ x0 ≤ (3 : Int32) → w_207_9 kc Φ m))
/-- GrantBoard.event(II)I -/
def w_208 (kc : it_Kc) (x0 : Int32) (x1 : Int32) (m : it_Me) (Φ : Int32 → it_Me → Prop) : Prop :=
  w_70 kc x0 x1 m (fun r1 m2 => Φ r1 m2)
/-- GrantBoard.stored(III)I -/
def w_209 (kc : it_Kc) (x0 : Int32) (x1 : Int32) (x2 : Int32) (m : it_Me) (Φ : Int32 → it_Me → Prop) : Prop :=
  w_158 kc x0 x1 x2 m (fun r1 m2 => Φ r1 m2)
/-- GrantBoard.audit()I -/
def w_210_4 (kc : it_Kc) (Φ : Int32 → it_Me → Prop) (K40 : Int32 → it_Me → Prop) : Nat → Int32 → Int32 → it_Me → Prop
  | 0, _, _, _ => False
  | n4 + 1, v1, v2, m =>
  ((m 9 7) ≤ v2 → K40 v1 m) ∧ (¬ (m 9 7) ≤ v2 → vp_in v2 8 ∧ (w_93 kc (14 + 5 * Int32.toNatClampNeg v2) m (fun r1 m2 => (w_210_4 kc Φ K40 n4) (v1 + r1) (v2 + (1 : Int32)) m2)))
def w_210_40 (kc : it_Kc) (Φ : Int32 → it_Me → Prop) (v1 : Int32) (m : it_Me) : Prop :=
  Φ v1 m
def w_210 (kc : it_Kc) (m : it_Me) (Φ : Int32 → it_Me → Prop) : Prop :=
  ∃ e, w_210_4 kc Φ (fun v1 m => w_210_40 kc Φ v1 m) e (0 : Int32) (0 : Int32) m
/-- GrantBoardModel.byteAt(I)I -/
def w_218 (kc : it_Kc) (x0 : Int32) (m : it_Me) (Φ : Int32 → it_Me → Prop) : Prop :=
  vp_in x0 196608 ∧ (Φ ((m 67 (Int32.toNatClampNeg x0)) &&& (255 : Int32)) m)
/-- GrantBoardModel.half(I)I -/
def w_219 (kc : it_Kc) (x0 : Int32) (m : it_Me) (Φ : Int32 → it_Me → Prop) : Prop :=
  w_218 kc x0 m (fun r1 m2 => w_218 kc (x0 + (1 : Int32)) m2 (fun r3 m4 => Φ (r1 ||| (it_shl r3 (8 : Int32))) m4))
/-- GrantBoardModel.word(I)I -/
def w_220 (kc : it_Kc) (x0 : Int32) (m : it_Me) (Φ : Int32 → it_Me → Prop) : Prop :=
  w_219 kc x0 m (fun r1 m2 => w_219 kc (x0 + (2 : Int32)) m2 (fun r3 m4 => Φ (r1 ||| (it_shl r3 (16 : Int32))) m4))
/-- GrantBoardModel.setWord(II)V -/
def w_221_2 (kc : it_Kc) (Φ : it_Me → Prop) (K28 : it_Me → Prop) : Nat → Int32 → Int32 → Int32 → it_Me → Prop
  | 0, _, _, _, _ => False
  | n2 + 1, v1, v2, v3, m =>
  ((4 : Int32) ≤ v3 → K28 m) ∧ (¬ (4 : Int32) ≤ v3 → vp_in (v1 + v3) 196608 ∧ ((w_221_2 kc Φ K28 n2) v1 v2 (v3 + (1 : Int32)) (it_sv m 67 (Int32.toNatClampNeg (v1 + v3)) (it_i2b (it_i2b (it_shr v2 ((8 : Int32) * v3)))))))
def w_221_28 (kc : it_Kc) (Φ : it_Me → Prop) (m : it_Me) : Prop :=
  Φ m
def w_221 (kc : it_Kc) (x0 : Int32) (x1 : Int32) (m : it_Me) (Φ : it_Me → Prop) : Prop :=
  ∃ e, w_221_2 kc Φ (fun m => w_221_28 kc Φ m) e x0 x1 (0 : Int32) m
/-- GrantBoardModel.crc(II)I -/
def w_222_48 (kc : it_Kc) (Φ : Int32 → it_Me → Prop) (K25 : Int32 → Int32 → Int32 → Int32 → Int32 → it_Me → Prop) (K56 : Int32 → Int32 → Int32 → Int32 → it_Me → Prop) (v1 : Int32) (v2 : Int32) (v4 : Int32) (v5 : Int32) (u0 : Int32) (u1 : Int32) (m : it_Me) : Prop :=
  K25 v1 v2 (u0 ^^^ u1) v4 (v5 + (1 : Int32)) m
def w_222_25 (kc : it_Kc) (Φ : Int32 → it_Me → Prop) (K56 : Int32 → Int32 → Int32 → Int32 → it_Me → Prop) : Nat → Int32 → Int32 → Int32 → Int32 → Int32 → it_Me → Prop
  | 0, _, _, _, _, _, _ => False
  | n25 + 1, v1, v2, v3, v4, v5, m =>
  ((8 : Int32) ≤ v5 → K56 v1 v2 v3 v4 m) ∧ (¬ (8 : Int32) ≤ v5 → ((v3 &&& (1 : Int32)) = (1 : Int32) → w_222_48 kc Φ (w_222_25 kc Φ K56 n25) K56 v1 v2 v4 v5 (it_us v3 (1 : Int32)) (-306674912 : Int32) m) ∧ (¬ (v3 &&& (1 : Int32)) = (1 : Int32) → w_222_48 kc Φ (w_222_25 kc Φ K56 n25) K56 v1 v2 v4 v5 (it_us v3 (1 : Int32)) (0 : Int32) m))
def w_222_56 (kc : it_Kc) (Φ : Int32 → it_Me → Prop) (K5 : Int32 → Int32 → Int32 → Int32 → it_Me → Prop) (K62 : Int32 → it_Me → Prop) (v1 : Int32) (v2 : Int32) (v3 : Int32) (v4 : Int32) (m : it_Me) : Prop :=
  K5 v1 v2 v3 (v4 + (1 : Int32)) m
def w_222_5 (kc : it_Kc) (Φ : Int32 → it_Me → Prop) (K62 : Int32 → it_Me → Prop) : Nat → Int32 → Int32 → Int32 → Int32 → it_Me → Prop
  | 0, _, _, _, _, _ => False
  | n5 + 1, v1, v2, v3, v4, m =>
  (v2 ≤ v4 → K62 v3 m) ∧ (¬ v2 ≤ v4 → w_218 kc (v1 + v4) m (fun r1 m2 => ∃ e, w_222_25 kc Φ (fun v1 v2 v3 v4 m => w_222_56 kc Φ (w_222_5 kc Φ K62 n5) K62 v1 v2 v3 v4 m) e v1 v2 (v3 ^^^ r1) v4 (0 : Int32) m2))
def w_222_62 (kc : it_Kc) (Φ : Int32 → it_Me → Prop) (v3 : Int32) (m : it_Me) : Prop :=
  Φ (v3 ^^^ (-1 : Int32)) m
def w_222 (kc : it_Kc) (x0 : Int32) (x1 : Int32) (m : it_Me) (Φ : Int32 → it_Me → Prop) : Prop :=
  ∃ e, w_222_5 kc Φ (fun v3 m => w_222_62 kc Φ v3 m) e x0 x1 (-1 : Int32) (0 : Int32) m
/-- GrantBoardModel.feedWord(I)V -/
def w_224_3 (kc : it_Kc) (Φ : it_Me → Prop) (K36 : it_Me → Prop) : Nat → Int32 → Int32 → it_Me → Prop
  | 0, _, _, _ => False
  | n3 + 1, v1, v2, m =>
  (v2 < 0 → K36 m) ∧ (¬ v2 < 0 → vp_in (m 66 2) 8192 ∧ ((w_224_3 kc Φ K36 n3) v1 (v2 + (-8 : Int32)) (it_sv (it_sv m 68 (Int32.toNatClampNeg (m 66 2)) (it_i2b (it_i2b (it_shr v1 v2)))) 66 2 (((it_sv m 68 (Int32.toNatClampNeg (m 66 2)) (it_i2b (it_i2b (it_shr v1 v2)))) 66 2) + (1 : Int32)))))
def w_224_36 (kc : it_Kc) (Φ : it_Me → Prop) (m : it_Me) : Prop :=
  Φ m
def w_224 (kc : it_Kc) (x0 : Int32) (m : it_Me) (Φ : it_Me → Prop) : Prop :=
  ∃ e, w_224_3 kc Φ (fun m => w_224_36 kc Φ m) e x0 (24 : Int32) m
/-- GrantBoardModel.feed(IIIII)I -/
def w_223 (kc : it_Kc) (x0 : Int32) (x1 : Int32) (x2 : Int32) (x3 : Int32) (x4 : Int32) (m : it_Me) (Φ : Int32 → it_Me → Prop) : Prop :=
  (((m 66 2) + (20 : Int32)) ≤ (8192 : Int32) → w_224 kc x0 m (fun m1 => w_224 kc x1 m1 (fun m2 => w_224 kc x2 m2 (fun m3 => w_224 kc x3 m3 (fun m4 => w_224 kc x4 m4 (fun m5 => Φ (m5 66 2) m5)))))) ∧ (¬ ((m 66 2) + (20 : Int32)) ≤ (8192 : Int32) → Φ (-1 : Int32) m)
/-- GrantBoardModel.end(I)I -/
def w_225_12 (kc : it_Kc) (Φ : Int32 → it_Me → Prop) (m : it_Me) : Prop :=
  Φ (-2 : Int32) m
def w_225 (kc : it_Kc) (x0 : Int32) (m : it_Me) (Φ : Int32 → it_Me → Prop) : Prop :=
  (x0 < 0 → w_225_12 kc Φ m) ∧ (¬ x0 < 0 → (x0 ≤ (m 66 2) → Φ x0 (it_sv m 66 2 x0)) ∧ (¬ x0 ≤ (m 66 2) → w_225_12 kc Φ m))
/-- GrantBoardModel.burn(I)I -/
def w_226_45 (kc : it_Kc) (Φ : Int32 → it_Me → Prop) (K70 : Int32 → it_Me → Prop) : Nat → Int32 → Int32 → Int32 → it_Me → Prop
  | 0, _, _, _, _ => False
  | n45 + 1, v1, v2, v3, m =>
  (v2 ≤ v3 → K70 v2 m) ∧ (¬ v2 ≤ v3 → vp_in v3 8192 ∧ (vp_in (v1 + v3) 196608 ∧ ((w_226_45 kc Φ K70 n45) v1 v2 (v3 + (1 : Int32)) (it_sv m 67 (Int32.toNatClampNeg (v1 + v3)) (it_i2b (m 68 (Int32.toNatClampNeg v3)))))))
def w_226_40 (kc : it_Kc) (Φ : Int32 → it_Me → Prop) (m : it_Me) : Prop :=
  Φ (-2 : Int32) m
def w_226_70 (kc : it_Kc) (Φ : Int32 → it_Me → Prop) (v2 : Int32) (m : it_Me) : Prop :=
  Φ v2 m
def w_226 (kc : it_Kc) (x0 : Int32) (m : it_Me) (Φ : Int32 → it_Me → Prop) : Prop :=
  (((it_sv m 66 2 (0 : Int32)) 66 3) = 0 → (x0 < (65536 : Int32) → w_226_40 kc Φ (it_sv m 66 2 (0 : Int32))) ∧ (¬ x0 < (65536 : Int32) → ((131072 : Int32) < x0 → w_226_40 kc Φ (it_sv m 66 2 (0 : Int32))) ∧ (¬ (131072 : Int32) < x0 → ((x0 + (m 66 2)) ≤ (131072 : Int32) → ∃ e, w_226_45 kc Φ (fun v2 m => w_226_70 kc Φ v2 m) e x0 (m 66 2) (0 : Int32) (it_sv m 66 2 (0 : Int32))) ∧ (¬ (x0 + (m 66 2)) ≤ (131072 : Int32) → w_226_40 kc Φ (it_sv m 66 2 (0 : Int32)))))) ∧ (¬ ((it_sv m 66 2 (0 : Int32)) 66 3) = 0 → Φ (-3 : Int32) (it_sv m 66 2 (0 : Int32)))
/-- GrantBoardModel.goOff()V -/
def w_228_18 (kc : it_Kc) (Φ : it_Me → Prop) (K37 : it_Me → Prop) : Nat → Int32 → it_Me → Prop
  | 0, _, _ => False
  | n18 + 1, v1, m =>
  ((196608 : Int32) ≤ v1 → K37 m) ∧ (¬ (196608 : Int32) ≤ v1 → vp_in v1 196608 ∧ ((w_228_18 kc Φ K37 n18) (v1 + (1 : Int32)) (it_sv m 67 (Int32.toNatClampNeg v1) (it_i2b (0 : Int32)))))
def w_228_37 (kc : it_Kc) (Φ : it_Me → Prop) (m : it_Me) : Prop :=
  Φ m
def w_228 (kc : it_Kc) (m : it_Me) (Φ : it_Me → Prop) : Prop :=
  ∃ e, w_228_18 kc Φ (fun m => w_228_37 kc Φ m) e (131072 : Int32) (it_sv (it_sv (it_sv m 66 3 (0 : Int32)) 66 6 (0 : Int32)) 66 34 (0 : Int32))
/-- GrantBoardModel.off()I -/
def w_227 (kc : it_Kc) (m : it_Me) (Φ : Int32 → it_Me → Prop) : Prop :=
  ((m 66 3) = 0 → Φ (-3 : Int32) m) ∧ (¬ (m 66 3) = 0 → w_228 kc m (fun m1 => Φ (1 : Int32) m1))
/-- GrantBoardModel.cut(I)I -/
def w_229_12 (kc : it_Kc) (Φ : Int32 → it_Me → Prop) (m : it_Me) : Prop :=
  Φ (-2 : Int32) m
def w_229 (kc : it_Kc) (x0 : Int32) (m : it_Me) (Φ : Int32 → it_Me → Prop) : Prop :=
  (x0 < (-1 : Int32) → w_229_12 kc Φ m) ∧ (¬ x0 < (-1 : Int32) → (x0 ≤ (10000 : Int32) → Φ (1 : Int32) (it_sv m 66 5 x0)) ∧ (¬ x0 ≤ (10000 : Int32) → w_229_12 kc Φ m))
/-- GrantBoardModel.writes()Z -/
def w_230_38 (kc : it_Kc) (Φ : Int32 → it_Me → Prop) (u1 : Int32) (m : it_Me) : Prop :=
  vp_in (4 : Int32) 12 ∧ (vp_in (4 : Int32) 12 ∧ (Φ (1 : Int32) (it_sv (it_sv m 66 5 u1) 69 (Int32.toNatClampNeg (4 : Int32)) (((it_sv m 66 5 u1) 69 (Int32.toNatClampNeg (4 : Int32))) + (1 : Int32)))))
def w_230 (kc : it_Kc) (m : it_Me) (Φ : Int32 → it_Me → Prop) : Prop :=
  ((m 66 5) = 0 → Φ (0 : Int32) (it_sv (it_sv m 66 5 (-1 : Int32)) 66 4 (1 : Int32))) ∧ (¬ (m 66 5) = 0 → ((m 66 5) = (-1 : Int32) → w_230_38 kc Φ (-1 : Int32) m) ∧ (¬ (m 66 5) = (-1 : Int32) → w_230_38 kc Φ ((m 66 5) - (1 : Int32)) m))
/-- GrantBoardModel.putWord(II)V -/
def w_231_20 (kc : it_Kc) (Φ : it_Me → Prop) (m : it_Me) : Prop :=
  Φ m
def w_231 (kc : it_Kc) (x0 : Int32) (x1 : Int32) (m : it_Me) (Φ : it_Me → Prop) : Prop :=
  ((m 66 4) = 0 → w_230 kc m (fun r1 m2 => (r1 = 0 → w_231_20 kc Φ m2) ∧ (¬ r1 = 0 → w_221 kc x0 x1 m2 (fun m3 => w_231_20 kc Φ m3)))) ∧ (¬ (m 66 4) = 0 → w_231_20 kc Φ m)
/-- GrantBoardModel.erase(I)V -/
def w_232_27 (kc : it_Kc) (Φ : it_Me → Prop) (K54 : it_Me → Prop) : Nat → Int32 → Int32 → Int32 → it_Me → Prop
  | 0, _, _, _, _ => False
  | n27 + 1, v1, v2, v3, m =>
  (v2 ≤ v3 → K54 m) ∧ (¬ v2 ≤ v3 → vp_in (((126976 : Int32) + ((2048 : Int32) * v1)) + v3) 196608 ∧ ((w_232_27 kc Φ K54 n27) v1 v2 (v3 + (1 : Int32)) (it_sv m 67 (Int32.toNatClampNeg (((126976 : Int32) + ((2048 : Int32) * v1)) + v3)) (it_i2b (-1 : Int32)))))
def w_232_54 (kc : it_Kc) (Φ : it_Me → Prop) (m : it_Me) : Prop :=
  Φ m
def w_232_24 (kc : it_Kc) (Φ : it_Me → Prop) (v1 : Int32) (u0 : Int32) (m : it_Me) : Prop :=
  ∃ e, w_232_27 kc Φ (fun m => w_232_54 kc Φ m) e v1 u0 (0 : Int32) m
def w_232 (kc : it_Kc) (x0 : Int32) (m : it_Me) (Φ : it_Me → Prop) : Prop :=
  ((m 66 4) = 0 → w_230 kc m (fun r1 m2 => (r1 = 0 → w_232_24 kc Φ x0 (1024 : Int32) m2) ∧ (¬ r1 = 0 → w_232_24 kc Φ x0 (2048 : Int32) m2))) ∧ (¬ (m 66 4) = 0 → Φ m)
/-- GrantBoardModel.base(I)I -/
def w_233 (kc : it_Kc) (x0 : Int32) (m : it_Me) (Φ : Int32 → it_Me → Prop) : Prop :=
  Φ ((126976 : Int32) + ((2048 : Int32) * x0)) m
/-- GrantBoardModel.isGood(I)Z -/
def w_234_23 (kc : it_Kc) (Φ : Int32 → it_Me → Prop) (u0 : Int32) (m : it_Me) : Prop :=
  (u0 = 0 ∨ u0 = 1) ∧ Φ u0 m
def w_234 (kc : it_Kc) (x0 : Int32) (m : it_Me) (Φ : Int32 → it_Me → Prop) : Prop :=
  w_233 kc x0 m (fun r1 m2 => w_220 kc r1 m2 (fun r3 m4 => ((it_us r3 (16 : Int32)) = (19286 : Int32) → w_234_23 kc Φ (1 : Int32) m4) ∧ (¬ (it_us r3 (16 : Int32)) = (19286 : Int32) → w_234_23 kc Φ (0 : Int32) m4)))
/-- GrantBoardModel.recordEnd(II)I -/
def w_235_114 (kc : it_Kc) (Φ : Int32 → it_Me → Prop) (K140 : Int32 → Int32 → it_Me → Prop) : Nat → Int32 → Int32 → Int32 → it_Me → Prop
  | 0, _, _, _, _ => False
  | n114 + 1, v7, v8, v9, m =>
  ((v7 - (4 : Int32)) ≤ v9 → K140 v7 v8 m) ∧ (¬ (v7 - (4 : Int32)) ≤ v9 → w_220 kc v9 m (fun r1 m2 => (w_235_114 kc Φ K140 n114) v7 (v8 ^^^ r1) (v9 + (4 : Int32)) m2))
def w_235_27 (kc : it_Kc) (Φ : Int32 → it_Me → Prop) (m : it_Me) : Prop :=
  Φ (-1 : Int32) m
def w_235_169 (kc : it_Kc) (Φ : Int32 → it_Me → Prop) (u0 : Int32) (m : it_Me) : Prop :=
  Φ u0 m
def w_235_152 (kc : it_Kc) (Φ : Int32 → it_Me → Prop) (v7 : Int32) (u0 : Int32) (m : it_Me) : Prop :=
  w_220 kc (v7 - (4 : Int32)) m (fun r1 m2 => (u0 = r1 → w_235_169 kc Φ v7 m2) ∧ (¬ u0 = r1 → w_235_169 kc Φ (-1 : Int32) m2))
def w_235_140 (kc : it_Kc) (Φ : Int32 → it_Me → Prop) (v7 : Int32) (v8 : Int32) (m : it_Me) : Prop :=
  (v8 = (-1 : Int32) → w_235_152 kc Φ v7 (0 : Int32) m) ∧ (¬ v8 = (-1 : Int32) → w_235_152 kc Φ v7 v8 m)
def w_235_86 (kc : it_Kc) (Φ : Int32 → it_Me → Prop) (v2 : Int32) (v3 : Int32) (u0 : Int32) (m : it_Me) : Prop :=
  (((v2 + (16 : Int32)) + ((4 : Int32) * u0)) ≤ v3 → ∃ e, w_235_114 kc Φ (fun v7 v8 m => w_235_140 kc Φ v7 v8 m) e ((v2 + (16 : Int32)) + ((4 : Int32) * u0)) (1515870810 : Int32) v2 m) ∧ (¬ ((v2 + (16 : Int32)) + ((4 : Int32) * u0)) ≤ v3 → Φ (-1 : Int32) m)
def w_235_64 (kc : it_Kc) (Φ : Int32 → it_Me → Prop) (v2 : Int32) (v3 : Int32) (v4 : Int64) (m : it_Me) : Prop :=
  ((lg_cmp v4 (255 : Int64)) = 0 → w_235_86 kc Φ v2 v3 (0 : Int32) m) ∧ (¬ (lg_cmp v4 (255 : Int64)) = 0 → ¬ (4 : Int32) = 0 ∧ (w_235_86 kc Φ v2 v3 ((Int64.toInt32 (v4 + (3 : Int64))) / (4 : Int32)) m))
def w_235 (kc : it_Kc) (x0 : Int32) (x1 : Int32) (m : it_Me) (Φ : Int32 → it_Me → Prop) : Prop :=
  w_233 kc x0 m (fun r1 m2 => ((r1 + (2048 : Int32)) < (x1 + (16 : Int32)) → w_235_27 kc Φ m2) ∧ (¬ (r1 + (2048 : Int32)) < (x1 + (16 : Int32)) → w_220 kc x1 m2 (fun r3 m4 => (r3 = (-1 : Int32) → w_235_27 kc Φ m4) ∧ (¬ r3 = (-1 : Int32) → w_220 kc (x1 + (8 : Int32)) m4 (fun r5 m6 => ((lg_cmp ((Int32.toInt64 r5) &&& (4294967295 : Int64)) (32 : Int64)) ≤ 0 → w_235_64 kc Φ x1 (r1 + (2048 : Int32)) ((Int32.toInt64 r5) &&& (4294967295 : Int64)) m6) ∧ (¬ (lg_cmp ((Int32.toInt64 r5) &&& (4294967295 : Int64)) (32 : Int64)) ≤ 0 → ((lg_cmp ((Int32.toInt64 r5) &&& (4294967295 : Int64)) (255 : Int64)) = 0 → w_235_64 kc Φ x1 (r1 + (2048 : Int32)) ((Int32.toInt64 r5) &&& (4294967295 : Int64)) m6) ∧ (¬ (lg_cmp ((Int32.toInt64 r5) &&& (4294967295 : Int64)) (255 : Int64)) = 0 → Φ (-1 : Int32) m6)))))))
/-- GrantBoardModel.storeEnd(I)I -/
def w_236_15 (kc : it_Kc) (Φ : Int32 → it_Me → Prop) (K32 : Int32 → it_Me → Prop) : Nat → Int32 → Int32 → Int32 → it_Me → Prop
  | 0, _, _, _, _ => False
  | n15 + 1, v1, v2, v3, m =>
  (v3 = (-1 : Int32) → K32 v2 m) ∧ (¬ v3 = (-1 : Int32) → w_235 kc v1 v3 m (fun r1 m2 => (w_236_15 kc Φ K32 n15) v1 v3 r1 m2))
def w_236_32 (kc : it_Kc) (Φ : Int32 → it_Me → Prop) (v2 : Int32) (m : it_Me) : Prop :=
  Φ v2 m
def w_236 (kc : it_Kc) (x0 : Int32) (m : it_Me) (Φ : Int32 → it_Me → Prop) : Prop :=
  w_233 kc x0 m (fun r1 m2 => w_235 kc x0 (r1 + (4 : Int32)) m2 (fun r3 m4 => ∃ e, w_236_15 kc Φ (fun v2 m => w_236_32 kc Φ v2 m) e x0 (r1 + (4 : Int32)) r3 m4))
/-- GrantBoardModel.isClean(I)Z -/
def w_237_6 (kc : it_Kc) (Φ : Int32 → it_Me → Prop) (K29 : it_Me → Prop) (K37 : it_Me → Prop) : Nat → Int32 → Int32 → it_Me → Prop
  | 0, _, _, _ => False
  | n6 + 1, v1, v2, m =>
  w_233 kc v1 m (fun r1 m2 => ((r1 + (2048 : Int32)) ≤ v2 → K37 m2) ∧ (¬ (r1 + (2048 : Int32)) ≤ v2 → vp_in v2 196608 ∧ (((m2 67 (Int32.toNatClampNeg v2)) = (-1 : Int32) → (w_237_6 kc Φ K29 K37 n6) v1 (v2 + (1 : Int32)) m2) ∧ (¬ (m2 67 (Int32.toNatClampNeg v2)) = (-1 : Int32) → K29 m2))))
def w_237_29 (kc : it_Kc) (Φ : Int32 → it_Me → Prop) (m : it_Me) : Prop :=
  Φ (0 : Int32) m
def w_237_37 (kc : it_Kc) (Φ : Int32 → it_Me → Prop) (m : it_Me) : Prop :=
  Φ (1 : Int32) m
def w_237 (kc : it_Kc) (x0 : Int32) (m : it_Me) (Φ : Int32 → it_Me → Prop) : Prop :=
  w_236 kc x0 m (fun r1 m2 => ∃ e, w_237_6 kc Φ (fun m => w_237_29 kc Φ m) (fun m => w_237_37 kc Φ m) e x0 r1 m2)
/-- GrantBoardModel.lastRecord(III)I -/
def w_238_56 (kc : it_Kc) (Φ : Int32 → it_Me → Prop) (K21 : Int32 → Int32 → Int32 → Int32 → Int32 → Int32 → it_Me → Prop) (K74 : Int32 → it_Me → Prop) (v1 : Int32) (v2 : Int32) (v3 : Int32) (v6 : Int32) (u0 : Int32) (m : it_Me) : Prop :=
  w_235 kc v1 v6 m (fun r1 m2 => K21 v1 v2 v3 u0 v6 r1 m2)
def w_238_54 (kc : it_Kc) (Φ : Int32 → it_Me → Prop) (K21 : Int32 → Int32 → Int32 → Int32 → Int32 → Int32 → it_Me → Prop) (K74 : Int32 → it_Me → Prop) (v1 : Int32) (v2 : Int32) (v3 : Int32) (v4 : Int32) (v6 : Int32) (m : it_Me) : Prop :=
  w_238_56 kc Φ K21 K74 v1 v2 v3 v6 v4 m
def w_238_21 (kc : it_Kc) (Φ : Int32 → it_Me → Prop) (K74 : Int32 → it_Me → Prop) : Nat → Int32 → Int32 → Int32 → Int32 → Int32 → Int32 → it_Me → Prop
  | 0, _, _, _, _, _, _, _ => False
  | n21 + 1, v1, v2, v3, v4, v5, v6, m =>
  (v6 = (-1 : Int32) → K74 v4 m) ∧ (¬ v6 = (-1 : Int32) → w_220 kc v5 m (fun r1 m2 => (r1 = v2 → w_220 kc (v5 + (4 : Int32)) m2 (fun r3 m4 => (r3 = v3 → w_238_56 kc Φ (w_238_21 kc Φ K74 n21) K74 v1 v2 v3 v6 v5 m4) ∧ (¬ r3 = v3 → w_238_54 kc Φ (w_238_21 kc Φ K74 n21) K74 v1 v2 v3 v4 v6 m4))) ∧ (¬ r1 = v2 → w_238_54 kc Φ (w_238_21 kc Φ K74 n21) K74 v1 v2 v3 v4 v6 m2)))
def w_238_74 (kc : it_Kc) (Φ : Int32 → it_Me → Prop) (v4 : Int32) (m : it_Me) : Prop :=
  Φ v4 m
def w_238 (kc : it_Kc) (x0 : Int32) (x1 : Int32) (x2 : Int32) (m : it_Me) (Φ : Int32 → it_Me → Prop) : Prop :=
  w_233 kc x0 m (fun r1 m2 => w_235 kc x0 (r1 + (4 : Int32)) m2 (fun r3 m4 => ∃ e, w_238_21 kc Φ (fun v4 m => w_238_74 kc Φ v4 m) e x0 x1 x2 (-1 : Int32) (r1 + (4 : Int32)) r3 m4))
/-- GrantBoardModel.valueOf(II)I -/
def w_239_47 (kc : it_Kc) (Φ : Int32 → it_Me → Prop) (u0 : Int32) (m : it_Me) : Prop :=
  Φ u0 m
def w_239_42 (kc : it_Kc) (Φ : Int32 → it_Me → Prop) (m : it_Me) : Prop :=
  w_239_47 kc Φ (-1 : Int32) m
def w_239_22 (kc : it_Kc) (Φ : Int32 → it_Me → Prop) (u0 : Int32) (m : it_Me) : Prop :=
  (u0 = (-1 : Int32) → w_239_42 kc Φ m) ∧ (¬ u0 = (-1 : Int32) → w_220 kc (u0 + (8 : Int32)) m (fun r1 m2 => (r1 = (255 : Int32) → w_239_42 kc Φ m2) ∧ (¬ r1 = (255 : Int32) → w_239_47 kc Φ u0 m2)))
def w_239 (kc : it_Kc) (x0 : Int32) (x1 : Int32) (m : it_Me) (Φ : Int32 → it_Me → Prop) : Prop :=
  ((m 66 17) = (-1 : Int32) → w_239_22 kc Φ (-1 : Int32) m) ∧ (¬ (m 66 17) = (-1 : Int32) → w_238 kc (m 66 17) x0 x1 m (fun r1 m2 => w_239_22 kc Φ r1 m2))
/-- GrantBoardModel.compact()V -/
def w_240_120 (kc : it_Kc) (Φ : it_Me → Prop) (K153 : Int32 → Int32 → Int32 → Int32 → Int32 → it_Me → Prop) : Nat → Int32 → Int32 → Int32 → Int32 → Int32 → Int32 → Int32 → it_Me → Prop
  | 0, _, _, _, _, _, _, _, _ => False
  | n120 + 1, v1, v2, v3, v4, v6, v7, v8, m =>
  (v7 = 0 → K153 v1 v2 v3 v4 v6 m) ∧ (¬ v7 = 0 → (v6 ≤ v8 → K153 v1 v2 v3 v4 v6 m) ∧ (¬ v6 ≤ v8 → w_220 kc v8 m (fun r1 m2 => w_231 kc v4 r1 m2 (fun m3 => (w_240_120 kc Φ K153 n120) v1 v2 v3 (v4 + (4 : Int32)) v6 v7 (v8 + (4 : Int32)) m3))))
def w_240_153 (kc : it_Kc) (Φ : it_Me → Prop) (K57 : Int32 → Int32 → Int32 → Int32 → Int32 → Int32 → it_Me → Prop) (K169 : Int32 → Int32 → it_Me → Prop) (v1 : Int32) (v2 : Int32) (v3 : Int32) (v4 : Int32) (v6 : Int32) (m : it_Me) : Prop :=
  w_235 kc v1 v6 m (fun r1 m2 => K57 v1 v2 v3 v4 v6 r1 m2)
def w_240_114 (kc : it_Kc) (Φ : it_Me → Prop) (K57 : Int32 → Int32 → Int32 → Int32 → Int32 → Int32 → it_Me → Prop) (K169 : Int32 → Int32 → it_Me → Prop) (v1 : Int32) (v2 : Int32) (v3 : Int32) (v4 : Int32) (v5 : Int32) (v6 : Int32) (u0 : Int32) (m : it_Me) : Prop :=
  ∃ e, w_240_120 kc Φ (fun v1 v2 v3 v4 v6 m => w_240_153 kc Φ K57 K169 v1 v2 v3 v4 v6 m) e v1 v2 v3 v4 v6 u0 v5 m
def w_240_113 (kc : it_Kc) (Φ : it_Me → Prop) (K57 : Int32 → Int32 → Int32 → Int32 → Int32 → Int32 → it_Me → Prop) (K169 : Int32 → Int32 → it_Me → Prop) (v1 : Int32) (v2 : Int32) (v3 : Int32) (v4 : Int32) (v5 : Int32) (v6 : Int32) (m : it_Me) : Prop :=
  w_240_114 kc Φ K57 K169 v1 v2 v3 v4 v5 v6 (0 : Int32) m
def w_240_57 (kc : it_Kc) (Φ : it_Me → Prop) (K169 : Int32 → Int32 → it_Me → Prop) : Nat → Int32 → Int32 → Int32 → Int32 → Int32 → Int32 → it_Me → Prop
  | 0, _, _, _, _, _, _, _ => False
  | n57 + 1, v1, v2, v3, v4, v5, v6, m =>
  (v6 = (-1 : Int32) → K169 v2 v3 m) ∧ (¬ v6 = (-1 : Int32) → ((m 66 4) = 0 → w_220 kc (v5 + (8 : Int32)) m (fun r1 m2 => (r1 = (255 : Int32) → w_240_113 kc Φ (w_240_57 kc Φ K169 n57) K169 v1 v2 v3 v4 v5 v6 m2) ∧ (¬ r1 = (255 : Int32) → w_220 kc v5 m2 (fun r3 m4 => w_220 kc (v5 + (4 : Int32)) m4 (fun r5 m6 => w_238 kc v1 r3 r5 m6 (fun r7 m8 => (r7 = v5 → w_240_114 kc Φ (w_240_57 kc Φ K169 n57) K169 v1 v2 v3 v4 v5 v6 (1 : Int32) m8) ∧ (¬ r7 = v5 → w_240_113 kc Φ (w_240_57 kc Φ K169 n57) K169 v1 v2 v3 v4 v5 v6 m8))))))) ∧ (¬ (m 66 4) = 0 → K169 v2 v3 m))
def w_240_203 (kc : it_Kc) (Φ : it_Me → Prop) (u1 : Int32) (m : it_Me) : Prop :=
  Φ (it_sv m 66 17 u1)
def w_240_169 (kc : it_Kc) (Φ : it_Me → Prop) (v2 : Int32) (v3 : Int32) (m : it_Me) : Prop :=
  w_233 kc v2 m (fun r1 m2 => w_231 kc r1 ((1263927296 : Int32) ||| ((v3 + (1 : Int32)) &&& (65535 : Int32))) m2 (fun m3 => ((m3 66 4) = 0 → w_240_203 kc Φ v2 m3) ∧ (¬ (m3 66 4) = 0 → w_240_203 kc Φ (m3 66 17) m3)))
def w_240 (kc : it_Kc) (m : it_Me) (Φ : it_Me → Prop) : Prop :=
  w_233 kc (m 66 17) m (fun r1 m2 => w_220 kc r1 m2 (fun r3 m4 => w_232 kc ((1 : Int32) - (m 66 17)) m4 (fun m5 => w_233 kc ((1 : Int32) - (m 66 17)) m5 (fun r6 m7 => w_233 kc (m 66 17) m7 (fun r8 m9 => w_235 kc (m 66 17) (r8 + (4 : Int32)) m9 (fun r10 m11 => ∃ e, w_240_57 kc Φ (fun v2 v3 m => w_240_169 kc Φ v2 v3 m) e (m 66 17) ((1 : Int32) - (m 66 17)) (r3 &&& (65535 : Int32)) (r6 + (4 : Int32)) (r8 + (4 : Int32)) r10 m11))))))
/-- GrantBoardModel.bootStore()V -/
def w_241_121 (kc : it_Kc) (Φ : it_Me → Prop) (m : it_Me) : Prop :=
  Φ m
def w_241_103 (kc : it_Kc) (Φ : it_Me → Prop) (u1 : Int32) (m : it_Me) : Prop :=
  w_237 kc ((it_sv m 66 17 u1) 66 17) (it_sv m 66 17 u1) (fun r1 m2 => (r1 = 0 → w_240 kc m2 (fun m3 => w_241_121 kc Φ m3)) ∧ (¬ r1 = 0 → w_241_121 kc Φ m2))
def w_241_90 (kc : it_Kc) (Φ : it_Me → Prop) (m : it_Me) : Prop :=
  w_241_103 kc Φ (0 : Int32) m
def w_241_94 (kc : it_Kc) (Φ : it_Me → Prop) (v1 : Int32) (m : it_Me) : Prop :=
  (v1 = 0 → w_241_103 kc Φ (1 : Int32) m) ∧ (¬ v1 = 0 → w_241_103 kc Φ (0 : Int32) m)
def w_241_42 (kc : it_Kc) (Φ : it_Me → Prop) (v1 : Int32) (v2 : Int32) (m : it_Me) : Prop :=
  w_233 kc (1 : Int32) m (fun r1 m2 => w_220 kc r1 m2 (fun r3 m4 => w_233 kc (0 : Int32) m4 (fun r5 m6 => w_220 kc r5 m6 (fun r7 m8 => (v1 = 0 → w_241_94 kc Φ v1 m8) ∧ (¬ v1 = 0 → (v2 = 0 → w_241_94 kc Φ v1 m8) ∧ (¬ v2 = 0 → (((r3 - r7) &&& (65535 : Int32)) < (1 : Int32) → w_241_90 kc Φ m8) ∧ (¬ ((r3 - r7) &&& (65535 : Int32)) < (1 : Int32) → ((32767 : Int32) < ((r3 - r7) &&& (65535 : Int32)) → w_241_90 kc Φ m8) ∧ (¬ (32767 : Int32) < ((r3 - r7) &&& (65535 : Int32)) → w_241_103 kc Φ (1 : Int32) m8))))))))
def w_241 (kc : it_Kc) (m : it_Me) (Φ : it_Me → Prop) : Prop :=
  w_234 kc (0 : Int32) m (fun r1 m2 => w_234 kc (1 : Int32) m2 (fun r3 m4 => (r1 = 0 → (r3 = 0 → w_232 kc (0 : Int32) (it_sv m4 66 17 (0 : Int32)) (fun m5 => w_233 kc (0 : Int32) m5 (fun r6 m7 => w_231 kc r6 (1263927296 : Int32) m7 (fun m8 => Φ m8)))) ∧ (¬ r3 = 0 → w_241_42 kc Φ r1 r3 m4)) ∧ (¬ r1 = 0 → w_241_42 kc Φ r1 r3 m4)))
/-- GrantBoardModel.putRecord(IIII)Z -/
def w_242_200 (kc : it_Kc) (Φ : Int32 → it_Me → Prop) (K157 : Int32 → Int32 → Int32 → Int32 → Int32 → Int32 → Int32 → Int32 → it_Me → Prop) (K209 : Int32 → Int32 → Int32 → Int32 → Int32 → Int32 → Int32 → it_Me → Prop) (v3 : Int32) (v4 : Int32) (v5 : Int32) (v7 : Int32) (v8 : Int32) (v9 : Int32) (v11 : Int32) (u0 : Int32) (u1 : Int32) (m : it_Me) : Prop :=
  K157 v3 v4 v5 v7 v8 v9 (u0 ||| u1) (v11 + (1 : Int32)) m
def w_242_157 (kc : it_Kc) (Φ : Int32 → it_Me → Prop) (K209 : Int32 → Int32 → Int32 → Int32 → Int32 → Int32 → Int32 → it_Me → Prop) : Nat → Int32 → Int32 → Int32 → Int32 → Int32 → Int32 → Int32 → Int32 → it_Me → Prop
  | 0, _, _, _, _, _, _, _, _, _ => False
  | n157 + 1, v3, v4, v5, v7, v8, v9, v10, v11, m =>
  ((4 : Int32) ≤ v11 → K209 v3 v4 v5 v7 v8 v9 v10 m) ∧ (¬ (4 : Int32) ≤ v11 → (v3 ≤ (((4 : Int32) * v9) + v11) → w_242_200 kc Φ (w_242_157 kc Φ K209 n157) K209 v3 v4 v5 v7 v8 v9 v11 v10 (0 : Int32) m) ∧ (¬ v3 ≤ (((4 : Int32) * v9) + v11) → w_218 kc ((v4 + ((4 : Int32) * v9)) + v11) m (fun r1 m2 => w_242_200 kc Φ (w_242_157 kc Φ K209 n157) K209 v3 v4 v5 v7 v8 v9 v11 v10 (it_shl r1 ((8 : Int32) * v11)) m2)))
def w_242_209 (kc : it_Kc) (Φ : Int32 → it_Me → Prop) (K144 : Int32 → Int32 → Int32 → Int32 → Int32 → Int32 → it_Me → Prop) (K238 : Int32 → Int32 → Int32 → it_Me → Prop) (v3 : Int32) (v4 : Int32) (v5 : Int32) (v7 : Int32) (v8 : Int32) (v9 : Int32) (v10 : Int32) (m : it_Me) : Prop :=
  w_231 kc ((v7 + (12 : Int32)) + ((4 : Int32) * v9)) v10 m (fun m1 => K144 v3 v4 v5 v7 (v8 ^^^ v10) (v9 + (1 : Int32)) m1)
def w_242_144 (kc : it_Kc) (Φ : Int32 → it_Me → Prop) (K238 : Int32 → Int32 → Int32 → it_Me → Prop) : Nat → Int32 → Int32 → Int32 → Int32 → Int32 → Int32 → it_Me → Prop
  | 0, _, _, _, _, _, _, _ => False
  | n144 + 1, v3, v4, v5, v7, v8, v9, m =>
  (v5 ≤ v9 → K238 v5 v7 v8 m) ∧ (¬ v5 ≤ v9 → ∃ e, w_242_157 kc Φ (fun v3 v4 v5 v7 v8 v9 v10 m => w_242_209 kc Φ (w_242_144 kc Φ K238 n144) K238 v3 v4 v5 v7 v8 v9 v10 m) e v3 v4 v5 v7 v8 v9 (0 : Int32) (0 : Int32) m)
def w_242_276 (kc : it_Kc) (Φ : Int32 → it_Me → Prop) (u0 : Int32) (m : it_Me) : Prop :=
  (u0 = 0 ∨ u0 = 1) ∧ Φ u0 m
def w_242_261 (kc : it_Kc) (Φ : Int32 → it_Me → Prop) (u1 : Int32) (u2 : Int32) (m : it_Me) : Prop :=
  w_231 kc u1 u2 m (fun m1 => ((m1 66 4) = 0 → w_242_276 kc Φ (1 : Int32) m1) ∧ (¬ (m1 66 4) = 0 → w_242_276 kc Φ (0 : Int32) m1))
def w_242_238 (kc : it_Kc) (Φ : Int32 → it_Me → Prop) (v5 : Int32) (v7 : Int32) (v8 : Int32) (m : it_Me) : Prop :=
  (v8 = (-1 : Int32) → w_242_261 kc Φ ((v7 + (12 : Int32)) + ((4 : Int32) * v5)) (0 : Int32) m) ∧ (¬ v8 = (-1 : Int32) → w_242_261 kc Φ ((v7 + (12 : Int32)) + ((4 : Int32) * v5)) v8 m)
def w_242_73 (kc : it_Kc) (Φ : Int32 → it_Me → Prop) (v1 : Int32) (v2 : Int32) (v3 : Int32) (v4 : Int32) (v5 : Int32) (v6 : Int32) (m : it_Me) : Prop :=
  w_236 kc (m 66 17) m (fun r1 m2 => w_233 kc (m2 66 17) m2 (fun r3 m4 => ((r1 + v6) ≤ (r3 + (2048 : Int32)) → w_231 kc r1 v1 m4 (fun m5 => w_231 kc (r1 + (4 : Int32)) v2 m5 (fun m6 => w_231 kc (r1 + (8 : Int32)) v3 m6 (fun m7 => ∃ e, w_242_144 kc Φ (fun v5 v7 v8 m => w_242_238 kc Φ v5 v7 v8 m) e v3 v4 v5 r1 ((((1515870810 : Int32) ^^^ v1) ^^^ v2) ^^^ v3) (0 : Int32) m7)))) ∧ (¬ (r1 + v6) ≤ (r3 + (2048 : Int32)) → Φ (0 : Int32) m4)))
def w_242_16 (kc : it_Kc) (Φ : Int32 → it_Me → Prop) (v1 : Int32) (v2 : Int32) (v3 : Int32) (v4 : Int32) (u0 : Int32) (m : it_Me) : Prop :=
  (v1 = (-1 : Int32) → Φ (0 : Int32) m) ∧ (¬ v1 = (-1 : Int32) → w_236 kc (m 66 17) m (fun r1 m2 => w_233 kc (m2 66 17) m2 (fun r3 m4 => ((r1 + ((16 : Int32) + ((4 : Int32) * u0))) ≤ (r3 + (2048 : Int32)) → w_242_73 kc Φ v1 v2 v3 v4 u0 ((16 : Int32) + ((4 : Int32) * u0)) m4) ∧ (¬ (r1 + ((16 : Int32) + ((4 : Int32) * u0))) ≤ (r3 + (2048 : Int32)) → w_240 kc m4 (fun m5 => ((m5 66 4) = 0 → w_242_73 kc Φ v1 v2 v3 v4 u0 ((16 : Int32) + ((4 : Int32) * u0)) m5) ∧ (¬ (m5 66 4) = 0 → Φ (0 : Int32) m5))))))
def w_242 (kc : it_Kc) (x0 : Int32) (x1 : Int32) (x2 : Int32) (x3 : Int32) (m : it_Me) (Φ : Int32 → it_Me → Prop) : Prop :=
  (x2 = (255 : Int32) → w_242_16 kc Φ x0 x1 x2 x3 (0 : Int32) m) ∧ (¬ x2 = (255 : Int32) → ¬ (4 : Int32) = 0 ∧ (w_242_16 kc Φ x0 x1 x2 x3 ((x2 + (3 : Int32)) / (4 : Int32)) m))
/-- GrantBoardModel.stored(III)I -/
def w_243_62 (kc : it_Kc) (Φ : Int32 → it_Me → Prop) (u0 : Int32) (m : it_Me) : Prop :=
  Φ u0 m
def w_243_47 (kc : it_Kc) (Φ : Int32 → it_Me → Prop) (m : it_Me) : Prop :=
  w_243_62 kc Φ (-1 : Int32) m
def w_243 (kc : it_Kc) (x0 : Int32) (x1 : Int32) (x2 : Int32) (m : it_Me) (Φ : Int32 → it_Me → Prop) : Prop :=
  w_239 kc x0 x1 m (fun r1 m2 => (r1 = (-1 : Int32) → Φ (-1 : Int32) m2) ∧ (¬ r1 = (-1 : Int32) → w_220 kc (r1 + (8 : Int32)) m2 (fun r3 m4 => (x2 = (-1 : Int32) → w_243_62 kc Φ r3 m4) ∧ (¬ x2 = (-1 : Int32) → (x2 < 0 → w_243_47 kc Φ m4) ∧ (¬ x2 < 0 → (x2 < r3 → w_218 kc ((r1 + (12 : Int32)) + x2) m4 (fun r5 m6 => w_243_62 kc Φ r5 m6)) ∧ (¬ x2 < r3 → w_243_47 kc Φ m4))))))
/-- GrantBoardModel.isApp(I)Z -/
def w_244_18 (kc : it_Kc) (Φ : Int32 → it_Me → Prop) (m : it_Me) : Prop :=
  Φ (0 : Int32) m
def w_244_103 (kc : it_Kc) (Φ : Int32 → it_Me → Prop) (m : it_Me) : Prop :=
  Φ (0 : Int32) m
def w_244 (kc : it_Kc) (x0 : Int32) (m : it_Me) (Φ : Int32 → it_Me → Prop) : Prop :=
  ((126976 : Int32) < (x0 + (16 : Int32)) → w_244_18 kc Φ m) ∧ (¬ (126976 : Int32) < (x0 + (16 : Int32)) → w_219 kc x0 m (fun r1 m2 => (r1 = (2 : Int32) → w_219 kc (x0 + (2 : Int32)) m2 (fun r3 m4 => w_220 kc (x0 + (4 : Int32)) (it_sv m4 66 18 r3) (fun r5 m6 => ((m6 66 18) < (16 : Int32) → w_244_103 kc Φ m6) ∧ (¬ (m6 66 18) < (16 : Int32) → ((512 : Int32) < (m6 66 18) → w_244_103 kc Φ m6) ∧ (¬ (512 : Int32) < (m6 66 18) → ¬ (4 : Int32) = 0 ∧ (((it_rem (m6 66 18) (4 : Int32)) = 0 → ¬ (4 : Int64) = 0 ∧ (((lg_cmp (it_lrem ((Int32.toInt64 r5) &&& (4294967295 : Int64)) (4 : Int64)) (0 : Int64)) = 0 → ((lg_cmp ((Int32.toInt64 r5) &&& (4294967295 : Int64)) (Int32.toInt64 (m6 66 18))) < 0 → w_244_103 kc Φ m6) ∧ (¬ (lg_cmp ((Int32.toInt64 r5) &&& (4294967295 : Int64)) (Int32.toInt64 (m6 66 18))) < 0 → ((lg_cmp ((Int32.toInt64 x0) + ((Int32.toInt64 r5) &&& (4294967295 : Int64))) (126976 : Int64)) ≤ 0 → Φ (1 : Int32) (it_sv m6 66 19 (Int64.toInt32 ((Int32.toInt64 r5) &&& (4294967295 : Int64))))) ∧ (¬ (lg_cmp ((Int32.toInt64 x0) + ((Int32.toInt64 r5) &&& (4294967295 : Int64))) (126976 : Int64)) ≤ 0 → w_244_103 kc Φ m6))) ∧ (¬ (lg_cmp (it_lrem ((Int32.toInt64 r5) &&& (4294967295 : Int64)) (4 : Int64)) (0 : Int64)) = 0 → w_244_103 kc Φ m6))) ∧ (¬ (it_rem (m6 66 18) (4 : Int32)) = 0 → w_244_103 kc Φ m6))))))) ∧ (¬ r1 = (2 : Int32) → w_244_18 kc Φ m2)))
/-- GrantBoardModel.readHead(I)Z -/
def w_245_37 (kc : it_Kc) (Φ : Int32 → it_Me → Prop) (K11 : Int32 → Int32 → Int32 → it_Me → Prop) (K45 : Int32 → Int32 → it_Me → Prop) (v1 : Int32) (v3 : Int32) (u0 : Int32) (u1 : Int32) (m : it_Me) : Prop :=
  K11 v1 (u0 ^^^ u1) (v3 + (4 : Int32)) m
def w_245_11 (kc : it_Kc) (Φ : Int32 → it_Me → Prop) (K45 : Int32 → Int32 → it_Me → Prop) : Nat → Int32 → Int32 → Int32 → it_Me → Prop
  | 0, _, _, _, _ => False
  | n11 + 1, v1, v2, v3, m =>
  ((m 66 18) ≤ v3 → K45 v1 v2 m) ∧ (¬ (m 66 18) ≤ v3 → (v3 = (12 : Int32) → w_245_37 kc Φ (w_245_11 kc Φ K45 n11) K45 v1 v3 v2 (0 : Int32) m) ∧ (¬ v3 = (12 : Int32) → w_220 kc (v1 + v3) m (fun r1 m2 => w_245_37 kc Φ (w_245_11 kc Φ K45 n11) K45 v1 v3 v2 r1 m2)))
def w_245_324 (kc : it_Kc) (Φ : Int32 → it_Me → Prop) (K89 : Int32 → Int32 → Int32 → Int32 → Int32 → Int32 → it_Me → Prop) (K136 : it_Me → Prop) (K331 : Int32 → Int32 → Int32 → Int32 → it_Me → Prop) (v1 : Int32) (v2 : Int32) (v3 : Int32) (v4 : Int32) (v6 : Int32) (v9 : Int32) (m : it_Me) : Prop :=
  K89 v1 v2 v3 v4 v9 v6 m
def w_245_273 (kc : it_Kc) (Φ : Int32 → it_Me → Prop) (K89 : Int32 → Int32 → Int32 → Int32 → Int32 → Int32 → it_Me → Prop) (K136 : it_Me → Prop) (K331 : Int32 → Int32 → Int32 → Int32 → it_Me → Prop) (v1 : Int32) (v2 : Int32) (v3 : Int32) (v4 : Int32) (v5 : Int32) (v6 : Int32) (v7 : Int32) (v8 : Int32) (v9 : Int32) (m : it_Me) : Prop :=
  (v7 = (8 : Int32) → (v8 < (8 : Int32) → w_245_324 kc Φ K89 K136 K331 v1 v2 v3 v4 v6 v9 m) ∧ (¬ v8 < (8 : Int32) → ((64 : Int32) < v8 → w_245_324 kc Φ K89 K136 K331 v1 v2 v3 v4 v6 v9 m) ∧ (¬ (64 : Int32) < v8 → ¬ (8 : Int32) = 0 ∧ (((it_rem v8 (8 : Int32)) = 0 → ((m 66 27) = (-1 : Int32) → w_245_324 kc Φ K89 K136 K331 v1 v2 v3 v4 v6 v9 (it_sv (it_sv m 66 27 (v5 + (4 : Int32))) 66 28 v8)) ∧ (¬ (m 66 27) = (-1 : Int32) → w_245_324 kc Φ K89 K136 K331 v1 v2 v3 v4 v6 v9 m)) ∧ (¬ (it_rem v8 (8 : Int32)) = 0 → w_245_324 kc Φ K89 K136 K331 v1 v2 v3 v4 v6 v9 m))))) ∧ (¬ v7 = (8 : Int32) → w_245_324 kc Φ K89 K136 K331 v1 v2 v3 v4 v6 v9 m)
def w_245_229 (kc : it_Kc) (Φ : Int32 → it_Me → Prop) (K89 : Int32 → Int32 → Int32 → Int32 → Int32 → Int32 → it_Me → Prop) (K136 : it_Me → Prop) (K331 : Int32 → Int32 → Int32 → Int32 → it_Me → Prop) (v1 : Int32) (v2 : Int32) (v3 : Int32) (v4 : Int32) (v5 : Int32) (v6 : Int32) (v7 : Int32) (v8 : Int32) (v9 : Int32) (u1 : Int32) (m : it_Me) : Prop :=
  (v7 = (3 : Int32) → (v8 < (1 : Int32) → w_245_273 kc Φ K89 K136 K331 v1 v2 v3 v4 v5 v6 v7 v8 v9 (it_sv m 66 26 u1)) ∧ (¬ v8 < (1 : Int32) → ((16 : Int32) < v8 → w_245_273 kc Φ K89 K136 K331 v1 v2 v3 v4 v5 v6 v7 v8 v9 (it_sv m 66 26 u1)) ∧ (¬ (16 : Int32) < v8 → (((it_sv m 66 26 u1) 66 24) = (-1 : Int32) → w_245_273 kc Φ K89 K136 K331 v1 v2 v3 v4 v5 v6 v7 v8 v9 (it_sv (it_sv (it_sv m 66 26 u1) 66 24 (v5 + (4 : Int32))) 66 25 v8)) ∧ (¬ ((it_sv m 66 26 u1) 66 24) = (-1 : Int32) → w_245_273 kc Φ K89 K136 K331 v1 v2 v3 v4 v5 v6 v7 v8 v9 (it_sv m 66 26 u1))))) ∧ (¬ v7 = (3 : Int32) → w_245_273 kc Φ K89 K136 K331 v1 v2 v3 v4 v5 v6 v7 v8 v9 (it_sv m 66 26 u1))
def w_245_225 (kc : it_Kc) (Φ : Int32 → it_Me → Prop) (K89 : Int32 → Int32 → Int32 → Int32 → Int32 → Int32 → it_Me → Prop) (K136 : it_Me → Prop) (K331 : Int32 → Int32 → Int32 → Int32 → it_Me → Prop) (v1 : Int32) (v2 : Int32) (v3 : Int32) (v4 : Int32) (v5 : Int32) (v6 : Int32) (v7 : Int32) (v8 : Int32) (v9 : Int32) (m : it_Me) : Prop :=
  w_245_229 kc Φ K89 K136 K331 v1 v2 v3 v4 v5 v6 v7 v8 v9 (m 66 26) m
def w_245_194 (kc : it_Kc) (Φ : Int32 → it_Me → Prop) (K89 : Int32 → Int32 → Int32 → Int32 → Int32 → Int32 → it_Me → Prop) (K136 : it_Me → Prop) (K331 : Int32 → Int32 → Int32 → Int32 → it_Me → Prop) (v1 : Int32) (v2 : Int32) (v3 : Int32) (v5 : Int32) (v6 : Int32) (v7 : Int32) (v8 : Int32) (v9 : Int32) (u0 : Int32) (m : it_Me) : Prop :=
  (v7 = (7 : Int32) → (v8 = (4 : Int32) → ((m 66 26) = (-1 : Int32) → w_245_229 kc Φ K89 K136 K331 v1 v2 v3 u0 v5 v6 v7 v8 v9 (v5 + (4 : Int32)) m) ∧ (¬ (m 66 26) = (-1 : Int32) → w_245_225 kc Φ K89 K136 K331 v1 v2 v3 u0 v5 v6 v7 v8 v9 m)) ∧ (¬ v8 = (4 : Int32) → w_245_225 kc Φ K89 K136 K331 v1 v2 v3 u0 v5 v6 v7 v8 v9 m)) ∧ (¬ v7 = (7 : Int32) → w_245_225 kc Φ K89 K136 K331 v1 v2 v3 u0 v5 v6 v7 v8 v9 m)
def w_245_192 (kc : it_Kc) (Φ : Int32 → it_Me → Prop) (K89 : Int32 → Int32 → Int32 → Int32 → Int32 → Int32 → it_Me → Prop) (K136 : it_Me → Prop) (K331 : Int32 → Int32 → Int32 → Int32 → it_Me → Prop) (v1 : Int32) (v2 : Int32) (v3 : Int32) (v4 : Int32) (v5 : Int32) (v6 : Int32) (v7 : Int32) (v8 : Int32) (v9 : Int32) (m : it_Me) : Prop :=
  w_245_194 kc Φ K89 K136 K331 v1 v2 v3 v5 v6 v7 v8 v9 v4 m
def w_245_164 (kc : it_Kc) (Φ : Int32 → it_Me → Prop) (K89 : Int32 → Int32 → Int32 → Int32 → Int32 → Int32 → it_Me → Prop) (K136 : it_Me → Prop) (K331 : Int32 → Int32 → Int32 → Int32 → it_Me → Prop) (v1 : Int32) (v2 : Int32) (v4 : Int32) (v5 : Int32) (v6 : Int32) (v7 : Int32) (v8 : Int32) (v9 : Int32) (u0 : Int32) (m : it_Me) : Prop :=
  (v7 = (9 : Int32) → (v8 = (20 : Int32) → (v4 = (-1 : Int32) → w_245_194 kc Φ K89 K136 K331 v1 v2 u0 v5 v6 v7 v8 v9 (v5 + (4 : Int32)) m) ∧ (¬ v4 = (-1 : Int32) → w_245_192 kc Φ K89 K136 K331 v1 v2 u0 v4 v5 v6 v7 v8 v9 m)) ∧ (¬ v8 = (20 : Int32) → w_245_192 kc Φ K89 K136 K331 v1 v2 u0 v4 v5 v6 v7 v8 v9 m)) ∧ (¬ v7 = (9 : Int32) → w_245_192 kc Φ K89 K136 K331 v1 v2 u0 v4 v5 v6 v7 v8 v9 m)
def w_245_163 (kc : it_Kc) (Φ : Int32 → it_Me → Prop) (K89 : Int32 → Int32 → Int32 → Int32 → Int32 → Int32 → it_Me → Prop) (K136 : it_Me → Prop) (K331 : Int32 → Int32 → Int32 → Int32 → it_Me → Prop) (v1 : Int32) (v2 : Int32) (v3 : Int32) (v4 : Int32) (v5 : Int32) (v6 : Int32) (v7 : Int32) (v8 : Int32) (v9 : Int32) (m : it_Me) : Prop :=
  w_245_164 kc Φ K89 K136 K331 v1 v2 v4 v5 v6 v7 v8 v9 v3 m
def w_245_89 (kc : it_Kc) (Φ : Int32 → it_Me → Prop) (K136 : it_Me → Prop) (K331 : Int32 → Int32 → Int32 → Int32 → it_Me → Prop) : Nat → Int32 → Int32 → Int32 → Int32 → Int32 → Int32 → it_Me → Prop
  | 0, _, _, _, _, _, _, _ => False
  | n89 + 1, v1, v2, v3, v4, v5, v6, m =>
  (v6 ≤ v5 → K331 v1 v2 v3 v4 m) ∧ (¬ v6 ≤ v5 → w_219 kc v5 m (fun r1 m2 => w_219 kc (v5 + (2 : Int32)) m2 (fun r3 m4 => ¬ (4 : Int32) = 0 ∧ ((((v5 + (4 : Int32)) + (((r3 + (3 : Int32)) / (4 : Int32)) * (4 : Int32))) ≤ v6 → (r1 = (1 : Int32) → (r3 = (12 : Int32) → (v3 = (-1 : Int32) → w_245_164 kc Φ (w_245_89 kc Φ K136 K331 n89) K136 K331 v1 v2 v4 v5 v6 r1 r3 ((v5 + (4 : Int32)) + (((r3 + (3 : Int32)) / (4 : Int32)) * (4 : Int32))) (v5 + (4 : Int32)) m4) ∧ (¬ v3 = (-1 : Int32) → w_245_163 kc Φ (w_245_89 kc Φ K136 K331 n89) K136 K331 v1 v2 v3 v4 v5 v6 r1 r3 ((v5 + (4 : Int32)) + (((r3 + (3 : Int32)) / (4 : Int32)) * (4 : Int32))) m4)) ∧ (¬ r3 = (12 : Int32) → w_245_163 kc Φ (w_245_89 kc Φ K136 K331 n89) K136 K331 v1 v2 v3 v4 v5 v6 r1 r3 ((v5 + (4 : Int32)) + (((r3 + (3 : Int32)) / (4 : Int32)) * (4 : Int32))) m4)) ∧ (¬ r1 = (1 : Int32) → w_245_163 kc Φ (w_245_89 kc Φ K136 K331 n89) K136 K331 v1 v2 v3 v4 v5 v6 r1 r3 ((v5 + (4 : Int32)) + (((r3 + (3 : Int32)) / (4 : Int32)) * (4 : Int32))) m4)) ∧ (¬ ((v5 + (4 : Int32)) + (((r3 + (3 : Int32)) / (4 : Int32)) * (4 : Int32))) ≤ v6 → K136 m4)))))
def w_245_136 (kc : it_Kc) (Φ : Int32 → it_Me → Prop) (m : it_Me) : Prop :=
  Φ (0 : Int32) m
def w_245_368 (kc : it_Kc) (Φ : Int32 → it_Me → Prop) (m : it_Me) : Prop :=
  Φ (0 : Int32) m
def w_245_439 (kc : it_Kc) (Φ : Int32 → it_Me → Prop) (u1 : Int32) (m : it_Me) : Prop :=
  Φ (1 : Int32) (it_sv m 66 23 u1)
def w_245_416 (kc : it_Kc) (Φ : Int32 → it_Me → Prop) (v4 : Int32) (u1 : Int32) (m : it_Me) : Prop :=
  (v4 = (-1 : Int32) → w_245_439 kc Φ (0 : Int32) (it_sv m 66 22 u1)) ∧ (¬ v4 = (-1 : Int32) → w_220 kc (v4 + (16 : Int32)) (it_sv m 66 22 u1) (fun r1 m2 => w_245_439 kc Φ r1 m2))
def w_245_343 (kc : it_Kc) (Φ : Int32 → it_Me → Prop) (v1 : Int32) (v2 : Int32) (v4 : Int32) (u0 : Int32) (m : it_Me) : Prop :=
  (v2 = 0 → w_220 kc (v1 + (8 : Int32)) m (fun r1 m2 => ((r1 &&& (1 : Int32)) = 0 → w_245_368 kc Φ m2) ∧ (¬ (r1 &&& (1 : Int32)) = 0 → (u0 = (-1 : Int32) → w_245_368 kc Φ m2) ∧ (¬ u0 = (-1 : Int32) → w_220 kc u0 m2 (fun r3 m4 => w_220 kc (u0 + (8 : Int32)) (it_sv m4 66 20 r3) (fun r5 m6 => (v4 = (-1 : Int32) → w_245_416 kc Φ v4 ((it_sv m6 66 21 r5) 66 19) (it_sv m6 66 21 r5)) ∧ (¬ v4 = (-1 : Int32) → w_220 kc (v4 + (12 : Int32)) (it_sv m6 66 21 r5) (fun r7 m8 => w_245_416 kc Φ v4 r7 m8)))))))) ∧ (¬ v2 = 0 → w_245_368 kc Φ m)
def w_245_331 (kc : it_Kc) (Φ : Int32 → it_Me → Prop) (v1 : Int32) (v2 : Int32) (v3 : Int32) (v4 : Int32) (m : it_Me) : Prop :=
  (v4 = (-1 : Int32) → w_245_343 kc Φ v1 v2 v4 v3 m) ∧ (¬ v4 = (-1 : Int32) → w_245_343 kc Φ v1 v2 v4 v4 m)
def w_245_45 (kc : it_Kc) (Φ : Int32 → it_Me → Prop) (v1 : Int32) (v2 : Int32) (m : it_Me) : Prop :=
  ∃ e, w_245_89 kc Φ (fun m => w_245_136 kc Φ m) (fun v1 v2 v3 v4 m => w_245_331 kc Φ v1 v2 v3 v4 m) e v1 v2 (-1 : Int32) (-1 : Int32) (v1 + (16 : Int32)) (v1 + ((it_sv (it_sv (it_sv (it_sv (it_sv m 66 24 (-1 : Int32)) 66 25 (0 : Int32)) 66 26 (-1 : Int32)) 66 27 (-1 : Int32)) 66 28 (0 : Int32)) 66 18)) (it_sv (it_sv (it_sv (it_sv (it_sv m 66 24 (-1 : Int32)) 66 25 (0 : Int32)) 66 26 (-1 : Int32)) 66 27 (-1 : Int32)) 66 28 (0 : Int32))
def w_245 (kc : it_Kc) (x0 : Int32) (m : it_Me) (Φ : Int32 → it_Me → Prop) : Prop :=
  w_220 kc (x0 + (12 : Int32)) m (fun r1 m2 => ∃ e, w_245_11 kc Φ (fun v1 v2 m => w_245_45 kc Φ v1 v2 m) e x0 r1 (0 : Int32) m2)
/-- GrantBoardModel.hasCredentials(I)Z -/
def w_246_43 (kc : it_Kc) (Φ : Int32 → it_Me → Prop) (m : it_Me) : Prop :=
  Φ (0 : Int32) m
def w_246_112 (kc : it_Kc) (Φ : Int32 → it_Me → Prop) (u0 : Int32) (m : it_Me) : Prop :=
  (u0 = 0 ∨ u0 = 1) ∧ Φ u0 m
def w_246_111 (kc : it_Kc) (Φ : Int32 → it_Me → Prop) (m : it_Me) : Prop :=
  w_246_112 kc Φ (0 : Int32) m
def w_246 (kc : it_Kc) (x0 : Int32) (m : it_Me) (Φ : Int32 → it_Me → Prop) : Prop :=
  ¬ (4 : Int64) = 0 ∧ (((lg_cmp (it_lrem ((Int32.toInt64 (m 66 22)) &&& (4294967295 : Int64)) (4 : Int64)) (0 : Int64)) = 0 → ((lg_cmp ((Int32.toInt64 (m 66 22)) &&& (4294967295 : Int64)) (Int32.toInt64 (m 66 18))) < 0 → w_246_43 kc Φ m) ∧ (¬ (lg_cmp ((Int32.toInt64 (m 66 22)) &&& (4294967295 : Int64)) (Int32.toInt64 (m 66 18))) < 0 → ((lg_cmp ((Int32.toInt64 (m 66 22)) &&& (4294967295 : Int64)) (Int32.toInt64 ((m 66 19) - (12 : Int32)))) ≤ 0 → w_219 kc (x0 + (Int64.toInt32 ((Int32.toInt64 (m 66 22)) &&& (4294967295 : Int64)))) m (fun r1 m2 => (r1 = (128 : Int32) → w_219 kc ((x0 + (Int64.toInt32 ((Int32.toInt64 (m 66 22)) &&& (4294967295 : Int64)))) + (2 : Int32)) m2 (fun r3 m4 => (r3 = (8 : Int32) → w_220 kc ((x0 + (Int64.toInt32 ((Int32.toInt64 (m 66 22)) &&& (4294967295 : Int64)))) + (4 : Int32)) m4 (fun r5 m6 => (r5 = (1 : Int32) → w_220 kc ((x0 + (Int64.toInt32 ((Int32.toInt64 (m 66 22)) &&& (4294967295 : Int64)))) + (8 : Int32)) m6 (fun r7 m8 => w_222 kc x0 (Int64.toInt32 ((Int32.toInt64 (m 66 22)) &&& (4294967295 : Int64))) m8 (fun r9 m10 => (r7 = r9 → w_246_112 kc Φ (1 : Int32) m10) ∧ (¬ r7 = r9 → w_246_111 kc Φ m10)))) ∧ (¬ r5 = (1 : Int32) → w_246_111 kc Φ m6))) ∧ (¬ r3 = (8 : Int32) → w_246_111 kc Φ m4))) ∧ (¬ r1 = (128 : Int32) → w_246_111 kc Φ m2))) ∧ (¬ (lg_cmp ((Int32.toInt64 (m 66 22)) &&& (4294967295 : Int64)) (Int32.toInt64 ((m 66 19) - (12 : Int32)))) ≤ 0 → w_246_43 kc Φ m))) ∧ (¬ (lg_cmp (it_lrem ((Int32.toInt64 (m 66 22)) &&& (4294967295 : Int64)) (4 : Int64)) (0 : Int64)) = 0 → w_246_43 kc Φ m))
/-- GrantBoardModel.isLess(II)Z -/
def w_247_21 (kc : it_Kc) (Φ : Int32 → it_Me → Prop) (u0 : Int32) (m : it_Me) : Prop :=
  (u0 = 0 ∨ u0 = 1) ∧ Φ u0 m
def w_247 (kc : it_Kc) (x0 : Int32) (x1 : Int32) (m : it_Me) (Φ : Int32 → it_Me → Prop) : Prop :=
  (0 ≤ (lg_cmp ((Int32.toInt64 x0) &&& (4294967295 : Int64)) ((Int32.toInt64 x1) &&& (4294967295 : Int64))) → w_247_21 kc Φ (0 : Int32) m) ∧ (¬ 0 ≤ (lg_cmp ((Int32.toInt64 x0) &&& (4294967295 : Int64)) ((Int32.toInt64 x1) &&& (4294967295 : Int64))) → w_247_21 kc Φ (1 : Int32) m)
/-- GrantBoardModel.find(Z)V -/
def w_248_118 (kc : it_Kc) (Φ : it_Me → Prop) (K8 : Int32 → Int32 → it_Me → Prop) (K123 : it_Me → Prop) (v1 : Int32) (v3 : Int32) (m : it_Me) : Prop :=
  K8 v1 v3 m
def w_248_59 (kc : it_Kc) (Φ : it_Me → Prop) (K8 : Int32 → Int32 → it_Me → Prop) (K123 : it_Me → Prop) (v1 : Int32) (v2 : Int32) (v3 : Int32) (m : it_Me) : Prop :=
  vp_in (m 66 33) 2048 ∧ (vp_in ((it_sv m 75 (Int32.toNatClampNeg (m 66 33)) v2) 66 33) 2048 ∧ (vp_in ((it_sv (it_sv m 75 (Int32.toNatClampNeg (m 66 33)) v2) 76 (Int32.toNatClampNeg ((it_sv m 75 (Int32.toNatClampNeg (m 66 33)) v2) 66 33)) ((it_sv m 75 (Int32.toNatClampNeg (m 66 33)) v2) 66 24)) 66 33) 2048 ∧ (vp_in ((it_sv (it_sv (it_sv m 75 (Int32.toNatClampNeg (m 66 33)) v2) 76 (Int32.toNatClampNeg ((it_sv m 75 (Int32.toNatClampNeg (m 66 33)) v2) 66 33)) ((it_sv m 75 (Int32.toNatClampNeg (m 66 33)) v2) 66 24)) 77 (Int32.toNatClampNeg ((it_sv (it_sv m 75 (Int32.toNatClampNeg (m 66 33)) v2) 76 (Int32.toNatClampNeg ((it_sv m 75 (Int32.toNatClampNeg (m 66 33)) v2) 66 33)) ((it_sv m 75 (Int32.toNatClampNeg (m 66 33)) v2) 66 24)) 66 33)) ((it_sv (it_sv m 75 (Int32.toNatClampNeg (m 66 33)) v2) 76 (Int32.toNatClampNeg ((it_sv m 75 (Int32.toNatClampNeg (m 66 33)) v2) 66 33)) ((it_sv m 75 (Int32.toNatClampNeg (m 66 33)) v2) 66 24)) 66 25)) 66 33) 2048 ∧ (w_248_118 kc Φ K8 K123 v1 v3 (it_sv (it_sv (it_sv (it_sv (it_sv m 75 (Int32.toNatClampNeg (m 66 33)) v2) 76 (Int32.toNatClampNeg ((it_sv m 75 (Int32.toNatClampNeg (m 66 33)) v2) 66 33)) ((it_sv m 75 (Int32.toNatClampNeg (m 66 33)) v2) 66 24)) 77 (Int32.toNatClampNeg ((it_sv (it_sv m 75 (Int32.toNatClampNeg (m 66 33)) v2) 76 (Int32.toNatClampNeg ((it_sv m 75 (Int32.toNatClampNeg (m 66 33)) v2) 66 33)) ((it_sv m 75 (Int32.toNatClampNeg (m 66 33)) v2) 66 24)) 66 33)) ((it_sv (it_sv m 75 (Int32.toNatClampNeg (m 66 33)) v2) 76 (Int32.toNatClampNeg ((it_sv m 75 (Int32.toNatClampNeg (m 66 33)) v2) 66 33)) ((it_sv m 75 (Int32.toNatClampNeg (m 66 33)) v2) 66 24)) 66 25)) 78 (Int32.toNatClampNeg ((it_sv (it_sv (it_sv m 75 (Int32.toNatClampNeg (m 66 33)) v2) 76 (Int32.toNatClampNeg ((it_sv m 75 (Int32.toNatClampNeg (m 66 33)) v2) 66 33)) ((it_sv m 75 (Int32.toNatClampNeg (m 66 33)) v2) 66 24)) 77 (Int32.toNatClampNeg ((it_sv (it_sv m 75 (Int32.toNatClampNeg (m 66 33)) v2) 76 (Int32.toNatClampNeg ((it_sv m 75 (Int32.toNatClampNeg (m 66 33)) v2) 66 33)) ((it_sv m 75 (Int32.toNatClampNeg (m 66 33)) v2) 66 24)) 66 33)) ((it_sv (it_sv m 75 (Int32.toNatClampNeg (m 66 33)) v2) 76 (Int32.toNatClampNeg ((it_sv m 75 (Int32.toNatClampNeg (m 66 33)) v2) 66 33)) ((it_sv m 75 (Int32.toNatClampNeg (m 66 33)) v2) 66 24)) 66 25)) 66 33)) ((it_sv (it_sv (it_sv m 75 (Int32.toNatClampNeg (m 66 33)) v2) 76 (Int32.toNatClampNeg ((it_sv m 75 (Int32.toNatClampNeg (m 66 33)) v2) 66 33)) ((it_sv m 75 (Int32.toNatClampNeg (m 66 33)) v2) 66 24)) 77 (Int32.toNatClampNeg ((it_sv (it_sv m 75 (Int32.toNatClampNeg (m 66 33)) v2) 76 (Int32.toNatClampNeg ((it_sv m 75 (Int32.toNatClampNeg (m 66 33)) v2) 66 33)) ((it_sv m 75 (Int32.toNatClampNeg (m 66 33)) v2) 66 24)) 66 33)) ((it_sv (it_sv m 75 (Int32.toNatClampNeg (m 66 33)) v2) 76 (Int32.toNatClampNeg ((it_sv m 75 (Int32.toNatClampNeg (m 66 33)) v2) 66 33)) ((it_sv m 75 (Int32.toNatClampNeg (m 66 33)) v2) 66 24)) 66 25)) 66 23)) 66 33 (((it_sv (it_sv (it_sv (it_sv m 75 (Int32.toNatClampNeg (m 66 33)) v2) 76 (Int32.toNatClampNeg ((it_sv m 75 (Int32.toNatClampNeg (m 66 33)) v2) 66 33)) ((it_sv m 75 (Int32.toNatClampNeg (m 66 33)) v2) 66 24)) 77 (Int32.toNatClampNeg ((it_sv (it_sv m 75 (Int32.toNatClampNeg (m 66 33)) v2) 76 (Int32.toNatClampNeg ((it_sv m 75 (Int32.toNatClampNeg (m 66 33)) v2) 66 33)) ((it_sv m 75 (Int32.toNatClampNeg (m 66 33)) v2) 66 24)) 66 33)) ((it_sv (it_sv m 75 (Int32.toNatClampNeg (m 66 33)) v2) 76 (Int32.toNatClampNeg ((it_sv m 75 (Int32.toNatClampNeg (m 66 33)) v2) 66 33)) ((it_sv m 75 (Int32.toNatClampNeg (m 66 33)) v2) 66 24)) 66 25)) 78 (Int32.toNatClampNeg ((it_sv (it_sv (it_sv m 75 (Int32.toNatClampNeg (m 66 33)) v2) 76 (Int32.toNatClampNeg ((it_sv m 75 (Int32.toNatClampNeg (m 66 33)) v2) 66 33)) ((it_sv m 75 (Int32.toNatClampNeg (m 66 33)) v2) 66 24)) 77 (Int32.toNatClampNeg ((it_sv (it_sv m 75 (Int32.toNatClampNeg (m 66 33)) v2) 76 (Int32.toNatClampNeg ((it_sv m 75 (Int32.toNatClampNeg (m 66 33)) v2) 66 33)) ((it_sv m 75 (Int32.toNatClampNeg (m 66 33)) v2) 66 24)) 66 33)) ((it_sv (it_sv m 75 (Int32.toNatClampNeg (m 66 33)) v2) 76 (Int32.toNatClampNeg ((it_sv m 75 (Int32.toNatClampNeg (m 66 33)) v2) 66 33)) ((it_sv m 75 (Int32.toNatClampNeg (m 66 33)) v2) 66 24)) 66 25)) 66 33)) ((it_sv (it_sv (it_sv m 75 (Int32.toNatClampNeg (m 66 33)) v2) 76 (Int32.toNatClampNeg ((it_sv m 75 (Int32.toNatClampNeg (m 66 33)) v2) 66 33)) ((it_sv m 75 (Int32.toNatClampNeg (m 66 33)) v2) 66 24)) 77 (Int32.toNatClampNeg ((it_sv (it_sv m 75 (Int32.toNatClampNeg (m 66 33)) v2) 76 (Int32.toNatClampNeg ((it_sv m 75 (Int32.toNatClampNeg (m 66 33)) v2) 66 33)) ((it_sv m 75 (Int32.toNatClampNeg (m 66 33)) v2) 66 24)) 66 33)) ((it_sv (it_sv m 75 (Int32.toNatClampNeg (m 66 33)) v2) 76 (Int32.toNatClampNeg ((it_sv m 75 (Int32.toNatClampNeg (m 66 33)) v2) 66 33)) ((it_sv m 75 (Int32.toNatClampNeg (m 66 33)) v2) 66 24)) 66 25)) 66 23)) 66 33) + (1 : Int32)))))))
def w_248_8 (kc : it_Kc) (Φ : it_Me → Prop) (K123 : it_Me → Prop) : Nat → Int32 → Int32 → it_Me → Prop
  | 0, _, _, _ => False
  | n8 + 1, v1, v2, m =>
  w_244 kc v2 m (fun r1 m2 => (r1 = 0 → K123 m2) ∧ (¬ r1 = 0 → w_245 kc v2 m2 (fun r3 m4 => (r3 = 0 → w_248_118 kc Φ (w_248_8 kc Φ K123 n8) K123 v1 (v2 + (m2 66 19)) m4) ∧ (¬ r3 = 0 → (0 < (lg_cmp ((Int32.toInt64 (m4 66 21)) &&& (4294967295 : Int64)) (15872 : Int64)) → w_248_118 kc Φ (w_248_8 kc Φ K123 n8) K123 v1 (v2 + (m2 66 19)) m4) ∧ (¬ 0 < (lg_cmp ((Int32.toInt64 (m4 66 21)) &&& (4294967295 : Int64)) (15872 : Int64)) → (v1 = 0 → w_248_59 kc Φ (w_248_8 kc Φ K123 n8) K123 v1 v2 (v2 + (m2 66 19)) m4) ∧ (¬ v1 = 0 → w_246 kc v2 m4 (fun r5 m6 => (r5 = 0 → w_248_118 kc Φ (w_248_8 kc Φ K123 n8) K123 v1 (v2 + (m2 66 19)) m6) ∧ (¬ r5 = 0 → w_248_59 kc Φ (w_248_8 kc Φ K123 n8) K123 v1 v2 (v2 + (m2 66 19)) m6))))))))
def w_248_123 (kc : it_Kc) (Φ : it_Me → Prop) (m : it_Me) : Prop :=
  Φ m
def w_248 (kc : it_Kc) (x0 : Int32) (m : it_Me) (Φ : it_Me → Prop) : Prop :=
  ∃ e, w_248_8 kc Φ (fun m => w_248_123 kc Φ m) e x0 (65536 : Int32) (it_sv m 66 33 (0 : Int32))
/-- GrantBoardModel.isOutdone(I)Z -/
def w_249_90 (kc : it_Kc) (Φ : Int32 → it_Me → Prop) (K39 : Int32 → Int32 → Int32 → Int32 → it_Me → Prop) (K97 : Int32 → Int32 → Int32 → it_Me → Prop) (v1 : Int32) (v2 : Int32) (v4 : Int32) (u0 : Int32) (m : it_Me) : Prop :=
  K39 v1 v2 u0 (v4 + (1 : Int32)) m
def w_249_39 (kc : it_Kc) (Φ : Int32 → it_Me → Prop) (K97 : Int32 → Int32 → Int32 → it_Me → Prop) : Nat → Int32 → Int32 → Int32 → Int32 → it_Me → Prop
  | 0, _, _, _, _, _ => False
  | n39 + 1, v1, v2, v3, v4, m =>
  vp_in v1 2048 ∧ (((m 77 (Int32.toNatClampNeg v1)) ≤ v4 → K97 v1 v2 v3 m) ∧ (¬ (m 77 (Int32.toNatClampNeg v1)) ≤ v4 → (v3 = 0 → K97 v1 v2 v3 m) ∧ (¬ v3 = 0 → vp_in v2 2048 ∧ (vp_in ((m 76 (Int32.toNatClampNeg v2)) + v4) 196608 ∧ (vp_in v1 2048 ∧ (vp_in ((m 76 (Int32.toNatClampNeg v1)) + v4) 196608 ∧ (((m 67 (Int32.toNatClampNeg ((m 76 (Int32.toNatClampNeg v2)) + v4))) = (m 67 (Int32.toNatClampNeg ((m 76 (Int32.toNatClampNeg v1)) + v4))) → w_249_90 kc Φ (w_249_39 kc Φ K97 n39) K97 v1 v2 v4 (1 : Int32) m) ∧ (¬ (m 67 (Int32.toNatClampNeg ((m 76 (Int32.toNatClampNeg v2)) + v4))) = (m 67 (Int32.toNatClampNeg ((m 76 (Int32.toNatClampNeg v1)) + v4))) → w_249_90 kc Φ (w_249_39 kc Φ K97 n39) K97 v1 v2 v4 (0 : Int32) m))))))))
def w_249_142 (kc : it_Kc) (Φ : Int32 → it_Me → Prop) (K2 : Int32 → Int32 → it_Me → Prop) (K140 : it_Me → Prop) (K148 : it_Me → Prop) (v1 : Int32) (v2 : Int32) (m : it_Me) : Prop :=
  K2 v1 (v2 + (1 : Int32)) m
def w_249_97 (kc : it_Kc) (Φ : Int32 → it_Me → Prop) (K2 : Int32 → Int32 → it_Me → Prop) (K140 : it_Me → Prop) (K148 : it_Me → Prop) (v1 : Int32) (v2 : Int32) (v3 : Int32) (m : it_Me) : Prop :=
  (v3 = 0 → w_249_142 kc Φ K2 K140 K148 v1 v2 m) ∧ (¬ v3 = 0 → vp_in v1 2048 ∧ (vp_in v2 2048 ∧ (w_247 kc (m 78 (Int32.toNatClampNeg v1)) (m 78 (Int32.toNatClampNeg v2)) m (fun r1 m2 => (r1 = 0 → vp_in v1 2048 ∧ (vp_in v2 2048 ∧ (((m2 78 (Int32.toNatClampNeg v1)) = (m2 78 (Int32.toNatClampNeg v2)) → (v1 ≤ v2 → w_249_142 kc Φ K2 K140 K148 v1 v2 m2) ∧ (¬ v1 ≤ v2 → K140 m2)) ∧ (¬ (m2 78 (Int32.toNatClampNeg v1)) = (m2 78 (Int32.toNatClampNeg v2)) → w_249_142 kc Φ K2 K140 K148 v1 v2 m2)))) ∧ (¬ r1 = 0 → K140 m2)))))
def w_249_35 (kc : it_Kc) (Φ : Int32 → it_Me → Prop) (K2 : Int32 → Int32 → it_Me → Prop) (K140 : it_Me → Prop) (K148 : it_Me → Prop) (v1 : Int32) (v2 : Int32) (u0 : Int32) (m : it_Me) : Prop :=
  ∃ e, w_249_39 kc Φ (fun v1 v2 v3 m => w_249_97 kc Φ K2 K140 K148 v1 v2 v3 m) e v1 v2 u0 (0 : Int32) m
def w_249_34 (kc : it_Kc) (Φ : Int32 → it_Me → Prop) (K2 : Int32 → Int32 → it_Me → Prop) (K140 : it_Me → Prop) (K148 : it_Me → Prop) (v1 : Int32) (v2 : Int32) (m : it_Me) : Prop :=
  w_249_35 kc Φ K2 K140 K148 v1 v2 (0 : Int32) m
def w_249_2 (kc : it_Kc) (Φ : Int32 → it_Me → Prop) (K140 : it_Me → Prop) (K148 : it_Me → Prop) : Nat → Int32 → Int32 → it_Me → Prop
  | 0, _, _, _ => False
  | n2 + 1, v1, v2, m =>
  ((m 66 33) ≤ v2 → K148 m) ∧ (¬ (m 66 33) ≤ v2 → (v2 = v1 → w_249_34 kc Φ (w_249_2 kc Φ K140 K148 n2) K140 K148 v1 v2 m) ∧ (¬ v2 = v1 → vp_in v2 2048 ∧ (vp_in v1 2048 ∧ (((m 77 (Int32.toNatClampNeg v2)) = (m 77 (Int32.toNatClampNeg v1)) → w_249_35 kc Φ (w_249_2 kc Φ K140 K148 n2) K140 K148 v1 v2 (1 : Int32) m) ∧ (¬ (m 77 (Int32.toNatClampNeg v2)) = (m 77 (Int32.toNatClampNeg v1)) → w_249_34 kc Φ (w_249_2 kc Φ K140 K148 n2) K140 K148 v1 v2 m)))))
def w_249_140 (kc : it_Kc) (Φ : Int32 → it_Me → Prop) (m : it_Me) : Prop :=
  Φ (1 : Int32) m
def w_249_148 (kc : it_Kc) (Φ : Int32 → it_Me → Prop) (m : it_Me) : Prop :=
  Φ (0 : Int32) m
def w_249 (kc : it_Kc) (x0 : Int32) (m : it_Me) (Φ : Int32 → it_Me → Prop) : Prop :=
  ∃ e, w_249_2 kc Φ (fun m => w_249_140 kc Φ m) (fun m => w_249_148 kc Φ m) e x0 (0 : Int32) m
/-- GrantBoardModel.loadApps(Z)V -/
def w_250_65 (kc : it_Kc) (Φ : it_Me → Prop) (K87 : Int32 → Int32 → Int32 → Int32 → Int32 → it_Me → Prop) : Nat → Int32 → Int32 → Int32 → Int32 → Int32 → it_Me → Prop
  | 0, _, _, _, _, _, _ => False
  | n65 + 1, v2, v3, v4, v5, v6, m =>
  (((m 66 21) + (512 : Int32)) ≤ v6 → K87 v2 v3 v4 v5 v6 m) ∧ (¬ ((m 66 21) + (512 : Int32)) ≤ v6 → (w_250_65 kc Φ K87 n65) v2 v3 v4 v5 (v6 * (2 : Int32)) m)
def w_250_290 (kc : it_Kc) (Φ : it_Me → Prop) (K10 : Int32 → Int32 → it_Me → Prop) (K296 : it_Me → Prop) (v2 : Int32) (v3 : Int32) (m : it_Me) : Prop :=
  K10 v2 (v3 + (1 : Int32)) m
def w_250_131 (kc : it_Kc) (Φ : it_Me → Prop) (K10 : Int32 → Int32 → it_Me → Prop) (K296 : it_Me → Prop) (v3 : Int32) (v4 : Int32) (v6 : Int32) (v7 : Int32) (m : it_Me) : Prop :=
  vp_in (m 66 34) 8 ∧ (vp_in (m 66 34) 8 ∧ (vp_in (m 66 34) 8 ∧ (vp_in (m 66 34) 8 ∧ (vp_in (m 66 34) 8 ∧ (vp_in (m 66 34) 8 ∧ (vp_in (m 66 34) 8 ∧ (vp_in (m 66 34) 8 ∧ (vp_in (m 66 34) 8 ∧ (vp_in (m 66 34) 8 ∧ (vp_in (m 66 34) 8 ∧ (vp_in (m 66 34) 8 ∧ (w_250_290 kc Φ K10 K296 (v7 + v6) v3 (it_sv (it_sv (it_sv (it_sv (it_sv (it_sv (it_sv (it_sv (it_sv (it_sv (it_sv (it_sv (it_sv m 79 (Int32.toNatClampNeg (m 66 34)) v4) 80 (Int32.toNatClampNeg (m 66 34)) (v4 + ((it_sv m 79 (Int32.toNatClampNeg (m 66 34)) v4) 66 19))) 81 (Int32.toNatClampNeg (m 66 34)) ((v4 + ((it_sv (it_sv m 79 (Int32.toNatClampNeg (m 66 34)) v4) 80 (Int32.toNatClampNeg (m 66 34)) (v4 + ((it_sv m 79 (Int32.toNatClampNeg (m 66 34)) v4) 66 19))) 66 18)) + ((it_sv (it_sv m 79 (Int32.toNatClampNeg (m 66 34)) v4) 80 (Int32.toNatClampNeg (m 66 34)) (v4 + ((it_sv m 79 (Int32.toNatClampNeg (m 66 34)) v4) 66 19))) 66 20))) 82 (Int32.toNatClampNeg (m 66 34)) ((it_sv (it_sv (it_sv m 79 (Int32.toNatClampNeg (m 66 34)) v4) 80 (Int32.toNatClampNeg (m 66 34)) (v4 + ((it_sv m 79 (Int32.toNatClampNeg (m 66 34)) v4) 66 19))) 81 (Int32.toNatClampNeg (m 66 34)) ((v4 + ((it_sv (it_sv m 79 (Int32.toNatClampNeg (m 66 34)) v4) 80 (Int32.toNatClampNeg (m 66 34)) (v4 + ((it_sv m 79 (Int32.toNatClampNeg (m 66 34)) v4) 66 19))) 66 18)) + ((it_sv (it_sv m 79 (Int32.toNatClampNeg (m 66 34)) v4) 80 (Int32.toNatClampNeg (m 66 34)) (v4 + ((it_sv m 79 (Int32.toNatClampNeg (m 66 34)) v4) 66 19))) 66 20))) 66 21)) 83 (Int32.toNatClampNeg (m 66 34)) ((it_sv (it_sv (it_sv (it_sv m 79 (Int32.toNatClampNeg (m 66 34)) v4) 80 (Int32.toNatClampNeg (m 66 34)) (v4 + ((it_sv m 79 (Int32.toNatClampNeg (m 66 34)) v4) 66 19))) 81 (Int32.toNatClampNeg (m 66 34)) ((v4 + ((it_sv (it_sv m 79 (Int32.toNatClampNeg (m 66 34)) v4) 80 (Int32.toNatClampNeg (m 66 34)) (v4 + ((it_sv m 79 (Int32.toNatClampNeg (m 66 34)) v4) 66 19))) 66 18)) + ((it_sv (it_sv m 79 (Int32.toNatClampNeg (m 66 34)) v4) 80 (Int32.toNatClampNeg (m 66 34)) (v4 + ((it_sv m 79 (Int32.toNatClampNeg (m 66 34)) v4) 66 19))) 66 20))) 82 (Int32.toNatClampNeg (m 66 34)) ((it_sv (it_sv (it_sv m 79 (Int32.toNatClampNeg (m 66 34)) v4) 80 (Int32.toNatClampNeg (m 66 34)) (v4 + ((it_sv m 79 (Int32.toNatClampNeg (m 66 34)) v4) 66 19))) 81 (Int32.toNatClampNeg (m 66 34)) ((v4 + ((it_sv (it_sv m 79 (Int32.toNatClampNeg (m 66 34)) v4) 80 (Int32.toNatClampNeg (m 66 34)) (v4 + ((it_sv m 79 (Int32.toNatClampNeg (m 66 34)) v4) 66 19))) 66 18)) + ((it_sv (it_sv m 79 (Int32.toNatClampNeg (m 66 34)) v4) 80 (Int32.toNatClampNeg (m 66 34)) (v4 + ((it_sv m 79 (Int32.toNatClampNeg (m 66 34)) v4) 66 19))) 66 20))) 66 21)) 66 23)) 84 (Int32.toNatClampNeg (m 66 34)) ((it_sv (it_sv (it_sv (it_sv (it_sv m 79 (Int32.toNatClampNeg (m 66 34)) v4) 80 (Int32.toNatClampNeg (m 66 34)) (v4 + ((it_sv m 79 (Int32.toNatClampNeg (m 66 34)) v4) 66 19))) 81 (Int32.toNatClampNeg (m 66 34)) ((v4 + ((it_sv (it_sv m 79 (Int32.toNatClampNeg (m 66 34)) v4) 80 (Int32.toNatClampNeg (m 66 34)) (v4 + ((it_sv m 79 (Int32.toNatClampNeg (m 66 34)) v4) 66 19))) 66 18)) + ((it_sv (it_sv m 79 (Int32.toNatClampNeg (m 66 34)) v4) 80 (Int32.toNatClampNeg (m 66 34)) (v4 + ((it_sv m 79 (Int32.toNatClampNeg (m 66 34)) v4) 66 19))) 66 20))) 82 (Int32.toNatClampNeg (m 66 34)) ((it_sv (it_sv (it_sv m 79 (Int32.toNatClampNeg (m 66 34)) v4) 80 (Int32.toNatClampNeg (m 66 34)) (v4 + ((it_sv m 79 (Int32.toNatClampNeg (m 66 34)) v4) 66 19))) 81 (Int32.toNatClampNeg (m 66 34)) ((v4 + ((it_sv (it_sv m 79 (Int32.toNatClampNeg (m 66 34)) v4) 80 (Int32.toNatClampNeg (m 66 34)) (v4 + ((it_sv m 79 (Int32.toNatClampNeg (m 66 34)) v4) 66 19))) 66 18)) + ((it_sv (it_sv m 79 (Int32.toNatClampNeg (m 66 34)) v4) 80 (Int32.toNatClampNeg (m 66 34)) (v4 + ((it_sv m 79 (Int32.toNatClampNeg (m 66 34)) v4) 66 19))) 66 20))) 66 21)) 83 (Int32.toNatClampNeg (m 66 34)) ((it_sv (it_sv (it_sv (it_sv m 79 (Int32.toNatClampNeg (m 66 34)) v4) 80 (Int32.toNatClampNeg (m 66 34)) (v4 + ((it_sv m 79 (Int32.toNatClampNeg (m 66 34)) v4) 66 19))) 81 (Int32.toNatClampNeg (m 66 34)) ((v4 + ((it_sv (it_sv m 79 (Int32.toNatClampNeg (m 66 34)) v4) 80 (Int32.toNatClampNeg (m 66 34)) (v4 + ((it_sv m 79 (Int32.toNatClampNeg (m 66 34)) v4) 66 19))) 66 18)) + ((it_sv (it_sv m 79 (Int32.toNatClampNeg (m 66 34)) v4) 80 (Int32.toNatClampNeg (m 66 34)) (v4 + ((it_sv m 79 (Int32.toNatClampNeg (m 66 34)) v4) 66 19))) 66 20))) 82 (Int32.toNatClampNeg (m 66 34)) ((it_sv (it_sv (it_sv m 79 (Int32.toNatClampNeg (m 66 34)) v4) 80 (Int32.toNatClampNeg (m 66 34)) (v4 + ((it_sv m 79 (Int32.toNatClampNeg (m 66 34)) v4) 66 19))) 81 (Int32.toNatClampNeg (m 66 34)) ((v4 + ((it_sv (it_sv m 79 (Int32.toNatClampNeg (m 66 34)) v4) 80 (Int32.toNatClampNeg (m 66 34)) (v4 + ((it_sv m 79 (Int32.toNatClampNeg (m 66 34)) v4) 66 19))) 66 18)) + ((it_sv (it_sv m 79 (Int32.toNatClampNeg (m 66 34)) v4) 80 (Int32.toNatClampNeg (m 66 34)) (v4 + ((it_sv m 79 (Int32.toNatClampNeg (m 66 34)) v4) 66 19))) 66 20))) 66 21)) 66 23)) 66 24)) 85 (Int32.toNatClampNeg (m 66 34)) ((it_sv (it_sv (it_sv (it_sv (it_sv (it_sv m 79 (Int32.toNatClampNeg (m 66 34)) v4) 80 (Int32.toNatClampNeg (m 66 34)) (v4 + ((it_sv m 79 (Int32.toNatClampNeg (m 66 34)) v4) 66 19))) 81 (Int32.toNatClampNeg (m 66 34)) ((v4 + ((it_sv (it_sv m 79 (Int32.toNatClampNeg (m 66 34)) v4) 80 (Int32.toNatClampNeg (m 66 34)) (v4 + ((it_sv m 79 (Int32.toNatClampNeg (m 66 34)) v4) 66 19))) 66 18)) + ((it_sv (it_sv m 79 (Int32.toNatClampNeg (m 66 34)) v4) 80 (Int32.toNatClampNeg (m 66 34)) (v4 + ((it_sv m 79 (Int32.toNatClampNeg (m 66 34)) v4) 66 19))) 66 20))) 82 (Int32.toNatClampNeg (m 66 34)) ((it_sv (it_sv (it_sv m 79 (Int32.toNatClampNeg (m 66 34)) v4) 80 (Int32.toNatClampNeg (m 66 34)) (v4 + ((it_sv m 79 (Int32.toNatClampNeg (m 66 34)) v4) 66 19))) 81 (Int32.toNatClampNeg (m 66 34)) ((v4 + ((it_sv (it_sv m 79 (Int32.toNatClampNeg (m 66 34)) v4) 80 (Int32.toNatClampNeg (m 66 34)) (v4 + ((it_sv m 79 (Int32.toNatClampNeg (m 66 34)) v4) 66 19))) 66 18)) + ((it_sv (it_sv m 79 (Int32.toNatClampNeg (m 66 34)) v4) 80 (Int32.toNatClampNeg (m 66 34)) (v4 + ((it_sv m 79 (Int32.toNatClampNeg (m 66 34)) v4) 66 19))) 66 20))) 66 21)) 83 (Int32.toNatClampNeg (m 66 34)) ((it_sv (it_sv (it_sv (it_sv m 79 (Int32.toNatClampNeg (m 66 34)) v4) 80 (Int32.toNatClampNeg (m 66 34)) (v4 + ((it_sv m 79 (Int32.toNatClampNeg (m 66 34)) v4) 66 19))) 81 (Int32.toNatClampNeg (m 66 34)) ((v4 + ((it_sv (it_sv m 79 (Int32.toNatClampNeg (m 66 34)) v4) 80 (Int32.toNatClampNeg (m 66 34)) (v4 + ((it_sv m 79 (Int32.toNatClampNeg (m 66 34)) v4) 66 19))) 66 18)) + ((it_sv (it_sv m 79 (Int32.toNatClampNeg (m 66 34)) v4) 80 (Int32.toNatClampNeg (m 66 34)) (v4 + ((it_sv m 79 (Int32.toNatClampNeg (m 66 34)) v4) 66 19))) 66 20))) 82 (Int32.toNatClampNeg (m 66 34)) ((it_sv (it_sv (it_sv m 79 (Int32.toNatClampNeg (m 66 34)) v4) 80 (Int32.toNatClampNeg (m 66 34)) (v4 + ((it_sv m 79 (Int32.toNatClampNeg (m 66 34)) v4) 66 19))) 81 (Int32.toNatClampNeg (m 66 34)) ((v4 + ((it_sv (it_sv m 79 (Int32.toNatClampNeg (m 66 34)) v4) 80 (Int32.toNatClampNeg (m 66 34)) (v4 + ((it_sv m 79 (Int32.toNatClampNeg (m 66 34)) v4) 66 19))) 66 18)) + ((it_sv (it_sv m 79 (Int32.toNatClampNeg (m 66 34)) v4) 80 (Int32.toNatClampNeg (m 66 34)) (v4 + ((it_sv m 79 (Int32.toNatClampNeg (m 66 34)) v4) 66 19))) 66 20))) 66 21)) 66 23)) 84 (Int32.toNatClampNeg (m 66 34)) ((it_sv (it_sv (it_sv (it_sv (it_sv m 79 (Int32.toNatClampNeg (m 66 34)) v4) 80 (Int32.toNatClampNeg (m 66 34)) (v4 + ((it_sv m 79 (Int32.toNatClampNeg (m 66 34)) v4) 66 19))) 81 (Int32.toNatClampNeg (m 66 34)) ((v4 + ((it_sv (it_sv m 79 (Int32.toNatClampNeg (m 66 34)) v4) 80 (Int32.toNatClampNeg (m 66 34)) (v4 + ((it_sv m 79 (Int32.toNatClampNeg (m 66 34)) v4) 66 19))) 66 18)) + ((it_sv (it_sv m 79 (Int32.toNatClampNeg (m 66 34)) v4) 80 (Int32.toNatClampNeg (m 66 34)) (v4 + ((it_sv m 79 (Int32.toNatClampNeg (m 66 34)) v4) 66 19))) 66 20))) 82 (Int32.toNatClampNeg (m 66 34)) ((it_sv (it_sv (it_sv m 79 (Int32.toNatClampNeg (m 66 34)) v4) 80 (Int32.toNatClampNeg (m 66 34)) (v4 + ((it_sv m 79 (Int32.toNatClampNeg (m 66 34)) v4) 66 19))) 81 (Int32.toNatClampNeg (m 66 34)) ((v4 + ((it_sv (it_sv m 79 (Int32.toNatClampNeg (m 66 34)) v4) 80 (Int32.toNatClampNeg (m 66 34)) (v4 + ((it_sv m 79 (Int32.toNatClampNeg (m 66 34)) v4) 66 19))) 66 18)) + ((it_sv (it_sv m 79 (Int32.toNatClampNeg (m 66 34)) v4) 80 (Int32.toNatClampNeg (m 66 34)) (v4 + ((it_sv m 79 (Int32.toNatClampNeg (m 66 34)) v4) 66 19))) 66 20))) 66 21)) 83 (Int32.toNatClampNeg (m 66 34)) ((it_sv (it_sv (it_sv (it_sv m 79 (Int32.toNatClampNeg (m 66 34)) v4) 80 (Int32.toNatClampNeg (m 66 34)) (v4 + ((it_sv m 79 (Int32.toNatClampNeg (m 66 34)) v4) 66 19))) 81 (Int32.toNatClampNeg (m 66 34)) ((v4 + ((it_sv (it_sv m 79 (Int32.toNatClampNeg (m 66 34)) v4) 80 (Int32.toNatClampNeg (m 66 34)) (v4 + ((it_sv m 79 (Int32.toNatClampNeg (m 66 34)) v4) 66 19))) 66 18)) + ((it_sv (it_sv m 79 (Int32.toNatClampNeg (m 66 34)) v4) 80 (Int32.toNatClampNeg (m 66 34)) (v4 + ((it_sv m 79 (Int32.toNatClampNeg (m 66 34)) v4) 66 19))) 66 20))) 82 (Int32.toNatClampNeg (m 66 34)) ((it_sv (it_sv (it_sv m 79 (Int32.toNatClampNeg (m 66 34)) v4) 80 (Int32.toNatClampNeg (m 66 34)) (v4 + ((it_sv m 79 (Int32.toNatClampNeg (m 66 34)) v4) 66 19))) 81 (Int32.toNatClampNeg (m 66 34)) ((v4 + ((it_sv (it_sv m 79 (Int32.toNatClampNeg (m 66 34)) v4) 80 (Int32.toNatClampNeg (m 66 34)) (v4 + ((it_sv m 79 (Int32.toNatClampNeg (m 66 34)) v4) 66 19))) 66 18)) + ((it_sv (it_sv m 79 (Int32.toNatClampNeg (m 66 34)) v4) 80 (Int32.toNatClampNeg (m 66 34)) (v4 + ((it_sv m 79 (Int32.toNatClampNeg (m 66 34)) v4) 66 19))) 66 20))) 66 21)) 66 23)) 66 24)) 66 25)) 86 (Int32.toNatClampNeg (m 66 34)) ((it_sv (it_sv (it_sv (it_sv (it_sv (it_sv (it_sv m 79 (Int32.toNatClampNeg (m 66 34)) v4) 80 (Int32.toNatClampNeg (m 66 34)) (v4 + ((it_sv m 79 (Int32.toNatClampNeg (m 66 34)) v4) 66 19))) 81 (Int32.toNatClampNeg (m 66 34)) ((v4 + ((it_sv (it_sv m 79 (Int32.toNatClampNeg (m 66 34)) v4) 80 (Int32.toNatClampNeg (m 66 34)) (v4 + ((it_sv m 79 (Int32.toNatClampNeg (m 66 34)) v4) 66 19))) 66 18)) + ((it_sv (it_sv m 79 (Int32.toNatClampNeg (m 66 34)) v4) 80 (Int32.toNatClampNeg (m 66 34)) (v4 + ((it_sv m 79 (Int32.toNatClampNeg (m 66 34)) v4) 66 19))) 66 20))) 82 (Int32.toNatClampNeg (m 66 34)) ((it_sv (it_sv (it_sv m 79 (Int32.toNatClampNeg (m 66 34)) v4) 80 (Int32.toNatClampNeg (m 66 34)) (v4 + ((it_sv m 79 (Int32.toNatClampNeg (m 66 34)) v4) 66 19))) 81 (Int32.toNatClampNeg (m 66 34)) ((v4 + ((it_sv (it_sv m 79 (Int32.toNatClampNeg (m 66 34)) v4) 80 (Int32.toNatClampNeg (m 66 34)) (v4 + ((it_sv m 79 (Int32.toNatClampNeg (m 66 34)) v4) 66 19))) 66 18)) + ((it_sv (it_sv m 79 (Int32.toNatClampNeg (m 66 34)) v4) 80 (Int32.toNatClampNeg (m 66 34)) (v4 + ((it_sv m 79 (Int32.toNatClampNeg (m 66 34)) v4) 66 19))) 66 20))) 66 21)) 83 (Int32.toNatClampNeg (m 66 34)) ((it_sv (it_sv (it_sv (it_sv m 79 (Int32.toNatClampNeg (m 66 34)) v4) 80 (Int32.toNatClampNeg (m 66 34)) (v4 + ((it_sv m 79 (Int32.toNatClampNeg (m 66 34)) v4) 66 19))) 81 (Int32.toNatClampNeg (m 66 34)) ((v4 + ((it_sv (it_sv m 79 (Int32.toNatClampNeg (m 66 34)) v4) 80 (Int32.toNatClampNeg (m 66 34)) (v4 + ((it_sv m 79 (Int32.toNatClampNeg (m 66 34)) v4) 66 19))) 66 18)) + ((it_sv (it_sv m 79 (Int32.toNatClampNeg (m 66 34)) v4) 80 (Int32.toNatClampNeg (m 66 34)) (v4 + ((it_sv m 79 (Int32.toNatClampNeg (m 66 34)) v4) 66 19))) 66 20))) 82 (Int32.toNatClampNeg (m 66 34)) ((it_sv (it_sv (it_sv m 79 (Int32.toNatClampNeg (m 66 34)) v4) 80 (Int32.toNatClampNeg (m 66 34)) (v4 + ((it_sv m 79 (Int32.toNatClampNeg (m 66 34)) v4) 66 19))) 81 (Int32.toNatClampNeg (m 66 34)) ((v4 + ((it_sv (it_sv m 79 (Int32.toNatClampNeg (m 66 34)) v4) 80 (Int32.toNatClampNeg (m 66 34)) (v4 + ((it_sv m 79 (Int32.toNatClampNeg (m 66 34)) v4) 66 19))) 66 18)) + ((it_sv (it_sv m 79 (Int32.toNatClampNeg (m 66 34)) v4) 80 (Int32.toNatClampNeg (m 66 34)) (v4 + ((it_sv m 79 (Int32.toNatClampNeg (m 66 34)) v4) 66 19))) 66 20))) 66 21)) 66 23)) 84 (Int32.toNatClampNeg (m 66 34)) ((it_sv (it_sv (it_sv (it_sv (it_sv m 79 (Int32.toNatClampNeg (m 66 34)) v4) 80 (Int32.toNatClampNeg (m 66 34)) (v4 + ((it_sv m 79 (Int32.toNatClampNeg (m 66 34)) v4) 66 19))) 81 (Int32.toNatClampNeg (m 66 34)) ((v4 + ((it_sv (it_sv m 79 (Int32.toNatClampNeg (m 66 34)) v4) 80 (Int32.toNatClampNeg (m 66 34)) (v4 + ((it_sv m 79 (Int32.toNatClampNeg (m 66 34)) v4) 66 19))) 66 18)) + ((it_sv (it_sv m 79 (Int32.toNatClampNeg (m 66 34)) v4) 80 (Int32.toNatClampNeg (m 66 34)) (v4 + ((it_sv m 79 (Int32.toNatClampNeg (m 66 34)) v4) 66 19))) 66 20))) 82 (Int32.toNatClampNeg (m 66 34)) ((it_sv (it_sv (it_sv m 79 (Int32.toNatClampNeg (m 66 34)) v4) 80 (Int32.toNatClampNeg (m 66 34)) (v4 + ((it_sv m 79 (Int32.toNatClampNeg (m 66 34)) v4) 66 19))) 81 (Int32.toNatClampNeg (m 66 34)) ((v4 + ((it_sv (it_sv m 79 (Int32.toNatClampNeg (m 66 34)) v4) 80 (Int32.toNatClampNeg (m 66 34)) (v4 + ((it_sv m 79 (Int32.toNatClampNeg (m 66 34)) v4) 66 19))) 66 18)) + ((it_sv (it_sv m 79 (Int32.toNatClampNeg (m 66 34)) v4) 80 (Int32.toNatClampNeg (m 66 34)) (v4 + ((it_sv m 79 (Int32.toNatClampNeg (m 66 34)) v4) 66 19))) 66 20))) 66 21)) 83 (Int32.toNatClampNeg (m 66 34)) ((it_sv (it_sv (it_sv (it_sv m 79 (Int32.toNatClampNeg (m 66 34)) v4) 80 (Int32.toNatClampNeg (m 66 34)) (v4 + ((it_sv m 79 (Int32.toNatClampNeg (m 66 34)) v4) 66 19))) 81 (Int32.toNatClampNeg (m 66 34)) ((v4 + ((it_sv (it_sv m 79 (Int32.toNatClampNeg (m 66 34)) v4) 80 (Int32.toNatClampNeg (m 66 34)) (v4 + ((it_sv m 79 (Int32.toNatClampNeg (m 66 34)) v4) 66 19))) 66 18)) + ((it_sv (it_sv m 79 (Int32.toNatClampNeg (m 66 34)) v4) 80 (Int32.toNatClampNeg (m 66 34)) (v4 + ((it_sv m 79 (Int32.toNatClampNeg (m 66 34)) v4) 66 19))) 66 20))) 82 (Int32.toNatClampNeg (m 66 34)) ((it_sv (it_sv (it_sv m 79 (Int32.toNatClampNeg (m 66 34)) v4) 80 (Int32.toNatClampNeg (m 66 34)) (v4 + ((it_sv m 79 (Int32.toNatClampNeg (m 66 34)) v4) 66 19))) 81 (Int32.toNatClampNeg (m 66 34)) ((v4 + ((it_sv (it_sv m 79 (Int32.toNatClampNeg (m 66 34)) v4) 80 (Int32.toNatClampNeg (m 66 34)) (v4 + ((it_sv m 79 (Int32.toNatClampNeg (m 66 34)) v4) 66 19))) 66 18)) + ((it_sv (it_sv m 79 (Int32.toNatClampNeg (m 66 34)) v4) 80 (Int32.toNatClampNeg (m 66 34)) (v4 + ((it_sv m 79 (Int32.toNatClampNeg (m 66 34)) v4) 66 19))) 66 20))) 66 21)) 66 23)) 66 24)) 85 (Int32.toNatClampNeg (m 66 34)) ((it_sv (it_sv (it_sv (it_sv (it_sv (it_sv m 79 (Int32.toNatClampNeg (m 66 34)) v4) 80 (Int32.toNatClampNeg (m 66 34)) (v4 + ((it_sv m 79 (Int32.toNatClampNeg (m 66 34)) v4) 66 19))) 81 (Int32.toNatClampNeg (m 66 34)) ((v4 + ((it_sv (it_sv m 79 (Int32.toNatClampNeg (m 66 34)) v4) 80 (Int32.toNatClampNeg (m 66 34)) (v4 + ((it_sv m 79 (Int32.toNatClampNeg (m 66 34)) v4) 66 19))) 66 18)) + ((it_sv (it_sv m 79 (Int32.toNatClampNeg (m 66 34)) v4) 80 (Int32.toNatClampNeg (m 66 34)) (v4 + ((it_sv m 79 (Int32.toNatClampNeg (m 66 34)) v4) 66 19))) 66 20))) 82 (Int32.toNatClampNeg (m 66 34)) ((it_sv (it_sv (it_sv m 79 (Int32.toNatClampNeg (m 66 34)) v4) 80 (Int32.toNatClampNeg (m 66 34)) (v4 + ((it_sv m 79 (Int32.toNatClampNeg (m 66 34)) v4) 66 19))) 81 (Int32.toNatClampNeg (m 66 34)) ((v4 + ((it_sv (it_sv m 79 (Int32.toNatClampNeg (m 66 34)) v4) 80 (Int32.toNatClampNeg (m 66 34)) (v4 + ((it_sv m 79 (Int32.toNatClampNeg (m 66 34)) v4) 66 19))) 66 18)) + ((it_sv (it_sv m 79 (Int32.toNatClampNeg (m 66 34)) v4) 80 (Int32.toNatClampNeg (m 66 34)) (v4 + ((it_sv m 79 (Int32.toNatClampNeg (m 66 34)) v4) 66 19))) 66 20))) 66 21)) 83 (Int32.toNatClampNeg (m 66 34)) ((it_sv (it_sv (it_sv (it_sv m 79 (Int32.toNatClampNeg (m 66 34)) v4) 80 (Int32.toNatClampNeg (m 66 34)) (v4 + ((it_sv m 79 (Int32.toNatClampNeg (m 66 34)) v4) 66 19))) 81 (Int32.toNatClampNeg (m 66 34)) ((v4 + ((it_sv (it_sv m 79 (Int32.toNatClampNeg (m 66 34)) v4) 80 (Int32.toNatClampNeg (m 66 34)) (v4 + ((it_sv m 79 (Int32.toNatClampNeg (m 66 34)) v4) 66 19))) 66 18)) + ((it_sv (it_sv m 79 (Int32.toNatClampNeg (m 66 34)) v4) 80 (Int32.toNatClampNeg (m 66 34)) (v4 + ((it_sv m 79 (Int32.toNatClampNeg (m 66 34)) v4) 66 19))) 66 20))) 82 (Int32.toNatClampNeg (m 66 34)) ((it_sv (it_sv (it_sv m 79 (Int32.toNatClampNeg (m 66 34)) v4) 80 (Int32.toNatClampNeg (m 66 34)) (v4 + ((it_sv m 79 (Int32.toNatClampNeg (m 66 34)) v4) 66 19))) 81 (Int32.toNatClampNeg (m 66 34)) ((v4 + ((it_sv (it_sv m 79 (Int32.toNatClampNeg (m 66 34)) v4) 80 (Int32.toNatClampNeg (m 66 34)) (v4 + ((it_sv m 79 (Int32.toNatClampNeg (m 66 34)) v4) 66 19))) 66 18)) + ((it_sv (it_sv m 79 (Int32.toNatClampNeg (m 66 34)) v4) 80 (Int32.toNatClampNeg (m 66 34)) (v4 + ((it_sv m 79 (Int32.toNatClampNeg (m 66 34)) v4) 66 19))) 66 20))) 66 21)) 66 23)) 84 (Int32.toNatClampNeg (m 66 34)) ((it_sv (it_sv (it_sv (it_sv (it_sv m 79 (Int32.toNatClampNeg (m 66 34)) v4) 80 (Int32.toNatClampNeg (m 66 34)) (v4 + ((it_sv m 79 (Int32.toNatClampNeg (m 66 34)) v4) 66 19))) 81 (Int32.toNatClampNeg (m 66 34)) ((v4 + ((it_sv (it_sv m 79 (Int32.toNatClampNeg (m 66 34)) v4) 80 (Int32.toNatClampNeg (m 66 34)) (v4 + ((it_sv m 79 (Int32.toNatClampNeg (m 66 34)) v4) 66 19))) 66 18)) + ((it_sv (it_sv m 79 (Int32.toNatClampNeg (m 66 34)) v4) 80 (Int32.toNatClampNeg (m 66 34)) (v4 + ((it_sv m 79 (Int32.toNatClampNeg (m 66 34)) v4) 66 19))) 66 20))) 82 (Int32.toNatClampNeg (m 66 34)) ((it_sv (it_sv (it_sv m 79 (Int32.toNatClampNeg (m 66 34)) v4) 80 (Int32.toNatClampNeg (m 66 34)) (v4 + ((it_sv m 79 (Int32.toNatClampNeg (m 66 34)) v4) 66 19))) 81 (Int32.toNatClampNeg (m 66 34)) ((v4 + ((it_sv (it_sv m 79 (Int32.toNatClampNeg (m 66 34)) v4) 80 (Int32.toNatClampNeg (m 66 34)) (v4 + ((it_sv m 79 (Int32.toNatClampNeg (m 66 34)) v4) 66 19))) 66 18)) + ((it_sv (it_sv m 79 (Int32.toNatClampNeg (m 66 34)) v4) 80 (Int32.toNatClampNeg (m 66 34)) (v4 + ((it_sv m 79 (Int32.toNatClampNeg (m 66 34)) v4) 66 19))) 66 20))) 66 21)) 83 (Int32.toNatClampNeg (m 66 34)) ((it_sv (it_sv (it_sv (it_sv m 79 (Int32.toNatClampNeg (m 66 34)) v4) 80 (Int32.toNatClampNeg (m 66 34)) (v4 + ((it_sv m 79 (Int32.toNatClampNeg (m 66 34)) v4) 66 19))) 81 (Int32.toNatClampNeg (m 66 34)) ((v4 + ((it_sv (it_sv m 79 (Int32.toNatClampNeg (m 66 34)) v4) 80 (Int32.toNatClampNeg (m 66 34)) (v4 + ((it_sv m 79 (Int32.toNatClampNeg (m 66 34)) v4) 66 19))) 66 18)) + ((it_sv (it_sv m 79 (Int32.toNatClampNeg (m 66 34)) v4) 80 (Int32.toNatClampNeg (m 66 34)) (v4 + ((it_sv m 79 (Int32.toNatClampNeg (m 66 34)) v4) 66 19))) 66 20))) 82 (Int32.toNatClampNeg (m 66 34)) ((it_sv (it_sv (it_sv m 79 (Int32.toNatClampNeg (m 66 34)) v4) 80 (Int32.toNatClampNeg (m 66 34)) (v4 + ((it_sv m 79 (Int32.toNatClampNeg (m 66 34)) v4) 66 19))) 81 (Int32.toNatClampNeg (m 66 34)) ((v4 + ((it_sv (it_sv m 79 (Int32.toNatClampNeg (m 66 34)) v4) 80 (Int32.toNatClampNeg (m 66 34)) (v4 + ((it_sv m 79 (Int32.toNatClampNeg (m 66 34)) v4) 66 19))) 66 18)) + ((it_sv (it_sv m 79 (Int32.toNatClampNeg (m 66 34)) v4) 80 (Int32.toNatClampNeg (m 66 34)) (v4 + ((it_sv m 79 (Int32.toNatClampNeg (m 66 34)) v4) 66 19))) 66 20))) 66 21)) 66 23)) 66 24)) 66 25)) 66 26)) 87 (Int32.toNatClampNeg (m 66 34)) ((it_sv (it_sv (it_sv (it_sv (it_sv (it_sv (it_sv (it_sv m 79 (Int32.toNatClampNeg (m 66 34)) v4) 80 (Int32.toNatClampNeg (m 66 34)) (v4 + ((it_sv m 79 (Int32.toNatClampNeg (m 66 34)) v4) 66 19))) 81 (Int32.toNatClampNeg (m 66 34)) ((v4 + ((it_sv (it_sv m 79 (Int32.toNatClampNeg (m 66 34)) v4) 80 (Int32.toNatClampNeg (m 66 34)) (v4 + ((it_sv m 79 (Int32.toNatClampNeg (m 66 34)) v4) 66 19))) 66 18)) + ((it_sv (it_sv m 79 (Int32.toNatClampNeg (m 66 34)) v4) 80 (Int32.toNatClampNeg (m 66 34)) (v4 + ((it_sv m 79 (Int32.toNatClampNeg (m 66 34)) v4) 66 19))) 66 20))) 82 (Int32.toNatClampNeg (m 66 34)) ((it_sv (it_sv (it_sv m 79 (Int32.toNatClampNeg (m 66 34)) v4) 80 (Int32.toNatClampNeg (m 66 34)) (v4 + ((it_sv m 79 (Int32.toNatClampNeg (m 66 34)) v4) 66 19))) 81 (Int32.toNatClampNeg (m 66 34)) ((v4 + ((it_sv (it_sv m 79 (Int32.toNatClampNeg (m 66 34)) v4) 80 (Int32.toNatClampNeg (m 66 34)) (v4 + ((it_sv m 79 (Int32.toNatClampNeg (m 66 34)) v4) 66 19))) 66 18)) + ((it_sv (it_sv m 79 (Int32.toNatClampNeg (m 66 34)) v4) 80 (Int32.toNatClampNeg (m 66 34)) (v4 + ((it_sv m 79 (Int32.toNatClampNeg (m 66 34)) v4) 66 19))) 66 20))) 66 21)) 83 (Int32.toNatClampNeg (m 66 34)) ((it_sv (it_sv (it_sv (it_sv m 79 (Int32.toNatClampNeg (m 66 34)) v4) 80 (Int32.toNatClampNeg (m 66 34)) (v4 + ((it_sv m 79 (Int32.toNatClampNeg (m 66 34)) v4) 66 19))) 81 (Int32.toNatClampNeg (m 66 34)) ((v4 + ((it_sv (it_sv m 79 (Int32.toNatClampNeg (m 66 34)) v4) 80 (Int32.toNatClampNeg (m 66 34)) (v4 + ((it_sv m 79 (Int32.toNatClampNeg (m 66 34)) v4) 66 19))) 66 18)) + ((it_sv (it_sv m 79 (Int32.toNatClampNeg (m 66 34)) v4) 80 (Int32.toNatClampNeg (m 66 34)) (v4 + ((it_sv m 79 (Int32.toNatClampNeg (m 66 34)) v4) 66 19))) 66 20))) 82 (Int32.toNatClampNeg (m 66 34)) ((it_sv (it_sv (it_sv m 79 (Int32.toNatClampNeg (m 66 34)) v4) 80 (Int32.toNatClampNeg (m 66 34)) (v4 + ((it_sv m 79 (Int32.toNatClampNeg (m 66 34)) v4) 66 19))) 81 (Int32.toNatClampNeg (m 66 34)) ((v4 + ((it_sv (it_sv m 79 (Int32.toNatClampNeg (m 66 34)) v4) 80 (Int32.toNatClampNeg (m 66 34)) (v4 + ((it_sv m 79 (Int32.toNatClampNeg (m 66 34)) v4) 66 19))) 66 18)) + ((it_sv (it_sv m 79 (Int32.toNatClampNeg (m 66 34)) v4) 80 (Int32.toNatClampNeg (m 66 34)) (v4 + ((it_sv m 79 (Int32.toNatClampNeg (m 66 34)) v4) 66 19))) 66 20))) 66 21)) 66 23)) 84 (Int32.toNatClampNeg (m 66 34)) ((it_sv (it_sv (it_sv (it_sv (it_sv m 79 (Int32.toNatClampNeg (m 66 34)) v4) 80 (Int32.toNatClampNeg (m 66 34)) (v4 + ((it_sv m 79 (Int32.toNatClampNeg (m 66 34)) v4) 66 19))) 81 (Int32.toNatClampNeg (m 66 34)) ((v4 + ((it_sv (it_sv m 79 (Int32.toNatClampNeg (m 66 34)) v4) 80 (Int32.toNatClampNeg (m 66 34)) (v4 + ((it_sv m 79 (Int32.toNatClampNeg (m 66 34)) v4) 66 19))) 66 18)) + ((it_sv (it_sv m 79 (Int32.toNatClampNeg (m 66 34)) v4) 80 (Int32.toNatClampNeg (m 66 34)) (v4 + ((it_sv m 79 (Int32.toNatClampNeg (m 66 34)) v4) 66 19))) 66 20))) 82 (Int32.toNatClampNeg (m 66 34)) ((it_sv (it_sv (it_sv m 79 (Int32.toNatClampNeg (m 66 34)) v4) 80 (Int32.toNatClampNeg (m 66 34)) (v4 + ((it_sv m 79 (Int32.toNatClampNeg (m 66 34)) v4) 66 19))) 81 (Int32.toNatClampNeg (m 66 34)) ((v4 + ((it_sv (it_sv m 79 (Int32.toNatClampNeg (m 66 34)) v4) 80 (Int32.toNatClampNeg (m 66 34)) (v4 + ((it_sv m 79 (Int32.toNatClampNeg (m 66 34)) v4) 66 19))) 66 18)) + ((it_sv (it_sv m 79 (Int32.toNatClampNeg (m 66 34)) v4) 80 (Int32.toNatClampNeg (m 66 34)) (v4 + ((it_sv m 79 (Int32.toNatClampNeg (m 66 34)) v4) 66 19))) 66 20))) 66 21)) 83 (Int32.toNatClampNeg (m 66 34)) ((it_sv (it_sv (it_sv (it_sv m 79 (Int32.toNatClampNeg (m 66 34)) v4) 80 (Int32.toNatClampNeg (m 66 34)) (v4 + ((it_sv m 79 (Int32.toNatClampNeg (m 66 34)) v4) 66 19))) 81 (Int32.toNatClampNeg (m 66 34)) ((v4 + ((it_sv (it_sv m 79 (Int32.toNatClampNeg (m 66 34)) v4) 80 (Int32.toNatClampNeg (m 66 34)) (v4 + ((it_sv m 79 (Int32.toNatClampNeg (m 66 34)) v4) 66 19))) 66 18)) + ((it_sv (it_sv m 79 (Int32.toNatClampNeg (m 66 34)) v4) 80 (Int32.toNatClampNeg (m 66 34)) (v4 + ((it_sv m 79 (Int32.toNatClampNeg (m 66 34)) v4) 66 19))) 66 20))) 82 (Int32.toNatClampNeg (m 66 34)) ((it_sv (it_sv (it_sv m 79 (Int32.toNatClampNeg (m 66 34)) v4) 80 (Int32.toNatClampNeg (m 66 34)) (v4 + ((it_sv m 79 (Int32.toNatClampNeg (m 66 34)) v4) 66 19))) 81 (Int32.toNatClampNeg (m 66 34)) ((v4 + ((it_sv (it_sv m 79 (Int32.toNatClampNeg (m 66 34)) v4) 80 (Int32.toNatClampNeg (m 66 34)) (v4 + ((it_sv m 79 (Int32.toNatClampNeg (m 66 34)) v4) 66 19))) 66 18)) + ((it_sv (it_sv m 79 (Int32.toNatClampNeg (m 66 34)) v4) 80 (Int32.toNatClampNeg (m 66 34)) (v4 + ((it_sv m 79 (Int32.toNatClampNeg (m 66 34)) v4) 66 19))) 66 20))) 66 21)) 66 23)) 66 24)) 85 (Int32.toNatClampNeg (m 66 34)) ((it_sv (it_sv (it_sv (it_sv (it_sv (it_sv m 79 (Int32.toNatClampNeg (m 66 34)) v4) 80 (Int32.toNatClampNeg (m 66 34)) (v4 + ((it_sv m 79 (Int32.toNatClampNeg (m 66 34)) v4) 66 19))) 81 (Int32.toNatClampNeg (m 66 34)) ((v4 + ((it_sv (it_sv m 79 (Int32.toNatClampNeg (m 66 34)) v4) 80 (Int32.toNatClampNeg (m 66 34)) (v4 + ((it_sv m 79 (Int32.toNatClampNeg (m 66 34)) v4) 66 19))) 66 18)) + ((it_sv (it_sv m 79 (Int32.toNatClampNeg (m 66 34)) v4) 80 (Int32.toNatClampNeg (m 66 34)) (v4 + ((it_sv m 79 (Int32.toNatClampNeg (m 66 34)) v4) 66 19))) 66 20))) 82 (Int32.toNatClampNeg (m 66 34)) ((it_sv (it_sv (it_sv m 79 (Int32.toNatClampNeg (m 66 34)) v4) 80 (Int32.toNatClampNeg (m 66 34)) (v4 + ((it_sv m 79 (Int32.toNatClampNeg (m 66 34)) v4) 66 19))) 81 (Int32.toNatClampNeg (m 66 34)) ((v4 + ((it_sv (it_sv m 79 (Int32.toNatClampNeg (m 66 34)) v4) 80 (Int32.toNatClampNeg (m 66 34)) (v4 + ((it_sv m 79 (Int32.toNatClampNeg (m 66 34)) v4) 66 19))) 66 18)) + ((it_sv (it_sv m 79 (Int32.toNatClampNeg (m 66 34)) v4) 80 (Int32.toNatClampNeg (m 66 34)) (v4 + ((it_sv m 79 (Int32.toNatClampNeg (m 66 34)) v4) 66 19))) 66 20))) 66 21)) 83 (Int32.toNatClampNeg (m 66 34)) ((it_sv (it_sv (it_sv (it_sv m 79 (Int32.toNatClampNeg (m 66 34)) v4) 80 (Int32.toNatClampNeg (m 66 34)) (v4 + ((it_sv m 79 (Int32.toNatClampNeg (m 66 34)) v4) 66 19))) 81 (Int32.toNatClampNeg (m 66 34)) ((v4 + ((it_sv (it_sv m 79 (Int32.toNatClampNeg (m 66 34)) v4) 80 (Int32.toNatClampNeg (m 66 34)) (v4 + ((it_sv m 79 (Int32.toNatClampNeg (m 66 34)) v4) 66 19))) 66 18)) + ((it_sv (it_sv m 79 (Int32.toNatClampNeg (m 66 34)) v4) 80 (Int32.toNatClampNeg (m 66 34)) (v4 + ((it_sv m 79 (Int32.toNatClampNeg (m 66 34)) v4) 66 19))) 66 20))) 82 (Int32.toNatClampNeg (m 66 34)) ((it_sv (it_sv (it_sv m 79 (Int32.toNatClampNeg (m 66 34)) v4) 80 (Int32.toNatClampNeg (m 66 34)) (v4 + ((it_sv m 79 (Int32.toNatClampNeg (m 66 34)) v4) 66 19))) 81 (Int32.toNatClampNeg (m 66 34)) ((v4 + ((it_sv (it_sv m 79 (Int32.toNatClampNeg (m 66 34)) v4) 80 (Int32.toNatClampNeg (m 66 34)) (v4 + ((it_sv m 79 (Int32.toNatClampNeg (m 66 34)) v4) 66 19))) 66 18)) + ((it_sv (it_sv m 79 (Int32.toNatClampNeg (m 66 34)) v4) 80 (Int32.toNatClampNeg (m 66 34)) (v4 + ((it_sv m 79 (Int32.toNatClampNeg (m 66 34)) v4) 66 19))) 66 20))) 66 21)) 66 23)) 84 (Int32.toNatClampNeg (m 66 34)) ((it_sv (it_sv (it_sv (it_sv (it_sv m 79 (Int32.toNatClampNeg (m 66 34)) v4) 80 (Int32.toNatClampNeg (m 66 34)) (v4 + ((it_sv m 79 (Int32.toNatClampNeg (m 66 34)) v4) 66 19))) 81 (Int32.toNatClampNeg (m 66 34)) ((v4 + ((it_sv (it_sv m 79 (Int32.toNatClampNeg (m 66 34)) v4) 80 (Int32.toNatClampNeg (m 66 34)) (v4 + ((it_sv m 79 (Int32.toNatClampNeg (m 66 34)) v4) 66 19))) 66 18)) + ((it_sv (it_sv m 79 (Int32.toNatClampNeg (m 66 34)) v4) 80 (Int32.toNatClampNeg (m 66 34)) (v4 + ((it_sv m 79 (Int32.toNatClampNeg (m 66 34)) v4) 66 19))) 66 20))) 82 (Int32.toNatClampNeg (m 66 34)) ((it_sv (it_sv (it_sv m 79 (Int32.toNatClampNeg (m 66 34)) v4) 80 (Int32.toNatClampNeg (m 66 34)) (v4 + ((it_sv m 79 (Int32.toNatClampNeg (m 66 34)) v4) 66 19))) 81 (Int32.toNatClampNeg (m 66 34)) ((v4 + ((it_sv (it_sv m 79 (Int32.toNatClampNeg (m 66 34)) v4) 80 (Int32.toNatClampNeg (m 66 34)) (v4 + ((it_sv m 79 (Int32.toNatClampNeg (m 66 34)) v4) 66 19))) 66 18)) + ((it_sv (it_sv m 79 (Int32.toNatClampNeg (m 66 34)) v4) 80 (Int32.toNatClampNeg (m 66 34)) (v4 + ((it_sv m 79 (Int32.toNatClampNeg (m 66 34)) v4) 66 19))) 66 20))) 66 21)) 83 (Int32.toNatClampNeg (m 66 34)) ((it_sv (it_sv (it_sv (it_sv m 79 (Int32.toNatClampNeg (m 66 34)) v4) 80 (Int32.toNatClampNeg (m 66 34)) (v4 + ((it_sv m 79 (Int32.toNatClampNeg (m 66 34)) v4) 66 19))) 81 (Int32.toNatClampNeg (m 66 34)) ((v4 + ((it_sv (it_sv m 79 (Int32.toNatClampNeg (m 66 34)) v4) 80 (Int32.toNatClampNeg (m 66 34)) (v4 + ((it_sv m 79 (Int32.toNatClampNeg (m 66 34)) v4) 66 19))) 66 18)) + ((it_sv (it_sv m 79 (Int32.toNatClampNeg (m 66 34)) v4) 80 (Int32.toNatClampNeg (m 66 34)) (v4 + ((it_sv m 79 (Int32.toNatClampNeg (m 66 34)) v4) 66 19))) 66 20))) 82 (Int32.toNatClampNeg (m 66 34)) ((it_sv (it_sv (it_sv m 79 (Int32.toNatClampNeg (m 66 34)) v4) 80 (Int32.toNatClampNeg (m 66 34)) (v4 + ((it_sv m 79 (Int32.toNatClampNeg (m 66 34)) v4) 66 19))) 81 (Int32.toNatClampNeg (m 66 34)) ((v4 + ((it_sv (it_sv m 79 (Int32.toNatClampNeg (m 66 34)) v4) 80 (Int32.toNatClampNeg (m 66 34)) (v4 + ((it_sv m 79 (Int32.toNatClampNeg (m 66 34)) v4) 66 19))) 66 18)) + ((it_sv (it_sv m 79 (Int32.toNatClampNeg (m 66 34)) v4) 80 (Int32.toNatClampNeg (m 66 34)) (v4 + ((it_sv m 79 (Int32.toNatClampNeg (m 66 34)) v4) 66 19))) 66 20))) 66 21)) 66 23)) 66 24)) 66 25)) 86 (Int32.toNatClampNeg (m 66 34)) ((it_sv (it_sv (it_sv (it_sv (it_sv (it_sv (it_sv m 79 (Int32.toNatClampNeg (m 66 34)) v4) 80 (Int32.toNatClampNeg (m 66 34)) (v4 + ((it_sv m 79 (Int32.toNatClampNeg (m 66 34)) v4) 66 19))) 81 (Int32.toNatClampNeg (m 66 34)) ((v4 + ((it_sv (it_sv m 79 (Int32.toNatClampNeg (m 66 34)) v4) 80 (Int32.toNatClampNeg (m 66 34)) (v4 + ((it_sv m 79 (Int32.toNatClampNeg (m 66 34)) v4) 66 19))) 66 18)) + ((it_sv (it_sv m 79 (Int32.toNatClampNeg (m 66 34)) v4) 80 (Int32.toNatClampNeg (m 66 34)) (v4 + ((it_sv m 79 (Int32.toNatClampNeg (m 66 34)) v4) 66 19))) 66 20))) 82 (Int32.toNatClampNeg (m 66 34)) ((it_sv (it_sv (it_sv m 79 (Int32.toNatClampNeg (m 66 34)) v4) 80 (Int32.toNatClampNeg (m 66 34)) (v4 + ((it_sv m 79 (Int32.toNatClampNeg (m 66 34)) v4) 66 19))) 81 (Int32.toNatClampNeg (m 66 34)) ((v4 + ((it_sv (it_sv m 79 (Int32.toNatClampNeg (m 66 34)) v4) 80 (Int32.toNatClampNeg (m 66 34)) (v4 + ((it_sv m 79 (Int32.toNatClampNeg (m 66 34)) v4) 66 19))) 66 18)) + ((it_sv (it_sv m 79 (Int32.toNatClampNeg (m 66 34)) v4) 80 (Int32.toNatClampNeg (m 66 34)) (v4 + ((it_sv m 79 (Int32.toNatClampNeg (m 66 34)) v4) 66 19))) 66 20))) 66 21)) 83 (Int32.toNatClampNeg (m 66 34)) ((it_sv (it_sv (it_sv (it_sv m 79 (Int32.toNatClampNeg (m 66 34)) v4) 80 (Int32.toNatClampNeg (m 66 34)) (v4 + ((it_sv m 79 (Int32.toNatClampNeg (m 66 34)) v4) 66 19))) 81 (Int32.toNatClampNeg (m 66 34)) ((v4 + ((it_sv (it_sv m 79 (Int32.toNatClampNeg (m 66 34)) v4) 80 (Int32.toNatClampNeg (m 66 34)) (v4 + ((it_sv m 79 (Int32.toNatClampNeg (m 66 34)) v4) 66 19))) 66 18)) + ((it_sv (it_sv m 79 (Int32.toNatClampNeg (m 66 34)) v4) 80 (Int32.toNatClampNeg (m 66 34)) (v4 + ((it_sv m 79 (Int32.toNatClampNeg (m 66 34)) v4) 66 19))) 66 20))) 82 (Int32.toNatClampNeg (m 66 34)) ((it_sv (it_sv (it_sv m 79 (Int32.toNatClampNeg (m 66 34)) v4) 80 (Int32.toNatClampNeg (m 66 34)) (v4 + ((it_sv m 79 (Int32.toNatClampNeg (m 66 34)) v4) 66 19))) 81 (Int32.toNatClampNeg (m 66 34)) ((v4 + ((it_sv (it_sv m 79 (Int32.toNatClampNeg (m 66 34)) v4) 80 (Int32.toNatClampNeg (m 66 34)) (v4 + ((it_sv m 79 (Int32.toNatClampNeg (m 66 34)) v4) 66 19))) 66 18)) + ((it_sv (it_sv m 79 (Int32.toNatClampNeg (m 66 34)) v4) 80 (Int32.toNatClampNeg (m 66 34)) (v4 + ((it_sv m 79 (Int32.toNatClampNeg (m 66 34)) v4) 66 19))) 66 20))) 66 21)) 66 23)) 84 (Int32.toNatClampNeg (m 66 34)) ((it_sv (it_sv (it_sv (it_sv (it_sv m 79 (Int32.toNatClampNeg (m 66 34)) v4) 80 (Int32.toNatClampNeg (m 66 34)) (v4 + ((it_sv m 79 (Int32.toNatClampNeg (m 66 34)) v4) 66 19))) 81 (Int32.toNatClampNeg (m 66 34)) ((v4 + ((it_sv (it_sv m 79 (Int32.toNatClampNeg (m 66 34)) v4) 80 (Int32.toNatClampNeg (m 66 34)) (v4 + ((it_sv m 79 (Int32.toNatClampNeg (m 66 34)) v4) 66 19))) 66 18)) + ((it_sv (it_sv m 79 (Int32.toNatClampNeg (m 66 34)) v4) 80 (Int32.toNatClampNeg (m 66 34)) (v4 + ((it_sv m 79 (Int32.toNatClampNeg (m 66 34)) v4) 66 19))) 66 20))) 82 (Int32.toNatClampNeg (m 66 34)) ((it_sv (it_sv (it_sv m 79 (Int32.toNatClampNeg (m 66 34)) v4) 80 (Int32.toNatClampNeg (m 66 34)) (v4 + ((it_sv m 79 (Int32.toNatClampNeg (m 66 34)) v4) 66 19))) 81 (Int32.toNatClampNeg (m 66 34)) ((v4 + ((it_sv (it_sv m 79 (Int32.toNatClampNeg (m 66 34)) v4) 80 (Int32.toNatClampNeg (m 66 34)) (v4 + ((it_sv m 79 (Int32.toNatClampNeg (m 66 34)) v4) 66 19))) 66 18)) + ((it_sv (it_sv m 79 (Int32.toNatClampNeg (m 66 34)) v4) 80 (Int32.toNatClampNeg (m 66 34)) (v4 + ((it_sv m 79 (Int32.toNatClampNeg (m 66 34)) v4) 66 19))) 66 20))) 66 21)) 83 (Int32.toNatClampNeg (m 66 34)) ((it_sv (it_sv (it_sv (it_sv m 79 (Int32.toNatClampNeg (m 66 34)) v4) 80 (Int32.toNatClampNeg (m 66 34)) (v4 + ((it_sv m 79 (Int32.toNatClampNeg (m 66 34)) v4) 66 19))) 81 (Int32.toNatClampNeg (m 66 34)) ((v4 + ((it_sv (it_sv m 79 (Int32.toNatClampNeg (m 66 34)) v4) 80 (Int32.toNatClampNeg (m 66 34)) (v4 + ((it_sv m 79 (Int32.toNatClampNeg (m 66 34)) v4) 66 19))) 66 18)) + ((it_sv (it_sv m 79 (Int32.toNatClampNeg (m 66 34)) v4) 80 (Int32.toNatClampNeg (m 66 34)) (v4 + ((it_sv m 79 (Int32.toNatClampNeg (m 66 34)) v4) 66 19))) 66 20))) 82 (Int32.toNatClampNeg (m 66 34)) ((it_sv (it_sv (it_sv m 79 (Int32.toNatClampNeg (m 66 34)) v4) 80 (Int32.toNatClampNeg (m 66 34)) (v4 + ((it_sv m 79 (Int32.toNatClampNeg (m 66 34)) v4) 66 19))) 81 (Int32.toNatClampNeg (m 66 34)) ((v4 + ((it_sv (it_sv m 79 (Int32.toNatClampNeg (m 66 34)) v4) 80 (Int32.toNatClampNeg (m 66 34)) (v4 + ((it_sv m 79 (Int32.toNatClampNeg (m 66 34)) v4) 66 19))) 66 18)) + ((it_sv (it_sv m 79 (Int32.toNatClampNeg (m 66 34)) v4) 80 (Int32.toNatClampNeg (m 66 34)) (v4 + ((it_sv m 79 (Int32.toNatClampNeg (m 66 34)) v4) 66 19))) 66 20))) 66 21)) 66 23)) 66 24)) 85 (Int32.toNatClampNeg (m 66 34)) ((it_sv (it_sv (it_sv (it_sv (it_sv (it_sv m 79 (Int32.toNatClampNeg (m 66 34)) v4) 80 (Int32.toNatClampNeg (m 66 34)) (v4 + ((it_sv m 79 (Int32.toNatClampNeg (m 66 34)) v4) 66 19))) 81 (Int32.toNatClampNeg (m 66 34)) ((v4 + ((it_sv (it_sv m 79 (Int32.toNatClampNeg (m 66 34)) v4) 80 (Int32.toNatClampNeg (m 66 34)) (v4 + ((it_sv m 79 (Int32.toNatClampNeg (m 66 34)) v4) 66 19))) 66 18)) + ((it_sv (it_sv m 79 (Int32.toNatClampNeg (m 66 34)) v4) 80 (Int32.toNatClampNeg (m 66 34)) (v4 + ((it_sv m 79 (Int32.toNatClampNeg (m 66 34)) v4) 66 19))) 66 20))) 82 (Int32.toNatClampNeg (m 66 34)) ((it_sv (it_sv (it_sv m 79 (Int32.toNatClampNeg (m 66 34)) v4) 80 (Int32.toNatClampNeg (m 66 34)) (v4 + ((it_sv m 79 (Int32.toNatClampNeg (m 66 34)) v4) 66 19))) 81 (Int32.toNatClampNeg (m 66 34)) ((v4 + ((it_sv (it_sv m 79 (Int32.toNatClampNeg (m 66 34)) v4) 80 (Int32.toNatClampNeg (m 66 34)) (v4 + ((it_sv m 79 (Int32.toNatClampNeg (m 66 34)) v4) 66 19))) 66 18)) + ((it_sv (it_sv m 79 (Int32.toNatClampNeg (m 66 34)) v4) 80 (Int32.toNatClampNeg (m 66 34)) (v4 + ((it_sv m 79 (Int32.toNatClampNeg (m 66 34)) v4) 66 19))) 66 20))) 66 21)) 83 (Int32.toNatClampNeg (m 66 34)) ((it_sv (it_sv (it_sv (it_sv m 79 (Int32.toNatClampNeg (m 66 34)) v4) 80 (Int32.toNatClampNeg (m 66 34)) (v4 + ((it_sv m 79 (Int32.toNatClampNeg (m 66 34)) v4) 66 19))) 81 (Int32.toNatClampNeg (m 66 34)) ((v4 + ((it_sv (it_sv m 79 (Int32.toNatClampNeg (m 66 34)) v4) 80 (Int32.toNatClampNeg (m 66 34)) (v4 + ((it_sv m 79 (Int32.toNatClampNeg (m 66 34)) v4) 66 19))) 66 18)) + ((it_sv (it_sv m 79 (Int32.toNatClampNeg (m 66 34)) v4) 80 (Int32.toNatClampNeg (m 66 34)) (v4 + ((it_sv m 79 (Int32.toNatClampNeg (m 66 34)) v4) 66 19))) 66 20))) 82 (Int32.toNatClampNeg (m 66 34)) ((it_sv (it_sv (it_sv m 79 (Int32.toNatClampNeg (m 66 34)) v4) 80 (Int32.toNatClampNeg (m 66 34)) (v4 + ((it_sv m 79 (Int32.toNatClampNeg (m 66 34)) v4) 66 19))) 81 (Int32.toNatClampNeg (m 66 34)) ((v4 + ((it_sv (it_sv m 79 (Int32.toNatClampNeg (m 66 34)) v4) 80 (Int32.toNatClampNeg (m 66 34)) (v4 + ((it_sv m 79 (Int32.toNatClampNeg (m 66 34)) v4) 66 19))) 66 18)) + ((it_sv (it_sv m 79 (Int32.toNatClampNeg (m 66 34)) v4) 80 (Int32.toNatClampNeg (m 66 34)) (v4 + ((it_sv m 79 (Int32.toNatClampNeg (m 66 34)) v4) 66 19))) 66 20))) 66 21)) 66 23)) 84 (Int32.toNatClampNeg (m 66 34)) ((it_sv (it_sv (it_sv (it_sv (it_sv m 79 (Int32.toNatClampNeg (m 66 34)) v4) 80 (Int32.toNatClampNeg (m 66 34)) (v4 + ((it_sv m 79 (Int32.toNatClampNeg (m 66 34)) v4) 66 19))) 81 (Int32.toNatClampNeg (m 66 34)) ((v4 + ((it_sv (it_sv m 79 (Int32.toNatClampNeg (m 66 34)) v4) 80 (Int32.toNatClampNeg (m 66 34)) (v4 + ((it_sv m 79 (Int32.toNatClampNeg (m 66 34)) v4) 66 19))) 66 18)) + ((it_sv (it_sv m 79 (Int32.toNatClampNeg (m 66 34)) v4) 80 (Int32.toNatClampNeg (m 66 34)) (v4 + ((it_sv m 79 (Int32.toNatClampNeg (m 66 34)) v4) 66 19))) 66 20))) 82 (Int32.toNatClampNeg (m 66 34)) ((it_sv (it_sv (it_sv m 79 (Int32.toNatClampNeg (m 66 34)) v4) 80 (Int32.toNatClampNeg (m 66 34)) (v4 + ((it_sv m 79 (Int32.toNatClampNeg (m 66 34)) v4) 66 19))) 81 (Int32.toNatClampNeg (m 66 34)) ((v4 + ((it_sv (it_sv m 79 (Int32.toNatClampNeg (m 66 34)) v4) 80 (Int32.toNatClampNeg (m 66 34)) (v4 + ((it_sv m 79 (Int32.toNatClampNeg (m 66 34)) v4) 66 19))) 66 18)) + ((it_sv (it_sv m 79 (Int32.toNatClampNeg (m 66 34)) v4) 80 (Int32.toNatClampNeg (m 66 34)) (v4 + ((it_sv m 79 (Int32.toNatClampNeg (m 66 34)) v4) 66 19))) 66 20))) 66 21)) 83 (Int32.toNatClampNeg (m 66 34)) ((it_sv (it_sv (it_sv (it_sv m 79 (Int32.toNatClampNeg (m 66 34)) v4) 80 (Int32.toNatClampNeg (m 66 34)) (v4 + ((it_sv m 79 (Int32.toNatClampNeg (m 66 34)) v4) 66 19))) 81 (Int32.toNatClampNeg (m 66 34)) ((v4 + ((it_sv (it_sv m 79 (Int32.toNatClampNeg (m 66 34)) v4) 80 (Int32.toNatClampNeg (m 66 34)) (v4 + ((it_sv m 79 (Int32.toNatClampNeg (m 66 34)) v4) 66 19))) 66 18)) + ((it_sv (it_sv m 79 (Int32.toNatClampNeg (m 66 34)) v4) 80 (Int32.toNatClampNeg (m 66 34)) (v4 + ((it_sv m 79 (Int32.toNatClampNeg (m 66 34)) v4) 66 19))) 66 20))) 82 (Int32.toNatClampNeg (m 66 34)) ((it_sv (it_sv (it_sv m 79 (Int32.toNatClampNeg (m 66 34)) v4) 80 (Int32.toNatClampNeg (m 66 34)) (v4 + ((it_sv m 79 (Int32.toNatClampNeg (m 66 34)) v4) 66 19))) 81 (Int32.toNatClampNeg (m 66 34)) ((v4 + ((it_sv (it_sv m 79 (Int32.toNatClampNeg (m 66 34)) v4) 80 (Int32.toNatClampNeg (m 66 34)) (v4 + ((it_sv m 79 (Int32.toNatClampNeg (m 66 34)) v4) 66 19))) 66 18)) + ((it_sv (it_sv m 79 (Int32.toNatClampNeg (m 66 34)) v4) 80 (Int32.toNatClampNeg (m 66 34)) (v4 + ((it_sv m 79 (Int32.toNatClampNeg (m 66 34)) v4) 66 19))) 66 20))) 66 21)) 66 23)) 66 24)) 66 25)) 66 26)) 66 27)) 88 (Int32.toNatClampNeg (m 66 34)) ((it_sv (it_sv (it_sv (it_sv (it_sv (it_sv (it_sv (it_sv (it_sv m 79 (Int32.toNatClampNeg (m 66 34)) v4) 80 (Int32.toNatClampNeg (m 66 34)) (v4 + ((it_sv m 79 (Int32.toNatClampNeg (m 66 34)) v4) 66 19))) 81 (Int32.toNatClampNeg (m 66 34)) ((v4 + ((it_sv (it_sv m 79 (Int32.toNatClampNeg (m 66 34)) v4) 80 (Int32.toNatClampNeg (m 66 34)) (v4 + ((it_sv m 79 (Int32.toNatClampNeg (m 66 34)) v4) 66 19))) 66 18)) + ((it_sv (it_sv m 79 (Int32.toNatClampNeg (m 66 34)) v4) 80 (Int32.toNatClampNeg (m 66 34)) (v4 + ((it_sv m 79 (Int32.toNatClampNeg (m 66 34)) v4) 66 19))) 66 20))) 82 (Int32.toNatClampNeg (m 66 34)) ((it_sv (it_sv (it_sv m 79 (Int32.toNatClampNeg (m 66 34)) v4) 80 (Int32.toNatClampNeg (m 66 34)) (v4 + ((it_sv m 79 (Int32.toNatClampNeg (m 66 34)) v4) 66 19))) 81 (Int32.toNatClampNeg (m 66 34)) ((v4 + ((it_sv (it_sv m 79 (Int32.toNatClampNeg (m 66 34)) v4) 80 (Int32.toNatClampNeg (m 66 34)) (v4 + ((it_sv m 79 (Int32.toNatClampNeg (m 66 34)) v4) 66 19))) 66 18)) + ((it_sv (it_sv m 79 (Int32.toNatClampNeg (m 66 34)) v4) 80 (Int32.toNatClampNeg (m 66 34)) (v4 + ((it_sv m 79 (Int32.toNatClampNeg (m 66 34)) v4) 66 19))) 66 20))) 66 21)) 83 (Int32.toNatClampNeg (m 66 34)) ((it_sv (it_sv (it_sv (it_sv m 79 (Int32.toNatClampNeg (m 66 34)) v4) 80 (Int32.toNatClampNeg (m 66 34)) (v4 + ((it_sv m 79 (Int32.toNatClampNeg (m 66 34)) v4) 66 19))) 81 (Int32.toNatClampNeg (m 66 34)) ((v4 + ((it_sv (it_sv m 79 (Int32.toNatClampNeg (m 66 34)) v4) 80 (Int32.toNatClampNeg (m 66 34)) (v4 + ((it_sv m 79 (Int32.toNatClampNeg (m 66 34)) v4) 66 19))) 66 18)) + ((it_sv (it_sv m 79 (Int32.toNatClampNeg (m 66 34)) v4) 80 (Int32.toNatClampNeg (m 66 34)) (v4 + ((it_sv m 79 (Int32.toNatClampNeg (m 66 34)) v4) 66 19))) 66 20))) 82 (Int32.toNatClampNeg (m 66 34)) ((it_sv (it_sv (it_sv m 79 (Int32.toNatClampNeg (m 66 34)) v4) 80 (Int32.toNatClampNeg (m 66 34)) (v4 + ((it_sv m 79 (Int32.toNatClampNeg (m 66 34)) v4) 66 19))) 81 (Int32.toNatClampNeg (m 66 34)) ((v4 + ((it_sv (it_sv m 79 (Int32.toNatClampNeg (m 66 34)) v4) 80 (Int32.toNatClampNeg (m 66 34)) (v4 + ((it_sv m 79 (Int32.toNatClampNeg (m 66 34)) v4) 66 19))) 66 18)) + ((it_sv (it_sv m 79 (Int32.toNatClampNeg (m 66 34)) v4) 80 (Int32.toNatClampNeg (m 66 34)) (v4 + ((it_sv m 79 (Int32.toNatClampNeg (m 66 34)) v4) 66 19))) 66 20))) 66 21)) 66 23)) 84 (Int32.toNatClampNeg (m 66 34)) ((it_sv (it_sv (it_sv (it_sv (it_sv m 79 (Int32.toNatClampNeg (m 66 34)) v4) 80 (Int32.toNatClampNeg (m 66 34)) (v4 + ((it_sv m 79 (Int32.toNatClampNeg (m 66 34)) v4) 66 19))) 81 (Int32.toNatClampNeg (m 66 34)) ((v4 + ((it_sv (it_sv m 79 (Int32.toNatClampNeg (m 66 34)) v4) 80 (Int32.toNatClampNeg (m 66 34)) (v4 + ((it_sv m 79 (Int32.toNatClampNeg (m 66 34)) v4) 66 19))) 66 18)) + ((it_sv (it_sv m 79 (Int32.toNatClampNeg (m 66 34)) v4) 80 (Int32.toNatClampNeg (m 66 34)) (v4 + ((it_sv m 79 (Int32.toNatClampNeg (m 66 34)) v4) 66 19))) 66 20))) 82 (Int32.toNatClampNeg (m 66 34)) ((it_sv (it_sv (it_sv m 79 (Int32.toNatClampNeg (m 66 34)) v4) 80 (Int32.toNatClampNeg (m 66 34)) (v4 + ((it_sv m 79 (Int32.toNatClampNeg (m 66 34)) v4) 66 19))) 81 (Int32.toNatClampNeg (m 66 34)) ((v4 + ((it_sv (it_sv m 79 (Int32.toNatClampNeg (m 66 34)) v4) 80 (Int32.toNatClampNeg (m 66 34)) (v4 + ((it_sv m 79 (Int32.toNatClampNeg (m 66 34)) v4) 66 19))) 66 18)) + ((it_sv (it_sv m 79 (Int32.toNatClampNeg (m 66 34)) v4) 80 (Int32.toNatClampNeg (m 66 34)) (v4 + ((it_sv m 79 (Int32.toNatClampNeg (m 66 34)) v4) 66 19))) 66 20))) 66 21)) 83 (Int32.toNatClampNeg (m 66 34)) ((it_sv (it_sv (it_sv (it_sv m 79 (Int32.toNatClampNeg (m 66 34)) v4) 80 (Int32.toNatClampNeg (m 66 34)) (v4 + ((it_sv m 79 (Int32.toNatClampNeg (m 66 34)) v4) 66 19))) 81 (Int32.toNatClampNeg (m 66 34)) ((v4 + ((it_sv (it_sv m 79 (Int32.toNatClampNeg (m 66 34)) v4) 80 (Int32.toNatClampNeg (m 66 34)) (v4 + ((it_sv m 79 (Int32.toNatClampNeg (m 66 34)) v4) 66 19))) 66 18)) + ((it_sv (it_sv m 79 (Int32.toNatClampNeg (m 66 34)) v4) 80 (Int32.toNatClampNeg (m 66 34)) (v4 + ((it_sv m 79 (Int32.toNatClampNeg (m 66 34)) v4) 66 19))) 66 20))) 82 (Int32.toNatClampNeg (m 66 34)) ((it_sv (it_sv (it_sv m 79 (Int32.toNatClampNeg (m 66 34)) v4) 80 (Int32.toNatClampNeg (m 66 34)) (v4 + ((it_sv m 79 (Int32.toNatClampNeg (m 66 34)) v4) 66 19))) 81 (Int32.toNatClampNeg (m 66 34)) ((v4 + ((it_sv (it_sv m 79 (Int32.toNatClampNeg (m 66 34)) v4) 80 (Int32.toNatClampNeg (m 66 34)) (v4 + ((it_sv m 79 (Int32.toNatClampNeg (m 66 34)) v4) 66 19))) 66 18)) + ((it_sv (it_sv m 79 (Int32.toNatClampNeg (m 66 34)) v4) 80 (Int32.toNatClampNeg (m 66 34)) (v4 + ((it_sv m 79 (Int32.toNatClampNeg (m 66 34)) v4) 66 19))) 66 20))) 66 21)) 66 23)) 66 24)) 85 (Int32.toNatClampNeg (m 66 34)) ((it_sv (it_sv (it_sv (it_sv (it_sv (it_sv m 79 (Int32.toNatClampNeg (m 66 34)) v4) 80 (Int32.toNatClampNeg (m 66 34)) (v4 + ((it_sv m 79 (Int32.toNatClampNeg (m 66 34)) v4) 66 19))) 81 (Int32.toNatClampNeg (m 66 34)) ((v4 + ((it_sv (it_sv m 79 (Int32.toNatClampNeg (m 66 34)) v4) 80 (Int32.toNatClampNeg (m 66 34)) (v4 + ((it_sv m 79 (Int32.toNatClampNeg (m 66 34)) v4) 66 19))) 66 18)) + ((it_sv (it_sv m 79 (Int32.toNatClampNeg (m 66 34)) v4) 80 (Int32.toNatClampNeg (m 66 34)) (v4 + ((it_sv m 79 (Int32.toNatClampNeg (m 66 34)) v4) 66 19))) 66 20))) 82 (Int32.toNatClampNeg (m 66 34)) ((it_sv (it_sv (it_sv m 79 (Int32.toNatClampNeg (m 66 34)) v4) 80 (Int32.toNatClampNeg (m 66 34)) (v4 + ((it_sv m 79 (Int32.toNatClampNeg (m 66 34)) v4) 66 19))) 81 (Int32.toNatClampNeg (m 66 34)) ((v4 + ((it_sv (it_sv m 79 (Int32.toNatClampNeg (m 66 34)) v4) 80 (Int32.toNatClampNeg (m 66 34)) (v4 + ((it_sv m 79 (Int32.toNatClampNeg (m 66 34)) v4) 66 19))) 66 18)) + ((it_sv (it_sv m 79 (Int32.toNatClampNeg (m 66 34)) v4) 80 (Int32.toNatClampNeg (m 66 34)) (v4 + ((it_sv m 79 (Int32.toNatClampNeg (m 66 34)) v4) 66 19))) 66 20))) 66 21)) 83 (Int32.toNatClampNeg (m 66 34)) ((it_sv (it_sv (it_sv (it_sv m 79 (Int32.toNatClampNeg (m 66 34)) v4) 80 (Int32.toNatClampNeg (m 66 34)) (v4 + ((it_sv m 79 (Int32.toNatClampNeg (m 66 34)) v4) 66 19))) 81 (Int32.toNatClampNeg (m 66 34)) ((v4 + ((it_sv (it_sv m 79 (Int32.toNatClampNeg (m 66 34)) v4) 80 (Int32.toNatClampNeg (m 66 34)) (v4 + ((it_sv m 79 (Int32.toNatClampNeg (m 66 34)) v4) 66 19))) 66 18)) + ((it_sv (it_sv m 79 (Int32.toNatClampNeg (m 66 34)) v4) 80 (Int32.toNatClampNeg (m 66 34)) (v4 + ((it_sv m 79 (Int32.toNatClampNeg (m 66 34)) v4) 66 19))) 66 20))) 82 (Int32.toNatClampNeg (m 66 34)) ((it_sv (it_sv (it_sv m 79 (Int32.toNatClampNeg (m 66 34)) v4) 80 (Int32.toNatClampNeg (m 66 34)) (v4 + ((it_sv m 79 (Int32.toNatClampNeg (m 66 34)) v4) 66 19))) 81 (Int32.toNatClampNeg (m 66 34)) ((v4 + ((it_sv (it_sv m 79 (Int32.toNatClampNeg (m 66 34)) v4) 80 (Int32.toNatClampNeg (m 66 34)) (v4 + ((it_sv m 79 (Int32.toNatClampNeg (m 66 34)) v4) 66 19))) 66 18)) + ((it_sv (it_sv m 79 (Int32.toNatClampNeg (m 66 34)) v4) 80 (Int32.toNatClampNeg (m 66 34)) (v4 + ((it_sv m 79 (Int32.toNatClampNeg (m 66 34)) v4) 66 19))) 66 20))) 66 21)) 66 23)) 84 (Int32.toNatClampNeg (m 66 34)) ((it_sv (it_sv (it_sv (it_sv (it_sv m 79 (Int32.toNatClampNeg (m 66 34)) v4) 80 (Int32.toNatClampNeg (m 66 34)) (v4 + ((it_sv m 79 (Int32.toNatClampNeg (m 66 34)) v4) 66 19))) 81 (Int32.toNatClampNeg (m 66 34)) ((v4 + ((it_sv (it_sv m 79 (Int32.toNatClampNeg (m 66 34)) v4) 80 (Int32.toNatClampNeg (m 66 34)) (v4 + ((it_sv m 79 (Int32.toNatClampNeg (m 66 34)) v4) 66 19))) 66 18)) + ((it_sv (it_sv m 79 (Int32.toNatClampNeg (m 66 34)) v4) 80 (Int32.toNatClampNeg (m 66 34)) (v4 + ((it_sv m 79 (Int32.toNatClampNeg (m 66 34)) v4) 66 19))) 66 20))) 82 (Int32.toNatClampNeg (m 66 34)) ((it_sv (it_sv (it_sv m 79 (Int32.toNatClampNeg (m 66 34)) v4) 80 (Int32.toNatClampNeg (m 66 34)) (v4 + ((it_sv m 79 (Int32.toNatClampNeg (m 66 34)) v4) 66 19))) 81 (Int32.toNatClampNeg (m 66 34)) ((v4 + ((it_sv (it_sv m 79 (Int32.toNatClampNeg (m 66 34)) v4) 80 (Int32.toNatClampNeg (m 66 34)) (v4 + ((it_sv m 79 (Int32.toNatClampNeg (m 66 34)) v4) 66 19))) 66 18)) + ((it_sv (it_sv m 79 (Int32.toNatClampNeg (m 66 34)) v4) 80 (Int32.toNatClampNeg (m 66 34)) (v4 + ((it_sv m 79 (Int32.toNatClampNeg (m 66 34)) v4) 66 19))) 66 20))) 66 21)) 83 (Int32.toNatClampNeg (m 66 34)) ((it_sv (it_sv (it_sv (it_sv m 79 (Int32.toNatClampNeg (m 66 34)) v4) 80 (Int32.toNatClampNeg (m 66 34)) (v4 + ((it_sv m 79 (Int32.toNatClampNeg (m 66 34)) v4) 66 19))) 81 (Int32.toNatClampNeg (m 66 34)) ((v4 + ((it_sv (it_sv m 79 (Int32.toNatClampNeg (m 66 34)) v4) 80 (Int32.toNatClampNeg (m 66 34)) (v4 + ((it_sv m 79 (Int32.toNatClampNeg (m 66 34)) v4) 66 19))) 66 18)) + ((it_sv (it_sv m 79 (Int32.toNatClampNeg (m 66 34)) v4) 80 (Int32.toNatClampNeg (m 66 34)) (v4 + ((it_sv m 79 (Int32.toNatClampNeg (m 66 34)) v4) 66 19))) 66 20))) 82 (Int32.toNatClampNeg (m 66 34)) ((it_sv (it_sv (it_sv m 79 (Int32.toNatClampNeg (m 66 34)) v4) 80 (Int32.toNatClampNeg (m 66 34)) (v4 + ((it_sv m 79 (Int32.toNatClampNeg (m 66 34)) v4) 66 19))) 81 (Int32.toNatClampNeg (m 66 34)) ((v4 + ((it_sv (it_sv m 79 (Int32.toNatClampNeg (m 66 34)) v4) 80 (Int32.toNatClampNeg (m 66 34)) (v4 + ((it_sv m 79 (Int32.toNatClampNeg (m 66 34)) v4) 66 19))) 66 18)) + ((it_sv (it_sv m 79 (Int32.toNatClampNeg (m 66 34)) v4) 80 (Int32.toNatClampNeg (m 66 34)) (v4 + ((it_sv m 79 (Int32.toNatClampNeg (m 66 34)) v4) 66 19))) 66 20))) 66 21)) 66 23)) 66 24)) 66 25)) 86 (Int32.toNatClampNeg (m 66 34)) ((it_sv (it_sv (it_sv (it_sv (it_sv (it_sv (it_sv m 79 (Int32.toNatClampNeg (m 66 34)) v4) 80 (Int32.toNatClampNeg (m 66 34)) (v4 + ((it_sv m 79 (Int32.toNatClampNeg (m 66 34)) v4) 66 19))) 81 (Int32.toNatClampNeg (m 66 34)) ((v4 + ((it_sv (it_sv m 79 (Int32.toNatClampNeg (m 66 34)) v4) 80 (Int32.toNatClampNeg (m 66 34)) (v4 + ((it_sv m 79 (Int32.toNatClampNeg (m 66 34)) v4) 66 19))) 66 18)) + ((it_sv (it_sv m 79 (Int32.toNatClampNeg (m 66 34)) v4) 80 (Int32.toNatClampNeg (m 66 34)) (v4 + ((it_sv m 79 (Int32.toNatClampNeg (m 66 34)) v4) 66 19))) 66 20))) 82 (Int32.toNatClampNeg (m 66 34)) ((it_sv (it_sv (it_sv m 79 (Int32.toNatClampNeg (m 66 34)) v4) 80 (Int32.toNatClampNeg (m 66 34)) (v4 + ((it_sv m 79 (Int32.toNatClampNeg (m 66 34)) v4) 66 19))) 81 (Int32.toNatClampNeg (m 66 34)) ((v4 + ((it_sv (it_sv m 79 (Int32.toNatClampNeg (m 66 34)) v4) 80 (Int32.toNatClampNeg (m 66 34)) (v4 + ((it_sv m 79 (Int32.toNatClampNeg (m 66 34)) v4) 66 19))) 66 18)) + ((it_sv (it_sv m 79 (Int32.toNatClampNeg (m 66 34)) v4) 80 (Int32.toNatClampNeg (m 66 34)) (v4 + ((it_sv m 79 (Int32.toNatClampNeg (m 66 34)) v4) 66 19))) 66 20))) 66 21)) 83 (Int32.toNatClampNeg (m 66 34)) ((it_sv (it_sv (it_sv (it_sv m 79 (Int32.toNatClampNeg (m 66 34)) v4) 80 (Int32.toNatClampNeg (m 66 34)) (v4 + ((it_sv m 79 (Int32.toNatClampNeg (m 66 34)) v4) 66 19))) 81 (Int32.toNatClampNeg (m 66 34)) ((v4 + ((it_sv (it_sv m 79 (Int32.toNatClampNeg (m 66 34)) v4) 80 (Int32.toNatClampNeg (m 66 34)) (v4 + ((it_sv m 79 (Int32.toNatClampNeg (m 66 34)) v4) 66 19))) 66 18)) + ((it_sv (it_sv m 79 (Int32.toNatClampNeg (m 66 34)) v4) 80 (Int32.toNatClampNeg (m 66 34)) (v4 + ((it_sv m 79 (Int32.toNatClampNeg (m 66 34)) v4) 66 19))) 66 20))) 82 (Int32.toNatClampNeg (m 66 34)) ((it_sv (it_sv (it_sv m 79 (Int32.toNatClampNeg (m 66 34)) v4) 80 (Int32.toNatClampNeg (m 66 34)) (v4 + ((it_sv m 79 (Int32.toNatClampNeg (m 66 34)) v4) 66 19))) 81 (Int32.toNatClampNeg (m 66 34)) ((v4 + ((it_sv (it_sv m 79 (Int32.toNatClampNeg (m 66 34)) v4) 80 (Int32.toNatClampNeg (m 66 34)) (v4 + ((it_sv m 79 (Int32.toNatClampNeg (m 66 34)) v4) 66 19))) 66 18)) + ((it_sv (it_sv m 79 (Int32.toNatClampNeg (m 66 34)) v4) 80 (Int32.toNatClampNeg (m 66 34)) (v4 + ((it_sv m 79 (Int32.toNatClampNeg (m 66 34)) v4) 66 19))) 66 20))) 66 21)) 66 23)) 84 (Int32.toNatClampNeg (m 66 34)) ((it_sv (it_sv (it_sv (it_sv (it_sv m 79 (Int32.toNatClampNeg (m 66 34)) v4) 80 (Int32.toNatClampNeg (m 66 34)) (v4 + ((it_sv m 79 (Int32.toNatClampNeg (m 66 34)) v4) 66 19))) 81 (Int32.toNatClampNeg (m 66 34)) ((v4 + ((it_sv (it_sv m 79 (Int32.toNatClampNeg (m 66 34)) v4) 80 (Int32.toNatClampNeg (m 66 34)) (v4 + ((it_sv m 79 (Int32.toNatClampNeg (m 66 34)) v4) 66 19))) 66 18)) + ((it_sv (it_sv m 79 (Int32.toNatClampNeg (m 66 34)) v4) 80 (Int32.toNatClampNeg (m 66 34)) (v4 + ((it_sv m 79 (Int32.toNatClampNeg (m 66 34)) v4) 66 19))) 66 20))) 82 (Int32.toNatClampNeg (m 66 34)) ((it_sv (it_sv (it_sv m 79 (Int32.toNatClampNeg (m 66 34)) v4) 80 (Int32.toNatClampNeg (m 66 34)) (v4 + ((it_sv m 79 (Int32.toNatClampNeg (m 66 34)) v4) 66 19))) 81 (Int32.toNatClampNeg (m 66 34)) ((v4 + ((it_sv (it_sv m 79 (Int32.toNatClampNeg (m 66 34)) v4) 80 (Int32.toNatClampNeg (m 66 34)) (v4 + ((it_sv m 79 (Int32.toNatClampNeg (m 66 34)) v4) 66 19))) 66 18)) + ((it_sv (it_sv m 79 (Int32.toNatClampNeg (m 66 34)) v4) 80 (Int32.toNatClampNeg (m 66 34)) (v4 + ((it_sv m 79 (Int32.toNatClampNeg (m 66 34)) v4) 66 19))) 66 20))) 66 21)) 83 (Int32.toNatClampNeg (m 66 34)) ((it_sv (it_sv (it_sv (it_sv m 79 (Int32.toNatClampNeg (m 66 34)) v4) 80 (Int32.toNatClampNeg (m 66 34)) (v4 + ((it_sv m 79 (Int32.toNatClampNeg (m 66 34)) v4) 66 19))) 81 (Int32.toNatClampNeg (m 66 34)) ((v4 + ((it_sv (it_sv m 79 (Int32.toNatClampNeg (m 66 34)) v4) 80 (Int32.toNatClampNeg (m 66 34)) (v4 + ((it_sv m 79 (Int32.toNatClampNeg (m 66 34)) v4) 66 19))) 66 18)) + ((it_sv (it_sv m 79 (Int32.toNatClampNeg (m 66 34)) v4) 80 (Int32.toNatClampNeg (m 66 34)) (v4 + ((it_sv m 79 (Int32.toNatClampNeg (m 66 34)) v4) 66 19))) 66 20))) 82 (Int32.toNatClampNeg (m 66 34)) ((it_sv (it_sv (it_sv m 79 (Int32.toNatClampNeg (m 66 34)) v4) 80 (Int32.toNatClampNeg (m 66 34)) (v4 + ((it_sv m 79 (Int32.toNatClampNeg (m 66 34)) v4) 66 19))) 81 (Int32.toNatClampNeg (m 66 34)) ((v4 + ((it_sv (it_sv m 79 (Int32.toNatClampNeg (m 66 34)) v4) 80 (Int32.toNatClampNeg (m 66 34)) (v4 + ((it_sv m 79 (Int32.toNatClampNeg (m 66 34)) v4) 66 19))) 66 18)) + ((it_sv (it_sv m 79 (Int32.toNatClampNeg (m 66 34)) v4) 80 (Int32.toNatClampNeg (m 66 34)) (v4 + ((it_sv m 79 (Int32.toNatClampNeg (m 66 34)) v4) 66 19))) 66 20))) 66 21)) 66 23)) 66 24)) 85 (Int32.toNatClampNeg (m 66 34)) ((it_sv (it_sv (it_sv (it_sv (it_sv (it_sv m 79 (Int32.toNatClampNeg (m 66 34)) v4) 80 (Int32.toNatClampNeg (m 66 34)) (v4 + ((it_sv m 79 (Int32.toNatClampNeg (m 66 34)) v4) 66 19))) 81 (Int32.toNatClampNeg (m 66 34)) ((v4 + ((it_sv (it_sv m 79 (Int32.toNatClampNeg (m 66 34)) v4) 80 (Int32.toNatClampNeg (m 66 34)) (v4 + ((it_sv m 79 (Int32.toNatClampNeg (m 66 34)) v4) 66 19))) 66 18)) + ((it_sv (it_sv m 79 (Int32.toNatClampNeg (m 66 34)) v4) 80 (Int32.toNatClampNeg (m 66 34)) (v4 + ((it_sv m 79 (Int32.toNatClampNeg (m 66 34)) v4) 66 19))) 66 20))) 82 (Int32.toNatClampNeg (m 66 34)) ((it_sv (it_sv (it_sv m 79 (Int32.toNatClampNeg (m 66 34)) v4) 80 (Int32.toNatClampNeg (m 66 34)) (v4 + ((it_sv m 79 (Int32.toNatClampNeg (m 66 34)) v4) 66 19))) 81 (Int32.toNatClampNeg (m 66 34)) ((v4 + ((it_sv (it_sv m 79 (Int32.toNatClampNeg (m 66 34)) v4) 80 (Int32.toNatClampNeg (m 66 34)) (v4 + ((it_sv m 79 (Int32.toNatClampNeg (m 66 34)) v4) 66 19))) 66 18)) + ((it_sv (it_sv m 79 (Int32.toNatClampNeg (m 66 34)) v4) 80 (Int32.toNatClampNeg (m 66 34)) (v4 + ((it_sv m 79 (Int32.toNatClampNeg (m 66 34)) v4) 66 19))) 66 20))) 66 21)) 83 (Int32.toNatClampNeg (m 66 34)) ((it_sv (it_sv (it_sv (it_sv m 79 (Int32.toNatClampNeg (m 66 34)) v4) 80 (Int32.toNatClampNeg (m 66 34)) (v4 + ((it_sv m 79 (Int32.toNatClampNeg (m 66 34)) v4) 66 19))) 81 (Int32.toNatClampNeg (m 66 34)) ((v4 + ((it_sv (it_sv m 79 (Int32.toNatClampNeg (m 66 34)) v4) 80 (Int32.toNatClampNeg (m 66 34)) (v4 + ((it_sv m 79 (Int32.toNatClampNeg (m 66 34)) v4) 66 19))) 66 18)) + ((it_sv (it_sv m 79 (Int32.toNatClampNeg (m 66 34)) v4) 80 (Int32.toNatClampNeg (m 66 34)) (v4 + ((it_sv m 79 (Int32.toNatClampNeg (m 66 34)) v4) 66 19))) 66 20))) 82 (Int32.toNatClampNeg (m 66 34)) ((it_sv (it_sv (it_sv m 79 (Int32.toNatClampNeg (m 66 34)) v4) 80 (Int32.toNatClampNeg (m 66 34)) (v4 + ((it_sv m 79 (Int32.toNatClampNeg (m 66 34)) v4) 66 19))) 81 (Int32.toNatClampNeg (m 66 34)) ((v4 + ((it_sv (it_sv m 79 (Int32.toNatClampNeg (m 66 34)) v4) 80 (Int32.toNatClampNeg (m 66 34)) (v4 + ((it_sv m 79 (Int32.toNatClampNeg (m 66 34)) v4) 66 19))) 66 18)) + ((it_sv (it_sv m 79 (Int32.toNatClampNeg (m 66 34)) v4) 80 (Int32.toNatClampNeg (m 66 34)) (v4 + ((it_sv m 79 (Int32.toNatClampNeg (m 66 34)) v4) 66 19))) 66 20))) 66 21)) 66 23)) 84 (Int32.toNatClampNeg (m 66 34)) ((it_sv (it_sv (it_sv (it_sv (it_sv m 79 (Int32.toNatClampNeg (m 66 34)) v4) 80 (Int32.toNatClampNeg (m 66 34)) (v4 + ((it_sv m 79 (Int32.toNatClampNeg (m 66 34)) v4) 66 19))) 81 (Int32.toNatClampNeg (m 66 34)) ((v4 + ((it_sv (it_sv m 79 (Int32.toNatClampNeg (m 66 34)) v4) 80 (Int32.toNatClampNeg (m 66 34)) (v4 + ((it_sv m 79 (Int32.toNatClampNeg (m 66 34)) v4) 66 19))) 66 18)) + ((it_sv (it_sv m 79 (Int32.toNatClampNeg (m 66 34)) v4) 80 (Int32.toNatClampNeg (m 66 34)) (v4 + ((it_sv m 79 (Int32.toNatClampNeg (m 66 34)) v4) 66 19))) 66 20))) 82 (Int32.toNatClampNeg (m 66 34)) ((it_sv (it_sv (it_sv m 79 (Int32.toNatClampNeg (m 66 34)) v4) 80 (Int32.toNatClampNeg (m 66 34)) (v4 + ((it_sv m 79 (Int32.toNatClampNeg (m 66 34)) v4) 66 19))) 81 (Int32.toNatClampNeg (m 66 34)) ((v4 + ((it_sv (it_sv m 79 (Int32.toNatClampNeg (m 66 34)) v4) 80 (Int32.toNatClampNeg (m 66 34)) (v4 + ((it_sv m 79 (Int32.toNatClampNeg (m 66 34)) v4) 66 19))) 66 18)) + ((it_sv (it_sv m 79 (Int32.toNatClampNeg (m 66 34)) v4) 80 (Int32.toNatClampNeg (m 66 34)) (v4 + ((it_sv m 79 (Int32.toNatClampNeg (m 66 34)) v4) 66 19))) 66 20))) 66 21)) 83 (Int32.toNatClampNeg (m 66 34)) ((it_sv (it_sv (it_sv (it_sv m 79 (Int32.toNatClampNeg (m 66 34)) v4) 80 (Int32.toNatClampNeg (m 66 34)) (v4 + ((it_sv m 79 (Int32.toNatClampNeg (m 66 34)) v4) 66 19))) 81 (Int32.toNatClampNeg (m 66 34)) ((v4 + ((it_sv (it_sv m 79 (Int32.toNatClampNeg (m 66 34)) v4) 80 (Int32.toNatClampNeg (m 66 34)) (v4 + ((it_sv m 79 (Int32.toNatClampNeg (m 66 34)) v4) 66 19))) 66 18)) + ((it_sv (it_sv m 79 (Int32.toNatClampNeg (m 66 34)) v4) 80 (Int32.toNatClampNeg (m 66 34)) (v4 + ((it_sv m 79 (Int32.toNatClampNeg (m 66 34)) v4) 66 19))) 66 20))) 82 (Int32.toNatClampNeg (m 66 34)) ((it_sv (it_sv (it_sv m 79 (Int32.toNatClampNeg (m 66 34)) v4) 80 (Int32.toNatClampNeg (m 66 34)) (v4 + ((it_sv m 79 (Int32.toNatClampNeg (m 66 34)) v4) 66 19))) 81 (Int32.toNatClampNeg (m 66 34)) ((v4 + ((it_sv (it_sv m 79 (Int32.toNatClampNeg (m 66 34)) v4) 80 (Int32.toNatClampNeg (m 66 34)) (v4 + ((it_sv m 79 (Int32.toNatClampNeg (m 66 34)) v4) 66 19))) 66 18)) + ((it_sv (it_sv m 79 (Int32.toNatClampNeg (m 66 34)) v4) 80 (Int32.toNatClampNeg (m 66 34)) (v4 + ((it_sv m 79 (Int32.toNatClampNeg (m 66 34)) v4) 66 19))) 66 20))) 66 21)) 66 23)) 66 24)) 66 25)) 66 26)) 87 (Int32.toNatClampNeg (m 66 34)) ((it_sv (it_sv (it_sv (it_sv (it_sv (it_sv (it_sv (it_sv m 79 (Int32.toNatClampNeg (m 66 34)) v4) 80 (Int32.toNatClampNeg (m 66 34)) (v4 + ((it_sv m 79 (Int32.toNatClampNeg (m 66 34)) v4) 66 19))) 81 (Int32.toNatClampNeg (m 66 34)) ((v4 + ((it_sv (it_sv m 79 (Int32.toNatClampNeg (m 66 34)) v4) 80 (Int32.toNatClampNeg (m 66 34)) (v4 + ((it_sv m 79 (Int32.toNatClampNeg (m 66 34)) v4) 66 19))) 66 18)) + ((it_sv (it_sv m 79 (Int32.toNatClampNeg (m 66 34)) v4) 80 (Int32.toNatClampNeg (m 66 34)) (v4 + ((it_sv m 79 (Int32.toNatClampNeg (m 66 34)) v4) 66 19))) 66 20))) 82 (Int32.toNatClampNeg (m 66 34)) ((it_sv (it_sv (it_sv m 79 (Int32.toNatClampNeg (m 66 34)) v4) 80 (Int32.toNatClampNeg (m 66 34)) (v4 + ((it_sv m 79 (Int32.toNatClampNeg (m 66 34)) v4) 66 19))) 81 (Int32.toNatClampNeg (m 66 34)) ((v4 + ((it_sv (it_sv m 79 (Int32.toNatClampNeg (m 66 34)) v4) 80 (Int32.toNatClampNeg (m 66 34)) (v4 + ((it_sv m 79 (Int32.toNatClampNeg (m 66 34)) v4) 66 19))) 66 18)) + ((it_sv (it_sv m 79 (Int32.toNatClampNeg (m 66 34)) v4) 80 (Int32.toNatClampNeg (m 66 34)) (v4 + ((it_sv m 79 (Int32.toNatClampNeg (m 66 34)) v4) 66 19))) 66 20))) 66 21)) 83 (Int32.toNatClampNeg (m 66 34)) ((it_sv (it_sv (it_sv (it_sv m 79 (Int32.toNatClampNeg (m 66 34)) v4) 80 (Int32.toNatClampNeg (m 66 34)) (v4 + ((it_sv m 79 (Int32.toNatClampNeg (m 66 34)) v4) 66 19))) 81 (Int32.toNatClampNeg (m 66 34)) ((v4 + ((it_sv (it_sv m 79 (Int32.toNatClampNeg (m 66 34)) v4) 80 (Int32.toNatClampNeg (m 66 34)) (v4 + ((it_sv m 79 (Int32.toNatClampNeg (m 66 34)) v4) 66 19))) 66 18)) + ((it_sv (it_sv m 79 (Int32.toNatClampNeg (m 66 34)) v4) 80 (Int32.toNatClampNeg (m 66 34)) (v4 + ((it_sv m 79 (Int32.toNatClampNeg (m 66 34)) v4) 66 19))) 66 20))) 82 (Int32.toNatClampNeg (m 66 34)) ((it_sv (it_sv (it_sv m 79 (Int32.toNatClampNeg (m 66 34)) v4) 80 (Int32.toNatClampNeg (m 66 34)) (v4 + ((it_sv m 79 (Int32.toNatClampNeg (m 66 34)) v4) 66 19))) 81 (Int32.toNatClampNeg (m 66 34)) ((v4 + ((it_sv (it_sv m 79 (Int32.toNatClampNeg (m 66 34)) v4) 80 (Int32.toNatClampNeg (m 66 34)) (v4 + ((it_sv m 79 (Int32.toNatClampNeg (m 66 34)) v4) 66 19))) 66 18)) + ((it_sv (it_sv m 79 (Int32.toNatClampNeg (m 66 34)) v4) 80 (Int32.toNatClampNeg (m 66 34)) (v4 + ((it_sv m 79 (Int32.toNatClampNeg (m 66 34)) v4) 66 19))) 66 20))) 66 21)) 66 23)) 84 (Int32.toNatClampNeg (m 66 34)) ((it_sv (it_sv (it_sv (it_sv (it_sv m 79 (Int32.toNatClampNeg (m 66 34)) v4) 80 (Int32.toNatClampNeg (m 66 34)) (v4 + ((it_sv m 79 (Int32.toNatClampNeg (m 66 34)) v4) 66 19))) 81 (Int32.toNatClampNeg (m 66 34)) ((v4 + ((it_sv (it_sv m 79 (Int32.toNatClampNeg (m 66 34)) v4) 80 (Int32.toNatClampNeg (m 66 34)) (v4 + ((it_sv m 79 (Int32.toNatClampNeg (m 66 34)) v4) 66 19))) 66 18)) + ((it_sv (it_sv m 79 (Int32.toNatClampNeg (m 66 34)) v4) 80 (Int32.toNatClampNeg (m 66 34)) (v4 + ((it_sv m 79 (Int32.toNatClampNeg (m 66 34)) v4) 66 19))) 66 20))) 82 (Int32.toNatClampNeg (m 66 34)) ((it_sv (it_sv (it_sv m 79 (Int32.toNatClampNeg (m 66 34)) v4) 80 (Int32.toNatClampNeg (m 66 34)) (v4 + ((it_sv m 79 (Int32.toNatClampNeg (m 66 34)) v4) 66 19))) 81 (Int32.toNatClampNeg (m 66 34)) ((v4 + ((it_sv (it_sv m 79 (Int32.toNatClampNeg (m 66 34)) v4) 80 (Int32.toNatClampNeg (m 66 34)) (v4 + ((it_sv m 79 (Int32.toNatClampNeg (m 66 34)) v4) 66 19))) 66 18)) + ((it_sv (it_sv m 79 (Int32.toNatClampNeg (m 66 34)) v4) 80 (Int32.toNatClampNeg (m 66 34)) (v4 + ((it_sv m 79 (Int32.toNatClampNeg (m 66 34)) v4) 66 19))) 66 20))) 66 21)) 83 (Int32.toNatClampNeg (m 66 34)) ((it_sv (it_sv (it_sv (it_sv m 79 (Int32.toNatClampNeg (m 66 34)) v4) 80 (Int32.toNatClampNeg (m 66 34)) (v4 + ((it_sv m 79 (Int32.toNatClampNeg (m 66 34)) v4) 66 19))) 81 (Int32.toNatClampNeg (m 66 34)) ((v4 + ((it_sv (it_sv m 79 (Int32.toNatClampNeg (m 66 34)) v4) 80 (Int32.toNatClampNeg (m 66 34)) (v4 + ((it_sv m 79 (Int32.toNatClampNeg (m 66 34)) v4) 66 19))) 66 18)) + ((it_sv (it_sv m 79 (Int32.toNatClampNeg (m 66 34)) v4) 80 (Int32.toNatClampNeg (m 66 34)) (v4 + ((it_sv m 79 (Int32.toNatClampNeg (m 66 34)) v4) 66 19))) 66 20))) 82 (Int32.toNatClampNeg (m 66 34)) ((it_sv (it_sv (it_sv m 79 (Int32.toNatClampNeg (m 66 34)) v4) 80 (Int32.toNatClampNeg (m 66 34)) (v4 + ((it_sv m 79 (Int32.toNatClampNeg (m 66 34)) v4) 66 19))) 81 (Int32.toNatClampNeg (m 66 34)) ((v4 + ((it_sv (it_sv m 79 (Int32.toNatClampNeg (m 66 34)) v4) 80 (Int32.toNatClampNeg (m 66 34)) (v4 + ((it_sv m 79 (Int32.toNatClampNeg (m 66 34)) v4) 66 19))) 66 18)) + ((it_sv (it_sv m 79 (Int32.toNatClampNeg (m 66 34)) v4) 80 (Int32.toNatClampNeg (m 66 34)) (v4 + ((it_sv m 79 (Int32.toNatClampNeg (m 66 34)) v4) 66 19))) 66 20))) 66 21)) 66 23)) 66 24)) 85 (Int32.toNatClampNeg (m 66 34)) ((it_sv (it_sv (it_sv (it_sv (it_sv (it_sv m 79 (Int32.toNatClampNeg (m 66 34)) v4) 80 (Int32.toNatClampNeg (m 66 34)) (v4 + ((it_sv m 79 (Int32.toNatClampNeg (m 66 34)) v4) 66 19))) 81 (Int32.toNatClampNeg (m 66 34)) ((v4 + ((it_sv (it_sv m 79 (Int32.toNatClampNeg (m 66 34)) v4) 80 (Int32.toNatClampNeg (m 66 34)) (v4 + ((it_sv m 79 (Int32.toNatClampNeg (m 66 34)) v4) 66 19))) 66 18)) + ((it_sv (it_sv m 79 (Int32.toNatClampNeg (m 66 34)) v4) 80 (Int32.toNatClampNeg (m 66 34)) (v4 + ((it_sv m 79 (Int32.toNatClampNeg (m 66 34)) v4) 66 19))) 66 20))) 82 (Int32.toNatClampNeg (m 66 34)) ((it_sv (it_sv (it_sv m 79 (Int32.toNatClampNeg (m 66 34)) v4) 80 (Int32.toNatClampNeg (m 66 34)) (v4 + ((it_sv m 79 (Int32.toNatClampNeg (m 66 34)) v4) 66 19))) 81 (Int32.toNatClampNeg (m 66 34)) ((v4 + ((it_sv (it_sv m 79 (Int32.toNatClampNeg (m 66 34)) v4) 80 (Int32.toNatClampNeg (m 66 34)) (v4 + ((it_sv m 79 (Int32.toNatClampNeg (m 66 34)) v4) 66 19))) 66 18)) + ((it_sv (it_sv m 79 (Int32.toNatClampNeg (m 66 34)) v4) 80 (Int32.toNatClampNeg (m 66 34)) (v4 + ((it_sv m 79 (Int32.toNatClampNeg (m 66 34)) v4) 66 19))) 66 20))) 66 21)) 83 (Int32.toNatClampNeg (m 66 34)) ((it_sv (it_sv (it_sv (it_sv m 79 (Int32.toNatClampNeg (m 66 34)) v4) 80 (Int32.toNatClampNeg (m 66 34)) (v4 + ((it_sv m 79 (Int32.toNatClampNeg (m 66 34)) v4) 66 19))) 81 (Int32.toNatClampNeg (m 66 34)) ((v4 + ((it_sv (it_sv m 79 (Int32.toNatClampNeg (m 66 34)) v4) 80 (Int32.toNatClampNeg (m 66 34)) (v4 + ((it_sv m 79 (Int32.toNatClampNeg (m 66 34)) v4) 66 19))) 66 18)) + ((it_sv (it_sv m 79 (Int32.toNatClampNeg (m 66 34)) v4) 80 (Int32.toNatClampNeg (m 66 34)) (v4 + ((it_sv m 79 (Int32.toNatClampNeg (m 66 34)) v4) 66 19))) 66 20))) 82 (Int32.toNatClampNeg (m 66 34)) ((it_sv (it_sv (it_sv m 79 (Int32.toNatClampNeg (m 66 34)) v4) 80 (Int32.toNatClampNeg (m 66 34)) (v4 + ((it_sv m 79 (Int32.toNatClampNeg (m 66 34)) v4) 66 19))) 81 (Int32.toNatClampNeg (m 66 34)) ((v4 + ((it_sv (it_sv m 79 (Int32.toNatClampNeg (m 66 34)) v4) 80 (Int32.toNatClampNeg (m 66 34)) (v4 + ((it_sv m 79 (Int32.toNatClampNeg (m 66 34)) v4) 66 19))) 66 18)) + ((it_sv (it_sv m 79 (Int32.toNatClampNeg (m 66 34)) v4) 80 (Int32.toNatClampNeg (m 66 34)) (v4 + ((it_sv m 79 (Int32.toNatClampNeg (m 66 34)) v4) 66 19))) 66 20))) 66 21)) 66 23)) 84 (Int32.toNatClampNeg (m 66 34)) ((it_sv (it_sv (it_sv (it_sv (it_sv m 79 (Int32.toNatClampNeg (m 66 34)) v4) 80 (Int32.toNatClampNeg (m 66 34)) (v4 + ((it_sv m 79 (Int32.toNatClampNeg (m 66 34)) v4) 66 19))) 81 (Int32.toNatClampNeg (m 66 34)) ((v4 + ((it_sv (it_sv m 79 (Int32.toNatClampNeg (m 66 34)) v4) 80 (Int32.toNatClampNeg (m 66 34)) (v4 + ((it_sv m 79 (Int32.toNatClampNeg (m 66 34)) v4) 66 19))) 66 18)) + ((it_sv (it_sv m 79 (Int32.toNatClampNeg (m 66 34)) v4) 80 (Int32.toNatClampNeg (m 66 34)) (v4 + ((it_sv m 79 (Int32.toNatClampNeg (m 66 34)) v4) 66 19))) 66 20))) 82 (Int32.toNatClampNeg (m 66 34)) ((it_sv (it_sv (it_sv m 79 (Int32.toNatClampNeg (m 66 34)) v4) 80 (Int32.toNatClampNeg (m 66 34)) (v4 + ((it_sv m 79 (Int32.toNatClampNeg (m 66 34)) v4) 66 19))) 81 (Int32.toNatClampNeg (m 66 34)) ((v4 + ((it_sv (it_sv m 79 (Int32.toNatClampNeg (m 66 34)) v4) 80 (Int32.toNatClampNeg (m 66 34)) (v4 + ((it_sv m 79 (Int32.toNatClampNeg (m 66 34)) v4) 66 19))) 66 18)) + ((it_sv (it_sv m 79 (Int32.toNatClampNeg (m 66 34)) v4) 80 (Int32.toNatClampNeg (m 66 34)) (v4 + ((it_sv m 79 (Int32.toNatClampNeg (m 66 34)) v4) 66 19))) 66 20))) 66 21)) 83 (Int32.toNatClampNeg (m 66 34)) ((it_sv (it_sv (it_sv (it_sv m 79 (Int32.toNatClampNeg (m 66 34)) v4) 80 (Int32.toNatClampNeg (m 66 34)) (v4 + ((it_sv m 79 (Int32.toNatClampNeg (m 66 34)) v4) 66 19))) 81 (Int32.toNatClampNeg (m 66 34)) ((v4 + ((it_sv (it_sv m 79 (Int32.toNatClampNeg (m 66 34)) v4) 80 (Int32.toNatClampNeg (m 66 34)) (v4 + ((it_sv m 79 (Int32.toNatClampNeg (m 66 34)) v4) 66 19))) 66 18)) + ((it_sv (it_sv m 79 (Int32.toNatClampNeg (m 66 34)) v4) 80 (Int32.toNatClampNeg (m 66 34)) (v4 + ((it_sv m 79 (Int32.toNatClampNeg (m 66 34)) v4) 66 19))) 66 20))) 82 (Int32.toNatClampNeg (m 66 34)) ((it_sv (it_sv (it_sv m 79 (Int32.toNatClampNeg (m 66 34)) v4) 80 (Int32.toNatClampNeg (m 66 34)) (v4 + ((it_sv m 79 (Int32.toNatClampNeg (m 66 34)) v4) 66 19))) 81 (Int32.toNatClampNeg (m 66 34)) ((v4 + ((it_sv (it_sv m 79 (Int32.toNatClampNeg (m 66 34)) v4) 80 (Int32.toNatClampNeg (m 66 34)) (v4 + ((it_sv m 79 (Int32.toNatClampNeg (m 66 34)) v4) 66 19))) 66 18)) + ((it_sv (it_sv m 79 (Int32.toNatClampNeg (m 66 34)) v4) 80 (Int32.toNatClampNeg (m 66 34)) (v4 + ((it_sv m 79 (Int32.toNatClampNeg (m 66 34)) v4) 66 19))) 66 20))) 66 21)) 66 23)) 66 24)) 66 25)) 86 (Int32.toNatClampNeg (m 66 34)) ((it_sv (it_sv (it_sv (it_sv (it_sv (it_sv (it_sv m 79 (Int32.toNatClampNeg (m 66 34)) v4) 80 (Int32.toNatClampNeg (m 66 34)) (v4 + ((it_sv m 79 (Int32.toNatClampNeg (m 66 34)) v4) 66 19))) 81 (Int32.toNatClampNeg (m 66 34)) ((v4 + ((it_sv (it_sv m 79 (Int32.toNatClampNeg (m 66 34)) v4) 80 (Int32.toNatClampNeg (m 66 34)) (v4 + ((it_sv m 79 (Int32.toNatClampNeg (m 66 34)) v4) 66 19))) 66 18)) + ((it_sv (it_sv m 79 (Int32.toNatClampNeg (m 66 34)) v4) 80 (Int32.toNatClampNeg (m 66 34)) (v4 + ((it_sv m 79 (Int32.toNatClampNeg (m 66 34)) v4) 66 19))) 66 20))) 82 (Int32.toNatClampNeg (m 66 34)) ((it_sv (it_sv (it_sv m 79 (Int32.toNatClampNeg (m 66 34)) v4) 80 (Int32.toNatClampNeg (m 66 34)) (v4 + ((it_sv m 79 (Int32.toNatClampNeg (m 66 34)) v4) 66 19))) 81 (Int32.toNatClampNeg (m 66 34)) ((v4 + ((it_sv (it_sv m 79 (Int32.toNatClampNeg (m 66 34)) v4) 80 (Int32.toNatClampNeg (m 66 34)) (v4 + ((it_sv m 79 (Int32.toNatClampNeg (m 66 34)) v4) 66 19))) 66 18)) + ((it_sv (it_sv m 79 (Int32.toNatClampNeg (m 66 34)) v4) 80 (Int32.toNatClampNeg (m 66 34)) (v4 + ((it_sv m 79 (Int32.toNatClampNeg (m 66 34)) v4) 66 19))) 66 20))) 66 21)) 83 (Int32.toNatClampNeg (m 66 34)) ((it_sv (it_sv (it_sv (it_sv m 79 (Int32.toNatClampNeg (m 66 34)) v4) 80 (Int32.toNatClampNeg (m 66 34)) (v4 + ((it_sv m 79 (Int32.toNatClampNeg (m 66 34)) v4) 66 19))) 81 (Int32.toNatClampNeg (m 66 34)) ((v4 + ((it_sv (it_sv m 79 (Int32.toNatClampNeg (m 66 34)) v4) 80 (Int32.toNatClampNeg (m 66 34)) (v4 + ((it_sv m 79 (Int32.toNatClampNeg (m 66 34)) v4) 66 19))) 66 18)) + ((it_sv (it_sv m 79 (Int32.toNatClampNeg (m 66 34)) v4) 80 (Int32.toNatClampNeg (m 66 34)) (v4 + ((it_sv m 79 (Int32.toNatClampNeg (m 66 34)) v4) 66 19))) 66 20))) 82 (Int32.toNatClampNeg (m 66 34)) ((it_sv (it_sv (it_sv m 79 (Int32.toNatClampNeg (m 66 34)) v4) 80 (Int32.toNatClampNeg (m 66 34)) (v4 + ((it_sv m 79 (Int32.toNatClampNeg (m 66 34)) v4) 66 19))) 81 (Int32.toNatClampNeg (m 66 34)) ((v4 + ((it_sv (it_sv m 79 (Int32.toNatClampNeg (m 66 34)) v4) 80 (Int32.toNatClampNeg (m 66 34)) (v4 + ((it_sv m 79 (Int32.toNatClampNeg (m 66 34)) v4) 66 19))) 66 18)) + ((it_sv (it_sv m 79 (Int32.toNatClampNeg (m 66 34)) v4) 80 (Int32.toNatClampNeg (m 66 34)) (v4 + ((it_sv m 79 (Int32.toNatClampNeg (m 66 34)) v4) 66 19))) 66 20))) 66 21)) 66 23)) 84 (Int32.toNatClampNeg (m 66 34)) ((it_sv (it_sv (it_sv (it_sv (it_sv m 79 (Int32.toNatClampNeg (m 66 34)) v4) 80 (Int32.toNatClampNeg (m 66 34)) (v4 + ((it_sv m 79 (Int32.toNatClampNeg (m 66 34)) v4) 66 19))) 81 (Int32.toNatClampNeg (m 66 34)) ((v4 + ((it_sv (it_sv m 79 (Int32.toNatClampNeg (m 66 34)) v4) 80 (Int32.toNatClampNeg (m 66 34)) (v4 + ((it_sv m 79 (Int32.toNatClampNeg (m 66 34)) v4) 66 19))) 66 18)) + ((it_sv (it_sv m 79 (Int32.toNatClampNeg (m 66 34)) v4) 80 (Int32.toNatClampNeg (m 66 34)) (v4 + ((it_sv m 79 (Int32.toNatClampNeg (m 66 34)) v4) 66 19))) 66 20))) 82 (Int32.toNatClampNeg (m 66 34)) ((it_sv (it_sv (it_sv m 79 (Int32.toNatClampNeg (m 66 34)) v4) 80 (Int32.toNatClampNeg (m 66 34)) (v4 + ((it_sv m 79 (Int32.toNatClampNeg (m 66 34)) v4) 66 19))) 81 (Int32.toNatClampNeg (m 66 34)) ((v4 + ((it_sv (it_sv m 79 (Int32.toNatClampNeg (m 66 34)) v4) 80 (Int32.toNatClampNeg (m 66 34)) (v4 + ((it_sv m 79 (Int32.toNatClampNeg (m 66 34)) v4) 66 19))) 66 18)) + ((it_sv (it_sv m 79 (Int32.toNatClampNeg (m 66 34)) v4) 80 (Int32.toNatClampNeg (m 66 34)) (v4 + ((it_sv m 79 (Int32.toNatClampNeg (m 66 34)) v4) 66 19))) 66 20))) 66 21)) 83 (Int32.toNatClampNeg (m 66 34)) ((it_sv (it_sv (it_sv (it_sv m 79 (Int32.toNatClampNeg (m 66 34)) v4) 80 (Int32.toNatClampNeg (m 66 34)) (v4 + ((it_sv m 79 (Int32.toNatClampNeg (m 66 34)) v4) 66 19))) 81 (Int32.toNatClampNeg (m 66 34)) ((v4 + ((it_sv (it_sv m 79 (Int32.toNatClampNeg (m 66 34)) v4) 80 (Int32.toNatClampNeg (m 66 34)) (v4 + ((it_sv m 79 (Int32.toNatClampNeg (m 66 34)) v4) 66 19))) 66 18)) + ((it_sv (it_sv m 79 (Int32.toNatClampNeg (m 66 34)) v4) 80 (Int32.toNatClampNeg (m 66 34)) (v4 + ((it_sv m 79 (Int32.toNatClampNeg (m 66 34)) v4) 66 19))) 66 20))) 82 (Int32.toNatClampNeg (m 66 34)) ((it_sv (it_sv (it_sv m 79 (Int32.toNatClampNeg (m 66 34)) v4) 80 (Int32.toNatClampNeg (m 66 34)) (v4 + ((it_sv m 79 (Int32.toNatClampNeg (m 66 34)) v4) 66 19))) 81 (Int32.toNatClampNeg (m 66 34)) ((v4 + ((it_sv (it_sv m 79 (Int32.toNatClampNeg (m 66 34)) v4) 80 (Int32.toNatClampNeg (m 66 34)) (v4 + ((it_sv m 79 (Int32.toNatClampNeg (m 66 34)) v4) 66 19))) 66 18)) + ((it_sv (it_sv m 79 (Int32.toNatClampNeg (m 66 34)) v4) 80 (Int32.toNatClampNeg (m 66 34)) (v4 + ((it_sv m 79 (Int32.toNatClampNeg (m 66 34)) v4) 66 19))) 66 20))) 66 21)) 66 23)) 66 24)) 85 (Int32.toNatClampNeg (m 66 34)) ((it_sv (it_sv (it_sv (it_sv (it_sv (it_sv m 79 (Int32.toNatClampNeg (m 66 34)) v4) 80 (Int32.toNatClampNeg (m 66 34)) (v4 + ((it_sv m 79 (Int32.toNatClampNeg (m 66 34)) v4) 66 19))) 81 (Int32.toNatClampNeg (m 66 34)) ((v4 + ((it_sv (it_sv m 79 (Int32.toNatClampNeg (m 66 34)) v4) 80 (Int32.toNatClampNeg (m 66 34)) (v4 + ((it_sv m 79 (Int32.toNatClampNeg (m 66 34)) v4) 66 19))) 66 18)) + ((it_sv (it_sv m 79 (Int32.toNatClampNeg (m 66 34)) v4) 80 (Int32.toNatClampNeg (m 66 34)) (v4 + ((it_sv m 79 (Int32.toNatClampNeg (m 66 34)) v4) 66 19))) 66 20))) 82 (Int32.toNatClampNeg (m 66 34)) ((it_sv (it_sv (it_sv m 79 (Int32.toNatClampNeg (m 66 34)) v4) 80 (Int32.toNatClampNeg (m 66 34)) (v4 + ((it_sv m 79 (Int32.toNatClampNeg (m 66 34)) v4) 66 19))) 81 (Int32.toNatClampNeg (m 66 34)) ((v4 + ((it_sv (it_sv m 79 (Int32.toNatClampNeg (m 66 34)) v4) 80 (Int32.toNatClampNeg (m 66 34)) (v4 + ((it_sv m 79 (Int32.toNatClampNeg (m 66 34)) v4) 66 19))) 66 18)) + ((it_sv (it_sv m 79 (Int32.toNatClampNeg (m 66 34)) v4) 80 (Int32.toNatClampNeg (m 66 34)) (v4 + ((it_sv m 79 (Int32.toNatClampNeg (m 66 34)) v4) 66 19))) 66 20))) 66 21)) 83 (Int32.toNatClampNeg (m 66 34)) ((it_sv (it_sv (it_sv (it_sv m 79 (Int32.toNatClampNeg (m 66 34)) v4) 80 (Int32.toNatClampNeg (m 66 34)) (v4 + ((it_sv m 79 (Int32.toNatClampNeg (m 66 34)) v4) 66 19))) 81 (Int32.toNatClampNeg (m 66 34)) ((v4 + ((it_sv (it_sv m 79 (Int32.toNatClampNeg (m 66 34)) v4) 80 (Int32.toNatClampNeg (m 66 34)) (v4 + ((it_sv m 79 (Int32.toNatClampNeg (m 66 34)) v4) 66 19))) 66 18)) + ((it_sv (it_sv m 79 (Int32.toNatClampNeg (m 66 34)) v4) 80 (Int32.toNatClampNeg (m 66 34)) (v4 + ((it_sv m 79 (Int32.toNatClampNeg (m 66 34)) v4) 66 19))) 66 20))) 82 (Int32.toNatClampNeg (m 66 34)) ((it_sv (it_sv (it_sv m 79 (Int32.toNatClampNeg (m 66 34)) v4) 80 (Int32.toNatClampNeg (m 66 34)) (v4 + ((it_sv m 79 (Int32.toNatClampNeg (m 66 34)) v4) 66 19))) 81 (Int32.toNatClampNeg (m 66 34)) ((v4 + ((it_sv (it_sv m 79 (Int32.toNatClampNeg (m 66 34)) v4) 80 (Int32.toNatClampNeg (m 66 34)) (v4 + ((it_sv m 79 (Int32.toNatClampNeg (m 66 34)) v4) 66 19))) 66 18)) + ((it_sv (it_sv m 79 (Int32.toNatClampNeg (m 66 34)) v4) 80 (Int32.toNatClampNeg (m 66 34)) (v4 + ((it_sv m 79 (Int32.toNatClampNeg (m 66 34)) v4) 66 19))) 66 20))) 66 21)) 66 23)) 84 (Int32.toNatClampNeg (m 66 34)) ((it_sv (it_sv (it_sv (it_sv (it_sv m 79 (Int32.toNatClampNeg (m 66 34)) v4) 80 (Int32.toNatClampNeg (m 66 34)) (v4 + ((it_sv m 79 (Int32.toNatClampNeg (m 66 34)) v4) 66 19))) 81 (Int32.toNatClampNeg (m 66 34)) ((v4 + ((it_sv (it_sv m 79 (Int32.toNatClampNeg (m 66 34)) v4) 80 (Int32.toNatClampNeg (m 66 34)) (v4 + ((it_sv m 79 (Int32.toNatClampNeg (m 66 34)) v4) 66 19))) 66 18)) + ((it_sv (it_sv m 79 (Int32.toNatClampNeg (m 66 34)) v4) 80 (Int32.toNatClampNeg (m 66 34)) (v4 + ((it_sv m 79 (Int32.toNatClampNeg (m 66 34)) v4) 66 19))) 66 20))) 82 (Int32.toNatClampNeg (m 66 34)) ((it_sv (it_sv (it_sv m 79 (Int32.toNatClampNeg (m 66 34)) v4) 80 (Int32.toNatClampNeg (m 66 34)) (v4 + ((it_sv m 79 (Int32.toNatClampNeg (m 66 34)) v4) 66 19))) 81 (Int32.toNatClampNeg (m 66 34)) ((v4 + ((it_sv (it_sv m 79 (Int32.toNatClampNeg (m 66 34)) v4) 80 (Int32.toNatClampNeg (m 66 34)) (v4 + ((it_sv m 79 (Int32.toNatClampNeg (m 66 34)) v4) 66 19))) 66 18)) + ((it_sv (it_sv m 79 (Int32.toNatClampNeg (m 66 34)) v4) 80 (Int32.toNatClampNeg (m 66 34)) (v4 + ((it_sv m 79 (Int32.toNatClampNeg (m 66 34)) v4) 66 19))) 66 20))) 66 21)) 83 (Int32.toNatClampNeg (m 66 34)) ((it_sv (it_sv (it_sv (it_sv m 79 (Int32.toNatClampNeg (m 66 34)) v4) 80 (Int32.toNatClampNeg (m 66 34)) (v4 + ((it_sv m 79 (Int32.toNatClampNeg (m 66 34)) v4) 66 19))) 81 (Int32.toNatClampNeg (m 66 34)) ((v4 + ((it_sv (it_sv m 79 (Int32.toNatClampNeg (m 66 34)) v4) 80 (Int32.toNatClampNeg (m 66 34)) (v4 + ((it_sv m 79 (Int32.toNatClampNeg (m 66 34)) v4) 66 19))) 66 18)) + ((it_sv (it_sv m 79 (Int32.toNatClampNeg (m 66 34)) v4) 80 (Int32.toNatClampNeg (m 66 34)) (v4 + ((it_sv m 79 (Int32.toNatClampNeg (m 66 34)) v4) 66 19))) 66 20))) 82 (Int32.toNatClampNeg (m 66 34)) ((it_sv (it_sv (it_sv m 79 (Int32.toNatClampNeg (m 66 34)) v4) 80 (Int32.toNatClampNeg (m 66 34)) (v4 + ((it_sv m 79 (Int32.toNatClampNeg (m 66 34)) v4) 66 19))) 81 (Int32.toNatClampNeg (m 66 34)) ((v4 + ((it_sv (it_sv m 79 (Int32.toNatClampNeg (m 66 34)) v4) 80 (Int32.toNatClampNeg (m 66 34)) (v4 + ((it_sv m 79 (Int32.toNatClampNeg (m 66 34)) v4) 66 19))) 66 18)) + ((it_sv (it_sv m 79 (Int32.toNatClampNeg (m 66 34)) v4) 80 (Int32.toNatClampNeg (m 66 34)) (v4 + ((it_sv m 79 (Int32.toNatClampNeg (m 66 34)) v4) 66 19))) 66 20))) 66 21)) 66 23)) 66 24)) 66 25)) 66 26)) 66 27)) 66 28)) 89 (Int32.toNatClampNeg (m 66 34)) v7) 90 (Int32.toNatClampNeg (m 66 34)) v6) 66 34 (((it_sv (it_sv (it_sv (it_sv (it_sv (it_sv (it_sv (it_sv (it_sv (it_sv (it_sv (it_sv m 79 (Int32.toNatClampNeg (m 66 34)) v4) 80 (Int32.toNatClampNeg (m 66 34)) (v4 + ((it_sv m 79 (Int32.toNatClampNeg (m 66 34)) v4) 66 19))) 81 (Int32.toNatClampNeg (m 66 34)) ((v4 + ((it_sv (it_sv m 79 (Int32.toNatClampNeg (m 66 34)) v4) 80 (Int32.toNatClampNeg (m 66 34)) (v4 + ((it_sv m 79 (Int32.toNatClampNeg (m 66 34)) v4) 66 19))) 66 18)) + ((it_sv (it_sv m 79 (Int32.toNatClampNeg (m 66 34)) v4) 80 (Int32.toNatClampNeg (m 66 34)) (v4 + ((it_sv m 79 (Int32.toNatClampNeg (m 66 34)) v4) 66 19))) 66 20))) 82 (Int32.toNatClampNeg (m 66 34)) ((it_sv (it_sv (it_sv m 79 (Int32.toNatClampNeg (m 66 34)) v4) 80 (Int32.toNatClampNeg (m 66 34)) (v4 + ((it_sv m 79 (Int32.toNatClampNeg (m 66 34)) v4) 66 19))) 81 (Int32.toNatClampNeg (m 66 34)) ((v4 + ((it_sv (it_sv m 79 (Int32.toNatClampNeg (m 66 34)) v4) 80 (Int32.toNatClampNeg (m 66 34)) (v4 + ((it_sv m 79 (Int32.toNatClampNeg (m 66 34)) v4) 66 19))) 66 18)) + ((it_sv (it_sv m 79 (Int32.toNatClampNeg (m 66 34)) v4) 80 (Int32.toNatClampNeg (m 66 34)) (v4 + ((it_sv m 79 (Int32.toNatClampNeg (m 66 34)) v4) 66 19))) 66 20))) 66 21)) 83 (Int32.toNatClampNeg (m 66 34)) ((it_sv (it_sv (it_sv (it_sv m 79 (Int32.toNatClampNeg (m 66 34)) v4) 80 (Int32.toNatClampNeg (m 66 34)) (v4 + ((it_sv m 79 (Int32.toNatClampNeg (m 66 34)) v4) 66 19))) 81 (Int32.toNatClampNeg (m 66 34)) ((v4 + ((it_sv (it_sv m 79 (Int32.toNatClampNeg (m 66 34)) v4) 80 (Int32.toNatClampNeg (m 66 34)) (v4 + ((it_sv m 79 (Int32.toNatClampNeg (m 66 34)) v4) 66 19))) 66 18)) + ((it_sv (it_sv m 79 (Int32.toNatClampNeg (m 66 34)) v4) 80 (Int32.toNatClampNeg (m 66 34)) (v4 + ((it_sv m 79 (Int32.toNatClampNeg (m 66 34)) v4) 66 19))) 66 20))) 82 (Int32.toNatClampNeg (m 66 34)) ((it_sv (it_sv (it_sv m 79 (Int32.toNatClampNeg (m 66 34)) v4) 80 (Int32.toNatClampNeg (m 66 34)) (v4 + ((it_sv m 79 (Int32.toNatClampNeg (m 66 34)) v4) 66 19))) 81 (Int32.toNatClampNeg (m 66 34)) ((v4 + ((it_sv (it_sv m 79 (Int32.toNatClampNeg (m 66 34)) v4) 80 (Int32.toNatClampNeg (m 66 34)) (v4 + ((it_sv m 79 (Int32.toNatClampNeg (m 66 34)) v4) 66 19))) 66 18)) + ((it_sv (it_sv m 79 (Int32.toNatClampNeg (m 66 34)) v4) 80 (Int32.toNatClampNeg (m 66 34)) (v4 + ((it_sv m 79 (Int32.toNatClampNeg (m 66 34)) v4) 66 19))) 66 20))) 66 21)) 66 23)) 84 (Int32.toNatClampNeg (m 66 34)) ((it_sv (it_sv (it_sv (it_sv (it_sv m 79 (Int32.toNatClampNeg (m 66 34)) v4) 80 (Int32.toNatClampNeg (m 66 34)) (v4 + ((it_sv m 79 (Int32.toNatClampNeg (m 66 34)) v4) 66 19))) 81 (Int32.toNatClampNeg (m 66 34)) ((v4 + ((it_sv (it_sv m 79 (Int32.toNatClampNeg (m 66 34)) v4) 80 (Int32.toNatClampNeg (m 66 34)) (v4 + ((it_sv m 79 (Int32.toNatClampNeg (m 66 34)) v4) 66 19))) 66 18)) + ((it_sv (it_sv m 79 (Int32.toNatClampNeg (m 66 34)) v4) 80 (Int32.toNatClampNeg (m 66 34)) (v4 + ((it_sv m 79 (Int32.toNatClampNeg (m 66 34)) v4) 66 19))) 66 20))) 82 (Int32.toNatClampNeg (m 66 34)) ((it_sv (it_sv (it_sv m 79 (Int32.toNatClampNeg (m 66 34)) v4) 80 (Int32.toNatClampNeg (m 66 34)) (v4 + ((it_sv m 79 (Int32.toNatClampNeg (m 66 34)) v4) 66 19))) 81 (Int32.toNatClampNeg (m 66 34)) ((v4 + ((it_sv (it_sv m 79 (Int32.toNatClampNeg (m 66 34)) v4) 80 (Int32.toNatClampNeg (m 66 34)) (v4 + ((it_sv m 79 (Int32.toNatClampNeg (m 66 34)) v4) 66 19))) 66 18)) + ((it_sv (it_sv m 79 (Int32.toNatClampNeg (m 66 34)) v4) 80 (Int32.toNatClampNeg (m 66 34)) (v4 + ((it_sv m 79 (Int32.toNatClampNeg (m 66 34)) v4) 66 19))) 66 20))) 66 21)) 83 (Int32.toNatClampNeg (m 66 34)) ((it_sv (it_sv (it_sv (it_sv m 79 (Int32.toNatClampNeg (m 66 34)) v4) 80 (Int32.toNatClampNeg (m 66 34)) (v4 + ((it_sv m 79 (Int32.toNatClampNeg (m 66 34)) v4) 66 19))) 81 (Int32.toNatClampNeg (m 66 34)) ((v4 + ((it_sv (it_sv m 79 (Int32.toNatClampNeg (m 66 34)) v4) 80 (Int32.toNatClampNeg (m 66 34)) (v4 + ((it_sv m 79 (Int32.toNatClampNeg (m 66 34)) v4) 66 19))) 66 18)) + ((it_sv (it_sv m 79 (Int32.toNatClampNeg (m 66 34)) v4) 80 (Int32.toNatClampNeg (m 66 34)) (v4 + ((it_sv m 79 (Int32.toNatClampNeg (m 66 34)) v4) 66 19))) 66 20))) 82 (Int32.toNatClampNeg (m 66 34)) ((it_sv (it_sv (it_sv m 79 (Int32.toNatClampNeg (m 66 34)) v4) 80 (Int32.toNatClampNeg (m 66 34)) (v4 + ((it_sv m 79 (Int32.toNatClampNeg (m 66 34)) v4) 66 19))) 81 (Int32.toNatClampNeg (m 66 34)) ((v4 + ((it_sv (it_sv m 79 (Int32.toNatClampNeg (m 66 34)) v4) 80 (Int32.toNatClampNeg (m 66 34)) (v4 + ((it_sv m 79 (Int32.toNatClampNeg (m 66 34)) v4) 66 19))) 66 18)) + ((it_sv (it_sv m 79 (Int32.toNatClampNeg (m 66 34)) v4) 80 (Int32.toNatClampNeg (m 66 34)) (v4 + ((it_sv m 79 (Int32.toNatClampNeg (m 66 34)) v4) 66 19))) 66 20))) 66 21)) 66 23)) 66 24)) 85 (Int32.toNatClampNeg (m 66 34)) ((it_sv (it_sv (it_sv (it_sv (it_sv (it_sv m 79 (Int32.toNatClampNeg (m 66 34)) v4) 80 (Int32.toNatClampNeg (m 66 34)) (v4 + ((it_sv m 79 (Int32.toNatClampNeg (m 66 34)) v4) 66 19))) 81 (Int32.toNatClampNeg (m 66 34)) ((v4 + ((it_sv (it_sv m 79 (Int32.toNatClampNeg (m 66 34)) v4) 80 (Int32.toNatClampNeg (m 66 34)) (v4 + ((it_sv m 79 (Int32.toNatClampNeg (m 66 34)) v4) 66 19))) 66 18)) + ((it_sv (it_sv m 79 (Int32.toNatClampNeg (m 66 34)) v4) 80 (Int32.toNatClampNeg (m 66 34)) (v4 + ((it_sv m 79 (Int32.toNatClampNeg (m 66 34)) v4) 66 19))) 66 20))) 82 (Int32.toNatClampNeg (m 66 34)) ((it_sv (it_sv (it_sv m 79 (Int32.toNatClampNeg (m 66 34)) v4) 80 (Int32.toNatClampNeg (m 66 34)) (v4 + ((it_sv m 79 (Int32.toNatClampNeg (m 66 34)) v4) 66 19))) 81 (Int32.toNatClampNeg (m 66 34)) ((v4 + ((it_sv (it_sv m 79 (Int32.toNatClampNeg (m 66 34)) v4) 80 (Int32.toNatClampNeg (m 66 34)) (v4 + ((it_sv m 79 (Int32.toNatClampNeg (m 66 34)) v4) 66 19))) 66 18)) + ((it_sv (it_sv m 79 (Int32.toNatClampNeg (m 66 34)) v4) 80 (Int32.toNatClampNeg (m 66 34)) (v4 + ((it_sv m 79 (Int32.toNatClampNeg (m 66 34)) v4) 66 19))) 66 20))) 66 21)) 83 (Int32.toNatClampNeg (m 66 34)) ((it_sv (it_sv (it_sv (it_sv m 79 (Int32.toNatClampNeg (m 66 34)) v4) 80 (Int32.toNatClampNeg (m 66 34)) (v4 + ((it_sv m 79 (Int32.toNatClampNeg (m 66 34)) v4) 66 19))) 81 (Int32.toNatClampNeg (m 66 34)) ((v4 + ((it_sv (it_sv m 79 (Int32.toNatClampNeg (m 66 34)) v4) 80 (Int32.toNatClampNeg (m 66 34)) (v4 + ((it_sv m 79 (Int32.toNatClampNeg (m 66 34)) v4) 66 19))) 66 18)) + ((it_sv (it_sv m 79 (Int32.toNatClampNeg (m 66 34)) v4) 80 (Int32.toNatClampNeg (m 66 34)) (v4 + ((it_sv m 79 (Int32.toNatClampNeg (m 66 34)) v4) 66 19))) 66 20))) 82 (Int32.toNatClampNeg (m 66 34)) ((it_sv (it_sv (it_sv m 79 (Int32.toNatClampNeg (m 66 34)) v4) 80 (Int32.toNatClampNeg (m 66 34)) (v4 + ((it_sv m 79 (Int32.toNatClampNeg (m 66 34)) v4) 66 19))) 81 (Int32.toNatClampNeg (m 66 34)) ((v4 + ((it_sv (it_sv m 79 (Int32.toNatClampNeg (m 66 34)) v4) 80 (Int32.toNatClampNeg (m 66 34)) (v4 + ((it_sv m 79 (Int32.toNatClampNeg (m 66 34)) v4) 66 19))) 66 18)) + ((it_sv (it_sv m 79 (Int32.toNatClampNeg (m 66 34)) v4) 80 (Int32.toNatClampNeg (m 66 34)) (v4 + ((it_sv m 79 (Int32.toNatClampNeg (m 66 34)) v4) 66 19))) 66 20))) 66 21)) 66 23)) 84 (Int32.toNatClampNeg (m 66 34)) ((it_sv (it_sv (it_sv (it_sv (it_sv m 79 (Int32.toNatClampNeg (m 66 34)) v4) 80 (Int32.toNatClampNeg (m 66 34)) (v4 + ((it_sv m 79 (Int32.toNatClampNeg (m 66 34)) v4) 66 19))) 81 (Int32.toNatClampNeg (m 66 34)) ((v4 + ((it_sv (it_sv m 79 (Int32.toNatClampNeg (m 66 34)) v4) 80 (Int32.toNatClampNeg (m 66 34)) (v4 + ((it_sv m 79 (Int32.toNatClampNeg (m 66 34)) v4) 66 19))) 66 18)) + ((it_sv (it_sv m 79 (Int32.toNatClampNeg (m 66 34)) v4) 80 (Int32.toNatClampNeg (m 66 34)) (v4 + ((it_sv m 79 (Int32.toNatClampNeg (m 66 34)) v4) 66 19))) 66 20))) 82 (Int32.toNatClampNeg (m 66 34)) ((it_sv (it_sv (it_sv m 79 (Int32.toNatClampNeg (m 66 34)) v4) 80 (Int32.toNatClampNeg (m 66 34)) (v4 + ((it_sv m 79 (Int32.toNatClampNeg (m 66 34)) v4) 66 19))) 81 (Int32.toNatClampNeg (m 66 34)) ((v4 + ((it_sv (it_sv m 79 (Int32.toNatClampNeg (m 66 34)) v4) 80 (Int32.toNatClampNeg (m 66 34)) (v4 + ((it_sv m 79 (Int32.toNatClampNeg (m 66 34)) v4) 66 19))) 66 18)) + ((it_sv (it_sv m 79 (Int32.toNatClampNeg (m 66 34)) v4) 80 (Int32.toNatClampNeg (m 66 34)) (v4 + ((it_sv m 79 (Int32.toNatClampNeg (m 66 34)) v4) 66 19))) 66 20))) 66 21)) 83 (Int32.toNatClampNeg (m 66 34)) ((it_sv (it_sv (it_sv (it_sv m 79 (Int32.toNatClampNeg (m 66 34)) v4) 80 (Int32.toNatClampNeg (m 66 34)) (v4 + ((it_sv m 79 (Int32.toNatClampNeg (m 66 34)) v4) 66 19))) 81 (Int32.toNatClampNeg (m 66 34)) ((v4 + ((it_sv (it_sv m 79 (Int32.toNatClampNeg (m 66 34)) v4) 80 (Int32.toNatClampNeg (m 66 34)) (v4 + ((it_sv m 79 (Int32.toNatClampNeg (m 66 34)) v4) 66 19))) 66 18)) + ((it_sv (it_sv m 79 (Int32.toNatClampNeg (m 66 34)) v4) 80 (Int32.toNatClampNeg (m 66 34)) (v4 + ((it_sv m 79 (Int32.toNatClampNeg (m 66 34)) v4) 66 19))) 66 20))) 82 (Int32.toNatClampNeg (m 66 34)) ((it_sv (it_sv (it_sv m 79 (Int32.toNatClampNeg (m 66 34)) v4) 80 (Int32.toNatClampNeg (m 66 34)) (v4 + ((it_sv m 79 (Int32.toNatClampNeg (m 66 34)) v4) 66 19))) 81 (Int32.toNatClampNeg (m 66 34)) ((v4 + ((it_sv (it_sv m 79 (Int32.toNatClampNeg (m 66 34)) v4) 80 (Int32.toNatClampNeg (m 66 34)) (v4 + ((it_sv m 79 (Int32.toNatClampNeg (m 66 34)) v4) 66 19))) 66 18)) + ((it_sv (it_sv m 79 (Int32.toNatClampNeg (m 66 34)) v4) 80 (Int32.toNatClampNeg (m 66 34)) (v4 + ((it_sv m 79 (Int32.toNatClampNeg (m 66 34)) v4) 66 19))) 66 20))) 66 21)) 66 23)) 66 24)) 66 25)) 86 (Int32.toNatClampNeg (m 66 34)) ((it_sv (it_sv (it_sv (it_sv (it_sv (it_sv (it_sv m 79 (Int32.toNatClampNeg (m 66 34)) v4) 80 (Int32.toNatClampNeg (m 66 34)) (v4 + ((it_sv m 79 (Int32.toNatClampNeg (m 66 34)) v4) 66 19))) 81 (Int32.toNatClampNeg (m 66 34)) ((v4 + ((it_sv (it_sv m 79 (Int32.toNatClampNeg (m 66 34)) v4) 80 (Int32.toNatClampNeg (m 66 34)) (v4 + ((it_sv m 79 (Int32.toNatClampNeg (m 66 34)) v4) 66 19))) 66 18)) + ((it_sv (it_sv m 79 (Int32.toNatClampNeg (m 66 34)) v4) 80 (Int32.toNatClampNeg (m 66 34)) (v4 + ((it_sv m 79 (Int32.toNatClampNeg (m 66 34)) v4) 66 19))) 66 20))) 82 (Int32.toNatClampNeg (m 66 34)) ((it_sv (it_sv (it_sv m 79 (Int32.toNatClampNeg (m 66 34)) v4) 80 (Int32.toNatClampNeg (m 66 34)) (v4 + ((it_sv m 79 (Int32.toNatClampNeg (m 66 34)) v4) 66 19))) 81 (Int32.toNatClampNeg (m 66 34)) ((v4 + ((it_sv (it_sv m 79 (Int32.toNatClampNeg (m 66 34)) v4) 80 (Int32.toNatClampNeg (m 66 34)) (v4 + ((it_sv m 79 (Int32.toNatClampNeg (m 66 34)) v4) 66 19))) 66 18)) + ((it_sv (it_sv m 79 (Int32.toNatClampNeg (m 66 34)) v4) 80 (Int32.toNatClampNeg (m 66 34)) (v4 + ((it_sv m 79 (Int32.toNatClampNeg (m 66 34)) v4) 66 19))) 66 20))) 66 21)) 83 (Int32.toNatClampNeg (m 66 34)) ((it_sv (it_sv (it_sv (it_sv m 79 (Int32.toNatClampNeg (m 66 34)) v4) 80 (Int32.toNatClampNeg (m 66 34)) (v4 + ((it_sv m 79 (Int32.toNatClampNeg (m 66 34)) v4) 66 19))) 81 (Int32.toNatClampNeg (m 66 34)) ((v4 + ((it_sv (it_sv m 79 (Int32.toNatClampNeg (m 66 34)) v4) 80 (Int32.toNatClampNeg (m 66 34)) (v4 + ((it_sv m 79 (Int32.toNatClampNeg (m 66 34)) v4) 66 19))) 66 18)) + ((it_sv (it_sv m 79 (Int32.toNatClampNeg (m 66 34)) v4) 80 (Int32.toNatClampNeg (m 66 34)) (v4 + ((it_sv m 79 (Int32.toNatClampNeg (m 66 34)) v4) 66 19))) 66 20))) 82 (Int32.toNatClampNeg (m 66 34)) ((it_sv (it_sv (it_sv m 79 (Int32.toNatClampNeg (m 66 34)) v4) 80 (Int32.toNatClampNeg (m 66 34)) (v4 + ((it_sv m 79 (Int32.toNatClampNeg (m 66 34)) v4) 66 19))) 81 (Int32.toNatClampNeg (m 66 34)) ((v4 + ((it_sv (it_sv m 79 (Int32.toNatClampNeg (m 66 34)) v4) 80 (Int32.toNatClampNeg (m 66 34)) (v4 + ((it_sv m 79 (Int32.toNatClampNeg (m 66 34)) v4) 66 19))) 66 18)) + ((it_sv (it_sv m 79 (Int32.toNatClampNeg (m 66 34)) v4) 80 (Int32.toNatClampNeg (m 66 34)) (v4 + ((it_sv m 79 (Int32.toNatClampNeg (m 66 34)) v4) 66 19))) 66 20))) 66 21)) 66 23)) 84 (Int32.toNatClampNeg (m 66 34)) ((it_sv (it_sv (it_sv (it_sv (it_sv m 79 (Int32.toNatClampNeg (m 66 34)) v4) 80 (Int32.toNatClampNeg (m 66 34)) (v4 + ((it_sv m 79 (Int32.toNatClampNeg (m 66 34)) v4) 66 19))) 81 (Int32.toNatClampNeg (m 66 34)) ((v4 + ((it_sv (it_sv m 79 (Int32.toNatClampNeg (m 66 34)) v4) 80 (Int32.toNatClampNeg (m 66 34)) (v4 + ((it_sv m 79 (Int32.toNatClampNeg (m 66 34)) v4) 66 19))) 66 18)) + ((it_sv (it_sv m 79 (Int32.toNatClampNeg (m 66 34)) v4) 80 (Int32.toNatClampNeg (m 66 34)) (v4 + ((it_sv m 79 (Int32.toNatClampNeg (m 66 34)) v4) 66 19))) 66 20))) 82 (Int32.toNatClampNeg (m 66 34)) ((it_sv (it_sv (it_sv m 79 (Int32.toNatClampNeg (m 66 34)) v4) 80 (Int32.toNatClampNeg (m 66 34)) (v4 + ((it_sv m 79 (Int32.toNatClampNeg (m 66 34)) v4) 66 19))) 81 (Int32.toNatClampNeg (m 66 34)) ((v4 + ((it_sv (it_sv m 79 (Int32.toNatClampNeg (m 66 34)) v4) 80 (Int32.toNatClampNeg (m 66 34)) (v4 + ((it_sv m 79 (Int32.toNatClampNeg (m 66 34)) v4) 66 19))) 66 18)) + ((it_sv (it_sv m 79 (Int32.toNatClampNeg (m 66 34)) v4) 80 (Int32.toNatClampNeg (m 66 34)) (v4 + ((it_sv m 79 (Int32.toNatClampNeg (m 66 34)) v4) 66 19))) 66 20))) 66 21)) 83 (Int32.toNatClampNeg (m 66 34)) ((it_sv (it_sv (it_sv (it_sv m 79 (Int32.toNatClampNeg (m 66 34)) v4) 80 (Int32.toNatClampNeg (m 66 34)) (v4 + ((it_sv m 79 (Int32.toNatClampNeg (m 66 34)) v4) 66 19))) 81 (Int32.toNatClampNeg (m 66 34)) ((v4 + ((it_sv (it_sv m 79 (Int32.toNatClampNeg (m 66 34)) v4) 80 (Int32.toNatClampNeg (m 66 34)) (v4 + ((it_sv m 79 (Int32.toNatClampNeg (m 66 34)) v4) 66 19))) 66 18)) + ((it_sv (it_sv m 79 (Int32.toNatClampNeg (m 66 34)) v4) 80 (Int32.toNatClampNeg (m 66 34)) (v4 + ((it_sv m 79 (Int32.toNatClampNeg (m 66 34)) v4) 66 19))) 66 20))) 82 (Int32.toNatClampNeg (m 66 34)) ((it_sv (it_sv (it_sv m 79 (Int32.toNatClampNeg (m 66 34)) v4) 80 (Int32.toNatClampNeg (m 66 34)) (v4 + ((it_sv m 79 (Int32.toNatClampNeg (m 66 34)) v4) 66 19))) 81 (Int32.toNatClampNeg (m 66 34)) ((v4 + ((it_sv (it_sv m 79 (Int32.toNatClampNeg (m 66 34)) v4) 80 (Int32.toNatClampNeg (m 66 34)) (v4 + ((it_sv m 79 (Int32.toNatClampNeg (m 66 34)) v4) 66 19))) 66 18)) + ((it_sv (it_sv m 79 (Int32.toNatClampNeg (m 66 34)) v4) 80 (Int32.toNatClampNeg (m 66 34)) (v4 + ((it_sv m 79 (Int32.toNatClampNeg (m 66 34)) v4) 66 19))) 66 20))) 66 21)) 66 23)) 66 24)) 85 (Int32.toNatClampNeg (m 66 34)) ((it_sv (it_sv (it_sv (it_sv (it_sv (it_sv m 79 (Int32.toNatClampNeg (m 66 34)) v4) 80 (Int32.toNatClampNeg (m 66 34)) (v4 + ((it_sv m 79 (Int32.toNatClampNeg (m 66 34)) v4) 66 19))) 81 (Int32.toNatClampNeg (m 66 34)) ((v4 + ((it_sv (it_sv m 79 (Int32.toNatClampNeg (m 66 34)) v4) 80 (Int32.toNatClampNeg (m 66 34)) (v4 + ((it_sv m 79 (Int32.toNatClampNeg (m 66 34)) v4) 66 19))) 66 18)) + ((it_sv (it_sv m 79 (Int32.toNatClampNeg (m 66 34)) v4) 80 (Int32.toNatClampNeg (m 66 34)) (v4 + ((it_sv m 79 (Int32.toNatClampNeg (m 66 34)) v4) 66 19))) 66 20))) 82 (Int32.toNatClampNeg (m 66 34)) ((it_sv (it_sv (it_sv m 79 (Int32.toNatClampNeg (m 66 34)) v4) 80 (Int32.toNatClampNeg (m 66 34)) (v4 + ((it_sv m 79 (Int32.toNatClampNeg (m 66 34)) v4) 66 19))) 81 (Int32.toNatClampNeg (m 66 34)) ((v4 + ((it_sv (it_sv m 79 (Int32.toNatClampNeg (m 66 34)) v4) 80 (Int32.toNatClampNeg (m 66 34)) (v4 + ((it_sv m 79 (Int32.toNatClampNeg (m 66 34)) v4) 66 19))) 66 18)) + ((it_sv (it_sv m 79 (Int32.toNatClampNeg (m 66 34)) v4) 80 (Int32.toNatClampNeg (m 66 34)) (v4 + ((it_sv m 79 (Int32.toNatClampNeg (m 66 34)) v4) 66 19))) 66 20))) 66 21)) 83 (Int32.toNatClampNeg (m 66 34)) ((it_sv (it_sv (it_sv (it_sv m 79 (Int32.toNatClampNeg (m 66 34)) v4) 80 (Int32.toNatClampNeg (m 66 34)) (v4 + ((it_sv m 79 (Int32.toNatClampNeg (m 66 34)) v4) 66 19))) 81 (Int32.toNatClampNeg (m 66 34)) ((v4 + ((it_sv (it_sv m 79 (Int32.toNatClampNeg (m 66 34)) v4) 80 (Int32.toNatClampNeg (m 66 34)) (v4 + ((it_sv m 79 (Int32.toNatClampNeg (m 66 34)) v4) 66 19))) 66 18)) + ((it_sv (it_sv m 79 (Int32.toNatClampNeg (m 66 34)) v4) 80 (Int32.toNatClampNeg (m 66 34)) (v4 + ((it_sv m 79 (Int32.toNatClampNeg (m 66 34)) v4) 66 19))) 66 20))) 82 (Int32.toNatClampNeg (m 66 34)) ((it_sv (it_sv (it_sv m 79 (Int32.toNatClampNeg (m 66 34)) v4) 80 (Int32.toNatClampNeg (m 66 34)) (v4 + ((it_sv m 79 (Int32.toNatClampNeg (m 66 34)) v4) 66 19))) 81 (Int32.toNatClampNeg (m 66 34)) ((v4 + ((it_sv (it_sv m 79 (Int32.toNatClampNeg (m 66 34)) v4) 80 (Int32.toNatClampNeg (m 66 34)) (v4 + ((it_sv m 79 (Int32.toNatClampNeg (m 66 34)) v4) 66 19))) 66 18)) + ((it_sv (it_sv m 79 (Int32.toNatClampNeg (m 66 34)) v4) 80 (Int32.toNatClampNeg (m 66 34)) (v4 + ((it_sv m 79 (Int32.toNatClampNeg (m 66 34)) v4) 66 19))) 66 20))) 66 21)) 66 23)) 84 (Int32.toNatClampNeg (m 66 34)) ((it_sv (it_sv (it_sv (it_sv (it_sv m 79 (Int32.toNatClampNeg (m 66 34)) v4) 80 (Int32.toNatClampNeg (m 66 34)) (v4 + ((it_sv m 79 (Int32.toNatClampNeg (m 66 34)) v4) 66 19))) 81 (Int32.toNatClampNeg (m 66 34)) ((v4 + ((it_sv (it_sv m 79 (Int32.toNatClampNeg (m 66 34)) v4) 80 (Int32.toNatClampNeg (m 66 34)) (v4 + ((it_sv m 79 (Int32.toNatClampNeg (m 66 34)) v4) 66 19))) 66 18)) + ((it_sv (it_sv m 79 (Int32.toNatClampNeg (m 66 34)) v4) 80 (Int32.toNatClampNeg (m 66 34)) (v4 + ((it_sv m 79 (Int32.toNatClampNeg (m 66 34)) v4) 66 19))) 66 20))) 82 (Int32.toNatClampNeg (m 66 34)) ((it_sv (it_sv (it_sv m 79 (Int32.toNatClampNeg (m 66 34)) v4) 80 (Int32.toNatClampNeg (m 66 34)) (v4 + ((it_sv m 79 (Int32.toNatClampNeg (m 66 34)) v4) 66 19))) 81 (Int32.toNatClampNeg (m 66 34)) ((v4 + ((it_sv (it_sv m 79 (Int32.toNatClampNeg (m 66 34)) v4) 80 (Int32.toNatClampNeg (m 66 34)) (v4 + ((it_sv m 79 (Int32.toNatClampNeg (m 66 34)) v4) 66 19))) 66 18)) + ((it_sv (it_sv m 79 (Int32.toNatClampNeg (m 66 34)) v4) 80 (Int32.toNatClampNeg (m 66 34)) (v4 + ((it_sv m 79 (Int32.toNatClampNeg (m 66 34)) v4) 66 19))) 66 20))) 66 21)) 83 (Int32.toNatClampNeg (m 66 34)) ((it_sv (it_sv (it_sv (it_sv m 79 (Int32.toNatClampNeg (m 66 34)) v4) 80 (Int32.toNatClampNeg (m 66 34)) (v4 + ((it_sv m 79 (Int32.toNatClampNeg (m 66 34)) v4) 66 19))) 81 (Int32.toNatClampNeg (m 66 34)) ((v4 + ((it_sv (it_sv m 79 (Int32.toNatClampNeg (m 66 34)) v4) 80 (Int32.toNatClampNeg (m 66 34)) (v4 + ((it_sv m 79 (Int32.toNatClampNeg (m 66 34)) v4) 66 19))) 66 18)) + ((it_sv (it_sv m 79 (Int32.toNatClampNeg (m 66 34)) v4) 80 (Int32.toNatClampNeg (m 66 34)) (v4 + ((it_sv m 79 (Int32.toNatClampNeg (m 66 34)) v4) 66 19))) 66 20))) 82 (Int32.toNatClampNeg (m 66 34)) ((it_sv (it_sv (it_sv m 79 (Int32.toNatClampNeg (m 66 34)) v4) 80 (Int32.toNatClampNeg (m 66 34)) (v4 + ((it_sv m 79 (Int32.toNatClampNeg (m 66 34)) v4) 66 19))) 81 (Int32.toNatClampNeg (m 66 34)) ((v4 + ((it_sv (it_sv m 79 (Int32.toNatClampNeg (m 66 34)) v4) 80 (Int32.toNatClampNeg (m 66 34)) (v4 + ((it_sv m 79 (Int32.toNatClampNeg (m 66 34)) v4) 66 19))) 66 18)) + ((it_sv (it_sv m 79 (Int32.toNatClampNeg (m 66 34)) v4) 80 (Int32.toNatClampNeg (m 66 34)) (v4 + ((it_sv m 79 (Int32.toNatClampNeg (m 66 34)) v4) 66 19))) 66 20))) 66 21)) 66 23)) 66 24)) 66 25)) 66 26)) 87 (Int32.toNatClampNeg (m 66 34)) ((it_sv (it_sv (it_sv (it_sv (it_sv (it_sv (it_sv (it_sv m 79 (Int32.toNatClampNeg (m 66 34)) v4) 80 (Int32.toNatClampNeg (m 66 34)) (v4 + ((it_sv m 79 (Int32.toNatClampNeg (m 66 34)) v4) 66 19))) 81 (Int32.toNatClampNeg (m 66 34)) ((v4 + ((it_sv (it_sv m 79 (Int32.toNatClampNeg (m 66 34)) v4) 80 (Int32.toNatClampNeg (m 66 34)) (v4 + ((it_sv m 79 (Int32.toNatClampNeg (m 66 34)) v4) 66 19))) 66 18)) + ((it_sv (it_sv m 79 (Int32.toNatClampNeg (m 66 34)) v4) 80 (Int32.toNatClampNeg (m 66 34)) (v4 + ((it_sv m 79 (Int32.toNatClampNeg (m 66 34)) v4) 66 19))) 66 20))) 82 (Int32.toNatClampNeg (m 66 34)) ((it_sv (it_sv (it_sv m 79 (Int32.toNatClampNeg (m 66 34)) v4) 80 (Int32.toNatClampNeg (m 66 34)) (v4 + ((it_sv m 79 (Int32.toNatClampNeg (m 66 34)) v4) 66 19))) 81 (Int32.toNatClampNeg (m 66 34)) ((v4 + ((it_sv (it_sv m 79 (Int32.toNatClampNeg (m 66 34)) v4) 80 (Int32.toNatClampNeg (m 66 34)) (v4 + ((it_sv m 79 (Int32.toNatClampNeg (m 66 34)) v4) 66 19))) 66 18)) + ((it_sv (it_sv m 79 (Int32.toNatClampNeg (m 66 34)) v4) 80 (Int32.toNatClampNeg (m 66 34)) (v4 + ((it_sv m 79 (Int32.toNatClampNeg (m 66 34)) v4) 66 19))) 66 20))) 66 21)) 83 (Int32.toNatClampNeg (m 66 34)) ((it_sv (it_sv (it_sv (it_sv m 79 (Int32.toNatClampNeg (m 66 34)) v4) 80 (Int32.toNatClampNeg (m 66 34)) (v4 + ((it_sv m 79 (Int32.toNatClampNeg (m 66 34)) v4) 66 19))) 81 (Int32.toNatClampNeg (m 66 34)) ((v4 + ((it_sv (it_sv m 79 (Int32.toNatClampNeg (m 66 34)) v4) 80 (Int32.toNatClampNeg (m 66 34)) (v4 + ((it_sv m 79 (Int32.toNatClampNeg (m 66 34)) v4) 66 19))) 66 18)) + ((it_sv (it_sv m 79 (Int32.toNatClampNeg (m 66 34)) v4) 80 (Int32.toNatClampNeg (m 66 34)) (v4 + ((it_sv m 79 (Int32.toNatClampNeg (m 66 34)) v4) 66 19))) 66 20))) 82 (Int32.toNatClampNeg (m 66 34)) ((it_sv (it_sv (it_sv m 79 (Int32.toNatClampNeg (m 66 34)) v4) 80 (Int32.toNatClampNeg (m 66 34)) (v4 + ((it_sv m 79 (Int32.toNatClampNeg (m 66 34)) v4) 66 19))) 81 (Int32.toNatClampNeg (m 66 34)) ((v4 + ((it_sv (it_sv m 79 (Int32.toNatClampNeg (m 66 34)) v4) 80 (Int32.toNatClampNeg (m 66 34)) (v4 + ((it_sv m 79 (Int32.toNatClampNeg (m 66 34)) v4) 66 19))) 66 18)) + ((it_sv (it_sv m 79 (Int32.toNatClampNeg (m 66 34)) v4) 80 (Int32.toNatClampNeg (m 66 34)) (v4 + ((it_sv m 79 (Int32.toNatClampNeg (m 66 34)) v4) 66 19))) 66 20))) 66 21)) 66 23)) 84 (Int32.toNatClampNeg (m 66 34)) ((it_sv (it_sv (it_sv (it_sv (it_sv m 79 (Int32.toNatClampNeg (m 66 34)) v4) 80 (Int32.toNatClampNeg (m 66 34)) (v4 + ((it_sv m 79 (Int32.toNatClampNeg (m 66 34)) v4) 66 19))) 81 (Int32.toNatClampNeg (m 66 34)) ((v4 + ((it_sv (it_sv m 79 (Int32.toNatClampNeg (m 66 34)) v4) 80 (Int32.toNatClampNeg (m 66 34)) (v4 + ((it_sv m 79 (Int32.toNatClampNeg (m 66 34)) v4) 66 19))) 66 18)) + ((it_sv (it_sv m 79 (Int32.toNatClampNeg (m 66 34)) v4) 80 (Int32.toNatClampNeg (m 66 34)) (v4 + ((it_sv m 79 (Int32.toNatClampNeg (m 66 34)) v4) 66 19))) 66 20))) 82 (Int32.toNatClampNeg (m 66 34)) ((it_sv (it_sv (it_sv m 79 (Int32.toNatClampNeg (m 66 34)) v4) 80 (Int32.toNatClampNeg (m 66 34)) (v4 + ((it_sv m 79 (Int32.toNatClampNeg (m 66 34)) v4) 66 19))) 81 (Int32.toNatClampNeg (m 66 34)) ((v4 + ((it_sv (it_sv m 79 (Int32.toNatClampNeg (m 66 34)) v4) 80 (Int32.toNatClampNeg (m 66 34)) (v4 + ((it_sv m 79 (Int32.toNatClampNeg (m 66 34)) v4) 66 19))) 66 18)) + ((it_sv (it_sv m 79 (Int32.toNatClampNeg (m 66 34)) v4) 80 (Int32.toNatClampNeg (m 66 34)) (v4 + ((it_sv m 79 (Int32.toNatClampNeg (m 66 34)) v4) 66 19))) 66 20))) 66 21)) 83 (Int32.toNatClampNeg (m 66 34)) ((it_sv (it_sv (it_sv (it_sv m 79 (Int32.toNatClampNeg (m 66 34)) v4) 80 (Int32.toNatClampNeg (m 66 34)) (v4 + ((it_sv m 79 (Int32.toNatClampNeg (m 66 34)) v4) 66 19))) 81 (Int32.toNatClampNeg (m 66 34)) ((v4 + ((it_sv (it_sv m 79 (Int32.toNatClampNeg (m 66 34)) v4) 80 (Int32.toNatClampNeg (m 66 34)) (v4 + ((it_sv m 79 (Int32.toNatClampNeg (m 66 34)) v4) 66 19))) 66 18)) + ((it_sv (it_sv m 79 (Int32.toNatClampNeg (m 66 34)) v4) 80 (Int32.toNatClampNeg (m 66 34)) (v4 + ((it_sv m 79 (Int32.toNatClampNeg (m 66 34)) v4) 66 19))) 66 20))) 82 (Int32.toNatClampNeg (m 66 34)) ((it_sv (it_sv (it_sv m 79 (Int32.toNatClampNeg (m 66 34)) v4) 80 (Int32.toNatClampNeg (m 66 34)) (v4 + ((it_sv m 79 (Int32.toNatClampNeg (m 66 34)) v4) 66 19))) 81 (Int32.toNatClampNeg (m 66 34)) ((v4 + ((it_sv (it_sv m 79 (Int32.toNatClampNeg (m 66 34)) v4) 80 (Int32.toNatClampNeg (m 66 34)) (v4 + ((it_sv m 79 (Int32.toNatClampNeg (m 66 34)) v4) 66 19))) 66 18)) + ((it_sv (it_sv m 79 (Int32.toNatClampNeg (m 66 34)) v4) 80 (Int32.toNatClampNeg (m 66 34)) (v4 + ((it_sv m 79 (Int32.toNatClampNeg (m 66 34)) v4) 66 19))) 66 20))) 66 21)) 66 23)) 66 24)) 85 (Int32.toNatClampNeg (m 66 34)) ((it_sv (it_sv (it_sv (it_sv (it_sv (it_sv m 79 (Int32.toNatClampNeg (m 66 34)) v4) 80 (Int32.toNatClampNeg (m 66 34)) (v4 + ((it_sv m 79 (Int32.toNatClampNeg (m 66 34)) v4) 66 19))) 81 (Int32.toNatClampNeg (m 66 34)) ((v4 + ((it_sv (it_sv m 79 (Int32.toNatClampNeg (m 66 34)) v4) 80 (Int32.toNatClampNeg (m 66 34)) (v4 + ((it_sv m 79 (Int32.toNatClampNeg (m 66 34)) v4) 66 19))) 66 18)) + ((it_sv (it_sv m 79 (Int32.toNatClampNeg (m 66 34)) v4) 80 (Int32.toNatClampNeg (m 66 34)) (v4 + ((it_sv m 79 (Int32.toNatClampNeg (m 66 34)) v4) 66 19))) 66 20))) 82 (Int32.toNatClampNeg (m 66 34)) ((it_sv (it_sv (it_sv m 79 (Int32.toNatClampNeg (m 66 34)) v4) 80 (Int32.toNatClampNeg (m 66 34)) (v4 + ((it_sv m 79 (Int32.toNatClampNeg (m 66 34)) v4) 66 19))) 81 (Int32.toNatClampNeg (m 66 34)) ((v4 + ((it_sv (it_sv m 79 (Int32.toNatClampNeg (m 66 34)) v4) 80 (Int32.toNatClampNeg (m 66 34)) (v4 + ((it_sv m 79 (Int32.toNatClampNeg (m 66 34)) v4) 66 19))) 66 18)) + ((it_sv (it_sv m 79 (Int32.toNatClampNeg (m 66 34)) v4) 80 (Int32.toNatClampNeg (m 66 34)) (v4 + ((it_sv m 79 (Int32.toNatClampNeg (m 66 34)) v4) 66 19))) 66 20))) 66 21)) 83 (Int32.toNatClampNeg (m 66 34)) ((it_sv (it_sv (it_sv (it_sv m 79 (Int32.toNatClampNeg (m 66 34)) v4) 80 (Int32.toNatClampNeg (m 66 34)) (v4 + ((it_sv m 79 (Int32.toNatClampNeg (m 66 34)) v4) 66 19))) 81 (Int32.toNatClampNeg (m 66 34)) ((v4 + ((it_sv (it_sv m 79 (Int32.toNatClampNeg (m 66 34)) v4) 80 (Int32.toNatClampNeg (m 66 34)) (v4 + ((it_sv m 79 (Int32.toNatClampNeg (m 66 34)) v4) 66 19))) 66 18)) + ((it_sv (it_sv m 79 (Int32.toNatClampNeg (m 66 34)) v4) 80 (Int32.toNatClampNeg (m 66 34)) (v4 + ((it_sv m 79 (Int32.toNatClampNeg (m 66 34)) v4) 66 19))) 66 20))) 82 (Int32.toNatClampNeg (m 66 34)) ((it_sv (it_sv (it_sv m 79 (Int32.toNatClampNeg (m 66 34)) v4) 80 (Int32.toNatClampNeg (m 66 34)) (v4 + ((it_sv m 79 (Int32.toNatClampNeg (m 66 34)) v4) 66 19))) 81 (Int32.toNatClampNeg (m 66 34)) ((v4 + ((it_sv (it_sv m 79 (Int32.toNatClampNeg (m 66 34)) v4) 80 (Int32.toNatClampNeg (m 66 34)) (v4 + ((it_sv m 79 (Int32.toNatClampNeg (m 66 34)) v4) 66 19))) 66 18)) + ((it_sv (it_sv m 79 (Int32.toNatClampNeg (m 66 34)) v4) 80 (Int32.toNatClampNeg (m 66 34)) (v4 + ((it_sv m 79 (Int32.toNatClampNeg (m 66 34)) v4) 66 19))) 66 20))) 66 21)) 66 23)) 84 (Int32.toNatClampNeg (m 66 34)) ((it_sv (it_sv (it_sv (it_sv (it_sv m 79 (Int32.toNatClampNeg (m 66 34)) v4) 80 (Int32.toNatClampNeg (m 66 34)) (v4 + ((it_sv m 79 (Int32.toNatClampNeg (m 66 34)) v4) 66 19))) 81 (Int32.toNatClampNeg (m 66 34)) ((v4 + ((it_sv (it_sv m 79 (Int32.toNatClampNeg (m 66 34)) v4) 80 (Int32.toNatClampNeg (m 66 34)) (v4 + ((it_sv m 79 (Int32.toNatClampNeg (m 66 34)) v4) 66 19))) 66 18)) + ((it_sv (it_sv m 79 (Int32.toNatClampNeg (m 66 34)) v4) 80 (Int32.toNatClampNeg (m 66 34)) (v4 + ((it_sv m 79 (Int32.toNatClampNeg (m 66 34)) v4) 66 19))) 66 20))) 82 (Int32.toNatClampNeg (m 66 34)) ((it_sv (it_sv (it_sv m 79 (Int32.toNatClampNeg (m 66 34)) v4) 80 (Int32.toNatClampNeg (m 66 34)) (v4 + ((it_sv m 79 (Int32.toNatClampNeg (m 66 34)) v4) 66 19))) 81 (Int32.toNatClampNeg (m 66 34)) ((v4 + ((it_sv (it_sv m 79 (Int32.toNatClampNeg (m 66 34)) v4) 80 (Int32.toNatClampNeg (m 66 34)) (v4 + ((it_sv m 79 (Int32.toNatClampNeg (m 66 34)) v4) 66 19))) 66 18)) + ((it_sv (it_sv m 79 (Int32.toNatClampNeg (m 66 34)) v4) 80 (Int32.toNatClampNeg (m 66 34)) (v4 + ((it_sv m 79 (Int32.toNatClampNeg (m 66 34)) v4) 66 19))) 66 20))) 66 21)) 83 (Int32.toNatClampNeg (m 66 34)) ((it_sv (it_sv (it_sv (it_sv m 79 (Int32.toNatClampNeg (m 66 34)) v4) 80 (Int32.toNatClampNeg (m 66 34)) (v4 + ((it_sv m 79 (Int32.toNatClampNeg (m 66 34)) v4) 66 19))) 81 (Int32.toNatClampNeg (m 66 34)) ((v4 + ((it_sv (it_sv m 79 (Int32.toNatClampNeg (m 66 34)) v4) 80 (Int32.toNatClampNeg (m 66 34)) (v4 + ((it_sv m 79 (Int32.toNatClampNeg (m 66 34)) v4) 66 19))) 66 18)) + ((it_sv (it_sv m 79 (Int32.toNatClampNeg (m 66 34)) v4) 80 (Int32.toNatClampNeg (m 66 34)) (v4 + ((it_sv m 79 (Int32.toNatClampNeg (m 66 34)) v4) 66 19))) 66 20))) 82 (Int32.toNatClampNeg (m 66 34)) ((it_sv (it_sv (it_sv m 79 (Int32.toNatClampNeg (m 66 34)) v4) 80 (Int32.toNatClampNeg (m 66 34)) (v4 + ((it_sv m 79 (Int32.toNatClampNeg (m 66 34)) v4) 66 19))) 81 (Int32.toNatClampNeg (m 66 34)) ((v4 + ((it_sv (it_sv m 79 (Int32.toNatClampNeg (m 66 34)) v4) 80 (Int32.toNatClampNeg (m 66 34)) (v4 + ((it_sv m 79 (Int32.toNatClampNeg (m 66 34)) v4) 66 19))) 66 18)) + ((it_sv (it_sv m 79 (Int32.toNatClampNeg (m 66 34)) v4) 80 (Int32.toNatClampNeg (m 66 34)) (v4 + ((it_sv m 79 (Int32.toNatClampNeg (m 66 34)) v4) 66 19))) 66 20))) 66 21)) 66 23)) 66 24)) 66 25)) 86 (Int32.toNatClampNeg (m 66 34)) ((it_sv (it_sv (it_sv (it_sv (it_sv (it_sv (it_sv m 79 (Int32.toNatClampNeg (m 66 34)) v4) 80 (Int32.toNatClampNeg (m 66 34)) (v4 + ((it_sv m 79 (Int32.toNatClampNeg (m 66 34)) v4) 66 19))) 81 (Int32.toNatClampNeg (m 66 34)) ((v4 + ((it_sv (it_sv m 79 (Int32.toNatClampNeg (m 66 34)) v4) 80 (Int32.toNatClampNeg (m 66 34)) (v4 + ((it_sv m 79 (Int32.toNatClampNeg (m 66 34)) v4) 66 19))) 66 18)) + ((it_sv (it_sv m 79 (Int32.toNatClampNeg (m 66 34)) v4) 80 (Int32.toNatClampNeg (m 66 34)) (v4 + ((it_sv m 79 (Int32.toNatClampNeg (m 66 34)) v4) 66 19))) 66 20))) 82 (Int32.toNatClampNeg (m 66 34)) ((it_sv (it_sv (it_sv m 79 (Int32.toNatClampNeg (m 66 34)) v4) 80 (Int32.toNatClampNeg (m 66 34)) (v4 + ((it_sv m 79 (Int32.toNatClampNeg (m 66 34)) v4) 66 19))) 81 (Int32.toNatClampNeg (m 66 34)) ((v4 + ((it_sv (it_sv m 79 (Int32.toNatClampNeg (m 66 34)) v4) 80 (Int32.toNatClampNeg (m 66 34)) (v4 + ((it_sv m 79 (Int32.toNatClampNeg (m 66 34)) v4) 66 19))) 66 18)) + ((it_sv (it_sv m 79 (Int32.toNatClampNeg (m 66 34)) v4) 80 (Int32.toNatClampNeg (m 66 34)) (v4 + ((it_sv m 79 (Int32.toNatClampNeg (m 66 34)) v4) 66 19))) 66 20))) 66 21)) 83 (Int32.toNatClampNeg (m 66 34)) ((it_sv (it_sv (it_sv (it_sv m 79 (Int32.toNatClampNeg (m 66 34)) v4) 80 (Int32.toNatClampNeg (m 66 34)) (v4 + ((it_sv m 79 (Int32.toNatClampNeg (m 66 34)) v4) 66 19))) 81 (Int32.toNatClampNeg (m 66 34)) ((v4 + ((it_sv (it_sv m 79 (Int32.toNatClampNeg (m 66 34)) v4) 80 (Int32.toNatClampNeg (m 66 34)) (v4 + ((it_sv m 79 (Int32.toNatClampNeg (m 66 34)) v4) 66 19))) 66 18)) + ((it_sv (it_sv m 79 (Int32.toNatClampNeg (m 66 34)) v4) 80 (Int32.toNatClampNeg (m 66 34)) (v4 + ((it_sv m 79 (Int32.toNatClampNeg (m 66 34)) v4) 66 19))) 66 20))) 82 (Int32.toNatClampNeg (m 66 34)) ((it_sv (it_sv (it_sv m 79 (Int32.toNatClampNeg (m 66 34)) v4) 80 (Int32.toNatClampNeg (m 66 34)) (v4 + ((it_sv m 79 (Int32.toNatClampNeg (m 66 34)) v4) 66 19))) 81 (Int32.toNatClampNeg (m 66 34)) ((v4 + ((it_sv (it_sv m 79 (Int32.toNatClampNeg (m 66 34)) v4) 80 (Int32.toNatClampNeg (m 66 34)) (v4 + ((it_sv m 79 (Int32.toNatClampNeg (m 66 34)) v4) 66 19))) 66 18)) + ((it_sv (it_sv m 79 (Int32.toNatClampNeg (m 66 34)) v4) 80 (Int32.toNatClampNeg (m 66 34)) (v4 + ((it_sv m 79 (Int32.toNatClampNeg (m 66 34)) v4) 66 19))) 66 20))) 66 21)) 66 23)) 84 (Int32.toNatClampNeg (m 66 34)) ((it_sv (it_sv (it_sv (it_sv (it_sv m 79 (Int32.toNatClampNeg (m 66 34)) v4) 80 (Int32.toNatClampNeg (m 66 34)) (v4 + ((it_sv m 79 (Int32.toNatClampNeg (m 66 34)) v4) 66 19))) 81 (Int32.toNatClampNeg (m 66 34)) ((v4 + ((it_sv (it_sv m 79 (Int32.toNatClampNeg (m 66 34)) v4) 80 (Int32.toNatClampNeg (m 66 34)) (v4 + ((it_sv m 79 (Int32.toNatClampNeg (m 66 34)) v4) 66 19))) 66 18)) + ((it_sv (it_sv m 79 (Int32.toNatClampNeg (m 66 34)) v4) 80 (Int32.toNatClampNeg (m 66 34)) (v4 + ((it_sv m 79 (Int32.toNatClampNeg (m 66 34)) v4) 66 19))) 66 20))) 82 (Int32.toNatClampNeg (m 66 34)) ((it_sv (it_sv (it_sv m 79 (Int32.toNatClampNeg (m 66 34)) v4) 80 (Int32.toNatClampNeg (m 66 34)) (v4 + ((it_sv m 79 (Int32.toNatClampNeg (m 66 34)) v4) 66 19))) 81 (Int32.toNatClampNeg (m 66 34)) ((v4 + ((it_sv (it_sv m 79 (Int32.toNatClampNeg (m 66 34)) v4) 80 (Int32.toNatClampNeg (m 66 34)) (v4 + ((it_sv m 79 (Int32.toNatClampNeg (m 66 34)) v4) 66 19))) 66 18)) + ((it_sv (it_sv m 79 (Int32.toNatClampNeg (m 66 34)) v4) 80 (Int32.toNatClampNeg (m 66 34)) (v4 + ((it_sv m 79 (Int32.toNatClampNeg (m 66 34)) v4) 66 19))) 66 20))) 66 21)) 83 (Int32.toNatClampNeg (m 66 34)) ((it_sv (it_sv (it_sv (it_sv m 79 (Int32.toNatClampNeg (m 66 34)) v4) 80 (Int32.toNatClampNeg (m 66 34)) (v4 + ((it_sv m 79 (Int32.toNatClampNeg (m 66 34)) v4) 66 19))) 81 (Int32.toNatClampNeg (m 66 34)) ((v4 + ((it_sv (it_sv m 79 (Int32.toNatClampNeg (m 66 34)) v4) 80 (Int32.toNatClampNeg (m 66 34)) (v4 + ((it_sv m 79 (Int32.toNatClampNeg (m 66 34)) v4) 66 19))) 66 18)) + ((it_sv (it_sv m 79 (Int32.toNatClampNeg (m 66 34)) v4) 80 (Int32.toNatClampNeg (m 66 34)) (v4 + ((it_sv m 79 (Int32.toNatClampNeg (m 66 34)) v4) 66 19))) 66 20))) 82 (Int32.toNatClampNeg (m 66 34)) ((it_sv (it_sv (it_sv m 79 (Int32.toNatClampNeg (m 66 34)) v4) 80 (Int32.toNatClampNeg (m 66 34)) (v4 + ((it_sv m 79 (Int32.toNatClampNeg (m 66 34)) v4) 66 19))) 81 (Int32.toNatClampNeg (m 66 34)) ((v4 + ((it_sv (it_sv m 79 (Int32.toNatClampNeg (m 66 34)) v4) 80 (Int32.toNatClampNeg (m 66 34)) (v4 + ((it_sv m 79 (Int32.toNatClampNeg (m 66 34)) v4) 66 19))) 66 18)) + ((it_sv (it_sv m 79 (Int32.toNatClampNeg (m 66 34)) v4) 80 (Int32.toNatClampNeg (m 66 34)) (v4 + ((it_sv m 79 (Int32.toNatClampNeg (m 66 34)) v4) 66 19))) 66 20))) 66 21)) 66 23)) 66 24)) 85 (Int32.toNatClampNeg (m 66 34)) ((it_sv (it_sv (it_sv (it_sv (it_sv (it_sv m 79 (Int32.toNatClampNeg (m 66 34)) v4) 80 (Int32.toNatClampNeg (m 66 34)) (v4 + ((it_sv m 79 (Int32.toNatClampNeg (m 66 34)) v4) 66 19))) 81 (Int32.toNatClampNeg (m 66 34)) ((v4 + ((it_sv (it_sv m 79 (Int32.toNatClampNeg (m 66 34)) v4) 80 (Int32.toNatClampNeg (m 66 34)) (v4 + ((it_sv m 79 (Int32.toNatClampNeg (m 66 34)) v4) 66 19))) 66 18)) + ((it_sv (it_sv m 79 (Int32.toNatClampNeg (m 66 34)) v4) 80 (Int32.toNatClampNeg (m 66 34)) (v4 + ((it_sv m 79 (Int32.toNatClampNeg (m 66 34)) v4) 66 19))) 66 20))) 82 (Int32.toNatClampNeg (m 66 34)) ((it_sv (it_sv (it_sv m 79 (Int32.toNatClampNeg (m 66 34)) v4) 80 (Int32.toNatClampNeg (m 66 34)) (v4 + ((it_sv m 79 (Int32.toNatClampNeg (m 66 34)) v4) 66 19))) 81 (Int32.toNatClampNeg (m 66 34)) ((v4 + ((it_sv (it_sv m 79 (Int32.toNatClampNeg (m 66 34)) v4) 80 (Int32.toNatClampNeg (m 66 34)) (v4 + ((it_sv m 79 (Int32.toNatClampNeg (m 66 34)) v4) 66 19))) 66 18)) + ((it_sv (it_sv m 79 (Int32.toNatClampNeg (m 66 34)) v4) 80 (Int32.toNatClampNeg (m 66 34)) (v4 + ((it_sv m 79 (Int32.toNatClampNeg (m 66 34)) v4) 66 19))) 66 20))) 66 21)) 83 (Int32.toNatClampNeg (m 66 34)) ((it_sv (it_sv (it_sv (it_sv m 79 (Int32.toNatClampNeg (m 66 34)) v4) 80 (Int32.toNatClampNeg (m 66 34)) (v4 + ((it_sv m 79 (Int32.toNatClampNeg (m 66 34)) v4) 66 19))) 81 (Int32.toNatClampNeg (m 66 34)) ((v4 + ((it_sv (it_sv m 79 (Int32.toNatClampNeg (m 66 34)) v4) 80 (Int32.toNatClampNeg (m 66 34)) (v4 + ((it_sv m 79 (Int32.toNatClampNeg (m 66 34)) v4) 66 19))) 66 18)) + ((it_sv (it_sv m 79 (Int32.toNatClampNeg (m 66 34)) v4) 80 (Int32.toNatClampNeg (m 66 34)) (v4 + ((it_sv m 79 (Int32.toNatClampNeg (m 66 34)) v4) 66 19))) 66 20))) 82 (Int32.toNatClampNeg (m 66 34)) ((it_sv (it_sv (it_sv m 79 (Int32.toNatClampNeg (m 66 34)) v4) 80 (Int32.toNatClampNeg (m 66 34)) (v4 + ((it_sv m 79 (Int32.toNatClampNeg (m 66 34)) v4) 66 19))) 81 (Int32.toNatClampNeg (m 66 34)) ((v4 + ((it_sv (it_sv m 79 (Int32.toNatClampNeg (m 66 34)) v4) 80 (Int32.toNatClampNeg (m 66 34)) (v4 + ((it_sv m 79 (Int32.toNatClampNeg (m 66 34)) v4) 66 19))) 66 18)) + ((it_sv (it_sv m 79 (Int32.toNatClampNeg (m 66 34)) v4) 80 (Int32.toNatClampNeg (m 66 34)) (v4 + ((it_sv m 79 (Int32.toNatClampNeg (m 66 34)) v4) 66 19))) 66 20))) 66 21)) 66 23)) 84 (Int32.toNatClampNeg (m 66 34)) ((it_sv (it_sv (it_sv (it_sv (it_sv m 79 (Int32.toNatClampNeg (m 66 34)) v4) 80 (Int32.toNatClampNeg (m 66 34)) (v4 + ((it_sv m 79 (Int32.toNatClampNeg (m 66 34)) v4) 66 19))) 81 (Int32.toNatClampNeg (m 66 34)) ((v4 + ((it_sv (it_sv m 79 (Int32.toNatClampNeg (m 66 34)) v4) 80 (Int32.toNatClampNeg (m 66 34)) (v4 + ((it_sv m 79 (Int32.toNatClampNeg (m 66 34)) v4) 66 19))) 66 18)) + ((it_sv (it_sv m 79 (Int32.toNatClampNeg (m 66 34)) v4) 80 (Int32.toNatClampNeg (m 66 34)) (v4 + ((it_sv m 79 (Int32.toNatClampNeg (m 66 34)) v4) 66 19))) 66 20))) 82 (Int32.toNatClampNeg (m 66 34)) ((it_sv (it_sv (it_sv m 79 (Int32.toNatClampNeg (m 66 34)) v4) 80 (Int32.toNatClampNeg (m 66 34)) (v4 + ((it_sv m 79 (Int32.toNatClampNeg (m 66 34)) v4) 66 19))) 81 (Int32.toNatClampNeg (m 66 34)) ((v4 + ((it_sv (it_sv m 79 (Int32.toNatClampNeg (m 66 34)) v4) 80 (Int32.toNatClampNeg (m 66 34)) (v4 + ((it_sv m 79 (Int32.toNatClampNeg (m 66 34)) v4) 66 19))) 66 18)) + ((it_sv (it_sv m 79 (Int32.toNatClampNeg (m 66 34)) v4) 80 (Int32.toNatClampNeg (m 66 34)) (v4 + ((it_sv m 79 (Int32.toNatClampNeg (m 66 34)) v4) 66 19))) 66 20))) 66 21)) 83 (Int32.toNatClampNeg (m 66 34)) ((it_sv (it_sv (it_sv (it_sv m 79 (Int32.toNatClampNeg (m 66 34)) v4) 80 (Int32.toNatClampNeg (m 66 34)) (v4 + ((it_sv m 79 (Int32.toNatClampNeg (m 66 34)) v4) 66 19))) 81 (Int32.toNatClampNeg (m 66 34)) ((v4 + ((it_sv (it_sv m 79 (Int32.toNatClampNeg (m 66 34)) v4) 80 (Int32.toNatClampNeg (m 66 34)) (v4 + ((it_sv m 79 (Int32.toNatClampNeg (m 66 34)) v4) 66 19))) 66 18)) + ((it_sv (it_sv m 79 (Int32.toNatClampNeg (m 66 34)) v4) 80 (Int32.toNatClampNeg (m 66 34)) (v4 + ((it_sv m 79 (Int32.toNatClampNeg (m 66 34)) v4) 66 19))) 66 20))) 82 (Int32.toNatClampNeg (m 66 34)) ((it_sv (it_sv (it_sv m 79 (Int32.toNatClampNeg (m 66 34)) v4) 80 (Int32.toNatClampNeg (m 66 34)) (v4 + ((it_sv m 79 (Int32.toNatClampNeg (m 66 34)) v4) 66 19))) 81 (Int32.toNatClampNeg (m 66 34)) ((v4 + ((it_sv (it_sv m 79 (Int32.toNatClampNeg (m 66 34)) v4) 80 (Int32.toNatClampNeg (m 66 34)) (v4 + ((it_sv m 79 (Int32.toNatClampNeg (m 66 34)) v4) 66 19))) 66 18)) + ((it_sv (it_sv m 79 (Int32.toNatClampNeg (m 66 34)) v4) 80 (Int32.toNatClampNeg (m 66 34)) (v4 + ((it_sv m 79 (Int32.toNatClampNeg (m 66 34)) v4) 66 19))) 66 20))) 66 21)) 66 23)) 66 24)) 66 25)) 66 26)) 66 27)) 88 (Int32.toNatClampNeg (m 66 34)) ((it_sv (it_sv (it_sv (it_sv (it_sv (it_sv (it_sv (it_sv (it_sv m 79 (Int32.toNatClampNeg (m 66 34)) v4) 80 (Int32.toNatClampNeg (m 66 34)) (v4 + ((it_sv m 79 (Int32.toNatClampNeg (m 66 34)) v4) 66 19))) 81 (Int32.toNatClampNeg (m 66 34)) ((v4 + ((it_sv (it_sv m 79 (Int32.toNatClampNeg (m 66 34)) v4) 80 (Int32.toNatClampNeg (m 66 34)) (v4 + ((it_sv m 79 (Int32.toNatClampNeg (m 66 34)) v4) 66 19))) 66 18)) + ((it_sv (it_sv m 79 (Int32.toNatClampNeg (m 66 34)) v4) 80 (Int32.toNatClampNeg (m 66 34)) (v4 + ((it_sv m 79 (Int32.toNatClampNeg (m 66 34)) v4) 66 19))) 66 20))) 82 (Int32.toNatClampNeg (m 66 34)) ((it_sv (it_sv (it_sv m 79 (Int32.toNatClampNeg (m 66 34)) v4) 80 (Int32.toNatClampNeg (m 66 34)) (v4 + ((it_sv m 79 (Int32.toNatClampNeg (m 66 34)) v4) 66 19))) 81 (Int32.toNatClampNeg (m 66 34)) ((v4 + ((it_sv (it_sv m 79 (Int32.toNatClampNeg (m 66 34)) v4) 80 (Int32.toNatClampNeg (m 66 34)) (v4 + ((it_sv m 79 (Int32.toNatClampNeg (m 66 34)) v4) 66 19))) 66 18)) + ((it_sv (it_sv m 79 (Int32.toNatClampNeg (m 66 34)) v4) 80 (Int32.toNatClampNeg (m 66 34)) (v4 + ((it_sv m 79 (Int32.toNatClampNeg (m 66 34)) v4) 66 19))) 66 20))) 66 21)) 83 (Int32.toNatClampNeg (m 66 34)) ((it_sv (it_sv (it_sv (it_sv m 79 (Int32.toNatClampNeg (m 66 34)) v4) 80 (Int32.toNatClampNeg (m 66 34)) (v4 + ((it_sv m 79 (Int32.toNatClampNeg (m 66 34)) v4) 66 19))) 81 (Int32.toNatClampNeg (m 66 34)) ((v4 + ((it_sv (it_sv m 79 (Int32.toNatClampNeg (m 66 34)) v4) 80 (Int32.toNatClampNeg (m 66 34)) (v4 + ((it_sv m 79 (Int32.toNatClampNeg (m 66 34)) v4) 66 19))) 66 18)) + ((it_sv (it_sv m 79 (Int32.toNatClampNeg (m 66 34)) v4) 80 (Int32.toNatClampNeg (m 66 34)) (v4 + ((it_sv m 79 (Int32.toNatClampNeg (m 66 34)) v4) 66 19))) 66 20))) 82 (Int32.toNatClampNeg (m 66 34)) ((it_sv (it_sv (it_sv m 79 (Int32.toNatClampNeg (m 66 34)) v4) 80 (Int32.toNatClampNeg (m 66 34)) (v4 + ((it_sv m 79 (Int32.toNatClampNeg (m 66 34)) v4) 66 19))) 81 (Int32.toNatClampNeg (m 66 34)) ((v4 + ((it_sv (it_sv m 79 (Int32.toNatClampNeg (m 66 34)) v4) 80 (Int32.toNatClampNeg (m 66 34)) (v4 + ((it_sv m 79 (Int32.toNatClampNeg (m 66 34)) v4) 66 19))) 66 18)) + ((it_sv (it_sv m 79 (Int32.toNatClampNeg (m 66 34)) v4) 80 (Int32.toNatClampNeg (m 66 34)) (v4 + ((it_sv m 79 (Int32.toNatClampNeg (m 66 34)) v4) 66 19))) 66 20))) 66 21)) 66 23)) 84 (Int32.toNatClampNeg (m 66 34)) ((it_sv (it_sv (it_sv (it_sv (it_sv m 79 (Int32.toNatClampNeg (m 66 34)) v4) 80 (Int32.toNatClampNeg (m 66 34)) (v4 + ((it_sv m 79 (Int32.toNatClampNeg (m 66 34)) v4) 66 19))) 81 (Int32.toNatClampNeg (m 66 34)) ((v4 + ((it_sv (it_sv m 79 (Int32.toNatClampNeg (m 66 34)) v4) 80 (Int32.toNatClampNeg (m 66 34)) (v4 + ((it_sv m 79 (Int32.toNatClampNeg (m 66 34)) v4) 66 19))) 66 18)) + ((it_sv (it_sv m 79 (Int32.toNatClampNeg (m 66 34)) v4) 80 (Int32.toNatClampNeg (m 66 34)) (v4 + ((it_sv m 79 (Int32.toNatClampNeg (m 66 34)) v4) 66 19))) 66 20))) 82 (Int32.toNatClampNeg (m 66 34)) ((it_sv (it_sv (it_sv m 79 (Int32.toNatClampNeg (m 66 34)) v4) 80 (Int32.toNatClampNeg (m 66 34)) (v4 + ((it_sv m 79 (Int32.toNatClampNeg (m 66 34)) v4) 66 19))) 81 (Int32.toNatClampNeg (m 66 34)) ((v4 + ((it_sv (it_sv m 79 (Int32.toNatClampNeg (m 66 34)) v4) 80 (Int32.toNatClampNeg (m 66 34)) (v4 + ((it_sv m 79 (Int32.toNatClampNeg (m 66 34)) v4) 66 19))) 66 18)) + ((it_sv (it_sv m 79 (Int32.toNatClampNeg (m 66 34)) v4) 80 (Int32.toNatClampNeg (m 66 34)) (v4 + ((it_sv m 79 (Int32.toNatClampNeg (m 66 34)) v4) 66 19))) 66 20))) 66 21)) 83 (Int32.toNatClampNeg (m 66 34)) ((it_sv (it_sv (it_sv (it_sv m 79 (Int32.toNatClampNeg (m 66 34)) v4) 80 (Int32.toNatClampNeg (m 66 34)) (v4 + ((it_sv m 79 (Int32.toNatClampNeg (m 66 34)) v4) 66 19))) 81 (Int32.toNatClampNeg (m 66 34)) ((v4 + ((it_sv (it_sv m 79 (Int32.toNatClampNeg (m 66 34)) v4) 80 (Int32.toNatClampNeg (m 66 34)) (v4 + ((it_sv m 79 (Int32.toNatClampNeg (m 66 34)) v4) 66 19))) 66 18)) + ((it_sv (it_sv m 79 (Int32.toNatClampNeg (m 66 34)) v4) 80 (Int32.toNatClampNeg (m 66 34)) (v4 + ((it_sv m 79 (Int32.toNatClampNeg (m 66 34)) v4) 66 19))) 66 20))) 82 (Int32.toNatClampNeg (m 66 34)) ((it_sv (it_sv (it_sv m 79 (Int32.toNatClampNeg (m 66 34)) v4) 80 (Int32.toNatClampNeg (m 66 34)) (v4 + ((it_sv m 79 (Int32.toNatClampNeg (m 66 34)) v4) 66 19))) 81 (Int32.toNatClampNeg (m 66 34)) ((v4 + ((it_sv (it_sv m 79 (Int32.toNatClampNeg (m 66 34)) v4) 80 (Int32.toNatClampNeg (m 66 34)) (v4 + ((it_sv m 79 (Int32.toNatClampNeg (m 66 34)) v4) 66 19))) 66 18)) + ((it_sv (it_sv m 79 (Int32.toNatClampNeg (m 66 34)) v4) 80 (Int32.toNatClampNeg (m 66 34)) (v4 + ((it_sv m 79 (Int32.toNatClampNeg (m 66 34)) v4) 66 19))) 66 20))) 66 21)) 66 23)) 66 24)) 85 (Int32.toNatClampNeg (m 66 34)) ((it_sv (it_sv (it_sv (it_sv (it_sv (it_sv m 79 (Int32.toNatClampNeg (m 66 34)) v4) 80 (Int32.toNatClampNeg (m 66 34)) (v4 + ((it_sv m 79 (Int32.toNatClampNeg (m 66 34)) v4) 66 19))) 81 (Int32.toNatClampNeg (m 66 34)) ((v4 + ((it_sv (it_sv m 79 (Int32.toNatClampNeg (m 66 34)) v4) 80 (Int32.toNatClampNeg (m 66 34)) (v4 + ((it_sv m 79 (Int32.toNatClampNeg (m 66 34)) v4) 66 19))) 66 18)) + ((it_sv (it_sv m 79 (Int32.toNatClampNeg (m 66 34)) v4) 80 (Int32.toNatClampNeg (m 66 34)) (v4 + ((it_sv m 79 (Int32.toNatClampNeg (m 66 34)) v4) 66 19))) 66 20))) 82 (Int32.toNatClampNeg (m 66 34)) ((it_sv (it_sv (it_sv m 79 (Int32.toNatClampNeg (m 66 34)) v4) 80 (Int32.toNatClampNeg (m 66 34)) (v4 + ((it_sv m 79 (Int32.toNatClampNeg (m 66 34)) v4) 66 19))) 81 (Int32.toNatClampNeg (m 66 34)) ((v4 + ((it_sv (it_sv m 79 (Int32.toNatClampNeg (m 66 34)) v4) 80 (Int32.toNatClampNeg (m 66 34)) (v4 + ((it_sv m 79 (Int32.toNatClampNeg (m 66 34)) v4) 66 19))) 66 18)) + ((it_sv (it_sv m 79 (Int32.toNatClampNeg (m 66 34)) v4) 80 (Int32.toNatClampNeg (m 66 34)) (v4 + ((it_sv m 79 (Int32.toNatClampNeg (m 66 34)) v4) 66 19))) 66 20))) 66 21)) 83 (Int32.toNatClampNeg (m 66 34)) ((it_sv (it_sv (it_sv (it_sv m 79 (Int32.toNatClampNeg (m 66 34)) v4) 80 (Int32.toNatClampNeg (m 66 34)) (v4 + ((it_sv m 79 (Int32.toNatClampNeg (m 66 34)) v4) 66 19))) 81 (Int32.toNatClampNeg (m 66 34)) ((v4 + ((it_sv (it_sv m 79 (Int32.toNatClampNeg (m 66 34)) v4) 80 (Int32.toNatClampNeg (m 66 34)) (v4 + ((it_sv m 79 (Int32.toNatClampNeg (m 66 34)) v4) 66 19))) 66 18)) + ((it_sv (it_sv m 79 (Int32.toNatClampNeg (m 66 34)) v4) 80 (Int32.toNatClampNeg (m 66 34)) (v4 + ((it_sv m 79 (Int32.toNatClampNeg (m 66 34)) v4) 66 19))) 66 20))) 82 (Int32.toNatClampNeg (m 66 34)) ((it_sv (it_sv (it_sv m 79 (Int32.toNatClampNeg (m 66 34)) v4) 80 (Int32.toNatClampNeg (m 66 34)) (v4 + ((it_sv m 79 (Int32.toNatClampNeg (m 66 34)) v4) 66 19))) 81 (Int32.toNatClampNeg (m 66 34)) ((v4 + ((it_sv (it_sv m 79 (Int32.toNatClampNeg (m 66 34)) v4) 80 (Int32.toNatClampNeg (m 66 34)) (v4 + ((it_sv m 79 (Int32.toNatClampNeg (m 66 34)) v4) 66 19))) 66 18)) + ((it_sv (it_sv m 79 (Int32.toNatClampNeg (m 66 34)) v4) 80 (Int32.toNatClampNeg (m 66 34)) (v4 + ((it_sv m 79 (Int32.toNatClampNeg (m 66 34)) v4) 66 19))) 66 20))) 66 21)) 66 23)) 84 (Int32.toNatClampNeg (m 66 34)) ((it_sv (it_sv (it_sv (it_sv (it_sv m 79 (Int32.toNatClampNeg (m 66 34)) v4) 80 (Int32.toNatClampNeg (m 66 34)) (v4 + ((it_sv m 79 (Int32.toNatClampNeg (m 66 34)) v4) 66 19))) 81 (Int32.toNatClampNeg (m 66 34)) ((v4 + ((it_sv (it_sv m 79 (Int32.toNatClampNeg (m 66 34)) v4) 80 (Int32.toNatClampNeg (m 66 34)) (v4 + ((it_sv m 79 (Int32.toNatClampNeg (m 66 34)) v4) 66 19))) 66 18)) + ((it_sv (it_sv m 79 (Int32.toNatClampNeg (m 66 34)) v4) 80 (Int32.toNatClampNeg (m 66 34)) (v4 + ((it_sv m 79 (Int32.toNatClampNeg (m 66 34)) v4) 66 19))) 66 20))) 82 (Int32.toNatClampNeg (m 66 34)) ((it_sv (it_sv (it_sv m 79 (Int32.toNatClampNeg (m 66 34)) v4) 80 (Int32.toNatClampNeg (m 66 34)) (v4 + ((it_sv m 79 (Int32.toNatClampNeg (m 66 34)) v4) 66 19))) 81 (Int32.toNatClampNeg (m 66 34)) ((v4 + ((it_sv (it_sv m 79 (Int32.toNatClampNeg (m 66 34)) v4) 80 (Int32.toNatClampNeg (m 66 34)) (v4 + ((it_sv m 79 (Int32.toNatClampNeg (m 66 34)) v4) 66 19))) 66 18)) + ((it_sv (it_sv m 79 (Int32.toNatClampNeg (m 66 34)) v4) 80 (Int32.toNatClampNeg (m 66 34)) (v4 + ((it_sv m 79 (Int32.toNatClampNeg (m 66 34)) v4) 66 19))) 66 20))) 66 21)) 83 (Int32.toNatClampNeg (m 66 34)) ((it_sv (it_sv (it_sv (it_sv m 79 (Int32.toNatClampNeg (m 66 34)) v4) 80 (Int32.toNatClampNeg (m 66 34)) (v4 + ((it_sv m 79 (Int32.toNatClampNeg (m 66 34)) v4) 66 19))) 81 (Int32.toNatClampNeg (m 66 34)) ((v4 + ((it_sv (it_sv m 79 (Int32.toNatClampNeg (m 66 34)) v4) 80 (Int32.toNatClampNeg (m 66 34)) (v4 + ((it_sv m 79 (Int32.toNatClampNeg (m 66 34)) v4) 66 19))) 66 18)) + ((it_sv (it_sv m 79 (Int32.toNatClampNeg (m 66 34)) v4) 80 (Int32.toNatClampNeg (m 66 34)) (v4 + ((it_sv m 79 (Int32.toNatClampNeg (m 66 34)) v4) 66 19))) 66 20))) 82 (Int32.toNatClampNeg (m 66 34)) ((it_sv (it_sv (it_sv m 79 (Int32.toNatClampNeg (m 66 34)) v4) 80 (Int32.toNatClampNeg (m 66 34)) (v4 + ((it_sv m 79 (Int32.toNatClampNeg (m 66 34)) v4) 66 19))) 81 (Int32.toNatClampNeg (m 66 34)) ((v4 + ((it_sv (it_sv m 79 (Int32.toNatClampNeg (m 66 34)) v4) 80 (Int32.toNatClampNeg (m 66 34)) (v4 + ((it_sv m 79 (Int32.toNatClampNeg (m 66 34)) v4) 66 19))) 66 18)) + ((it_sv (it_sv m 79 (Int32.toNatClampNeg (m 66 34)) v4) 80 (Int32.toNatClampNeg (m 66 34)) (v4 + ((it_sv m 79 (Int32.toNatClampNeg (m 66 34)) v4) 66 19))) 66 20))) 66 21)) 66 23)) 66 24)) 66 25)) 86 (Int32.toNatClampNeg (m 66 34)) ((it_sv (it_sv (it_sv (it_sv (it_sv (it_sv (it_sv m 79 (Int32.toNatClampNeg (m 66 34)) v4) 80 (Int32.toNatClampNeg (m 66 34)) (v4 + ((it_sv m 79 (Int32.toNatClampNeg (m 66 34)) v4) 66 19))) 81 (Int32.toNatClampNeg (m 66 34)) ((v4 + ((it_sv (it_sv m 79 (Int32.toNatClampNeg (m 66 34)) v4) 80 (Int32.toNatClampNeg (m 66 34)) (v4 + ((it_sv m 79 (Int32.toNatClampNeg (m 66 34)) v4) 66 19))) 66 18)) + ((it_sv (it_sv m 79 (Int32.toNatClampNeg (m 66 34)) v4) 80 (Int32.toNatClampNeg (m 66 34)) (v4 + ((it_sv m 79 (Int32.toNatClampNeg (m 66 34)) v4) 66 19))) 66 20))) 82 (Int32.toNatClampNeg (m 66 34)) ((it_sv (it_sv (it_sv m 79 (Int32.toNatClampNeg (m 66 34)) v4) 80 (Int32.toNatClampNeg (m 66 34)) (v4 + ((it_sv m 79 (Int32.toNatClampNeg (m 66 34)) v4) 66 19))) 81 (Int32.toNatClampNeg (m 66 34)) ((v4 + ((it_sv (it_sv m 79 (Int32.toNatClampNeg (m 66 34)) v4) 80 (Int32.toNatClampNeg (m 66 34)) (v4 + ((it_sv m 79 (Int32.toNatClampNeg (m 66 34)) v4) 66 19))) 66 18)) + ((it_sv (it_sv m 79 (Int32.toNatClampNeg (m 66 34)) v4) 80 (Int32.toNatClampNeg (m 66 34)) (v4 + ((it_sv m 79 (Int32.toNatClampNeg (m 66 34)) v4) 66 19))) 66 20))) 66 21)) 83 (Int32.toNatClampNeg (m 66 34)) ((it_sv (it_sv (it_sv (it_sv m 79 (Int32.toNatClampNeg (m 66 34)) v4) 80 (Int32.toNatClampNeg (m 66 34)) (v4 + ((it_sv m 79 (Int32.toNatClampNeg (m 66 34)) v4) 66 19))) 81 (Int32.toNatClampNeg (m 66 34)) ((v4 + ((it_sv (it_sv m 79 (Int32.toNatClampNeg (m 66 34)) v4) 80 (Int32.toNatClampNeg (m 66 34)) (v4 + ((it_sv m 79 (Int32.toNatClampNeg (m 66 34)) v4) 66 19))) 66 18)) + ((it_sv (it_sv m 79 (Int32.toNatClampNeg (m 66 34)) v4) 80 (Int32.toNatClampNeg (m 66 34)) (v4 + ((it_sv m 79 (Int32.toNatClampNeg (m 66 34)) v4) 66 19))) 66 20))) 82 (Int32.toNatClampNeg (m 66 34)) ((it_sv (it_sv (it_sv m 79 (Int32.toNatClampNeg (m 66 34)) v4) 80 (Int32.toNatClampNeg (m 66 34)) (v4 + ((it_sv m 79 (Int32.toNatClampNeg (m 66 34)) v4) 66 19))) 81 (Int32.toNatClampNeg (m 66 34)) ((v4 + ((it_sv (it_sv m 79 (Int32.toNatClampNeg (m 66 34)) v4) 80 (Int32.toNatClampNeg (m 66 34)) (v4 + ((it_sv m 79 (Int32.toNatClampNeg (m 66 34)) v4) 66 19))) 66 18)) + ((it_sv (it_sv m 79 (Int32.toNatClampNeg (m 66 34)) v4) 80 (Int32.toNatClampNeg (m 66 34)) (v4 + ((it_sv m 79 (Int32.toNatClampNeg (m 66 34)) v4) 66 19))) 66 20))) 66 21)) 66 23)) 84 (Int32.toNatClampNeg (m 66 34)) ((it_sv (it_sv (it_sv (it_sv (it_sv m 79 (Int32.toNatClampNeg (m 66 34)) v4) 80 (Int32.toNatClampNeg (m 66 34)) (v4 + ((it_sv m 79 (Int32.toNatClampNeg (m 66 34)) v4) 66 19))) 81 (Int32.toNatClampNeg (m 66 34)) ((v4 + ((it_sv (it_sv m 79 (Int32.toNatClampNeg (m 66 34)) v4) 80 (Int32.toNatClampNeg (m 66 34)) (v4 + ((it_sv m 79 (Int32.toNatClampNeg (m 66 34)) v4) 66 19))) 66 18)) + ((it_sv (it_sv m 79 (Int32.toNatClampNeg (m 66 34)) v4) 80 (Int32.toNatClampNeg (m 66 34)) (v4 + ((it_sv m 79 (Int32.toNatClampNeg (m 66 34)) v4) 66 19))) 66 20))) 82 (Int32.toNatClampNeg (m 66 34)) ((it_sv (it_sv (it_sv m 79 (Int32.toNatClampNeg (m 66 34)) v4) 80 (Int32.toNatClampNeg (m 66 34)) (v4 + ((it_sv m 79 (Int32.toNatClampNeg (m 66 34)) v4) 66 19))) 81 (Int32.toNatClampNeg (m 66 34)) ((v4 + ((it_sv (it_sv m 79 (Int32.toNatClampNeg (m 66 34)) v4) 80 (Int32.toNatClampNeg (m 66 34)) (v4 + ((it_sv m 79 (Int32.toNatClampNeg (m 66 34)) v4) 66 19))) 66 18)) + ((it_sv (it_sv m 79 (Int32.toNatClampNeg (m 66 34)) v4) 80 (Int32.toNatClampNeg (m 66 34)) (v4 + ((it_sv m 79 (Int32.toNatClampNeg (m 66 34)) v4) 66 19))) 66 20))) 66 21)) 83 (Int32.toNatClampNeg (m 66 34)) ((it_sv (it_sv (it_sv (it_sv m 79 (Int32.toNatClampNeg (m 66 34)) v4) 80 (Int32.toNatClampNeg (m 66 34)) (v4 + ((it_sv m 79 (Int32.toNatClampNeg (m 66 34)) v4) 66 19))) 81 (Int32.toNatClampNeg (m 66 34)) ((v4 + ((it_sv (it_sv m 79 (Int32.toNatClampNeg (m 66 34)) v4) 80 (Int32.toNatClampNeg (m 66 34)) (v4 + ((it_sv m 79 (Int32.toNatClampNeg (m 66 34)) v4) 66 19))) 66 18)) + ((it_sv (it_sv m 79 (Int32.toNatClampNeg (m 66 34)) v4) 80 (Int32.toNatClampNeg (m 66 34)) (v4 + ((it_sv m 79 (Int32.toNatClampNeg (m 66 34)) v4) 66 19))) 66 20))) 82 (Int32.toNatClampNeg (m 66 34)) ((it_sv (it_sv (it_sv m 79 (Int32.toNatClampNeg (m 66 34)) v4) 80 (Int32.toNatClampNeg (m 66 34)) (v4 + ((it_sv m 79 (Int32.toNatClampNeg (m 66 34)) v4) 66 19))) 81 (Int32.toNatClampNeg (m 66 34)) ((v4 + ((it_sv (it_sv m 79 (Int32.toNatClampNeg (m 66 34)) v4) 80 (Int32.toNatClampNeg (m 66 34)) (v4 + ((it_sv m 79 (Int32.toNatClampNeg (m 66 34)) v4) 66 19))) 66 18)) + ((it_sv (it_sv m 79 (Int32.toNatClampNeg (m 66 34)) v4) 80 (Int32.toNatClampNeg (m 66 34)) (v4 + ((it_sv m 79 (Int32.toNatClampNeg (m 66 34)) v4) 66 19))) 66 20))) 66 21)) 66 23)) 66 24)) 85 (Int32.toNatClampNeg (m 66 34)) ((it_sv (it_sv (it_sv (it_sv (it_sv (it_sv m 79 (Int32.toNatClampNeg (m 66 34)) v4) 80 (Int32.toNatClampNeg (m 66 34)) (v4 + ((it_sv m 79 (Int32.toNatClampNeg (m 66 34)) v4) 66 19))) 81 (Int32.toNatClampNeg (m 66 34)) ((v4 + ((it_sv (it_sv m 79 (Int32.toNatClampNeg (m 66 34)) v4) 80 (Int32.toNatClampNeg (m 66 34)) (v4 + ((it_sv m 79 (Int32.toNatClampNeg (m 66 34)) v4) 66 19))) 66 18)) + ((it_sv (it_sv m 79 (Int32.toNatClampNeg (m 66 34)) v4) 80 (Int32.toNatClampNeg (m 66 34)) (v4 + ((it_sv m 79 (Int32.toNatClampNeg (m 66 34)) v4) 66 19))) 66 20))) 82 (Int32.toNatClampNeg (m 66 34)) ((it_sv (it_sv (it_sv m 79 (Int32.toNatClampNeg (m 66 34)) v4) 80 (Int32.toNatClampNeg (m 66 34)) (v4 + ((it_sv m 79 (Int32.toNatClampNeg (m 66 34)) v4) 66 19))) 81 (Int32.toNatClampNeg (m 66 34)) ((v4 + ((it_sv (it_sv m 79 (Int32.toNatClampNeg (m 66 34)) v4) 80 (Int32.toNatClampNeg (m 66 34)) (v4 + ((it_sv m 79 (Int32.toNatClampNeg (m 66 34)) v4) 66 19))) 66 18)) + ((it_sv (it_sv m 79 (Int32.toNatClampNeg (m 66 34)) v4) 80 (Int32.toNatClampNeg (m 66 34)) (v4 + ((it_sv m 79 (Int32.toNatClampNeg (m 66 34)) v4) 66 19))) 66 20))) 66 21)) 83 (Int32.toNatClampNeg (m 66 34)) ((it_sv (it_sv (it_sv (it_sv m 79 (Int32.toNatClampNeg (m 66 34)) v4) 80 (Int32.toNatClampNeg (m 66 34)) (v4 + ((it_sv m 79 (Int32.toNatClampNeg (m 66 34)) v4) 66 19))) 81 (Int32.toNatClampNeg (m 66 34)) ((v4 + ((it_sv (it_sv m 79 (Int32.toNatClampNeg (m 66 34)) v4) 80 (Int32.toNatClampNeg (m 66 34)) (v4 + ((it_sv m 79 (Int32.toNatClampNeg (m 66 34)) v4) 66 19))) 66 18)) + ((it_sv (it_sv m 79 (Int32.toNatClampNeg (m 66 34)) v4) 80 (Int32.toNatClampNeg (m 66 34)) (v4 + ((it_sv m 79 (Int32.toNatClampNeg (m 66 34)) v4) 66 19))) 66 20))) 82 (Int32.toNatClampNeg (m 66 34)) ((it_sv (it_sv (it_sv m 79 (Int32.toNatClampNeg (m 66 34)) v4) 80 (Int32.toNatClampNeg (m 66 34)) (v4 + ((it_sv m 79 (Int32.toNatClampNeg (m 66 34)) v4) 66 19))) 81 (Int32.toNatClampNeg (m 66 34)) ((v4 + ((it_sv (it_sv m 79 (Int32.toNatClampNeg (m 66 34)) v4) 80 (Int32.toNatClampNeg (m 66 34)) (v4 + ((it_sv m 79 (Int32.toNatClampNeg (m 66 34)) v4) 66 19))) 66 18)) + ((it_sv (it_sv m 79 (Int32.toNatClampNeg (m 66 34)) v4) 80 (Int32.toNatClampNeg (m 66 34)) (v4 + ((it_sv m 79 (Int32.toNatClampNeg (m 66 34)) v4) 66 19))) 66 20))) 66 21)) 66 23)) 84 (Int32.toNatClampNeg (m 66 34)) ((it_sv (it_sv (it_sv (it_sv (it_sv m 79 (Int32.toNatClampNeg (m 66 34)) v4) 80 (Int32.toNatClampNeg (m 66 34)) (v4 + ((it_sv m 79 (Int32.toNatClampNeg (m 66 34)) v4) 66 19))) 81 (Int32.toNatClampNeg (m 66 34)) ((v4 + ((it_sv (it_sv m 79 (Int32.toNatClampNeg (m 66 34)) v4) 80 (Int32.toNatClampNeg (m 66 34)) (v4 + ((it_sv m 79 (Int32.toNatClampNeg (m 66 34)) v4) 66 19))) 66 18)) + ((it_sv (it_sv m 79 (Int32.toNatClampNeg (m 66 34)) v4) 80 (Int32.toNatClampNeg (m 66 34)) (v4 + ((it_sv m 79 (Int32.toNatClampNeg (m 66 34)) v4) 66 19))) 66 20))) 82 (Int32.toNatClampNeg (m 66 34)) ((it_sv (it_sv (it_sv m 79 (Int32.toNatClampNeg (m 66 34)) v4) 80 (Int32.toNatClampNeg (m 66 34)) (v4 + ((it_sv m 79 (Int32.toNatClampNeg (m 66 34)) v4) 66 19))) 81 (Int32.toNatClampNeg (m 66 34)) ((v4 + ((it_sv (it_sv m 79 (Int32.toNatClampNeg (m 66 34)) v4) 80 (Int32.toNatClampNeg (m 66 34)) (v4 + ((it_sv m 79 (Int32.toNatClampNeg (m 66 34)) v4) 66 19))) 66 18)) + ((it_sv (it_sv m 79 (Int32.toNatClampNeg (m 66 34)) v4) 80 (Int32.toNatClampNeg (m 66 34)) (v4 + ((it_sv m 79 (Int32.toNatClampNeg (m 66 34)) v4) 66 19))) 66 20))) 66 21)) 83 (Int32.toNatClampNeg (m 66 34)) ((it_sv (it_sv (it_sv (it_sv m 79 (Int32.toNatClampNeg (m 66 34)) v4) 80 (Int32.toNatClampNeg (m 66 34)) (v4 + ((it_sv m 79 (Int32.toNatClampNeg (m 66 34)) v4) 66 19))) 81 (Int32.toNatClampNeg (m 66 34)) ((v4 + ((it_sv (it_sv m 79 (Int32.toNatClampNeg (m 66 34)) v4) 80 (Int32.toNatClampNeg (m 66 34)) (v4 + ((it_sv m 79 (Int32.toNatClampNeg (m 66 34)) v4) 66 19))) 66 18)) + ((it_sv (it_sv m 79 (Int32.toNatClampNeg (m 66 34)) v4) 80 (Int32.toNatClampNeg (m 66 34)) (v4 + ((it_sv m 79 (Int32.toNatClampNeg (m 66 34)) v4) 66 19))) 66 20))) 82 (Int32.toNatClampNeg (m 66 34)) ((it_sv (it_sv (it_sv m 79 (Int32.toNatClampNeg (m 66 34)) v4) 80 (Int32.toNatClampNeg (m 66 34)) (v4 + ((it_sv m 79 (Int32.toNatClampNeg (m 66 34)) v4) 66 19))) 81 (Int32.toNatClampNeg (m 66 34)) ((v4 + ((it_sv (it_sv m 79 (Int32.toNatClampNeg (m 66 34)) v4) 80 (Int32.toNatClampNeg (m 66 34)) (v4 + ((it_sv m 79 (Int32.toNatClampNeg (m 66 34)) v4) 66 19))) 66 18)) + ((it_sv (it_sv m 79 (Int32.toNatClampNeg (m 66 34)) v4) 80 (Int32.toNatClampNeg (m 66 34)) (v4 + ((it_sv m 79 (Int32.toNatClampNeg (m 66 34)) v4) 66 19))) 66 20))) 66 21)) 66 23)) 66 24)) 66 25)) 66 26)) 87 (Int32.toNatClampNeg (m 66 34)) ((it_sv (it_sv (it_sv (it_sv (it_sv (it_sv (it_sv (it_sv m 79 (Int32.toNatClampNeg (m 66 34)) v4) 80 (Int32.toNatClampNeg (m 66 34)) (v4 + ((it_sv m 79 (Int32.toNatClampNeg (m 66 34)) v4) 66 19))) 81 (Int32.toNatClampNeg (m 66 34)) ((v4 + ((it_sv (it_sv m 79 (Int32.toNatClampNeg (m 66 34)) v4) 80 (Int32.toNatClampNeg (m 66 34)) (v4 + ((it_sv m 79 (Int32.toNatClampNeg (m 66 34)) v4) 66 19))) 66 18)) + ((it_sv (it_sv m 79 (Int32.toNatClampNeg (m 66 34)) v4) 80 (Int32.toNatClampNeg (m 66 34)) (v4 + ((it_sv m 79 (Int32.toNatClampNeg (m 66 34)) v4) 66 19))) 66 20))) 82 (Int32.toNatClampNeg (m 66 34)) ((it_sv (it_sv (it_sv m 79 (Int32.toNatClampNeg (m 66 34)) v4) 80 (Int32.toNatClampNeg (m 66 34)) (v4 + ((it_sv m 79 (Int32.toNatClampNeg (m 66 34)) v4) 66 19))) 81 (Int32.toNatClampNeg (m 66 34)) ((v4 + ((it_sv (it_sv m 79 (Int32.toNatClampNeg (m 66 34)) v4) 80 (Int32.toNatClampNeg (m 66 34)) (v4 + ((it_sv m 79 (Int32.toNatClampNeg (m 66 34)) v4) 66 19))) 66 18)) + ((it_sv (it_sv m 79 (Int32.toNatClampNeg (m 66 34)) v4) 80 (Int32.toNatClampNeg (m 66 34)) (v4 + ((it_sv m 79 (Int32.toNatClampNeg (m 66 34)) v4) 66 19))) 66 20))) 66 21)) 83 (Int32.toNatClampNeg (m 66 34)) ((it_sv (it_sv (it_sv (it_sv m 79 (Int32.toNatClampNeg (m 66 34)) v4) 80 (Int32.toNatClampNeg (m 66 34)) (v4 + ((it_sv m 79 (Int32.toNatClampNeg (m 66 34)) v4) 66 19))) 81 (Int32.toNatClampNeg (m 66 34)) ((v4 + ((it_sv (it_sv m 79 (Int32.toNatClampNeg (m 66 34)) v4) 80 (Int32.toNatClampNeg (m 66 34)) (v4 + ((it_sv m 79 (Int32.toNatClampNeg (m 66 34)) v4) 66 19))) 66 18)) + ((it_sv (it_sv m 79 (Int32.toNatClampNeg (m 66 34)) v4) 80 (Int32.toNatClampNeg (m 66 34)) (v4 + ((it_sv m 79 (Int32.toNatClampNeg (m 66 34)) v4) 66 19))) 66 20))) 82 (Int32.toNatClampNeg (m 66 34)) ((it_sv (it_sv (it_sv m 79 (Int32.toNatClampNeg (m 66 34)) v4) 80 (Int32.toNatClampNeg (m 66 34)) (v4 + ((it_sv m 79 (Int32.toNatClampNeg (m 66 34)) v4) 66 19))) 81 (Int32.toNatClampNeg (m 66 34)) ((v4 + ((it_sv (it_sv m 79 (Int32.toNatClampNeg (m 66 34)) v4) 80 (Int32.toNatClampNeg (m 66 34)) (v4 + ((it_sv m 79 (Int32.toNatClampNeg (m 66 34)) v4) 66 19))) 66 18)) + ((it_sv (it_sv m 79 (Int32.toNatClampNeg (m 66 34)) v4) 80 (Int32.toNatClampNeg (m 66 34)) (v4 + ((it_sv m 79 (Int32.toNatClampNeg (m 66 34)) v4) 66 19))) 66 20))) 66 21)) 66 23)) 84 (Int32.toNatClampNeg (m 66 34)) ((it_sv (it_sv (it_sv (it_sv (it_sv m 79 (Int32.toNatClampNeg (m 66 34)) v4) 80 (Int32.toNatClampNeg (m 66 34)) (v4 + ((it_sv m 79 (Int32.toNatClampNeg (m 66 34)) v4) 66 19))) 81 (Int32.toNatClampNeg (m 66 34)) ((v4 + ((it_sv (it_sv m 79 (Int32.toNatClampNeg (m 66 34)) v4) 80 (Int32.toNatClampNeg (m 66 34)) (v4 + ((it_sv m 79 (Int32.toNatClampNeg (m 66 34)) v4) 66 19))) 66 18)) + ((it_sv (it_sv m 79 (Int32.toNatClampNeg (m 66 34)) v4) 80 (Int32.toNatClampNeg (m 66 34)) (v4 + ((it_sv m 79 (Int32.toNatClampNeg (m 66 34)) v4) 66 19))) 66 20))) 82 (Int32.toNatClampNeg (m 66 34)) ((it_sv (it_sv (it_sv m 79 (Int32.toNatClampNeg (m 66 34)) v4) 80 (Int32.toNatClampNeg (m 66 34)) (v4 + ((it_sv m 79 (Int32.toNatClampNeg (m 66 34)) v4) 66 19))) 81 (Int32.toNatClampNeg (m 66 34)) ((v4 + ((it_sv (it_sv m 79 (Int32.toNatClampNeg (m 66 34)) v4) 80 (Int32.toNatClampNeg (m 66 34)) (v4 + ((it_sv m 79 (Int32.toNatClampNeg (m 66 34)) v4) 66 19))) 66 18)) + ((it_sv (it_sv m 79 (Int32.toNatClampNeg (m 66 34)) v4) 80 (Int32.toNatClampNeg (m 66 34)) (v4 + ((it_sv m 79 (Int32.toNatClampNeg (m 66 34)) v4) 66 19))) 66 20))) 66 21)) 83 (Int32.toNatClampNeg (m 66 34)) ((it_sv (it_sv (it_sv (it_sv m 79 (Int32.toNatClampNeg (m 66 34)) v4) 80 (Int32.toNatClampNeg (m 66 34)) (v4 + ((it_sv m 79 (Int32.toNatClampNeg (m 66 34)) v4) 66 19))) 81 (Int32.toNatClampNeg (m 66 34)) ((v4 + ((it_sv (it_sv m 79 (Int32.toNatClampNeg (m 66 34)) v4) 80 (Int32.toNatClampNeg (m 66 34)) (v4 + ((it_sv m 79 (Int32.toNatClampNeg (m 66 34)) v4) 66 19))) 66 18)) + ((it_sv (it_sv m 79 (Int32.toNatClampNeg (m 66 34)) v4) 80 (Int32.toNatClampNeg (m 66 34)) (v4 + ((it_sv m 79 (Int32.toNatClampNeg (m 66 34)) v4) 66 19))) 66 20))) 82 (Int32.toNatClampNeg (m 66 34)) ((it_sv (it_sv (it_sv m 79 (Int32.toNatClampNeg (m 66 34)) v4) 80 (Int32.toNatClampNeg (m 66 34)) (v4 + ((it_sv m 79 (Int32.toNatClampNeg (m 66 34)) v4) 66 19))) 81 (Int32.toNatClampNeg (m 66 34)) ((v4 + ((it_sv (it_sv m 79 (Int32.toNatClampNeg (m 66 34)) v4) 80 (Int32.toNatClampNeg (m 66 34)) (v4 + ((it_sv m 79 (Int32.toNatClampNeg (m 66 34)) v4) 66 19))) 66 18)) + ((it_sv (it_sv m 79 (Int32.toNatClampNeg (m 66 34)) v4) 80 (Int32.toNatClampNeg (m 66 34)) (v4 + ((it_sv m 79 (Int32.toNatClampNeg (m 66 34)) v4) 66 19))) 66 20))) 66 21)) 66 23)) 66 24)) 85 (Int32.toNatClampNeg (m 66 34)) ((it_sv (it_sv (it_sv (it_sv (it_sv (it_sv m 79 (Int32.toNatClampNeg (m 66 34)) v4) 80 (Int32.toNatClampNeg (m 66 34)) (v4 + ((it_sv m 79 (Int32.toNatClampNeg (m 66 34)) v4) 66 19))) 81 (Int32.toNatClampNeg (m 66 34)) ((v4 + ((it_sv (it_sv m 79 (Int32.toNatClampNeg (m 66 34)) v4) 80 (Int32.toNatClampNeg (m 66 34)) (v4 + ((it_sv m 79 (Int32.toNatClampNeg (m 66 34)) v4) 66 19))) 66 18)) + ((it_sv (it_sv m 79 (Int32.toNatClampNeg (m 66 34)) v4) 80 (Int32.toNatClampNeg (m 66 34)) (v4 + ((it_sv m 79 (Int32.toNatClampNeg (m 66 34)) v4) 66 19))) 66 20))) 82 (Int32.toNatClampNeg (m 66 34)) ((it_sv (it_sv (it_sv m 79 (Int32.toNatClampNeg (m 66 34)) v4) 80 (Int32.toNatClampNeg (m 66 34)) (v4 + ((it_sv m 79 (Int32.toNatClampNeg (m 66 34)) v4) 66 19))) 81 (Int32.toNatClampNeg (m 66 34)) ((v4 + ((it_sv (it_sv m 79 (Int32.toNatClampNeg (m 66 34)) v4) 80 (Int32.toNatClampNeg (m 66 34)) (v4 + ((it_sv m 79 (Int32.toNatClampNeg (m 66 34)) v4) 66 19))) 66 18)) + ((it_sv (it_sv m 79 (Int32.toNatClampNeg (m 66 34)) v4) 80 (Int32.toNatClampNeg (m 66 34)) (v4 + ((it_sv m 79 (Int32.toNatClampNeg (m 66 34)) v4) 66 19))) 66 20))) 66 21)) 83 (Int32.toNatClampNeg (m 66 34)) ((it_sv (it_sv (it_sv (it_sv m 79 (Int32.toNatClampNeg (m 66 34)) v4) 80 (Int32.toNatClampNeg (m 66 34)) (v4 + ((it_sv m 79 (Int32.toNatClampNeg (m 66 34)) v4) 66 19))) 81 (Int32.toNatClampNeg (m 66 34)) ((v4 + ((it_sv (it_sv m 79 (Int32.toNatClampNeg (m 66 34)) v4) 80 (Int32.toNatClampNeg (m 66 34)) (v4 + ((it_sv m 79 (Int32.toNatClampNeg (m 66 34)) v4) 66 19))) 66 18)) + ((it_sv (it_sv m 79 (Int32.toNatClampNeg (m 66 34)) v4) 80 (Int32.toNatClampNeg (m 66 34)) (v4 + ((it_sv m 79 (Int32.toNatClampNeg (m 66 34)) v4) 66 19))) 66 20))) 82 (Int32.toNatClampNeg (m 66 34)) ((it_sv (it_sv (it_sv m 79 (Int32.toNatClampNeg (m 66 34)) v4) 80 (Int32.toNatClampNeg (m 66 34)) (v4 + ((it_sv m 79 (Int32.toNatClampNeg (m 66 34)) v4) 66 19))) 81 (Int32.toNatClampNeg (m 66 34)) ((v4 + ((it_sv (it_sv m 79 (Int32.toNatClampNeg (m 66 34)) v4) 80 (Int32.toNatClampNeg (m 66 34)) (v4 + ((it_sv m 79 (Int32.toNatClampNeg (m 66 34)) v4) 66 19))) 66 18)) + ((it_sv (it_sv m 79 (Int32.toNatClampNeg (m 66 34)) v4) 80 (Int32.toNatClampNeg (m 66 34)) (v4 + ((it_sv m 79 (Int32.toNatClampNeg (m 66 34)) v4) 66 19))) 66 20))) 66 21)) 66 23)) 84 (Int32.toNatClampNeg (m 66 34)) ((it_sv (it_sv (it_sv (it_sv (it_sv m 79 (Int32.toNatClampNeg (m 66 34)) v4) 80 (Int32.toNatClampNeg (m 66 34)) (v4 + ((it_sv m 79 (Int32.toNatClampNeg (m 66 34)) v4) 66 19))) 81 (Int32.toNatClampNeg (m 66 34)) ((v4 + ((it_sv (it_sv m 79 (Int32.toNatClampNeg (m 66 34)) v4) 80 (Int32.toNatClampNeg (m 66 34)) (v4 + ((it_sv m 79 (Int32.toNatClampNeg (m 66 34)) v4) 66 19))) 66 18)) + ((it_sv (it_sv m 79 (Int32.toNatClampNeg (m 66 34)) v4) 80 (Int32.toNatClampNeg (m 66 34)) (v4 + ((it_sv m 79 (Int32.toNatClampNeg (m 66 34)) v4) 66 19))) 66 20))) 82 (Int32.toNatClampNeg (m 66 34)) ((it_sv (it_sv (it_sv m 79 (Int32.toNatClampNeg (m 66 34)) v4) 80 (Int32.toNatClampNeg (m 66 34)) (v4 + ((it_sv m 79 (Int32.toNatClampNeg (m 66 34)) v4) 66 19))) 81 (Int32.toNatClampNeg (m 66 34)) ((v4 + ((it_sv (it_sv m 79 (Int32.toNatClampNeg (m 66 34)) v4) 80 (Int32.toNatClampNeg (m 66 34)) (v4 + ((it_sv m 79 (Int32.toNatClampNeg (m 66 34)) v4) 66 19))) 66 18)) + ((it_sv (it_sv m 79 (Int32.toNatClampNeg (m 66 34)) v4) 80 (Int32.toNatClampNeg (m 66 34)) (v4 + ((it_sv m 79 (Int32.toNatClampNeg (m 66 34)) v4) 66 19))) 66 20))) 66 21)) 83 (Int32.toNatClampNeg (m 66 34)) ((it_sv (it_sv (it_sv (it_sv m 79 (Int32.toNatClampNeg (m 66 34)) v4) 80 (Int32.toNatClampNeg (m 66 34)) (v4 + ((it_sv m 79 (Int32.toNatClampNeg (m 66 34)) v4) 66 19))) 81 (Int32.toNatClampNeg (m 66 34)) ((v4 + ((it_sv (it_sv m 79 (Int32.toNatClampNeg (m 66 34)) v4) 80 (Int32.toNatClampNeg (m 66 34)) (v4 + ((it_sv m 79 (Int32.toNatClampNeg (m 66 34)) v4) 66 19))) 66 18)) + ((it_sv (it_sv m 79 (Int32.toNatClampNeg (m 66 34)) v4) 80 (Int32.toNatClampNeg (m 66 34)) (v4 + ((it_sv m 79 (Int32.toNatClampNeg (m 66 34)) v4) 66 19))) 66 20))) 82 (Int32.toNatClampNeg (m 66 34)) ((it_sv (it_sv (it_sv m 79 (Int32.toNatClampNeg (m 66 34)) v4) 80 (Int32.toNatClampNeg (m 66 34)) (v4 + ((it_sv m 79 (Int32.toNatClampNeg (m 66 34)) v4) 66 19))) 81 (Int32.toNatClampNeg (m 66 34)) ((v4 + ((it_sv (it_sv m 79 (Int32.toNatClampNeg (m 66 34)) v4) 80 (Int32.toNatClampNeg (m 66 34)) (v4 + ((it_sv m 79 (Int32.toNatClampNeg (m 66 34)) v4) 66 19))) 66 18)) + ((it_sv (it_sv m 79 (Int32.toNatClampNeg (m 66 34)) v4) 80 (Int32.toNatClampNeg (m 66 34)) (v4 + ((it_sv m 79 (Int32.toNatClampNeg (m 66 34)) v4) 66 19))) 66 20))) 66 21)) 66 23)) 66 24)) 66 25)) 86 (Int32.toNatClampNeg (m 66 34)) ((it_sv (it_sv (it_sv (it_sv (it_sv (it_sv (it_sv m 79 (Int32.toNatClampNeg (m 66 34)) v4) 80 (Int32.toNatClampNeg (m 66 34)) (v4 + ((it_sv m 79 (Int32.toNatClampNeg (m 66 34)) v4) 66 19))) 81 (Int32.toNatClampNeg (m 66 34)) ((v4 + ((it_sv (it_sv m 79 (Int32.toNatClampNeg (m 66 34)) v4) 80 (Int32.toNatClampNeg (m 66 34)) (v4 + ((it_sv m 79 (Int32.toNatClampNeg (m 66 34)) v4) 66 19))) 66 18)) + ((it_sv (it_sv m 79 (Int32.toNatClampNeg (m 66 34)) v4) 80 (Int32.toNatClampNeg (m 66 34)) (v4 + ((it_sv m 79 (Int32.toNatClampNeg (m 66 34)) v4) 66 19))) 66 20))) 82 (Int32.toNatClampNeg (m 66 34)) ((it_sv (it_sv (it_sv m 79 (Int32.toNatClampNeg (m 66 34)) v4) 80 (Int32.toNatClampNeg (m 66 34)) (v4 + ((it_sv m 79 (Int32.toNatClampNeg (m 66 34)) v4) 66 19))) 81 (Int32.toNatClampNeg (m 66 34)) ((v4 + ((it_sv (it_sv m 79 (Int32.toNatClampNeg (m 66 34)) v4) 80 (Int32.toNatClampNeg (m 66 34)) (v4 + ((it_sv m 79 (Int32.toNatClampNeg (m 66 34)) v4) 66 19))) 66 18)) + ((it_sv (it_sv m 79 (Int32.toNatClampNeg (m 66 34)) v4) 80 (Int32.toNatClampNeg (m 66 34)) (v4 + ((it_sv m 79 (Int32.toNatClampNeg (m 66 34)) v4) 66 19))) 66 20))) 66 21)) 83 (Int32.toNatClampNeg (m 66 34)) ((it_sv (it_sv (it_sv (it_sv m 79 (Int32.toNatClampNeg (m 66 34)) v4) 80 (Int32.toNatClampNeg (m 66 34)) (v4 + ((it_sv m 79 (Int32.toNatClampNeg (m 66 34)) v4) 66 19))) 81 (Int32.toNatClampNeg (m 66 34)) ((v4 + ((it_sv (it_sv m 79 (Int32.toNatClampNeg (m 66 34)) v4) 80 (Int32.toNatClampNeg (m 66 34)) (v4 + ((it_sv m 79 (Int32.toNatClampNeg (m 66 34)) v4) 66 19))) 66 18)) + ((it_sv (it_sv m 79 (Int32.toNatClampNeg (m 66 34)) v4) 80 (Int32.toNatClampNeg (m 66 34)) (v4 + ((it_sv m 79 (Int32.toNatClampNeg (m 66 34)) v4) 66 19))) 66 20))) 82 (Int32.toNatClampNeg (m 66 34)) ((it_sv (it_sv (it_sv m 79 (Int32.toNatClampNeg (m 66 34)) v4) 80 (Int32.toNatClampNeg (m 66 34)) (v4 + ((it_sv m 79 (Int32.toNatClampNeg (m 66 34)) v4) 66 19))) 81 (Int32.toNatClampNeg (m 66 34)) ((v4 + ((it_sv (it_sv m 79 (Int32.toNatClampNeg (m 66 34)) v4) 80 (Int32.toNatClampNeg (m 66 34)) (v4 + ((it_sv m 79 (Int32.toNatClampNeg (m 66 34)) v4) 66 19))) 66 18)) + ((it_sv (it_sv m 79 (Int32.toNatClampNeg (m 66 34)) v4) 80 (Int32.toNatClampNeg (m 66 34)) (v4 + ((it_sv m 79 (Int32.toNatClampNeg (m 66 34)) v4) 66 19))) 66 20))) 66 21)) 66 23)) 84 (Int32.toNatClampNeg (m 66 34)) ((it_sv (it_sv (it_sv (it_sv (it_sv m 79 (Int32.toNatClampNeg (m 66 34)) v4) 80 (Int32.toNatClampNeg (m 66 34)) (v4 + ((it_sv m 79 (Int32.toNatClampNeg (m 66 34)) v4) 66 19))) 81 (Int32.toNatClampNeg (m 66 34)) ((v4 + ((it_sv (it_sv m 79 (Int32.toNatClampNeg (m 66 34)) v4) 80 (Int32.toNatClampNeg (m 66 34)) (v4 + ((it_sv m 79 (Int32.toNatClampNeg (m 66 34)) v4) 66 19))) 66 18)) + ((it_sv (it_sv m 79 (Int32.toNatClampNeg (m 66 34)) v4) 80 (Int32.toNatClampNeg (m 66 34)) (v4 + ((it_sv m 79 (Int32.toNatClampNeg (m 66 34)) v4) 66 19))) 66 20))) 82 (Int32.toNatClampNeg (m 66 34)) ((it_sv (it_sv (it_sv m 79 (Int32.toNatClampNeg (m 66 34)) v4) 80 (Int32.toNatClampNeg (m 66 34)) (v4 + ((it_sv m 79 (Int32.toNatClampNeg (m 66 34)) v4) 66 19))) 81 (Int32.toNatClampNeg (m 66 34)) ((v4 + ((it_sv (it_sv m 79 (Int32.toNatClampNeg (m 66 34)) v4) 80 (Int32.toNatClampNeg (m 66 34)) (v4 + ((it_sv m 79 (Int32.toNatClampNeg (m 66 34)) v4) 66 19))) 66 18)) + ((it_sv (it_sv m 79 (Int32.toNatClampNeg (m 66 34)) v4) 80 (Int32.toNatClampNeg (m 66 34)) (v4 + ((it_sv m 79 (Int32.toNatClampNeg (m 66 34)) v4) 66 19))) 66 20))) 66 21)) 83 (Int32.toNatClampNeg (m 66 34)) ((it_sv (it_sv (it_sv (it_sv m 79 (Int32.toNatClampNeg (m 66 34)) v4) 80 (Int32.toNatClampNeg (m 66 34)) (v4 + ((it_sv m 79 (Int32.toNatClampNeg (m 66 34)) v4) 66 19))) 81 (Int32.toNatClampNeg (m 66 34)) ((v4 + ((it_sv (it_sv m 79 (Int32.toNatClampNeg (m 66 34)) v4) 80 (Int32.toNatClampNeg (m 66 34)) (v4 + ((it_sv m 79 (Int32.toNatClampNeg (m 66 34)) v4) 66 19))) 66 18)) + ((it_sv (it_sv m 79 (Int32.toNatClampNeg (m 66 34)) v4) 80 (Int32.toNatClampNeg (m 66 34)) (v4 + ((it_sv m 79 (Int32.toNatClampNeg (m 66 34)) v4) 66 19))) 66 20))) 82 (Int32.toNatClampNeg (m 66 34)) ((it_sv (it_sv (it_sv m 79 (Int32.toNatClampNeg (m 66 34)) v4) 80 (Int32.toNatClampNeg (m 66 34)) (v4 + ((it_sv m 79 (Int32.toNatClampNeg (m 66 34)) v4) 66 19))) 81 (Int32.toNatClampNeg (m 66 34)) ((v4 + ((it_sv (it_sv m 79 (Int32.toNatClampNeg (m 66 34)) v4) 80 (Int32.toNatClampNeg (m 66 34)) (v4 + ((it_sv m 79 (Int32.toNatClampNeg (m 66 34)) v4) 66 19))) 66 18)) + ((it_sv (it_sv m 79 (Int32.toNatClampNeg (m 66 34)) v4) 80 (Int32.toNatClampNeg (m 66 34)) (v4 + ((it_sv m 79 (Int32.toNatClampNeg (m 66 34)) v4) 66 19))) 66 20))) 66 21)) 66 23)) 66 24)) 85 (Int32.toNatClampNeg (m 66 34)) ((it_sv (it_sv (it_sv (it_sv (it_sv (it_sv m 79 (Int32.toNatClampNeg (m 66 34)) v4) 80 (Int32.toNatClampNeg (m 66 34)) (v4 + ((it_sv m 79 (Int32.toNatClampNeg (m 66 34)) v4) 66 19))) 81 (Int32.toNatClampNeg (m 66 34)) ((v4 + ((it_sv (it_sv m 79 (Int32.toNatClampNeg (m 66 34)) v4) 80 (Int32.toNatClampNeg (m 66 34)) (v4 + ((it_sv m 79 (Int32.toNatClampNeg (m 66 34)) v4) 66 19))) 66 18)) + ((it_sv (it_sv m 79 (Int32.toNatClampNeg (m 66 34)) v4) 80 (Int32.toNatClampNeg (m 66 34)) (v4 + ((it_sv m 79 (Int32.toNatClampNeg (m 66 34)) v4) 66 19))) 66 20))) 82 (Int32.toNatClampNeg (m 66 34)) ((it_sv (it_sv (it_sv m 79 (Int32.toNatClampNeg (m 66 34)) v4) 80 (Int32.toNatClampNeg (m 66 34)) (v4 + ((it_sv m 79 (Int32.toNatClampNeg (m 66 34)) v4) 66 19))) 81 (Int32.toNatClampNeg (m 66 34)) ((v4 + ((it_sv (it_sv m 79 (Int32.toNatClampNeg (m 66 34)) v4) 80 (Int32.toNatClampNeg (m 66 34)) (v4 + ((it_sv m 79 (Int32.toNatClampNeg (m 66 34)) v4) 66 19))) 66 18)) + ((it_sv (it_sv m 79 (Int32.toNatClampNeg (m 66 34)) v4) 80 (Int32.toNatClampNeg (m 66 34)) (v4 + ((it_sv m 79 (Int32.toNatClampNeg (m 66 34)) v4) 66 19))) 66 20))) 66 21)) 83 (Int32.toNatClampNeg (m 66 34)) ((it_sv (it_sv (it_sv (it_sv m 79 (Int32.toNatClampNeg (m 66 34)) v4) 80 (Int32.toNatClampNeg (m 66 34)) (v4 + ((it_sv m 79 (Int32.toNatClampNeg (m 66 34)) v4) 66 19))) 81 (Int32.toNatClampNeg (m 66 34)) ((v4 + ((it_sv (it_sv m 79 (Int32.toNatClampNeg (m 66 34)) v4) 80 (Int32.toNatClampNeg (m 66 34)) (v4 + ((it_sv m 79 (Int32.toNatClampNeg (m 66 34)) v4) 66 19))) 66 18)) + ((it_sv (it_sv m 79 (Int32.toNatClampNeg (m 66 34)) v4) 80 (Int32.toNatClampNeg (m 66 34)) (v4 + ((it_sv m 79 (Int32.toNatClampNeg (m 66 34)) v4) 66 19))) 66 20))) 82 (Int32.toNatClampNeg (m 66 34)) ((it_sv (it_sv (it_sv m 79 (Int32.toNatClampNeg (m 66 34)) v4) 80 (Int32.toNatClampNeg (m 66 34)) (v4 + ((it_sv m 79 (Int32.toNatClampNeg (m 66 34)) v4) 66 19))) 81 (Int32.toNatClampNeg (m 66 34)) ((v4 + ((it_sv (it_sv m 79 (Int32.toNatClampNeg (m 66 34)) v4) 80 (Int32.toNatClampNeg (m 66 34)) (v4 + ((it_sv m 79 (Int32.toNatClampNeg (m 66 34)) v4) 66 19))) 66 18)) + ((it_sv (it_sv m 79 (Int32.toNatClampNeg (m 66 34)) v4) 80 (Int32.toNatClampNeg (m 66 34)) (v4 + ((it_sv m 79 (Int32.toNatClampNeg (m 66 34)) v4) 66 19))) 66 20))) 66 21)) 66 23)) 84 (Int32.toNatClampNeg (m 66 34)) ((it_sv (it_sv (it_sv (it_sv (it_sv m 79 (Int32.toNatClampNeg (m 66 34)) v4) 80 (Int32.toNatClampNeg (m 66 34)) (v4 + ((it_sv m 79 (Int32.toNatClampNeg (m 66 34)) v4) 66 19))) 81 (Int32.toNatClampNeg (m 66 34)) ((v4 + ((it_sv (it_sv m 79 (Int32.toNatClampNeg (m 66 34)) v4) 80 (Int32.toNatClampNeg (m 66 34)) (v4 + ((it_sv m 79 (Int32.toNatClampNeg (m 66 34)) v4) 66 19))) 66 18)) + ((it_sv (it_sv m 79 (Int32.toNatClampNeg (m 66 34)) v4) 80 (Int32.toNatClampNeg (m 66 34)) (v4 + ((it_sv m 79 (Int32.toNatClampNeg (m 66 34)) v4) 66 19))) 66 20))) 82 (Int32.toNatClampNeg (m 66 34)) ((it_sv (it_sv (it_sv m 79 (Int32.toNatClampNeg (m 66 34)) v4) 80 (Int32.toNatClampNeg (m 66 34)) (v4 + ((it_sv m 79 (Int32.toNatClampNeg (m 66 34)) v4) 66 19))) 81 (Int32.toNatClampNeg (m 66 34)) ((v4 + ((it_sv (it_sv m 79 (Int32.toNatClampNeg (m 66 34)) v4) 80 (Int32.toNatClampNeg (m 66 34)) (v4 + ((it_sv m 79 (Int32.toNatClampNeg (m 66 34)) v4) 66 19))) 66 18)) + ((it_sv (it_sv m 79 (Int32.toNatClampNeg (m 66 34)) v4) 80 (Int32.toNatClampNeg (m 66 34)) (v4 + ((it_sv m 79 (Int32.toNatClampNeg (m 66 34)) v4) 66 19))) 66 20))) 66 21)) 83 (Int32.toNatClampNeg (m 66 34)) ((it_sv (it_sv (it_sv (it_sv m 79 (Int32.toNatClampNeg (m 66 34)) v4) 80 (Int32.toNatClampNeg (m 66 34)) (v4 + ((it_sv m 79 (Int32.toNatClampNeg (m 66 34)) v4) 66 19))) 81 (Int32.toNatClampNeg (m 66 34)) ((v4 + ((it_sv (it_sv m 79 (Int32.toNatClampNeg (m 66 34)) v4) 80 (Int32.toNatClampNeg (m 66 34)) (v4 + ((it_sv m 79 (Int32.toNatClampNeg (m 66 34)) v4) 66 19))) 66 18)) + ((it_sv (it_sv m 79 (Int32.toNatClampNeg (m 66 34)) v4) 80 (Int32.toNatClampNeg (m 66 34)) (v4 + ((it_sv m 79 (Int32.toNatClampNeg (m 66 34)) v4) 66 19))) 66 20))) 82 (Int32.toNatClampNeg (m 66 34)) ((it_sv (it_sv (it_sv m 79 (Int32.toNatClampNeg (m 66 34)) v4) 80 (Int32.toNatClampNeg (m 66 34)) (v4 + ((it_sv m 79 (Int32.toNatClampNeg (m 66 34)) v4) 66 19))) 81 (Int32.toNatClampNeg (m 66 34)) ((v4 + ((it_sv (it_sv m 79 (Int32.toNatClampNeg (m 66 34)) v4) 80 (Int32.toNatClampNeg (m 66 34)) (v4 + ((it_sv m 79 (Int32.toNatClampNeg (m 66 34)) v4) 66 19))) 66 18)) + ((it_sv (it_sv m 79 (Int32.toNatClampNeg (m 66 34)) v4) 80 (Int32.toNatClampNeg (m 66 34)) (v4 + ((it_sv m 79 (Int32.toNatClampNeg (m 66 34)) v4) 66 19))) 66 20))) 66 21)) 66 23)) 66 24)) 66 25)) 66 26)) 66 27)) 66 28)) 89 (Int32.toNatClampNeg (m 66 34)) v7) 90 (Int32.toNatClampNeg (m 66 34)) v6) 66 34) + (1 : Int32)))))))))))))))
def w_250_87 (kc : it_Kc) (Φ : it_Me → Prop) (K10 : Int32 → Int32 → it_Me → Prop) (K296 : it_Me → Prop) (v2 : Int32) (v3 : Int32) (v4 : Int32) (v5 : Int32) (v6 : Int32) (m : it_Me) : Prop :=
  ¬ v6 = 0 ∧ ((v5 = 0 → w_250_290 kc Φ K10 K296 v2 v3 m) ∧ (¬ v5 = 0 → ((196608 : Int32) < (((((v2 + v6) - (1 : Int32)) / v6) * v6) + v6) → w_250_290 kc Φ K10 K296 v2 v3 m) ∧ (¬ (196608 : Int32) < (((((v2 + v6) - (1 : Int32)) / v6) * v6) + v6) → ((m 66 25) ≤ 0 → w_250_131 kc Φ K10 K296 v3 v4 v6 ((((v2 + v6) - (1 : Int32)) / v6) * v6) m) ∧ (¬ (m 66 25) ≤ 0 → w_249 kc v3 m (fun r1 m2 => (r1 = 0 → w_250_131 kc Φ K10 K296 v3 v4 v6 ((((v2 + v6) - (1 : Int32)) / v6) * v6) m2) ∧ (¬ r1 = 0 → w_250_290 kc Φ K10 K296 v2 v3 m2))))))
def w_250_58 (kc : it_Kc) (Φ : it_Me → Prop) (K10 : Int32 → Int32 → it_Me → Prop) (K296 : it_Me → Prop) (v2 : Int32) (v3 : Int32) (v4 : Int32) (u0 : Int32) (m : it_Me) : Prop :=
  ∃ e, w_250_65 kc Φ (fun v2 v3 v4 v5 v6 m => w_250_87 kc Φ K10 K296 v2 v3 v4 v5 v6 m) e v2 v3 v4 u0 (1024 : Int32) m
def w_250_57 (kc : it_Kc) (Φ : it_Me → Prop) (K10 : Int32 → Int32 → it_Me → Prop) (K296 : it_Me → Prop) (v2 : Int32) (v3 : Int32) (v4 : Int32) (m : it_Me) : Prop :=
  w_250_58 kc Φ K10 K296 v2 v3 v4 (0 : Int32) m
def w_250_10 (kc : it_Kc) (Φ : it_Me → Prop) (K296 : it_Me → Prop) : Nat → Int32 → Int32 → it_Me → Prop
  | 0, _, _, _ => False
  | n10 + 1, v2, v3, m =>
  ((m 66 33) ≤ v3 → K296 m) ∧ (¬ (m 66 33) ≤ v3 → ((8 : Int32) ≤ (m 66 34) → K296 m) ∧ (¬ (8 : Int32) ≤ (m 66 34) → vp_in v3 2048 ∧ (w_244 kc (m 75 (Int32.toNatClampNeg v3)) m (fun r1 m2 => (r1 = 0 → w_250_57 kc Φ (w_250_10 kc Φ K296 n10) K296 v2 v3 (m 75 (Int32.toNatClampNeg v3)) m2) ∧ (¬ r1 = 0 → w_245 kc (m 75 (Int32.toNatClampNeg v3)) m2 (fun r3 m4 => (r3 = 0 → w_250_57 kc Φ (w_250_10 kc Φ K296 n10) K296 v2 v3 (m 75 (Int32.toNatClampNeg v3)) m4) ∧ (¬ r3 = 0 → w_250_58 kc Φ (w_250_10 kc Φ K296 n10) K296 v2 v3 (m 75 (Int32.toNatClampNeg v3)) (1 : Int32) m4)))))))
def w_250_296 (kc : it_Kc) (Φ : it_Me → Prop) (m : it_Me) : Prop :=
  Φ m
def w_250 (kc : it_Kc) (x0 : Int32) (m : it_Me) (Φ : it_Me → Prop) : Prop :=
  w_248 kc x0 m (fun m1 => ∃ e, w_250_10 kc Φ (fun m => w_250_296 kc Φ m) e (131072 : Int32) (0 : Int32) m1)
/-- GrantBoardModel.control(I)I -/
def w_252 (kc : it_Kc) (x0 : Int32) (m : it_Me) (Φ : Int32 → it_Me → Prop) : Prop :=
  vp_in x0 8 ∧ (vp_in x0 8 ∧ (Φ (((m 89 (Int32.toNatClampNeg x0)) + (m 90 (Int32.toNatClampNeg x0))) - (64 : Int32)) m))
/-- GrantBoardModel.appStart(I)I -/
def w_254 (kc : it_Kc) (x0 : Int32) (m : it_Me) (Φ : Int32 → it_Me → Prop) : Prop :=
  vp_in x0 8 ∧ (vp_in x0 8 ∧ (w_219 kc ((m 79 (Int32.toNatClampNeg x0)) + (2 : Int32)) m (fun r1 m2 => Φ ((m 79 (Int32.toNatClampNeg x0)) + r1) m2)))
/-- GrantBoardModel.begin(I)V -/
def w_253_77 (kc : it_Kc) (Φ : it_Me → Prop) (K101 : Int32 → it_Me → Prop) : Nat → Int32 → Int32 → it_Me → Prop
  | 0, _, _, _ => False
  | n77 + 1, v1, v2, m =>
  ((32 : Int32) ≤ v2 → K101 v1 m) ∧ (¬ (32 : Int32) ≤ v2 → vp_in (((32 : Int32) * v1) + v2) 256 ∧ ((w_253_77 kc Φ K101 n77) v1 (v2 + (1 : Int32)) (it_sv m 93 (Int32.toNatClampNeg (((32 : Int32) * v1) + v2)) (0 : Int32))))
def w_253_2 (kc : it_Kc) (Φ : it_Me → Prop) (K32 : Int32 → it_Me → Prop) : Nat → Int32 → Int32 → it_Me → Prop
  | 0, _, _, _ => False
  | n2 + 1, v1, v2, m =>
  vp_in v1 8 ∧ (((m 90 (Int32.toNatClampNeg v1)) ≤ v2 → K32 v1 m) ∧ (¬ (m 90 (Int32.toNatClampNeg v1)) ≤ v2 → vp_in v1 8 ∧ (vp_in ((m 89 (Int32.toNatClampNeg v1)) + v2) 196608 ∧ ((w_253_2 kc Φ K32 n2) v1 (v2 + (1 : Int32)) (it_sv m 67 (Int32.toNatClampNeg ((m 89 (Int32.toNatClampNeg v1)) + v2)) (it_i2b (0 : Int32)))))))
def w_253_101 (kc : it_Kc) (Φ : it_Me → Prop) (v1 : Int32) (m : it_Me) : Prop :=
  vp_in v1 8 ∧ (vp_in (((32 : Int32) * v1) + (2 : Int32)) 256 ∧ (w_254 kc v1 (it_sv m 93 (Int32.toNatClampNeg (((32 : Int32) * v1) + (2 : Int32))) (m 91 (Int32.toNatClampNeg v1))) (fun r1 m2 => vp_in (((32 : Int32) * v1) + (10 : Int32)) 256 ∧ (vp_in v1 8 ∧ (vp_in (((32 : Int32) * v1) + (11 : Int32)) 256 ∧ (vp_in v1 8 ∧ (vp_in (((32 : Int32) * v1) + (12 : Int32)) 256 ∧ (vp_in v1 8 ∧ (vp_in (((32 : Int32) * v1) + (13 : Int32)) 256 ∧ (vp_in v1 8 ∧ (vp_in v1 8 ∧ (vp_in v1 8 ∧ (vp_in v1 8 ∧ (vp_in v1 8 ∧ (Φ (it_sv (it_sv (it_sv (it_sv (it_sv (it_sv (it_sv (it_sv m2 93 (Int32.toNatClampNeg (((32 : Int32) * v1) + (10 : Int32))) r1) 93 (Int32.toNatClampNeg (((32 : Int32) * v1) + (11 : Int32))) ((it_sv m2 93 (Int32.toNatClampNeg (((32 : Int32) * v1) + (10 : Int32))) r1) 89 (Int32.toNatClampNeg v1))) 93 (Int32.toNatClampNeg (((32 : Int32) * v1) + (12 : Int32))) ((it_sv (it_sv m2 93 (Int32.toNatClampNeg (((32 : Int32) * v1) + (10 : Int32))) r1) 93 (Int32.toNatClampNeg (((32 : Int32) * v1) + (11 : Int32))) ((it_sv m2 93 (Int32.toNatClampNeg (((32 : Int32) * v1) + (10 : Int32))) r1) 89 (Int32.toNatClampNeg v1))) 90 (Int32.toNatClampNeg v1))) 93 (Int32.toNatClampNeg (((32 : Int32) * v1) + (13 : Int32))) ((it_sv (it_sv (it_sv m2 93 (Int32.toNatClampNeg (((32 : Int32) * v1) + (10 : Int32))) r1) 93 (Int32.toNatClampNeg (((32 : Int32) * v1) + (11 : Int32))) ((it_sv m2 93 (Int32.toNatClampNeg (((32 : Int32) * v1) + (10 : Int32))) r1) 89 (Int32.toNatClampNeg v1))) 93 (Int32.toNatClampNeg (((32 : Int32) * v1) + (12 : Int32))) ((it_sv (it_sv m2 93 (Int32.toNatClampNeg (((32 : Int32) * v1) + (10 : Int32))) r1) 93 (Int32.toNatClampNeg (((32 : Int32) * v1) + (11 : Int32))) ((it_sv m2 93 (Int32.toNatClampNeg (((32 : Int32) * v1) + (10 : Int32))) r1) 89 (Int32.toNatClampNeg v1))) 90 (Int32.toNatClampNeg v1))) 91 (Int32.toNatClampNeg v1))) 94 (Int32.toNatClampNeg v1) (((it_sv (it_sv (it_sv (it_sv m2 93 (Int32.toNatClampNeg (((32 : Int32) * v1) + (10 : Int32))) r1) 93 (Int32.toNatClampNeg (((32 : Int32) * v1) + (11 : Int32))) ((it_sv m2 93 (Int32.toNatClampNeg (((32 : Int32) * v1) + (10 : Int32))) r1) 89 (Int32.toNatClampNeg v1))) 93 (Int32.toNatClampNeg (((32 : Int32) * v1) + (12 : Int32))) ((it_sv (it_sv m2 93 (Int32.toNatClampNeg (((32 : Int32) * v1) + (10 : Int32))) r1) 93 (Int32.toNatClampNeg (((32 : Int32) * v1) + (11 : Int32))) ((it_sv m2 93 (Int32.toNatClampNeg (((32 : Int32) * v1) + (10 : Int32))) r1) 89 (Int32.toNatClampNeg v1))) 90 (Int32.toNatClampNeg v1))) 93 (Int32.toNatClampNeg (((32 : Int32) * v1) + (13 : Int32))) ((it_sv (it_sv (it_sv m2 93 (Int32.toNatClampNeg (((32 : Int32) * v1) + (10 : Int32))) r1) 93 (Int32.toNatClampNeg (((32 : Int32) * v1) + (11 : Int32))) ((it_sv m2 93 (Int32.toNatClampNeg (((32 : Int32) * v1) + (10 : Int32))) r1) 89 (Int32.toNatClampNeg v1))) 93 (Int32.toNatClampNeg (((32 : Int32) * v1) + (12 : Int32))) ((it_sv (it_sv m2 93 (Int32.toNatClampNeg (((32 : Int32) * v1) + (10 : Int32))) r1) 93 (Int32.toNatClampNeg (((32 : Int32) * v1) + (11 : Int32))) ((it_sv m2 93 (Int32.toNatClampNeg (((32 : Int32) * v1) + (10 : Int32))) r1) 89 (Int32.toNatClampNeg v1))) 90 (Int32.toNatClampNeg v1))) 91 (Int32.toNatClampNeg v1))) 81 (Int32.toNatClampNeg v1)) &&& (-2 : Int32))) 95 (Int32.toNatClampNeg v1) (1 : Int32)) 97 (Int32.toNatClampNeg v1) (0 : Int32)) 101 (Int32.toNatClampNeg v1) (0 : Int32)))))))))))))))))
def w_253_32 (kc : it_Kc) (Φ : it_Me → Prop) (v1 : Int32) (m : it_Me) : Prop :=
  vp_in v1 8 ∧ (vp_in v1 8 ∧ (¬ (4 : Int32) = 0 ∧ (vp_in v1 8 ∧ (w_252 kc v1 (it_sv m 91 (Int32.toNatClampNeg v1) ((m 89 (Int32.toNatClampNeg v1)) + ((((m 82 (Int32.toNatClampNeg v1)) + (3 : Int32)) / (4 : Int32)) * (4 : Int32)))) (fun r1 m2 => vp_in v1 8 ∧ (vp_in v1 8 ∧ (∃ e, w_253_77 kc Φ (fun v1 m => w_253_101 kc Φ v1 m) e v1 (0 : Int32) (it_sv (it_sv m2 92 (Int32.toNatClampNeg v1) r1) 110 (Int32.toNatClampNeg v1) (0 : Int32)))))))))
def w_253 (kc : it_Kc) (x0 : Int32) (m : it_Me) (Φ : it_Me → Prop) : Prop :=
  ∃ e, w_253_2 kc Φ (fun v1 m => w_253_32 kc Φ v1 m) e x0 (0 : Int32) m
/-- GrantBoardModel.boot(IIIZI)I -/
def w_251_78 (kc : it_Kc) (Φ : Int32 → it_Me → Prop) (K98 : Int32 → it_Me → Prop) : Nat → Int32 → Int32 → it_Me → Prop
  | 0, _, _, _ => False
  | n78 + 1, v4, v6, m =>
  ((4 : Int32) ≤ v6 → K98 v4 m) ∧ (¬ (4 : Int32) ≤ v6 → vp_in v6 4 ∧ ((w_251_78 kc Φ K98 n78) v4 (v6 + (1 : Int32)) (it_sv m 71 (Int32.toNatClampNeg v6) ((0 : Int32) &&& 1))))
def w_251_146 (kc : it_Kc) (Φ : Int32 → it_Me → Prop) (K248 : it_Me → Prop) : Nat → Int32 → it_Me → Prop
  | 0, _, _ => False
  | n146 + 1, v6, m =>
  ((m 66 34) ≤ v6 → K248 m) ∧ (¬ (m 66 34) ≤ v6 → vp_in v6 8 ∧ (vp_in v6 8 ∧ (vp_in v6 8 ∧ (vp_in v6 8 ∧ (vp_in v6 8 ∧ (vp_in v6 8 ∧ (vp_in v6 8 ∧ (vp_in v6 8 ∧ (vp_in v6 8 ∧ (vp_in v6 8 ∧ (w_253 kc v6 (it_sv (it_sv (it_sv (it_sv (it_sv (it_sv (it_sv (it_sv (it_sv (it_sv m 96 (Int32.toNatClampNeg v6) ((0 : Int32) &&& 1)) 100 (Int32.toNatClampNeg v6) (0 : Int32)) 101 (Int32.toNatClampNeg v6) (0 : Int32)) 102 (Int32.toNatClampNeg v6) (0 : Int32)) 103 (Int32.toNatClampNeg v6) (0 : Int32)) 104 (Int32.toNatClampNeg v6) (0 : Int32)) 105 (Int32.toNatClampNeg v6) (0 : Int32)) 106 (Int32.toNatClampNeg v6) (0 : Int32)) 107 (Int32.toNatClampNeg v6) (0 : Int32)) 108 (Int32.toNatClampNeg v6) v6) (fun m1 => (w_251_146 kc Φ K248 n146) (v6 + (1 : Int32)) m1))))))))))))
def w_251_41 (kc : it_Kc) (Φ : Int32 → it_Me → Prop) (m : it_Me) : Prop :=
  Φ (-2 : Int32) m
def w_251_248 (kc : it_Kc) (Φ : Int32 → it_Me → Prop) (m : it_Me) : Prop :=
  Φ (m 66 34) m
def w_251_98 (kc : it_Kc) (Φ : Int32 → it_Me → Prop) (v4 : Int32) (m : it_Me) : Prop :=
  w_241 kc m (fun m1 => ((m1 66 4) = 0 → w_250 kc v4 m1 (fun m2 => ∃ e, w_251_146 kc Φ (fun m => w_251_248 kc Φ m) e (0 : Int32) (it_sv (it_sv (it_sv (it_sv m2 66 3 (1 : Int32)) 66 70 (-1 : Int32)) 66 71 (0 : Int32)) 66 69 (0 : Int32)))) ∧ (¬ (m1 66 4) = 0 → Φ (-4 : Int32) (it_sv m1 66 4 (0 : Int32))))
def w_251 (kc : it_Kc) (x0 : Int32) (x1 : Int32) (x2 : Int32) (x3 : Int32) (x4 : Int32) (m : it_Me) (Φ : Int32 → it_Me → Prop) : Prop :=
  ((m 66 3) = 0 → (x0 < 0 → w_251_41 kc Φ m) ∧ (¬ x0 < 0 → ((2 : Int32) < x0 → w_251_41 kc Φ m) ∧ (¬ (2 : Int32) < x0 → (x1 < (1 : Int32) → w_251_41 kc Φ m) ∧ (¬ x1 < (1 : Int32) → ((1000 : Int32) < x1 → w_251_41 kc Φ m) ∧ (¬ (1000 : Int32) < x1 → (x2 < 0 → w_251_41 kc Φ m) ∧ (¬ x2 < 0 → (x2 ≤ (100 : Int32) → ∃ e, w_251_78 kc Φ (fun v4 m => w_251_98 kc Φ v4 m) e x3 (0 : Int32) (it_sv (it_sv (it_sv (it_sv (it_sv (it_sv m 66 7 x0) 66 8 x1) 66 9 x2) 66 10 x4) 66 6 (0 : Int32)) 66 4 (0 : Int32))) ∧ (¬ x2 ≤ (100 : Int32) → w_251_41 kc Φ m))))))) ∧ (¬ (m 66 3) = 0 → Φ (-3 : Int32) m)
/-- GrantBoardModel.note(III)V -/
def w_257 (kc : it_Kc) (x0 : Int32) (x1 : Int32) (x2 : Int32) (m : it_Me) (Φ : it_Me → Prop) : Prop :=
  vp_in (11 : Int32) 12 ∧ (¬ (200 : Int64) = 0 ∧ (vp_in ((4 : Int32) * (Int64.toInt32 (it_lrem ((Int32.toInt64 (m 69 (Int32.toNatClampNeg (11 : Int32)))) &&& (4294967295 : Int64)) (200 : Int64)))) 800 ∧ (vp_in (((4 : Int32) * (Int64.toInt32 (it_lrem ((Int32.toInt64 (m 69 (Int32.toNatClampNeg (11 : Int32)))) &&& (4294967295 : Int64)) (200 : Int64)))) + (1 : Int32)) 800 ∧ (vp_in (((4 : Int32) * (Int64.toInt32 (it_lrem ((Int32.toInt64 (m 69 (Int32.toNatClampNeg (11 : Int32)))) &&& (4294967295 : Int64)) (200 : Int64)))) + (2 : Int32)) 800 ∧ (vp_in (((4 : Int32) * (Int64.toInt32 (it_lrem ((Int32.toInt64 (m 69 (Int32.toNatClampNeg (11 : Int32)))) &&& (4294967295 : Int64)) (200 : Int64)))) + (3 : Int32)) 800 ∧ (vp_in (11 : Int32) 12 ∧ (vp_in (11 : Int32) 12 ∧ (Φ (it_sv (it_sv (it_sv (it_sv (it_sv m 74 (Int32.toNatClampNeg ((4 : Int32) * (Int64.toInt32 (it_lrem ((Int32.toInt64 (m 69 (Int32.toNatClampNeg (11 : Int32)))) &&& (4294967295 : Int64)) (200 : Int64))))) (m 66 6)) 74 (Int32.toNatClampNeg (((4 : Int32) * (Int64.toInt32 (it_lrem ((Int32.toInt64 (m 69 (Int32.toNatClampNeg (11 : Int32)))) &&& (4294967295 : Int64)) (200 : Int64)))) + (1 : Int32))) x0) 74 (Int32.toNatClampNeg (((4 : Int32) * (Int64.toInt32 (it_lrem ((Int32.toInt64 (m 69 (Int32.toNatClampNeg (11 : Int32)))) &&& (4294967295 : Int64)) (200 : Int64)))) + (2 : Int32))) x1) 74 (Int32.toNatClampNeg (((4 : Int32) * (Int64.toInt32 (it_lrem ((Int32.toInt64 (m 69 (Int32.toNatClampNeg (11 : Int32)))) &&& (4294967295 : Int64)) (200 : Int64)))) + (3 : Int32))) x2) 69 (Int32.toNatClampNeg (11 : Int32)) (((it_sv (it_sv (it_sv (it_sv m 74 (Int32.toNatClampNeg ((4 : Int32) * (Int64.toInt32 (it_lrem ((Int32.toInt64 (m 69 (Int32.toNatClampNeg (11 : Int32)))) &&& (4294967295 : Int64)) (200 : Int64))))) (m 66 6)) 74 (Int32.toNatClampNeg (((4 : Int32) * (Int64.toInt32 (it_lrem ((Int32.toInt64 (m 69 (Int32.toNatClampNeg (11 : Int32)))) &&& (4294967295 : Int64)) (200 : Int64)))) + (1 : Int32))) x0) 74 (Int32.toNatClampNeg (((4 : Int32) * (Int64.toInt32 (it_lrem ((Int32.toInt64 (m 69 (Int32.toNatClampNeg (11 : Int32)))) &&& (4294967295 : Int64)) (200 : Int64)))) + (2 : Int32))) x1) 74 (Int32.toNatClampNeg (((4 : Int32) * (Int64.toInt32 (it_lrem ((Int32.toInt64 (m 69 (Int32.toNatClampNeg (11 : Int32)))) &&& (4294967295 : Int64)) (200 : Int64)))) + (3 : Int32))) x2) 69 (Int32.toNatClampNeg (11 : Int32))) + (1 : Int32)))))))))))
/-- GrantBoardModel.startAgain(I)V -/
def w_255 (kc : it_Kc) (x0 : Int32) (m : it_Me) (Φ : it_Me → Prop) : Prop :=
  vp_in x0 8 ∧ (vp_in x0 8 ∧ (vp_in (8 : Int32) 12 ∧ (vp_in (8 : Int32) 12 ∧ (w_253 kc x0 (it_sv (it_sv m 100 (Int32.toNatClampNeg x0) ((m 100 (Int32.toNatClampNeg x0)) + (1 : Int32))) 69 (Int32.toNatClampNeg (8 : Int32)) (((it_sv m 100 (Int32.toNatClampNeg x0) ((m 100 (Int32.toNatClampNeg x0)) + (1 : Int32))) 69 (Int32.toNatClampNeg (8 : Int32))) + (1 : Int32))) (fun m1 => vp_in x0 8 ∧ (w_257 kc x0 (3 : Int32) (m1 100 (Int32.toNatClampNeg x0)) m1 (fun m2 => Φ m2)))))))
/-- GrantBoardModel.subscriptions(I)I -/
def w_264_25 (kc : it_Kc) (Φ : Int32 → it_Me → Prop) (u0 : Int32) (m : it_Me) : Prop :=
  Φ u0 m
def w_264_20 (kc : it_Kc) (Φ : Int32 → it_Me → Prop) (m : it_Me) : Prop :=
  w_264_25 kc Φ (0 : Int32) m
def w_264 (kc : it_Kc) (x0 : Int32) (m : it_Me) (Φ : Int32 → it_Me → Prop) : Prop :=
  (x0 = (1 : Int32) → w_264_25 kc Φ (3 : Int32) m) ∧ (¬ x0 = (1 : Int32) → (x0 = (2 : Int32) → w_264_20 kc Φ m) ∧ (¬ x0 = (2 : Int32) → (x0 = (8 : Int32) → w_264_20 kc Φ m) ∧ (¬ x0 = (8 : Int32) → w_264_25 kc Φ (1 : Int32) m)))
/-- GrantBoardModel.readBuffers(I)I -/
def w_265_31 (kc : it_Kc) (Φ : Int32 → it_Me → Prop) (u0 : Int32) (m : it_Me) : Prop :=
  Φ u0 m
def w_265_26 (kc : it_Kc) (Φ : Int32 → it_Me → Prop) (m : it_Me) : Prop :=
  w_265_31 kc Φ (1 : Int32) m
def w_265 (kc : it_Kc) (x0 : Int32) (m : it_Me) (Φ : Int32 → it_Me → Prop) : Prop :=
  (x0 = (1 : Int32) → w_265_31 kc Φ (2 : Int32) m) ∧ (¬ x0 = (1 : Int32) → (x0 = (5 : Int32) → w_265_26 kc Φ m) ∧ (¬ x0 = (5 : Int32) → (x0 = (7 : Int32) → w_265_26 kc Φ m) ∧ (¬ x0 = (7 : Int32) → (x0 = (8 : Int32) → w_265_26 kc Φ m) ∧ (¬ x0 = (8 : Int32) → w_265_31 kc Φ (0 : Int32) m))))
/-- GrantBoardModel.writeBuffers(I)I -/
def w_266_30 (kc : it_Kc) (Φ : Int32 → it_Me → Prop) (u0 : Int32) (m : it_Me) : Prop :=
  Φ u0 m
def w_266_25 (kc : it_Kc) (Φ : Int32 → it_Me → Prop) (m : it_Me) : Prop :=
  w_266_30 kc Φ (1 : Int32) m
def w_266 (kc : it_Kc) (x0 : Int32) (m : it_Me) (Φ : Int32 → it_Me → Prop) : Prop :=
  (x0 = (1 : Int32) → w_266_30 kc Φ (2 : Int32) m) ∧ (¬ x0 = (1 : Int32) → (x0 = (4 : Int32) → w_266_25 kc Φ m) ∧ (¬ x0 = (4 : Int32) → (x0 = (5 : Int32) → w_266_25 kc Φ m) ∧ (¬ x0 = (5 : Int32) → (x0 = (7 : Int32) → w_266_25 kc Φ m) ∧ (¬ x0 = (7 : Int32) → w_266_30 kc Φ (0 : Int32) m))))
/-- GrantBoardModel.ownWords(I)I -/
def w_267_39 (kc : it_Kc) (Φ : Int32 → it_Me → Prop) (u0 : Int32) (m : it_Me) : Prop :=
  Φ u0 m
def w_267_10 (kc : it_Kc) (Φ : Int32 → it_Me → Prop) (m : it_Me) : Prop :=
  w_267_39 kc Φ (3 : Int32) m
def w_267_34 (kc : it_Kc) (Φ : Int32 → it_Me → Prop) (m : it_Me) : Prop :=
  w_267_39 kc Φ (1 : Int32) m
def w_267 (kc : it_Kc) (x0 : Int32) (m : it_Me) (Φ : Int32 → it_Me → Prop) : Prop :=
  (x0 = 0 → w_267_10 kc Φ m) ∧ (¬ x0 = 0 → (x0 = (6 : Int32) → w_267_10 kc Φ m) ∧ (¬ x0 = (6 : Int32) → (x0 = (1 : Int32) → w_267_39 kc Φ (4 : Int32) m) ∧ (¬ x0 = (1 : Int32) → (x0 = (3 : Int32) → w_267_34 kc Φ m) ∧ (¬ x0 = (3 : Int32) → (x0 = (7 : Int32) → w_267_34 kc Φ m) ∧ (¬ x0 = (7 : Int32) → w_267_39 kc Φ (0 : Int32) m)))))
/-- GrantBoardModel.size(I)I -/
def w_268 (kc : it_Kc) (x0 : Int32) (m : it_Me) (Φ : Int32 → it_Me → Prop) : Prop :=
  w_264 kc x0 m (fun r1 m2 => w_265 kc x0 m2 (fun r3 m4 => w_266 kc x0 m4 (fun r5 m6 => w_267 kc x0 m6 (fun r7 m8 => Φ (((8 : Int32) + ((8 : Int32) * ((r1 + r3) + r5))) + ((4 : Int32) * r7)) m8))))
/-- GrantBoardModel.own(II)I -/
def w_269 (kc : it_Kc) (x0 : Int32) (x1 : Int32) (m : it_Me) (Φ : Int32 → it_Me → Prop) : Prop :=
  w_264 kc x1 m (fun r1 m2 => w_265 kc x1 m2 (fun r3 m4 => w_266 kc x1 m4 (fun r5 m6 => Φ ((x0 + (8 : Int32)) + ((8 : Int32) * ((r1 + r3) + r5))) m6)))
/-- GrantBoardModel.over(II)V -/
def w_256_61 (kc : it_Kc) (Φ : it_Me → Prop) (K81 : Int32 → Int32 → it_Me → Prop) : Nat → Int32 → Int32 → Int32 → it_Me → Prop
  | 0, _, _, _, _ => False
  | n61 + 1, v1, v5, v6, m =>
  (v5 ≤ v6 → K81 v1 v5 m) ∧ (¬ v5 ≤ v6 → w_221 kc v6 (0 : Int32) m (fun m1 => (w_256_61 kc Φ K81 n61) v1 v5 (v6 + (4 : Int32)) m1))
def w_256_81 (kc : it_Kc) (Φ : it_Me → Prop) (K28 : Int32 → Int32 → it_Me → Prop) (K87 : it_Me → Prop) (v1 : Int32) (v5 : Int32) (m : it_Me) : Prop :=
  K28 v1 v5 m
def w_256_28 (kc : it_Kc) (Φ : it_Me → Prop) (K87 : it_Me → Prop) : Nat → Int32 → Int32 → it_Me → Prop
  | 0, _, _, _ => False
  | n28 + 1, v1, v3, m =>
  w_252 kc v1 m (fun r1 m2 => (v3 = r1 → K87 m2) ∧ (¬ v3 = r1 → w_220 kc v3 m2 (fun r3 m4 => w_268 kc r3 m4 (fun r5 m6 => w_269 kc v3 r3 m6 (fun r7 m8 => ∃ e, w_256_61 kc Φ (fun v1 v5 m => w_256_81 kc Φ (w_256_28 kc Φ K87 n28) K87 v1 v5 m) e v1 (v3 + r5) r7 m8)))))
def w_256_87 (kc : it_Kc) (Φ : it_Me → Prop) (m : it_Me) : Prop :=
  Φ m
def w_256 (kc : it_Kc) (x0 : Int32) (x1 : Int32) (m : it_Me) (Φ : it_Me → Prop) : Prop :=
  vp_in x0 8 ∧ (vp_in x0 8 ∧ (vp_in x0 8 ∧ (vp_in x0 8 ∧ (∃ e, w_256_28 kc Φ (fun m => w_256_87 kc Φ m) e x0 ((it_sv (it_sv (it_sv m 95 (Int32.toNatClampNeg x0) x1) 110 (Int32.toNatClampNeg x0) (0 : Int32)) 97 (Int32.toNatClampNeg x0) (0 : Int32)) 92 (Int32.toNatClampNeg x0)) (it_sv (it_sv (it_sv m 95 (Int32.toNatClampNeg x0) x1) 110 (Int32.toNatClampNeg x0) (0 : Int32)) 97 (Int32.toNatClampNeg x0) (0 : Int32))))))
/-- GrantBoardModel.fault(III)V -/
def w_258_73 (kc : it_Kc) (Φ : it_Me → Prop) (m : it_Me) : Prop :=
  Φ m
def w_258 (kc : it_Kc) (x0 : Int32) (x1 : Int32) (x2 : Int32) (m : it_Me) (Φ : it_Me → Prop) : Prop :=
  vp_in (7 : Int32) 12 ∧ (vp_in (7 : Int32) 12 ∧ (vp_in x0 8 ∧ (vp_in x0 8 ∧ (vp_in x0 8 ∧ (vp_in x0 8 ∧ (w_257 kc x0 (2 : Int32) x1 (it_sv (it_sv (it_sv (it_sv m 69 (Int32.toNatClampNeg (7 : Int32)) ((m 69 (Int32.toNatClampNeg (7 : Int32))) + (1 : Int32))) 102 (Int32.toNatClampNeg x0) ((1 : Int32) + x1)) 103 (Int32.toNatClampNeg x0) x2) 104 (Int32.toNatClampNeg x0) ((it_sv (it_sv (it_sv m 69 (Int32.toNatClampNeg (7 : Int32)) ((m 69 (Int32.toNatClampNeg (7 : Int32))) + (1 : Int32))) 102 (Int32.toNatClampNeg x0) ((1 : Int32) + x1)) 103 (Int32.toNatClampNeg x0) x2) 94 (Int32.toNatClampNeg x0))) (fun m1 => vp_in x0 8 ∧ (((m1 66 9) ≤ (m1 100 (Int32.toNatClampNeg x0)) → w_256 kc x0 (5 : Int32) m1 (fun m2 => w_258_73 kc Φ m2)) ∧ (¬ (m1 66 9) ≤ (m1 100 (Int32.toNatClampNeg x0)) → w_255 kc x0 m1 (fun m3 => w_258_73 kc Φ m3))))))))))
/-- GrantBoardModel.may(IIII)Z -/
def w_259_79 (kc : it_Kc) (Φ : Int32 → it_Me → Prop) (u0 : Int32) (m : it_Me) : Prop :=
  (u0 = 0 ∨ u0 = 1) ∧ Φ u0 m
def w_259_78 (kc : it_Kc) (Φ : Int32 → it_Me → Prop) (m : it_Me) : Prop :=
  w_259_79 kc Φ (0 : Int32) m
def w_259_122 (kc : it_Kc) (Φ : Int32 → it_Me → Prop) (u0 : Int32) (m : it_Me) : Prop :=
  (u0 = 0 ∨ u0 = 1) ∧ Φ u0 m
def w_259_121 (kc : it_Kc) (Φ : Int32 → it_Me → Prop) (m : it_Me) : Prop :=
  w_259_122 kc Φ (0 : Int32) m
def w_259_80 (kc : it_Kc) (Φ : Int32 → it_Me → Prop) (v1 : Int32) (v3 : Int32) (v4 : Int32) (v5 : Int64) (m : it_Me) : Prop :=
  vp_in v1 8 ∧ (((lg_cmp v5 (Int32.toInt64 (m 89 (Int32.toNatClampNeg v1)))) < 0 → w_259_121 kc Φ m) ∧ (¬ (lg_cmp v5 (Int32.toInt64 (m 89 (Int32.toNatClampNeg v1)))) < 0 → vp_in v1 8 ∧ ((0 < (lg_cmp (v5 + (Int32.toInt64 v3)) (Int32.toInt64 (m 91 (Int32.toNatClampNeg v1)))) → w_259_121 kc Φ m) ∧ (¬ 0 < (lg_cmp (v5 + (Int32.toInt64 v3)) (Int32.toInt64 (m 91 (Int32.toNatClampNeg v1)))) → ((v4 &&& (-4 : Int32)) = 0 → w_259_122 kc Φ (1 : Int32) m) ∧ (¬ (v4 &&& (-4 : Int32)) = 0 → w_259_121 kc Φ m)))))
def w_259 (kc : it_Kc) (x0 : Int32) (x1 : Int32) (x2 : Int32) (x3 : Int32) (m : it_Me) (Φ : Int32 → it_Me → Prop) : Prop :=
  vp_in x0 8 ∧ (vp_in x0 8 ∧ ((0 ≤ (lg_cmp ((Int32.toInt64 x1) &&& (4294967295 : Int64)) (Int32.toInt64 (m 80 (Int32.toNatClampNeg x0)))) → w_259_80 kc Φ x0 x2 x3 ((Int32.toInt64 x1) &&& (4294967295 : Int64)) m) ∧ (¬ 0 ≤ (lg_cmp ((Int32.toInt64 x1) &&& (4294967295 : Int64)) (Int32.toInt64 (m 80 (Int32.toNatClampNeg x0)))) → ((lg_cmp (((Int32.toInt64 x1) &&& (4294967295 : Int64)) + (Int32.toInt64 x2)) (Int32.toInt64 (m 79 (Int32.toNatClampNeg x0)))) ≤ 0 → w_259_80 kc Φ x0 x2 x3 ((Int32.toInt64 x1) &&& (4294967295 : Int64)) m) ∧ (¬ (lg_cmp (((Int32.toInt64 x1) &&& (4294967295 : Int64)) + (Int32.toInt64 x2)) (Int32.toInt64 (m 79 (Int32.toNatClampNeg x0)))) ≤ 0 → ((lg_cmp ((Int32.toInt64 x1) &&& (4294967295 : Int64)) (Int32.toInt64 (m 79 (Int32.toNatClampNeg x0)))) < 0 → w_259_78 kc Φ m) ∧ (¬ (lg_cmp ((Int32.toInt64 x1) &&& (4294967295 : Int64)) (Int32.toInt64 (m 79 (Int32.toNatClampNeg x0)))) < 0 → (0 < (lg_cmp (((Int32.toInt64 x1) &&& (4294967295 : Int64)) + (Int32.toInt64 x2)) (Int32.toInt64 (m 80 (Int32.toNatClampNeg x0)))) → w_259_78 kc Φ m) ∧ (¬ 0 < (lg_cmp (((Int32.toInt64 x1) &&& (4294967295 : Int64)) + (Int32.toInt64 x2)) (Int32.toInt64 (m 80 (Int32.toNatClampNeg x0)))) → ((x3 &&& (-6 : Int32)) = 0 → w_259_79 kc Φ (1 : Int32) m) ∧ (¬ (x3 &&& (-6 : Int32)) = 0 → w_259_78 kc Φ m)))))))
/-- GrantBoardModel.isOwn(IJJ)Z -/
def w_260_32 (kc : it_Kc) (Φ : Int32 → it_Me → Prop) (u0 : Int32) (m : it_Me) : Prop :=
  (u0 = 0 ∨ u0 = 1) ∧ Φ u0 m
def w_260_31 (kc : it_Kc) (Φ : Int32 → it_Me → Prop) (m : it_Me) : Prop :=
  w_260_32 kc Φ (0 : Int32) m
def w_260 (kc : it_Kc) (x0 : Int32) (x1 : Int64) (x2 : Int64) (m : it_Me) (Φ : Int32 → it_Me → Prop) : Prop :=
  vp_in x0 8 ∧ (((lg_cmp x1 (Int32.toInt64 (m 89 (Int32.toNatClampNeg x0)))) < 0 → w_260_31 kc Φ m) ∧ (¬ (lg_cmp x1 (Int32.toInt64 (m 89 (Int32.toNatClampNeg x0)))) < 0 → vp_in x0 8 ∧ ((0 < (lg_cmp (x1 + x2) (Int32.toInt64 (m 91 (Int32.toNatClampNeg x0)))) → w_260_31 kc Φ m) ∧ (¬ 0 < (lg_cmp (x1 + x2) (Int32.toInt64 (m 91 (Int32.toNatClampNeg x0)))) → w_260_32 kc Φ (1 : Int32) m))))
/-- GrantBoardModel.isInApp(IJJ)Z -/
def w_261_32 (kc : it_Kc) (Φ : Int32 → it_Me → Prop) (u0 : Int32) (m : it_Me) : Prop :=
  (u0 = 0 ∨ u0 = 1) ∧ Φ u0 m
def w_261_31 (kc : it_Kc) (Φ : Int32 → it_Me → Prop) (m : it_Me) : Prop :=
  w_261_32 kc Φ (0 : Int32) m
def w_261 (kc : it_Kc) (x0 : Int32) (x1 : Int64) (x2 : Int64) (m : it_Me) (Φ : Int32 → it_Me → Prop) : Prop :=
  vp_in x0 8 ∧ (((lg_cmp x1 (Int32.toInt64 (m 79 (Int32.toNatClampNeg x0)))) < 0 → w_261_31 kc Φ m) ∧ (¬ (lg_cmp x1 (Int32.toInt64 (m 79 (Int32.toNatClampNeg x0)))) < 0 → vp_in x0 8 ∧ ((0 < (lg_cmp (x1 + x2) (Int32.toInt64 (m 80 (Int32.toNatClampNeg x0)))) → w_261_31 kc Φ m) ∧ (¬ 0 < (lg_cmp (x1 + x2) (Int32.toInt64 (m 80 (Int32.toNatClampNeg x0)))) → w_261_32 kc Φ (1 : Int32) m))))
/-- GrantBoardModel.isPower(I)Z -/
def w_262_13 (kc : it_Kc) (Φ : Int32 → it_Me → Prop) (u0 : Int32) (m : it_Me) : Prop :=
  (u0 = 0 ∨ u0 = 1) ∧ Φ u0 m
def w_262 (kc : it_Kc) (x0 : Int32) (m : it_Me) (Φ : Int32 → it_Me → Prop) : Prop :=
  ((x0 &&& (x0 - (1 : Int32))) = 0 → w_262_13 kc Φ (1 : Int32) m) ∧ (¬ (x0 &&& (x0 - (1 : Int32))) = 0 → w_262_13 kc Φ (0 : Int32) m)
/-- GrantBoardModel.isProcess(I)Z -/
def w_341_17 (kc : it_Kc) (Φ : Int32 → it_Me → Prop) (u0 : Int32) (m : it_Me) : Prop :=
  (u0 = 0 ∨ u0 = 1) ∧ Φ u0 m
def w_341_16 (kc : it_Kc) (Φ : Int32 → it_Me → Prop) (m : it_Me) : Prop :=
  w_341_17 kc Φ (0 : Int32) m
def w_341 (kc : it_Kc) (x0 : Int32) (m : it_Me) (Φ : Int32 → it_Me → Prop) : Prop :=
  (x0 < 0 → w_341_16 kc Φ m) ∧ (¬ x0 < 0 → ((m 66 34) ≤ x0 → w_341_16 kc Φ m) ∧ (¬ (m 66 34) ≤ x0 → w_341_17 kc Φ (1 : Int32) m))
/-- GrantBoardModel.entry(III)I -/
def w_263_256 (kc : it_Kc) (Φ : Int32 → it_Me → Prop) (K48 : Int32 → Int32 → Int32 → Int32 → Int32 → it_Me → Prop) (K143 : Int32 → Int32 → Int32 → Int32 → it_Me → Prop) (K212 : Int32 → Int32 → it_Me → Prop) (K233 : Int32 → Int32 → Int32 → Int32 → it_Me → Prop) (K262 : it_Me → Prop) (v1 : Int32) (v2 : Int32) (v3 : Int32) (v4 : Int32) (v5 : Int32) (m : it_Me) : Prop :=
  K48 v1 v2 v3 v4 (v5 + (1 : Int32)) m
def w_263_201 (kc : it_Kc) (Φ : Int32 → it_Me → Prop) (K48 : Int32 → Int32 → Int32 → Int32 → Int32 → it_Me → Prop) (K143 : Int32 → Int32 → Int32 → Int32 → it_Me → Prop) (K212 : Int32 → Int32 → it_Me → Prop) (K233 : Int32 → Int32 → Int32 → Int32 → it_Me → Prop) (K262 : it_Me → Prop) (v1 : Int32) (v2 : Int32) (v3 : Int32) (v4 : Int32) (v5 : Int32) (v6 : Int32) (v7 : Int32) (v8 : Int32) (m : it_Me) : Prop :=
  (v7 ≤ 0 → w_263_256 kc Φ K48 K143 K212 K233 K262 v1 v2 v3 v4 v5 m) ∧ (¬ v7 ≤ 0 → (v2 = v4 → K212 v3 v6 m) ∧ (¬ v2 = v4 → (v2 = (v4 + (1 : Int32)) → K233 v3 v6 v7 v8 m) ∧ (¬ v2 = (v4 + (1 : Int32)) → w_263_256 kc Φ K48 K143 K212 K233 K262 v1 v2 v3 (v4 + (2 : Int32)) v5 m)))
def w_263_114 (kc : it_Kc) (Φ : Int32 → it_Me → Prop) (K48 : Int32 → Int32 → Int32 → Int32 → Int32 → it_Me → Prop) (K143 : Int32 → Int32 → Int32 → Int32 → it_Me → Prop) (K212 : Int32 → Int32 → it_Me → Prop) (K233 : Int32 → Int32 → Int32 → Int32 → it_Me → Prop) (K262 : it_Me → Prop) (v1 : Int32) (v2 : Int32) (v3 : Int32) (v4 : Int32) (v5 : Int32) (v6 : Int32) (v7 : Int32) (u0 : Int32) (m : it_Me) : Prop :=
  (v7 ≤ 0 → w_263_201 kc Φ K48 K143 K212 K233 K262 v1 v2 v3 v4 v5 v6 v7 u0 m) ∧ (¬ v7 ≤ 0 → w_262 kc v7 m (fun r1 m2 => (r1 = 0 → w_263_201 kc Φ K48 K143 K212 K233 K262 v1 v2 v3 v4 v5 v6 v7 u0 m2) ∧ (¬ r1 = 0 → ¬ v7 = 0 ∧ (((it_rem v6 v7) = 0 → (v2 = v4 → K143 v3 v6 v7 u0 m2) ∧ (¬ v2 = v4 → w_263_256 kc Φ K48 K143 K212 K233 K262 v1 v2 v3 (v4 + (1 : Int32)) v5 m2)) ∧ (¬ (it_rem v6 v7) = 0 → w_263_201 kc Φ K48 K143 K212 K233 K262 v1 v2 v3 v4 v5 v6 v7 u0 m2)))))
def w_263_102 (kc : it_Kc) (Φ : Int32 → it_Me → Prop) (K48 : Int32 → Int32 → Int32 → Int32 → Int32 → it_Me → Prop) (K143 : Int32 → Int32 → Int32 → Int32 → it_Me → Prop) (K212 : Int32 → Int32 → it_Me → Prop) (K233 : Int32 → Int32 → Int32 → Int32 → it_Me → Prop) (K262 : it_Me → Prop) (v1 : Int32) (v2 : Int32) (v3 : Int32) (v4 : Int32) (v5 : Int32) (v6 : Int32) (u0 : Int32) (m : it_Me) : Prop :=
  (v5 = 0 → w_263_114 kc Φ K48 K143 K212 K233 K262 v1 v2 v3 v4 v5 v6 u0 (5 : Int32) m) ∧ (¬ v5 = 0 → w_263_114 kc Φ K48 K143 K212 K233 K262 v1 v2 v3 v4 v5 v6 u0 (3 : Int32) m)
def w_263_74 (kc : it_Kc) (Φ : Int32 → it_Me → Prop) (K48 : Int32 → Int32 → Int32 → Int32 → Int32 → it_Me → Prop) (K143 : Int32 → Int32 → Int32 → Int32 → it_Me → Prop) (K212 : Int32 → Int32 → it_Me → Prop) (K233 : Int32 → Int32 → Int32 → Int32 → it_Me → Prop) (K262 : it_Me → Prop) (v1 : Int32) (v2 : Int32) (v3 : Int32) (v4 : Int32) (v5 : Int32) (u0 : Int32) (m : it_Me) : Prop :=
  (v5 = 0 → vp_in v1 8 ∧ (w_263_102 kc Φ K48 K143 K212 K233 K262 v1 v2 v3 v4 v5 u0 ((m 80 (Int32.toNatClampNeg v1)) - u0) m)) ∧ (¬ v5 = 0 → vp_in v1 8 ∧ (w_263_102 kc Φ K48 K143 K212 K233 K262 v1 v2 v3 v4 v5 u0 ((m 91 (Int32.toNatClampNeg v1)) - u0) m))
def w_263_48 (kc : it_Kc) (Φ : Int32 → it_Me → Prop) (K143 : Int32 → Int32 → Int32 → Int32 → it_Me → Prop) (K212 : Int32 → Int32 → it_Me → Prop) (K233 : Int32 → Int32 → Int32 → Int32 → it_Me → Prop) (K262 : it_Me → Prop) : Nat → Int32 → Int32 → Int32 → Int32 → Int32 → it_Me → Prop
  | 0, _, _, _, _, _, _ => False
  | n48 + 1, v1, v2, v3, v4, v5, m =>
  ((2 : Int32) ≤ v5 → K262 m) ∧ (¬ (2 : Int32) ≤ v5 → (v5 = 0 → vp_in v1 8 ∧ (w_263_74 kc Φ (w_263_48 kc Φ K143 K212 K233 K262 n48) K143 K212 K233 K262 v1 v2 v3 v4 v5 (m 79 (Int32.toNatClampNeg v1)) m)) ∧ (¬ v5 = 0 → vp_in v1 8 ∧ (w_263_74 kc Φ (w_263_48 kc Φ K143 K212 K233 K262 n48) K143 K212 K233 K262 v1 v2 v3 v4 v5 (m 89 (Int32.toNatClampNeg v1)) m)))
def w_263_28 (kc : it_Kc) (Φ : Int32 → it_Me → Prop) (m : it_Me) : Prop :=
  Φ (-1 : Int32) m
def w_263_39 (kc : it_Kc) (Φ : Int32 → it_Me → Prop) (m : it_Me) : Prop :=
  Φ (-2 : Int32) m
def w_263_194 (kc : it_Kc) (Φ : Int32 → it_Me → Prop) (u0 : Int32) (m : it_Me) : Prop :=
  Φ u0 m
def w_263_193 (kc : it_Kc) (Φ : Int32 → it_Me → Prop) (u0 : Int32) (u1 : Int32) (m : it_Me) : Prop :=
  w_263_194 kc Φ (u0 ||| u1) m
def w_263_167 (kc : it_Kc) (Φ : Int32 → it_Me → Prop) (v3 : Int32) (v7 : Int32) (v8 : Int32) (u0 : Int32) (m : it_Me) : Prop :=
  (v3 = 0 → w_263_194 kc Φ u0 m) ∧ (¬ v3 = 0 → (v7 = (4 : Int32) → w_263_193 kc Φ v8 (16 : Int32) m) ∧ (¬ v7 = (4 : Int32) → w_263_193 kc Φ v8 (24 : Int32) m))
def w_263_143 (kc : it_Kc) (Φ : Int32 → it_Me → Prop) (v3 : Int32) (v6 : Int32) (v7 : Int32) (v8 : Int32) (m : it_Me) : Prop :=
  (v7 = (4 : Int32) → w_263_167 kc Φ v3 v7 v8 (it_us v6 (2 : Int32)) m) ∧ (¬ v7 = (4 : Int32) → w_263_167 kc Φ v3 v7 v8 ((it_us v6 (2 : Int32)) ||| ((it_us v7 (3 : Int32)) - (1 : Int32))) m)
def w_263_224 (kc : it_Kc) (Φ : Int32 → it_Me → Prop) (u0 : Int32) (m : it_Me) : Prop :=
  Φ u0 m
def w_263_212 (kc : it_Kc) (Φ : Int32 → it_Me → Prop) (v3 : Int32) (v6 : Int32) (m : it_Me) : Prop :=
  (v3 = 0 → w_263_224 kc Φ (it_us v6 (2 : Int32)) m) ∧ (¬ v3 = 0 → w_263_224 kc Φ (0 : Int32) m)
def w_263_252 (kc : it_Kc) (Φ : Int32 → it_Me → Prop) (u0 : Int32) (m : it_Me) : Prop :=
  Φ u0 m
def w_263_233 (kc : it_Kc) (Φ : Int32 → it_Me → Prop) (v3 : Int32) (v6 : Int32) (v7 : Int32) (v8 : Int32) (m : it_Me) : Prop :=
  (v3 = 0 → w_263_252 kc Φ (it_us (v6 + v7) (2 : Int32)) m) ∧ (¬ v3 = 0 → w_263_252 kc Φ (v8 ||| (8 : Int32)) m)
def w_263_262 (kc : it_Kc) (Φ : Int32 → it_Me → Prop) (m : it_Me) : Prop :=
  Φ (0 : Int32) m
def w_263 (kc : it_Kc) (x0 : Int32) (x1 : Int32) (x2 : Int32) (m : it_Me) (Φ : Int32 → it_Me → Prop) : Prop :=
  ((m 66 3) = 0 → Φ (-3 : Int32) m) ∧ (¬ (m 66 3) = 0 → w_341 kc x0 m (fun r1 m2 => (r1 = 0 → w_263_28 kc Φ m2) ∧ (¬ r1 = 0 → (x1 < 0 → w_263_28 kc Φ m2) ∧ (¬ x1 < 0 → (x1 ≤ (15 : Int32) → (x2 < 0 → w_263_39 kc Φ m2) ∧ (¬ x2 < 0 → (x2 ≤ (1 : Int32) → ∃ e, w_263_48 kc Φ (fun v3 v6 v7 v8 m => w_263_143 kc Φ v3 v6 v7 v8 m) (fun v3 v6 m => w_263_212 kc Φ v3 v6 m) (fun v3 v6 v7 v8 m => w_263_233 kc Φ v3 v6 v7 v8 m) (fun m => w_263_262 kc Φ m) e x0 x1 x2 (0 : Int32) (0 : Int32) m2) ∧ (¬ x2 ≤ (1 : Int32) → w_263_39 kc Φ m2))) ∧ (¬ x1 ≤ (15 : Int32) → w_263_28 kc Φ m2)))))
/-- GrantBoardModel.readBuffer(III)I -/
def w_270 (kc : it_Kc) (x0 : Int32) (x1 : Int32) (x2 : Int32) (m : it_Me) (Φ : Int32 → it_Me → Prop) : Prop :=
  w_264 kc x1 m (fun r1 m2 => Φ ((x0 + (8 : Int32)) + ((8 : Int32) * (r1 + x2))) m2)
/-- GrantBoardModel.writeBuffer(III)I -/
def w_271 (kc : it_Kc) (x0 : Int32) (x1 : Int32) (x2 : Int32) (m : it_Me) (Φ : Int32 → it_Me → Prop) : Prop :=
  w_264 kc x1 m (fun r1 m2 => w_265 kc x1 m2 (fun r3 m4 => Φ ((x0 + (8 : Int32)) + ((8 : Int32) * ((r1 + r3) + x2))) m4))
/-- GrantBoardModel.grantOf(II)I -/
def w_272_7 (kc : it_Kc) (Φ : Int32 → it_Me → Prop) (K25 : Int32 → it_Me → Prop) (K41 : it_Me → Prop) : Nat → Int32 → Int32 → Int32 → it_Me → Prop
  | 0, _, _, _, _ => False
  | n7 + 1, v1, v2, v3, m =>
  w_252 kc v1 m (fun r1 m2 => (v3 = r1 → K41 m2) ∧ (¬ v3 = r1 → w_220 kc v3 m2 (fun r3 m4 => (r3 = v2 → K25 v3 m4) ∧ (¬ r3 = v2 → w_220 kc v3 m4 (fun r5 m6 => w_268 kc r5 m6 (fun r7 m8 => (w_272_7 kc Φ K25 K41 n7) v1 v2 (v3 + r7) m8))))))
def w_272_25 (kc : it_Kc) (Φ : Int32 → it_Me → Prop) (v3 : Int32) (m : it_Me) : Prop :=
  Φ v3 m
def w_272_41 (kc : it_Kc) (Φ : Int32 → it_Me → Prop) (m : it_Me) : Prop :=
  Φ (-1 : Int32) m
def w_272 (kc : it_Kc) (x0 : Int32) (x1 : Int32) (m : it_Me) (Φ : Int32 → it_Me → Prop) : Prop :=
  vp_in x0 8 ∧ (∃ e, w_272_7 kc Φ (fun v3 m => w_272_25 kc Φ v3 m) (fun m => w_272_41 kc Φ m) e x0 x1 (m 92 (Int32.toNatClampNeg x0)) m)
/-- GrantBoardModel.needGrant(II)I -/
def w_273_44 (kc : it_Kc) (Φ : Int32 → it_Me → Prop) (K68 : Int32 → Int32 → Int32 → it_Me → Prop) : Nat → Int32 → Int32 → Int32 → Int32 → it_Me → Prop
  | 0, _, _, _, _, _ => False
  | n44 + 1, v1, v2, v4, v5, m =>
  vp_in v1 8 ∧ (((m 92 (Int32.toNatClampNeg v1)) ≤ v5 → K68 v1 v2 v4 m) ∧ (¬ (m 92 (Int32.toNatClampNeg v1)) ≤ v5 → w_221 kc v5 (0 : Int32) m (fun m1 => (w_273_44 kc Φ K68 n44) v1 v2 v4 (v5 + (4 : Int32)) m1)))
def w_273_104 (kc : it_Kc) (Φ : Int32 → it_Me → Prop) (v1 : Int32) (v4 : Int32) (u1 : Int32) (u2 : Int32) (m : it_Me) : Prop :=
  w_221 kc u1 u2 m (fun m1 => vp_in v1 8 ∧ (Φ v4 (it_sv m1 92 (Int32.toNatClampNeg v1) v4)))
def w_273_68 (kc : it_Kc) (Φ : Int32 → it_Me → Prop) (v1 : Int32) (v2 : Int32) (v4 : Int32) (m : it_Me) : Prop :=
  w_221 kc v4 v2 m (fun m1 => vp_in v1 8 ∧ (w_252 kc v1 m1 (fun r2 m3 => ((m1 92 (Int32.toNatClampNeg v1)) = r2 → w_273_104 kc Φ v1 v4 (v4 + (4 : Int32)) (0 : Int32) m3) ∧ (¬ (m1 92 (Int32.toNatClampNeg v1)) = r2 → vp_in v1 8 ∧ (w_273_104 kc Φ v1 v4 (v4 + (4 : Int32)) (m3 92 (Int32.toNatClampNeg v1)) m3)))))
def w_273 (kc : it_Kc) (x0 : Int32) (x1 : Int32) (m : it_Me) (Φ : Int32 → it_Me → Prop) : Prop :=
  w_272 kc x0 x1 m (fun r1 m2 => (r1 = (-1 : Int32) → vp_in x0 8 ∧ (w_268 kc x1 m2 (fun r3 m4 => vp_in x0 8 ∧ (((m4 91 (Int32.toNatClampNeg x0)) ≤ ((m2 92 (Int32.toNatClampNeg x0)) - r3) → ∃ e, w_273_44 kc Φ (fun v1 v2 v4 m => w_273_68 kc Φ v1 v2 v4 m) e x0 x1 ((m2 92 (Int32.toNatClampNeg x0)) - r3) ((m2 92 (Int32.toNatClampNeg x0)) - r3) m4) ∧ (¬ (m4 91 (Int32.toNatClampNeg x0)) ≤ ((m2 92 (Int32.toNatClampNeg x0)) - r3) → Φ (-1 : Int32) m4))))) ∧ (¬ r1 = (-1 : Int32) → Φ r1 m2))
/-- GrantBoardModel.give(IIIIII)V -/
def w_275 (kc : it_Kc) (x0 : Int32) (x1 : Int32) (x2 : Int32) (x3 : Int32) (x4 : Int32) (x5 : Int32) (m : it_Me) (Φ : it_Me → Prop) : Prop :=
  vp_in (((32 : Int32) * x0) + (10 : Int32)) 256 ∧ (vp_in (((32 : Int32) * x0) + (11 : Int32)) 256 ∧ (vp_in (((32 : Int32) * x0) + (12 : Int32)) 256 ∧ (vp_in x0 8 ∧ (vp_in (6 : Int32) 12 ∧ (vp_in (6 : Int32) 12 ∧ (w_257 kc x0 (1 : Int32) (((16 : Int32) * x1) + x2) (it_sv (it_sv (it_sv (it_sv (it_sv m 93 (Int32.toNatClampNeg (((32 : Int32) * x0) + (10 : Int32))) x3) 93 (Int32.toNatClampNeg (((32 : Int32) * x0) + (11 : Int32))) x4) 93 (Int32.toNatClampNeg (((32 : Int32) * x0) + (12 : Int32))) x5) 97 (Int32.toNatClampNeg x0) (0 : Int32)) 69 (Int32.toNatClampNeg (6 : Int32)) (((it_sv (it_sv (it_sv (it_sv m 93 (Int32.toNatClampNeg (((32 : Int32) * x0) + (10 : Int32))) x3) 93 (Int32.toNatClampNeg (((32 : Int32) * x0) + (11 : Int32))) x4) 93 (Int32.toNatClampNeg (((32 : Int32) * x0) + (12 : Int32))) x5) 97 (Int32.toNatClampNeg x0) (0 : Int32)) 69 (Int32.toNatClampNeg (6 : Int32))) + (1 : Int32))) (fun m1 => Φ m1)))))))
/-- GrantBoardModel.runs(IIIIII)V -/
def w_276 (kc : it_Kc) (x0 : Int32) (x1 : Int32) (x2 : Int32) (x3 : Int32) (x4 : Int32) (x5 : Int32) (m : it_Me) (Φ : it_Me → Prop) : Prop :=
  w_272 kc x0 x1 m (fun r1 m2 => vp_in x0 8 ∧ (vp_in (((32 : Int32) * x0) + (1 : Int32)) 256 ∧ (w_220 kc ((r1 + (12 : Int32)) + ((8 : Int32) * x2)) (it_sv m2 93 (Int32.toNatClampNeg (((32 : Int32) * x0) + (1 : Int32))) (m2 94 (Int32.toNatClampNeg x0))) (fun r3 m4 => vp_in (((32 : Int32) * x0) + (13 : Int32)) 256 ∧ (w_220 kc ((r1 + (8 : Int32)) + ((8 : Int32) * x2)) (it_sv m4 93 (Int32.toNatClampNeg (((32 : Int32) * x0) + (13 : Int32))) r3) (fun r5 m6 => vp_in x0 8 ∧ (w_275 kc x0 x1 x2 x3 x4 x5 (it_sv m6 94 (Int32.toNatClampNeg x0) r5) (fun m7 => Φ m7))))))))
/-- GrantBoardModel.comes(IIIIII)V -/
def w_274_20 (kc : it_Kc) (Φ : it_Me → Prop) (m : it_Me) : Prop :=
  Φ m
def w_274_103 (kc : it_Kc) (Φ : it_Me → Prop) (m : it_Me) : Prop :=
  Φ m
def w_274_72 (kc : it_Kc) (Φ : it_Me → Prop) (v1 : Int32) (v2 : Int32) (v3 : Int32) (v4 : Int32) (v5 : Int32) (v6 : Int32) (m : it_Me) : Prop :=
  w_272 kc v1 v2 m (fun r1 m2 => (r1 = (-1 : Int32) → w_274_103 kc Φ m2) ∧ (¬ r1 = (-1 : Int32) → w_220 kc ((r1 + (8 : Int32)) + ((8 : Int32) * v3)) m2 (fun r3 m4 => (r3 = 0 → w_274_103 kc Φ m4) ∧ (¬ r3 = 0 → vp_in v1 8 ∧ (((m4 95 (Int32.toNatClampNeg v1)) = (2 : Int32) → vp_in v1 8 ∧ (w_276 kc v1 v2 v3 v4 v5 v6 (it_sv m4 95 (Int32.toNatClampNeg v1) (1 : Int32)) (fun m5 => Φ m5))) ∧ (¬ (m4 95 (Int32.toNatClampNeg v1)) = (2 : Int32) → vp_in v1 8 ∧ (((m4 110 (Int32.toNatClampNeg v1)) = (10 : Int32) → vp_in (9 : Int32) 12 ∧ (vp_in (9 : Int32) 12 ∧ (vp_in v1 8 ∧ (vp_in v1 8 ∧ (w_257 kc v1 (5 : Int32) (((16 : Int32) * v2) + v3) (it_sv (it_sv m4 69 (Int32.toNatClampNeg (9 : Int32)) ((m4 69 (Int32.toNatClampNeg (9 : Int32))) + (1 : Int32))) 105 (Int32.toNatClampNeg v1) (((it_sv m4 69 (Int32.toNatClampNeg (9 : Int32)) ((m4 69 (Int32.toNatClampNeg (9 : Int32))) + (1 : Int32))) 105 (Int32.toNatClampNeg v1)) + (1 : Int32))) (fun m6 => Φ m6)))))) ∧ (¬ (m4 110 (Int32.toNatClampNeg v1)) = (10 : Int32) → vp_in v1 8 ∧ (vp_in (((50 : Int32) * v1) + ((5 : Int32) * (m4 110 (Int32.toNatClampNeg v1)))) 400 ∧ (vp_in ((((50 : Int32) * v1) + ((5 : Int32) * (m4 110 (Int32.toNatClampNeg v1)))) + (1 : Int32)) 400 ∧ (vp_in ((((50 : Int32) * v1) + ((5 : Int32) * (m4 110 (Int32.toNatClampNeg v1)))) + (2 : Int32)) 400 ∧ (vp_in ((((50 : Int32) * v1) + ((5 : Int32) * (m4 110 (Int32.toNatClampNeg v1)))) + (3 : Int32)) 400 ∧ (vp_in ((((50 : Int32) * v1) + ((5 : Int32) * (m4 110 (Int32.toNatClampNeg v1)))) + (4 : Int32)) 400 ∧ (vp_in v1 8 ∧ (vp_in v1 8 ∧ (Φ (it_sv (it_sv (it_sv (it_sv (it_sv (it_sv m4 109 (Int32.toNatClampNeg (((50 : Int32) * v1) + ((5 : Int32) * (m4 110 (Int32.toNatClampNeg v1))))) v2) 109 (Int32.toNatClampNeg ((((50 : Int32) * v1) + ((5 : Int32) * (m4 110 (Int32.toNatClampNeg v1)))) + (1 : Int32))) v3) 109 (Int32.toNatClampNeg ((((50 : Int32) * v1) + ((5 : Int32) * (m4 110 (Int32.toNatClampNeg v1)))) + (2 : Int32))) v4) 109 (Int32.toNatClampNeg ((((50 : Int32) * v1) + ((5 : Int32) * (m4 110 (Int32.toNatClampNeg v1)))) + (3 : Int32))) v5) 109 (Int32.toNatClampNeg ((((50 : Int32) * v1) + ((5 : Int32) * (m4 110 (Int32.toNatClampNeg v1)))) + (4 : Int32))) v6) 110 (Int32.toNatClampNeg v1) (((it_sv (it_sv (it_sv (it_sv (it_sv m4 109 (Int32.toNatClampNeg (((50 : Int32) * v1) + ((5 : Int32) * (m4 110 (Int32.toNatClampNeg v1))))) v2) 109 (Int32.toNatClampNeg ((((50 : Int32) * v1) + ((5 : Int32) * (m4 110 (Int32.toNatClampNeg v1)))) + (1 : Int32))) v3) 109 (Int32.toNatClampNeg ((((50 : Int32) * v1) + ((5 : Int32) * (m4 110 (Int32.toNatClampNeg v1)))) + (2 : Int32))) v4) 109 (Int32.toNatClampNeg ((((50 : Int32) * v1) + ((5 : Int32) * (m4 110 (Int32.toNatClampNeg v1)))) + (3 : Int32))) v5) 109 (Int32.toNatClampNeg ((((50 : Int32) * v1) + ((5 : Int32) * (m4 110 (Int32.toNatClampNeg v1)))) + (4 : Int32))) v6) 110 (Int32.toNatClampNeg v1)) + (1 : Int32)))))))))))))))))))
def w_274 (kc : it_Kc) (x0 : Int32) (x1 : Int32) (x2 : Int32) (x3 : Int32) (x4 : Int32) (x5 : Int32) (m : it_Me) (Φ : it_Me → Prop) : Prop :=
  vp_in x0 8 ∧ (((m 95 (Int32.toNatClampNeg x0)) = (4 : Int32) → w_274_20 kc Φ m) ∧ (¬ (m 95 (Int32.toNatClampNeg x0)) = (4 : Int32) → vp_in x0 8 ∧ (((m 95 (Int32.toNatClampNeg x0)) = (5 : Int32) → w_274_20 kc Φ m) ∧ (¬ (m 95 (Int32.toNatClampNeg x0)) = (5 : Int32) → vp_in x0 8 ∧ (((m 95 (Int32.toNatClampNeg x0)) = (3 : Int32) → vp_in x0 8 ∧ (((m 98 (Int32.toNatClampNeg x0)) = x1 → vp_in x0 8 ∧ (((m 99 (Int32.toNatClampNeg x0)) = x2 → vp_in x0 8 ∧ (w_275 kc x0 x1 x2 x3 x4 x5 (it_sv m 95 (Int32.toNatClampNeg x0) (1 : Int32)) (fun m1 => Φ m1))) ∧ (¬ (m 99 (Int32.toNatClampNeg x0)) = x2 → w_274_72 kc Φ x0 x1 x2 x3 x4 x5 m))) ∧ (¬ (m 98 (Int32.toNatClampNeg x0)) = x1 → w_274_72 kc Φ x0 x1 x2 x3 x4 x5 m))) ∧ (¬ (m 95 (Int32.toNatClampNeg x0)) = (3 : Int32) → w_274_72 kc Φ x0 x1 x2 x3 x4 x5 m))))))
/-- GrantBoardModel.removeCall(II)V -/
def w_277_19 (kc : it_Kc) (Φ : it_Me → Prop) (K56 : it_Me → Prop) : Nat → Int32 → Int32 → it_Me → Prop
  | 0, _, _, _ => False
  | n19 + 1, v1, v3, m =>
  vp_in v1 8 ∧ (((((50 : Int32) * v1) + ((5 : Int32) * (m 110 (Int32.toNatClampNeg v1)))) ≤ v3 → K56 m) ∧ (¬ (((50 : Int32) * v1) + ((5 : Int32) * (m 110 (Int32.toNatClampNeg v1)))) ≤ v3 → vp_in (v3 + (5 : Int32)) 400 ∧ (vp_in v3 400 ∧ ((w_277_19 kc Φ K56 n19) v1 (v3 + (1 : Int32)) (it_sv m 109 (Int32.toNatClampNeg v3) (m 109 (Int32.toNatClampNeg (v3 + (5 : Int32)))))))))
def w_277_56 (kc : it_Kc) (Φ : it_Me → Prop) (m : it_Me) : Prop :=
  Φ m
def w_277 (kc : it_Kc) (x0 : Int32) (x1 : Int32) (m : it_Me) (Φ : it_Me → Prop) : Prop :=
  vp_in x0 8 ∧ (vp_in x0 8 ∧ (∃ e, w_277_19 kc Φ (fun m => w_277_56 kc Φ m) e x0 (((50 : Int32) * x0) + ((5 : Int32) * x1)) (it_sv m 110 (Int32.toNatClampNeg x0) ((m 110 (Int32.toNatClampNeg x0)) - (1 : Int32)))))
/-- GrantBoardModel.runFirst(I)V -/
def w_278 (kc : it_Kc) (x0 : Int32) (m : it_Me) (Φ : it_Me → Prop) : Prop :=
  vp_in ((50 : Int32) * x0) 400 ∧ (vp_in (((50 : Int32) * x0) + (1 : Int32)) 400 ∧ (vp_in (((50 : Int32) * x0) + (2 : Int32)) 400 ∧ (vp_in (((50 : Int32) * x0) + (3 : Int32)) 400 ∧ (vp_in (((50 : Int32) * x0) + (4 : Int32)) 400 ∧ (w_277 kc x0 (0 : Int32) m (fun m1 => w_276 kc x0 (m 109 (Int32.toNatClampNeg ((50 : Int32) * x0))) (m 109 (Int32.toNatClampNeg (((50 : Int32) * x0) + (1 : Int32)))) (m 109 (Int32.toNatClampNeg (((50 : Int32) * x0) + (2 : Int32)))) (m 109 (Int32.toNatClampNeg (((50 : Int32) * x0) + (3 : Int32)))) (m 109 (Int32.toNatClampNeg (((50 : Int32) * x0) + (4 : Int32)))) m1 (fun m2 => Φ m2)))))))
/-- GrantBoardModel.answer(IIII)V -/
def w_279_54 (kc : it_Kc) (Φ : it_Me → Prop) (m : it_Me) : Prop :=
  Φ m
def w_279_33 (kc : it_Kc) (Φ : it_Me → Prop) (v1 : Int32) (v2 : Int32) (v4 : Int32) (m : it_Me) : Prop :=
  (v2 = (130 : Int32) → vp_in (((32 : Int32) * v1) + (12 : Int32)) 256 ∧ (w_279_54 kc Φ (it_sv m 93 (Int32.toNatClampNeg (((32 : Int32) * v1) + (12 : Int32))) v4))) ∧ (¬ v2 = (130 : Int32) → w_279_54 kc Φ m)
def w_279 (kc : it_Kc) (x0 : Int32) (x1 : Int32) (x2 : Int32) (x3 : Int32) (m : it_Me) (Φ : it_Me → Prop) : Prop :=
  vp_in (((32 : Int32) * x0) + (10 : Int32)) 256 ∧ ((x1 = (128 : Int32) → w_279_33 kc Φ x0 x1 x3 (it_sv m 93 (Int32.toNatClampNeg (((32 : Int32) * x0) + (10 : Int32))) x1)) ∧ (¬ x1 = (128 : Int32) → vp_in (((32 : Int32) * x0) + (11 : Int32)) 256 ∧ (w_279_33 kc Φ x0 x1 x3 (it_sv (it_sv m 93 (Int32.toNatClampNeg (((32 : Int32) * x0) + (10 : Int32))) x1) 93 (Int32.toNatClampNeg (((32 : Int32) * x0) + (11 : Int32))) x2))))
/-- GrantBoardModel.ok(I)V -/
def w_280 (kc : it_Kc) (x0 : Int32) (m : it_Me) (Φ : it_Me → Prop) : Prop :=
  w_279 kc x0 (128 : Int32) (0 : Int32) (0 : Int32) m (fun m1 => Φ m1)
/-- GrantBoardModel.ok1(II)V -/
def w_281 (kc : it_Kc) (x0 : Int32) (x1 : Int32) (m : it_Me) (Φ : it_Me → Prop) : Prop :=
  w_279 kc x0 (129 : Int32) x1 (0 : Int32) m (fun m1 => Φ m1)
/-- GrantBoardModel.fail(II)V -/
def w_282 (kc : it_Kc) (x0 : Int32) (x1 : Int32) (m : it_Me) (Φ : it_Me → Prop) : Prop :=
  w_279 kc x0 (0 : Int32) x1 (0 : Int32) m (fun m1 => Φ m1)
/-- GrantBoardModel.fail2(IIII)V -/
def w_283 (kc : it_Kc) (x0 : Int32) (x1 : Int32) (x2 : Int32) (x3 : Int32) (m : it_Me) (Φ : it_Me → Prop) : Prop :=
  vp_in (((32 : Int32) * x0) + (10 : Int32)) 256 ∧ (vp_in (((32 : Int32) * x0) + (11 : Int32)) 256 ∧ (vp_in (((32 : Int32) * x0) + (12 : Int32)) 256 ∧ (vp_in (((32 : Int32) * x0) + (13 : Int32)) 256 ∧ (Φ (it_sv (it_sv (it_sv (it_sv m 93 (Int32.toNatClampNeg (((32 : Int32) * x0) + (10 : Int32))) (2 : Int32)) 93 (Int32.toNatClampNeg (((32 : Int32) * x0) + (11 : Int32))) x1) 93 (Int32.toNatClampNeg (((32 : Int32) * x0) + (12 : Int32))) x2) 93 (Int32.toNatClampNeg (((32 : Int32) * x0) + (13 : Int32))) x3)))))
/-- GrantBoardModel.waitFor(III)V -/
def w_286_103 (kc : it_Kc) (Φ : it_Me → Prop) (K3 : Int32 → Int32 → Int32 → Int32 → it_Me → Prop) (K49 : Int32 → Int32 → Int32 → Int32 → Int32 → it_Me → Prop) (K109 : Int32 → Int32 → Int32 → it_Me → Prop) (v1 : Int32) (v2 : Int32) (v3 : Int32) (v4 : Int32) (m : it_Me) : Prop :=
  K3 v1 v2 v3 (v4 + (1 : Int32)) m
def w_286_3 (kc : it_Kc) (Φ : it_Me → Prop) (K49 : Int32 → Int32 → Int32 → Int32 → Int32 → it_Me → Prop) (K109 : Int32 → Int32 → Int32 → it_Me → Prop) : Nat → Int32 → Int32 → Int32 → Int32 → it_Me → Prop
  | 0, _, _, _, _, _ => False
  | n3 + 1, v1, v2, v3, v4, m =>
  vp_in v1 8 ∧ (((m 110 (Int32.toNatClampNeg v1)) ≤ v4 → K109 v1 v2 v3 m) ∧ (¬ (m 110 (Int32.toNatClampNeg v1)) ≤ v4 → vp_in (((50 : Int32) * v1) + ((5 : Int32) * v4)) 400 ∧ (((m 109 (Int32.toNatClampNeg (((50 : Int32) * v1) + ((5 : Int32) * v4)))) = v2 → vp_in ((((50 : Int32) * v1) + ((5 : Int32) * v4)) + (1 : Int32)) 400 ∧ (((m 109 (Int32.toNatClampNeg ((((50 : Int32) * v1) + ((5 : Int32) * v4)) + (1 : Int32)))) = v3 → K49 v1 v2 v3 v4 (((50 : Int32) * v1) + ((5 : Int32) * v4)) m) ∧ (¬ (m 109 (Int32.toNatClampNeg ((((50 : Int32) * v1) + ((5 : Int32) * v4)) + (1 : Int32)))) = v3 → w_286_103 kc Φ (w_286_3 kc Φ K49 K109 n3) K49 K109 v1 v2 v3 v4 m))) ∧ (¬ (m 109 (Int32.toNatClampNeg (((50 : Int32) * v1) + ((5 : Int32) * v4)))) = v2 → w_286_103 kc Φ (w_286_3 kc Φ K49 K109 n3) K49 K109 v1 v2 v3 v4 m))))
def w_286_49 (kc : it_Kc) (Φ : it_Me → Prop) (v1 : Int32) (v2 : Int32) (v3 : Int32) (v4 : Int32) (v5 : Int32) (m : it_Me) : Prop :=
  vp_in (v5 + (2 : Int32)) 400 ∧ (vp_in (v5 + (3 : Int32)) 400 ∧ (vp_in (v5 + (4 : Int32)) 400 ∧ (w_277 kc v1 v4 m (fun m1 => w_275 kc v1 v2 v3 (m 109 (Int32.toNatClampNeg (v5 + (2 : Int32)))) (m 109 (Int32.toNatClampNeg (v5 + (3 : Int32)))) (m 109 (Int32.toNatClampNeg (v5 + (4 : Int32)))) m1 (fun m2 => Φ m2)))))
def w_286_109 (kc : it_Kc) (Φ : it_Me → Prop) (v1 : Int32) (v2 : Int32) (v3 : Int32) (m : it_Me) : Prop :=
  vp_in v1 8 ∧ (vp_in v1 8 ∧ (vp_in v1 8 ∧ (Φ (it_sv (it_sv (it_sv m 95 (Int32.toNatClampNeg v1) (3 : Int32)) 98 (Int32.toNatClampNeg v1) v2) 99 (Int32.toNatClampNeg v1) v3))))
def w_286 (kc : it_Kc) (x0 : Int32) (x1 : Int32) (x2 : Int32) (m : it_Me) (Φ : it_Me → Prop) : Prop :=
  ∃ e, w_286_3 kc Φ (fun v1 v2 v3 v4 v5 m => w_286_49 kc Φ v1 v2 v3 v4 v5 m) (fun v1 v2 v3 m => w_286_109 kc Φ v1 v2 v3 m) e x0 x1 x2 (0 : Int32) m
/-- GrantBoardModel.yields(IIII)V -/
def w_285_120 (kc : it_Kc) (Φ : it_Me → Prop) (m : it_Me) : Prop :=
  Φ m
def w_285_62 (kc : it_Kc) (Φ : it_Me → Prop) (m : it_Me) : Prop :=
  w_285_120 kc Φ m
def w_285_52 (kc : it_Kc) (Φ : it_Me → Prop) (v1 : Int32) (v5 : Int32) (m : it_Me) : Prop :=
  (v5 = 0 → w_285_62 kc Φ m) ∧ (¬ v5 = 0 → w_278 kc v1 m (fun m1 => w_285_62 kc Φ m1))
def w_285_50 (kc : it_Kc) (Φ : it_Me → Prop) (v1 : Int32) (v5 : Int32) (u1 : Int32) (u2 : Int32) (m : it_Me) : Prop :=
  vp_in u1 196608 ∧ (w_285_52 kc Φ v1 v5 (it_sv m 67 (Int32.toNatClampNeg u1) (it_i2b (it_i2b u2))))
def w_285_18 (kc : it_Kc) (Φ : it_Me → Prop) (v1 : Int32) (v3 : Int32) (u0 : Int32) (m : it_Me) : Prop :=
  w_260 kc v1 ((Int32.toInt64 v3) &&& (4294967295 : Int64)) (1 : Int64) m (fun r1 m2 => (r1 = 0 → w_285_52 kc Φ v1 u0 m2) ∧ (¬ r1 = 0 → (u0 = 0 → w_285_50 kc Φ v1 u0 v3 (0 : Int32) m2) ∧ (¬ u0 = 0 → w_285_50 kc Φ v1 u0 v3 (1 : Int32) m2)))
def w_285 (kc : it_Kc) (x0 : Int32) (x1 : Int32) (x2 : Int32) (x3 : Int32) (m : it_Me) (Φ : it_Me → Prop) : Prop :=
  (x1 = 0 → vp_in x0 8 ∧ (((m 110 (Int32.toNatClampNeg x0)) ≤ 0 → w_285_18 kc Φ x0 x2 (0 : Int32) m) ∧ (¬ (m 110 (Int32.toNatClampNeg x0)) ≤ 0 → w_285_18 kc Φ x0 x2 (1 : Int32) m))) ∧ (¬ x1 = 0 → (x1 = (1 : Int32) → vp_in x0 8 ∧ (((m 110 (Int32.toNatClampNeg x0)) ≤ 0 → vp_in x0 8 ∧ (w_285_120 kc Φ (it_sv m 95 (Int32.toNatClampNeg x0) (2 : Int32)))) ∧ (¬ (m 110 (Int32.toNatClampNeg x0)) ≤ 0 → w_278 kc x0 m (fun m1 => w_285_120 kc Φ m1)))) ∧ (¬ x1 = (1 : Int32) → (x1 = (2 : Int32) → w_286 kc x0 x2 x3 m (fun m2 => w_285_120 kc Φ m2)) ∧ (¬ x1 = (2 : Int32) → w_282 kc x0 (10 : Int32) m (fun m3 => w_285_120 kc Φ m3))))
/-- GrantBoardModel.isDriver(I)Z -/
def w_287_15 (kc : it_Kc) (Φ : Int32 → it_Me → Prop) (u0 : Int32) (m : it_Me) : Prop :=
  (u0 = 0 ∨ u0 = 1) ∧ Φ u0 m
def w_287_14 (kc : it_Kc) (Φ : Int32 → it_Me → Prop) (m : it_Me) : Prop :=
  w_287_15 kc Φ (0 : Int32) m
def w_287 (kc : it_Kc) (x0 : Int32) (m : it_Me) (Φ : Int32 → it_Me → Prop) : Prop :=
  (x0 < 0 → w_287_14 kc Φ m) ∧ (¬ x0 < 0 → ((8 : Int32) < x0 → w_287_14 kc Φ m) ∧ (¬ (8 : Int32) < x0 → w_287_15 kc Φ (1 : Int32) m))
/-- GrantBoardModel.subscribe(IIIII)V -/
def w_288_180 (kc : it_Kc) (Φ : it_Me → Prop) (K121 : Int32 → Int32 → Int32 → Int32 → Int32 → Int32 → Int32 → it_Me → Prop) (K183 : Int32 → Int32 → Int32 → Int32 → Int32 → it_Me → Prop) (v1 : Int32) (v2 : Int32) (v3 : Int32) (v4 : Int32) (v5 : Int32) (v8 : Int32) (v9 : Int32) (m : it_Me) : Prop :=
  K121 v1 v2 v3 v4 v5 v8 v9 m
def w_288_177 (kc : it_Kc) (Φ : it_Me → Prop) (K121 : Int32 → Int32 → Int32 → Int32 → Int32 → Int32 → Int32 → it_Me → Prop) (K183 : Int32 → Int32 → Int32 → Int32 → Int32 → it_Me → Prop) (v1 : Int32) (v2 : Int32) (v3 : Int32) (v4 : Int32) (v5 : Int32) (v8 : Int32) (v9 : Int32) (m : it_Me) : Prop :=
  w_288_180 kc Φ K121 K183 v1 v2 v3 v4 v5 v8 (v9 + (1 : Int32)) m
def w_288_121 (kc : it_Kc) (Φ : it_Me → Prop) (K183 : Int32 → Int32 → Int32 → Int32 → Int32 → it_Me → Prop) : Nat → Int32 → Int32 → Int32 → Int32 → Int32 → Int32 → Int32 → it_Me → Prop
  | 0, _, _, _, _, _, _, _, _ => False
  | n121 + 1, v1, v2, v3, v4, v5, v8, v9, m =>
  vp_in v1 8 ∧ (((m 110 (Int32.toNatClampNeg v1)) ≤ v9 → K183 v1 v3 v4 v5 v8 m) ∧ (¬ (m 110 (Int32.toNatClampNeg v1)) ≤ v9 → vp_in (((50 : Int32) * v1) + ((5 : Int32) * v9)) 400 ∧ (((m 109 (Int32.toNatClampNeg (((50 : Int32) * v1) + ((5 : Int32) * v9)))) = v2 → vp_in ((((50 : Int32) * v1) + ((5 : Int32) * v9)) + (1 : Int32)) 400 ∧ (((m 109 (Int32.toNatClampNeg ((((50 : Int32) * v1) + ((5 : Int32) * v9)) + (1 : Int32)))) = v3 → w_277 kc v1 v9 m (fun m1 => w_288_180 kc Φ (w_288_121 kc Φ K183 n121) K183 v1 v2 v3 v4 v5 v8 v9 m1)) ∧ (¬ (m 109 (Int32.toNatClampNeg ((((50 : Int32) * v1) + ((5 : Int32) * v9)) + (1 : Int32)))) = v3 → w_288_177 kc Φ (w_288_121 kc Φ K183 n121) K183 v1 v2 v3 v4 v5 v8 v9 m))) ∧ (¬ (m 109 (Int32.toNatClampNeg (((50 : Int32) * v1) + ((5 : Int32) * v9)))) = v2 → w_288_177 kc Φ (w_288_121 kc Φ K183 n121) K183 v1 v2 v3 v4 v5 v8 v9 m))))
def w_288_110 (kc : it_Kc) (Φ : it_Me → Prop) (v4 : Int32) (v5 : Int32) (u1 : Int32) (u2 : Int32) (m : it_Me) : Prop :=
  w_283 kc u1 u2 v4 v5 m (fun m1 => Φ m1)
def w_288_183 (kc : it_Kc) (Φ : it_Me → Prop) (v1 : Int32) (v3 : Int32) (v4 : Int32) (v5 : Int32) (v8 : Int32) (m : it_Me) : Prop :=
  w_220 kc ((v8 + (8 : Int32)) + ((8 : Int32) * v3)) m (fun r1 m2 => w_220 kc (((v8 + (8 : Int32)) + ((8 : Int32) * v3)) + (4 : Int32)) m2 (fun r3 m4 => w_221 kc ((v8 + (8 : Int32)) + ((8 : Int32) * v3)) v4 m4 (fun m5 => w_221 kc (((v8 + (8 : Int32)) + ((8 : Int32) * v3)) + (4 : Int32)) v5 m5 (fun m6 => w_279 kc v1 (130 : Int32) r1 r3 m6 (fun m7 => Φ m7)))))
def w_288_88 (kc : it_Kc) (Φ : it_Me → Prop) (v1 : Int32) (v2 : Int32) (v3 : Int32) (v4 : Int32) (v5 : Int32) (v6 : Int32) (u0 : Int32) (m : it_Me) : Prop :=
  (u0 = (-1 : Int32) → (v6 = 0 → w_288_110 kc Φ v4 v5 v1 (9 : Int32) m) ∧ (¬ v6 = 0 → w_288_110 kc Φ v4 v5 v1 v6 m)) ∧ (¬ u0 = (-1 : Int32) → ∃ e, w_288_121 kc Φ (fun v1 v3 v4 v5 v8 m => w_288_183 kc Φ v1 v3 v4 v5 v8 m) e v1 v2 v3 v4 v5 u0 (0 : Int32) m)
def w_288_73 (kc : it_Kc) (Φ : it_Me → Prop) (v1 : Int32) (v2 : Int32) (v3 : Int32) (v4 : Int32) (v5 : Int32) (v6 : Int32) (m : it_Me) : Prop :=
  (v6 = 0 → w_273 kc v1 v2 m (fun r1 m2 => w_288_88 kc Φ v1 v2 v3 v4 v5 v6 r1 m2)) ∧ (¬ v6 = 0 → w_288_88 kc Φ v1 v2 v3 v4 v5 v6 (-1 : Int32) m)
def w_288_69 (kc : it_Kc) (Φ : it_Me → Prop) (v1 : Int32) (v2 : Int32) (v3 : Int32) (v4 : Int32) (v5 : Int32) (m : it_Me) : Prop :=
  w_288_73 kc Φ v1 v2 v3 v4 v5 (6 : Int32) m
def w_288_36 (kc : it_Kc) (Φ : it_Me → Prop) (v1 : Int32) (v2 : Int32) (v3 : Int32) (v4 : Int32) (v5 : Int32) (v6 : Int32) (u0 : Int32) (m : it_Me) : Prop :=
  w_287 kc v2 m (fun r1 m2 => (r1 = 0 → w_288_73 kc Φ v1 v2 v3 v4 v5 (11 : Int32) m2) ∧ (¬ r1 = 0 → (v3 < 0 → w_288_69 kc Φ v1 v2 v3 v4 v5 m2) ∧ (¬ v3 < 0 → w_264 kc v2 m2 (fun r3 m4 => (r3 ≤ v3 → w_288_69 kc Φ v1 v2 v3 v4 v5 m4) ∧ (¬ r3 ≤ v3 → (u0 = 0 → w_288_69 kc Φ v1 v2 v3 v4 v5 m4) ∧ (¬ u0 = 0 → w_288_73 kc Φ v1 v2 v3 v4 v5 v6 m4))))))
def w_288_31 (kc : it_Kc) (Φ : it_Me → Prop) (v1 : Int32) (v2 : Int32) (v3 : Int32) (v4 : Int32) (v5 : Int32) (v6 : Int32) (m : it_Me) : Prop :=
  w_288_36 kc Φ v1 v2 v3 v4 v5 v6 (1 : Int32) m
def w_288_35 (kc : it_Kc) (Φ : it_Me → Prop) (v1 : Int32) (v2 : Int32) (v3 : Int32) (v4 : Int32) (v5 : Int32) (v6 : Int32) (m : it_Me) : Prop :=
  w_288_36 kc Φ v1 v2 v3 v4 v5 v6 (0 : Int32) m
def w_288 (kc : it_Kc) (x0 : Int32) (x1 : Int32) (x2 : Int32) (x3 : Int32) (x4 : Int32) (m : it_Me) (Φ : it_Me → Prop) : Prop :=
  (x3 = 0 → w_288_31 kc Φ x0 x1 x2 x3 x4 (0 : Int32) m) ∧ (¬ x3 = 0 → ((x3 &&& (1 : Int32)) = 0 → w_261 kc x0 ((Int32.toInt64 x3) &&& (4294967295 : Int64)) (1 : Int64) m (fun r1 m2 => (r1 = 0 → w_288_35 kc Φ x0 x1 x2 x3 x4 (0 : Int32) m2) ∧ (¬ r1 = 0 → w_288_31 kc Φ x0 x1 x2 x3 x4 (0 : Int32) m2))) ∧ (¬ (x3 &&& (1 : Int32)) = 0 → w_288_35 kc Φ x0 x1 x2 x3 x4 (0 : Int32) m))
/-- GrantBoardModel.allow(IZIIII)V -/
def w_289_164 (kc : it_Kc) (Φ : it_Me → Prop) (v5 : Int32) (v6 : Int32) (u1 : Int32) (u2 : Int32) (m : it_Me) : Prop :=
  w_283 kc u1 u2 v5 v6 m (fun m1 => Φ m1)
def w_289_195 (kc : it_Kc) (Φ : it_Me → Prop) (v1 : Int32) (v5 : Int32) (v6 : Int32) (u0 : Int32) (m : it_Me) : Prop :=
  w_220 kc u0 m (fun r1 m2 => w_220 kc (u0 + (4 : Int32)) m2 (fun r3 m4 => w_221 kc u0 v5 m4 (fun m5 => w_221 kc (u0 + (4 : Int32)) v6 m5 (fun m6 => w_279 kc v1 (130 : Int32) r1 r3 m6 (fun m7 => Φ m7)))))
def w_289_142 (kc : it_Kc) (Φ : it_Me → Prop) (v1 : Int32) (v2 : Int32) (v3 : Int32) (v4 : Int32) (v5 : Int32) (v6 : Int32) (v7 : Int32) (u0 : Int32) (m : it_Me) : Prop :=
  (u0 = (-1 : Int32) → (v7 = 0 → w_289_164 kc Φ v5 v6 v1 (9 : Int32) m) ∧ (¬ v7 = 0 → w_289_164 kc Φ v5 v6 v1 v7 m)) ∧ (¬ u0 = (-1 : Int32) → (v2 = 0 → w_270 kc u0 v3 v4 m (fun r1 m2 => w_289_195 kc Φ v1 v5 v6 r1 m2)) ∧ (¬ v2 = 0 → w_271 kc u0 v3 v4 m (fun r3 m4 => w_289_195 kc Φ v1 v5 v6 r3 m4)))
def w_289_127 (kc : it_Kc) (Φ : it_Me → Prop) (v1 : Int32) (v2 : Int32) (v3 : Int32) (v4 : Int32) (v5 : Int32) (v6 : Int32) (v7 : Int32) (m : it_Me) : Prop :=
  (v7 = 0 → w_273 kc v1 v3 m (fun r1 m2 => w_289_142 kc Φ v1 v2 v3 v4 v5 v6 v7 r1 m2)) ∧ (¬ v7 = 0 → w_289_142 kc Φ v1 v2 v3 v4 v5 v6 v7 (-1 : Int32) m)
def w_289_125 (kc : it_Kc) (Φ : it_Me → Prop) (v1 : Int32) (v2 : Int32) (v3 : Int32) (v4 : Int32) (v5 : Int32) (v6 : Int32) (u0 : Int32) (m : it_Me) : Prop :=
  w_289_127 kc Φ v1 v2 v3 v4 v5 v6 u0 m
def w_289_123 (kc : it_Kc) (Φ : it_Me → Prop) (v1 : Int32) (v2 : Int32) (v3 : Int32) (v4 : Int32) (v5 : Int32) (v6 : Int32) (m : it_Me) : Prop :=
  w_289_125 kc Φ v1 v2 v3 v4 v5 v6 (6 : Int32) m
def w_289_107 (kc : it_Kc) (Φ : it_Me → Prop) (v1 : Int32) (v2 : Int32) (v3 : Int32) (v4 : Int32) (v5 : Int32) (v6 : Int32) (v8 : Int32) (u0 : Int32) (m : it_Me) : Prop :=
  (v8 = 0 → w_289_123 kc Φ v1 v2 v3 v4 v5 v6 m) ∧ (¬ v8 = 0 → (u0 = 0 → w_289_123 kc Φ v1 v2 v3 v4 v5 v6 m) ∧ (¬ u0 = 0 → w_289_125 kc Φ v1 v2 v3 v4 v5 v6 (0 : Int32) m))
def w_289_102 (kc : it_Kc) (Φ : it_Me → Prop) (v1 : Int32) (v2 : Int32) (v3 : Int32) (v4 : Int32) (v5 : Int32) (v6 : Int32) (v8 : Int32) (m : it_Me) : Prop :=
  w_289_107 kc Φ v1 v2 v3 v4 v5 v6 v8 (1 : Int32) m
def w_289_106 (kc : it_Kc) (Φ : it_Me → Prop) (v1 : Int32) (v2 : Int32) (v3 : Int32) (v4 : Int32) (v5 : Int32) (v6 : Int32) (v8 : Int32) (m : it_Me) : Prop :=
  w_289_107 kc Φ v1 v2 v3 v4 v5 v6 v8 (0 : Int32) m
def w_289_47 (kc : it_Kc) (Φ : it_Me → Prop) (v1 : Int32) (v2 : Int32) (v3 : Int32) (v4 : Int32) (v5 : Int32) (v6 : Int32) (u0 : Int32) (m : it_Me) : Prop :=
  (v6 = 0 → w_289_102 kc Φ v1 v2 v3 v4 v5 v6 u0 m) ∧ (¬ v6 = 0 → w_260 kc v1 ((Int32.toInt64 v5) &&& (4294967295 : Int64)) ((Int32.toInt64 v6) &&& (4294967295 : Int64)) m (fun r1 m2 => (r1 = 0 → (v2 = 0 → w_261 kc v1 ((Int32.toInt64 v5) &&& (4294967295 : Int64)) ((Int32.toInt64 v6) &&& (4294967295 : Int64)) m2 (fun r3 m4 => (r3 = 0 → w_289_106 kc Φ v1 v2 v3 v4 v5 v6 u0 m4) ∧ (¬ r3 = 0 → w_289_102 kc Φ v1 v2 v3 v4 v5 v6 u0 m4))) ∧ (¬ v2 = 0 → w_289_106 kc Φ v1 v2 v3 v4 v5 v6 u0 m2)) ∧ (¬ r1 = 0 → w_289_102 kc Φ v1 v2 v3 v4 v5 v6 u0 m2)))
def w_289_46 (kc : it_Kc) (Φ : it_Me → Prop) (v1 : Int32) (v2 : Int32) (v3 : Int32) (v4 : Int32) (v5 : Int32) (v6 : Int32) (m : it_Me) : Prop :=
  w_289_47 kc Φ v1 v2 v3 v4 v5 v6 (0 : Int32) m
def w_289_39 (kc : it_Kc) (Φ : it_Me → Prop) (v1 : Int32) (v2 : Int32) (v3 : Int32) (v4 : Int32) (v5 : Int32) (v6 : Int32) (u0 : Int32) (u1 : Int32) (m : it_Me) : Prop :=
  (u1 ≤ u0 → w_289_46 kc Φ v1 v2 v3 v4 v5 v6 m) ∧ (¬ u1 ≤ u0 → w_289_47 kc Φ v1 v2 v3 v4 v5 v6 (1 : Int32) m)
def w_289 (kc : it_Kc) (x0 : Int32) (x1 : Int32) (x2 : Int32) (x3 : Int32) (x4 : Int32) (x5 : Int32) (m : it_Me) (Φ : it_Me → Prop) : Prop :=
  w_287 kc x2 m (fun r1 m2 => (r1 = 0 → w_289_127 kc Φ x0 x1 x2 x3 x4 x5 (11 : Int32) m2) ∧ (¬ r1 = 0 → (x3 < 0 → w_289_46 kc Φ x0 x1 x2 x3 x4 x5 m2) ∧ (¬ x3 < 0 → (x1 = 0 → w_265 kc x2 m2 (fun r3 m4 => w_289_39 kc Φ x0 x1 x2 x3 x4 x5 x3 r3 m4)) ∧ (¬ x1 = 0 → w_266 kc x2 m2 (fun r5 m6 => w_289_39 kc Φ x0 x1 x2 x3 x4 x5 x3 r5 m6)))))
/-- GrantBoardModel.buffersEnd(I)I -/
def w_292_88 (kc : it_Kc) (Φ : Int32 → it_Me → Prop) (K34 : Int32 → Int32 → Int32 → Int32 → Int32 → it_Me → Prop) (K95 : Int32 → Int32 → Int32 → Int32 → it_Me → Prop) (v1 : Int32) (v3 : Int32) (v4 : Int32) (v5 : Int32) (u0 : Int32) (m : it_Me) : Prop :=
  K34 v1 u0 v3 v4 (v5 + (8 : Int32)) m
def w_292_87 (kc : it_Kc) (Φ : Int32 → it_Me → Prop) (K34 : Int32 → Int32 → Int32 → Int32 → Int32 → it_Me → Prop) (K95 : Int32 → Int32 → Int32 → Int32 → it_Me → Prop) (v1 : Int32) (v2 : Int32) (v3 : Int32) (v4 : Int32) (v5 : Int32) (m : it_Me) : Prop :=
  w_292_88 kc Φ K34 K95 v1 v3 v4 v5 v2 m
def w_292_34 (kc : it_Kc) (Φ : Int32 → it_Me → Prop) (K95 : Int32 → Int32 → Int32 → Int32 → it_Me → Prop) : Nat → Int32 → Int32 → Int32 → Int32 → Int32 → it_Me → Prop
  | 0, _, _, _, _, _, _ => False
  | n34 + 1, v1, v2, v3, v4, v5, m =>
  w_269 kc v3 v4 m (fun r1 m2 => (r1 ≤ v5 → K95 v1 v2 v3 v4 m2) ∧ (¬ r1 ≤ v5 → w_220 kc v5 m2 (fun r3 m4 => w_220 kc (v5 + (4 : Int32)) m4 (fun r5 m6 => (r5 = 0 → w_292_87 kc Φ (w_292_34 kc Φ K95 n34) K95 v1 v2 v3 v4 v5 m6) ∧ (¬ r5 = 0 → (r3 < (131072 : Int32) → w_292_87 kc Φ (w_292_34 kc Φ K95 n34) K95 v1 v2 v3 v4 v5 m6) ∧ (¬ r3 < (131072 : Int32) → w_292_88 kc Φ (w_292_34 kc Φ K95 n34) K95 v1 v3 v4 v5 (it_max v2 (r3 + r5)) m6))))))
def w_292_95 (kc : it_Kc) (Φ : Int32 → it_Me → Prop) (K9 : Int32 → Int32 → Int32 → it_Me → Prop) (K106 : Int32 → it_Me → Prop) (v1 : Int32) (v2 : Int32) (v3 : Int32) (v4 : Int32) (m : it_Me) : Prop :=
  w_268 kc v4 m (fun r1 m2 => K9 v1 v2 (v3 + r1) m2)
def w_292_9 (kc : it_Kc) (Φ : Int32 → it_Me → Prop) (K106 : Int32 → it_Me → Prop) : Nat → Int32 → Int32 → Int32 → it_Me → Prop
  | 0, _, _, _, _ => False
  | n9 + 1, v1, v2, v3, m =>
  w_252 kc v1 m (fun r1 m2 => (v3 = r1 → K106 v2 m2) ∧ (¬ v3 = r1 → w_220 kc v3 m2 (fun r3 m4 => w_270 kc v3 r3 (0 : Int32) m4 (fun r5 m6 => ∃ e, w_292_34 kc Φ (fun v1 v2 v3 v4 m => w_292_95 kc Φ (w_292_9 kc Φ K106 n9) K106 v1 v2 v3 v4 m) e v1 v2 v3 r3 r5 m6))))
def w_292_106 (kc : it_Kc) (Φ : Int32 → it_Me → Prop) (v2 : Int32) (m : it_Me) : Prop :=
  Φ v2 m
def w_292 (kc : it_Kc) (x0 : Int32) (m : it_Me) (Φ : Int32 → it_Me → Prop) : Prop :=
  vp_in x0 8 ∧ (∃ e, w_292_9 kc Φ (fun v2 m => w_292_106 kc Φ v2 m) e x0 (0 : Int32) (m 92 (Int32.toNatClampNeg x0)) m)
/-- GrantBoardModel.move(IJZ)V -/
def w_291_120 (kc : it_Kc) (Φ : it_Me → Prop) (m : it_Me) : Prop :=
  Φ m
def w_291_50 (kc : it_Kc) (Φ : it_Me → Prop) (v1 : Int32) (m : it_Me) : Prop :=
  w_282 kc v1 (6 : Int32) m (fun m1 => w_291_120 kc Φ m1)
def w_291_23 (kc : it_Kc) (Φ : it_Me → Prop) (v1 : Int32) (v4 : Int32) (u0 : Int64) (m : it_Me) : Prop :=
  vp_in v1 8 ∧ (((lg_cmp u0 (Int32.toInt64 (m 89 (Int32.toNatClampNeg v1)))) < 0 → w_291_50 kc Φ v1 m) ∧ (¬ (lg_cmp u0 (Int32.toInt64 (m 89 (Int32.toNatClampNeg v1)))) < 0 → w_292 kc v1 m (fun r1 m2 => (0 ≤ (lg_cmp u0 (Int32.toInt64 r1)) → vp_in v1 8 ∧ (((lg_cmp u0 (Int32.toInt64 (m2 92 (Int32.toNatClampNeg v1)))) ≤ 0 → vp_in v1 8 ∧ (vp_in v1 8 ∧ ((v4 = 0 → w_280 kc v1 (it_sv m2 91 (Int32.toNatClampNeg v1) (Int64.toInt32 u0)) (fun m3 => w_291_120 kc Φ m3)) ∧ (¬ v4 = 0 → w_281 kc v1 (m2 91 (Int32.toNatClampNeg v1)) (it_sv m2 91 (Int32.toNatClampNeg v1) (Int64.toInt32 u0)) (fun m4 => w_291_120 kc Φ m4))))) ∧ (¬ (lg_cmp u0 (Int32.toInt64 (m2 92 (Int32.toNatClampNeg v1)))) ≤ 0 → w_282 kc v1 (9 : Int32) m2 (fun m5 => w_291_120 kc Φ m5)))) ∧ (¬ 0 ≤ (lg_cmp u0 (Int32.toInt64 r1)) → w_291_50 kc Φ v1 m2))))
def w_291 (kc : it_Kc) (x0 : Int32) (x1 : Int64) (x2 : Int32) (m : it_Me) (Φ : it_Me → Prop) : Prop :=
  (0 ≤ (lg_cmp x1 (0 : Int64)) → ¬ (4 : Int64) = 0 ∧ (w_291_23 kc Φ x0 x2 (((x1 + (3 : Int64)) / (4 : Int64)) * (4 : Int64)) m)) ∧ (¬ 0 ≤ (lg_cmp x1 (0 : Int64)) → w_291_23 kc Φ x0 x2 x1 m)
/-- GrantBoardModel.moveMemory(III)V -/
def w_290_155 (kc : it_Kc) (Φ : it_Me → Prop) (m : it_Me) : Prop :=
  Φ m
def w_290 (kc : it_Kc) (x0 : Int32) (x1 : Int32) (x2 : Int32) (m : it_Me) (Φ : it_Me → Prop) : Prop :=
  (x1 = (0 : Int32) → w_291 kc x0 ((Int32.toInt64 x2) &&& (4294967295 : Int64)) (0 : Int32) m (fun m1 => w_290_155 kc Φ m1)) ∧ (¬ x1 = (0 : Int32) → (x1 = (1 : Int32) → vp_in x0 8 ∧ (w_291 kc x0 ((Int32.toInt64 (m 91 (Int32.toNatClampNeg x0))) + (Int32.toInt64 x2)) (1 : Int32) m (fun m2 => w_290_155 kc Φ m2))) ∧ (¬ x1 = (1 : Int32) → (x1 = (2 : Int32) → vp_in x0 8 ∧ (w_281 kc x0 (m 79 (Int32.toNatClampNeg x0)) m (fun m3 => w_290_155 kc Φ m3))) ∧ (¬ x1 = (2 : Int32) → (x1 = (3 : Int32) → vp_in x0 8 ∧ (w_281 kc x0 (m 80 (Int32.toNatClampNeg x0)) m (fun m4 => w_290_155 kc Φ m4))) ∧ (¬ x1 = (3 : Int32) → (x1 = (4 : Int32) → vp_in x0 8 ∧ (w_281 kc x0 (m 89 (Int32.toNatClampNeg x0)) m (fun m5 => w_290_155 kc Φ m5))) ∧ (¬ x1 = (4 : Int32) → (x1 = (5 : Int32) → vp_in x0 8 ∧ (w_281 kc x0 (m 91 (Int32.toNatClampNeg x0)) m (fun m6 => w_290_155 kc Φ m6))) ∧ (¬ x1 = (5 : Int32) → (x1 = (6 : Int32) → vp_in x0 8 ∧ (w_281 kc x0 (m 92 (Int32.toNatClampNeg x0)) m (fun m7 => w_290_155 kc Φ m7))) ∧ (¬ x1 = (6 : Int32) → w_282 kc x0 (10 : Int32) m (fun m8 => w_290_155 kc Φ m8))))))))
/-- GrantBoardModel.exit(III)V -/
def w_293_47 (kc : it_Kc) (Φ : it_Me → Prop) (m : it_Me) : Prop :=
  Φ m
def w_293 (kc : it_Kc) (x0 : Int32) (x1 : Int32) (x2 : Int32) (m : it_Me) (Φ : it_Me → Prop) : Prop :=
  (x1 = 0 → w_256 kc x0 (4 : Int32) m (fun m1 => vp_in x0 8 ∧ (w_257 kc x0 (4 : Int32) x2 (it_sv m1 101 (Int32.toNatClampNeg x0) x2) (fun m2 => w_293_47 kc Φ m2)))) ∧ (¬ x1 = 0 → (x1 = (1 : Int32) → w_255 kc x0 m (fun m3 => w_293_47 kc Φ m3)) ∧ (¬ x1 = (1 : Int32) → w_282 kc x0 (10 : Int32) m (fun m4 => w_293_47 kc Φ m4)))
/-- GrantBoardModel.isBarred(III)Z -/
def w_294_105 (kc : it_Kc) (Φ : Int32 → it_Me → Prop) (K22 : Int32 → Int32 → Int32 → Int32 → Int32 → it_Me → Prop) (K113 : Int32 → it_Me → Prop) (v1 : Int32) (v2 : Int32) (v3 : Int32) (v5 : Int32) (u0 : Int32) (m : it_Me) : Prop :=
  K22 v1 v2 v3 u0 (v5 + (8 : Int32)) m
def w_294_104 (kc : it_Kc) (Φ : Int32 → it_Me → Prop) (K22 : Int32 → Int32 → Int32 → Int32 → Int32 → it_Me → Prop) (K113 : Int32 → it_Me → Prop) (v1 : Int32) (v2 : Int32) (v3 : Int32) (v5 : Int32) (m : it_Me) : Prop :=
  w_294_105 kc Φ K22 K113 v1 v2 v3 v5 (0 : Int32) m
def w_294_88 (kc : it_Kc) (Φ : Int32 → it_Me → Prop) (K22 : Int32 → Int32 → Int32 → Int32 → Int32 → it_Me → Prop) (K113 : Int32 → it_Me → Prop) (v1 : Int32) (v2 : Int32) (v3 : Int32) (v4 : Int32) (v5 : Int32) (u0 : Int32) (m : it_Me) : Prop :=
  (v4 = 0 → w_294_104 kc Φ K22 K113 v1 v2 v3 v5 m) ∧ (¬ v4 = 0 → (u0 = 0 → w_294_105 kc Φ K22 K113 v1 v2 v3 v5 (1 : Int32) m) ∧ (¬ u0 = 0 → w_294_104 kc Φ K22 K113 v1 v2 v3 v5 m))
def w_294_87 (kc : it_Kc) (Φ : Int32 → it_Me → Prop) (K22 : Int32 → Int32 → Int32 → Int32 → Int32 → it_Me → Prop) (K113 : Int32 → it_Me → Prop) (v1 : Int32) (v2 : Int32) (v3 : Int32) (v4 : Int32) (v5 : Int32) (m : it_Me) : Prop :=
  w_294_88 kc Φ K22 K113 v1 v2 v3 v4 v5 (0 : Int32) m
def w_294_22 (kc : it_Kc) (Φ : Int32 → it_Me → Prop) (K113 : Int32 → it_Me → Prop) : Nat → Int32 → Int32 → Int32 → Int32 → Int32 → it_Me → Prop
  | 0, _, _, _, _, _, _ => False
  | n22 + 1, v1, v2, v3, v4, v5, m =>
  vp_in v1 8 ∧ (((m 88 (Int32.toNatClampNeg v1)) ≤ v5 → K113 v4 m) ∧ (¬ (m 88 (Int32.toNatClampNeg v1)) ≤ v5 → vp_in v1 8 ∧ (w_220 kc ((m 87 (Int32.toNatClampNeg v1)) + v5) m (fun r1 m2 => (r1 = v2 → (v3 ≤ 0 → w_294_87 kc Φ (w_294_22 kc Φ K113 n22) K113 v1 v2 v3 v4 v5 m2) ∧ (¬ v3 ≤ 0 → ((32 : Int32) ≤ v3 → w_294_87 kc Φ (w_294_22 kc Φ K113 n22) K113 v1 v2 v3 v4 v5 m2) ∧ (¬ (32 : Int32) ≤ v3 → vp_in v1 8 ∧ (w_220 kc (((m2 87 (Int32.toNatClampNeg v1)) + v5) + (4 : Int32)) m2 (fun r3 m4 => (((it_us r3 v3) &&& (1 : Int32)) = (1 : Int32) → w_294_88 kc Φ (w_294_22 kc Φ K113 n22) K113 v1 v2 v3 v4 v5 (1 : Int32) m4) ∧ (¬ ((it_us r3 v3) &&& (1 : Int32)) = (1 : Int32) → w_294_87 kc Φ (w_294_22 kc Φ K113 n22) K113 v1 v2 v3 v4 v5 m4)))))) ∧ (¬ r1 = v2 → w_294_87 kc Φ (w_294_22 kc Φ K113 n22) K113 v1 v2 v3 v4 v5 m2)))))
def w_294_14 (kc : it_Kc) (Φ : Int32 → it_Me → Prop) (m : it_Me) : Prop :=
  Φ (0 : Int32) m
def w_294_113 (kc : it_Kc) (Φ : Int32 → it_Me → Prop) (v4 : Int32) (m : it_Me) : Prop :=
  (v4 = 0 ∨ v4 = 1) ∧ Φ v4 m
def w_294 (kc : it_Kc) (x0 : Int32) (x1 : Int32) (x2 : Int32) (m : it_Me) (Φ : Int32 → it_Me → Prop) : Prop :=
  (x2 = 0 → w_294_14 kc Φ m) ∧ (¬ x2 = 0 → vp_in x0 8 ∧ (((m 87 (Int32.toNatClampNeg x0)) = (-1 : Int32) → w_294_14 kc Φ m) ∧ (¬ (m 87 (Int32.toNatClampNeg x0)) = (-1 : Int32) → ∃ e, w_294_22 kc Φ (fun v4 m => w_294_113 kc Φ v4 m) e x0 x1 x2 (1 : Int32) (0 : Int32) m)))
/-- GrantBoardModel.commands(II)I -/
def w_295_70 (kc : it_Kc) (Φ : Int32 → it_Me → Prop) (u0 : Int32) (m : it_Me) : Prop :=
  Φ u0 m
def w_295 (kc : it_Kc) (x0 : Int32) (x1 : Int32) (m : it_Me) (Φ : Int32 → it_Me → Prop) : Prop :=
  (x1 = (0 : Int32) → Φ (6 : Int32) m) ∧ (¬ x1 = (0 : Int32) → (x1 = (1 : Int32) → Φ (3 : Int32) m) ∧ (¬ x1 = (1 : Int32) → (x1 = (2 : Int32) → Φ (3 : Int32) m) ∧ (¬ x1 = (2 : Int32) → (x1 = (3 : Int32) → Φ (3 : Int32) m) ∧ (¬ x1 = (3 : Int32) → (x1 = (4 : Int32) → Φ (1 : Int32) m) ∧ (¬ x1 = (4 : Int32) → (x1 = (5 : Int32) → vp_in x0 8 ∧ (((m 86 (Int32.toNatClampNeg x0)) = (-1 : Int32) → w_295_70 kc Φ (0 : Int32) m) ∧ (¬ (m 86 (Int32.toNatClampNeg x0)) = (-1 : Int32) → w_295_70 kc Φ (3 : Int32) m))) ∧ (¬ x1 = (5 : Int32) → (x1 = (6 : Int32) → Φ (3 : Int32) m) ∧ (¬ x1 = (6 : Int32) → (x1 = (7 : Int32) → Φ (3 : Int32) m) ∧ (¬ x1 = (7 : Int32) → (x1 = (8 : Int32) → Φ (1 : Int32) m) ∧ (¬ x1 = (8 : Int32) → Φ (3 : Int32) m)))))))))
/-- GrantBoardModel.least(II)I -/
def w_297_17 (kc : it_Kc) (Φ : Int32 → it_Me → Prop) (u0 : Int32) (m : it_Me) : Prop :=
  Φ u0 m
def w_297 (kc : it_Kc) (x0 : Int32) (x1 : Int32) (m : it_Me) (Φ : Int32 → it_Me → Prop) : Prop :=
  (0 ≤ (lg_cmp ((Int32.toInt64 x0) &&& (4294967295 : Int64)) (Int32.toInt64 x1)) → w_297_17 kc Φ x1 m) ∧ (¬ 0 ≤ (lg_cmp ((Int32.toInt64 x0) &&& (4294967295 : Int64)) (Int32.toInt64 x1)) → w_297_17 kc Φ x0 m)
/-- GrantBoardModel.alarm(IIIII)V -/
def w_298_134 (kc : it_Kc) (Φ : it_Me → Prop) (m : it_Me) : Prop :=
  Φ m
def w_298_97 (kc : it_Kc) (Φ : it_Me → Prop) (v1 : Int32) (v2 : Int32) (v6 : Int32) (u0 : Int32) (m : it_Me) : Prop :=
  w_221 kc v2 (1 : Int32) m (fun m1 => w_221 kc (v2 + (4 : Int32)) v6 m1 (fun m2 => w_221 kc (v2 + (8 : Int32)) u0 m2 (fun m3 => w_281 kc v1 (v6 + u0) m3 (fun m4 => w_298_134 kc Φ m4))))
def w_298_83 (kc : it_Kc) (Φ : it_Me → Prop) (v1 : Int32) (v2 : Int32) (v3 : Int32) (v4 : Int32) (v5 : Int32) (u0 : Int32) (m : it_Me) : Prop :=
  (v3 = (5 : Int32) → w_298_97 kc Φ v1 v2 u0 v4 m) ∧ (¬ v3 = (5 : Int32) → w_298_97 kc Φ v1 v2 u0 v5 m)
def w_298 (kc : it_Kc) (x0 : Int32) (x1 : Int32) (x2 : Int32) (x3 : Int32) (x4 : Int32) (m : it_Me) (Φ : it_Me → Prop) : Prop :=
  (x2 = (1 : Int32) → w_281 kc x0 (1000 : Int32) m (fun m1 => w_298_134 kc Φ m1)) ∧ (¬ x2 = (1 : Int32) → (x2 = (2 : Int32) → w_281 kc x0 (m 66 6) m (fun m2 => w_298_134 kc Φ m2)) ∧ (¬ x2 = (2 : Int32) → (x2 = (3 : Int32) → w_220 kc x1 m (fun r3 m4 => (r3 = 0 → w_282 kc x0 (3 : Int32) m4 (fun m5 => w_298_134 kc Φ m5)) ∧ (¬ r3 = 0 → w_221 kc x1 (0 : Int32) m4 (fun m6 => w_280 kc x0 m6 (fun m7 => w_298_134 kc Φ m7))))) ∧ (¬ x2 = (3 : Int32) → (x2 = (5 : Int32) → w_298_83 kc Φ x0 x1 x2 x3 x4 (m 66 6) m) ∧ (¬ x2 = (5 : Int32) → w_298_83 kc Φ x0 x1 x2 x3 x4 x3 m))))
/-- GrantBoardModel.console(IIII)V -/
def w_299_223 (kc : it_Kc) (Φ : it_Me → Prop) (m : it_Me) : Prop :=
  Φ m
def w_299_218 (kc : it_Kc) (Φ : it_Me → Prop) (v1 : Int32) (m : it_Me) : Prop :=
  w_280 kc v1 m (fun m1 => w_299_223 kc Φ m1)
def w_299_120 (kc : it_Kc) (Φ : it_Me → Prop) (v1 : Int32) (v3 : Int32) (v6 : Int32) (u0 : Int32) (u2 : Int32) (m : it_Me) : Prop :=
  w_220 kc (u2 + (4 : Int32)) m (fun r1 m2 => w_297 kc u0 r1 m2 (fun r3 m4 => w_220 kc v6 m4 (fun r5 m6 => (r5 = 0 → (r3 = 0 → w_282 kc v1 (7 : Int32) m6 (fun m7 => w_299_223 kc Φ m7)) ∧ (¬ r3 = 0 → w_221 kc v6 r3 m6 (fun m8 => w_221 kc (v6 + (4 : Int32)) (0 : Int32) m8 (fun m9 => (v3 = (1 : Int32) → vp_in v1 8 ∧ (w_299_218 kc Φ v1 (it_sv (it_sv m9 66 69 ((m9 66 69) + (1 : Int32))) 111 (Int32.toNatClampNeg v1) ((it_sv m9 66 69 ((m9 66 69) + (1 : Int32))) 66 69)))) ∧ (¬ v3 = (1 : Int32) → vp_in v1 8 ∧ (w_299_218 kc Φ v1 (it_sv (it_sv m9 66 69 ((m9 66 69) + (1 : Int32))) 112 (Int32.toNatClampNeg v1) ((it_sv m9 66 69 ((m9 66 69) + (1 : Int32))) 66 69)))))))) ∧ (¬ r5 = 0 → w_282 kc v1 (2 : Int32) m6 (fun m10 => w_299_223 kc Φ m10)))))
def w_299_95 (kc : it_Kc) (Φ : it_Me → Prop) (v1 : Int32) (v2 : Int32) (v3 : Int32) (v4 : Int32) (u0 : Int32) (m : it_Me) : Prop :=
  (v3 = (1 : Int32) → w_270 kc v2 (1 : Int32) (1 : Int32) m (fun r1 m2 => w_299_120 kc Φ v1 v3 u0 v4 r1 m2)) ∧ (¬ v3 = (1 : Int32) → w_271 kc v2 (1 : Int32) (1 : Int32) m (fun r3 m4 => w_299_120 kc Φ v1 v3 u0 v4 r3 m4))
def w_299 (kc : it_Kc) (x0 : Int32) (x1 : Int32) (x2 : Int32) (x3 : Int32) (m : it_Me) (Φ : it_Me → Prop) : Prop :=
  w_269 kc x1 (1 : Int32) m (fun r1 m2 => (x2 = (3 : Int32) → w_220 kc (r1 + (8 : Int32)) m2 (fun r3 m4 => (r3 = 0 → w_282 kc x0 (3 : Int32) m4 (fun m5 => Φ m5)) ∧ (¬ r3 = 0 → w_220 kc (r1 + (12 : Int32)) m4 (fun r6 m7 => w_221 kc (r1 + (8 : Int32)) (0 : Int32) m7 (fun m8 => w_221 kc (r1 + (12 : Int32)) (0 : Int32) m8 (fun m9 => w_274 kc x0 (1 : Int32) (2 : Int32) (8 : Int32) r6 (0 : Int32) m9 (fun m10 => w_280 kc x0 m10 (fun m11 => Φ m11)))))))) ∧ (¬ x2 = (3 : Int32) → (x2 = (1 : Int32) → w_299_95 kc Φ x0 x1 x2 x3 r1 m2) ∧ (¬ x2 = (1 : Int32) → w_299_95 kc Φ x0 x1 x2 x3 (r1 + (8 : Int32)) m2)))
/-- GrantBoardModel.lamps(III)V -/
def w_300_54 (kc : it_Kc) (Φ : it_Me → Prop) (m : it_Me) : Prop :=
  Φ m
def w_300_9 (kc : it_Kc) (Φ : it_Me → Prop) (v1 : Int32) (m : it_Me) : Prop :=
  w_282 kc v1 (6 : Int32) m (fun m1 => w_300_54 kc Φ m1)
def w_300_48 (kc : it_Kc) (Φ : it_Me → Prop) (v1 : Int32) (u1 : Int32) (u2 : Int32) (m : it_Me) : Prop :=
  vp_in u1 4 ∧ (w_280 kc v1 (it_sv m 71 (Int32.toNatClampNeg u1) (u2 &&& 1)) (fun m1 => w_300_54 kc Φ m1))
def w_300_43 (kc : it_Kc) (Φ : it_Me → Prop) (v1 : Int32) (u1 : Int32) (m : it_Me) : Prop :=
  w_300_48 kc Φ v1 u1 (1 : Int32) m
def w_300_47 (kc : it_Kc) (Φ : it_Me → Prop) (v1 : Int32) (u1 : Int32) (m : it_Me) : Prop :=
  w_300_48 kc Φ v1 u1 (0 : Int32) m
def w_300 (kc : it_Kc) (x0 : Int32) (x1 : Int32) (x2 : Int32) (m : it_Me) (Φ : it_Me → Prop) : Prop :=
  (x2 < 0 → w_300_9 kc Φ x0 m) ∧ (¬ x2 < 0 → (x2 ≤ (3 : Int32) → (x1 = (1 : Int32) → w_300_43 kc Φ x0 x2 m) ∧ (¬ x1 = (1 : Int32) → (x1 = (3 : Int32) → vp_in x2 4 ∧ (((m 71 (Int32.toNatClampNeg x2)) = 0 → w_300_43 kc Φ x0 x2 m) ∧ (¬ (m 71 (Int32.toNatClampNeg x2)) = 0 → w_300_47 kc Φ x0 x2 m))) ∧ (¬ x1 = (3 : Int32) → w_300_47 kc Φ x0 x2 m))) ∧ (¬ x2 ≤ (3 : Int32) → w_300_9 kc Φ x0 m))
/-- GrantBoardModel.buttons(IIII)V -/
def w_301_89 (kc : it_Kc) (Φ : it_Me → Prop) (m : it_Me) : Prop :=
  Φ m
def w_301_11 (kc : it_Kc) (Φ : it_Me → Prop) (v1 : Int32) (m : it_Me) : Prop :=
  w_282 kc v1 (6 : Int32) m (fun m1 => w_301_89 kc Φ m1)
def w_301_43 (kc : it_Kc) (Φ : it_Me → Prop) (u1 : Int32) (u2 : Int32) (m : it_Me) : Prop :=
  w_281 kc u1 u2 m (fun m1 => w_301_89 kc Φ m1)
def w_301_81 (kc : it_Kc) (Φ : it_Me → Prop) (v1 : Int32) (u1 : Int32) (u2 : Int32) (m : it_Me) : Prop :=
  w_221 kc u1 u2 m (fun m1 => w_280 kc v1 m1 (fun m2 => w_301_89 kc Φ m2))
def w_301 (kc : it_Kc) (x0 : Int32) (x1 : Int32) (x2 : Int32) (x3 : Int32) (m : it_Me) (Φ : it_Me → Prop) : Prop :=
  (x3 < 0 → w_301_11 kc Φ x0 m) ∧ (¬ x3 < 0 → (x3 ≤ (3 : Int32) → (x2 = (3 : Int32) → vp_in x3 4 ∧ (((m 72 (Int32.toNatClampNeg x3)) = 0 → w_301_43 kc Φ x0 (0 : Int32) m) ∧ (¬ (m 72 (Int32.toNatClampNeg x3)) = 0 → w_301_43 kc Φ x0 (1 : Int32) m))) ∧ (¬ x2 = (3 : Int32) → (x2 = (1 : Int32) → w_220 kc x1 m (fun r1 m2 => w_301_81 kc Φ x0 x1 (r1 ||| (it_shl (1 : Int32) x3)) m2)) ∧ (¬ x2 = (1 : Int32) → w_220 kc x1 m (fun r3 m4 => w_301_81 kc Φ x0 x1 (r3 &&& ((it_shl (1 : Int32) x3) ^^^ (-1 : Int32))) m4)))) ∧ (¬ x3 ≤ (3 : Int32) → w_301_11 kc Φ x0 m))
/-- GrantBoardModel.random(III)V -/
def w_302_33 (kc : it_Kc) (Φ : it_Me → Prop) (K80 : Int32 → Int32 → it_Me → Prop) : Nat → Int32 → Int32 → Int32 → Int32 → it_Me → Prop
  | 0, _, _, _, _, _ => False
  | n33 + 1, v1, v4, v5, v6, m =>
  (v5 ≤ v6 → K80 v1 v5 m) ∧ (¬ v5 ≤ v6 → vp_in (v4 + v6) 196608 ∧ ((w_302_33 kc Φ K80 n33) v1 v4 v5 (v6 + (1 : Int32)) (it_sv (it_sv m 66 10 (((m 66 10) * (1664525 : Int32)) + (1013904223 : Int32))) 67 (Int32.toNatClampNeg (v4 + v6)) (it_i2b (it_i2b (it_us ((it_sv m 66 10 (((m 66 10) * (1664525 : Int32)) + (1013904223 : Int32))) 66 10) (24 : Int32)))))))
def w_302_80 (kc : it_Kc) (Φ : it_Me → Prop) (v1 : Int32) (v5 : Int32) (m : it_Me) : Prop :=
  w_280 kc v1 m (fun m1 => w_274 kc v1 (4 : Int32) (0 : Int32) (0 : Int32) v5 (0 : Int32) m1 (fun m2 => Φ m2))
def w_302 (kc : it_Kc) (x0 : Int32) (x1 : Int32) (x2 : Int32) (m : it_Me) (Φ : it_Me → Prop) : Prop :=
  w_271 kc x1 (4 : Int32) (0 : Int32) m (fun r1 m2 => w_220 kc r1 m2 (fun r3 m4 => w_271 kc x1 (4 : Int32) (0 : Int32) m4 (fun r5 m6 => w_220 kc (r5 + (4 : Int32)) m6 (fun r7 m8 => w_297 kc x2 r7 m8 (fun r9 m10 => ∃ e, w_302_33 kc Φ (fun v1 v5 m => w_302_80 kc Φ v1 v5 m) e x0 r3 r9 (0 : Int32) m10)))))
/-- GrantBoardModel.store(IIIII)V -/
def w_303_82 (kc : it_Kc) (Φ : it_Me → Prop) (K118 : Int32 → Int32 → Int32 → Int32 → it_Me → Prop) : Nat → Int32 → Int32 → Int32 → Int32 → Int32 → Int32 → Int32 → it_Me → Prop
  | 0, _, _, _, _, _, _, _, _ => False
  | n82 + 1, v1, v4, v7, v8, v9, v10, v11, m =>
  (v9 ≤ v11 → K118 v1 v4 v7 v8 m) ∧ (¬ v9 ≤ v11 → vp_in ((v7 + (12 : Int32)) + v11) 196608 ∧ (vp_in (v10 + v11) 196608 ∧ ((w_303_82 kc Φ K118 n82) v1 v4 v7 v8 v9 v10 (v11 + (1 : Int32)) (it_sv m 67 (Int32.toNatClampNeg (v10 + v11)) (it_i2b (m 67 (Int32.toNatClampNeg ((v7 + (12 : Int32)) + v11))))))))
def w_303_331 (kc : it_Kc) (Φ : it_Me → Prop) (m : it_Me) : Prop :=
  Φ m
def w_303_139 (kc : it_Kc) (Φ : it_Me → Prop) (v4 : Int32) (v8 : Int32) (u1 : Int32) (u2 : Int32) (u3 : Int32) (u4 : Int32) (m : it_Me) : Prop :=
  w_274 kc u1 u2 u3 u4 v8 v4 m (fun m1 => w_303_331 kc Φ m1)
def w_303_118 (kc : it_Kc) (Φ : it_Me → Prop) (v1 : Int32) (v4 : Int32) (v7 : Int32) (v8 : Int32) (m : it_Me) : Prop :=
  w_280 kc v1 m (fun m1 => (v7 = (-1 : Int32) → w_303_139 kc Φ v4 v8 v1 (5 : Int32) (0 : Int32) (10 : Int32) m1) ∧ (¬ v7 = (-1 : Int32) → w_303_139 kc Φ v4 v8 v1 (5 : Int32) (0 : Int32) (0 : Int32) m1))
def w_303_46 (kc : it_Kc) (Φ : it_Me → Prop) (v1 : Int32) (v2 : Int32) (v4 : Int32) (v7 : Int32) (u0 : Int32) (m : it_Me) : Prop :=
  w_271 kc v2 (5 : Int32) (0 : Int32) m (fun r1 m2 => w_220 kc (r1 + (4 : Int32)) m2 (fun r3 m4 => w_297 kc u0 r3 m4 (fun r5 m6 => w_271 kc v2 (5 : Int32) (0 : Int32) m6 (fun r7 m8 => w_220 kc r7 m8 (fun r9 m10 => ∃ e, w_303_82 kc Φ (fun v1 v4 v7 v8 m => w_303_118 kc Φ v1 v4 v7 v8 m) e v1 v4 v7 u0 r5 r9 (0 : Int32) m10)))))
def w_303_185 (kc : it_Kc) (Φ : it_Me → Prop) (v1 : Int32) (m : it_Me) : Prop :=
  w_282 kc v1 (7 : Int32) m (fun m1 => Φ m1)
def w_303_249 (kc : it_Kc) (Φ : it_Me → Prop) (m : it_Me) : Prop :=
  w_303_331 kc Φ m
def w_303_242 (kc : it_Kc) (Φ : it_Me → Prop) (v4 : Int32) (v5 : Int32) (u1 : Int32) (u2 : Int32) (u3 : Int32) (u4 : Int32) (m : it_Me) : Prop :=
  w_274 kc u1 u2 u3 u4 v5 v4 m (fun m1 => w_303_249 kc Φ m1)
def w_303_325 (kc : it_Kc) (Φ : it_Me → Prop) (v4 : Int32) (u1 : Int32) (u2 : Int32) (u3 : Int32) (u4 : Int32) (m : it_Me) : Prop :=
  w_274 kc u1 u2 u3 u4 (0 : Int32) v4 m (fun m1 => w_303_331 kc Φ m1)
def w_303 (kc : it_Kc) (x0 : Int32) (x1 : Int32) (x2 : Int32) (x3 : Int32) (x4 : Int32) (m : it_Me) (Φ : it_Me → Prop) : Prop :=
  vp_in x0 8 ∧ (w_220 kc (m 86 (Int32.toNatClampNeg x0)) m (fun r1 m2 => (x2 = (1 : Int32) → w_239 kc r1 x3 m2 (fun r3 m4 => (r3 = (-1 : Int32) → w_303_46 kc Φ x0 x1 x3 r3 (0 : Int32) m4) ∧ (¬ r3 = (-1 : Int32) → w_220 kc (r3 + (8 : Int32)) m4 (fun r5 m6 => w_303_46 kc Φ x0 x1 x3 r3 r5 m6)))) ∧ (¬ x2 = (1 : Int32) → (x2 = (2 : Int32) → (0 < (lg_cmp ((Int32.toInt64 x4) &&& (4294967295 : Int64)) (32 : Int64)) → w_303_185 kc Φ x0 m2) ∧ (¬ 0 < (lg_cmp ((Int32.toInt64 x4) &&& (4294967295 : Int64)) (32 : Int64)) → w_270 kc x1 (5 : Int32) (0 : Int32) m2 (fun r7 m8 => w_220 kc (r7 + (4 : Int32)) m8 (fun r9 m10 => (x4 ≤ r9 → w_270 kc x1 (5 : Int32) (0 : Int32) m10 (fun r11 m12 => w_220 kc r11 m12 (fun r13 m14 => w_242 kc r1 x3 x4 r13 m14 (fun r15 m16 => ((m16 66 4) = 0 → w_280 kc x0 m16 (fun m17 => (r15 = 0 → w_303_242 kc Φ x3 x4 x0 (5 : Int32) (0 : Int32) (9 : Int32) m17) ∧ (¬ r15 = 0 → w_303_242 kc Φ x3 x4 x0 (5 : Int32) (0 : Int32) (0 : Int32) m17))) ∧ (¬ (m16 66 4) = 0 → w_303_249 kc Φ m16))))) ∧ (¬ x4 ≤ r9 → w_303_185 kc Φ x0 m10))))) ∧ (¬ x2 = (2 : Int32) → w_239 kc r1 x3 m2 (fun r18 m19 => (r18 = (-1 : Int32) → w_280 kc x0 m19 (fun m20 => w_274 kc x0 (5 : Int32) (0 : Int32) (10 : Int32) (0 : Int32) x3 m20 (fun m21 => w_303_331 kc Φ m21))) ∧ (¬ r18 = (-1 : Int32) → w_242 kc r1 x3 (255 : Int32) (0 : Int32) m19 (fun r22 m23 => ((m23 66 4) = 0 → w_280 kc x0 m23 (fun m24 => (r22 = 0 → w_303_325 kc Φ x3 x0 (5 : Int32) (0 : Int32) (9 : Int32) m24) ∧ (¬ r22 = 0 → w_303_325 kc Φ x3 x0 (5 : Int32) (0 : Int32) (0 : Int32) m24))) ∧ (¬ (m23 66 4) = 0 → w_303_331 kc Φ m23))))))))
/-- GrantBoardModel.sampler(IIIII)V -/
def w_304_174 (kc : it_Kc) (Φ : it_Me → Prop) (m : it_Me) : Prop :=
  Φ m
def w_304_78 (kc : it_Kc) (Φ : it_Me → Prop) (v1 : Int32) (m : it_Me) : Prop :=
  w_282 kc v1 (6 : Int32) m (fun m1 => w_304_174 kc Φ m1)
def w_304_88 (kc : it_Kc) (Φ : it_Me → Prop) (v1 : Int32) (v2 : Int32) (v3 : Int32) (v4 : Int32) (v5 : Int32) (m : it_Me) : Prop :=
  (v3 = (1 : Int32) → w_280 kc v1 m (fun m1 => vp_in v4 2 ∧ (w_274 kc v1 (6 : Int32) (0 : Int32) v4 (m1 73 (Int32.toNatClampNeg v4)) (1 : Int32) m1 (fun m2 => w_304_174 kc Φ m2)))) ∧ (¬ v3 = (1 : Int32) → w_220 kc v2 m (fun r3 m4 => (r3 = 0 → w_221 kc v2 ((1 : Int32) + v4) m4 (fun m5 => w_221 kc (v2 + (4 : Int32)) v5 m5 (fun m6 => w_221 kc (v2 + (8 : Int32)) ((m6 66 6) + v5) m6 (fun m7 => w_280 kc v1 m7 (fun m8 => w_304_174 kc Φ m8))))) ∧ (¬ r3 = 0 → w_282 kc v1 (2 : Int32) m4 (fun m9 => w_304_174 kc Φ m9))))
def w_304_16 (kc : it_Kc) (Φ : it_Me → Prop) (v1 : Int32) (v2 : Int32) (v3 : Int32) (v4 : Int32) (v5 : Int32) (u0 : Int32) (m : it_Me) : Prop :=
  (v3 = (3 : Int32) → w_220 kc v2 m (fun r1 m2 => (r1 = 0 → w_282 kc v1 (3 : Int32) m2 (fun m3 => w_304_174 kc Φ m3)) ∧ (¬ r1 = 0 → w_221 kc v2 (0 : Int32) m2 (fun m4 => w_280 kc v1 m4 (fun m5 => w_304_174 kc Φ m5))))) ∧ (¬ v3 = (3 : Int32) → (u0 = 0 → w_304_78 kc Φ v1 m) ∧ (¬ u0 = 0 → (v3 = (2 : Int32) → (v5 < (1 : Int32) → w_304_78 kc Φ v1 m) ∧ (¬ v5 < (1 : Int32) → (v5 ≤ (100000 : Int32) → w_304_88 kc Φ v1 v2 v3 v4 v5 m) ∧ (¬ v5 ≤ (100000 : Int32) → w_304_78 kc Φ v1 m))) ∧ (¬ v3 = (2 : Int32) → w_304_88 kc Φ v1 v2 v3 v4 v5 m)))
def w_304_11 (kc : it_Kc) (Φ : it_Me → Prop) (v1 : Int32) (v2 : Int32) (v3 : Int32) (v4 : Int32) (v5 : Int32) (m : it_Me) : Prop :=
  w_304_16 kc Φ v1 v2 v3 v4 v5 (1 : Int32) m
def w_304 (kc : it_Kc) (x0 : Int32) (x1 : Int32) (x2 : Int32) (x3 : Int32) (x4 : Int32) (m : it_Me) (Φ : it_Me → Prop) : Prop :=
  (x3 = 0 → w_304_11 kc Φ x0 x1 x2 x3 x4 m) ∧ (¬ x3 = 0 → (x3 = (1 : Int32) → w_304_11 kc Φ x0 x1 x2 x3 x4 m) ∧ (¬ x3 = (1 : Int32) → w_304_16 kc Φ x0 x1 x2 x3 x4 (0 : Int32) m))
/-- GrantBoardModel.named(II)I -/
def w_306_82 (kc : it_Kc) (Φ : Int32 → it_Me → Prop) (K40 : Int32 → Int32 → Int32 → Int32 → Int32 → it_Me → Prop) (K90 : Int32 → Int32 → Int32 → Int32 → it_Me → Prop) (v1 : Int32) (v2 : Int32) (v3 : Int32) (v5 : Int32) (u0 : Int32) (m : it_Me) : Prop :=
  K40 v1 v2 v3 u0 (v5 + (1 : Int32)) m
def w_306_40 (kc : it_Kc) (Φ : Int32 → it_Me → Prop) (K90 : Int32 → Int32 → Int32 → Int32 → it_Me → Prop) : Nat → Int32 → Int32 → Int32 → Int32 → Int32 → it_Me → Prop
  | 0, _, _, _, _, _, _ => False
  | n40 + 1, v1, v2, v3, v4, v5, m =>
  (v2 ≤ v5 → K90 v1 v2 v3 v4 m) ∧ (¬ v2 ≤ v5 → (v4 = 0 → K90 v1 v2 v3 v4 m) ∧ (¬ v4 = 0 → vp_in v3 8 ∧ (vp_in ((m 84 (Int32.toNatClampNeg v3)) + v5) 196608 ∧ (vp_in (v1 + v5) 196608 ∧ (((m 67 (Int32.toNatClampNeg ((m 84 (Int32.toNatClampNeg v3)) + v5))) = (m 67 (Int32.toNatClampNeg (v1 + v5))) → w_306_82 kc Φ (w_306_40 kc Φ K90 n40) K90 v1 v2 v3 v5 (1 : Int32) m) ∧ (¬ (m 67 (Int32.toNatClampNeg ((m 84 (Int32.toNatClampNeg v3)) + v5))) = (m 67 (Int32.toNatClampNeg (v1 + v5))) → w_306_82 kc Φ (w_306_40 kc Φ K90 n40) K90 v1 v2 v3 v5 (0 : Int32) m))))))
def w_306_90 (kc : it_Kc) (Φ : Int32 → it_Me → Prop) (K2 : Int32 → Int32 → Int32 → it_Me → Prop) (K95 : Int32 → it_Me → Prop) (K103 : it_Me → Prop) (v1 : Int32) (v2 : Int32) (v3 : Int32) (v4 : Int32) (m : it_Me) : Prop :=
  (v4 = 0 → K2 v1 v2 (v3 + (1 : Int32)) m) ∧ (¬ v4 = 0 → K95 v3 m)
def w_306_35 (kc : it_Kc) (Φ : Int32 → it_Me → Prop) (K2 : Int32 → Int32 → Int32 → it_Me → Prop) (K95 : Int32 → it_Me → Prop) (K103 : it_Me → Prop) (v1 : Int32) (v2 : Int32) (v3 : Int32) (u0 : Int32) (m : it_Me) : Prop :=
  ∃ e, w_306_40 kc Φ (fun v1 v2 v3 v4 m => w_306_90 kc Φ K2 K95 K103 v1 v2 v3 v4 m) e v1 v2 v3 u0 (0 : Int32) m
def w_306_34 (kc : it_Kc) (Φ : Int32 → it_Me → Prop) (K2 : Int32 → Int32 → Int32 → it_Me → Prop) (K95 : Int32 → it_Me → Prop) (K103 : it_Me → Prop) (v1 : Int32) (v2 : Int32) (v3 : Int32) (m : it_Me) : Prop :=
  w_306_35 kc Φ K2 K95 K103 v1 v2 v3 (0 : Int32) m
def w_306_2 (kc : it_Kc) (Φ : Int32 → it_Me → Prop) (K95 : Int32 → it_Me → Prop) (K103 : it_Me → Prop) : Nat → Int32 → Int32 → Int32 → it_Me → Prop
  | 0, _, _, _, _ => False
  | n2 + 1, v1, v2, v3, m =>
  ((m 66 34) ≤ v3 → K103 m) ∧ (¬ (m 66 34) ≤ v3 → vp_in v3 8 ∧ (((m 84 (Int32.toNatClampNeg v3)) = (-1 : Int32) → w_306_34 kc Φ (w_306_2 kc Φ K95 K103 n2) K95 K103 v1 v2 v3 m) ∧ (¬ (m 84 (Int32.toNatClampNeg v3)) = (-1 : Int32) → vp_in v3 8 ∧ (((m 85 (Int32.toNatClampNeg v3)) = v2 → w_306_35 kc Φ (w_306_2 kc Φ K95 K103 n2) K95 K103 v1 v2 v3 (1 : Int32) m) ∧ (¬ (m 85 (Int32.toNatClampNeg v3)) = v2 → w_306_34 kc Φ (w_306_2 kc Φ K95 K103 n2) K95 K103 v1 v2 v3 m)))))
def w_306_95 (kc : it_Kc) (Φ : Int32 → it_Me → Prop) (v3 : Int32) (m : it_Me) : Prop :=
  Φ v3 m
def w_306_103 (kc : it_Kc) (Φ : Int32 → it_Me → Prop) (m : it_Me) : Prop :=
  Φ (-1 : Int32) m
def w_306 (kc : it_Kc) (x0 : Int32) (x1 : Int32) (m : it_Me) (Φ : Int32 → it_Me → Prop) : Prop :=
  ∃ e, w_306_2 kc Φ (fun v3 m => w_306_95 kc Φ v3 m) (fun m => w_306_103 kc Φ m) e x0 x1 (0 : Int32) m
/-- GrantBoardModel.send(IIII)V -/
def w_307_183 (kc : it_Kc) (Φ : it_Me → Prop) (K216 : Int32 → Int32 → Int32 → Int32 → it_Me → Prop) : Nat → Int32 → Int32 → Int32 → Int32 → Int32 → Int32 → Int32 → it_Me → Prop
  | 0, _, _, _, _, _, _, _, _ => False
  | n183 + 1, v1, v3, v5, v6, v7, v8, v9, m =>
  (v6 ≤ v9 → K216 v1 v3 v5 v6 m) ∧ (¬ v6 ≤ v9 → vp_in (v7 + v9) 196608 ∧ (vp_in (v8 + v9) 196608 ∧ ((w_307_183 kc Φ K216 n183) v1 v3 v5 v6 v7 v8 (v9 + (1 : Int32)) (it_sv m 67 (Int32.toNatClampNeg (v8 + v9)) (it_i2b (m 67 (Int32.toNatClampNeg (v7 + v9))))))))
def w_307_247 (kc : it_Kc) (Φ : it_Me → Prop) (m : it_Me) : Prop :=
  Φ m
def w_307_64 (kc : it_Kc) (Φ : it_Me → Prop) (v1 : Int32) (m : it_Me) : Prop :=
  w_282 kc v1 (11 : Int32) m (fun m1 => w_307_247 kc Φ m1)
def w_307_216 (kc : it_Kc) (Φ : it_Me → Prop) (v1 : Int32) (v3 : Int32) (v5 : Int32) (v6 : Int32) (m : it_Me) : Prop :=
  w_269 kc v5 (7 : Int32) m (fun r1 m2 => w_221 kc r1 (1 : Int32) m2 (fun m3 => w_281 kc v1 v6 m3 (fun m4 => w_274 kc v3 (7 : Int32) (0 : Int32) v1 v6 (0 : Int32) m4 (fun m5 => w_307_247 kc Φ m5))))
def w_307_39 (kc : it_Kc) (Φ : it_Me → Prop) (v1 : Int32) (v2 : Int32) (v3 : Int32) (v4 : Int32) (u0 : Int32) (m : it_Me) : Prop :=
  (u0 = (-1 : Int32) → w_307_64 kc Φ v1 m) ∧ (¬ u0 = (-1 : Int32) → w_271 kc u0 (7 : Int32) (0 : Int32) m (fun r1 m2 => w_220 kc (r1 + (4 : Int32)) m2 (fun r3 m4 => (r3 = 0 → w_307_64 kc Φ v1 m4) ∧ (¬ r3 = 0 → (v3 = v1 → w_282 kc v1 (6 : Int32) m4 (fun m5 => w_307_247 kc Φ m5)) ∧ (¬ v3 = v1 → w_269 kc u0 (7 : Int32) m4 (fun r6 m7 => w_220 kc r6 m7 (fun r8 m9 => (r8 = 0 → w_270 kc v2 (7 : Int32) (0 : Int32) m9 (fun r10 m11 => w_220 kc (r10 + (4 : Int32)) m11 (fun r12 m13 => w_297 kc v4 r12 m13 (fun r14 m15 => w_271 kc u0 (7 : Int32) (0 : Int32) m15 (fun r16 m17 => w_220 kc (r16 + (4 : Int32)) m17 (fun r18 m19 => w_270 kc v2 (7 : Int32) (0 : Int32) m19 (fun r20 m21 => w_220 kc r20 m21 (fun r22 m23 => w_271 kc u0 (7 : Int32) (0 : Int32) m23 (fun r24 m25 => w_220 kc r24 m25 (fun r26 m27 => ∃ e, w_307_183 kc Φ (fun v1 v3 v5 v6 m => w_307_216 kc Φ v1 v3 v5 v6 m) e v1 v3 u0 (it_min r14 r18) r22 r26 (0 : Int32) m27)))))))))) ∧ (¬ r8 = 0 → w_282 kc v1 (2 : Int32) m9 (fun m28 => w_307_247 kc Φ m28)))))))))
def w_307_38 (kc : it_Kc) (Φ : it_Me → Prop) (v1 : Int32) (v2 : Int32) (v3 : Int32) (v4 : Int32) (m : it_Me) : Prop :=
  w_307_39 kc Φ v1 v2 v3 v4 (-1 : Int32) m
def w_307 (kc : it_Kc) (x0 : Int32) (x1 : Int32) (x2 : Int32) (x3 : Int32) (m : it_Me) (Φ : it_Me → Prop) : Prop :=
  w_341 kc x2 m (fun r1 m2 => (r1 = 0 → w_307_38 kc Φ x0 x1 x2 x3 m2) ∧ (¬ r1 = 0 → vp_in x2 8 ∧ (((m2 95 (Int32.toNatClampNeg x2)) = (4 : Int32) → w_307_38 kc Φ x0 x1 x2 x3 m2) ∧ (¬ (m2 95 (Int32.toNatClampNeg x2)) = (4 : Int32) → vp_in x2 8 ∧ (((m2 95 (Int32.toNatClampNeg x2)) = (5 : Int32) → w_307_38 kc Φ x0 x1 x2 x3 m2) ∧ (¬ (m2 95 (Int32.toNatClampNeg x2)) = (5 : Int32) → w_272 kc x2 (7 : Int32) m2 (fun r3 m4 => w_307_39 kc Φ x0 x1 x2 x3 r3 m4)))))))
/-- GrantBoardModel.post(IIIII)V -/
def w_305_108 (kc : it_Kc) (Φ : it_Me → Prop) (v1 : Int32) (m : it_Me) : Prop :=
  w_282 kc v1 (7 : Int32) m (fun m1 => Φ m1)
def w_305_149 (kc : it_Kc) (Φ : it_Me → Prop) (m : it_Me) : Prop :=
  Φ m
def w_305 (kc : it_Kc) (x0 : Int32) (x1 : Int32) (x2 : Int32) (x3 : Int32) (x4 : Int32) (m : it_Me) (Φ : it_Me → Prop) : Prop :=
  (x2 = (1 : Int32) → w_307 kc x0 x1 x3 x4 m (fun m1 => w_305_149 kc Φ m1)) ∧ (¬ x2 = (1 : Int32) → (x2 = (2 : Int32) → w_269 kc x1 (7 : Int32) m (fun r2 m3 => w_220 kc r2 m3 (fun r4 m5 => (r4 = 0 → w_282 kc x0 (3 : Int32) m5 (fun m6 => w_305_149 kc Φ m6)) ∧ (¬ r4 = 0 → w_269 kc x1 (7 : Int32) m5 (fun r7 m8 => w_221 kc r7 (0 : Int32) m8 (fun m9 => w_280 kc x0 m9 (fun m10 => w_305_149 kc Φ m10))))))) ∧ (¬ x2 = (2 : Int32) → w_270 kc x1 (7 : Int32) (0 : Int32) m (fun r11 m12 => w_220 kc r11 m12 (fun r13 m14 => (x3 < (1 : Int32) → w_305_108 kc Φ x0 m14) ∧ (¬ x3 < (1 : Int32) → ((16 : Int32) < x3 → w_305_108 kc Φ x0 m14) ∧ (¬ (16 : Int32) < x3 → w_270 kc x1 (7 : Int32) (0 : Int32) m14 (fun r15 m16 => w_220 kc (r15 + (4 : Int32)) m16 (fun r17 m18 => (x3 ≤ r17 → w_306 kc r13 x3 m18 (fun r19 m20 => (r19 = (-1 : Int32) → w_282 kc x0 (11 : Int32) m20 (fun m21 => w_305_149 kc Φ m21)) ∧ (¬ r19 = (-1 : Int32) → w_281 kc x0 r19 m20 (fun m22 => w_305_149 kc Φ m22)))) ∧ (¬ x3 ≤ r17 → w_305_108 kc Φ x0 m18)))))))))
/-- GrantBoardModel.command(IIIII)V -/
def w_296_17 (kc : it_Kc) (Φ : it_Me → Prop) (v1 : Int32) (m : it_Me) : Prop :=
  w_282 kc v1 (11 : Int32) m (fun m1 => Φ m1)
def w_296_68 (kc : it_Kc) (Φ : it_Me → Prop) (m : it_Me) : Prop :=
  Φ m
def w_296_39 (kc : it_Kc) (Φ : it_Me → Prop) (v1 : Int32) (m : it_Me) : Prop :=
  w_281 kc v1 (4 : Int32) m (fun m1 => w_296_68 kc Φ m1)
def w_296_92 (kc : it_Kc) (Φ : it_Me → Prop) (v1 : Int32) (m : it_Me) : Prop :=
  w_282 kc v1 (10 : Int32) m (fun m1 => Φ m1)
def w_296_345 (kc : it_Kc) (Φ : it_Me → Prop) (m : it_Me) : Prop :=
  Φ m
def w_296_115 (kc : it_Kc) (Φ : it_Me → Prop) (v1 : Int32) (v2 : Int32) (v3 : Int32) (v4 : Int32) (v5 : Int32) (u0 : Int32) (m : it_Me) : Prop :=
  (u0 = (-1 : Int32) → w_282 kc v1 (9 : Int32) m (fun m1 => Φ m1)) ∧ (¬ u0 = (-1 : Int32) → (v2 = (0 : Int32) → w_269 kc u0 v2 m (fun r2 m3 => w_298 kc v1 r2 v3 v4 v5 m3 (fun m4 => w_296_345 kc Φ m4))) ∧ (¬ v2 = (0 : Int32) → (v2 = (1 : Int32) → w_299 kc v1 u0 v3 v4 m (fun m5 => w_296_345 kc Φ m5)) ∧ (¬ v2 = (1 : Int32) → (v2 = (2 : Int32) → w_300 kc v1 v3 v4 m (fun m6 => w_296_345 kc Φ m6)) ∧ (¬ v2 = (2 : Int32) → (v2 = (3 : Int32) → w_269 kc u0 v2 m (fun r7 m8 => w_301 kc v1 r7 v3 v4 m8 (fun m9 => w_296_345 kc Φ m9))) ∧ (¬ v2 = (3 : Int32) → (v2 = (4 : Int32) → w_302 kc v1 u0 v4 m (fun m10 => w_296_345 kc Φ m10)) ∧ (¬ v2 = (4 : Int32) → (v2 = (5 : Int32) → w_303 kc v1 u0 v3 v4 v5 m (fun m11 => w_296_345 kc Φ m11)) ∧ (¬ v2 = (5 : Int32) → (v2 = (6 : Int32) → w_269 kc u0 v2 m (fun r12 m13 => w_304 kc v1 r12 v3 v4 v5 m13 (fun m14 => w_296_345 kc Φ m14))) ∧ (¬ v2 = (6 : Int32) → (v2 = (7 : Int32) → w_305 kc v1 u0 v3 v4 v5 m (fun m15 => w_296_345 kc Φ m15)) ∧ (¬ v2 = (7 : Int32) → w_270 kc u0 (8 : Int32) (0 : Int32) m (fun r16 m17 => w_220 kc (r16 + (4 : Int32)) m17 (fun r18 m19 => w_270 kc u0 (8 : Int32) (0 : Int32) m19 (fun r20 m21 => w_220 kc r20 m21 (fun r22 m23 => w_297 kc v4 r18 m23 (fun r24 m25 => w_222 kc r22 r24 m25 (fun r26 m27 => w_281 kc v1 r26 m27 (fun m28 => w_296_345 kc Φ m28))))))))))))))))
def w_296_100 (kc : it_Kc) (Φ : it_Me → Prop) (v1 : Int32) (v2 : Int32) (v3 : Int32) (v4 : Int32) (v5 : Int32) (m : it_Me) : Prop :=
  (v2 = (2 : Int32) → w_296_115 kc Φ v1 v2 v3 v4 v5 (0 : Int32) m) ∧ (¬ v2 = (2 : Int32) → w_273 kc v1 v2 m (fun r1 m2 => w_296_115 kc Φ v1 v2 v3 v4 v5 r1 m2))
def w_296 (kc : it_Kc) (x0 : Int32) (x1 : Int32) (x2 : Int32) (x3 : Int32) (x4 : Int32) (m : it_Me) (Φ : it_Me → Prop) : Prop :=
  w_287 kc x1 m (fun r1 m2 => (r1 = 0 → w_296_17 kc Φ x0 m2) ∧ (¬ r1 = 0 → w_294 kc x0 x1 x2 m2 (fun r3 m4 => (r3 = 0 → (x2 = 0 → (x1 = (2 : Int32) → w_296_39 kc Φ x0 m4) ∧ (¬ x1 = (2 : Int32) → (x1 = (3 : Int32) → w_296_39 kc Φ x0 m4) ∧ (¬ x1 = (3 : Int32) → (x1 = (6 : Int32) → w_281 kc x0 (2 : Int32) m4 (fun m5 => w_296_68 kc Φ m5)) ∧ (¬ x1 = (6 : Int32) → w_280 kc x0 m4 (fun m6 => w_296_68 kc Φ m6))))) ∧ (¬ x2 = 0 → (x2 < 0 → w_296_92 kc Φ x0 m4) ∧ (¬ x2 < 0 → w_295 kc x0 x1 m4 (fun r7 m8 => (r7 < x2 → w_296_92 kc Φ x0 m8) ∧ (¬ r7 < x2 → (x1 = 0 → (x2 = (4 : Int32) → w_296_92 kc Φ x0 m8) ∧ (¬ x2 = (4 : Int32) → w_296_100 kc Φ x0 x1 x2 x3 x4 m8)) ∧ (¬ x1 = 0 → w_296_100 kc Φ x0 x1 x2 x3 x4 m8)))))) ∧ (¬ r3 = 0 → w_296_17 kc Φ x0 m4))))
/-- GrantBoardModel.systemCall(I)V -/
def w_284_240 (kc : it_Kc) (Φ : it_Me → Prop) (m : it_Me) : Prop :=
  Φ m
def w_284_201 (kc : it_Kc) (Φ : it_Me → Prop) (v2 : Int32) (v3 : Int32) (v4 : Int32) (v5 : Int32) (u1 : Int32) (u2 : Int32) (m : it_Me) : Prop :=
  w_289 kc u1 u2 v2 v3 v4 v5 m (fun m1 => w_284_240 kc Φ m1)
def w_284 (kc : it_Kc) (x0 : Int32) (m : it_Me) (Φ : it_Me → Prop) : Prop :=
  vp_in (((32 : Int32) * x0) + (10 : Int32)) 256 ∧ (vp_in (((32 : Int32) * x0) + (11 : Int32)) 256 ∧ (vp_in (((32 : Int32) * x0) + (12 : Int32)) 256 ∧ (vp_in (((32 : Int32) * x0) + (13 : Int32)) 256 ∧ (vp_in (((32 : Int32) * x0) + (14 : Int32)) 256 ∧ (vp_in x0 8 ∧ (vp_in x0 8 ∧ (vp_in x0 8 ∧ (vp_in (5 : Int32) 12 ∧ (vp_in (5 : Int32) 12 ∧ (w_257 kc x0 (0 : Int32) (m 93 (Int32.toNatClampNeg (((32 : Int32) * x0) + (14 : Int32)))) (it_sv (it_sv (it_sv m 94 (Int32.toNatClampNeg x0) ((m 94 (Int32.toNatClampNeg x0)) + (4 : Int32))) 97 (Int32.toNatClampNeg x0) (0 : Int32)) 69 (Int32.toNatClampNeg (5 : Int32)) (((it_sv (it_sv m 94 (Int32.toNatClampNeg x0) ((m 94 (Int32.toNatClampNeg x0)) + (4 : Int32))) 97 (Int32.toNatClampNeg x0) (0 : Int32)) 69 (Int32.toNatClampNeg (5 : Int32))) + (1 : Int32))) (fun m1 => ((m 93 (Int32.toNatClampNeg (((32 : Int32) * x0) + (14 : Int32)))) = (0 : Int32) → w_285 kc x0 (m 93 (Int32.toNatClampNeg (((32 : Int32) * x0) + (10 : Int32)))) (m 93 (Int32.toNatClampNeg (((32 : Int32) * x0) + (11 : Int32)))) (m 93 (Int32.toNatClampNeg (((32 : Int32) * x0) + (12 : Int32)))) m1 (fun m2 => w_284_240 kc Φ m2)) ∧ (¬ (m 93 (Int32.toNatClampNeg (((32 : Int32) * x0) + (14 : Int32)))) = (0 : Int32) → ((m 93 (Int32.toNatClampNeg (((32 : Int32) * x0) + (14 : Int32)))) = (1 : Int32) → w_288 kc x0 (m 93 (Int32.toNatClampNeg (((32 : Int32) * x0) + (10 : Int32)))) (m 93 (Int32.toNatClampNeg (((32 : Int32) * x0) + (11 : Int32)))) (m 93 (Int32.toNatClampNeg (((32 : Int32) * x0) + (12 : Int32)))) (m 93 (Int32.toNatClampNeg (((32 : Int32) * x0) + (13 : Int32)))) m1 (fun m3 => w_284_240 kc Φ m3)) ∧ (¬ (m 93 (Int32.toNatClampNeg (((32 : Int32) * x0) + (14 : Int32)))) = (1 : Int32) → ((m 93 (Int32.toNatClampNeg (((32 : Int32) * x0) + (14 : Int32)))) = (2 : Int32) → w_296 kc x0 (m 93 (Int32.toNatClampNeg (((32 : Int32) * x0) + (10 : Int32)))) (m 93 (Int32.toNatClampNeg (((32 : Int32) * x0) + (11 : Int32)))) (m 93 (Int32.toNatClampNeg (((32 : Int32) * x0) + (12 : Int32)))) (m 93 (Int32.toNatClampNeg (((32 : Int32) * x0) + (13 : Int32)))) m1 (fun m4 => w_284_240 kc Φ m4)) ∧ (¬ (m 93 (Int32.toNatClampNeg (((32 : Int32) * x0) + (14 : Int32)))) = (2 : Int32) → ((m 93 (Int32.toNatClampNeg (((32 : Int32) * x0) + (14 : Int32)))) = (3 : Int32) → ((m 93 (Int32.toNatClampNeg (((32 : Int32) * x0) + (14 : Int32)))) = (3 : Int32) → w_284_201 kc Φ (m 93 (Int32.toNatClampNeg (((32 : Int32) * x0) + (10 : Int32)))) (m 93 (Int32.toNatClampNeg (((32 : Int32) * x0) + (11 : Int32)))) (m 93 (Int32.toNatClampNeg (((32 : Int32) * x0) + (12 : Int32)))) (m 93 (Int32.toNatClampNeg (((32 : Int32) * x0) + (13 : Int32)))) x0 (1 : Int32) m1) ∧ (¬ (m 93 (Int32.toNatClampNeg (((32 : Int32) * x0) + (14 : Int32)))) = (3 : Int32) → w_284_201 kc Φ (m 93 (Int32.toNatClampNeg (((32 : Int32) * x0) + (10 : Int32)))) (m 93 (Int32.toNatClampNeg (((32 : Int32) * x0) + (11 : Int32)))) (m 93 (Int32.toNatClampNeg (((32 : Int32) * x0) + (12 : Int32)))) (m 93 (Int32.toNatClampNeg (((32 : Int32) * x0) + (13 : Int32)))) x0 (0 : Int32) m1)) ∧ (¬ (m 93 (Int32.toNatClampNeg (((32 : Int32) * x0) + (14 : Int32)))) = (3 : Int32) → ((m 93 (Int32.toNatClampNeg (((32 : Int32) * x0) + (14 : Int32)))) = (4 : Int32) → ((m 93 (Int32.toNatClampNeg (((32 : Int32) * x0) + (14 : Int32)))) = (3 : Int32) → w_284_201 kc Φ (m 93 (Int32.toNatClampNeg (((32 : Int32) * x0) + (10 : Int32)))) (m 93 (Int32.toNatClampNeg (((32 : Int32) * x0) + (11 : Int32)))) (m 93 (Int32.toNatClampNeg (((32 : Int32) * x0) + (12 : Int32)))) (m 93 (Int32.toNatClampNeg (((32 : Int32) * x0) + (13 : Int32)))) x0 (1 : Int32) m1) ∧ (¬ (m 93 (Int32.toNatClampNeg (((32 : Int32) * x0) + (14 : Int32)))) = (3 : Int32) → w_284_201 kc Φ (m 93 (Int32.toNatClampNeg (((32 : Int32) * x0) + (10 : Int32)))) (m 93 (Int32.toNatClampNeg (((32 : Int32) * x0) + (11 : Int32)))) (m 93 (Int32.toNatClampNeg (((32 : Int32) * x0) + (12 : Int32)))) (m 93 (Int32.toNatClampNeg (((32 : Int32) * x0) + (13 : Int32)))) x0 (0 : Int32) m1)) ∧ (¬ (m 93 (Int32.toNatClampNeg (((32 : Int32) * x0) + (14 : Int32)))) = (4 : Int32) → ((m 93 (Int32.toNatClampNeg (((32 : Int32) * x0) + (14 : Int32)))) = (5 : Int32) → w_290 kc x0 (m 93 (Int32.toNatClampNeg (((32 : Int32) * x0) + (10 : Int32)))) (m 93 (Int32.toNatClampNeg (((32 : Int32) * x0) + (11 : Int32)))) m1 (fun m5 => w_284_240 kc Φ m5)) ∧ (¬ (m 93 (Int32.toNatClampNeg (((32 : Int32) * x0) + (14 : Int32)))) = (5 : Int32) → ((m 93 (Int32.toNatClampNeg (((32 : Int32) * x0) + (14 : Int32)))) = (6 : Int32) → w_293 kc x0 (m 93 (Int32.toNatClampNeg (((32 : Int32) * x0) + (10 : Int32)))) (m 93 (Int32.toNatClampNeg (((32 : Int32) * x0) + (11 : Int32)))) m1 (fun m6 => w_284_240 kc Φ m6)) ∧ (¬ (m 93 (Int32.toNatClampNeg (((32 : Int32) * x0) + (14 : Int32)))) = (6 : Int32) → w_282 kc x0 (10 : Int32) m1 (fun m7 => w_284_240 kc Φ m7)))))))))))))))))))
/-- GrantBoardModel.tickAlarms()V -/
def w_308_107 (kc : it_Kc) (Φ : it_Me → Prop) (K2 : Int32 → it_Me → Prop) (K113 : it_Me → Prop) (v1 : Int32) (m : it_Me) : Prop :=
  K2 (v1 + (1 : Int32)) m
def w_308_31 (kc : it_Kc) (Φ : it_Me → Prop) (K2 : Int32 → it_Me → Prop) (K113 : it_Me → Prop) (v1 : Int32) (v2 : Int32) (u0 : Int32) (m : it_Me) : Prop :=
  (v2 = (-1 : Int32) → w_308_107 kc Φ K2 K113 v1 m) ∧ (¬ v2 = (-1 : Int32) → w_220 kc u0 m (fun r1 m2 => (r1 = (1 : Int32) → w_220 kc (u0 + (4 : Int32)) m2 (fun r3 m4 => w_220 kc (u0 + (8 : Int32)) m4 (fun r5 m6 => w_247 kc ((m2 66 6) - r3) r5 m6 (fun r7 m8 => (r7 = 0 → w_221 kc u0 (0 : Int32) m8 (fun m9 => w_220 kc (u0 + (4 : Int32)) m9 (fun r10 m11 => w_220 kc (u0 + (8 : Int32)) m11 (fun r12 m13 => w_274 kc v1 (0 : Int32) (0 : Int32) (m9 66 6) (r10 + r12) (0 : Int32) m13 (fun m14 => w_308_107 kc Φ K2 K113 v1 m14))))) ∧ (¬ r7 = 0 → w_308_107 kc Φ K2 K113 v1 m8))))) ∧ (¬ r1 = (1 : Int32) → w_308_107 kc Φ K2 K113 v1 m2)))
def w_308_2 (kc : it_Kc) (Φ : it_Me → Prop) (K113 : it_Me → Prop) : Nat → Int32 → it_Me → Prop
  | 0, _, _ => False
  | n2 + 1, v1, m =>
  ((m 66 34) ≤ v1 → K113 m) ∧ (¬ (m 66 34) ≤ v1 → w_272 kc v1 (0 : Int32) m (fun r1 m2 => (r1 = (-1 : Int32) → w_308_31 kc Φ (w_308_2 kc Φ K113 n2) K113 v1 r1 (0 : Int32) m2) ∧ (¬ r1 = (-1 : Int32) → w_269 kc r1 (0 : Int32) m2 (fun r3 m4 => w_308_31 kc Φ (w_308_2 kc Φ K113 n2) K113 v1 r1 r3 m4))))
def w_308_113 (kc : it_Kc) (Φ : it_Me → Prop) (m : it_Me) : Prop :=
  Φ m
def w_308 (kc : it_Kc) (m : it_Me) (Φ : it_Me → Prop) : Prop :=
  ∃ e, w_308_2 kc Φ (fun m => w_308_113 kc Φ m) e (0 : Int32) m
/-- GrantBoardModel.first(Z)I -/
def w_309_106 (kc : it_Kc) (Φ : Int32 → it_Me → Prop) (K4 : Int32 → Int32 → Int32 → it_Me → Prop) (K112 : Int32 → it_Me → Prop) (v1 : Int32) (v2 : Int32) (v3 : Int32) (m : it_Me) : Prop :=
  K4 v1 v2 (v3 + (1 : Int32)) m
def w_309_105 (kc : it_Kc) (Φ : Int32 → it_Me → Prop) (K4 : Int32 → Int32 → Int32 → it_Me → Prop) (K112 : Int32 → it_Me → Prop) (v1 : Int32) (v3 : Int32) (u0 : Int32) (m : it_Me) : Prop :=
  w_309_106 kc Φ K4 K112 v1 u0 v3 m
def w_309_100 (kc : it_Kc) (Φ : Int32 → it_Me → Prop) (K4 : Int32 → Int32 → Int32 → it_Me → Prop) (K112 : Int32 → it_Me → Prop) (v1 : Int32) (v3 : Int32) (m : it_Me) : Prop :=
  w_309_105 kc Φ K4 K112 v1 v3 v3 m
def w_309_97 (kc : it_Kc) (Φ : Int32 → it_Me → Prop) (K4 : Int32 → Int32 → Int32 → it_Me → Prop) (K112 : Int32 → it_Me → Prop) (v1 : Int32) (v2 : Int32) (v3 : Int32) (u0 : Int32) (u1 : Int32) (m : it_Me) : Prop :=
  (u1 ≤ u0 → w_309_105 kc Φ K4 K112 v1 v3 v2 m) ∧ (¬ u1 ≤ u0 → w_309_100 kc Φ K4 K112 v1 v3 m)
def w_309_69 (kc : it_Kc) (Φ : Int32 → it_Me → Prop) (K4 : Int32 → Int32 → Int32 → it_Me → Prop) (K112 : Int32 → it_Me → Prop) (v1 : Int32) (v2 : Int32) (v3 : Int32) (u0 : Int32) (m : it_Me) : Prop :=
  (v2 = (-1 : Int32) → w_309_100 kc Φ K4 K112 v1 v3 m) ∧ (¬ v2 = (-1 : Int32) → (v1 = 0 → vp_in v2 8 ∧ (w_309_97 kc Φ K4 K112 v1 v2 v3 u0 (m 112 (Int32.toNatClampNeg v2)) m)) ∧ (¬ v1 = 0 → vp_in v2 8 ∧ (w_309_97 kc Φ K4 K112 v1 v2 v3 u0 (m 111 (Int32.toNatClampNeg v2)) m)))
def w_309_43 (kc : it_Kc) (Φ : Int32 → it_Me → Prop) (K4 : Int32 → Int32 → Int32 → it_Me → Prop) (K112 : Int32 → it_Me → Prop) (v1 : Int32) (v2 : Int32) (v3 : Int32) (u1 : Int32) (u2 : Int32) (m : it_Me) : Prop :=
  w_220 kc (u1 + u2) m (fun r1 m2 => (r1 = 0 → w_309_106 kc Φ K4 K112 v1 v2 v3 m2) ∧ (¬ r1 = 0 → (v1 = 0 → vp_in v3 8 ∧ (w_309_69 kc Φ K4 K112 v1 v2 v3 (m2 112 (Int32.toNatClampNeg v3)) m2)) ∧ (¬ v1 = 0 → vp_in v3 8 ∧ (w_309_69 kc Φ K4 K112 v1 v2 v3 (m2 111 (Int32.toNatClampNeg v3)) m2))))
def w_309_4 (kc : it_Kc) (Φ : Int32 → it_Me → Prop) (K112 : Int32 → it_Me → Prop) : Nat → Int32 → Int32 → Int32 → it_Me → Prop
  | 0, _, _, _, _ => False
  | n4 + 1, v1, v2, v3, m =>
  ((m 66 34) ≤ v3 → K112 v2 m) ∧ (¬ (m 66 34) ≤ v3 → w_272 kc v3 (1 : Int32) m (fun r1 m2 => (r1 = (-1 : Int32) → w_309_106 kc Φ (w_309_4 kc Φ K112 n4) K112 v1 v2 v3 m2) ∧ (¬ r1 = (-1 : Int32) → w_269 kc r1 (1 : Int32) m2 (fun r3 m4 => (v1 = 0 → w_309_43 kc Φ (w_309_4 kc Φ K112 n4) K112 v1 v2 v3 r3 (8 : Int32) m4) ∧ (¬ v1 = 0 → w_309_43 kc Φ (w_309_4 kc Φ K112 n4) K112 v1 v2 v3 r3 (0 : Int32) m4)))))
def w_309_112 (kc : it_Kc) (Φ : Int32 → it_Me → Prop) (v2 : Int32) (m : it_Me) : Prop :=
  Φ v2 m
def w_309 (kc : it_Kc) (x0 : Int32) (m : it_Me) (Φ : Int32 → it_Me → Prop) : Prop :=
  ∃ e, w_309_4 kc Φ (fun v2 m => w_309_112 kc Φ v2 m) e x0 (-1 : Int32) (0 : Int32) m
/-- GrantBoardModel.tickConsole()V -/
def w_310_190 (kc : it_Kc) (Φ : it_Me → Prop) (m : it_Me) : Prop :=
  Φ m
def w_310_165 (kc : it_Kc) (Φ : it_Me → Prop) (v1 : Int32) (v3 : Int32) (v4 : Int32) (m : it_Me) : Prop :=
  w_221 kc v3 (0 : Int32) m (fun m1 => w_221 kc (v3 + (4 : Int32)) (0 : Int32) m1 (fun m2 => w_274 kc v1 (1 : Int32) (1 : Int32) v4 (0 : Int32) (0 : Int32) m2 (fun m3 => w_310_190 kc Φ m3)))
def w_310_150 (kc : it_Kc) (Φ : it_Me → Prop) (v1 : Int32) (v3 : Int32) (v4 : Int32) (v5 : Int32) (m : it_Me) : Prop :=
  (v5 = 0 → w_310_165 kc Φ v1 v3 v4 m) ∧ (¬ v5 = 0 → w_220 kc v3 m (fun r1 m2 => (v4 = r1 → w_310_165 kc Φ v1 v3 v4 m2) ∧ (¬ v4 = r1 → w_310_190 kc Φ m2)))
def w_310_128 (kc : it_Kc) (Φ : it_Me → Prop) (v1 : Int32) (v3 : Int32) (v4 : Int32) (v5 : Int32) (m : it_Me) : Prop :=
  vp_in (3 : Int32) 12 ∧ (vp_in (3 : Int32) 12 ∧ (w_221 kc (v3 + (4 : Int32)) (v4 + (1 : Int32)) (it_sv m 69 (Int32.toNatClampNeg (3 : Int32)) ((m 69 (Int32.toNatClampNeg (3 : Int32))) + (1 : Int32))) (fun m1 => w_310_150 kc Φ v1 v3 (v4 + (1 : Int32)) v5 m1)))
def w_310_70 (kc : it_Kc) (Φ : it_Me → Prop) (v1 : Int32) (v2 : Int32) (v3 : Int32) (v4 : Int32) (u0 : Int32) (m : it_Me) : Prop :=
  (u0 = 0 → w_310_150 kc Φ v1 v3 v4 u0 m) ∧ (¬ u0 = 0 → w_270 kc v2 (1 : Int32) (1 : Int32) m (fun r1 m2 => w_220 kc r1 m2 (fun r3 m4 => w_218 kc (r3 + v4) m4 (fun r5 m6 => vp_in (3 : Int32) 12 ∧ ((0 ≤ (lg_cmp ((Int32.toInt64 (m6 69 (Int32.toNatClampNeg (3 : Int32)))) &&& (4294967295 : Int64)) (4000 : Int64)) → w_310_128 kc Φ v1 v3 v4 u0 m6) ∧ (¬ 0 ≤ (lg_cmp ((Int32.toInt64 (m6 69 (Int32.toNatClampNeg (3 : Int32)))) &&& (4294967295 : Int64)) (4000 : Int64)) → vp_in (3 : Int32) 12 ∧ (vp_in (m6 69 (Int32.toNatClampNeg (3 : Int32))) 4000 ∧ (w_310_128 kc Φ v1 v3 v4 u0 (it_sv m6 70 (Int32.toNatClampNeg (m6 69 (Int32.toNatClampNeg (3 : Int32)))) (it_i2b (it_i2b r5)))))))))))
def w_310_19 (kc : it_Kc) (Φ : it_Me → Prop) (u0 : Int32) (m : it_Me) : Prop :=
  (u0 = (-1 : Int32) → Φ m) ∧ (¬ u0 = (-1 : Int32) → w_272 kc u0 (1 : Int32) m (fun r1 m2 => w_269 kc r1 (1 : Int32) m2 (fun r3 m4 => w_220 kc (r3 + (4 : Int32)) m4 (fun r5 m6 => w_270 kc r1 (1 : Int32) (1 : Int32) m6 (fun r7 m8 => w_220 kc (r7 + (4 : Int32)) m8 (fun r9 m10 => (r9 ≤ r5 → w_310_70 kc Φ u0 r1 r3 r5 (0 : Int32) m10) ∧ (¬ r9 ≤ r5 → w_310_70 kc Φ u0 r1 r3 r5 (1 : Int32) m10)))))))
def w_310 (kc : it_Kc) (m : it_Me) (Φ : it_Me → Prop) : Prop :=
  (((m 66 6) &&& (7 : Int32)) = 0 → w_309 kc (1 : Int32) m (fun r1 m2 => w_310_19 kc Φ r1 m2)) ∧ (¬ ((m 66 6) &&& (7 : Int32)) = 0 → w_310_19 kc Φ (-1 : Int32) m)
/-- GrantBoardModel.tickSampler()V -/
def w_311_109 (kc : it_Kc) (Φ : it_Me → Prop) (K2 : Int32 → it_Me → Prop) (K115 : it_Me → Prop) (v1 : Int32) (m : it_Me) : Prop :=
  K2 (v1 + (1 : Int32)) m
def w_311_33 (kc : it_Kc) (Φ : it_Me → Prop) (K2 : Int32 → it_Me → Prop) (K115 : it_Me → Prop) (v1 : Int32) (v2 : Int32) (u0 : Int32) (m : it_Me) : Prop :=
  (v2 = (-1 : Int32) → w_311_109 kc Φ K2 K115 v1 m) ∧ (¬ v2 = (-1 : Int32) → w_220 kc u0 m (fun r1 m2 => (r1 = 0 → w_311_109 kc Φ K2 K115 v1 m2) ∧ (¬ r1 = 0 → w_220 kc (u0 + (8 : Int32)) m2 (fun r3 m4 => (r3 = (m4 66 6) → w_220 kc u0 m4 (fun r5 m6 => w_220 kc (u0 + (4 : Int32)) m6 (fun r7 m8 => w_221 kc (u0 + (8 : Int32)) ((m6 66 6) + r7) m8 (fun m9 => vp_in (r5 - (1 : Int32)) 2 ∧ (w_274 kc v1 (6 : Int32) (0 : Int32) (r5 - (1 : Int32)) (m9 73 (Int32.toNatClampNeg (r5 - (1 : Int32)))) (0 : Int32) m9 (fun m10 => w_311_109 kc Φ K2 K115 v1 m10)))))) ∧ (¬ r3 = (m4 66 6) → w_311_109 kc Φ K2 K115 v1 m4)))))
def w_311_2 (kc : it_Kc) (Φ : it_Me → Prop) (K115 : it_Me → Prop) : Nat → Int32 → it_Me → Prop
  | 0, _, _ => False
  | n2 + 1, v1, m =>
  ((m 66 34) ≤ v1 → K115 m) ∧ (¬ (m 66 34) ≤ v1 → w_272 kc v1 (6 : Int32) m (fun r1 m2 => (r1 = (-1 : Int32) → w_311_33 kc Φ (w_311_2 kc Φ K115 n2) K115 v1 r1 (0 : Int32) m2) ∧ (¬ r1 = (-1 : Int32) → w_269 kc r1 (6 : Int32) m2 (fun r3 m4 => w_311_33 kc Φ (w_311_2 kc Φ K115 n2) K115 v1 r1 r3 m4))))
def w_311_115 (kc : it_Kc) (Φ : it_Me → Prop) (m : it_Me) : Prop :=
  Φ m
def w_311 (kc : it_Kc) (m : it_Me) (Φ : it_Me → Prop) : Prop :=
  ∃ e, w_311_2 kc Φ (fun m => w_311_115 kc Φ m) e (0 : Int32) m
/-- GrantBoardModel.canRun(I)Z -/
def w_312_24 (kc : it_Kc) (Φ : Int32 → it_Me → Prop) (u0 : Int32) (m : it_Me) : Prop :=
  (u0 = 0 ∨ u0 = 1) ∧ Φ u0 m
def w_312_23 (kc : it_Kc) (Φ : Int32 → it_Me → Prop) (m : it_Me) : Prop :=
  w_312_24 kc Φ (0 : Int32) m
def w_312 (kc : it_Kc) (x0 : Int32) (m : it_Me) (Φ : Int32 → it_Me → Prop) : Prop :=
  vp_in x0 8 ∧ (((m 95 (Int32.toNatClampNeg x0)) = (1 : Int32) → vp_in x0 8 ∧ (((m 96 (Int32.toNatClampNeg x0)) = 0 → w_312_24 kc Φ (1 : Int32) m) ∧ (¬ (m 96 (Int32.toNatClampNeg x0)) = 0 → w_312_23 kc Φ m))) ∧ (¬ (m 95 (Int32.toNatClampNeg x0)) = (1 : Int32) → w_312_23 kc Φ m))
/-- GrantBoardModel.beginTurn(I)V -/
def w_313 (kc : it_Kc) (x0 : Int32) (m : it_Me) (Φ : it_Me → Prop) : Prop :=
  vp_in x0 8 ∧ (Φ (it_sv (it_sv (it_sv m 66 70 x0) 66 71 (0 : Int32)) 97 (Int32.toNatClampNeg x0) (0 : Int32)))
/-- GrantBoardModel.chooseLevel()V -/
def w_315_118 (kc : it_Kc) (Φ : it_Me → Prop) (K143 : Int32 → it_Me → Prop) : Nat → Int32 → Int32 → it_Me → Prop
  | 0, _, _, _ => False
  | n118 + 1, v1, v2, m =>
  ((m 66 34) ≤ v2 → K143 v1 m) ∧ (¬ (m 66 34) ≤ v2 → vp_in v2 8 ∧ ((w_315_118 kc Φ K143 n118) (it_max v1 (m 108 (Int32.toNatClampNeg v2))) (v2 + (1 : Int32)) m))
def w_315_240 (kc : it_Kc) (Φ : it_Me → Prop) (K159 : Int32 → Int32 → it_Me → Prop) (K247 : Int32 → it_Me → Prop) (v2 : Int32) (u0 : Int32) (m : it_Me) : Prop :=
  K159 u0 (v2 + (1 : Int32)) m
def w_315_239 (kc : it_Kc) (Φ : it_Me → Prop) (K159 : Int32 → Int32 → it_Me → Prop) (K247 : Int32 → it_Me → Prop) (v1 : Int32) (v2 : Int32) (m : it_Me) : Prop :=
  w_315_240 kc Φ K159 K247 v2 v1 m
def w_315_222 (kc : it_Kc) (Φ : it_Me → Prop) (K159 : Int32 → Int32 → it_Me → Prop) (K247 : Int32 → it_Me → Prop) (v1 : Int32) (v2 : Int32) (u0 : Int32) (m : it_Me) : Prop :=
  w_312 kc v2 m (fun r1 m2 => (r1 = 0 → w_315_239 kc Φ K159 K247 v1 v2 m2) ∧ (¬ r1 = 0 → (u0 = 0 → w_315_239 kc Φ K159 K247 v1 v2 m2) ∧ (¬ u0 = 0 → w_315_240 kc Φ K159 K247 v2 v2 m2)))
def w_315_217 (kc : it_Kc) (Φ : it_Me → Prop) (K159 : Int32 → Int32 → it_Me → Prop) (K247 : Int32 → it_Me → Prop) (v1 : Int32) (v2 : Int32) (m : it_Me) : Prop :=
  w_315_222 kc Φ K159 K247 v1 v2 (1 : Int32) m
def w_315_221 (kc : it_Kc) (Φ : it_Me → Prop) (K159 : Int32 → Int32 → it_Me → Prop) (K247 : Int32 → it_Me → Prop) (v1 : Int32) (v2 : Int32) (m : it_Me) : Prop :=
  w_315_222 kc Φ K159 K247 v1 v2 (0 : Int32) m
def w_315_159 (kc : it_Kc) (Φ : it_Me → Prop) (K247 : Int32 → it_Me → Prop) : Nat → Int32 → Int32 → it_Me → Prop
  | 0, _, _, _ => False
  | n159 + 1, v1, v2, m =>
  ((m 66 34) ≤ v2 → K247 v1 m) ∧ (¬ (m 66 34) ≤ v2 → (v1 = (-1 : Int32) → w_315_217 kc Φ (w_315_159 kc Φ K247 n159) K247 v1 v2 m) ∧ (¬ v1 = (-1 : Int32) → vp_in v2 8 ∧ (vp_in v1 8 ∧ (((m 106 (Int32.toNatClampNeg v2)) < (m 106 (Int32.toNatClampNeg v1)) → w_315_217 kc Φ (w_315_159 kc Φ K247 n159) K247 v1 v2 m) ∧ (¬ (m 106 (Int32.toNatClampNeg v2)) < (m 106 (Int32.toNatClampNeg v1)) → vp_in v2 8 ∧ (vp_in v1 8 ∧ (((m 106 (Int32.toNatClampNeg v2)) = (m 106 (Int32.toNatClampNeg v1)) → vp_in v2 8 ∧ (vp_in v1 8 ∧ (((m 108 (Int32.toNatClampNeg v1)) ≤ (m 108 (Int32.toNatClampNeg v2)) → w_315_221 kc Φ (w_315_159 kc Φ K247 n159) K247 v1 v2 m) ∧ (¬ (m 108 (Int32.toNatClampNeg v1)) ≤ (m 108 (Int32.toNatClampNeg v2)) → w_315_217 kc Φ (w_315_159 kc Φ K247 n159) K247 v1 v2 m)))) ∧ (¬ (m 106 (Int32.toNatClampNeg v2)) = (m 106 (Int32.toNatClampNeg v1)) → w_315_221 kc Φ (w_315_159 kc Φ K247 n159) K247 v1 v2 m))))))))
def w_315_247 (kc : it_Kc) (Φ : it_Me → Prop) (v1 : Int32) (m : it_Me) : Prop :=
  w_313 kc v1 m (fun m1 => Φ m1)
def w_315_155 (kc : it_Kc) (Φ : it_Me → Prop) (m : it_Me) : Prop :=
  ∃ e, w_315_159 kc Φ (fun v1 m => w_315_247 kc Φ v1 m) e (-1 : Int32) (0 : Int32) m
def w_315_143 (kc : it_Kc) (Φ : it_Me → Prop) (v1 : Int32) (m : it_Me) : Prop :=
  vp_in (m 66 70) 8 ∧ (w_315_155 kc Φ (it_sv m 108 (Int32.toNatClampNeg (m 66 70)) (v1 + (1 : Int32))))
def w_315_114 (kc : it_Kc) (Φ : it_Me → Prop) (m : it_Me) : Prop :=
  ∃ e, w_315_118 kc Φ (fun v1 m => w_315_143 kc Φ v1 m) e (0 : Int32) (0 : Int32) m
def w_315_46 (kc : it_Kc) (Φ : it_Me → Prop) (m : it_Me) : Prop :=
  ((m 66 70) = (-1 : Int32) → w_315_155 kc Φ m) ∧ (¬ (m 66 70) = (-1 : Int32) → vp_in (m 66 70) 8 ∧ (vp_in (m 66 70) 8 ∧ (((m 107 (Int32.toNatClampNeg (m 66 70))) < (it_shl (m 66 8) (m 106 (Int32.toNatClampNeg (m 66 70)))) → w_315_114 kc Φ m) ∧ (¬ (m 107 (Int32.toNatClampNeg (m 66 70))) < (it_shl (m 66 8) (m 106 (Int32.toNatClampNeg (m 66 70)))) → vp_in (m 66 70) 8 ∧ (vp_in (m 66 70) 8 ∧ (vp_in ((it_sv m 106 (Int32.toNatClampNeg (m 66 70)) (it_min (2 : Int32) ((m 106 (Int32.toNatClampNeg (m 66 70))) + (1 : Int32)))) 66 70) 8 ∧ (w_315_114 kc Φ (it_sv (it_sv m 106 (Int32.toNatClampNeg (m 66 70)) (it_min (2 : Int32) ((m 106 (Int32.toNatClampNeg (m 66 70))) + (1 : Int32)))) 107 (Int32.toNatClampNeg ((it_sv m 106 (Int32.toNatClampNeg (m 66 70)) (it_min (2 : Int32) ((m 106 (Int32.toNatClampNeg (m 66 70))) + (1 : Int32)))) 66 70)) (0 : Int32)))))))))
def w_315 (kc : it_Kc) (m : it_Me) (Φ : it_Me → Prop) : Prop :=
  ((m 66 70) = (-1 : Int32) → w_315_46 kc Φ m) ∧ (¬ (m 66 70) = (-1 : Int32) → w_312 kc (m 66 70) m (fun r1 m2 => (r1 = 0 → w_315_46 kc Φ m2) ∧ (¬ r1 = 0 → vp_in (m2 66 70) 8 ∧ (vp_in (m2 66 70) 8 ∧ (((it_shl (m2 66 8) (m2 106 (Int32.toNatClampNeg (m2 66 70)))) ≤ (m2 107 (Int32.toNatClampNeg (m2 66 70))) → w_315_46 kc Φ m2) ∧ (¬ (it_shl (m2 66 8) (m2 106 (Int32.toNatClampNeg (m2 66 70)))) ≤ (m2 107 (Int32.toNatClampNeg (m2 66 70))) → Φ m2))))))
/-- GrantBoardModel.choose()I -/
def w_314_139 (kc : it_Kc) (Φ : Int32 → it_Me → Prop) (K153 : Int32 → it_Me → Prop) : Nat → Int32 → it_Me → Prop
  | 0, _, _ => False
  | n139 + 1, v2, m =>
  w_312 kc v2 m (fun r1 m2 => (r1 = 0 → (w_314_139 kc Φ K153 n139) (v2 + (1 : Int32)) m2) ∧ (¬ r1 = 0 → K153 v2 m2))
def w_314_101 (kc : it_Kc) (Φ : Int32 → it_Me → Prop) (K121 : Int32 → it_Me → Prop) : Nat → Int32 → it_Me → Prop
  | 0, _, _ => False
  | n101 + 1, v2, m =>
  w_312 kc v2 m (fun r1 m2 => (r1 = 0 → ¬ (m2 66 34) = 0 ∧ ((w_314_101 kc Φ K121 n101) (it_rem (v2 + (1 : Int32)) (m2 66 34)) m2)) ∧ (¬ r1 = 0 → K121 v2 m2))
def w_314_26 (kc : it_Kc) (Φ : Int32 → it_Me → Prop) (K4 : Int32 → Int32 → it_Me → Prop) (K34 : Int32 → it_Me → Prop) (v2 : Int32) (u0 : Int32) (u1 : Int32) (m : it_Me) : Prop :=
  K4 (u0 + u1) (v2 + (1 : Int32)) m
def w_314_4 (kc : it_Kc) (Φ : Int32 → it_Me → Prop) (K34 : Int32 → it_Me → Prop) : Nat → Int32 → Int32 → it_Me → Prop
  | 0, _, _, _ => False
  | n4 + 1, v1, v2, m =>
  ((m 66 34) ≤ v2 → K34 v1 m) ∧ (¬ (m 66 34) ≤ v2 → w_312 kc v2 m (fun r1 m2 => (r1 = 0 → w_314_26 kc Φ (w_314_4 kc Φ K34 n4) K34 v2 v1 (0 : Int32) m2) ∧ (¬ r1 = 0 → w_314_26 kc Φ (w_314_4 kc Φ K34 n4) K34 v2 v1 (1 : Int32) m2)))
def w_314_173 (kc : it_Kc) (Φ : Int32 → it_Me → Prop) (m : it_Me) : Prop :=
  Φ (m 66 70) m
def w_314_121 (kc : it_Kc) (Φ : Int32 → it_Me → Prop) (v2 : Int32) (m : it_Me) : Prop :=
  w_313 kc v2 m (fun m1 => w_314_173 kc Φ m1)
def w_314_100 (kc : it_Kc) (Φ : Int32 → it_Me → Prop) (u0 : Int32) (m : it_Me) : Prop :=
  ∃ e, w_314_101 kc Φ (fun v2 m => w_314_121 kc Φ v2 m) e u0 m
def w_314_77 (kc : it_Kc) (Φ : Int32 → it_Me → Prop) (m : it_Me) : Prop :=
  ((m 66 70) = (-1 : Int32) → w_314_100 kc Φ (0 : Int32) m) ∧ (¬ (m 66 70) = (-1 : Int32) → ¬ (m 66 34) = 0 ∧ (w_314_100 kc Φ (it_rem ((m 66 70) + (1 : Int32)) (m 66 34)) m))
def w_314_166 (kc : it_Kc) (Φ : Int32 → it_Me → Prop) (m : it_Me) : Prop :=
  w_314_173 kc Φ m
def w_314_153 (kc : it_Kc) (Φ : Int32 → it_Me → Prop) (v2 : Int32) (m : it_Me) : Prop :=
  (v2 = (m 66 70) → w_314_166 kc Φ m) ∧ (¬ v2 = (m 66 70) → w_313 kc v2 m (fun m1 => w_314_166 kc Φ m1))
def w_314_34 (kc : it_Kc) (Φ : Int32 → it_Me → Prop) (v1 : Int32) (m : it_Me) : Prop :=
  (v1 = 0 → Φ (-1 : Int32) m) ∧ (¬ v1 = 0 → ((m 66 7) = 0 → ((m 66 70) = (-1 : Int32) → w_314_77 kc Φ m) ∧ (¬ (m 66 70) = (-1 : Int32) → w_312 kc (m 66 70) m (fun r1 m2 => (r1 = 0 → w_314_77 kc Φ m2) ∧ (¬ r1 = 0 → ((m2 66 71) < (m2 66 8) → w_314_173 kc Φ m2) ∧ (¬ (m2 66 71) < (m2 66 8) → w_314_77 kc Φ m2))))) ∧ (¬ (m 66 7) = 0 → ((m 66 7) = (1 : Int32) → ∃ e, w_314_139 kc Φ (fun v2 m => w_314_153 kc Φ v2 m) e (0 : Int32) m) ∧ (¬ (m 66 7) = (1 : Int32) → w_315 kc m (fun m3 => w_314_173 kc Φ m3))))
def w_314 (kc : it_Kc) (m : it_Me) (Φ : Int32 → it_Me → Prop) : Prop :=
  ∃ e, w_314_4 kc Φ (fun v1 m => w_314_34 kc Φ v1 m) e (0 : Int32) (0 : Int32) m
/-- GrantBoardModel.reg(II)I -/
def w_318 (kc : it_Kc) (x0 : Int32) (x1 : Int32) (m : it_Me) (Φ : Int32 → it_Me → Prop) : Prop :=
  vp_in (((32 : Int32) * x0) + x1) 256 ∧ (Φ (m 93 (Int32.toNatClampNeg (((32 : Int32) * x0) + x1))) m)
/-- GrantBoardModel.set(III)V -/
def w_319_16 (kc : it_Kc) (Φ : it_Me → Prop) (m : it_Me) : Prop :=
  Φ m
def w_319 (kc : it_Kc) (x0 : Int32) (x1 : Int32) (x2 : Int32) (m : it_Me) (Φ : it_Me → Prop) : Prop :=
  (x1 = 0 → w_319_16 kc Φ m) ∧ (¬ x1 = 0 → vp_in (((32 : Int32) * x0) + x1) 256 ∧ (w_319_16 kc Φ (it_sv m 93 (Int32.toNatClampNeg (((32 : Int32) * x0) + x1)) x2)))
/-- GrantBoardModel.none(II)V -/
def w_321 (kc : it_Kc) (x0 : Int32) (x1 : Int32) (m : it_Me) (Φ : it_Me → Prop) : Prop :=
  w_258 kc x0 (2 : Int32) x1 m (fun m1 => Φ m1)
/-- GrantBoardModel.go(III)V -/
def w_323 (kc : it_Kc) (x0 : Int32) (x1 : Int32) (x2 : Int32) (m : it_Me) (Φ : it_Me → Prop) : Prop :=
  w_319 kc x0 x1 x2 m (fun m1 => vp_in x0 8 ∧ (vp_in x0 8 ∧ (Φ (it_sv m1 94 (Int32.toNatClampNeg x0) ((m1 94 (Int32.toNatClampNeg x0)) + (4 : Int32))))))
/-- GrantBoardModel.branch(IIIII)V -/
def w_324_10 (kc : it_Kc) (Φ : it_Me → Prop) (v1 : Int32) (v2 : Int32) (m : it_Me) : Prop :=
  w_321 kc v1 v2 m (fun m1 => Φ m1)
def w_324_137 (kc : it_Kc) (Φ : it_Me → Prop) (u1 : Int32) (u2 : Int32) (u3 : Int32) (m : it_Me) : Prop :=
  vp_in u1 8 ∧ (Φ (it_sv m 94 (Int32.toNatClampNeg u1) (u2 + u3)))
def w_324_128 (kc : it_Kc) (Φ : it_Me → Prop) (v7 : Int32) (u1 : Int32) (u2 : Int32) (u3 : Int32) (u4 : Int32) (m : it_Me) : Prop :=
  (u3 = u4 → w_324_137 kc Φ u1 u2 (4 : Int32) m) ∧ (¬ u3 = u4 → w_324_137 kc Φ u1 u2 v7 m)
def w_324_66 (kc : it_Kc) (Φ : it_Me → Prop) (v1 : Int32) (v2 : Int32) (v3 : Int32) (u0 : Int32) (m : it_Me) : Prop :=
  vp_in v1 8 ∧ (((v3 &&& (1 : Int32)) = (1 : Int32) → w_324_128 kc Φ ((((it_shl (it_shr v2 (31 : Int32)) (12 : Int32)) ||| (it_shl ((it_us v2 (7 : Int32)) &&& (1 : Int32)) (11 : Int32))) ||| (it_shl ((it_us v2 (25 : Int32)) &&& (63 : Int32)) (5 : Int32))) ||| (it_shl ((it_us v2 (8 : Int32)) &&& (15 : Int32)) (1 : Int32))) v1 (m 94 (Int32.toNatClampNeg v1)) u0 (1 : Int32) m) ∧ (¬ (v3 &&& (1 : Int32)) = (1 : Int32) → w_324_128 kc Φ ((((it_shl (it_shr v2 (31 : Int32)) (12 : Int32)) ||| (it_shl ((it_us v2 (7 : Int32)) &&& (1 : Int32)) (11 : Int32))) ||| (it_shl ((it_us v2 (25 : Int32)) &&& (63 : Int32)) (5 : Int32))) ||| (it_shl ((it_us v2 (8 : Int32)) &&& (15 : Int32)) (1 : Int32))) v1 (m 94 (Int32.toNatClampNeg v1)) u0 (0 : Int32) m))
def w_324 (kc : it_Kc) (x0 : Int32) (x1 : Int32) (x2 : Int32) (x3 : Int32) (x4 : Int32) (m : it_Me) (Φ : it_Me → Prop) : Prop :=
  (x2 = (2 : Int32) → w_324_10 kc Φ x0 x1 m) ∧ (¬ x2 = (2 : Int32) → (x2 = (3 : Int32) → w_324_10 kc Φ x0 x1 m) ∧ (¬ x2 = (3 : Int32) → ((2 : Int32) ≤ x2 → ((6 : Int32) ≤ x2 → w_247 kc x3 x4 m (fun r1 m2 => w_324_66 kc Φ x0 x1 x2 r1 m2)) ∧ (¬ (6 : Int32) ≤ x2 → (x4 ≤ x3 → w_324_66 kc Φ x0 x1 x2 (0 : Int32) m) ∧ (¬ x4 ≤ x3 → w_324_66 kc Φ x0 x1 x2 (1 : Int32) m))) ∧ (¬ (2 : Int32) ≤ x2 → (x3 = x4 → w_324_66 kc Φ x0 x1 x2 (1 : Int32) m) ∧ (¬ x3 = x4 → w_324_66 kc Φ x0 x1 x2 (0 : Int32) m))))
/-- GrantBoardModel.load(IIIII)V -/
def w_325_130 (kc : it_Kc) (Φ : it_Me → Prop) (m : it_Me) : Prop :=
  Φ m
def w_325_109 (kc : it_Kc) (Φ : it_Me → Prop) (v1 : Int32) (v2 : Int32) (v5 : Int32) (u0 : Int32) (m : it_Me) : Prop :=
  w_319 kc v1 v2 u0 m (fun m1 => vp_in v1 8 ∧ (vp_in v1 8 ∧ (w_325_130 kc Φ (it_sv m1 94 (Int32.toNatClampNeg v1) ((m1 94 (Int32.toNatClampNeg v1)) + v5)))))
def w_325_82 (kc : it_Kc) (Φ : it_Me → Prop) (v1 : Int32) (v2 : Int32) (v4 : Int32) (v5 : Int32) (u0 : Int32) (m : it_Me) : Prop :=
  (v4 = 0 → w_325_109 kc Φ v1 v2 v5 (it_i2b u0) m) ∧ (¬ v4 = 0 → (v4 = (1 : Int32) → w_325_109 kc Φ v1 v2 v5 (it_i2s u0) m) ∧ (¬ v4 = (1 : Int32) → w_325_109 kc Φ v1 v2 v5 u0 m))
def w_325 (kc : it_Kc) (x0 : Int32) (x1 : Int32) (x2 : Int32) (x3 : Int32) (x4 : Int32) (m : it_Me) (Φ : it_Me → Prop) : Prop :=
  ((x2 &&& ((it_shl (1 : Int32) (x3 &&& (3 : Int32))) - (1 : Int32))) = 0 → w_259 kc x0 x2 (it_shl (1 : Int32) (x3 &&& (3 : Int32))) (1 : Int32) m (fun r1 m2 => (r1 = 0 → w_258 kc x0 (5 : Int32) x2 m2 (fun m3 => w_325_130 kc Φ m3)) ∧ (¬ r1 = 0 → ((it_shl (1 : Int32) (x3 &&& (3 : Int32))) = (1 : Int32) → w_218 kc x2 m2 (fun r4 m5 => w_325_82 kc Φ x0 x1 x3 x4 r4 m5)) ∧ (¬ (it_shl (1 : Int32) (x3 &&& (3 : Int32))) = (1 : Int32) → ((it_shl (1 : Int32) (x3 &&& (3 : Int32))) = (2 : Int32) → w_219 kc x2 m2 (fun r6 m7 => w_325_82 kc Φ x0 x1 x3 x4 r6 m7)) ∧ (¬ (it_shl (1 : Int32) (x3 &&& (3 : Int32))) = (2 : Int32) → w_220 kc x2 m2 (fun r8 m9 => w_325_82 kc Φ x0 x1 x3 x4 r8 m9)))))) ∧ (¬ (x2 &&& ((it_shl (1 : Int32) (x3 &&& (3 : Int32))) - (1 : Int32))) = 0 → w_258 kc x0 (4 : Int32) x2 m (fun m10 => w_325_130 kc Φ m10))
/-- GrantBoardModel.keep(IIIII)V -/
def w_326_51 (kc : it_Kc) (Φ : it_Me → Prop) (K82 : Int32 → Int32 → it_Me → Prop) : Nat → Int32 → Int32 → Int32 → Int32 → Int32 → Int32 → it_Me → Prop
  | 0, _, _, _, _, _, _, _ => False
  | n51 + 1, v1, v2, v4, v5, v6, v7, m =>
  (v6 ≤ v7 → K82 v1 v5 m) ∧ (¬ v6 ≤ v7 → vp_in (v2 + v7) 196608 ∧ ((w_326_51 kc Φ K82 n51) v1 v2 v4 v5 v6 (v7 + (1 : Int32)) (it_sv m 67 (Int32.toNatClampNeg (v2 + v7)) (it_i2b (it_i2b (it_shr v4 ((8 : Int32) * v7)))))))
def w_326_93 (kc : it_Kc) (Φ : it_Me → Prop) (m : it_Me) : Prop :=
  Φ m
def w_326_82 (kc : it_Kc) (Φ : it_Me → Prop) (v1 : Int32) (v5 : Int32) (m : it_Me) : Prop :=
  vp_in v1 8 ∧ (vp_in v1 8 ∧ (w_326_93 kc Φ (it_sv m 94 (Int32.toNatClampNeg v1) ((m 94 (Int32.toNatClampNeg v1)) + v5))))
def w_326 (kc : it_Kc) (x0 : Int32) (x1 : Int32) (x2 : Int32) (x3 : Int32) (x4 : Int32) (m : it_Me) (Φ : it_Me → Prop) : Prop :=
  ((x1 &&& ((it_shl (1 : Int32) x2) - (1 : Int32))) = 0 → w_259 kc x0 x1 (it_shl (1 : Int32) x2) (2 : Int32) m (fun r1 m2 => (r1 = 0 → w_258 kc x0 (7 : Int32) x1 m2 (fun m3 => w_326_93 kc Φ m3)) ∧ (¬ r1 = 0 → ∃ e, w_326_51 kc Φ (fun v1 v5 m => w_326_82 kc Φ v1 v5 m) e x0 x1 x3 x4 (it_shl (1 : Int32) x2) (0 : Int32) m2))) ∧ (¬ (x1 &&& ((it_shl (1 : Int32) x2) - (1 : Int32))) = 0 → w_258 kc x0 (6 : Int32) x1 m (fun m4 => w_326_93 kc Φ m4))
/-- GrantBoardModel.work(IZII)I -/
def w_328_59 (kc : it_Kc) (Φ : Int32 → it_Me → Prop) (u0 : Int32) (m : it_Me) : Prop :=
  Φ u0 m
def w_328_76 (kc : it_Kc) (Φ : Int32 → it_Me → Prop) (u0 : Int32) (m : it_Me) : Prop :=
  Φ u0 m
def w_328_92 (kc : it_Kc) (Φ : Int32 → it_Me → Prop) (u0 : Int32) (m : it_Me) : Prop :=
  Φ u0 m
def w_328_113 (kc : it_Kc) (Φ : Int32 → it_Me → Prop) (u0 : Int32) (m : it_Me) : Prop :=
  Φ u0 m
def w_328 (kc : it_Kc) (x0 : Int32) (x1 : Int32) (x2 : Int32) (x3 : Int32) (m : it_Me) (Φ : Int32 → it_Me → Prop) : Prop :=
  (x0 = (0 : Int32) → (x1 = 0 → w_328_59 kc Φ (x2 + x3) m) ∧ (¬ x1 = 0 → w_328_59 kc Φ (x2 - x3) m)) ∧ (¬ x0 = (0 : Int32) → (x0 = (1 : Int32) → Φ (it_shl x2 x3) m) ∧ (¬ x0 = (1 : Int32) → (x0 = (2 : Int32) → (x3 ≤ x2 → w_328_76 kc Φ (0 : Int32) m) ∧ (¬ x3 ≤ x2 → w_328_76 kc Φ (1 : Int32) m)) ∧ (¬ x0 = (2 : Int32) → (x0 = (3 : Int32) → w_247 kc x2 x3 m (fun r1 m2 => (r1 = 0 → w_328_92 kc Φ (0 : Int32) m2) ∧ (¬ r1 = 0 → w_328_92 kc Φ (1 : Int32) m2))) ∧ (¬ x0 = (3 : Int32) → (x0 = (4 : Int32) → Φ (x2 ^^^ x3) m) ∧ (¬ x0 = (4 : Int32) → (x0 = (5 : Int32) → (x1 = 0 → w_328_113 kc Φ (it_us x2 x3) m) ∧ (¬ x1 = 0 → w_328_113 kc Φ (it_shr x2 x3) m)) ∧ (¬ x0 = (5 : Int32) → (x0 = (6 : Int32) → Φ (x2 ||| x3) m) ∧ (¬ x0 = (6 : Int32) → Φ (x2 &&& x3) m)))))))
/-- GrantBoardModel.immediate(IIIII)V -/
def w_327_41 (kc : it_Kc) (Φ : it_Me → Prop) (v1 : Int32) (v2 : Int32) (m : it_Me) : Prop :=
  w_321 kc v1 v2 m (fun m1 => Φ m1)
def w_327_72 (kc : it_Kc) (Φ : it_Me → Prop) (v5 : Int32) (v6 : Int32) (u1 : Int32) (u2 : Int32) (u4 : Int32) (u5 : Int32) (m : it_Me) : Prop :=
  w_328 kc u4 u5 v5 v6 m (fun r1 m2 => w_323 kc u1 u2 r1 m2 (fun m3 => Φ m3))
def w_327_71 (kc : it_Kc) (Φ : it_Me → Prop) (v5 : Int32) (v6 : Int32) (u1 : Int32) (u2 : Int32) (u4 : Int32) (m : it_Me) : Prop :=
  w_327_72 kc Φ v5 v6 u1 u2 u4 (0 : Int32) m
def w_327_48 (kc : it_Kc) (Φ : it_Me → Prop) (v1 : Int32) (v3 : Int32) (v4 : Int32) (v5 : Int32) (v6 : Int32) (v7 : Int32) (m : it_Me) : Prop :=
  (v4 = (5 : Int32) → (v7 = (32 : Int32) → w_327_72 kc Φ v5 v6 v1 v3 v4 (1 : Int32) m) ∧ (¬ v7 = (32 : Int32) → w_327_71 kc Φ v5 v6 v1 v3 v4 m)) ∧ (¬ v4 = (5 : Int32) → w_327_71 kc Φ v5 v6 v1 v3 v4 m)
def w_327_23 (kc : it_Kc) (Φ : it_Me → Prop) (v1 : Int32) (v2 : Int32) (v3 : Int32) (v4 : Int32) (v5 : Int32) (v6 : Int32) (v7 : Int32) (m : it_Me) : Prop :=
  (v4 = (5 : Int32) → (v7 = 0 → w_327_48 kc Φ v1 v3 v4 v5 v6 v7 m) ∧ (¬ v7 = 0 → (v7 = (32 : Int32) → w_327_48 kc Φ v1 v3 v4 v5 v6 v7 m) ∧ (¬ v7 = (32 : Int32) → w_327_41 kc Φ v1 v2 m))) ∧ (¬ v4 = (5 : Int32) → w_327_48 kc Φ v1 v3 v4 v5 v6 v7 m)
def w_327 (kc : it_Kc) (x0 : Int32) (x1 : Int32) (x2 : Int32) (x3 : Int32) (x4 : Int32) (m : it_Me) (Φ : it_Me → Prop) : Prop :=
  (x3 = (1 : Int32) → ((it_us x1 (25 : Int32)) = 0 → w_327_23 kc Φ x0 x1 x2 x3 x4 (it_shr x1 (20 : Int32)) (it_us x1 (25 : Int32)) m) ∧ (¬ (it_us x1 (25 : Int32)) = 0 → w_327_41 kc Φ x0 x1 m)) ∧ (¬ x3 = (1 : Int32) → w_327_23 kc Φ x0 x1 x2 x3 x4 (it_shr x1 (20 : Int32)) (it_us x1 (25 : Int32)) m)
/-- GrantBoardModel.multiply(III)I -/
def w_330_117 (kc : it_Kc) (Φ : Int32 → it_Me → Prop) (u0 : Int32) (m : it_Me) : Prop :=
  Φ u0 m
def w_330_114 (kc : it_Kc) (Φ : Int32 → it_Me → Prop) (v2 : Int32) (v3 : Int32) (m : it_Me) : Prop :=
  ¬ v3 = 0 ∧ (w_330_117 kc Φ (v2 / v3) m)
def w_330_140 (kc : it_Kc) (Φ : Int32 → it_Me → Prop) (u0 : Int32) (m : it_Me) : Prop :=
  Φ u0 m
def w_330_161 (kc : it_Kc) (Φ : Int32 → it_Me → Prop) (u0 : Int32) (m : it_Me) : Prop :=
  Φ u0 m
def w_330_184 (kc : it_Kc) (Φ : Int32 → it_Me → Prop) (u0 : Int32) (m : it_Me) : Prop :=
  Φ u0 m
def w_330 (kc : it_Kc) (x0 : Int32) (x1 : Int32) (x2 : Int32) (m : it_Me) (Φ : Int32 → it_Me → Prop) : Prop :=
  (x0 = (0 : Int32) → Φ (x1 * x2) m) ∧ (¬ x0 = (0 : Int32) → (x0 = (1 : Int32) → Φ (Int64.toInt32 (it_lshr ((Int32.toInt64 x1) * (Int32.toInt64 x2)) (32 : Int32))) m) ∧ (¬ x0 = (1 : Int32) → (x0 = (2 : Int32) → Φ (Int64.toInt32 (it_lshr ((Int32.toInt64 x1) * ((Int32.toInt64 x2) &&& (4294967295 : Int64))) (32 : Int32))) m) ∧ (¬ x0 = (2 : Int32) → (x0 = (3 : Int32) → Φ (Int64.toInt32 (it_lus (((Int32.toInt64 x1) &&& (4294967295 : Int64)) * ((Int32.toInt64 x2) &&& (4294967295 : Int64))) (32 : Int32))) m) ∧ (¬ x0 = (3 : Int32) → (x0 = (4 : Int32) → (x2 = 0 → w_330_117 kc Φ (-1 : Int32) m) ∧ (¬ x2 = 0 → (x1 = (-2147483648 : Int32) → (x2 = (-1 : Int32) → w_330_117 kc Φ x1 m) ∧ (¬ x2 = (-1 : Int32) → w_330_114 kc Φ x1 x2 m)) ∧ (¬ x1 = (-2147483648 : Int32) → w_330_114 kc Φ x1 x2 m))) ∧ (¬ x0 = (4 : Int32) → (x0 = (5 : Int32) → (x2 = 0 → w_330_140 kc Φ (-1 : Int32) m) ∧ (¬ x2 = 0 → ¬ ((Int32.toInt64 x2) &&& (4294967295 : Int64)) = 0 ∧ (w_330_140 kc Φ (Int64.toInt32 (((Int32.toInt64 x1) &&& (4294967295 : Int64)) / ((Int32.toInt64 x2) &&& (4294967295 : Int64)))) m))) ∧ (¬ x0 = (5 : Int32) → (x0 = (6 : Int32) → (x2 = 0 → w_330_161 kc Φ x1 m) ∧ (¬ x2 = 0 → (x2 = (-1 : Int32) → w_330_161 kc Φ (0 : Int32) m) ∧ (¬ x2 = (-1 : Int32) → ¬ x2 = 0 ∧ (w_330_161 kc Φ (it_rem x1 x2) m)))) ∧ (¬ x0 = (6 : Int32) → (x2 = 0 → w_330_184 kc Φ x1 m) ∧ (¬ x2 = 0 → ¬ ((Int32.toInt64 x2) &&& (4294967295 : Int64)) = 0 ∧ (w_330_184 kc Φ (Int64.toInt32 (it_lrem ((Int32.toInt64 x1) &&& (4294967295 : Int64)) ((Int32.toInt64 x2) &&& (4294967295 : Int64)))) m)))))))))
/-- GrantBoardModel.operation(IIIIII)V -/
def w_329_91 (kc : it_Kc) (Φ : it_Me → Prop) (m : it_Me) : Prop :=
  Φ m
def w_329_72 (kc : it_Kc) (Φ : it_Me → Prop) (v5 : Int32) (v6 : Int32) (u1 : Int32) (u2 : Int32) (u4 : Int32) (u5 : Int32) (m : it_Me) : Prop :=
  w_328 kc u4 u5 v5 v6 m (fun r1 m2 => w_323 kc u1 u2 r1 m2 (fun m3 => w_329_91 kc Φ m3))
def w_329_54 (kc : it_Kc) (Φ : it_Me → Prop) (v1 : Int32) (v3 : Int32) (v4 : Int32) (v5 : Int32) (v6 : Int32) (v7 : Int32) (m : it_Me) : Prop :=
  (v7 = (32 : Int32) → w_329_72 kc Φ v5 v6 v1 v3 v4 (1 : Int32) m) ∧ (¬ v7 = (32 : Int32) → w_329_72 kc Φ v5 v6 v1 v3 v4 (0 : Int32) m)
def w_329_85 (kc : it_Kc) (Φ : it_Me → Prop) (v1 : Int32) (v2 : Int32) (m : it_Me) : Prop :=
  w_321 kc v1 v2 m (fun m1 => w_329_91 kc Φ m1)
def w_329 (kc : it_Kc) (x0 : Int32) (x1 : Int32) (x2 : Int32) (x3 : Int32) (x4 : Int32) (x5 : Int32) (m : it_Me) (Φ : it_Me → Prop) : Prop :=
  ((it_us x1 (25 : Int32)) = (1 : Int32) → w_330 kc x3 x4 x5 m (fun r1 m2 => w_323 kc x0 x2 r1 m2 (fun m3 => w_329_91 kc Φ m3))) ∧ (¬ (it_us x1 (25 : Int32)) = (1 : Int32) → ((it_us x1 (25 : Int32)) = 0 → w_329_54 kc Φ x0 x2 x3 x4 x5 (it_us x1 (25 : Int32)) m) ∧ (¬ (it_us x1 (25 : Int32)) = 0 → ((it_us x1 (25 : Int32)) = (32 : Int32) → (x3 = 0 → w_329_54 kc Φ x0 x2 x3 x4 x5 (it_us x1 (25 : Int32)) m) ∧ (¬ x3 = 0 → (x3 = (5 : Int32) → w_329_54 kc Φ x0 x2 x3 x4 x5 (it_us x1 (25 : Int32)) m) ∧ (¬ x3 = (5 : Int32) → w_329_85 kc Φ x0 x1 m))) ∧ (¬ (it_us x1 (25 : Int32)) = (32 : Int32) → w_329_85 kc Φ x0 x1 m)))
/-- GrantBoardModel.swapped(III)I -/
def w_332_160 (kc : it_Kc) (Φ : Int32 → it_Me → Prop) (u0 : Int32) (m : it_Me) : Prop :=
  Φ u0 m
def w_332_175 (kc : it_Kc) (Φ : Int32 → it_Me → Prop) (u0 : Int32) (m : it_Me) : Prop :=
  Φ u0 m
def w_332 (kc : it_Kc) (x0 : Int32) (x1 : Int32) (x2 : Int32) (m : it_Me) (Φ : Int32 → it_Me → Prop) : Prop :=
  (x0 = (0 : Int32) → Φ (x1 + x2) m) ∧ (¬ x0 = (0 : Int32) → (x0 = (1 : Int32) → Φ x2 m) ∧ (¬ x0 = (1 : Int32) → (x0 = (2 : Int32) → w_247 kc x1 x2 m (fun r1 m2 => (r1 = 0 → w_332_175 kc Φ x1 m2) ∧ (¬ r1 = 0 → w_332_175 kc Φ x2 m2))) ∧ (¬ x0 = (2 : Int32) → (x0 = (3 : Int32) → w_247 kc x1 x2 m (fun r3 m4 => (r3 = 0 → w_332_175 kc Φ x1 m4) ∧ (¬ r3 = 0 → w_332_175 kc Φ x2 m4))) ∧ (¬ x0 = (3 : Int32) → (x0 = (4 : Int32) → Φ (x1 ^^^ x2) m) ∧ (¬ x0 = (4 : Int32) → (x0 = (5 : Int32) → w_247 kc x1 x2 m (fun r5 m6 => (r5 = 0 → w_332_175 kc Φ x1 m6) ∧ (¬ r5 = 0 → w_332_175 kc Φ x2 m6))) ∧ (¬ x0 = (5 : Int32) → (x0 = (6 : Int32) → w_247 kc x1 x2 m (fun r7 m8 => (r7 = 0 → w_332_175 kc Φ x1 m8) ∧ (¬ r7 = 0 → w_332_175 kc Φ x2 m8))) ∧ (¬ x0 = (6 : Int32) → (x0 = (7 : Int32) → w_247 kc x1 x2 m (fun r9 m10 => (r9 = 0 → w_332_175 kc Φ x1 m10) ∧ (¬ r9 = 0 → w_332_175 kc Φ x2 m10))) ∧ (¬ x0 = (7 : Int32) → (x0 = (8 : Int32) → Φ (x1 ||| x2) m) ∧ (¬ x0 = (8 : Int32) → (x0 = (9 : Int32) → w_247 kc x1 x2 m (fun r11 m12 => (r11 = 0 → w_332_175 kc Φ x1 m12) ∧ (¬ r11 = 0 → w_332_175 kc Φ x2 m12))) ∧ (¬ x0 = (9 : Int32) → (x0 = (10 : Int32) → w_247 kc x1 x2 m (fun r13 m14 => (r13 = 0 → w_332_175 kc Φ x1 m14) ∧ (¬ r13 = 0 → w_332_175 kc Φ x2 m14))) ∧ (¬ x0 = (10 : Int32) → (x0 = (11 : Int32) → w_247 kc x1 x2 m (fun r15 m16 => (r15 = 0 → w_332_175 kc Φ x1 m16) ∧ (¬ r15 = 0 → w_332_175 kc Φ x2 m16))) ∧ (¬ x0 = (11 : Int32) → (x0 = (12 : Int32) → Φ (x1 &&& x2) m) ∧ (¬ x0 = (12 : Int32) → (x0 = (13 : Int32) → w_247 kc x1 x2 m (fun r17 m18 => (r17 = 0 → w_332_175 kc Φ x1 m18) ∧ (¬ r17 = 0 → w_332_175 kc Φ x2 m18))) ∧ (¬ x0 = (13 : Int32) → (x0 = (14 : Int32) → w_247 kc x1 x2 m (fun r19 m20 => (r19 = 0 → w_332_175 kc Φ x1 m20) ∧ (¬ r19 = 0 → w_332_175 kc Φ x2 m20))) ∧ (¬ x0 = (14 : Int32) → (x0 = (15 : Int32) → w_247 kc x1 x2 m (fun r21 m22 => (r21 = 0 → w_332_175 kc Φ x1 m22) ∧ (¬ r21 = 0 → w_332_175 kc Φ x2 m22))) ∧ (¬ x0 = (15 : Int32) → (x0 = (16 : Int32) → Φ (it_min x1 x2) m) ∧ (¬ x0 = (16 : Int32) → (x0 = (17 : Int32) → w_247 kc x1 x2 m (fun r23 m24 => (r23 = 0 → w_332_175 kc Φ x1 m24) ∧ (¬ r23 = 0 → w_332_175 kc Φ x2 m24))) ∧ (¬ x0 = (17 : Int32) → (x0 = (18 : Int32) → w_247 kc x1 x2 m (fun r25 m26 => (r25 = 0 → w_332_175 kc Φ x1 m26) ∧ (¬ r25 = 0 → w_332_175 kc Φ x2 m26))) ∧ (¬ x0 = (18 : Int32) → (x0 = (19 : Int32) → w_247 kc x1 x2 m (fun r27 m28 => (r27 = 0 → w_332_175 kc Φ x1 m28) ∧ (¬ r27 = 0 → w_332_175 kc Φ x2 m28))) ∧ (¬ x0 = (19 : Int32) → (x0 = (20 : Int32) → Φ (it_max x1 x2) m) ∧ (¬ x0 = (20 : Int32) → (x0 = (21 : Int32) → w_247 kc x1 x2 m (fun r29 m30 => (r29 = 0 → w_332_175 kc Φ x1 m30) ∧ (¬ r29 = 0 → w_332_175 kc Φ x2 m30))) ∧ (¬ x0 = (21 : Int32) → (x0 = (22 : Int32) → w_247 kc x1 x2 m (fun r31 m32 => (r31 = 0 → w_332_175 kc Φ x1 m32) ∧ (¬ r31 = 0 → w_332_175 kc Φ x2 m32))) ∧ (¬ x0 = (22 : Int32) → (x0 = (23 : Int32) → w_247 kc x1 x2 m (fun r33 m34 => (r33 = 0 → w_332_175 kc Φ x1 m34) ∧ (¬ r33 = 0 → w_332_175 kc Φ x2 m34))) ∧ (¬ x0 = (23 : Int32) → (x0 = (24 : Int32) → w_247 kc x1 x2 m (fun r35 m36 => (r35 = 0 → w_332_160 kc Φ x2 m36) ∧ (¬ r35 = 0 → w_332_160 kc Φ x1 m36))) ∧ (¬ x0 = (24 : Int32) → w_247 kc x1 x2 m (fun r37 m38 => (r37 = 0 → w_332_175 kc Φ x1 m38) ∧ (¬ r37 = 0 → w_332_175 kc Φ x2 m38)))))))))))))))))))))))))))
/-- GrantBoardModel.atomic(IIIIII)V -/
def w_331_88 (kc : it_Kc) (Φ : it_Me → Prop) (v1 : Int32) (v2 : Int32) (m : it_Me) : Prop :=
  w_321 kc v1 v2 m (fun m1 => Φ m1)
def w_331_162 (kc : it_Kc) (Φ : it_Me → Prop) (m : it_Me) : Prop :=
  Φ m
def w_331_311 (kc : it_Kc) (Φ : it_Me → Prop) (m : it_Me) : Prop :=
  Φ m
def w_331_273 (kc : it_Kc) (Φ : it_Me → Prop) (u1 : Int32) (u2 : Int32) (u3 : Int32) (m : it_Me) : Prop :=
  w_323 kc u1 u2 u3 m (fun m1 => w_331_311 kc Φ m1)
def w_331_260 (kc : it_Kc) (Φ : it_Me → Prop) (v1 : Int32) (v3 : Int32) (v9 : Int32) (m : it_Me) : Prop :=
  (v9 = 0 → w_331_273 kc Φ v1 v3 (1 : Int32) m) ∧ (¬ v9 = 0 → w_331_273 kc Φ v1 v3 (0 : Int32) m)
def w_331_238 (kc : it_Kc) (Φ : it_Me → Prop) (v1 : Int32) (v3 : Int32) (v5 : Int32) (v6 : Int32) (u0 : Int32) (m : it_Me) : Prop :=
  vp_in v1 8 ∧ ((u0 = 0 → w_331_260 kc Φ v1 v3 u0 (it_sv m 97 (Int32.toNatClampNeg v1) (0 : Int32))) ∧ (¬ u0 = 0 → w_221 kc v5 v6 (it_sv m 97 (Int32.toNatClampNeg v1) (0 : Int32)) (fun m1 => w_331_260 kc Φ v1 v3 u0 m1)))
def w_331_198 (kc : it_Kc) (Φ : it_Me → Prop) (v1 : Int32) (v3 : Int32) (v5 : Int32) (v6 : Int32) (v7 : Int32) (u1 : Int32) (u2 : Int32) (u3 : Int32) (u4 : Int32) (m : it_Me) : Prop :=
  w_259 kc u1 u2 u3 u4 m (fun r1 m2 => (r1 = 0 → w_258 kc v1 (7 : Int32) v5 m2 (fun m3 => w_331_311 kc Φ m3)) ∧ (¬ r1 = 0 → (v7 = (3 : Int32) → vp_in v1 8 ∧ (((m2 97 (Int32.toNatClampNeg v1)) = v5 → w_331_238 kc Φ v1 v3 v5 v6 (1 : Int32) m2) ∧ (¬ (m2 97 (Int32.toNatClampNeg v1)) = v5 → w_331_238 kc Φ v1 v3 v5 v6 (0 : Int32) m2))) ∧ (¬ v7 = (3 : Int32) → w_220 kc v5 m2 (fun r4 m5 => w_332 kc v7 r4 v6 m5 (fun r6 m7 => w_221 kc v5 r6 m7 (fun m8 => w_323 kc v1 v3 r4 m8 (fun m9 => w_331_311 kc Φ m9)))))))
def w_331_95 (kc : it_Kc) (Φ : it_Me → Prop) (v1 : Int32) (v3 : Int32) (v5 : Int32) (v6 : Int32) (v7 : Int32) (m : it_Me) : Prop :=
  (v7 = (2 : Int32) → ((v5 &&& (3 : Int32)) = 0 → w_259 kc v1 v5 (4 : Int32) (1 : Int32) m (fun r1 m2 => (r1 = 0 → w_258 kc v1 (5 : Int32) v5 m2 (fun m3 => w_331_162 kc Φ m3)) ∧ (¬ r1 = 0 → vp_in v1 8 ∧ (w_220 kc v5 (it_sv m2 97 (Int32.toNatClampNeg v1) v5) (fun r4 m5 => w_323 kc v1 v3 r4 m5 (fun m6 => w_331_162 kc Φ m6)))))) ∧ (¬ (v5 &&& (3 : Int32)) = 0 → w_258 kc v1 (4 : Int32) v5 m (fun m7 => w_331_162 kc Φ m7))) ∧ (¬ v7 = (2 : Int32) → ((v5 &&& (3 : Int32)) = 0 → (v7 = (3 : Int32) → w_331_198 kc Φ v1 v3 v5 v6 v7 v1 v5 (4 : Int32) (2 : Int32) m) ∧ (¬ v7 = (3 : Int32) → w_331_198 kc Φ v1 v3 v5 v6 v7 v1 v5 (4 : Int32) (3 : Int32) m)) ∧ (¬ (v5 &&& (3 : Int32)) = 0 → w_258 kc v1 (6 : Int32) v5 m (fun m8 => w_331_311 kc Φ m8)))
def w_331_59 (kc : it_Kc) (Φ : it_Me → Prop) (v1 : Int32) (v2 : Int32) (v3 : Int32) (v4 : Int32) (v5 : Int32) (v6 : Int32) (v7 : Int32) (u0 : Int32) (m : it_Me) : Prop :=
  (v4 = (2 : Int32) → (u0 = 0 → w_331_88 kc Φ v1 v2 m) ∧ (¬ u0 = 0 → (v7 = (2 : Int32) → (((it_us v2 (20 : Int32)) &&& (31 : Int32)) = 0 → w_331_95 kc Φ v1 v3 v5 v6 v7 m) ∧ (¬ ((it_us v2 (20 : Int32)) &&& (31 : Int32)) = 0 → w_331_88 kc Φ v1 v2 m)) ∧ (¬ v7 = (2 : Int32) → w_331_95 kc Φ v1 v3 v5 v6 v7 m))) ∧ (¬ v4 = (2 : Int32) → w_331_88 kc Φ v1 v2 m)
def w_331_54 (kc : it_Kc) (Φ : it_Me → Prop) (v1 : Int32) (v2 : Int32) (v3 : Int32) (v4 : Int32) (v5 : Int32) (v6 : Int32) (v7 : Int32) (m : it_Me) : Prop :=
  w_331_59 kc Φ v1 v2 v3 v4 v5 v6 v7 (1 : Int32) m
def w_331 (kc : it_Kc) (x0 : Int32) (x1 : Int32) (x2 : Int32) (x3 : Int32) (x4 : Int32) (x5 : Int32) (m : it_Me) (Φ : it_Me → Prop) : Prop :=
  ((it_us x1 (27 : Int32)) ≤ (4 : Int32) → w_331_54 kc Φ x0 x1 x2 x3 x4 x5 (it_us x1 (27 : Int32)) m) ∧ (¬ (it_us x1 (27 : Int32)) ≤ (4 : Int32) → ((it_us x1 (27 : Int32)) = (8 : Int32) → w_331_54 kc Φ x0 x1 x2 x3 x4 x5 (it_us x1 (27 : Int32)) m) ∧ (¬ (it_us x1 (27 : Int32)) = (8 : Int32) → ((it_us x1 (27 : Int32)) = (12 : Int32) → w_331_54 kc Φ x0 x1 x2 x3 x4 x5 (it_us x1 (27 : Int32)) m) ∧ (¬ (it_us x1 (27 : Int32)) = (12 : Int32) → ((it_us x1 (27 : Int32)) = (16 : Int32) → w_331_54 kc Φ x0 x1 x2 x3 x4 x5 (it_us x1 (27 : Int32)) m) ∧ (¬ (it_us x1 (27 : Int32)) = (16 : Int32) → ((it_us x1 (27 : Int32)) = (20 : Int32) → w_331_54 kc Φ x0 x1 x2 x3 x4 x5 (it_us x1 (27 : Int32)) m) ∧ (¬ (it_us x1 (27 : Int32)) = (20 : Int32) → ((it_us x1 (27 : Int32)) = (24 : Int32) → w_331_54 kc Φ x0 x1 x2 x3 x4 x5 (it_us x1 (27 : Int32)) m) ∧ (¬ (it_us x1 (27 : Int32)) = (24 : Int32) → ((it_us x1 (27 : Int32)) = (28 : Int32) → w_331_54 kc Φ x0 x1 x2 x3 x4 x5 (it_us x1 (27 : Int32)) m) ∧ (¬ (it_us x1 (27 : Int32)) = (28 : Int32) → w_331_59 kc Φ x0 x1 x2 x3 x4 x5 (it_us x1 (27 : Int32)) (0 : Int32) m)))))))
/-- GrantBoardModel.full(II)V -/
def w_322_523 (kc : it_Kc) (Φ : it_Me → Prop) (m : it_Me) : Prop :=
  Φ m
def w_322_335 (kc : it_Kc) (Φ : it_Me → Prop) (v1 : Int32) (v2 : Int32) (m : it_Me) : Prop :=
  w_321 kc v1 v2 m (fun m1 => w_322_523 kc Φ m1)
def w_322 (kc : it_Kc) (x0 : Int32) (x1 : Int32) (m : it_Me) (Φ : it_Me → Prop) : Prop :=
  w_318 kc x0 ((it_us x1 (15 : Int32)) &&& (31 : Int32)) m (fun r1 m2 => w_318 kc x0 ((it_us x1 (20 : Int32)) &&& (31 : Int32)) m2 (fun r3 m4 => vp_in x0 8 ∧ (((x1 &&& (127 : Int32)) = (3 : Int32) → (((it_us x1 (12 : Int32)) &&& (7 : Int32)) = (3 : Int32) → w_322_335 kc Φ x0 x1 m4) ∧ (¬ ((it_us x1 (12 : Int32)) &&& (7 : Int32)) = (3 : Int32) → (((it_us x1 (12 : Int32)) &&& (7 : Int32)) ≤ (5 : Int32) → w_325 kc x0 ((it_us x1 (7 : Int32)) &&& (31 : Int32)) (r1 + (it_shr x1 (20 : Int32))) ((it_us x1 (12 : Int32)) &&& (7 : Int32)) (4 : Int32) m4 (fun m5 => w_322_523 kc Φ m5)) ∧ (¬ ((it_us x1 (12 : Int32)) &&& (7 : Int32)) ≤ (5 : Int32) → w_322_335 kc Φ x0 x1 m4))) ∧ (¬ (x1 &&& (127 : Int32)) = (3 : Int32) → ((x1 &&& (127 : Int32)) = (15 : Int32) → (((it_us x1 (12 : Int32)) &&& (7 : Int32)) ≤ (1 : Int32) → vp_in x0 8 ∧ (w_322_523 kc Φ (it_sv m4 94 (Int32.toNatClampNeg x0) ((m4 94 (Int32.toNatClampNeg x0)) + (4 : Int32))))) ∧ (¬ ((it_us x1 (12 : Int32)) &&& (7 : Int32)) ≤ (1 : Int32) → w_321 kc x0 x1 m4 (fun m6 => w_322_523 kc Φ m6))) ∧ (¬ (x1 &&& (127 : Int32)) = (15 : Int32) → ((x1 &&& (127 : Int32)) = (19 : Int32) → w_327 kc x0 x1 ((it_us x1 (7 : Int32)) &&& (31 : Int32)) ((it_us x1 (12 : Int32)) &&& (7 : Int32)) r1 m4 (fun m7 => w_322_523 kc Φ m7)) ∧ (¬ (x1 &&& (127 : Int32)) = (19 : Int32) → ((x1 &&& (127 : Int32)) = (23 : Int32) → w_323 kc x0 ((it_us x1 (7 : Int32)) &&& (31 : Int32)) ((m4 94 (Int32.toNatClampNeg x0)) + (x1 &&& (-4096 : Int32))) m4 (fun m8 => w_322_523 kc Φ m8)) ∧ (¬ (x1 &&& (127 : Int32)) = (23 : Int32) → ((x1 &&& (127 : Int32)) = (35 : Int32) → (((it_us x1 (12 : Int32)) &&& (7 : Int32)) ≤ (2 : Int32) → w_326 kc x0 (r1 + ((it_shl (it_shr x1 (25 : Int32)) (5 : Int32)) ||| ((it_us x1 (7 : Int32)) &&& (31 : Int32)))) ((it_us x1 (12 : Int32)) &&& (7 : Int32)) r3 (4 : Int32) m4 (fun m9 => w_322_523 kc Φ m9)) ∧ (¬ ((it_us x1 (12 : Int32)) &&& (7 : Int32)) ≤ (2 : Int32) → w_321 kc x0 x1 m4 (fun m10 => w_322_523 kc Φ m10))) ∧ (¬ (x1 &&& (127 : Int32)) = (35 : Int32) → ((x1 &&& (127 : Int32)) = (47 : Int32) → w_331 kc x0 x1 ((it_us x1 (7 : Int32)) &&& (31 : Int32)) ((it_us x1 (12 : Int32)) &&& (7 : Int32)) r1 r3 m4 (fun m11 => w_322_523 kc Φ m11)) ∧ (¬ (x1 &&& (127 : Int32)) = (47 : Int32) → ((x1 &&& (127 : Int32)) = (51 : Int32) → w_329 kc x0 x1 ((it_us x1 (7 : Int32)) &&& (31 : Int32)) ((it_us x1 (12 : Int32)) &&& (7 : Int32)) r1 r3 m4 (fun m12 => w_322_523 kc Φ m12)) ∧ (¬ (x1 &&& (127 : Int32)) = (51 : Int32) → ((x1 &&& (127 : Int32)) = (55 : Int32) → w_323 kc x0 ((it_us x1 (7 : Int32)) &&& (31 : Int32)) (x1 &&& (-4096 : Int32)) m4 (fun m13 => w_322_523 kc Φ m13)) ∧ (¬ (x1 &&& (127 : Int32)) = (55 : Int32) → ((x1 &&& (127 : Int32)) = (99 : Int32) → w_324 kc x0 x1 ((it_us x1 (12 : Int32)) &&& (7 : Int32)) r1 r3 m4 (fun m14 => w_322_523 kc Φ m14)) ∧ (¬ (x1 &&& (127 : Int32)) = (99 : Int32) → ((x1 &&& (127 : Int32)) = (103 : Int32) → (((it_us x1 (12 : Int32)) &&& (7 : Int32)) = 0 → w_319 kc x0 ((it_us x1 (7 : Int32)) &&& (31 : Int32)) ((m4 94 (Int32.toNatClampNeg x0)) + (4 : Int32)) m4 (fun m15 => vp_in x0 8 ∧ (w_322_523 kc Φ (it_sv m15 94 (Int32.toNatClampNeg x0) ((r1 + (it_shr x1 (20 : Int32))) &&& (-2 : Int32)))))) ∧ (¬ ((it_us x1 (12 : Int32)) &&& (7 : Int32)) = 0 → w_321 kc x0 x1 m4 (fun m16 => w_322_523 kc Φ m16))) ∧ (¬ (x1 &&& (127 : Int32)) = (103 : Int32) → ((x1 &&& (127 : Int32)) = (111 : Int32) → w_319 kc x0 ((it_us x1 (7 : Int32)) &&& (31 : Int32)) ((m4 94 (Int32.toNatClampNeg x0)) + (4 : Int32)) m4 (fun m17 => vp_in x0 8 ∧ (w_322_523 kc Φ (it_sv m17 94 (Int32.toNatClampNeg x0) ((m4 94 (Int32.toNatClampNeg x0)) + ((((it_shl (it_shr x1 (31 : Int32)) (20 : Int32)) ||| (it_shl ((it_us x1 (12 : Int32)) &&& (255 : Int32)) (12 : Int32))) ||| (it_shl ((it_us x1 (20 : Int32)) &&& (1 : Int32)) (11 : Int32))) ||| (it_shl ((it_us x1 (21 : Int32)) &&& (1023 : Int32)) (1 : Int32)))))))) ∧ (¬ (x1 &&& (127 : Int32)) = (111 : Int32) → ((x1 &&& (127 : Int32)) = (115 : Int32) → (x1 = (115 : Int32) → w_284 kc x0 m4 (fun m18 => w_322_523 kc Φ m18)) ∧ (¬ x1 = (115 : Int32) → (x1 = (1048691 : Int32) → w_258 kc x0 (3 : Int32) (m4 94 (Int32.toNatClampNeg x0)) m4 (fun m19 => w_322_523 kc Φ m19)) ∧ (¬ x1 = (1048691 : Int32) → w_321 kc x0 x1 m4 (fun m20 => w_322_523 kc Φ m20)))) ∧ (¬ (x1 &&& (127 : Int32)) = (115 : Int32) → w_321 kc x0 x1 m4 (fun m21 => w_322_523 kc Φ m21))))))))))))))))
/-- GrantBoardModel.bit(III)I -/
def w_333 (kc : it_Kc) (x0 : Int32) (x1 : Int32) (x2 : Int32) (m : it_Me) (Φ : Int32 → it_Me → Prop) : Prop :=
  Φ (it_shl ((it_us x0 x1) &&& (1 : Int32)) x2) m
/-- GrantBoardModel.go2(III)V -/
def w_334 (kc : it_Kc) (x0 : Int32) (x1 : Int32) (x2 : Int32) (m : it_Me) (Φ : it_Me → Prop) : Prop :=
  w_319 kc x0 x1 x2 m (fun m1 => vp_in x0 8 ∧ (vp_in x0 8 ∧ (Φ (it_sv m1 94 (Int32.toNatClampNeg x0) ((m1 94 (Int32.toNatClampNeg x0)) + (2 : Int32))))))
/-- GrantBoardModel.quarter0(III)V -/
def w_337_189 (kc : it_Kc) (Φ : it_Me → Prop) (m : it_Me) : Prop :=
  Φ m
def w_337_120 (kc : it_Kc) (Φ : it_Me → Prop) (m : it_Me) : Prop :=
  w_337_189 kc Φ m
def w_337 (kc : it_Kc) (x0 : Int32) (x1 : Int32) (x2 : Int32) (m : it_Me) (Φ : it_Me → Prop) : Prop :=
  w_333 kc x1 (6 : Int32) (2 : Int32) m (fun r1 m2 => w_333 kc x1 (5 : Int32) (6 : Int32) m2 (fun r3 m4 => (x2 = 0 → w_333 kc x1 (6 : Int32) (2 : Int32) m4 (fun r5 m6 => w_333 kc x1 (5 : Int32) (3 : Int32) m6 (fun r7 m8 => (((((it_shl ((it_us x1 (11 : Int32)) &&& (3 : Int32)) (4 : Int32)) ||| (it_shl ((it_us x1 (7 : Int32)) &&& (15 : Int32)) (6 : Int32))) ||| r5) ||| r7) = 0 → w_321 kc x0 x1 m8 (fun m9 => w_337_120 kc Φ m9)) ∧ (¬ ((((it_shl ((it_us x1 (11 : Int32)) &&& (3 : Int32)) (4 : Int32)) ||| (it_shl ((it_us x1 (7 : Int32)) &&& (15 : Int32)) (6 : Int32))) ||| r5) ||| r7) = 0 → w_318 kc x0 (2 : Int32) m8 (fun r10 m11 => w_334 kc x0 ((8 : Int32) + ((it_us x1 (2 : Int32)) &&& (7 : Int32))) (r10 + ((((it_shl ((it_us x1 (11 : Int32)) &&& (3 : Int32)) (4 : Int32)) ||| (it_shl ((it_us x1 (7 : Int32)) &&& (15 : Int32)) (6 : Int32))) ||| r5) ||| r7)) m11 (fun m12 => w_337_120 kc Φ m12)))))) ∧ (¬ x2 = 0 → (x2 = (2 : Int32) → w_318 kc x0 ((8 : Int32) + ((it_us x1 (7 : Int32)) &&& (7 : Int32))) m4 (fun r13 m14 => w_325 kc x0 ((8 : Int32) + ((it_us x1 (2 : Int32)) &&& (7 : Int32))) (r13 + (((it_shl ((it_us x1 (10 : Int32)) &&& (7 : Int32)) (3 : Int32)) ||| r1) ||| r3)) (2 : Int32) (2 : Int32) m14 (fun m15 => w_337_189 kc Φ m15))) ∧ (¬ x2 = (2 : Int32) → (x2 = (6 : Int32) → w_318 kc x0 ((8 : Int32) + ((it_us x1 (7 : Int32)) &&& (7 : Int32))) m4 (fun r16 m17 => w_318 kc x0 ((8 : Int32) + ((it_us x1 (2 : Int32)) &&& (7 : Int32))) m17 (fun r18 m19 => w_326 kc x0 (r16 + (((it_shl ((it_us x1 (10 : Int32)) &&& (7 : Int32)) (3 : Int32)) ||| r1) ||| r3)) (2 : Int32) r18 (2 : Int32) m19 (fun m20 => w_337_189 kc Φ m20)))) ∧ (¬ x2 = (6 : Int32) → w_321 kc x0 x1 m4 (fun m21 => w_337_189 kc Φ m21))))))
/-- GrantBoardModel.six(I)I -/
def w_335 (kc : it_Kc) (x0 : Int32) (m : it_Me) (Φ : Int32 → it_Me → Prop) : Prop :=
  w_333 kc x0 (12 : Int32) (5 : Int32) m (fun r1 m2 => Φ ((-r1) ||| ((it_us x0 (2 : Int32)) &&& (31 : Int32))) m2)
/-- GrantBoardModel.arithmetic(II)V -/
def w_339_197 (kc : it_Kc) (Φ : it_Me → Prop) (m : it_Me) : Prop :=
  Φ m
def w_339_132 (kc : it_Kc) (Φ : it_Me → Prop) (u1 : Int32) (u2 : Int32) (u3 : Int32) (m : it_Me) : Prop :=
  w_334 kc u1 u2 u3 m (fun m1 => w_339_197 kc Φ m1)
def w_339_194 (kc : it_Kc) (Φ : it_Me → Prop) (u1 : Int32) (u2 : Int32) (u3 : Int32) (m : it_Me) : Prop :=
  w_334 kc u1 u2 u3 m (fun m1 => w_339_197 kc Φ m1)
def w_339_59 (kc : it_Kc) (Φ : it_Me → Prop) (v1 : Int32) (v2 : Int32) (v3 : Int32) (v4 : Int32) (v5 : Int32) (v6 : Int32) (u0 : Int32) (m : it_Me) : Prop :=
  (v6 = (2 : Int32) → w_335 kc v2 m (fun r1 m2 => w_334 kc v1 v3 (v4 &&& r1) m2 (fun m3 => w_339_197 kc Φ m3))) ∧ (¬ v6 = (2 : Int32) → (u0 = 0 → ((2 : Int32) ≤ v6 → (((it_us v2 (5 : Int32)) &&& (3 : Int32)) = 0 → w_339_194 kc Φ v1 v3 (v4 - v5) m) ∧ (¬ ((it_us v2 (5 : Int32)) &&& (3 : Int32)) = 0 → (((it_us v2 (5 : Int32)) &&& (3 : Int32)) = (1 : Int32) → w_339_194 kc Φ v1 v3 (v4 ^^^ v5) m) ∧ (¬ ((it_us v2 (5 : Int32)) &&& (3 : Int32)) = (1 : Int32) → (((it_us v2 (5 : Int32)) &&& (3 : Int32)) = (2 : Int32) → w_339_194 kc Φ v1 v3 (v4 ||| v5) m) ∧ (¬ ((it_us v2 (5 : Int32)) &&& (3 : Int32)) = (2 : Int32) → w_339_194 kc Φ v1 v3 (v4 &&& v5) m)))) ∧ (¬ (2 : Int32) ≤ v6 → (v6 = 0 → w_339_132 kc Φ v1 v3 (it_us v4 ((it_us v2 (2 : Int32)) &&& (31 : Int32))) m) ∧ (¬ v6 = 0 → w_339_132 kc Φ v1 v3 (it_shr v4 ((it_us v2 (2 : Int32)) &&& (31 : Int32))) m))) ∧ (¬ u0 = 0 → w_321 kc v1 v2 m (fun m4 => w_339_197 kc Φ m4)))
def w_339 (kc : it_Kc) (x0 : Int32) (x1 : Int32) (m : it_Me) (Φ : it_Me → Prop) : Prop :=
  w_318 kc x0 ((8 : Int32) + ((it_us x1 (7 : Int32)) &&& (7 : Int32))) m (fun r1 m2 => w_318 kc x0 ((8 : Int32) + ((it_us x1 (2 : Int32)) &&& (7 : Int32))) m2 (fun r3 m4 => w_333 kc x1 (12 : Int32) (0 : Int32) m4 (fun r5 m6 => (r5 = (1 : Int32) → w_339_59 kc Φ x0 x1 ((8 : Int32) + ((it_us x1 (7 : Int32)) &&& (7 : Int32))) r1 r3 ((it_us x1 (10 : Int32)) &&& (3 : Int32)) (1 : Int32) m6) ∧ (¬ r5 = (1 : Int32) → w_339_59 kc Φ x0 x1 ((8 : Int32) + ((it_us x1 (7 : Int32)) &&& (7 : Int32))) r1 r3 ((it_us x1 (10 : Int32)) &&& (3 : Int32)) (0 : Int32) m6))))
/-- GrantBoardModel.quarter1(III)V -/
def w_338_394 (kc : it_Kc) (Φ : it_Me → Prop) (m : it_Me) : Prop :=
  Φ m
def w_338_165 (kc : it_Kc) (Φ : it_Me → Prop) (v1 : Int32) (v5 : Int32) (v6 : Int32) (m : it_Me) : Prop :=
  vp_in v1 8 ∧ (w_338_394 kc Φ (it_sv m 94 (Int32.toNatClampNeg v1) (v5 + v6)))
def w_338_392 (kc : it_Kc) (Φ : it_Me → Prop) (u1 : Int32) (u2 : Int32) (u3 : Int32) (m : it_Me) : Prop :=
  vp_in u1 8 ∧ (w_338_394 kc Φ (it_sv m 94 (Int32.toNatClampNeg u1) (u2 + u3)))
def w_338_383 (kc : it_Kc) (Φ : it_Me → Prop) (v7 : Int32) (u1 : Int32) (u2 : Int32) (u3 : Int32) (u4 : Int32) (m : it_Me) : Prop :=
  (u3 = u4 → w_338_392 kc Φ u1 u2 v7 m) ∧ (¬ u3 = u4 → w_338_392 kc Φ u1 u2 (2 : Int32) m)
def w_338_372 (kc : it_Kc) (Φ : it_Me → Prop) (v3 : Int32) (v7 : Int32) (u1 : Int32) (u2 : Int32) (u3 : Int32) (m : it_Me) : Prop :=
  (v3 = (6 : Int32) → w_338_383 kc Φ v7 u1 u2 u3 (1 : Int32) m) ∧ (¬ v3 = (6 : Int32) → w_338_383 kc Φ v7 u1 u2 u3 (0 : Int32) m)
def w_338 (kc : it_Kc) (x0 : Int32) (x1 : Int32) (x2 : Int32) (m : it_Me) (Φ : it_Me → Prop) : Prop :=
  vp_in x0 8 ∧ ((x2 = (0 : Int32) → w_318 kc x0 ((it_us x1 (7 : Int32)) &&& (31 : Int32)) m (fun r1 m2 => w_335 kc x1 m2 (fun r3 m4 => w_334 kc x0 ((it_us x1 (7 : Int32)) &&& (31 : Int32)) (r1 + r3) m4 (fun m5 => w_338_394 kc Φ m5)))) ∧ (¬ x2 = (0 : Int32) → (x2 = (1 : Int32) → w_333 kc x1 (12 : Int32) (11 : Int32) m (fun r6 m7 => w_333 kc x1 (11 : Int32) (4 : Int32) m7 (fun r8 m9 => w_333 kc x1 (8 : Int32) (10 : Int32) m9 (fun r10 m11 => w_333 kc x1 (7 : Int32) (6 : Int32) m11 (fun r12 m13 => w_333 kc x1 (6 : Int32) (7 : Int32) m13 (fun r14 m15 => w_333 kc x1 (2 : Int32) (5 : Int32) m15 (fun r16 m17 => (x2 = (1 : Int32) → w_319 kc x0 (1 : Int32) ((m 94 (Int32.toNatClampNeg x0)) + (2 : Int32)) m17 (fun m18 => w_338_165 kc Φ x0 (m 94 (Int32.toNatClampNeg x0)) ((((((((-r6) ||| r8) ||| (it_shl ((it_us x1 (9 : Int32)) &&& (3 : Int32)) (8 : Int32))) ||| r10) ||| r12) ||| r14) ||| (it_shl ((it_us x1 (3 : Int32)) &&& (7 : Int32)) (1 : Int32))) ||| r16) m18)) ∧ (¬ x2 = (1 : Int32) → w_338_165 kc Φ x0 (m 94 (Int32.toNatClampNeg x0)) ((((((((-r6) ||| r8) ||| (it_shl ((it_us x1 (9 : Int32)) &&& (3 : Int32)) (8 : Int32))) ||| r10) ||| r12) ||| r14) ||| (it_shl ((it_us x1 (3 : Int32)) &&& (7 : Int32)) (1 : Int32))) ||| r16) m17)))))))) ∧ (¬ x2 = (1 : Int32) → (x2 = (2 : Int32) → w_335 kc x1 m (fun r19 m20 => w_334 kc x0 ((it_us x1 (7 : Int32)) &&& (31 : Int32)) r19 m20 (fun m21 => w_338_394 kc Φ m21))) ∧ (¬ x2 = (2 : Int32) → (x2 = (3 : Int32) → w_335 kc x1 m (fun r22 m23 => (r22 = 0 → w_321 kc x0 x1 m23 (fun m24 => w_338_394 kc Φ m24)) ∧ (¬ r22 = 0 → (((it_us x1 (7 : Int32)) &&& (31 : Int32)) = (2 : Int32) → w_318 kc x0 (2 : Int32) m23 (fun r25 m26 => w_333 kc x1 (12 : Int32) (9 : Int32) m26 (fun r27 m28 => w_333 kc x1 (6 : Int32) (4 : Int32) m28 (fun r29 m30 => w_333 kc x1 (5 : Int32) (6 : Int32) m30 (fun r31 m32 => w_333 kc x1 (2 : Int32) (5 : Int32) m32 (fun r33 m34 => w_334 kc x0 (2 : Int32) (r25 + (((((-r27) ||| r29) ||| r31) ||| (it_shl ((it_us x1 (3 : Int32)) &&& (3 : Int32)) (7 : Int32))) ||| r33)) m34 (fun m35 => w_338_394 kc Φ m35))))))) ∧ (¬ ((it_us x1 (7 : Int32)) &&& (31 : Int32)) = (2 : Int32) → w_335 kc x1 m23 (fun r36 m37 => w_334 kc x0 ((it_us x1 (7 : Int32)) &&& (31 : Int32)) (it_shl r36 (12 : Int32)) m37 (fun m38 => w_338_394 kc Φ m38)))))) ∧ (¬ x2 = (3 : Int32) → (x2 = (4 : Int32) → w_339 kc x0 x1 m (fun m39 => w_338_394 kc Φ m39)) ∧ (¬ x2 = (4 : Int32) → (x2 = (5 : Int32) → w_333 kc x1 (12 : Int32) (11 : Int32) m (fun r40 m41 => w_333 kc x1 (11 : Int32) (4 : Int32) m41 (fun r42 m43 => w_333 kc x1 (8 : Int32) (10 : Int32) m43 (fun r44 m45 => w_333 kc x1 (7 : Int32) (6 : Int32) m45 (fun r46 m47 => w_333 kc x1 (6 : Int32) (7 : Int32) m47 (fun r48 m49 => w_333 kc x1 (2 : Int32) (5 : Int32) m49 (fun r50 m51 => (x2 = (1 : Int32) → w_319 kc x0 (1 : Int32) ((m 94 (Int32.toNatClampNeg x0)) + (2 : Int32)) m51 (fun m52 => w_338_165 kc Φ x0 (m 94 (Int32.toNatClampNeg x0)) ((((((((-r40) ||| r42) ||| (it_shl ((it_us x1 (9 : Int32)) &&& (3 : Int32)) (8 : Int32))) ||| r44) ||| r46) ||| r48) ||| (it_shl ((it_us x1 (3 : Int32)) &&& (7 : Int32)) (1 : Int32))) ||| r50) m52)) ∧ (¬ x2 = (1 : Int32) → w_338_165 kc Φ x0 (m 94 (Int32.toNatClampNeg x0)) ((((((((-r40) ||| r42) ||| (it_shl ((it_us x1 (9 : Int32)) &&& (3 : Int32)) (8 : Int32))) ||| r44) ||| r46) ||| r48) ||| (it_shl ((it_us x1 (3 : Int32)) &&& (7 : Int32)) (1 : Int32))) ||| r50) m51)))))))) ∧ (¬ x2 = (5 : Int32) → w_333 kc x1 (12 : Int32) (8 : Int32) m (fun r53 m54 => w_333 kc x1 (2 : Int32) (5 : Int32) m54 (fun r55 m56 => w_318 kc x0 ((8 : Int32) + ((it_us x1 (7 : Int32)) &&& (7 : Int32))) m56 (fun r57 m58 => (r57 = 0 → w_338_372 kc Φ x2 (((((-r53) ||| (it_shl ((it_us x1 (10 : Int32)) &&& (3 : Int32)) (3 : Int32))) ||| (it_shl ((it_us x1 (5 : Int32)) &&& (3 : Int32)) (6 : Int32))) ||| (it_shl ((it_us x1 (3 : Int32)) &&& (3 : Int32)) (1 : Int32))) ||| r55) x0 (m 94 (Int32.toNatClampNeg x0)) (1 : Int32) m58) ∧ (¬ r57 = 0 → w_338_372 kc Φ x2 (((((-r53) ||| (it_shl ((it_us x1 (10 : Int32)) &&& (3 : Int32)) (3 : Int32))) ||| (it_shl ((it_us x1 (5 : Int32)) &&& (3 : Int32)) (6 : Int32))) ||| (it_shl ((it_us x1 (3 : Int32)) &&& (3 : Int32)) (1 : Int32))) ||| r55) x0 (m 94 (Int32.toNatClampNeg x0)) (0 : Int32) m58)))))))))))
/-- GrantBoardModel.quarter2(III)V -/
def w_340_300 (kc : it_Kc) (Φ : it_Me → Prop) (m : it_Me) : Prop :=
  Φ m
def w_340_219 (kc : it_Kc) (Φ : it_Me → Prop) (u1 : Int32) (u2 : Int32) (u3 : Int32) (m : it_Me) : Prop :=
  w_334 kc u1 u2 u3 m (fun m1 => w_340_300 kc Φ m1)
def w_340_262 (kc : it_Kc) (Φ : it_Me → Prop) (v1 : Int32) (v8 : Int32) (m : it_Me) : Prop :=
  vp_in v1 8 ∧ (w_340_300 kc Φ (it_sv m 94 (Int32.toNatClampNeg v1) v8))
def w_340_294 (kc : it_Kc) (Φ : it_Me → Prop) (v1 : Int32) (v2 : Int32) (m : it_Me) : Prop :=
  w_321 kc v1 v2 m (fun m1 => w_340_300 kc Φ m1)
def w_340_273 (kc : it_Kc) (Φ : it_Me → Prop) (v1 : Int32) (v2 : Int32) (v3 : Int32) (v6 : Int32) (v7 : Int32) (m : it_Me) : Prop :=
  (v3 = (4 : Int32) → (v6 = 0 → w_340_294 kc Φ v1 v2 m) ∧ (¬ v6 = 0 → w_258 kc v1 (3 : Int32) v7 m (fun m1 => w_340_300 kc Φ m1))) ∧ (¬ v3 = (4 : Int32) → w_340_294 kc Φ v1 v2 m)
def w_340_225 (kc : it_Kc) (Φ : it_Me → Prop) (v1 : Int32) (v2 : Int32) (v3 : Int32) (v4 : Int32) (v6 : Int32) (v7 : Int32) (m : it_Me) : Prop :=
  (v3 = (4 : Int32) → (v4 = 0 → w_340_273 kc Φ v1 v2 v3 v6 v7 m) ∧ (¬ v4 = 0 → w_318 kc v1 v4 m (fun r1 m2 => (v6 = 0 → w_340_262 kc Φ v1 (r1 &&& (-2 : Int32)) m2) ∧ (¬ v6 = 0 → w_319 kc v1 (1 : Int32) (v7 + (2 : Int32)) m2 (fun m3 => w_340_262 kc Φ v1 (r1 &&& (-2 : Int32)) m3))))) ∧ (¬ v3 = (4 : Int32) → w_340_273 kc Φ v1 v2 v3 v6 v7 m)
def w_340_126 (kc : it_Kc) (Φ : it_Me → Prop) (v1 : Int32) (v2 : Int32) (v3 : Int32) (v4 : Int32) (v5 : Int32) (v6 : Int32) (v7 : Int32) (m : it_Me) : Prop :=
  (v3 = (6 : Int32) → w_318 kc v1 (2 : Int32) m (fun r1 m2 => w_318 kc v1 v5 m2 (fun r3 m4 => w_326 kc v1 (r1 + ((it_shl ((it_us v2 (9 : Int32)) &&& (15 : Int32)) (2 : Int32)) ||| (it_shl ((it_us v2 (7 : Int32)) &&& (3 : Int32)) (6 : Int32)))) (2 : Int32) r3 (2 : Int32) m4 (fun m5 => w_340_300 kc Φ m5)))) ∧ (¬ v3 = (6 : Int32) → (v3 = (4 : Int32) → (v5 = 0 → w_340_225 kc Φ v1 v2 v3 v4 v6 v7 m) ∧ (¬ v5 = 0 → (v6 = 0 → w_318 kc v1 v5 m (fun r6 m7 => w_340_219 kc Φ v1 v4 r6 m7)) ∧ (¬ v6 = 0 → w_318 kc v1 v4 m (fun r8 m9 => w_318 kc v1 v5 m9 (fun r10 m11 => w_340_219 kc Φ v1 v4 (r8 + r10) m11))))) ∧ (¬ v3 = (4 : Int32) → w_340_225 kc Φ v1 v2 v3 v4 v6 v7 m))
def w_340_72 (kc : it_Kc) (Φ : it_Me → Prop) (v1 : Int32) (v2 : Int32) (v3 : Int32) (v4 : Int32) (v5 : Int32) (v6 : Int32) (v7 : Int32) (m : it_Me) : Prop :=
  (v3 = (2 : Int32) → (v4 = 0 → w_340_126 kc Φ v1 v2 v3 v4 v5 v6 v7 m) ∧ (¬ v4 = 0 → w_318 kc v1 (2 : Int32) m (fun r1 m2 => w_333 kc v2 (12 : Int32) (5 : Int32) m2 (fun r3 m4 => w_325 kc v1 v4 (r1 + ((r3 ||| (it_shl ((it_us v2 (4 : Int32)) &&& (7 : Int32)) (2 : Int32))) ||| (it_shl ((it_us v2 (2 : Int32)) &&& (3 : Int32)) (6 : Int32)))) (2 : Int32) (2 : Int32) m4 (fun m5 => w_340_300 kc Φ m5))))) ∧ (¬ v3 = (2 : Int32) → w_340_126 kc Φ v1 v2 v3 v4 v5 v6 v7 m)
def w_340_33 (kc : it_Kc) (Φ : it_Me → Prop) (v1 : Int32) (v2 : Int32) (v3 : Int32) (v4 : Int32) (v5 : Int32) (u0 : Int32) (m : it_Me) : Prop :=
  vp_in v1 8 ∧ ((v3 = 0 → (u0 = 0 → w_318 kc v1 v4 m (fun r1 m2 => w_334 kc v1 v4 (it_shl r1 v5) m2 (fun m3 => w_340_300 kc Φ m3))) ∧ (¬ u0 = 0 → w_340_72 kc Φ v1 v2 v3 v4 v5 u0 (m 94 (Int32.toNatClampNeg v1)) m)) ∧ (¬ v3 = 0 → w_340_72 kc Φ v1 v2 v3 v4 v5 u0 (m 94 (Int32.toNatClampNeg v1)) m))
def w_340 (kc : it_Kc) (x0 : Int32) (x1 : Int32) (x2 : Int32) (m : it_Me) (Φ : it_Me → Prop) : Prop :=
  w_333 kc x1 (12 : Int32) (0 : Int32) m (fun r1 m2 => (r1 = (1 : Int32) → w_340_33 kc Φ x0 x1 x2 ((it_us x1 (7 : Int32)) &&& (31 : Int32)) ((it_us x1 (2 : Int32)) &&& (31 : Int32)) (1 : Int32) m2) ∧ (¬ r1 = (1 : Int32) → w_340_33 kc Φ x0 x1 x2 ((it_us x1 (7 : Int32)) &&& (31 : Int32)) ((it_us x1 (2 : Int32)) &&& (31 : Int32)) (0 : Int32) m2))
/-- GrantBoardModel.compressed(II)V -/
def w_336_63 (kc : it_Kc) (Φ : it_Me → Prop) (m : it_Me) : Prop :=
  Φ m
def w_336 (kc : it_Kc) (x0 : Int32) (x1 : Int32) (m : it_Me) (Φ : it_Me → Prop) : Prop :=
  ((x1 &&& (3 : Int32)) = (0 : Int32) → w_337 kc x0 x1 (it_us x1 (13 : Int32)) m (fun m1 => w_336_63 kc Φ m1)) ∧ (¬ (x1 &&& (3 : Int32)) = (0 : Int32) → ((x1 &&& (3 : Int32)) = (1 : Int32) → w_338 kc x0 x1 (it_us x1 (13 : Int32)) m (fun m2 => w_336_63 kc Φ m2)) ∧ (¬ (x1 &&& (3 : Int32)) = (1 : Int32) → w_340 kc x0 x1 (it_us x1 (13 : Int32)) m (fun m3 => w_336_63 kc Φ m3)))
/-- GrantBoardModel.step(I)V -/
def w_320 (kc : it_Kc) (x0 : Int32) (m : it_Me) (Φ : it_Me → Prop) : Prop :=
  vp_in x0 8 ∧ (w_259 kc x0 (m 94 (Int32.toNatClampNeg x0)) (2 : Int32) (4 : Int32) m (fun r1 m2 => (r1 = 0 → w_258 kc x0 (1 : Int32) (m 94 (Int32.toNatClampNeg x0)) m2 (fun m3 => Φ m3)) ∧ (¬ r1 = 0 → w_219 kc (m 94 (Int32.toNatClampNeg x0)) m2 (fun r4 m5 => ((r4 &&& (3 : Int32)) = (3 : Int32) → w_259 kc x0 ((m 94 (Int32.toNatClampNeg x0)) + (2 : Int32)) (2 : Int32) (4 : Int32) m5 (fun r6 m7 => (r6 = 0 → w_258 kc x0 (1 : Int32) ((m 94 (Int32.toNatClampNeg x0)) + (2 : Int32)) m7 (fun m8 => Φ m8)) ∧ (¬ r6 = 0 → w_219 kc ((m 94 (Int32.toNatClampNeg x0)) + (2 : Int32)) m7 (fun r9 m10 => w_322 kc x0 (r4 ||| (it_shl r9 (16 : Int32))) m10 (fun m11 => Φ m11))))) ∧ (¬ (r4 &&& (3 : Int32)) = (3 : Int32) → w_336 kc x0 r4 m5 (fun m12 => Φ m12))))))
/-- GrantBoardModel.tick()V -/
def w_316_44 (kc : it_Kc) (Φ : it_Me → Prop) (K79 : it_Me → Prop) : Nat → Int32 → it_Me → Prop
  | 0, _, _ => False
  | n44 + 1, v1, m =>
  ((m 66 34) ≤ v1 → K79 m) ∧ (¬ (m 66 34) ≤ v1 → vp_in v1 8 ∧ (vp_in v1 8 ∧ (vp_in v1 8 ∧ ((w_316_44 kc Φ K79 n44) (v1 + (1 : Int32)) (it_sv (it_sv (it_sv m 106 (Int32.toNatClampNeg v1) (0 : Int32)) 107 (Int32.toNatClampNeg v1) (0 : Int32)) 108 (Int32.toNatClampNeg v1) v1)))))
def w_316_142 (kc : it_Kc) (Φ : it_Me → Prop) (m : it_Me) : Prop :=
  Φ m
def w_316_84 (kc : it_Kc) (Φ : it_Me → Prop) (m : it_Me) : Prop :=
  w_308 kc m (fun m1 => w_310 kc m1 (fun m2 => w_311 kc m2 (fun m3 => w_314 kc m3 (fun r4 m5 => (r4 = (-1 : Int32) → w_316_142 kc Φ m5) ∧ (¬ r4 = (-1 : Int32) → vp_in r4 8 ∧ (vp_in r4 8 ∧ (vp_in (10 : Int32) 12 ∧ (vp_in (10 : Int32) 12 ∧ (w_320 kc r4 (it_sv (it_sv (it_sv m5 66 71 ((m5 66 71) + (1 : Int32))) 107 (Int32.toNatClampNeg r4) (((it_sv m5 66 71 ((m5 66 71) + (1 : Int32))) 107 (Int32.toNatClampNeg r4)) + (1 : Int32))) 69 (Int32.toNatClampNeg (10 : Int32)) (((it_sv (it_sv m5 66 71 ((m5 66 71) + (1 : Int32))) 107 (Int32.toNatClampNeg r4) (((it_sv m5 66 71 ((m5 66 71) + (1 : Int32))) 107 (Int32.toNatClampNeg r4)) + (1 : Int32))) 69 (Int32.toNatClampNeg (10 : Int32))) + (1 : Int32))) (fun m6 => w_316_142 kc Φ m6))))))))))
def w_316_79 (kc : it_Kc) (Φ : it_Me → Prop) (m : it_Me) : Prop :=
  w_316_84 kc Φ (it_sv m 66 70 (-1 : Int32))
def w_316 (kc : it_Kc) (m : it_Me) (Φ : it_Me → Prop) : Prop :=
  (((it_sv m 66 6 ((m 66 6) + (1 : Int32))) 66 7) = (2 : Int32) → ¬ ((64 : Int64) * (Int32.toInt64 ((it_sv m 66 6 ((m 66 6) + (1 : Int32))) 66 8))) = 0 ∧ (((lg_cmp (it_lrem ((Int32.toInt64 ((it_sv m 66 6 ((m 66 6) + (1 : Int32))) 66 6)) &&& (4294967295 : Int64)) ((64 : Int64) * (Int32.toInt64 ((it_sv m 66 6 ((m 66 6) + (1 : Int32))) 66 8)))) (0 : Int64)) = 0 → ∃ e, w_316_44 kc Φ (fun m => w_316_79 kc Φ m) e (0 : Int32) (it_sv m 66 6 ((m 66 6) + (1 : Int32)))) ∧ (¬ (lg_cmp (it_lrem ((Int32.toInt64 ((it_sv m 66 6 ((m 66 6) + (1 : Int32))) 66 6)) &&& (4294967295 : Int64)) ((64 : Int64) * (Int32.toInt64 ((it_sv m 66 6 ((m 66 6) + (1 : Int32))) 66 8)))) (0 : Int64)) = 0 → w_316_84 kc Φ (it_sv m 66 6 ((m 66 6) + (1 : Int32)))))) ∧ (¬ ((it_sv m 66 6 ((m 66 6) + (1 : Int32))) 66 7) = (2 : Int32) → w_316_84 kc Φ (it_sv m 66 6 ((m 66 6) + (1 : Int32))))
/-- GrantBoardModel.run(I)I -/
def w_317_32 (kc : it_Kc) (Φ : Int32 → it_Me → Prop) (K48 : it_Me → Prop) (K66 : Int32 → it_Me → Prop) : Nat → Int32 → Int32 → it_Me → Prop
  | 0, _, _, _ => False
  | n32 + 1, v1, v2, m =>
  (v1 ≤ v2 → K66 v1 m) ∧ (¬ v1 ≤ v2 → w_316 kc m (fun m1 => ((m1 66 4) = 0 → (w_317_32 kc Φ K48 K66 n32) v1 (v2 + (1 : Int32)) m1) ∧ (¬ (m1 66 4) = 0 → K48 m1)))
def w_317_22 (kc : it_Kc) (Φ : Int32 → it_Me → Prop) (m : it_Me) : Prop :=
  Φ (-2 : Int32) m
def w_317_48 (kc : it_Kc) (Φ : Int32 → it_Me → Prop) (m : it_Me) : Prop :=
  w_228 kc (it_sv m 66 4 (0 : Int32)) (fun m1 => Φ (-4 : Int32) m1)
def w_317_66 (kc : it_Kc) (Φ : Int32 → it_Me → Prop) (v1 : Int32) (m : it_Me) : Prop :=
  Φ v1 m
def w_317 (kc : it_Kc) (x0 : Int32) (m : it_Me) (Φ : Int32 → it_Me → Prop) : Prop :=
  ((m 66 3) = 0 → Φ (-3 : Int32) m) ∧ (¬ (m 66 3) = 0 → (x0 < (1 : Int32) → w_317_22 kc Φ m) ∧ (¬ x0 < (1 : Int32) → (x0 ≤ (20000 : Int32) → ∃ e, w_317_32 kc Φ (fun m => w_317_48 kc Φ m) (fun v1 m => w_317_66 kc Φ v1 m) e x0 (0 : Int32) (it_sv m 66 4 (0 : Int32))) ∧ (¬ x0 ≤ (20000 : Int32) → w_317_22 kc Φ m)))
/-- GrantBoardModel.press(IZ)I -/
def w_342_98 (kc : it_Kc) (Φ : Int32 → it_Me → Prop) (K33 : Int32 → Int32 → Int32 → it_Me → Prop) (K104 : it_Me → Prop) (v1 : Int32) (v2 : Int32) (v3 : Int32) (m : it_Me) : Prop :=
  K33 v1 v2 (v3 + (1 : Int32)) m
def w_342_94 (kc : it_Kc) (Φ : Int32 → it_Me → Prop) (K33 : Int32 → Int32 → Int32 → it_Me → Prop) (K104 : it_Me → Prop) (v1 : Int32) (v2 : Int32) (v3 : Int32) (u1 : Int32) (u2 : Int32) (u3 : Int32) (u4 : Int32) (u5 : Int32) (m : it_Me) : Prop :=
  w_274 kc u1 u2 u3 u4 u5 (0 : Int32) m (fun m1 => w_342_98 kc Φ K33 K104 v1 v2 v3 m1)
def w_342_33 (kc : it_Kc) (Φ : Int32 → it_Me → Prop) (K104 : it_Me → Prop) : Nat → Int32 → Int32 → Int32 → it_Me → Prop
  | 0, _, _, _, _ => False
  | n33 + 1, v1, v2, v3, m =>
  ((m 66 3) = 0 → K104 m) ∧ (¬ (m 66 3) = 0 → ((m 66 34) ≤ v3 → K104 m) ∧ (¬ (m 66 34) ≤ v3 → w_272 kc v3 (3 : Int32) m (fun r1 m2 => (r1 = (-1 : Int32) → w_342_98 kc Φ (w_342_33 kc Φ K104 n33) K104 v1 v2 v3 m2) ∧ (¬ r1 = (-1 : Int32) → w_269 kc r1 (3 : Int32) m2 (fun r3 m4 => w_220 kc r3 m4 (fun r5 m6 => (((it_us r5 v1) &&& (1 : Int32)) = (1 : Int32) → (v2 = 0 → w_342_94 kc Φ (w_342_33 kc Φ K104 n33) K104 v1 v2 v3 v3 (3 : Int32) (0 : Int32) v1 (0 : Int32) m6) ∧ (¬ v2 = 0 → w_342_94 kc Φ (w_342_33 kc Φ K104 n33) K104 v1 v2 v3 v3 (3 : Int32) (0 : Int32) v1 (1 : Int32) m6)) ∧ (¬ ((it_us r5 v1) &&& (1 : Int32)) = (1 : Int32) → w_342_98 kc Φ (w_342_33 kc Φ K104 n33) K104 v1 v2 v3 m6)))))))
def w_342_9 (kc : it_Kc) (Φ : Int32 → it_Me → Prop) (m : it_Me) : Prop :=
  Φ (-2 : Int32) m
def w_342_104 (kc : it_Kc) (Φ : Int32 → it_Me → Prop) (m : it_Me) : Prop :=
  Φ (1 : Int32) m
def w_342 (kc : it_Kc) (x0 : Int32) (x1 : Int32) (m : it_Me) (Φ : Int32 → it_Me → Prop) : Prop :=
  (x0 < 0 → w_342_9 kc Φ m) ∧ (¬ x0 < 0 → (x0 ≤ (3 : Int32) → vp_in x0 4 ∧ (((m 72 (Int32.toNatClampNeg x0)) = x1 → Φ (0 : Int32) m) ∧ (¬ (m 72 (Int32.toNatClampNeg x0)) = x1 → vp_in x0 4 ∧ (∃ e, w_342_33 kc Φ (fun m => w_342_104 kc Φ m) e x0 x1 (0 : Int32) (it_sv m 72 (Int32.toNatClampNeg x0) (x1 &&& 1)))))) ∧ (¬ x0 ≤ (3 : Int32) → w_342_9 kc Φ m))
/-- GrantBoardModel.type(I)I -/
def w_343_21 (kc : it_Kc) (Φ : Int32 → it_Me → Prop) (m : it_Me) : Prop :=
  Φ (-2 : Int32) m
def w_343_179 (kc : it_Kc) (Φ : Int32 → it_Me → Prop) (u0 : Int32) (m : it_Me) : Prop :=
  Φ u0 m
def w_343_169 (kc : it_Kc) (Φ : Int32 → it_Me → Prop) (v6 : Int32) (m : it_Me) : Prop :=
  (v6 = 0 → w_343_179 kc Φ (0 : Int32) m) ∧ (¬ v6 = 0 → w_343_179 kc Φ (1 : Int32) m)
def w_343_142 (kc : it_Kc) (Φ : Int32 → it_Me → Prop) (v2 : Int32) (v4 : Int32) (v5 : Int32) (v6 : Int32) (m : it_Me) : Prop :=
  w_221 kc v4 (0 : Int32) m (fun m1 => w_221 kc (v4 + (4 : Int32)) (0 : Int32) m1 (fun m2 => w_274 kc v2 (1 : Int32) (2 : Int32) (0 : Int32) v5 (0 : Int32) m2 (fun m3 => w_343_169 kc Φ v6 m3)))
def w_343_126 (kc : it_Kc) (Φ : Int32 → it_Me → Prop) (v2 : Int32) (v4 : Int32) (v5 : Int32) (v6 : Int32) (m : it_Me) : Prop :=
  (v6 = 0 → w_343_142 kc Φ v2 v4 v5 v6 m) ∧ (¬ v6 = 0 → w_220 kc v4 m (fun r1 m2 => (v5 = r1 → w_343_142 kc Φ v2 v4 v5 v6 m2) ∧ (¬ v5 = r1 → w_343_169 kc Φ v6 m2)))
def w_343_86 (kc : it_Kc) (Φ : Int32 → it_Me → Prop) (v1 : Int32) (v2 : Int32) (v3 : Int32) (v4 : Int32) (v5 : Int32) (u0 : Int32) (m : it_Me) : Prop :=
  (u0 = 0 → w_343_126 kc Φ v2 v4 v5 u0 m) ∧ (¬ u0 = 0 → w_271 kc v3 (1 : Int32) (1 : Int32) m (fun r1 m2 => w_220 kc r1 m2 (fun r3 m4 => vp_in (r3 + v5) 196608 ∧ (w_221 kc (v4 + (4 : Int32)) (v5 + (1 : Int32)) (it_sv m4 67 (Int32.toNatClampNeg (r3 + v5)) (it_i2b (it_i2b v1))) (fun m5 => w_343_126 kc Φ v2 v4 (v5 + (1 : Int32)) u0 m5)))))
def w_343 (kc : it_Kc) (x0 : Int32) (m : it_Me) (Φ : Int32 → it_Me → Prop) : Prop :=
  ((m 66 3) = 0 → Φ (-3 : Int32) m) ∧ (¬ (m 66 3) = 0 → (x0 < 0 → w_343_21 kc Φ m) ∧ (¬ x0 < 0 → (x0 ≤ (255 : Int32) → w_309 kc (0 : Int32) m (fun r1 m2 => (r1 = (-1 : Int32) → Φ (0 : Int32) m2) ∧ (¬ r1 = (-1 : Int32) → w_272 kc r1 (1 : Int32) m2 (fun r3 m4 => w_269 kc r3 (1 : Int32) m4 (fun r5 m6 => w_220 kc ((r5 + (8 : Int32)) + (4 : Int32)) m6 (fun r7 m8 => w_271 kc r3 (1 : Int32) (1 : Int32) m8 (fun r9 m10 => w_220 kc (r9 + (4 : Int32)) m10 (fun r11 m12 => (r11 ≤ r7 → w_343_86 kc Φ x0 r1 r3 (r5 + (8 : Int32)) r7 (0 : Int32) m12) ∧ (¬ r11 ≤ r7 → w_343_86 kc Φ x0 r1 r3 (r5 + (8 : Int32)) r7 (1 : Int32) m12))))))))) ∧ (¬ x0 ≤ (255 : Int32) → w_343_21 kc Φ m)))
/-- GrantBoardModel.level(II)I -/
def w_344_9 (kc : it_Kc) (Φ : Int32 → it_Me → Prop) (m : it_Me) : Prop :=
  Φ (-2 : Int32) m
def w_344 (kc : it_Kc) (x0 : Int32) (x1 : Int32) (m : it_Me) (Φ : Int32 → it_Me → Prop) : Prop :=
  (x0 < 0 → w_344_9 kc Φ m) ∧ (¬ x0 < 0 → (x0 ≤ (1 : Int32) → vp_in x0 2 ∧ (Φ (1 : Int32) (it_sv m 73 (Int32.toNatClampNeg x0) x1))) ∧ (¬ x0 ≤ (1 : Int32) → w_344_9 kc Φ m))
/-- GrantBoardModel.hold(IZ)I -/
def w_345_44 (kc : it_Kc) (Φ : Int32 → it_Me → Prop) (u0 : Int32) (m : it_Me) : Prop :=
  Φ u0 m
def w_345 (kc : it_Kc) (x0 : Int32) (x1 : Int32) (m : it_Me) (Φ : Int32 → it_Me → Prop) : Prop :=
  ((m 66 3) = 0 → Φ (-3 : Int32) m) ∧ (¬ (m 66 3) = 0 → w_341 kc x0 m (fun r1 m2 => (r1 = 0 → Φ (-1 : Int32) m2) ∧ (¬ r1 = 0 → vp_in x0 8 ∧ (vp_in x0 8 ∧ (((m2 96 (Int32.toNatClampNeg x0)) = x1 → w_345_44 kc Φ (0 : Int32) (it_sv m2 96 (Int32.toNatClampNeg x0) (x1 &&& 1))) ∧ (¬ (m2 96 (Int32.toNatClampNeg x0)) = x1 → w_345_44 kc Φ (1 : Int32) (it_sv m2 96 (Int32.toNatClampNeg x0) (x1 &&& 1))))))))
/-- GrantBoardModel.restart(I)I -/
def w_346 (kc : it_Kc) (x0 : Int32) (m : it_Me) (Φ : Int32 → it_Me → Prop) : Prop :=
  ((m 66 3) = 0 → Φ (-3 : Int32) m) ∧ (¬ (m 66 3) = 0 → w_341 kc x0 m (fun r1 m2 => (r1 = 0 → Φ (-1 : Int32) m2) ∧ (¬ r1 = 0 → w_255 kc x0 m2 (fun m3 => Φ (1 : Int32) m3))))
/-- GrantBoardModel.count(I)I -/
def w_347_10 (kc : it_Kc) (Φ : Int32 → it_Me → Prop) (m : it_Me) : Prop :=
  Φ (-2 : Int32) m
def w_347_62 (kc : it_Kc) (Φ : Int32 → it_Me → Prop) (u0 : Int32) (m : it_Me) : Prop :=
  Φ u0 m
def w_347 (kc : it_Kc) (x0 : Int32) (m : it_Me) (Φ : Int32 → it_Me → Prop) : Prop :=
  (x0 < 0 → w_347_10 kc Φ m) ∧ (¬ x0 < 0 → (x0 ≤ (11 : Int32) → (x0 = 0 → ((m 66 3) = 0 → w_347_62 kc Φ (0 : Int32) m) ∧ (¬ (m 66 3) = 0 → w_347_62 kc Φ (1 : Int32) m)) ∧ (¬ x0 = 0 → (x0 = (1 : Int32) → w_347_62 kc Φ (m 66 34) m) ∧ (¬ x0 = (1 : Int32) → (x0 = (2 : Int32) → w_347_62 kc Φ (m 66 6) m) ∧ (¬ x0 = (2 : Int32) → vp_in x0 12 ∧ (w_347_62 kc Φ (m 69 (Int32.toNatClampNeg x0)) m))))) ∧ (¬ x0 ≤ (11 : Int32) → w_347_10 kc Φ m))
/-- GrantBoardModel.grants(I)I -/
def w_348_9 (kc : it_Kc) (Φ : Int32 → it_Me → Prop) (K35 : Int32 → it_Me → Prop) : Nat → Int32 → Int32 → Int32 → it_Me → Prop
  | 0, _, _, _, _ => False
  | n9 + 1, v1, v2, v3, m =>
  w_252 kc v1 m (fun r1 m2 => (v3 = r1 → K35 v2 m2) ∧ (¬ v3 = r1 → w_220 kc v3 m2 (fun r3 m4 => w_268 kc r3 m4 (fun r5 m6 => (w_348_9 kc Φ K35 n9) v1 (v2 + (1 : Int32)) (v3 + r5) m6))))
def w_348_35 (kc : it_Kc) (Φ : Int32 → it_Me → Prop) (v2 : Int32) (m : it_Me) : Prop :=
  Φ v2 m
def w_348 (kc : it_Kc) (x0 : Int32) (m : it_Me) (Φ : Int32 → it_Me → Prop) : Prop :=
  vp_in x0 8 ∧ (∃ e, w_348_9 kc Φ (fun v2 m => w_348_35 kc Φ v2 m) e x0 (0 : Int32) (m 92 (Int32.toNatClampNeg x0)) m)
/-- GrantBoardModel.stateOf(I)I -/
def w_349_21 (kc : it_Kc) (Φ : Int32 → it_Me → Prop) (u0 : Int32) (u1 : Int32) (m : it_Me) : Prop :=
  Φ (u0 + u1) m
def w_349 (kc : it_Kc) (x0 : Int32) (m : it_Me) (Φ : Int32 → it_Me → Prop) : Prop :=
  vp_in x0 8 ∧ (vp_in x0 8 ∧ (((m 96 (Int32.toNatClampNeg x0)) = 0 → w_349_21 kc Φ (m 95 (Int32.toNatClampNeg x0)) (0 : Int32) m) ∧ (¬ (m 96 (Int32.toNatClampNeg x0)) = 0 → w_349_21 kc Φ (m 95 (Int32.toNatClampNeg x0)) (8 : Int32) m)))
/-- GrantBoardModel.process(II)I -/
def w_350_203 (kc : it_Kc) (Φ : Int32 → it_Me → Prop) (u0 : Int32) (m : it_Me) : Prop :=
  Φ u0 m
def w_350_224 (kc : it_Kc) (Φ : Int32 → it_Me → Prop) (u0 : Int32) (m : it_Me) : Prop :=
  Φ u0 m
def w_350 (kc : it_Kc) (x0 : Int32) (x1 : Int32) (m : it_Me) (Φ : Int32 → it_Me → Prop) : Prop :=
  ((m 66 3) = 0 → Φ (-3 : Int32) m) ∧ (¬ (m 66 3) = 0 → w_341 kc x0 m (fun r1 m2 => (r1 = 0 → Φ (-1 : Int32) m2) ∧ (¬ r1 = 0 → (x1 = (0 : Int32) → w_349 kc x0 m2 (fun r3 m4 => Φ r3 m4)) ∧ (¬ x1 = (0 : Int32) → (x1 = (1 : Int32) → vp_in x0 8 ∧ (Φ (m2 94 (Int32.toNatClampNeg x0)) m2)) ∧ (¬ x1 = (1 : Int32) → (x1 = (2 : Int32) → vp_in x0 8 ∧ (Φ (m2 79 (Int32.toNatClampNeg x0)) m2)) ∧ (¬ x1 = (2 : Int32) → (x1 = (3 : Int32) → vp_in x0 8 ∧ (vp_in x0 8 ∧ (Φ ((m2 80 (Int32.toNatClampNeg x0)) - (m2 79 (Int32.toNatClampNeg x0))) m2))) ∧ (¬ x1 = (3 : Int32) → (x1 = (4 : Int32) → vp_in x0 8 ∧ (Φ (m2 89 (Int32.toNatClampNeg x0)) m2)) ∧ (¬ x1 = (4 : Int32) → (x1 = (5 : Int32) → vp_in x0 8 ∧ (Φ (m2 90 (Int32.toNatClampNeg x0)) m2)) ∧ (¬ x1 = (5 : Int32) → (x1 = (6 : Int32) → vp_in x0 8 ∧ (Φ (m2 91 (Int32.toNatClampNeg x0)) m2)) ∧ (¬ x1 = (6 : Int32) → (x1 = (7 : Int32) → vp_in x0 8 ∧ (Φ (m2 92 (Int32.toNatClampNeg x0)) m2)) ∧ (¬ x1 = (7 : Int32) → (x1 = (8 : Int32) → vp_in x0 8 ∧ (Φ (m2 100 (Int32.toNatClampNeg x0)) m2)) ∧ (¬ x1 = (8 : Int32) → (x1 = (9 : Int32) → vp_in x0 8 ∧ (Φ (m2 110 (Int32.toNatClampNeg x0)) m2)) ∧ (¬ x1 = (9 : Int32) → (x1 = (10 : Int32) → w_348 kc x0 m2 (fun r5 m6 => Φ r5 m6)) ∧ (¬ x1 = (10 : Int32) → (x1 = (11 : Int32) → vp_in x0 8 ∧ (Φ (m2 101 (Int32.toNatClampNeg x0)) m2)) ∧ (¬ x1 = (11 : Int32) → (x1 = (12 : Int32) → ((m2 66 7) = (2 : Int32) → vp_in x0 8 ∧ (w_350_203 kc Φ (m2 106 (Int32.toNatClampNeg x0)) m2)) ∧ (¬ (m2 66 7) = (2 : Int32) → w_350_203 kc Φ (0 : Int32) m2)) ∧ (¬ x1 = (12 : Int32) → (x1 = (13 : Int32) → vp_in x0 8 ∧ (Φ (m2 83 (Int32.toNatClampNeg x0)) m2)) ∧ (¬ x1 = (13 : Int32) → (x1 = (14 : Int32) → ((m2 66 70) = x0 → w_350_224 kc Φ (1 : Int32) m2) ∧ (¬ (m2 66 70) = x0 → w_350_224 kc Φ (0 : Int32) m2)) ∧ (¬ x1 = (14 : Int32) → Φ (-2 : Int32) m2))))))))))))))))))
/-- GrantBoardModel.register(II)I -/
def w_351_43 (kc : it_Kc) (Φ : Int32 → it_Me → Prop) (u0 : Int32) (m : it_Me) : Prop :=
  Φ u0 m
def w_351_42 (kc : it_Kc) (Φ : Int32 → it_Me → Prop) (m : it_Me) : Prop :=
  w_351_43 kc Φ (-1 : Int32) m
def w_351 (kc : it_Kc) (x0 : Int32) (x1 : Int32) (m : it_Me) (Φ : Int32 → it_Me → Prop) : Prop :=
  ((m 66 3) = 0 → Φ (-3 : Int32) m) ∧ (¬ (m 66 3) = 0 → w_341 kc x0 m (fun r1 m2 => (r1 = 0 → w_351_42 kc Φ m2) ∧ (¬ r1 = 0 → (x1 < 0 → w_351_42 kc Φ m2) ∧ (¬ x1 < 0 → ((31 : Int32) < x1 → w_351_42 kc Φ m2) ∧ (¬ (31 : Int32) < x1 → vp_in (((32 : Int32) * x0) + x1) 256 ∧ (w_351_43 kc Φ (m2 93 (Int32.toNatClampNeg (((32 : Int32) * x0) + x1))) m2))))))
/-- GrantBoardModel.tellControl(I)V -/
def w_352 (kc : it_Kc) (x0 : Int32) (m : it_Me) (Φ : it_Me → Prop) : Prop :=
  w_252 kc x0 m (fun r1 m2 => w_221 kc r1 x0 m2 (fun m3 => vp_in x0 8 ∧ (w_221 kc (r1 + (4 : Int32)) (m3 79 (Int32.toNatClampNeg x0)) m3 (fun m4 => vp_in x0 8 ∧ (w_221 kc (r1 + (8 : Int32)) (m4 91 (Int32.toNatClampNeg x0)) m4 (fun m5 => vp_in x0 8 ∧ (w_221 kc (r1 + (12 : Int32)) (m5 92 (Int32.toNatClampNeg x0)) m5 (fun m6 => vp_in x0 8 ∧ (w_221 kc (r1 + (16 : Int32)) (m6 100 (Int32.toNatClampNeg x0)) m6 (fun m7 => vp_in x0 8 ∧ (w_221 kc (r1 + (20 : Int32)) (m7 110 (Int32.toNatClampNeg x0)) m7 (fun m8 => vp_in x0 8 ∧ (w_221 kc (r1 + (24 : Int32)) (m8 102 (Int32.toNatClampNeg x0)) m8 (fun m9 => vp_in x0 8 ∧ (w_221 kc (r1 + (28 : Int32)) (m9 103 (Int32.toNatClampNeg x0)) m9 (fun m10 => vp_in x0 8 ∧ (w_221 kc (r1 + (32 : Int32)) (m10 104 (Int32.toNatClampNeg x0)) m10 (fun m11 => w_349 kc x0 m11 (fun r12 m13 => w_221 kc (r1 + (36 : Int32)) r12 m13 (fun m14 => vp_in x0 8 ∧ (w_221 kc (r1 + (40 : Int32)) (m14 105 (Int32.toNatClampNeg x0)) m14 (fun m15 => Φ m15))))))))))))))))))))))
/-- GrantBoardModel.memory(I)I -/
def w_353_16 (kc : it_Kc) (Φ : Int32 → it_Me → Prop) (K35 : Int32 → it_Me → Prop) : Nat → Int32 → Int32 → it_Me → Prop
  | 0, _, _, _ => False
  | n16 + 1, v1, v2, m =>
  ((m 66 34) ≤ v2 → K35 v1 m) ∧ (¬ (m 66 34) ≤ v2 → w_352 kc v2 m (fun m1 => (w_353_16 kc Φ K35 n16) v1 (v2 + (1 : Int32)) m1))
def w_353_12 (kc : it_Kc) (Φ : Int32 → it_Me → Prop) (m : it_Me) : Prop :=
  Φ (-1 : Int32) m
def w_353_35 (kc : it_Kc) (Φ : Int32 → it_Me → Prop) (v1 : Int32) (m : it_Me) : Prop :=
  w_218 kc v1 m (fun r1 m2 => Φ r1 m2)
def w_353 (kc : it_Kc) (x0 : Int32) (m : it_Me) (Φ : Int32 → it_Me → Prop) : Prop :=
  (x0 < (65536 : Int32) → w_353_12 kc Φ m) ∧ (¬ x0 < (65536 : Int32) → (x0 < (196608 : Int32) → ∃ e, w_353_16 kc Φ (fun v1 m => w_353_35 kc Φ v1 m) e x0 (0 : Int32) m) ∧ (¬ x0 < (196608 : Int32) → w_353_12 kc Φ m))
/-- GrantBoardModel.upcall(III)I -/
def w_354_32 (kc : it_Kc) (Φ : Int32 → it_Me → Prop) (m : it_Me) : Prop :=
  Φ (-1 : Int32) m
def w_354_63 (kc : it_Kc) (Φ : Int32 → it_Me → Prop) (u0 : Int32) (m : it_Me) : Prop :=
  Φ u0 m
def w_354_43 (kc : it_Kc) (Φ : Int32 → it_Me → Prop) (m : it_Me) : Prop :=
  w_354_63 kc Φ (-2 : Int32) m
def w_354 (kc : it_Kc) (x0 : Int32) (x1 : Int32) (x2 : Int32) (m : it_Me) (Φ : Int32 → it_Me → Prop) : Prop :=
  ((m 66 3) = 0 → Φ (-3 : Int32) m) ∧ (¬ (m 66 3) = 0 → w_341 kc x0 m (fun r1 m2 => (r1 = 0 → w_354_32 kc Φ m2) ∧ (¬ r1 = 0 → (x1 < 0 → w_354_32 kc Φ m2) ∧ (¬ x1 < 0 → vp_in x0 8 ∧ ((x1 < (m2 110 (Int32.toNatClampNeg x0)) → (x2 < 0 → w_354_43 kc Φ m2) ∧ (¬ x2 < 0 → (x2 ≤ (4 : Int32) → vp_in ((((50 : Int32) * x0) + ((5 : Int32) * x1)) + x2) 400 ∧ (w_354_63 kc Φ (m2 109 (Int32.toNatClampNeg ((((50 : Int32) * x0) + ((5 : Int32) * x1)) + x2))) m2)) ∧ (¬ x2 ≤ (4 : Int32) → w_354_43 kc Φ m2))) ∧ (¬ x1 < (m2 110 (Int32.toNatClampNeg x0)) → w_354_32 kc Φ m2))))))
/-- GrantBoardModel.grant(II)I -/
def w_355_28 (kc : it_Kc) (Φ : Int32 → it_Me → Prop) (u0 : Int32) (m : it_Me) : Prop :=
  Φ u0 m
def w_355 (kc : it_Kc) (x0 : Int32) (x1 : Int32) (m : it_Me) (Φ : Int32 → it_Me → Prop) : Prop :=
  ((m 66 3) = 0 → Φ (-3 : Int32) m) ∧ (¬ (m 66 3) = 0 → w_341 kc x0 m (fun r1 m2 => (r1 = 0 → w_355_28 kc Φ (-1 : Int32) m2) ∧ (¬ r1 = 0 → w_272 kc x0 x1 m2 (fun r3 m4 => w_355_28 kc Φ r3 m4))))
/-- GrantBoardModel.out(I)I -/
def w_356_42 (kc : it_Kc) (Φ : Int32 → it_Me → Prop) (u0 : Int32) (m : it_Me) : Prop :=
  Φ u0 m
def w_356_28 (kc : it_Kc) (Φ : Int32 → it_Me → Prop) (m : it_Me) : Prop :=
  w_356_42 kc Φ (-1 : Int32) m
def w_356 (kc : it_Kc) (x0 : Int32) (m : it_Me) (Φ : Int32 → it_Me → Prop) : Prop :=
  (x0 < 0 → w_356_28 kc Φ m) ∧ (¬ x0 < 0 → ((4000 : Int32) ≤ x0 → w_356_28 kc Φ m) ∧ (¬ (4000 : Int32) ≤ x0 → vp_in (3 : Int32) 12 ∧ (((lg_cmp (Int32.toInt64 x0) ((Int32.toInt64 (m 69 (Int32.toNatClampNeg (3 : Int32)))) &&& (4294967295 : Int64))) < 0 → vp_in x0 4000 ∧ (w_356_42 kc Φ ((m 70 (Int32.toNatClampNeg x0)) &&& (255 : Int32)) m)) ∧ (¬ (lg_cmp (Int32.toInt64 x0) ((Int32.toInt64 (m 69 (Int32.toNatClampNeg (3 : Int32)))) &&& (4294967295 : Int64))) < 0 → w_356_28 kc Φ m))))
/-- GrantBoardModel.lamp(I)I -/
def w_357_27 (kc : it_Kc) (Φ : Int32 → it_Me → Prop) (u0 : Int32) (m : it_Me) : Prop :=
  Φ u0 m
def w_357_9 (kc : it_Kc) (Φ : Int32 → it_Me → Prop) (m : it_Me) : Prop :=
  w_357_27 kc Φ (-1 : Int32) m
def w_357 (kc : it_Kc) (x0 : Int32) (m : it_Me) (Φ : Int32 → it_Me → Prop) : Prop :=
  (x0 < 0 → w_357_9 kc Φ m) ∧ (¬ x0 < 0 → (x0 ≤ (3 : Int32) → vp_in x0 4 ∧ (((m 71 (Int32.toNatClampNeg x0)) = 0 → w_357_27 kc Φ (0 : Int32) m) ∧ (¬ (m 71 (Int32.toNatClampNeg x0)) = 0 → w_357_27 kc Φ (1 : Int32) m))) ∧ (¬ x0 ≤ (3 : Int32) → w_357_9 kc Φ m))
/-- GrantBoardModel.event(II)I -/
def w_358_29 (kc : it_Kc) (Φ : Int32 → it_Me → Prop) (m : it_Me) : Prop :=
  Φ (-1 : Int32) m
def w_358_40 (kc : it_Kc) (Φ : Int32 → it_Me → Prop) (m : it_Me) : Prop :=
  Φ (-2 : Int32) m
def w_358 (kc : it_Kc) (x0 : Int32) (x1 : Int32) (m : it_Me) (Φ : Int32 → it_Me → Prop) : Prop :=
  (x0 < 0 → w_358_29 kc Φ m) ∧ (¬ x0 < 0 → ((200 : Int32) ≤ x0 → w_358_29 kc Φ m) ∧ (¬ (200 : Int32) ≤ x0 → vp_in (11 : Int32) 12 ∧ (((lg_cmp (Int32.toInt64 x0) ((Int32.toInt64 (m 69 (Int32.toNatClampNeg (11 : Int32)))) &&& (4294967295 : Int64))) < 0 → (x1 < 0 → w_358_40 kc Φ m) ∧ (¬ x1 < 0 → (x1 ≤ (3 : Int32) → vp_in (11 : Int32) 12 ∧ (¬ (200 : Int64) = 0 ∧ (vp_in (((4 : Int32) * (Int64.toInt32 (it_lrem ((Int32.toInt64 (((m 69 (Int32.toNatClampNeg (11 : Int32))) - (1 : Int32)) - x0)) &&& (4294967295 : Int64)) (200 : Int64)))) + x1) 800 ∧ (Φ (m 74 (Int32.toNatClampNeg (((4 : Int32) * (Int64.toInt32 (it_lrem ((Int32.toInt64 (((m 69 (Int32.toNatClampNeg (11 : Int32))) - (1 : Int32)) - x0)) &&& (4294967295 : Int64)) (200 : Int64)))) + x1))) m)))) ∧ (¬ x1 ≤ (3 : Int32) → w_358_40 kc Φ m))) ∧ (¬ (lg_cmp (Int32.toInt64 x0) ((Int32.toInt64 (m 69 (Int32.toNatClampNeg (11 : Int32)))) &&& (4294967295 : Int64))) < 0 → w_358_29 kc Φ m))))
/-- GrantBoardModel.audit()I -/
def w_359 (kc : it_Kc) (m : it_Me) (Φ : Int32 → it_Me → Prop) : Prop :=
  Φ (0 : Int32) m
