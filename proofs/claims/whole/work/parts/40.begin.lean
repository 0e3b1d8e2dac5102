/-! STARTING: start and begin. -/
theorem and_m4N (n k : Nat) (h : n < 2 ^ k) (hk : 2 ≤ k) : n &&& ((2 ^ (k - 2) - 1) <<< 2) = n / 4 * 4 := by
  apply Nat.eq_of_testBit_eq
  intro i
  rw [Nat.testBit_and, Nat.testBit_shiftLeft, Nat.testBit_two_pow_sub_one, show n / 4 * 4 = (n >>> 2) <<< 2 by rw [Nat.shiftRight_eq_div_pow, Nat.shiftLeft_eq], Nat.testBit_shiftLeft, Nat.testBit_shiftRight]
  by_cases hi : 2 ≤ i
  · rw [show 2 + (i - 2) = i by omega]
    by_cases h2 : i - 2 < k - 2
    · simp [hi, h2]
    · have : n.testBit i = false := Nat.testBit_lt_two_pow (Nat.lt_of_lt_of_le h (Nat.pow_le_pow_right (by omega) (by omega)))
      simp [this]
  · simp [hi]
theorem and_m4 (y : Int32) : (y &&& -4).toInt = y.toInt / 4 * 4 := by
  have h1 := toNatI (y &&& -4)
  have h2 := toNatI y
  have e : (y &&& -4).toBitVec.toNat = y.toBitVec.toNat / 4 * 4 := by
    rw [Int32.toBitVec_and, BitVec.toNat_and, show (Int32.toBitVec (-4)).toNat = (2 ^ (32 - 2) - 1) <<< 2 by decide]
    exact and_m4N _ 32 y.toBitVec.isLt (by omega)
  rw [e] at h1
  have := tlo y
  have := thi y
  have := tlo (y &&& -4)
  have := thi (y &&& -4)
  omega
theorem and_m2 (y : Int32) : (y &&& -2).toInt % 2 = 0 := by
  have h1 := and1 (y &&& -2)
  rw [Int32.and_assoc, show (-2 : Int32) &&& 1 = 0 by decide, Int32.and_zero] at h1
  have z0 : (0 : Int32).toInt = 0 := rfl
  omega
theorem rup {x : Int32} (h0 : 0 ≤ x.toInt) (h1 : x.toInt ≤ 100000) : ((x + 3) &&& -4).toInt = (x.toInt + 3) / 4 * 4 := by
  rw [and_m4, Int32.toInt_add]
  show Int.bmod (x.toInt + 3) (2 ^ 32) / 4 * 4 = _
  rw [bmI' (by omega) (by omega)]
theorem rdv {x : Int32} (h0 : 0 ≤ x.toInt) (h1 : x.toInt ≤ 100000) : ((x + 3) / 4 * 4).toInt = (x.toInt + 3) / 4 * 4 := by
  have e3 : (x + 3).toInt = x.toInt + 3 := by rw [Int32.toInt_add]; show Int.bmod (x.toInt + 3) (2 ^ 32) = _; rw [bmI' (by omega) (by omega)]
  have e4 : ((x + 3) / 4).toInt = (x.toInt + 3) / 4 := by
    rw [Int32.toInt_div, e3]
    show Int.bmod ((x.toInt + 3).tdiv 4) (2 ^ 32) = _
    rw [Int.tdiv_eq_ediv_of_nonneg (by omega), bmI' (by omega) (by omega)]
  rw [Int32.toInt_mul, e4]
  show Int.bmod ((x.toInt + 3) / 4 * 4) (2 ^ 32) = _
  rw [bmI' (by omega) (by omega)]
theorem rup_rdv {x : Int32} (h0 : 0 ≤ x.toInt) (h1 : x.toInt ≤ 100000) : (x + 3) / 4 * 4 = (x + 3) &&& -4 := Int32.toInt_inj.mp (by rw [rup h0 h1, rdv h0 h1])
theorem alen2 {i : Nat} (h : i < 8) : it_alen (14 + 5 * i + 2) = 32 := (by decide +kernel : ∀ i, i < 8 → it_alen (14 + 5 * i + 2) = 32) i h
theorem alen4 {i : Nat} (h : i < 8) : it_alen (14 + 5 * i + 4) = 9 := (by decide +kernel : ∀ i, i < 8 → it_alen (14 + 5 * i + 4) = 9) i h
def brkOf (m : it_Me) (i : Nat) : Int32 := m (14 + 5 * i) 5 + ((m (14 + 5 * i + 1) 5 + 3) &&& -4)
def pcOf (m : it_Me) (i : Nat) : Int32 := (m (14 + 5 * i + 1) 1 + m (14 + 5 * i + 1) 2 + m (14 + 5 * i + 1) 4) &&& -2
def st1 (m : it_Me) (i : Nat) : it_Me := it_fil m 2 (wi (m (14 + 5 * i) 5)) (wi (m (14 + 5 * i) 5) + (m (14 + 5 * i) 6 - 64).toInt.toNat / 4) 0
def st2 (m : it_Me) (i : Nat) : it_Me := it_sv (it_sv (it_fil (it_sv (it_sv (st1 m i) (14 + 5 * i) 7 (brkOf m i)) (14 + 5 * i) 8 (ctl m i)) (14 + 5 * i + 4) 0 9 0) (14 + 5 * i) 18 0) (14 + 5 * i) 14 0
def st3 (m : it_Me) (i : Nat) : it_Me := it_sv (it_sv (it_sv (it_sv (it_sv (it_fil (st2 m i) (14 + 5 * i + 2) 0 32 0) (14 + 5 * i + 2) 2 (brkOf m i)) (14 + 5 * i + 2) 10 (m (14 + 5 * i + 1) 1 + m (14 + 5 * i + 1) 2)) (14 + 5 * i + 2) 11 (m (14 + 5 * i) 5)) (14 + 5 * i + 2) 12 (m (14 + 5 * i) 6)) (14 + 5 * i + 2) 13 (brkOf m i)
def stC (m : it_Me) (i : Nat) : it_Me := it_sv (it_sv (it_sv (it_sv (st3 m i) (14 + 5 * i) 3 (pcOf m i)) (14 + 5 * i) 4 1) (14 + 5 * i) 9 1) (14 + 5 * i) 11 0
theorem st_c (m : it_Me) (i : Nat) {k : Nat} (h : k ≠ 2 ∧ k ≠ 14 + 5 * i ∧ k ≠ 14 + 5 * i + 2 ∧ k ≠ 14 + 5 * i + 4) : stC m i k = m k := by
  unfold stC st3 st2 st1
  repeat (first | rw [sv_cell _ _ _ _ (by omega)] | rw [fil_cell _ _ _ _ _ (by omega)])
theorem st_2 (m : it_Me) (i : Nat) (w : Nat) : stC m i 2 w = if wi (m (14 + 5 * i) 5) ≤ w ∧ w < wi (m (14 + 5 * i) 5) + (m (14 + 5 * i) 6 - 64).toInt.toNat / 4 then 0 else m 2 w := by
  unfold stC st3 st2
  simp (disch := omega) only [sv_n1, fil_n1]
  unfold st1
  rw [fil_rd]
theorem st_G (m : it_Me) (i : Nat) {d : Nat} (h : d < 9) : stC m i (14 + 5 * i + 4) d = 0 := by
  unfold stC st3 st2
  simp (disch := omega) only [sv_n1, fil_n1]
  rw [fil_rd, if_pos ⟨by omega, h⟩]
theorem st_P (m : it_Me) (i : Nat) {c : Nat} (h : c ≠ 7 ∧ c ≠ 8 ∧ c ≠ 18 ∧ c ≠ 14 ∧ c ≠ 3 ∧ c ≠ 4 ∧ c ≠ 9 ∧ c ≠ 11) : stC m i (14 + 5 * i) c = m (14 + 5 * i) c := by
  unfold stC st3 st2 st1
  simp (disch := omega) only [sv_n1, sv_n2, fil_n1]
theorem st_P7 (m : it_Me) (i : Nat) : stC m i (14 + 5 * i) 7 = brkOf m i := by
  unfold stC st3 st2
  simp (disch := omega) only [sv_n1, sv_n2, fil_n1, sv_same]
theorem st_P8 (m : it_Me) (i : Nat) : stC m i (14 + 5 * i) 8 = ctl m i := by
  unfold stC st3 st2
  simp (disch := omega) only [sv_n1, sv_n2, fil_n1, sv_same]
theorem st_P18 (m : it_Me) (i : Nat) : stC m i (14 + 5 * i) 18 = 0 := by
  unfold stC st3 st2
  simp (disch := omega) only [sv_n1, sv_n2, fil_n1, sv_same]
theorem st_P14 (m : it_Me) (i : Nat) : stC m i (14 + 5 * i) 14 = 0 := by
  unfold stC st3 st2
  simp (disch := omega) only [sv_n1, sv_n2, fil_n1, sv_same]
theorem st_P3 (m : it_Me) (i : Nat) : stC m i (14 + 5 * i) 3 = pcOf m i := by
  unfold stC
  simp (disch := omega) only [sv_n1, sv_n2, fil_n1, sv_same]
theorem st_P4 (m : it_Me) (i : Nat) : stC m i (14 + 5 * i) 4 = 1 := by
  unfold stC
  simp (disch := omega) only [sv_n1, sv_n2, fil_n1, sv_same]
theorem st_P9 (m : it_Me) (i : Nat) : stC m i (14 + 5 * i) 9 = 1 := by
  unfold stC
  simp (disch := omega) only [sv_n1, sv_n2, fil_n1, sv_same]
theorem st_P11 (m : it_Me) (i : Nat) : stC m i (14 + 5 * i) 11 = 0 := by
  unfold stC
  simp (disch := omega) only [sv_n1, sv_n2, fil_n1, sv_same]
def rgv (b h s e : Int32) (r : Nat) : Int32 := if r = 13 then b else if r = 12 then e else if r = 11 then s else if r = 10 then h else if r = 2 then b else 0
theorem st_R (m : it_Me) (i : Nat) {r : Nat} (hr : r < 32) : stC m i (14 + 5 * i + 2) r = rgv (brkOf m i) (m (14 + 5 * i + 1) 1 + m (14 + 5 * i + 1) 2) (m (14 + 5 * i) 5) (m (14 + 5 * i) 6) r := by
  unfold stC st3
  simp (disch := omega) only [sv_n1]
  simp only [sv_rd, fil_rd, true_and]
  unfold rgv
  rw [if_pos (show 0 ≤ r ∧ r < 32 from ⟨by omega, hr⟩)]
theorem c_75 {kc : it_Kc} {i : Nat} (i8 : i < 8) {m : it_Me} (hb : 131072 ≤ (m (14 + 5 * i) 5).toInt ∧ (m (14 + 5 * i) 5).toInt + (m (14 + 5 * i) 6).toInt ≤ 196608 ∧ 1024 ≤ (m (14 + 5 * i) 6).toInt ∧ (m (14 + 5 * i) 6).toInt % 4 = 0) {Φ : it_Me → Prop} (h : Φ (stC m i)) : w_75 kc (14 + 5 * i) m Φ := by
  have e : (m (14 + 5 * i) 6 - 64).toInt = (m (14 + 5 * i) 6).toInt - 64 := by
    rw [Int32.toInt_sub]
    show Int.bmod (_ - 64) (2 ^ 32) = _
    rw [bmI' (by omega) (by omega)]
  unfold w_75
  refine c_18 ⟨by omega, by omega⟩ (by omega) (by omega) (by omega) ?_
  unfold w_128 w_216 w_129 w_361
  rw [alen2 i8, alen4 i8]
  refine ⟨v32_2, v32_10, v32_11, v32_12, v32_13, v32_10, ?_⟩
  unfold stC st3 st2 st1 brkOf pcOf ctl at h
  simp (disch := omega) only [sv_n1, sv_n2, fil_n1, sv_same, cl_2, cl_10, cl_11, cl_12, cl_13]
  exact h
/-- what STARTING keeps of a process -/
def PI0 (m : it_Me) (i : Nat) : Prop := PIc m i 0 ∧ PIc m i 2 ∧ PIc m i 3 ∧ PIc m i 4 ∧ PIc m i 6 ∧ PIc m i 14 ∧ PIc m i 15 ∧ PIc m i 16 ∧ PIc m i 17
theorem PI.to0 {m : it_Me} {i : Nat} (h : PI m i) : PI0 m i := ⟨h 0, h 2, h 3, h 4, h 6, h 14, h 15, h 16, h 17⟩
theorem blk_I {m : it_Me} {i : Nat} (h : PIc m i 0) : 1024 ≤ (m (14 + 5 * i) 6).toInt ∧ (m (14 + 5 * i) 6).toInt ≤ 16384 ∧ (m (14 + 5 * i) 5).toInt % 1024 = 0 ∧ (m (14 + 5 * i) 6).toInt % 1024 = 0 ∧ 131072 ≤ (m (14 + 5 * i) 5).toInt ∧ (m (14 + 5 * i) 5).toInt + (m (14 + 5 * i) 6).toInt ≤ 196608 ∧ (ctl m i).toInt = (m (14 + 5 * i) 5).toInt + (m (14 + 5 * i) 6).toInt - 64 ∧ (m (14 + 5 * i) 6 - 64).toInt = (m (14 + 5 * i) 6).toInt - 64 := by
  have hb : 131072 ≤ (m (14 + 5 * i) 5).toInt ∧ (m (14 + 5 * i) 5).toInt + (m (14 + 5 * i) 6).toInt ≤ 196608 ∧ (m (14 + 5 * i) 6).toInt ∈ ([1024, 2048, 4096, 8192, 16384] : List Int) ∧ (m (14 + 5 * i) 5).toInt % (m (14 + 5 * i) 6).toInt = 0 := h
  simp only [List.mem_cons, List.not_mem_nil, or_false] at hb
  obtain ⟨h1, h2, h3, h4⟩ := hb
  have e1 : (ctl m i).toInt = (m (14 + 5 * i) 5).toInt + (m (14 + 5 * i) 6).toInt - 64 := by
    unfold ctl
    rw [Int32.toInt_sub, Int32.toInt_add]
    simp only [Int32.reduceToInt, bm32]
    omega
  have e2 : (m (14 + 5 * i) 6 - 64).toInt = (m (14 + 5 * i) 6).toInt - 64 := by
    rw [Int32.toInt_sub]
    simp only [Int32.reduceToInt, bm32]
    omega
  rcases h3 with e | e | e | e | e <;> rw [e] at h4 h2 e1 e2 ⊢ <;> omega
theorem st_PI {m : it_Me} {i : Nat} (h : PI0 m i) : PI (stC m i) i := by
  obtain ⟨h0, h2, h3, h4, h6, h14, h15, h16, h17⟩ := h
  have b := blk_I h0
  have hram : 0 ≤ (m (14 + 5 * i + 1) 5).toInt ∧ (m (14 + 5 * i + 1) 5).toInt + 512 ≤ (m (14 + 5 * i) 6).toInt := h4
  have ru := rup (x := m (14 + 5 * i + 1) 5) hram.1 (by omega)
  have eb : (brkOf m i).toInt = (m (14 + 5 * i) 5).toInt + ((m (14 + 5 * i + 1) 5).toInt + 3) / 4 * 4 := by
    unfold brkOf
    rw [add_I] <;> rw [ru] <;> omega
  have c1 : stC m i (14 + 5 * i + 1) = m (14 + 5 * i + 1) := st_c _ _ (by omega)
  have p5 := st_P m i (c := 5) (by omega)
  have p6 := st_P m i (c := 6) (by omega)
  have hct : ctl (stC m i) i = ctl m i := by unfold ctl; rw [p5, p6]
  have hbM : InM (m (14 + 5 * i) 5) := ⟨by omega, by omega⟩
  have hw := wi_eq hbM
  have g2 : ∀ a : Int32, a.toInt < (m (14 + 5 * i) 5).toInt ∨ (ctl m i).toInt ≤ a.toInt → a.toInt % 4 = 0 ∨ a.toInt < 131072 → gw (stC m i) a = gw m a := fun a ha h4' => gw_w (fun hA => by
    have := wi_eq hA
    rw [st_2, if_neg (by omega)])
  refine PI.mk ?_ ?_ ?_ ?_ ?_ ?_ ?_ ?_ ?_ ?_ ?_ ?_ ?_ ?_ ?_ ?_ ?_ ?_ ?_ ?_ ?_
  · rw [p5, p6]; exact h0
  · rw [p5, st_P7, st_P8, hct, eb]
    omega
  · rw [c1]; exact h2
  · have ha : 65536 ≤ (m (14 + 5 * i + 1) 1).toInt ∧ (m (14 + 5 * i + 1) 1).toInt % 4 = 0 ∧ (m (14 + 5 * i + 1) 3).toInt % 4 = 0 ∧ 16 ≤ (m (14 + 5 * i + 1) 2).toInt ∧ (m (14 + 5 * i + 1) 2).toInt ≤ 512 ∧ (m (14 + 5 * i + 1) 2).toInt % 4 = 0 ∧ (m (14 + 5 * i + 1) 2).toInt ≤ (m (14 + 5 * i + 1) 3).toInt ∧ (m (14 + 5 * i + 1) 1).toInt + (m (14 + 5 * i + 1) 3).toInt ≤ 126976 := h2
    have hh : m (14 + 5 * i + 1) 2 = gh m (m (14 + 5 * i + 1) 1 + 2) := h3
    have ea : (m (14 + 5 * i + 1) 1 + 2).toInt = (m (14 + 5 * i + 1) 1).toInt + 2 := adI (k := 2) (by omega) (by omega) (by omega)
    have hA : InM (m (14 + 5 * i + 1) 1 + 2) := ⟨by omega, by omega⟩
    have := wi_eq hA
    rw [c1]
    rw [gh_in hA] at hh ⊢
    rw [st_2, if_neg (by omega)]
    exact hh
  · rw [p6, c1]; exact h4
  · rw [st_P9]; decide
  · rw [st_P _ _ (by omega)]; exact h6
  · rw [st_P14]; decide
  · intro k hk
    rw [st_P14] at hk
    simp only [Int32.reduceToInt] at hk
    omega
  · refine ⟨[], ?_, List.nodup_nil, fun d hd _ => st_G m i hd, ?_⟩
    · show stC m i (14 + 5 * i) 8 = ctl (stC m i) i
      rw [st_P8, hct]
    · rw [st_P18]; rfl
  · intro d hd hg
    exact absurd (st_G m i hd) hg
  · intro hg
    exact absurd (st_G m i (by omega)) hg
  · intro hg
    exact absurd (st_G m i (by omega)) hg
  · intro q
    rw [st_P9] at q
    exact absurd q (by decide)
  · rw [c1]; exact h14
  · rw [c1]; exact h15
  · rw [c1]; exact h16
  · intro k hk
    have ek := adI (a := ctl m i) (k := 44 + 4 * k) (by omega) (by omega) (by omega)
    rw [hct, g2 _ (Or.inr (by omega)) (Or.inl (by omega))]
    exact h17 k hk
  · rw [st_P3]; exact and_m2 _
  · intro d hd hg
    exact absurd (st_G m i hd) hg
  · rw [st_R _ _ (by omega)]; rfl
theorem st_I {B : Nat} {m : it_Me} (hI : Inv B m) {i : Nat} (hi : i < cnt m) : Inv B (stC m i) := by
  have h8 := cnt_le hI
  have ho := on_of hI hi
  have hP := hI.p hi
  have b := blk_I (hP 0)
  have hbM : InM (m (14 + 5 * i) 5) := ⟨by omega, by omega⟩
  have hw := wi_eq hbM
  have c0 : stC m i 0 = m 0 := st_c _ _ (by omega)
  have c9 : stC m i 9 = m 9 := st_c _ _ (by omega)
  have c62 : stC m i 62 = m 62 := st_c _ _ (by omega)
  have c63 : stC m i 63 = m 63 := st_c _ _ (by omega)
  have c59 : stC m i 59 = m 59 := st_c _ _ (by omega)
  have ecn : cnt (stC m i) = cnt m := cnt_cg (by rw [c9])
  have hm : ∀ k, (k ≠ 2 ∧ k ≠ 14 + 5 * i ∧ k ≠ 14 + 5 * i + 2 ∧ k ≠ 14 + 5 * i + 4) → stC m i k = m k := fun k h => st_c _ _ h
  have far : ∀ j, j < cnt m → j ≠ i → ∀ w : Nat, w < 16384 ∨ ((m (14 + 5 * j) 5).toInt ≤ 65536 + 4 * (w : Int) ∧ 65536 + 4 * (w : Int) < (m (14 + 5 * j) 5).toInt + (m (14 + 5 * j) 6).toInt) → stC m i 2 w = m 2 w := fun j hj hne w h => by
    rw [st_2, if_neg]
    intro q
    have b' := blk_I ((hI.p hj) 0)
    rcases Nat.lt_or_gt_of_ne hne with h' | h'
    · have := hI.dis ho j i hi h'
      omega
    · have := hI.dis ho i j hj h'
      omega
  have und : ∀ j, j < cnt m → j ≠ i → ∀ k, k = 64 ∨ k = 72 → m (14 + 5 * j + 4) 1 ≠ 0 → gw (stC m i) (m (14 + 5 * j + 4) 1 + nI k) = gw m (m (14 + 5 * j + 4) 1 + nI k) := fun j hj hne k hk hg1 => gw_w (fun ha => by
    have g' := (hI.p hj).gI (d := 1) (by omega) hg1
    have l' := (hI.p hj).low0
    have o' := (hI.p hj).ord
    have b' := blk_I ((hI.p hj) 0)
    have e := adI (a := m (14 + 5 * j + 4) 1) (k := k) (by omega) (by omega) (by omega)
    have z : gsz 1 = 80 := by decide
    have := wi_eq ha
    exact far j hj hne _ (Or.inr (by omega)))
  have g4 : ∀ j, j < cnt m → j ≠ i → stC m i (14 + 5 * j + 4) = m (14 + 5 * j + 4) := fun j hj hne => hm _ (by omega)
  exact (Inv.upd (hI) (Nat.le_refl B) ([2, 14 + 5 * i, 14 + 5 * i + 2, 14 + 5 * i + 4]) (fun k hk => by simp only [List.mem_cons, List.not_mem_nil, or_false, not_or] at hk; exact hm k hk) (by first | (refine Or.inl (And.intro ?_ ?_) <;> first | (simp only [List.mem_cons, List.not_mem_nil, or_false, forall_eq_or_imp, forall_eq, false_implies, implies_true, and_true] <;> omega) | (repeat' (first | exact True.intro | rfl | refine And.intro ?_ ?_ | (rw [sv_ne _ _ _ _ (by omega)]) | (rw [up_cell _ _ _ (by omega)]) | (rw [fil_cell _ _ _ _ _ (by omega)]) | (rw [hM _ (by omega)]) | (rw [hm _ (by omega)])))) | (have t_ := Inv.tl (hI); exact Or.inr t_)) (by first | (refine Or.inl (And.intro ?_ ?_) <;> first | (simp only [List.mem_cons, List.not_mem_nil, or_false, forall_eq_or_imp, forall_eq, false_implies, implies_true, and_true] <;> omega) | (repeat' (first | exact True.intro | rfl | refine And.intro ?_ ?_ | (rw [sv_ne _ _ _ _ (by omega)]) | (rw [up_cell _ _ _ (by omega)]) | (rw [fil_cell _ _ _ _ _ (by omega)]) | (rw [hM _ (by omega)]) | (rw [hm _ (by omega)])))) | (have t_ := Inv.tp (hI); exact Or.inr t_)) (by first | (refine Or.inl (And.intro ?_ ?_) <;> first | (simp only [List.mem_cons, List.not_mem_nil, or_false, forall_eq_or_imp, forall_eq, false_implies, implies_true, and_true] <;> omega) | (repeat' (first | exact True.intro | rfl | refine And.intro ?_ ?_ | (rw [sv_ne _ _ _ _ (by omega)]) | (rw [up_cell _ _ _ (by omega)]) | (rw [fil_cell _ _ _ _ _ (by omega)]) | (rw [hM _ (by omega)]) | (rw [hm _ (by omega)])))) | (have t_ := Inv.on (hI); exact Or.inr t_)) (Or.inr (by
    intro q
    exfalso
    rw [c0, ho] at q
    exact absurd q (by decide))) (by first | (refine Or.inl (And.intro ?_ ?_) <;> first | (simp only [List.mem_cons, List.not_mem_nil, or_false, forall_eq_or_imp, forall_eq, false_implies, implies_true, and_true] <;> omega) | (repeat' (first | exact True.intro | rfl | refine And.intro ?_ ?_ | (rw [sv_ne _ _ _ _ (by omega)]) | (rw [up_cell _ _ _ (by omega)]) | (rw [fil_cell _ _ _ _ _ (by omega)]) | (rw [hM _ (by omega)]) | (rw [hm _ (by omega)])))) | (have t_ := Inv.cn (hI); exact Or.inr t_)) (by first | (refine Or.inl (And.intro ?_ ?_) <;> first | (simp only [List.mem_cons, List.not_mem_nil, or_false, forall_eq_or_imp, forall_eq, false_implies, implies_true, and_true] <;> omega) | (repeat' (first | exact True.intro | rfl | refine And.intro ?_ ?_ | (rw [sv_ne _ _ _ _ (by omega)]) | (rw [up_cell _ _ _ (by omega)]) | (rw [fil_cell _ _ _ _ _ (by omega)]) | (rw [hM _ (by omega)]) | (rw [hm _ (by omega)])))) | (have t_ := Inv.ev (hI); exact Or.inr t_)) (by first | (refine Or.inl (And.intro ?_ ?_) <;> first | (simp only [List.mem_cons, List.not_mem_nil, or_false, forall_eq_or_imp, forall_eq, false_implies, implies_true, and_true] <;> omega) | (repeat' (first | exact True.intro | rfl | refine And.intro ?_ ?_ | (rw [sv_ne _ _ _ _ (by omega)]) | (rw [up_cell _ _ _ (by omega)]) | (rw [fil_cell _ _ _ _ _ (by omega)]) | (rw [hM _ (by omega)]) | (rw [hm _ (by omega)])))) | (have t_ := Inv.out (hI); exact Or.inr t_)) (Or.inr (by
    intro j hj
    by_cases e : j = i
    · subst e; rw [st_P _ _ (by omega)]; exact hI.num j hj
    · rw [hm _ (by omega)]; exact hI.num j hj)) (by first | (refine Or.inl (And.intro ?_ ?_) <;> first | (simp only [List.mem_cons, List.not_mem_nil, or_false, forall_eq_or_imp, forall_eq, false_implies, implies_true, and_true] <;> omega) | (repeat' (first | exact True.intro | rfl | refine And.intro ?_ ?_ | (rw [sv_ne _ _ _ _ (by omega)]) | (rw [up_cell _ _ _ (by omega)]) | (rw [fil_cell _ _ _ _ _ (by omega)]) | (rw [hM _ (by omega)]) | (rw [hm _ (by omega)])))) | (have t_ := Inv.crc (hI); exact Or.inr t_)) (by first | (refine Or.inl (And.intro ?_ ?_) <;> first | (simp only [List.mem_cons, List.not_mem_nil, or_false, forall_eq_or_imp, forall_eq, false_implies, implies_true, and_true] <;> omega) | (repeat' (first | exact True.intro | rfl | refine And.intro ?_ ?_ | (rw [sv_ne _ _ _ _ (by omega)]) | (rw [up_cell _ _ _ (by omega)]) | (rw [fil_cell _ _ _ _ _ (by omega)]) | (rw [hM _ (by omega)]) | (rw [hm _ (by omega)])))) | (have t_ := Inv.bk (hI); exact Or.inr t_)) (by first | (refine Or.inl (And.intro ?_ ?_) <;> first | (simp only [List.mem_cons, List.not_mem_nil, or_false, forall_eq_or_imp, forall_eq, false_implies, implies_true, and_true] <;> omega) | (repeat' (first | exact True.intro | rfl | refine And.intro ?_ ?_ | (rw [sv_ne _ _ _ _ (by omega)]) | (rw [up_cell _ _ _ (by omega)]) | (rw [fil_cell _ _ _ _ _ (by omega)]) | (rw [hM _ (by omega)]) | (rw [hm _ (by omega)])))) | (have t_ := Inv.bk1 (hI); exact Or.inr t_)) (by first | (refine Or.inl (And.intro ?_ ?_) <;> first | (simp only [List.mem_cons, List.not_mem_nil, or_false, forall_eq_or_imp, forall_eq, false_implies, implies_true, and_true] <;> omega) | (repeat' (first | exact True.intro | rfl | refine And.intro ?_ ?_ | (rw [sv_ne _ _ _ _ (by omega)]) | (rw [up_cell _ _ _ (by omega)]) | (rw [fil_cell _ _ _ _ _ (by omega)]) | (rw [hM _ (by omega)]) | (rw [hm _ (by omega)])))) | (have t_ := Inv.pw (hI); exact Or.inr t_)) (by first | (refine Or.inl (And.intro ?_ ?_) <;> first | (simp only [List.mem_cons, List.not_mem_nil, or_false, forall_eq_or_imp, forall_eq, false_implies, implies_true, and_true] <;> omega) | (repeat' (first | exact True.intro | rfl | refine And.intro ?_ ?_ | (rw [sv_ne _ _ _ _ (by omega)]) | (rw [up_cell _ _ _ (by omega)]) | (rw [fil_cell _ _ _ _ _ (by omega)]) | (rw [hM _ (by omega)]) | (rw [hm _ (by omega)])))) | (have t_ := Inv.kd (hI); exact Or.inr t_)) (by first | (refine Or.inl (And.intro ?_ ?_) <;> first | (simp only [List.mem_cons, List.not_mem_nil, or_false, forall_eq_or_imp, forall_eq, false_implies, implies_true, and_true] <;> omega) | (repeat' (first | exact True.intro | rfl | refine And.intro ?_ ?_ | (rw [sv_ne _ _ _ _ (by omega)]) | (rw [up_cell _ _ _ (by omega)]) | (rw [fil_cell _ _ _ _ _ (by omega)]) | (rw [hM _ (by omega)]) | (rw [hm _ (by omega)])))) | (have t_ := Inv.tn (hI); exact Or.inr t_)) (by first | (refine Or.inl (And.intro ?_ ?_) <;> first | (simp only [List.mem_cons, List.not_mem_nil, or_false, forall_eq_or_imp, forall_eq, false_implies, implies_true, and_true] <;> omega) | (repeat' (first | exact True.intro | rfl | refine And.intro ?_ ?_ | (rw [sv_ne _ _ _ _ (by omega)]) | (rw [up_cell _ _ _ (by omega)]) | (rw [fil_cell _ _ _ _ _ (by omega)]) | (rw [hM _ (by omega)]) | (rw [hm _ (by omega)])))) | (have t_ := Inv.ask (hI); exact Or.inr t_)) (Or.inr (by
    intro _ j hj hu
    rw [ecn] at hj
    rw [c62, c59]
    unfold undW at hu
    by_cases e : j = i
    · subst e; exact absurd (st_G m j (by omega)) hu.1
    · rw [g4 j hj e] at hu
      have := und j hj e 64 (Or.inl rfl) hu.1
      refine hI.askW ho j hj ⟨hu.1, ?_⟩
      rw [show m (14 + 5 * j + 4) 1 + 64 = m (14 + 5 * j + 4) 1 + nI 64 from rfl, ← this]
      exact hu.2)) (Or.inr (by
    intro _ j hj hu
    rw [ecn] at hj
    rw [c63, c59]
    unfold undR at hu
    by_cases e : j = i
    · subst e; exact absurd (st_G m j (by omega)) hu.1
    · rw [g4 j hj e] at hu
      have := und j hj e 72 (Or.inr rfl) hu.1
      refine hI.askR ho j hj ⟨hu.1, ?_⟩
      rw [show m (14 + 5 * j + 4) 1 + 72 = m (14 + 5 * j + 4) 1 + nI 72 from rfl, ← this]
      exact hu.2)) (by first | (refine Or.inl (And.intro ?_ ?_) <;> first | (simp only [List.mem_cons, List.not_mem_nil, or_false, forall_eq_or_imp, forall_eq, false_implies, implies_true, and_true] <;> omega) | (repeat' (first | exact True.intro | rfl | refine And.intro ?_ ?_ | (rw [sv_ne _ _ _ _ (by omega)]) | (rw [up_cell _ _ _ (by omega)]) | (rw [fil_cell _ _ _ _ _ (by omega)]) | (rw [hM _ (by omega)]) | (rw [hm _ (by omega)])))) | (have t_ := Inv.lv0 (hI); exact Or.inr t_)) (by first | (refine Or.inl (And.intro ?_ ?_) <;> first | (simp only [List.mem_cons, List.not_mem_nil, or_false, forall_eq_or_imp, forall_eq, false_implies, implies_true, and_true] <;> omega) | (repeat' (first | exact True.intro | rfl | refine And.intro ?_ ?_ | (rw [sv_ne _ _ _ _ (by omega)]) | (rw [up_cell _ _ _ (by omega)]) | (rw [fil_cell _ _ _ _ _ (by omega)]) | (rw [hM _ (by omega)]) | (rw [hm _ (by omega)])))) | (have t_ := Inv.lv2 (hI); exact Or.inr t_)) (by first | (refine Or.inl (And.intro ?_ ?_) <;> first | (simp only [List.mem_cons, List.not_mem_nil, or_false, forall_eq_or_imp, forall_eq, false_implies, implies_true, and_true] <;> omega) | (repeat' (first | exact True.intro | rfl | refine And.intro ?_ ?_ | (rw [sv_ne _ _ _ _ (by omega)]) | (rw [up_cell _ _ _ (by omega)]) | (rw [fil_cell _ _ _ _ _ (by omega)]) | (rw [hM _ (by omega)]) | (rw [hm _ (by omega)])))) | (have t_ := Inv.pl (hI); exact Or.inr t_)) (Or.inr (by
    intro _ j hj
    rw [ecn] at hj
    by_cases e : j = i
    · subst e; exact st_PI hP.to0
    · have b' := blk_I ((hI.p hj) 0)
      have o' := (hI.p hj).ord
      exact (hI.p hj).mem (fun k h1 h2 => hm k (by omega)) (fun w hw => far j hj e w (by omega)))) (Or.inr (by
    intro _ j l hl hjl
    rw [ecn] at hl
    have := hI.dis ho j l hl hjl
    have h55 : ∀ q, q < cnt m → stC m i (14 + 5 * q) 5 = m (14 + 5 * q) 5 ∧ stC m i (14 + 5 * q) 6 = m (14 + 5 * q) 6 := fun q hq => by
      by_cases e : q = i
      · subst e; exact ⟨st_P _ _ (by omega), st_P _ _ (by omega)⟩
      · rw [hm _ (by omega)]; exact ⟨rfl, rfl⟩
    rw [(h55 j (by omega)).1, (h55 j (by omega)).2, (h55 l hl).1]
    exact this)))
/-- the reference's begin -/
def sm1 (M : it_Me) (i : Nat) : it_Me := it_sv (it_sv (it_sv (it_fil M 67 (Int32.toNatClampNeg (M 89 i)) (Int32.toNatClampNeg (M 89 i) + Int32.toNatClampNeg (M 90 i)) 0) 91 i (M 89 i + (M 82 i + 3) / 4 * 4)) 92 i (M 89 i + M 90 i - 64)) 110 i 0
def sm2 (M : it_Me) (i : Nat) (h : Int32) : it_Me := it_sv (it_sv (it_sv (it_sv (it_sv (it_fil (sm1 M i) 93 (32 * i) (32 * i + 32) 0) 93 (32 * i + 2) (M 89 i + (M 82 i + 3) / 4 * 4)) 93 (32 * i + 10) h) 93 (32 * i + 11) (M 89 i)) 93 (32 * i + 12) (M 90 i)) 93 (32 * i + 13) (M 89 i + (M 82 i + 3) / 4 * 4)
def stM (M : it_Me) (i : Nat) (h : Int32) : it_Me := it_sv (it_sv (it_sv (it_sv (sm2 M i h) 94 i (M 81 i &&& -2)) 95 i 1) 97 i 0) 101 i 0
theorem sm_o (M : it_Me) (i : Nat) (h : Int32) {k j : Nat} (h1 : k ≠ 67) (h2 : k ≠ 93) (h3 : j ≠ i ∨ k ≠ 91 ∧ k ≠ 92 ∧ k ≠ 110 ∧ k ≠ 94 ∧ k ≠ 95 ∧ k ≠ 97 ∧ k ≠ 101) : stM M i h k j = M k j := by
  unfold stM sm2 sm1
  rw [sv_ne _ _ _ _ (by omega), sv_ne _ _ _ _ (by omega), sv_ne _ _ _ _ (by omega), sv_ne _ _ _ _ (by omega), sv_ne _ _ _ _ (by omega), sv_ne _ _ _ _ (by omega), sv_ne _ _ _ _ (by omega), sv_ne _ _ _ _ (by omega), sv_ne _ _ _ _ (by omega), fil_n1 _ _ _ _ _ _ (by omega), sv_ne _ _ _ _ (by omega), sv_ne _ _ _ _ (by omega), sv_ne _ _ _ _ (by omega), fil_n1 _ _ _ _ _ _ (by omega)]
theorem sm_c (M : it_Me) (i : Nat) (h : Int32) {k : Nat} (h1 : k ∉ ([67, 91, 92, 93, 94, 95, 97, 101, 110] : List Nat)) : stM M i h k = M k := by
  simp only [List.mem_cons, List.not_mem_nil, or_false, not_or] at h1
  funext j
  exact sm_o M i h (by omega) (by omega) (by omega)
theorem sm_91 (M : it_Me) (i : Nat) (h : Int32) : stM M i h 91 i = M 89 i + (M 82 i + 3) / 4 * 4 := by
  unfold stM sm2 sm1
  simp (disch := omega) only [sv_n1, fil_n1, sv_same]
theorem sm_92 (M : it_Me) (i : Nat) (h : Int32) : stM M i h 92 i = M 89 i + M 90 i - 64 := by
  unfold stM sm2 sm1
  simp (disch := omega) only [sv_n1, fil_n1, sv_same]
theorem sm_110 (M : it_Me) (i : Nat) (h : Int32) : stM M i h 110 i = 0 := by
  unfold stM sm2 sm1
  simp (disch := omega) only [sv_n1, fil_n1, sv_same]
theorem sm_94 (M : it_Me) (i : Nat) (h : Int32) : stM M i h 94 i = M 81 i &&& -2 := by
  unfold stM
  simp (disch := omega) only [sv_n1, fil_n1, sv_same]
theorem sm_95 (M : it_Me) (i : Nat) (h : Int32) : stM M i h 95 i = 1 := by
  unfold stM
  simp (disch := omega) only [sv_n1, fil_n1, sv_same]
theorem sm_97 (M : it_Me) (i : Nat) (h : Int32) : stM M i h 97 i = 0 := by
  unfold stM
  simp (disch := omega) only [sv_n1, fil_n1, sv_same]
theorem sm_101 (M : it_Me) (i : Nat) (h : Int32) : stM M i h 101 i = 0 := by
  unfold stM
  simp (disch := omega) only [sv_n1, fil_n1, sv_same]
theorem sm_67 (M : it_Me) (i : Nat) (h : Int32) (x : Nat) : stM M i h 67 x = if Int32.toNatClampNeg (M 89 i) ≤ x ∧ x < Int32.toNatClampNeg (M 89 i) + Int32.toNatClampNeg (M 90 i) then 0 else M 67 x := by
  unfold stM sm2 sm1
  simp (disch := omega) only [sv_n1, fil_n1]
  rw [fil_rd]
theorem sm_93 (M : it_Me) (i : Nat) (h : Int32) {r : Nat} (hr : r < 32) : stM M i h 93 (32 * i + r) = rgv (M 89 i + (M 82 i + 3) / 4 * 4) h (M 89 i) (M 90 i) r := by
  unfold stM sm2
  simp (disch := omega) only [sv_n1]
  simp only [sv_rd, fil_rd, true_and, Nat.add_left_cancel_iff]
  unfold rgv
  rw [if_pos (show 32 * i ≤ 32 * i + r ∧ 32 * i + r < 32 * i + 32 from ⟨by omega, by omega⟩)]
theorem sm_93o (M : it_Me) (i : Nat) (h : Int32) {x : Nat} (hx : x < 32 * i ∨ 32 * i + 32 ≤ x) : stM M i h 93 x = M 93 x := by
  unfold stM sm2 sm1
  simp (disch := omega) only [sv_n1, sv_n2]
  rw [fil_rd, if_neg (by omega)]
  simp (disch := omega) only [sv_n1, fil_n1]
theorem r_219b {kc : it_Kc} {M : it_Me} {a w : Int32} (ha : InM a) (h2 : a.toInt % 2 = 0) (hb : ∀ j, j < 4 → M 67 (65536 + 4 * wi a + j) = sb8 w j) {Φ : Int32 → it_Me → Prop} (hp : Φ (hf w (bj a)) M) : w_219 kc a M Φ := by
  have h1 := ha.1
  have h3 := ha.2
  have e : (a + 1).toInt = a.toInt + 1 := add_I (by show -2147483648 ≤ a.toInt + 1; omega) (by show a.toInt + 1 < 2147483648; omega)
  have ha1 : InM (a + 1) := ⟨by omega, by omega⟩
  have ew : wi (a + 1) = wi a := wi_of ha1 ha (by omega)
  have eb : bj (a + 1) = bj a + 1 := by unfold bj; omega
  have hj := bj_lt a
  have hq := bj_eq a
  unfold w_219 w_218
  refine ⟨by rw [vp_in_iff]; omega, by rw [vp_in_iff]; omega, ?_⟩
  rw [ad_eq ha, ad_eq ha1, ew, eb, hb _ hj, hb _ (by omega), sb_by _ hj, sb_by _ (by omega)]
  show Φ (by8 w (bj a) ||| it_shl (by8 w (bj a + 1)) 8) M
  rw [hf_by _ (by omega)]
  exact hp
theorem r_253a {kc : it_Kc} {Φ : it_Me → Prop} {i : Nat} (i8 : i < 8) {K : Int32 → it_Me → Prop} {b s : Int32} (h0 : 0 ≤ b.toInt) (h1 : 0 ≤ s.toInt) (h2 : b.toInt + s.toInt ≤ 196608) : ∀ (r : Nat) (N : it_Me) (v : Int32), 0 ≤ v.toInt → v.toInt + r = s.toInt → N 89 i = b → N 90 i = s → K (nI i) (it_fil N 67 (Int32.toNatClampNeg b + Int32.toNatClampNeg v) (Int32.toNatClampNeg b + Int32.toNatClampNeg s) 0) → w_253_2 kc Φ K (r + 1) (nI i) v N := by
  intro r
  induction r with
  | zero =>
    intro N v hv hs e1 e2 h
    unfold w_253_2
    rw [cI i8, e2]
    refine ⟨vI i8, fun _ => ?_, fun q => absurd (by rw [Int32.le_iff_toInt_le]; omega) q⟩
    have : it_fil N 67 (Int32.toNatClampNeg b + Int32.toNatClampNeg v) (Int32.toNatClampNeg b + Int32.toNatClampNeg s) 0 = N := by
      funext a x
      by_cases ha : a = 67
      · subst ha; rw [fil_rd, if_neg (by rw [clampI, clampI, clampI]; omega)]
      · rw [fil_cell _ _ _ _ _ ha]
    rw [this] at h
    exact h
  | succ r ih =>
    intro N v hv hs e1 e2 h
    have ev : (v + 1).toInt = v.toInt + 1 := add_I (by show _ ≤ _ + (1 : Int); omega) (by show _ + (1 : Int) < _; omega)
    have eb : (b + v).toInt = b.toInt + v.toInt := by rw [add_I] <;> omega
    unfold w_253_2
    rw [cI i8, e2, e1]
    refine ⟨vI i8, fun q => ?_, fun _ => ⟨vI i8, by rw [vp_in_iff]; omega, ih _ _ (by omega) (by omega) ?_ ?_ ?_⟩⟩
    · exfalso; rw [Int32.le_iff_toInt_le] at q; omega
    · rw [sv_n1 _ _ _ _ _ (by omega)]; exact e1
    · rw [sv_n1 _ _ _ _ _ (by omega)]; exact e2
    · have : it_fil (it_sv N 67 (Int32.toNatClampNeg (b + v)) (it_i2b 0)) 67 (Int32.toNatClampNeg b + Int32.toNatClampNeg (v + 1)) (Int32.toNatClampNeg b + Int32.toNatClampNeg s) 0 = it_fil N 67 (Int32.toNatClampNeg b + Int32.toNatClampNeg v) (Int32.toNatClampNeg b + Int32.toNatClampNeg s) 0 := by
        have f1 : Int32.toNatClampNeg (v + 1) = Int32.toNatClampNeg v + 1 := by rw [clampI, clampI, ev]; omega
        have f2 : Int32.toNatClampNeg (b + v) = Int32.toNatClampNeg b + Int32.toNatClampNeg v := by rw [clampI, clampI, clampI, eb]; omega
        have f3 : Int32.toNatClampNeg v < Int32.toNatClampNeg s := by rw [clampI, clampI]; omega
        rw [f1, f2]
        funext a x
        by_cases ha : a = 67
        · subst ha
          rw [fil_rd, fil_rd, sv_rd]
          by_cases q1 : Int32.toNatClampNeg b + (Int32.toNatClampNeg v + 1) ≤ x ∧ x < Int32.toNatClampNeg b + Int32.toNatClampNeg s
          · rw [if_pos q1, if_pos (by omega)]
          · rw [if_neg q1]
            by_cases q2 : x = Int32.toNatClampNeg b + Int32.toNatClampNeg v
            · rw [if_pos ⟨rfl, q2⟩, if_pos (by omega)]; rfl
            · rw [if_neg (by omega), if_neg (by omega)]
        · rw [fil_cell _ _ _ _ _ ha, fil_cell _ _ _ _ _ ha, sv_cell _ _ _ _ ha]
      rw [this]
      exact h
theorem r_253b {kc : it_Kc} {Φ : it_Me → Prop} {i : Nat} (i8 : i < 8) {K : Int32 → it_Me → Prop} : ∀ (r k : Nat) (N : it_Me), k + r = 32 → K (nI i) (it_fil N 93 (32 * i + k) (32 * i + 32) 0) → w_253_77 kc Φ K (r + 1) (nI i) (nI k) N := by
  intro r
  induction r with
  | zero =>
    intro k N hk h
    unfold w_253_77
    refine ⟨fun _ => ?_, fun q => absurd (by rw [Int32.le_iff_toInt_le, nI_toInt (by omega)]; show (32 : Int) ≤ _; omega) q⟩
    have : it_fil N 93 (32 * i + k) (32 * i + 32) 0 = N := by
      funext a x
      by_cases ha : a = 93
      · subst ha; rw [fil_rd, if_neg (by omega)]
      · rw [fil_cell _ _ _ _ _ ha]
    rw [this] at h
    exact h
  | succ r ih =>
    intro k N hk h
    unfold w_253_77
    rw [ixc i8 (r := k) rfl (by omega), nI_1]
    refine ⟨fun q => ?_, fun _ => ⟨ixv i8 (r := k) rfl (by omega), ih (k + 1) _ (by omega) ?_⟩⟩
    · exfalso; rw [Int32.le_iff_toInt_le, nI_toInt (by omega)] at q; simp only [Int32.reduceToInt] at q; omega
    · have : it_fil (it_sv N 93 (32 * i + k) 0) 93 (32 * i + (k + 1)) (32 * i + 32) 0 = it_fil N 93 (32 * i + k) (32 * i + 32) 0 := by
        funext a x
        by_cases ha : a = 93
        · subst ha
          rw [fil_rd, fil_rd, sv_rd]
          by_cases q1 : 32 * i + (k + 1) ≤ x ∧ x < 32 * i + 32
          · rw [if_pos q1, if_pos (by omega)]
          · rw [if_neg q1]
            by_cases q2 : x = 32 * i + k
            · rw [if_pos ⟨rfl, q2⟩, if_pos (by omega)]
            · rw [if_neg (by omega), if_neg (by omega)]
        · rw [fil_cell _ _ _ _ _ ha, fil_cell _ _ _ _ _ ha, sv_cell _ _ _ _ ha]
      rw [this]
      exact h
theorem r_253 {kc : it_Kc} {M : it_Me} {i : Nat} (i8 : i < 8) (hb : 131072 ≤ (M 89 i).toInt ∧ 0 ≤ (M 90 i).toInt ∧ (M 89 i).toInt + (M 90 i).toInt ≤ 196608) {w : Int32} (ha : 65536 ≤ (M 79 i).toInt ∧ (M 79 i).toInt % 2 = 0 ∧ (M 79 i).toInt + 4 ≤ 131072) (hw : ∀ j, j < 4 → M 67 (65536 + 4 * wi (M 79 i + 2) + j) = sb8 w j) {Φ : it_Me → Prop} (h : Φ (stM M i (M 79 i + hf w (bj (M 79 i + 2))))) : w_253 kc (nI i) M Φ := by
  have ea : (M 79 i + 2).toInt = (M 79 i).toInt + 2 := adI (k := 2) (by omega) (by omega) (by omega)
  have hA : InM (M 79 i + 2) := ⟨by omega, by omega⟩
  have hwi := wi_eq hA
  refine ⟨(M 90 i).toInt.toNat + 1, r_253a i8 (by omega) (by omega) (by omega) (M 90 i).toInt.toNat M 0 (by decide) (by simp only [Int32.reduceToInt]; omega) rfl rfl ?_⟩
  unfold w_253_32 w_252
  rw [cI i8, show Int32.toNatClampNeg (0 : Int32) = 0 from rfl, Nat.add_zero]
  refine ⟨vI i8, vI i8, by decide, vI i8, vI i8, vI i8, vI i8, vI i8, 33, r_253b i8 32 0 _ (by omega) ?_⟩
  unfold w_253_101 w_254
  rw [cI i8, ix_2 i8, ix_10 i8, ix_11 i8, ix_12 i8, ix_13 i8]
  simp (disch := omega) only [sv_n1, sv_same, fil_n1]
  refine ⟨vI i8, vx_2 i8, vI i8, vI i8, ?_⟩
  refine r_219b (w := w) hA (by omega) (fun j hj => ?_) ?_
  · simp (disch := omega) only [sv_n1, fil_n1]
    rw [fil_rd, if_neg (by rw [clampI, clampI]; omega)]
    exact hw j hj
  · refine ⟨vx_10 i8, vI i8, vx_11 i8, vI i8, vx_12 i8, vI i8, vx_13 i8, vI i8, vI i8, vI i8, vI i8, vI i8, ?_⟩
    simp (disch := omega) only [sv_n1, sv_same, fil_n1]
    unfold stM sm2 sm1 at h
    exact h
set_option maxHeartbeats 4000000 in
theorem st_Rl {B : Nat} {m M : it_Me} (hI : Inv B m) (h : Rel m M) {i : Nat} (hi : i < cnt m) : Rel (stC m i) (stM M i (m (14 + 5 * i + 1) 1 + m (14 + 5 * i + 1) 2)) := by
  have h8 := cnt_le hI
  have ho := on_of hI hi
  have hP := hI.p hi
  have b := blk_I (hP 0)
  have hbM : InM (m (14 + 5 * i) 5) := ⟨by omega, by omega⟩
  have hw := wi_eq hbM
  have hram := hP.ram
  have c9 : stC m i 9 = m 9 := st_c _ _ (by omega)
  have ecn : cnt (stC m i) = cnt m := cnt_cg (by rw [c9])
  have hm : ∀ k, (k ≠ 2 ∧ k ≠ 14 + 5 * i ∧ k ≠ 14 + 5 * i + 2 ∧ k ≠ 14 + 5 * i + 4) → stC m i k = m k := fun k h => st_c _ _ h
  have hM : ∀ k, (k ≠ 67 ∧ k ≠ 91 ∧ k ≠ 92 ∧ k ≠ 93 ∧ k ≠ 94 ∧ k ≠ 95 ∧ k ≠ 97 ∧ k ≠ 101 ∧ k ≠ 110) → stM M i (m (14 + 5 * i + 1) 1 + m (14 + 5 * i + 1) 2) k = M k := fun k h => sm_c _ _ _ (by simp only [List.mem_cons, List.not_mem_nil, or_false, not_or]; exact h)
  have p5 := st_P m i (c := 5) (by omega)
  have p6 := st_P m i (c := 6) (by omega)
  have hct : ∀ j, j < cnt m → ctl (stC m i) j = ctl m j := fun j hj => by
    by_cases e : j = i
    · subst e; unfold ctl; rw [p5, p6]
    · exact ctl_cg (hm _ (by omega))
  have hex := fun w => excl_ctl (m' := stC m i) (m := m) (by rw [c9]) hct w
  have e89 := h.base hi
  have e90 := h.size hi
  have e82 := (h.app i hi).2.2
  have ebrk : M 89 i + (M 82 i + 3) / 4 * 4 = brkOf m i := by
    rw [e89, e82, rup_rdv hram.1 (by omega)]; rfl
  have far : ∀ j, j < cnt m → j ≠ i → ∀ a : Int32, (m (14 + 5 * j) 5).toInt ≤ a.toInt ∧ a.toInt < (m (14 + 5 * j) 5).toInt + (m (14 + 5 * j) 6).toInt → gw (stC m i) a = gw m a := fun j hj hne a ha => gw_w (fun hA => by
    have := wi_eq hA
    have b' := blk_I ((hI.p hj) 0)
    rw [st_2, if_neg]
    intro q
    rcases Nat.lt_or_gt_of_ne hne with h' | h'
    · have := hI.dis ho j i hi h'
      omega
    · have := hI.dis ho i j hj h'
      omega)
  exact (Rel.upd (h) (h8) ([2, 14 + 5 * i, 14 + 5 * i + 2, 14 + 5 * i + 4]) ([67, 91, 92, 93, 94, 95, 97, 101, 110]) (fun k hk => by simp only [List.mem_cons, List.not_mem_nil, or_false, not_or] at hk; exact hm k hk) (fun k hk => sm_c _ _ _ hk) (by first | (refine Or.inl (And.intro ?_ (And.intro ?_ ?_)) <;> first | (simp only [List.mem_cons, List.not_mem_nil, or_false, forall_eq_or_imp, forall_eq, false_implies, implies_true, and_true] <;> omega) | (repeat' (first | exact True.intro | rfl | refine And.intro ?_ ?_ | (rw [sv_ne _ _ _ _ (by omega)]) | (rw [up_cell _ _ _ (by omega)]) | (rw [fil_cell _ _ _ _ _ (by omega)]) | (rw [hM _ (by omega)]) | (rw [hm _ (by omega)])))) | (have t_ := Rel.tapeLen (h); exact Or.inr t_)) (by first | (refine Or.inl (And.intro ?_ (And.intro ?_ ?_)) <;> first | (simp only [List.mem_cons, List.not_mem_nil, or_false, forall_eq_or_imp, forall_eq, false_implies, implies_true, and_true] <;> omega) | (repeat' (first | exact True.intro | rfl | refine And.intro ?_ ?_ | (rw [sv_ne _ _ _ _ (by omega)]) | (rw [up_cell _ _ _ (by omega)]) | (rw [fil_cell _ _ _ _ _ (by omega)]) | (rw [hM _ (by omega)]) | (rw [hm _ (by omega)])))) | (have t_ := Rel.on (h); exact Or.inr t_)) (by first | (refine Or.inl (And.intro ?_ (And.intro ?_ ?_)) <;> first | (simp only [List.mem_cons, List.not_mem_nil, or_false, forall_eq_or_imp, forall_eq, false_implies, implies_true, and_true] <;> omega) | (repeat' (first | exact True.intro | rfl | refine And.intro ?_ ?_ | (rw [sv_ne _ _ _ _ (by omega)]) | (rw [up_cell _ _ _ (by omega)]) | (rw [fil_cell _ _ _ _ _ (by omega)]) | (rw [hM _ (by omega)]) | (rw [hm _ (by omega)])))) | (have t_ := Rel.lost (h); exact Or.inr t_)) (by first | (refine Or.inl (And.intro ?_ (And.intro ?_ ?_)) <;> first | (simp only [List.mem_cons, List.not_mem_nil, or_false, forall_eq_or_imp, forall_eq, false_implies, implies_true, and_true] <;> omega) | (repeat' (first | exact True.intro | rfl | refine And.intro ?_ ?_ | (rw [sv_ne _ _ _ _ (by omega)]) | (rw [up_cell _ _ _ (by omega)]) | (rw [fil_cell _ _ _ _ _ (by omega)]) | (rw [hM _ (by omega)]) | (rw [hm _ (by omega)])))) | (have t_ := Rel.power (h); exact Or.inr t_)) (by first | (refine Or.inl (And.intro ?_ (And.intro ?_ ?_)) <;> first | (simp only [List.mem_cons, List.not_mem_nil, or_false, forall_eq_or_imp, forall_eq, false_implies, implies_true, and_true] <;> omega) | (repeat' (first | exact True.intro | rfl | refine And.intro ?_ ?_ | (rw [sv_ne _ _ _ _ (by omega)]) | (rw [up_cell _ _ _ (by omega)]) | (rw [fil_cell _ _ _ _ _ (by omega)]) | (rw [hM _ (by omega)]) | (rw [hm _ (by omega)])))) | (have t_ := Rel.time (h); exact Or.inr t_)) (by first | (refine Or.inl (And.intro ?_ (And.intro ?_ ?_)) <;> first | (simp only [List.mem_cons, List.not_mem_nil, or_false, forall_eq_or_imp, forall_eq, false_implies, implies_true, and_true] <;> omega) | (repeat' (first | exact True.intro | rfl | refine And.intro ?_ ?_ | (rw [sv_ne _ _ _ _ (by omega)]) | (rw [up_cell _ _ _ (by omega)]) | (rw [fil_cell _ _ _ _ _ (by omega)]) | (rw [hM _ (by omega)]) | (rw [hm _ (by omega)])))) | (have t_ := Rel.z (h); exact Or.inr t_)) (by first | (refine Or.inl (And.intro ?_ (And.intro ?_ ?_)) <;> first | (simp only [List.mem_cons, List.not_mem_nil, or_false, forall_eq_or_imp, forall_eq, false_implies, implies_true, and_true] <;> omega) | (repeat' (first | exact True.intro | rfl | refine And.intro ?_ ?_ | (rw [sv_ne _ _ _ _ (by omega)]) | (rw [up_cell _ _ _ (by omega)]) | (rw [fil_cell _ _ _ _ _ (by omega)]) | (rw [hM _ (by omega)]) | (rw [hm _ (by omega)])))) | (have t_ := Rel.count (h); exact Or.inr t_)) (by first | (refine Or.inl (And.intro ?_ (And.intro ?_ ?_)) <;> first | (simp only [List.mem_cons, List.not_mem_nil, or_false, forall_eq_or_imp, forall_eq, false_implies, implies_true, and_true] <;> omega) | (repeat' (first | exact True.intro | rfl | refine And.intro ?_ ?_ | (rw [sv_ne _ _ _ _ (by omega)]) | (rw [up_cell _ _ _ (by omega)]) | (rw [fil_cell _ _ _ _ _ (by omega)]) | (rw [hM _ (by omega)]) | (rw [hm _ (by omega)])))) | (have t_ := Rel.turn (h); exact Or.inr t_)) (by first | (refine Or.inl (And.intro ?_ (And.intro ?_ ?_)) <;> first | (simp only [List.mem_cons, List.not_mem_nil, or_false, forall_eq_or_imp, forall_eq, false_implies, implies_true, and_true] <;> omega) | (repeat' (first | exact True.intro | rfl | refine And.intro ?_ ?_ | (rw [sv_ne _ _ _ _ (by omega)]) | (rw [up_cell _ _ _ (by omega)]) | (rw [fil_cell _ _ _ _ _ (by omega)]) | (rw [hM _ (by omega)]) | (rw [hm _ (by omega)])))) | (have t_ := Rel.bank (h); exact Or.inr t_)) (by first | (refine Or.inl (And.intro ?_ (And.intro ?_ ?_)) <;> first | (simp only [List.mem_cons, List.not_mem_nil, or_false, forall_eq_or_imp, forall_eq, false_implies, implies_true, and_true] <;> omega) | (repeat' (first | exact True.intro | rfl | refine And.intro ?_ ?_ | (rw [sv_ne _ _ _ _ (by omega)]) | (rw [up_cell _ _ _ (by omega)]) | (rw [fil_cell _ _ _ _ _ (by omega)]) | (rw [hM _ (by omega)]) | (rw [hm _ (by omega)])))) | (have t_ := Rel.tape (h); exact Or.inr t_)) (by first | (refine Or.inl (And.intro ?_ (And.intro ?_ ?_)) <;> first | (simp only [List.mem_cons, List.not_mem_nil, or_false, forall_eq_or_imp, forall_eq, false_implies, implies_true, and_true] <;> omega) | (repeat' (first | exact True.intro | rfl | refine And.intro ?_ ?_ | (rw [sv_ne _ _ _ _ (by omega)]) | (rw [up_cell _ _ _ (by omega)]) | (rw [fil_cell _ _ _ _ _ (by omega)]) | (rw [hM _ (by omega)]) | (rw [hm _ (by omega)])))) | (have t_ := Rel.counts (h); exact Or.inr t_)) (by first | (refine Or.inl (And.intro ?_ (And.intro ?_ ?_)) <;> first | (simp only [List.mem_cons, List.not_mem_nil, or_false, forall_eq_or_imp, forall_eq, false_implies, implies_true, and_true] <;> omega) | (repeat' (first | exact True.intro | rfl | refine And.intro ?_ ?_ | (rw [sv_ne _ _ _ _ (by omega)]) | (rw [up_cell _ _ _ (by omega)]) | (rw [fil_cell _ _ _ _ _ (by omega)]) | (rw [hM _ (by omega)]) | (rw [hm _ (by omega)])))) | (have t_ := Rel.events (h); exact Or.inr t_)) (by first | (refine Or.inl (And.intro ?_ (And.intro ?_ ?_)) <;> first | (simp only [List.mem_cons, List.not_mem_nil, or_false, forall_eq_or_imp, forall_eq, false_implies, implies_true, and_true] <;> omega) | (repeat' (first | exact True.intro | rfl | refine And.intro ?_ ?_ | (rw [sv_ne _ _ _ _ (by omega)]) | (rw [up_cell _ _ _ (by omega)]) | (rw [fil_cell _ _ _ _ _ (by omega)]) | (rw [hM _ (by omega)]) | (rw [hm _ (by omega)])))) | (have t_ := Rel.out (h); exact Or.inr t_)) (by first | (refine Or.inl (And.intro ?_ (And.intro ?_ ?_)) <;> first | (simp only [List.mem_cons, List.not_mem_nil, or_false, forall_eq_or_imp, forall_eq, false_implies, implies_true, and_true] <;> omega) | (repeat' (first | exact True.intro | rfl | refine And.intro ?_ ?_ | (rw [sv_ne _ _ _ _ (by omega)]) | (rw [up_cell _ _ _ (by omega)]) | (rw [fil_cell _ _ _ _ _ (by omega)]) | (rw [hM _ (by omega)]) | (rw [hm _ (by omega)])))) | (have t_ := Rel.lamps (h); exact Or.inr t_)) (by first | (refine Or.inl (And.intro ?_ (And.intro ?_ ?_)) <;> first | (simp only [List.mem_cons, List.not_mem_nil, or_false, forall_eq_or_imp, forall_eq, false_implies, implies_true, and_true] <;> omega) | (repeat' (first | exact True.intro | rfl | refine And.intro ?_ ?_ | (rw [sv_ne _ _ _ _ (by omega)]) | (rw [up_cell _ _ _ (by omega)]) | (rw [fil_cell _ _ _ _ _ (by omega)]) | (rw [hM _ (by omega)]) | (rw [hm _ (by omega)])))) | (have t_ := Rel.buttons (h); exact Or.inr t_)) (by first | (refine Or.inl (And.intro ?_ (And.intro ?_ ?_)) <;> first | (simp only [List.mem_cons, List.not_mem_nil, or_false, forall_eq_or_imp, forall_eq, false_implies, implies_true, and_true] <;> omega) | (repeat' (first | exact True.intro | rfl | refine And.intro ?_ ?_ | (rw [sv_ne _ _ _ _ (by omega)]) | (rw [up_cell _ _ _ (by omega)]) | (rw [fil_cell _ _ _ _ _ (by omega)]) | (rw [hM _ (by omega)]) | (rw [hm _ (by omega)])))) | (have t_ := Rel.lev (h); exact Or.inr t_)) (Or.inr (by
    intro w hw' hx j hj
    have hx' : ¬ excl m w := fun q => hx ((hex w).mpr q)
    rw [sm_67, st_2, e89, e90]
    by_cases q : wi (m (14 + 5 * i) 5) ≤ w ∧ w < wi (m (14 + 5 * i) 5) + (m (14 + 5 * i) 6 - 64).toInt.toNat / 4
    · rw [if_pos q, if_pos (by rw [clampI, clampI]; omega), sb_0 hj]
    · rw [if_neg q]
      by_cases q2 : (ctl m i).toInt ≤ 65536 + 4 * (w : Int) ∧ 65536 + 4 * (w : Int) < (ctl m i).toInt + 64
      · rw [if_pos (by rw [clampI, clampI]; omega)]
        have : 44 ≤ 65536 + 4 * (w : Int) - (ctl m i).toInt := by
          by_cases q3 : 44 ≤ 65536 + 4 * (w : Int) - (ctl m i).toInt
          · exact q3
          · exact absurd ⟨i, hi, by omega, by omega⟩ hx'
        obtain ⟨k, hk⟩ : ∃ k : Nat, 65536 + 4 * (w : Int) = (ctl m i).toInt + 44 + 4 * k := ⟨((65536 + 4 * (w : Int) - (ctl m i).toInt - 44) / 4).toNat, by omega⟩
        have z := hP.cz k (by omega)
        have ek := adI (a := ctl m i) (k := 44 + 4 * k) (by omega) (by omega) (by omega)
        have hA : InM (ctl m i + nI (44 + 4 * k)) := ⟨by omega, by omega⟩
        rw [gw_in hA, show wi (ctl m i + nI (44 + 4 * k)) = w by have := wi_eq hA; omega] at z
        rw [z, sb_0 hj]
      · rw [if_neg (by rw [clampI, clampI]; omega)]
        exact h.mem w hw' hx' j hj)) (by first | (refine Or.inl (And.intro ?_ (And.intro ?_ ?_)) <;> first | (simp only [List.mem_cons, List.not_mem_nil, or_false, forall_eq_or_imp, forall_eq, false_implies, implies_true, and_true] <;> omega) | (repeat' (first | exact True.intro | rfl | refine And.intro ?_ ?_ | (rw [sv_ne _ _ _ _ (by omega)]) | (rw [up_cell _ _ _ (by omega)]) | (rw [fil_cell _ _ _ _ _ (by omega)]) | (rw [hM _ (by omega)]) | (rw [hm _ (by omega)])))) | (have t_ := Rel.sched (h); exact Or.inr t_)) (by first | (refine Or.inl (And.intro ?_ (And.intro ?_ ?_)) <;> first | (simp only [List.mem_cons, List.not_mem_nil, or_false, forall_eq_or_imp, forall_eq, false_implies, implies_true, and_true] <;> omega) | (repeat' (first | exact True.intro | rfl | refine And.intro ?_ ?_ | (rw [sv_ne _ _ _ _ (by omega)]) | (rw [up_cell _ _ _ (by omega)]) | (rw [fil_cell _ _ _ _ _ (by omega)]) | (rw [hM _ (by omega)]) | (rw [hm _ (by omega)])))) | (have t_ := Rel.done (h); exact Or.inr t_)) (by first | (refine Or.inl (And.intro ?_ (And.intro ?_ ?_)) <;> first | (simp only [List.mem_cons, List.not_mem_nil, or_false, forall_eq_or_imp, forall_eq, false_implies, implies_true, and_true] <;> omega) | (repeat' (first | exact True.intro | rfl | refine And.intro ?_ ?_ | (rw [sv_ne _ _ _ _ (by omega)]) | (rw [up_cell _ _ _ (by omega)]) | (rw [fil_cell _ _ _ _ _ (by omega)]) | (rw [hM _ (by omega)]) | (rw [hm _ (by omega)])))) | (have t_ := Rel.levels (h); exact Or.inr t_)) (by first | (refine Or.inl (And.intro ?_ (And.intro ?_ ?_)) <;> first | (simp only [List.mem_cons, List.not_mem_nil, or_false, forall_eq_or_imp, forall_eq, false_implies, implies_true, and_true] <;> omega) | (repeat' (first | exact True.intro | rfl | refine And.intro ?_ ?_ | (rw [sv_ne _ _ _ _ (by omega)]) | (rw [up_cell _ _ _ (by omega)]) | (rw [fil_cell _ _ _ _ _ (by omega)]) | (rw [hM _ (by omega)]) | (rw [hm _ (by omega)])))) | (have t_ := Rel.places (h); exact Or.inr t_)) (by first | (refine Or.inl (And.intro ?_ (And.intro ?_ ?_)) <;> first | (simp only [List.mem_cons, List.not_mem_nil, or_false, forall_eq_or_imp, forall_eq, false_implies, implies_true, and_true] <;> omega) | (repeat' (first | exact True.intro | rfl | refine And.intro ?_ ?_ | (rw [sv_ne _ _ _ _ (by omega)]) | (rw [up_cell _ _ _ (by omega)]) | (rw [fil_cell _ _ _ _ _ (by omega)]) | (rw [hM _ (by omega)]) | (rw [hm _ (by omega)])))) | (have t_ := Rel.asked (h); exact Or.inr t_)) (Or.inr (by
    intro j hj hu
    rw [ecn] at hj
    rw [hM _ (by omega), hm _ (by omega)]
    unfold undW at hu
    by_cases e : j = i
    · subst e; exact absurd (st_G m j (by omega)) hu.1
    · rw [hm (14 + 5 * j + 4) (by omega)] at hu
      have g' := (hI.p hj).gI (d := 1) (by omega) hu.1
      have l' := (hI.p hj).low0
      have o' := (hI.p hj).ord
      have b' := blk_I ((hI.p hj) 0)
      have z : gsz 1 = 80 := by decide
      have ee := adI (a := m (14 + 5 * j + 4) 1) (k := 64) (by omega) (by omega) (by omega)
      have ee' : (m (14 + 5 * j + 4) 1 + 64).toInt = (m (14 + 5 * j + 4) 1).toInt + 64 := ee
      rw [far j hj e _ (by omega)] at hu
      exact h.worder j hj hu)) (Or.inr (by
    intro j hj hu
    rw [ecn] at hj
    rw [hM _ (by omega), hm _ (by omega)]
    unfold undR at hu
    by_cases e : j = i
    · subst e; exact absurd (st_G m j (by omega)) hu.1
    · rw [hm (14 + 5 * j + 4) (by omega)] at hu
      have g' := (hI.p hj).gI (d := 1) (by omega) hu.1
      have l' := (hI.p hj).low0
      have o' := (hI.p hj).ord
      have b' := blk_I ((hI.p hj) 0)
      have z : gsz 1 = 80 := by decide
      have ee := adI (a := m (14 + 5 * j + 4) 1) (k := 72) (by omega) (by omega) (by omega)
      have ee' : (m (14 + 5 * j + 4) 1 + 72).toInt = (m (14 + 5 * j + 4) 1).toInt + 72 := ee
      rw [far j hj e _ (by omega)] at hu
      exact h.rorder j hj hu)) (Or.inr (by
    intro j hj t ht
    rw [ecn] at hj
    have old := h.ps j hj t ht
    have tt := (by decide : ∀ t ∈ pst, t.1 ≠ 67 ∧ t.1 ≠ 93 ∧ t.2.1 ≤ 1) t ht
    by_cases e : j = i
    · subst e
      have c1 : stC m j (14 + 5 * j + 1) = m (14 + 5 * j + 1) := st_c _ _ (by omega)
      by_cases e2 : t.2.1 = 1
      · have t1 := (by decide : ∀ t ∈ pst, t.2.1 = 1 → t.1 = 79 ∨ t.1 = 83) t ht e2
        rw [sm_o _ _ _ tt.1 tt.2.1 (by omega), e2, c1, ← e2]
        exact old
      · have e3 : t.2.1 = 0 := by omega
        simp only [pst, List.mem_cons, List.not_mem_nil, or_false] at ht
        rcases ht with rfl | rfl | rfl | rfl | rfl | rfl | rfl | rfl | rfl | rfl | rfl | rfl | rfl | rfl
        all_goals simp only [Nat.add_zero] at old e3 ⊢
        · exact absurd e3 (by decide)
        · exact absurd e3 (by decide)
        · rw [sm_o _ _ _ (by omega) (by omega) (by omega), st_P _ _ (by omega)]; exact old
        · rw [sm_o _ _ _ (by omega) (by omega) (by omega), st_P _ _ (by omega)]; exact old
        · rw [sm_91, st_P7]; exact ebrk
        · rw [sm_92, st_P8, e89, e90]; rfl
        · rw [sm_94, st_P3, (h.app j hj).2.1]; rfl
        · rw [sm_95, st_P9]
        · rw [sm_o _ _ _ (by omega) (by omega) (by omega), st_P _ _ (by omega)]; exact old
        · rw [sm_o _ _ _ (by omega) (by omega) (by omega), st_P _ _ (by omega)]; exact old
        · rw [sm_o _ _ _ (by omega) (by omega) (by omega), st_P _ _ (by omega)]; exact old
        · rw [sm_o _ _ _ (by omega) (by omega) (by omega), st_P _ _ (by omega)]; exact old
        · rw [sm_101, st_P11]
        · rw [sm_110, st_P14]
    · rw [sm_o _ _ _ tt.1 tt.2.1 (Or.inl e), hm _ (by omega)]
      exact old)) (by first | (refine Or.inl (And.intro ?_ (And.intro ?_ ?_)) <;> first | (simp only [List.mem_cons, List.not_mem_nil, or_false, forall_eq_or_imp, forall_eq, false_implies, implies_true, and_true] <;> omega) | (repeat' (first | exact True.intro | rfl | refine And.intro ?_ ?_ | (rw [sv_ne _ _ _ _ (by omega)]) | (rw [up_cell _ _ _ (by omega)]) | (rw [fil_cell _ _ _ _ _ (by omega)]) | (rw [hM _ (by omega)]) | (rw [hm _ (by omega)])))) | (have t_ := Rel.app (h); exact Or.inr t_)) (by first | (refine Or.inl (And.intro ?_ (And.intro ?_ ?_)) <;> first | (simp only [List.mem_cons, List.not_mem_nil, or_false, forall_eq_or_imp, forall_eq, false_implies, implies_true, and_true] <;> omega) | (repeat' (first | exact True.intro | rfl | refine And.intro ?_ ?_ | (rw [sv_ne _ _ _ _ (by omega)]) | (rw [up_cell _ _ _ (by omega)]) | (rw [fil_cell _ _ _ _ _ (by omega)]) | (rw [hM _ (by omega)]) | (rw [hm _ (by omega)])))) | (have t_ := Rel.name (h); exact Or.inr t_)) (by first | (refine Or.inl (And.intro ?_ (And.intro ?_ ?_)) <;> first | (simp only [List.mem_cons, List.not_mem_nil, or_false, forall_eq_or_imp, forall_eq, false_implies, implies_true, and_true] <;> omega) | (repeat' (first | exact True.intro | rfl | refine And.intro ?_ ?_ | (rw [sv_ne _ _ _ _ (by omega)]) | (rw [up_cell _ _ _ (by omega)]) | (rw [fil_cell _ _ _ _ _ (by omega)]) | (rw [hM _ (by omega)]) | (rw [hm _ (by omega)])))) | (have t_ := Rel.number (h); exact Or.inr t_)) (by first | (refine Or.inl (And.intro ?_ (And.intro ?_ ?_)) <;> first | (simp only [List.mem_cons, List.not_mem_nil, or_false, forall_eq_or_imp, forall_eq, false_implies, implies_true, and_true] <;> omega) | (repeat' (first | exact True.intro | rfl | refine And.intro ?_ ?_ | (rw [sv_ne _ _ _ _ (by omega)]) | (rw [up_cell _ _ _ (by omega)]) | (rw [fil_cell _ _ _ _ _ (by omega)]) | (rw [hM _ (by omega)]) | (rw [hm _ (by omega)])))) | (have t_ := Rel.bits (h); exact Or.inr t_)) (Or.inr (by
    intro j hj r hr
    rw [ecn] at hj
    by_cases e : j = i
    · subst e
      rw [sm_93 _ _ _ hr, st_R _ _ hr, ebrk, e89, e90]
    · rw [sm_93o _ _ _ (by omega), hm _ (by omega)]
      exact h.regs j hj r hr)) (Or.inr (by
    intro j hj h1 h2
    rw [ecn] at hj
    by_cases e : j = i
    · subst e
      rw [sm_97, st_P4]; rfl
    · rw [sm_o _ _ _ (by omega) (by omega) (Or.inl e), hm _ (by omega)]
      rw [hm _ (by omega)] at h1 h2
      exact h.rsv j hj h1 h2)) (Or.inr (by
    intro j hj k hk
    rw [ecn] at hj
    rw [hM _ (by omega), hm (14 + 5 * j + 3) (by omega)]
    by_cases e : j = i
    · subst e
      rw [st_P14] at hk
      simp only [Int32.reduceToInt] at hk
      omega
    · rw [hm (14 + 5 * j) (by omega)] at hk
      exact h.queue j hj k hk)) (Or.inr (by
    intro j hj
    rw [ecn] at hj
    rw [hct j hj, hM _ (by omega), hM _ (by omega), hM _ (by omega), hM _ (by omega)]
    have b' := blk_I ((hI.p hj) 0)
    have gc : ∀ k, k < 64 → k % 4 = 0 → gw (stC m i) (ctl m j + nI k) = gw m (ctl m j + nI k) := fun k hk hk4 => by
      have ek := adI (a := ctl m j) (k := k) (by omega) (by omega) (by omega)
      by_cases e : j = i
      · subst e
        exact gw_w (fun hA => by
          have := wi_eq hA
          rw [st_2, if_neg (by omega)])
      · exact far j hj e _ (by omega)
    rw [show ctl m j + 24 = ctl m j + nI 24 from rfl, show ctl m j + 28 = ctl m j + nI 28 from rfl, show ctl m j + 32 = ctl m j + nI 32 from rfl, show ctl m j + 40 = ctl m j + nI 40 from rfl, gc 24 (by omega) (by omega), gc 28 (by omega) (by omega), gc 32 (by omega) (by omega), gc 40 (by omega) (by omega)]
    exact h.ctlw j hj)) (Or.inr (by
    intro j hj
    have w := h.wt j hj
    rw [sm_c _ _ _ (by simp), sm_c _ _ _ (by simp)]
    by_cases e : j = i
    · subst e
      rw [st_P _ _ (by omega), st_P _ _ (by omega)]
      exact w
    · rw [hm _ (by omega)]
      exact w)))
