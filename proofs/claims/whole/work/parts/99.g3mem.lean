/-! memory: CONTROL is told. -/
theorem ctA {B : Nat} {m : it_Me} (hI : Inv B m) {i : Nat} (hi : i < cnt m) {t : Nat} (ht : t < 16) : InM (ctl m i + nI (4 * t)) ∧ (ctl m i + nI (4 * t)).toInt % 4 = 0 ∧ wi (ctl m i + nI (4 * t)) = wi (ctl m i) + t ∧ Int32.toNatClampNeg (ctl m i + nI (4 * t)) = 65536 + 4 * (wi (ctl m i) + t) ∧ 65536 + 4 * (wi (ctl m i) : Int) = (ctl m i).toInt ∧ 16384 ≤ wi (ctl m i) ∧ wi (ctl m i) + 16 ≤ 32768 := by
  have P := hI.p hi
  have c := P.ctlI
  have b := blk_I (P 0)
  have e := adI (a := ctl m i) (k := 4 * t) (by omega) (by omega) (by omega)
  have ha : InM (ctl m i + nI (4 * t)) := ⟨by omega, by omega⟩
  have w1 := wi_eq ha
  have w2 := wi_eq (a := ctl m i) ⟨by omega, by omega⟩
  refine ⟨ha, by omega, by omega, ?_, by omega, by omega, by omega⟩
  rw [clampI]
  omega
theorem ctD {B : Nat} {m : it_Me} (hI : Inv B m) {i j : Nat} (hi : i < cnt m) (hj : j < cnt m) (ne : i ≠ j) : wi (ctl m i) + 16 ≤ wi (ctl m j) ∨ wi (ctl m j) + 16 ≤ wi (ctl m i) := by
  have P := hI.p hi
  have c := P.ctlI
  have b := blk_I (P 0)
  have P' := hI.p hj
  have c' := P'.ctlI
  have b' := blk_I (P' 0)
  have a := (ctA hI hi (t := 0) (by omega)).2.2.2.2.1
  have a' := (ctA hI hj (t := 0) (by omega)).2.2.2.2.1
  by_cases q : i < j
  · have := hI.dis (on_of hI hi) i j hj q
    omega
  · have := hI.dis (on_of hI hi) j i hi (by omega)
    omega
theorem exclA {B : Nat} {m : it_Me} (hI : Inv B m) (w : Nat) : excl m w ↔ ∃ i, i < cnt m ∧ wi (ctl m i) ≤ w ∧ w < wi (ctl m i) + 11 := by
  unfold excl
  constructor
  · rintro ⟨i, hi, h1, h2⟩
    have a := (ctA hI hi (t := 0) (by omega)).2.2.2.2.1
    exact ⟨i, hi, by omega, by omega⟩
  · rintro ⟨i, hi, h1, h2⟩
    have a := (ctA hI hi (t := 0) (by omega)).2.2.2.2.1
    exact ⟨i, hi, by omega, by omega⟩
def stV (m : it_Me) (i : Nat) : Int32 := if m (14 + 5 * i) 10 = 0 then m (14 + 5 * i) 9 else m (14 + 5 * i) 9 + 8
/-- the words of CONTROL when it is told -/
def ctV (m : it_Me) (i : Nat) (t : Nat) : Int32 := if t = 0 then m (14 + 5 * i) 0 else if t = 1 then m (14 + 5 * i + 1) 1 else if t = 2 then m (14 + 5 * i) 7 else if t = 3 then m (14 + 5 * i) 8 else if t = 4 then m (14 + 5 * i) 12 else if t = 5 then m (14 + 5 * i) 14 else if t = 9 then stV m i else m 2 (wi (ctl m i) + t)
theorem ctV_o (m : it_Me) (i : Nat) {t : Nat} (h : 5 < t ∧ t ≠ 9) : ctV m i t = m 2 (wi (ctl m i) + t) := by
  unfold ctV
  rw [if_neg (by omega), if_neg (by omega), if_neg (by omega), if_neg (by omega), if_neg (by omega), if_neg (by omega), if_neg (by omega)]
/-- the class has told the first n -/
def Tw (m m' : it_Me) (n : Nat) : Prop := (∀ k, k ≠ 2 → m' k = m k) ∧ (∀ i, i < n → ∀ t, t < 11 → m' 2 (wi (ctl m i) + t) = ctV m i t) ∧ ∀ w, (∀ i, i < n → ¬ (wi (ctl m i) ≤ w ∧ w < wi (ctl m i) + 11)) → m' 2 w = m 2 w
def twC (m : it_Me) (W : Nat) (f : Nat → Int32) : it_Me := it_sv (it_sv (it_sv (it_sv (it_sv (it_sv (it_sv m 2 W (f 0)) 2 (W + 1) (f 1)) 2 (W + 2) (f 2)) 2 (W + 3) (f 3)) 2 (W + 4) (f 4)) 2 (W + 5) (f 5)) 2 (W + 9) (f 9)
theorem twC_k (m : it_Me) (W : Nat) (f : Nat → Int32) {k : Nat} (h : k ≠ 2) : twC m W f k = m k := by
  unfold twC
  rw [sv_cell _ _ _ _ h, sv_cell _ _ _ _ h, sv_cell _ _ _ _ h, sv_cell _ _ _ _ h, sv_cell _ _ _ _ h, sv_cell _ _ _ _ h, sv_cell _ _ _ _ h]
theorem twC_o (m : it_Me) (W : Nat) (f : Nat → Int32) {w : Nat} (h : w < W ∨ (W + 5 < w ∧ w ≠ W + 9)) : twC m W f 2 w = m 2 w := by
  unfold twC
  rw [sv_n2 _ _ _ _ (by omega), sv_n2 _ _ _ _ (by omega), sv_n2 _ _ _ _ (by omega), sv_n2 _ _ _ _ (by omega), sv_n2 _ _ _ _ (by omega), sv_n2 _ _ _ _ (by omega), sv_n2 _ _ _ _ (by omega)]
theorem twC_v (m : it_Me) (W : Nat) (f : Nat → Int32) {t : Nat} (h : t ≤ 5 ∨ t = 9) : twC m W f 2 (W + t) = f t := by
  unfold twC
  have : t = 0 ∨ t = 1 ∨ t = 2 ∨ t = 3 ∨ t = 4 ∨ t = 5 ∨ t = 9 := by omega
  rcases this with rfl | rfl | rfl | rfl | rfl | rfl | rfl
  · rw [show W + 0 = W from rfl]
    simp (disch := omega) only [sv_n2, sv_same]
  all_goals simp (disch := omega) only [sv_n2, sv_same]
theorem Tw_s {B : Nat} {m mm : it_Me} (hI : Inv B m) {n : Nat} (hn : n < cnt m) (T : Tw m mm n) : Tw m (twC mm (wi (ctl m n)) (ctV m n)) (n + 1) := by
  refine ⟨fun k hk => by rw [twC_k _ _ _ hk]; exact T.1 k hk, fun i hi t ht => ?_, fun w hw => ?_⟩
  · by_cases e : i = n
    · subst e
      by_cases q : t ≤ 5 ∨ t = 9
      · exact twC_v _ _ _ q
      · rw [twC_o _ _ _ (by omega), ctV_o _ _ (by omega)]
        refine T.2.2 _ (fun j hj y => ?_)
        have := ctD hI hn (j := j) (by omega) (by omega)
        omega
    · have d := ctD hI hn (j := i) (by omega) (by omega)
      rw [twC_o _ _ _ (by omega)]
      exact T.2.1 i (by omega) t ht
  · have a := hw n (by omega)
    rw [twC_o _ _ _ (by omega)]
    exact T.2.2 w (fun i hi => hw i (by omega))
theorem c_92l {kc : it_Kc} {B : Nat} {m : it_Me} (hI : Inv B m) : ∀ (r n : Nat) (mm : it_Me), n + r = cnt m → Tw m mm n → ∃ m', Tw m m' (cnt m) ∧ ∀ Φ K : it_Me → Prop, K m' → w_92_2 kc Φ K (r + 1) (nI n) mm := by
  have h8 := cnt_le hI
  intro r
  induction r with
  | zero =>
    intro n mm hn T
    have : n = cnt m := by omega
    subst this
    refine ⟨mm, T, fun Φ K h => ?_⟩
    unfold w_92_2
    rw [T.1 9 (by omega), cntI hI]
    exact ⟨fun _ => h, fun q => absurd ((nLe (by omega) (by omega)).2 (Nat.le_refl _)) q⟩
  | succ r ih =>
    intro n mm hn T
    have hn' : n < cnt m := by omega
    have n8 : n < 8 := by omega
    obtain ⟨m', a1, a2⟩ := ih (n + 1) _ (by omega) (Tw_s hI hn' T)
    refine ⟨m', a1, fun Φ K h => ?_⟩
    rw [w_92_2]
    rw [T.1 9 (by omega), cntI hI, cI n8, nI_s1]
    refine ⟨fun q => absurd ((nLe (by omega) (by omega)).1 q) (by omega), fun _ => ⟨vI n8, ?_⟩⟩
    unfold w_129
    have ec : mm (14 + 5 * n) 5 + mm (14 + 5 * n) 6 - 64 = ctl m n := by rw [T.1 _ (by omega)]; rfl
    rw [ec]
    have q1 := ctA hI hn' (t := 1) (by omega)
    have q2 := ctA hI hn' (t := 2) (by omega)
    have q3 := ctA hI hn' (t := 3) (by omega)
    have q4 := ctA hI hn' (t := 4) (by omega)
    have q5 := ctA hI hn' (t := 5) (by omega)
    have q9 := ctA hI hn' (t := 9) (by omega)
    rw [show nI (4 * 1) = (4 : Int32) from by decide] at q1
    rw [show nI (4 * 2) = (8 : Int32) from by decide] at q2
    rw [show nI (4 * 3) = (12 : Int32) from by decide] at q3
    rw [show nI (4 * 4) = (16 : Int32) from by decide] at q4
    rw [show nI (4 * 5) = (20 : Int32) from by decide] at q5
    rw [show nI (4 * 9) = (36 : Int32) from by decide] at q9
    have q0 : InM (ctl m n) := by
      have := q1.2.2.2.2
      have P := (hI.p hn').ctlI
      exact ⟨by omega, by omega⟩
    have key := a2 Φ K h
    have f0 : ctV m n 0 = mm (14 + 5 * n) 0 := by rw [T.1 _ (by omega)]; rfl
    have f1 : ctV m n 1 = mm (14 + 5 * n + 1) 1 := by rw [T.1 _ (by omega)]; rfl
    have f2 : ctV m n 2 = mm (14 + 5 * n) 7 := by rw [T.1 _ (by omega)]; rfl
    have f3 : ctV m n 3 = mm (14 + 5 * n) 8 := by rw [T.1 _ (by omega)]; rfl
    have f4 : ctV m n 4 = mm (14 + 5 * n) 12 := by rw [T.1 _ (by omega)]; rfl
    have f5 : ctV m n 5 = mm (14 + 5 * n) 14 := by rw [T.1 _ (by omega)]; rfl
    have f9 : ctV m n 9 = if mm (14 + 5 * n) 10 = 0 then mm (14 + 5 * n) 9 else mm (14 + 5 * n) 9 + 8 := by rw [T.1 _ (by omega)]; rfl
    unfold twC at key
    rw [f0, f1, f2, f3, f4, f5, f9] at key
    refine c_13 ?_
    rw [pw_in q0]
    refine c_13 ?_
    rw [pw_in q1.1, q1.2.2.1]
    refine c_13 ?_
    rw [pw_in q2.1, q2.2.2.1]
    refine c_13 ?_
    rw [pw_in q3.1, q3.2.2.1]
    refine c_13 ?_
    rw [pw_in q4.1, q4.2.2.1]
    refine c_13 ?_
    rw [pw_in q5.1, q5.2.2.1]
    unfold w_134 w_134_21
    simp (disch := omega) only [sv_n1]
    refine ⟨fun z => c_13 ?_, fun z => c_13 ?_⟩
    · rw [pw_in q9.1, q9.2.2.1]
      rw [if_pos z] at key
      exact key
    · rw [pw_in q9.1, q9.2.2.1]
      rw [if_neg z] at key
      exact key
theorem Tw_I {B : Nat} {m m' : it_Me} (hI : Inv B m) (T : Tw m m' (cnt m)) : Inv B m' := by
  by_cases ho : m 0 10 = 1
  · refine hI.memx ho T.1 (fun w hw => ?_)
    have ex : excl m w := by
      rcases Classical.em (excl m w) with y | y
      · exact y
      · exact absurd (T.2.2 w (fun i hi z => y ((exclA hI w).2 ⟨i, hi, z⟩))) hw
    obtain ⟨i, hi, h1, h2⟩ := (exclA hI w).1 ex
    have a := ctA hI hi (t := 0) (by omega)
    have P := hI.p hi
    have c := P.ctlI
    have b := blk_I (P 0)
    refine ⟨by omega, fun j hj => ?_⟩
    have P' := hI.p hj
    have c' := P'.ctlI
    have b' := blk_I (P' 0)
    have o' := P'.ord
    by_cases e : i = j
    · subst e; omega
    · by_cases q : i < j
      · have := hI.dis ho i j hj q
        omega
      · have := hI.dis ho j i hi (by omega)
        omega
  · have c0 : cnt m = 0 := cnt0 (hI.off (by rcases hI.on with y | y; exact y; exact absurd y ho)).1
    have e : m' = m := by
      funext k w
      by_cases k2 : k = 2
      · subst k2
        exact T.2.2 w (fun i hi => by omega)
      · rw [T.1 k k2]
    rw [e]
    exact hI
