/-! Small questions that both sides ask; writes to a process's own RAM. -/
noncomputable def bI (p : Prop) : Int32 := @ite _ p (Classical.propDecidable p) 1 0
theorem bI_t {p : Prop} (h : p) : bI p = 1 := by unfold bI; rw [if_pos h]
theorem bI_f {p : Prop} (h : ¬ p) : bI p = 0 := by unfold bI; rw [if_neg h]
theorem bI_01 (p : Prop) : bI p = 0 ∨ bI p = 1 := by
  by_cases h : p
  · exact Or.inr (bI_t h)
  · exact Or.inl (bI_f h)
theorem bI_cg {p q : Prop} (h : p ↔ q) : bI p = bI q := by
  by_cases hp : p
  · rw [bI_t hp, bI_t (h.mp hp)]
  · rw [bI_f hp, bI_f (fun hq => hp (h.mpr hq))]
theorem xor31 {a : Nat} (h : a < 4294967296) : a ^^^ 2 ^ 31 = (a + 2147483648) % 4294967296 := by
  have h1 : (a ^^^ 2 ^ 31) % 2 ^ 31 = a % 2 ^ 31 := by rw [Nat.xor_mod_two_pow, Nat.mod_self, Nat.xor_zero]
  have h2 : (a ^^^ 2 ^ 31) / 2 ^ 31 = (a / 2 ^ 31) ^^^ 1 := by rw [Nat.xor_div_two_pow, Nat.div_self (Nat.two_pow_pos 31)]
  have h3 : a / 2 ^ 31 = 0 ∨ a / 2 ^ 31 = 1 := by omega
  generalize a ^^^ 2 ^ 31 = t at h1 h2
  rcases h3 with h3 | h3
  · rw [h3] at h2
    have h2 : t / 2 ^ 31 = 1 := h2
    omega
  · rw [h3] at h2
    have h2 : t / 2 ^ 31 = 0 := h2
    omega
theorem xorI (x : Int32) : (x ^^^ (-2147483648)).toInt = x.toInt % 4294967296 - 2147483648 := by
  have h1 := toNatI (x ^^^ (-2147483648))
  have h2 := toNatI x
  have e : (x ^^^ (-2147483648)).toBitVec.toNat = (x.toBitVec.toNat + 2147483648) % 4294967296 := by
    rw [Int32.toBitVec_xor, BitVec.toNat_xor, show (Int32.toBitVec (-2147483648)).toNat = 2 ^ 31 by decide]
    exact xor31 x.toBitVec.isLt
  rw [e] at h1
  have := tlo x
  have := thi x
  have := tlo (x ^^^ (-2147483648))
  have := thi (x ^^^ (-2147483648))
  omega
def ult (a b : Int32) : Prop := a.toInt % 4294967296 < b.toInt % 4294967296
theorem c_213 {kc : it_Kc} {a b : Int32} {m : it_Me} {Φ : Int32 → it_Me → Prop} (h : Φ (bI (ult a b)) m) : w_213 kc a b m Φ := by
  unfold w_213 w_213_16
  rw [Int32.le_iff_toInt_le, xorI, xorI]
  refine ⟨fun q => ⟨Or.inl rfl, ?_⟩, fun q => ⟨Or.inr rfl, ?_⟩⟩
  · rw [bI_f (by unfold ult; omega)] at h; exact h
  · rw [bI_t (by unfold ult; omega)] at h; exact h
theorem lgge (x y : Int64) : 0 ≤ lg_cmp x y ↔ y.toInt ≤ x.toInt := by
  rw [lg_cmp_ge, Int64.le_iff_toInt_le]
theorem lggt (x y : Int64) : 0 < lg_cmp x y ↔ y.toInt < x.toInt := by
  have := lgle x y
  rw [← Int32.not_le, this]
  omega
theorem r_247 {kc : it_Kc} {a b : Int32} {M : it_Me} {Φ : Int32 → it_Me → Prop} (h : Φ (bI (ult a b)) M) : w_247 kc a b M Φ := by
  unfold w_247 w_247_21
  rw [lgge, u32, u32]
  refine ⟨fun q => ⟨Or.inl rfl, ?_⟩, fun q => ⟨Or.inr rfl, ?_⟩⟩
  · rw [bI_f (by unfold ult; omega)] at h; exact h
  · rw [bI_t (by unfold ult; omega)] at h; exact h
/-- the smaller of the two, where the second is not below 0 -/
noncomputable def lst (a b : Int32) : Int32 := @ite _ (ult a b) (Classical.propDecidable _) a b
theorem c_214 {kc : it_Kc} {a b : Int32} {m : it_Me} {Φ : Int32 → it_Me → Prop} (h : Φ (lst a b) m) : w_214 kc a b m Φ := by
  unfold w_214 w_214_13
  refine c_213 ?_
  unfold lst at h
  by_cases q : ult a b
  · rw [bI_t q]; rw [if_pos q] at h
    exact ⟨fun e => absurd e (by decide), fun _ => h⟩
  · rw [bI_f q]; rw [if_neg q] at h
    exact ⟨fun _ => h, fun e => absurd rfl e⟩
theorem r_297 {kc : it_Kc} {a b : Int32} (hb : 0 ≤ b.toInt) {M : it_Me} {Φ : Int32 → it_Me → Prop} (h : Φ (lst a b) M) : w_297 kc a b M Φ := by
  have := thi b
  unfold w_297 w_297_17
  rw [lgge, u32, Int32.toInt_toInt64]
  unfold lst at h
  refine ⟨fun q => ?_, fun q => ?_⟩
  · rw [if_neg (by unfold ult; omega)] at h; exact h
  · rw [if_pos (by unfold ult; omega)] at h; exact h
theorem lst_I {a b : Int32} (hb : 0 ≤ b.toInt) : 0 ≤ (lst a b).toInt ∧ (lst a b).toInt ≤ b.toInt := by
  have := thi b
  have := thi a
  have := tlo a
  unfold lst
  by_cases q : ult a b
  · rw [if_pos q]; unfold ult at q; omega
  · rw [if_neg q]; omega
theorem c_132 {kc : it_Kc} {k : Nat} {a : Int32} {m : it_Me} {Φ : Int32 → it_Me → Prop} (h : Φ (bI ((m k 5).toInt ≤ a.toInt ∧ a.toInt < (m k 7).toInt)) m) : w_132 kc k a m Φ := by
  unfold w_132 w_132_20 w_132_21
  rw [Int32.lt_iff_toInt_lt, Int32.le_iff_toInt_le]
  refine ⟨fun q => ⟨Or.inl rfl, ?_⟩, fun q => ⟨fun q2 => ⟨Or.inl rfl, ?_⟩, fun q2 => ⟨Or.inr rfl, ?_⟩⟩⟩
  · rw [bI_f (by omega)] at h; exact h
  · rw [bI_f (by omega)] at h; exact h
  · rw [bI_t (by omega)] at h; exact h
theorem PI.aeI {m : it_Me} {i : Nat} (h : PI m i) : (m (14 + 5 * i + 1) 1 + m (14 + 5 * i + 1) 3).toInt = (m (14 + 5 * i + 1) 1).toInt + (m (14 + 5 * i + 1) 3).toInt := by
  have := h.app
  rw [add_I] <;> omega
theorem c_133 {kc : it_Kc} {i : Nat} {a : Int32} {m : it_Me} (hP : PI m i) {Φ : Int32 → it_Me → Prop} (h : Φ (bI ((m (14 + 5 * i + 1) 1).toInt ≤ a.toInt ∧ a.toInt < (m (14 + 5 * i + 1) 1).toInt + (m (14 + 5 * i + 1) 3).toInt)) m) : w_133 kc (14 + 5 * i) a m Φ := by
  unfold w_133 w_133_34 w_133_35
  rw [Int32.lt_iff_toInt_lt, Int32.le_iff_toInt_le, hP.aeI]
  refine ⟨fun q => ⟨Or.inl rfl, ?_⟩, fun q => ⟨fun q2 => ⟨Or.inl rfl, ?_⟩, fun q2 => ⟨Or.inr rfl, ?_⟩⟩⟩
  · rw [bI_f (by omega)] at h; exact h
  · rw [bI_f (by omega)] at h; exact h
  · rw [bI_t (by omega)] at h; exact h
theorem add64 {x y : Int64} (h1 : -9223372036854775808 ≤ x.toInt + y.toInt) (h2 : x.toInt + y.toInt < 9223372036854775808) : (x + y).toInt = x.toInt + y.toInt := by
  rw [Int64.toInt_add]
  apply Int.bmod_eq_of_le <;> omega
theorem r_260 {kc : it_Kc} {B : Nat} {m M : it_Me} (hI : Inv B m) (hR : Rel m M) {i : Nat} (hi : i < cnt m) {x y : Int64} (hx : 0 ≤ x.toInt ∧ x.toInt < 4294967296) (hy : 0 ≤ y.toInt ∧ y.toInt < 4294967296) {Φ : Int32 → it_Me → Prop} (h : Φ (bI ((m (14 + 5 * i) 5).toInt ≤ x.toInt ∧ x.toInt + y.toInt ≤ (m (14 + 5 * i) 7).toInt)) M) : w_260 kc (nI i) x y M Φ := by
  have i8 : i < 8 := by have := cnt_le hI; omega
  unfold w_260 w_260_31 w_260_32
  rw [cI i8, hR.base hi, hR.brk hi, lgl, lggt, Int32.toInt_toInt64, Int32.toInt_toInt64, add64 (by omega) (by omega)]
  refine ⟨vI i8, fun q => ⟨Or.inl rfl, ?_⟩, fun q => ⟨vI i8, fun q2 => ⟨Or.inl rfl, ?_⟩, fun q2 => ⟨Or.inr rfl, ?_⟩⟩⟩
  · rw [bI_f (by omega)] at h; exact h
  · rw [bI_f (by omega)] at h; exact h
  · rw [bI_t (by omega)] at h; exact h
theorem r_261 {kc : it_Kc} {B : Nat} {m M : it_Me} (hI : Inv B m) (hR : Rel m M) {i : Nat} (hi : i < cnt m) {x y : Int64} (hx : 0 ≤ x.toInt ∧ x.toInt < 4294967296) (hy : 0 ≤ y.toInt ∧ y.toInt < 4294967296) {Φ : Int32 → it_Me → Prop} (h : Φ (bI ((m (14 + 5 * i + 1) 1).toInt ≤ x.toInt ∧ x.toInt + y.toInt ≤ (m (14 + 5 * i + 1) 1).toInt + (m (14 + 5 * i + 1) 3).toInt)) M) : w_261 kc (nI i) x y M Φ := by
  have i8 : i < 8 := by have := cnt_le hI; omega
  unfold w_261 w_261_31 w_261_32
  rw [cI i8, hR.addr hi, (hR.app i hi).1, lgl, lggt, Int32.toInt_toInt64, Int32.toInt_toInt64, (hI.p hi).aeI, add64 (by omega) (by omega)]
  refine ⟨vI i8, fun q => ⟨Or.inl rfl, ?_⟩, fun q => ⟨vI i8, fun q2 => ⟨Or.inl rfl, ?_⟩, fun q2 => ⟨Or.inr rfl, ?_⟩⟩⟩
  · rw [bI_f (by omega)] at h; exact h
  · rw [bI_f (by omega)] at h; exact h
  · rw [bI_t (by omega)] at h; exact h
theorem c_215 {kc : it_Kc} {a n b e : Int32} {m : it_Me} (hb : 0 ≤ b.toInt) (he : 0 ≤ e.toInt) {Φ : Int32 → it_Me → Prop} (h : Φ (bI (b.toInt ≤ a.toInt ∧ 0 < n.toInt ∧ a.toInt + n.toInt ≤ e.toInt)) m) : w_215 kc a n b e m Φ := by
  have := thi e
  have := thi a
  unfold w_215 w_215_25 w_215_26
  rw [Int32.lt_iff_toInt_lt, Int32.le_iff_toInt_le, Int32.le_iff_toInt_le]
  refine ⟨fun q => ⟨Or.inl rfl, ?_⟩, fun q => ⟨fun q2 => ⟨Or.inl rfl, ?_⟩, fun q2 => ⟨fun q3 => ⟨Or.inl rfl, ?_⟩, fun q3 => ?_⟩⟩⟩
  · rw [bI_f (by omega)] at h; exact h
  · rw [bI_f (by omega)] at h; exact h
  · simp only [Int32.reduceToInt] at q3
    rw [bI_f (by omega)] at h; exact h
  · simp only [Int32.reduceToInt] at q3
    have es : (e - a).toInt = e.toInt - a.toInt := by rw [Int32.toInt_sub, bmI' (by omega) (by omega)]
    rw [Int32.lt_iff_toInt_lt, es]
    refine ⟨fun q4 => ⟨Or.inl rfl, ?_⟩, fun q4 => ⟨Or.inr rfl, ?_⟩⟩
    · rw [bI_f (by omega)] at h; exact h
    · rw [bI_t (by omega)] at h; exact h
/-- bufferFits: a Bf -/
theorem c_102 {kc : it_Kc} {i : Nat} {a n w : Int32} {m : it_Me} (hP : PI m i) {Φ : Int32 → it_Me → Prop} (h : Φ (bI (Bf m i a n (w ≠ 0))) m) : w_102 kc (14 + 5 * i) a n w m Φ := by
  have s := hP.szI
  have o := hP.ord
  have ap := hP.app
  have ae := hP.aeI
  unfold w_102 w_102_20 w_102_61 w_102_62
  refine ⟨fun q => ?_, fun q => c_215 (by omega) (by omega) ?_⟩
  · rw [bI_t (p := Bf m i a n (w ≠ 0)) (Or.inl q)] at h; exact h
  by_cases q1 : (m (14 + 5 * i) 5).toInt ≤ a.toInt ∧ 0 < n.toInt ∧ a.toInt + n.toInt ≤ (m (14 + 5 * i) 7).toInt
  · rw [bI_t q1]
    rw [bI_t (p := Bf m i a n (w ≠ 0)) (Or.inr ⟨q1.2.1, Or.inl ⟨q1.1, q1.2.2⟩⟩)] at h
    exact ⟨fun e => absurd e (by decide), fun _ => h⟩
  rw [bI_f q1]
  refine ⟨fun _ => ⟨fun qw => c_215 (by omega) (by omega) ?_, fun qw => ?_⟩, fun e => absurd rfl e⟩
  · rw [ae]
    by_cases q2 : (m (14 + 5 * i + 1) 1).toInt ≤ a.toInt ∧ 0 < n.toInt ∧ a.toInt + n.toInt ≤ (m (14 + 5 * i + 1) 1).toInt + (m (14 + 5 * i + 1) 3).toInt
    · rw [bI_t q2]
      rw [bI_t (p := Bf m i a n (w ≠ 0)) (Or.inr ⟨q2.2.1, Or.inr ⟨fun z => z qw, q2.1, q2.2.2⟩⟩)] at h
      exact ⟨fun e => absurd e (by decide), fun _ => ⟨Or.inr rfl, h⟩⟩
    · rw [bI_f q2]
      rw [bI_f (p := Bf m i a n (w ≠ 0))] at h
      · exact ⟨fun _ => ⟨Or.inl rfl, h⟩, fun e => absurd rfl e⟩
      · rintro (z | ⟨z1, z2 | ⟨_, z3, z4⟩⟩)
        · exact q z
        · exact q1 ⟨z2.1, z1, z2.2⟩
        · exact q2 ⟨z3, z1, z4⟩
  · rw [bI_f (p := Bf m i a n (w ≠ 0))] at h
    · exact ⟨Or.inl rfl, h⟩
    · rintro (z | ⟨z1, z2 | ⟨z5, z3, z4⟩⟩)
      · exact q z
      · exact q1 ⟨z2.1, z1, z2.2⟩
      · exact z5 qw
theorem c_173 {kc : it_Kc} {d : Int32} {m : it_Me} {Φ : Int32 → it_Me → Prop} (h : Φ (bI (0 ≤ d.toInt ∧ d.toInt < 9)) m) : w_173 kc d m Φ := by
  unfold w_173 w_173_14 w_173_15
  rw [Int32.lt_iff_toInt_lt, Int32.le_iff_toInt_le]
  have z0 : (0 : Int32).toInt = 0 := rfl
  have z8 : (8 : Int32).toInt = 8 := rfl
  have z9 : (9 : Int32).toInt = 9 := rfl
  refine ⟨fun q => ⟨Or.inl rfl, ?_⟩, fun q => ⟨fun q2 => ⟨Or.inl rfl, ?_⟩, fun q2 => ⟨Or.inr rfl, ?_⟩⟩⟩
  · rw [bI_f (by omega)] at h; exact h
  · rw [bI_f (by omega)] at h; exact h
  · rw [bI_t (by omega)] at h; exact h
theorem r_287 {kc : it_Kc} {d : Int32} {M : it_Me} {Φ : Int32 → it_Me → Prop} (h : Φ (bI (0 ≤ d.toInt ∧ d.toInt < 9)) M) : w_287 kc d M Φ := by
  unfold w_287 w_287_14 w_287_15
  rw [Int32.lt_iff_toInt_lt, Int32.lt_iff_toInt_lt]
  have z0 : (0 : Int32).toInt = 0 := rfl
  have z8 : (8 : Int32).toInt = 8 := rfl
  have z9 : (9 : Int32).toInt = 9 := rfl
  refine ⟨fun q => ⟨Or.inl rfl, ?_⟩, fun q => ⟨fun q2 => ⟨Or.inl rfl, ?_⟩, fun q2 => ⟨Or.inr rfl, ?_⟩⟩⟩
  · rw [bI_f (by omega)] at h; exact h
  · rw [bI_f (by omega)] at h; exact h
  · rw [bI_t (by omega)] at h; exact h
/-- memory is written in a process's own RAM -/
theorem Inv.own {B : Nat} {m m' : it_Me} (hI : Inv B m) {i : Nat} (hi : i < cnt m) (hc : ∀ k, k ≠ 2 → m' k = m k) (hw : ∀ w, m' 2 w ≠ m 2 w → (m (14 + 5 * i) 5).toInt ≤ 65536 + 4 * (w : Int) ∧ 65536 + 4 * (w : Int) < (m (14 + 5 * i) 8).toInt) : Inv B m' := by
  have ho := on_of hI hi
  have o := (hI.p hi).ord
  have s := (hI.p hi).szI
  have cl := (hI.p hi).ctlI
  refine hI.memx ho hc (fun w h => ?_)
  have := hw w h
  refine ⟨by omega, fun j hj => ?_⟩
  have o' := (hI.p hj).ord
  have s' := (hI.p hj).szI
  have cl' := (hI.p hj).ctlI
  rcases Nat.lt_trichotomy j i with h' | h' | h'
  · have := hI.dis ho j i hi h'
    omega
  · subst h'; omega
  · have := hI.dis ho i j hj h'
    omega
theorem Rel.own {B : Nat} {m m' M M' : it_Me} (hI : Inv B m) (h : Rel m M) {i : Nat} (hi : i < cnt m) (hc : ∀ k, k ≠ 2 → m' k = m k) (hw : ∀ w, m' 2 w ≠ m 2 w → (m (14 + 5 * i) 5).toInt ≤ 65536 + 4 * (w : Int) ∧ 65536 + 4 * (w : Int) < (m (14 + 5 * i) 8).toInt) (hM : ∀ k, k ≠ 67 → M' k = M k)
  (hb : ∀ w, w < 32768 → ¬ excl m w → ∀ j, j < 4 → M' 67 (65536 + 4 * w + j) = sb8 (m' 2 w) j) : Rel m' M' := by
  have h8 := cnt_le hI
  have ho := on_of hI hi
  have o := (hI.p hi).ord
  have s := (hI.p hi).szI
  have cl := (hI.p hi).ctlI
  have hm := hc
  have ecn : cnt m' = cnt m := cnt_cg (by rw [hc _ (by omega)])
  have hct : ∀ j, ctl m' j = ctl m j := fun j => ctl_cg (hc _ (by omega))
  have hex := fun w => excl_ctl (m' := m') (m := m) (by rw [hc _ (by omega)]) (fun j _ => hct j) w
  have gz : ∀ j, j < cnt m → ∀ a : Int32, (m (14 + 5 * j) 8).toInt ≤ a.toInt → a.toInt < (m (14 + 5 * j) 5).toInt + (m (14 + 5 * j) 6).toInt → gw m' a = gw m a := fun j hj a h1 h2 => gw_w (fun hA => by
    have := wi_eq hA
    have o' := (hI.p hj).ord
    have s' := (hI.p hj).szI
    by_cases q : m' 2 (wi a) = m 2 (wi a)
    · exact q
    · exfalso
      have := hw _ q
      rcases Nat.lt_trichotomy j i with h' | h' | h'
      · have := hI.dis ho j i hi h'
        omega
      · subst h'; omega
      · have := hI.dis ho i j hj h'
        omega)
  have und : ∀ j, j < cnt m → ∀ k, k < 80 → m (14 + 5 * j + 4) 1 ≠ 0 → gw m' (m (14 + 5 * j + 4) 1 + nI k) = gw m (m (14 + 5 * j + 4) 1 + nI k) := fun j hj k hk hg1 => by
    have g' := (hI.p hj).gI (d := 1) (by omega) hg1
    have z : gsz 1 = 80 := by decide
    have a' := gadr hI hj (d := 1) (k := k) (by omega) hg1 (by omega)
    have cl' := (hI.p hj).ctlI
    exact gz j hj _ (by omega) (by omega)
  have gc : ∀ j, j < cnt m → ∀ k, k < 64 → gw m' (ctl m j + nI k) = gw m (ctl m j + nI k) := fun j hj k hk => by
    have s' := (hI.p hj).szI
    have o' := (hI.p hj).ord
    have cl' := (hI.p hj).ctlI
    have ek := adI (a := ctl m j) (k := k) (by omega) (by omega) (by omega)
    exact gz j hj _ (by omega) (by omega)
  exact (Rel.upd (h) (h8) ([2]) ([67]) (fun k hk => hc k (by simpa using hk)) (fun k hk => hM k (by simpa using hk)) (by first | (refine Or.inl (And.intro ?_ (And.intro ?_ ?_)) <;> first | (simp only [List.mem_cons, List.not_mem_nil, or_false, forall_eq_or_imp, forall_eq, false_implies, implies_true, and_true] <;> omega) | (repeat' (first | exact True.intro | rfl | refine And.intro ?_ ?_ | (rw [sv_ne _ _ _ _ (by omega)]) | (rw [up_cell _ _ _ (by omega)]) | (rw [fil_cell _ _ _ _ _ (by omega)]) | (rw [hM _ (by omega)]) | (rw [hm _ (by omega)])))) | (have t_ := Rel.tapeLen (h); exact Or.inr t_)) (by first | (refine Or.inl (And.intro ?_ (And.intro ?_ ?_)) <;> first | (simp only [List.mem_cons, List.not_mem_nil, or_false, forall_eq_or_imp, forall_eq, false_implies, implies_true, and_true] <;> omega) | (repeat' (first | exact True.intro | rfl | refine And.intro ?_ ?_ | (rw [sv_ne _ _ _ _ (by omega)]) | (rw [up_cell _ _ _ (by omega)]) | (rw [fil_cell _ _ _ _ _ (by omega)]) | (rw [hM _ (by omega)]) | (rw [hm _ (by omega)])))) | (have t_ := Rel.on (h); exact Or.inr t_)) (by first | (refine Or.inl (And.intro ?_ (And.intro ?_ ?_)) <;> first | (simp only [List.mem_cons, List.not_mem_nil, or_false, forall_eq_or_imp, forall_eq, false_implies, implies_true, and_true] <;> omega) | (repeat' (first | exact True.intro | rfl | refine And.intro ?_ ?_ | (rw [sv_ne _ _ _ _ (by omega)]) | (rw [up_cell _ _ _ (by omega)]) | (rw [fil_cell _ _ _ _ _ (by omega)]) | (rw [hM _ (by omega)]) | (rw [hm _ (by omega)])))) | (have t_ := Rel.lost (h); exact Or.inr t_)) (by first | (refine Or.inl (And.intro ?_ (And.intro ?_ ?_)) <;> first | (simp only [List.mem_cons, List.not_mem_nil, or_false, forall_eq_or_imp, forall_eq, false_implies, implies_true, and_true] <;> omega) | (repeat' (first | exact True.intro | rfl | refine And.intro ?_ ?_ | (rw [sv_ne _ _ _ _ (by omega)]) | (rw [up_cell _ _ _ (by omega)]) | (rw [fil_cell _ _ _ _ _ (by omega)]) | (rw [hM _ (by omega)]) | (rw [hm _ (by omega)])))) | (have t_ := Rel.power (h); exact Or.inr t_)) (by first | (refine Or.inl (And.intro ?_ (And.intro ?_ ?_)) <;> first | (simp only [List.mem_cons, List.not_mem_nil, or_false, forall_eq_or_imp, forall_eq, false_implies, implies_true, and_true] <;> omega) | (repeat' (first | exact True.intro | rfl | refine And.intro ?_ ?_ | (rw [sv_ne _ _ _ _ (by omega)]) | (rw [up_cell _ _ _ (by omega)]) | (rw [fil_cell _ _ _ _ _ (by omega)]) | (rw [hM _ (by omega)]) | (rw [hm _ (by omega)])))) | (have t_ := Rel.time (h); exact Or.inr t_)) (by first | (refine Or.inl (And.intro ?_ (And.intro ?_ ?_)) <;> first | (simp only [List.mem_cons, List.not_mem_nil, or_false, forall_eq_or_imp, forall_eq, false_implies, implies_true, and_true] <;> omega) | (repeat' (first | exact True.intro | rfl | refine And.intro ?_ ?_ | (rw [sv_ne _ _ _ _ (by omega)]) | (rw [up_cell _ _ _ (by omega)]) | (rw [fil_cell _ _ _ _ _ (by omega)]) | (rw [hM _ (by omega)]) | (rw [hm _ (by omega)])))) | (have t_ := Rel.z (h); exact Or.inr t_)) (by first | (refine Or.inl (And.intro ?_ (And.intro ?_ ?_)) <;> first | (simp only [List.mem_cons, List.not_mem_nil, or_false, forall_eq_or_imp, forall_eq, false_implies, implies_true, and_true] <;> omega) | (repeat' (first | exact True.intro | rfl | refine And.intro ?_ ?_ | (rw [sv_ne _ _ _ _ (by omega)]) | (rw [up_cell _ _ _ (by omega)]) | (rw [fil_cell _ _ _ _ _ (by omega)]) | (rw [hM _ (by omega)]) | (rw [hm _ (by omega)])))) | (have t_ := Rel.count (h); exact Or.inr t_)) (by first | (refine Or.inl (And.intro ?_ (And.intro ?_ ?_)) <;> first | (simp only [List.mem_cons, List.not_mem_nil, or_false, forall_eq_or_imp, forall_eq, false_implies, implies_true, and_true] <;> omega) | (repeat' (first | exact True.intro | rfl | refine And.intro ?_ ?_ | (rw [sv_ne _ _ _ _ (by omega)]) | (rw [up_cell _ _ _ (by omega)]) | (rw [fil_cell _ _ _ _ _ (by omega)]) | (rw [hM _ (by omega)]) | (rw [hm _ (by omega)])))) | (have t_ := Rel.turn (h); exact Or.inr t_)) (by first | (refine Or.inl (And.intro ?_ (And.intro ?_ ?_)) <;> first | (simp only [List.mem_cons, List.not_mem_nil, or_false, forall_eq_or_imp, forall_eq, false_implies, implies_true, and_true] <;> omega) | (repeat' (first | exact True.intro | rfl | refine And.intro ?_ ?_ | (rw [sv_ne _ _ _ _ (by omega)]) | (rw [up_cell _ _ _ (by omega)]) | (rw [fil_cell _ _ _ _ _ (by omega)]) | (rw [hM _ (by omega)]) | (rw [hm _ (by omega)])))) | (have t_ := Rel.bank (h); exact Or.inr t_)) (by first | (refine Or.inl (And.intro ?_ (And.intro ?_ ?_)) <;> first | (simp only [List.mem_cons, List.not_mem_nil, or_false, forall_eq_or_imp, forall_eq, false_implies, implies_true, and_true] <;> omega) | (repeat' (first | exact True.intro | rfl | refine And.intro ?_ ?_ | (rw [sv_ne _ _ _ _ (by omega)]) | (rw [up_cell _ _ _ (by omega)]) | (rw [fil_cell _ _ _ _ _ (by omega)]) | (rw [hM _ (by omega)]) | (rw [hm _ (by omega)])))) | (have t_ := Rel.tape (h); exact Or.inr t_)) (by first | (refine Or.inl (And.intro ?_ (And.intro ?_ ?_)) <;> first | (simp only [List.mem_cons, List.not_mem_nil, or_false, forall_eq_or_imp, forall_eq, false_implies, implies_true, and_true] <;> omega) | (repeat' (first | exact True.intro | rfl | refine And.intro ?_ ?_ | (rw [sv_ne _ _ _ _ (by omega)]) | (rw [up_cell _ _ _ (by omega)]) | (rw [fil_cell _ _ _ _ _ (by omega)]) | (rw [hM _ (by omega)]) | (rw [hm _ (by omega)])))) | (have t_ := Rel.counts (h); exact Or.inr t_)) (by first | (refine Or.inl (And.intro ?_ (And.intro ?_ ?_)) <;> first | (simp only [List.mem_cons, List.not_mem_nil, or_false, forall_eq_or_imp, forall_eq, false_implies, implies_true, and_true] <;> omega) | (repeat' (first | exact True.intro | rfl | refine And.intro ?_ ?_ | (rw [sv_ne _ _ _ _ (by omega)]) | (rw [up_cell _ _ _ (by omega)]) | (rw [fil_cell _ _ _ _ _ (by omega)]) | (rw [hM _ (by omega)]) | (rw [hm _ (by omega)])))) | (have t_ := Rel.events (h); exact Or.inr t_)) (by first | (refine Or.inl (And.intro ?_ (And.intro ?_ ?_)) <;> first | (simp only [List.mem_cons, List.not_mem_nil, or_false, forall_eq_or_imp, forall_eq, false_implies, implies_true, and_true] <;> omega) | (repeat' (first | exact True.intro | rfl | refine And.intro ?_ ?_ | (rw [sv_ne _ _ _ _ (by omega)]) | (rw [up_cell _ _ _ (by omega)]) | (rw [fil_cell _ _ _ _ _ (by omega)]) | (rw [hM _ (by omega)]) | (rw [hm _ (by omega)])))) | (have t_ := Rel.out (h); exact Or.inr t_)) (by first | (refine Or.inl (And.intro ?_ (And.intro ?_ ?_)) <;> first | (simp only [List.mem_cons, List.not_mem_nil, or_false, forall_eq_or_imp, forall_eq, false_implies, implies_true, and_true] <;> omega) | (repeat' (first | exact True.intro | rfl | refine And.intro ?_ ?_ | (rw [sv_ne _ _ _ _ (by omega)]) | (rw [up_cell _ _ _ (by omega)]) | (rw [fil_cell _ _ _ _ _ (by omega)]) | (rw [hM _ (by omega)]) | (rw [hm _ (by omega)])))) | (have t_ := Rel.lamps (h); exact Or.inr t_)) (by first | (refine Or.inl (And.intro ?_ (And.intro ?_ ?_)) <;> first | (simp only [List.mem_cons, List.not_mem_nil, or_false, forall_eq_or_imp, forall_eq, false_implies, implies_true, and_true] <;> omega) | (repeat' (first | exact True.intro | rfl | refine And.intro ?_ ?_ | (rw [sv_ne _ _ _ _ (by omega)]) | (rw [up_cell _ _ _ (by omega)]) | (rw [fil_cell _ _ _ _ _ (by omega)]) | (rw [hM _ (by omega)]) | (rw [hm _ (by omega)])))) | (have t_ := Rel.buttons (h); exact Or.inr t_)) (by first | (refine Or.inl (And.intro ?_ (And.intro ?_ ?_)) <;> first | (simp only [List.mem_cons, List.not_mem_nil, or_false, forall_eq_or_imp, forall_eq, false_implies, implies_true, and_true] <;> omega) | (repeat' (first | exact True.intro | rfl | refine And.intro ?_ ?_ | (rw [sv_ne _ _ _ _ (by omega)]) | (rw [up_cell _ _ _ (by omega)]) | (rw [fil_cell _ _ _ _ _ (by omega)]) | (rw [hM _ (by omega)]) | (rw [hm _ (by omega)])))) | (have t_ := Rel.lev (h); exact Or.inr t_)) (Or.inr (by
    intro w hw' hx j hj
    exact hb w hw' (fun q => hx ((hex w).mpr q)) j hj)) (by first | (refine Or.inl (And.intro ?_ (And.intro ?_ ?_)) <;> first | (simp only [List.mem_cons, List.not_mem_nil, or_false, forall_eq_or_imp, forall_eq, false_implies, implies_true, and_true] <;> omega) | (repeat' (first | exact True.intro | rfl | refine And.intro ?_ ?_ | (rw [sv_ne _ _ _ _ (by omega)]) | (rw [up_cell _ _ _ (by omega)]) | (rw [fil_cell _ _ _ _ _ (by omega)]) | (rw [hM _ (by omega)]) | (rw [hm _ (by omega)])))) | (have t_ := Rel.sched (h); exact Or.inr t_)) (by first | (refine Or.inl (And.intro ?_ (And.intro ?_ ?_)) <;> first | (simp only [List.mem_cons, List.not_mem_nil, or_false, forall_eq_or_imp, forall_eq, false_implies, implies_true, and_true] <;> omega) | (repeat' (first | exact True.intro | rfl | refine And.intro ?_ ?_ | (rw [sv_ne _ _ _ _ (by omega)]) | (rw [up_cell _ _ _ (by omega)]) | (rw [fil_cell _ _ _ _ _ (by omega)]) | (rw [hM _ (by omega)]) | (rw [hm _ (by omega)])))) | (have t_ := Rel.done (h); exact Or.inr t_)) (by first | (refine Or.inl (And.intro ?_ (And.intro ?_ ?_)) <;> first | (simp only [List.mem_cons, List.not_mem_nil, or_false, forall_eq_or_imp, forall_eq, false_implies, implies_true, and_true] <;> omega) | (repeat' (first | exact True.intro | rfl | refine And.intro ?_ ?_ | (rw [sv_ne _ _ _ _ (by omega)]) | (rw [up_cell _ _ _ (by omega)]) | (rw [fil_cell _ _ _ _ _ (by omega)]) | (rw [hM _ (by omega)]) | (rw [hm _ (by omega)])))) | (have t_ := Rel.levels (h); exact Or.inr t_)) (by first | (refine Or.inl (And.intro ?_ (And.intro ?_ ?_)) <;> first | (simp only [List.mem_cons, List.not_mem_nil, or_false, forall_eq_or_imp, forall_eq, false_implies, implies_true, and_true] <;> omega) | (repeat' (first | exact True.intro | rfl | refine And.intro ?_ ?_ | (rw [sv_ne _ _ _ _ (by omega)]) | (rw [up_cell _ _ _ (by omega)]) | (rw [fil_cell _ _ _ _ _ (by omega)]) | (rw [hM _ (by omega)]) | (rw [hm _ (by omega)])))) | (have t_ := Rel.places (h); exact Or.inr t_)) (by first | (refine Or.inl (And.intro ?_ (And.intro ?_ ?_)) <;> first | (simp only [List.mem_cons, List.not_mem_nil, or_false, forall_eq_or_imp, forall_eq, false_implies, implies_true, and_true] <;> omega) | (repeat' (first | exact True.intro | rfl | refine And.intro ?_ ?_ | (rw [sv_ne _ _ _ _ (by omega)]) | (rw [up_cell _ _ _ (by omega)]) | (rw [fil_cell _ _ _ _ _ (by omega)]) | (rw [hM _ (by omega)]) | (rw [hm _ (by omega)])))) | (have t_ := Rel.asked (h); exact Or.inr t_)) (Or.inr (by
    intro j hj hu
    rw [ecn] at hj
    rw [hM _ (by omega), hc _ (by omega)]
    unfold undW at hu
    rw [hc _ (by omega)] at hu
    have := und j hj 64 (by omega) hu.1
    refine h.worder j hj ⟨hu.1, ?_⟩
    rw [show m (14 + 5 * j + 4) 1 + 64 = m (14 + 5 * j + 4) 1 + nI 64 from rfl, ← this]
    exact hu.2)) (Or.inr (by
    intro j hj hu
    rw [ecn] at hj
    rw [hM _ (by omega), hc _ (by omega)]
    unfold undR at hu
    rw [hc _ (by omega)] at hu
    have := und j hj 72 (by omega) hu.1
    refine h.rorder j hj ⟨hu.1, ?_⟩
    rw [show m (14 + 5 * j + 4) 1 + 72 = m (14 + 5 * j + 4) 1 + nI 72 from rfl, ← this]
    exact hu.2)) (by first | (refine Or.inl (And.intro ?_ (And.intro ?_ ?_)) <;> first | (simp only [List.mem_cons, List.not_mem_nil, or_false, forall_eq_or_imp, forall_eq, false_implies, implies_true, and_true] <;> omega) | (repeat' (first | exact True.intro | rfl | refine And.intro ?_ ?_ | (rw [sv_ne _ _ _ _ (by omega)]) | (rw [up_cell _ _ _ (by omega)]) | (rw [fil_cell _ _ _ _ _ (by omega)]) | (rw [hM _ (by omega)]) | (rw [hm _ (by omega)])))) | (have t_ := Rel.ps (h); exact Or.inr t_)) (by first | (refine Or.inl (And.intro ?_ (And.intro ?_ ?_)) <;> first | (simp only [List.mem_cons, List.not_mem_nil, or_false, forall_eq_or_imp, forall_eq, false_implies, implies_true, and_true] <;> omega) | (repeat' (first | exact True.intro | rfl | refine And.intro ?_ ?_ | (rw [sv_ne _ _ _ _ (by omega)]) | (rw [up_cell _ _ _ (by omega)]) | (rw [fil_cell _ _ _ _ _ (by omega)]) | (rw [hM _ (by omega)]) | (rw [hm _ (by omega)])))) | (have t_ := Rel.app (h); exact Or.inr t_)) (by first | (refine Or.inl (And.intro ?_ (And.intro ?_ ?_)) <;> first | (simp only [List.mem_cons, List.not_mem_nil, or_false, forall_eq_or_imp, forall_eq, false_implies, implies_true, and_true] <;> omega) | (repeat' (first | exact True.intro | rfl | refine And.intro ?_ ?_ | (rw [sv_ne _ _ _ _ (by omega)]) | (rw [up_cell _ _ _ (by omega)]) | (rw [fil_cell _ _ _ _ _ (by omega)]) | (rw [hM _ (by omega)]) | (rw [hm _ (by omega)])))) | (have t_ := Rel.name (h); exact Or.inr t_)) (by first | (refine Or.inl (And.intro ?_ (And.intro ?_ ?_)) <;> first | (simp only [List.mem_cons, List.not_mem_nil, or_false, forall_eq_or_imp, forall_eq, false_implies, implies_true, and_true] <;> omega) | (repeat' (first | exact True.intro | rfl | refine And.intro ?_ ?_ | (rw [sv_ne _ _ _ _ (by omega)]) | (rw [up_cell _ _ _ (by omega)]) | (rw [fil_cell _ _ _ _ _ (by omega)]) | (rw [hM _ (by omega)]) | (rw [hm _ (by omega)])))) | (have t_ := Rel.number (h); exact Or.inr t_)) (by first | (refine Or.inl (And.intro ?_ (And.intro ?_ ?_)) <;> first | (simp only [List.mem_cons, List.not_mem_nil, or_false, forall_eq_or_imp, forall_eq, false_implies, implies_true, and_true] <;> omega) | (repeat' (first | exact True.intro | rfl | refine And.intro ?_ ?_ | (rw [sv_ne _ _ _ _ (by omega)]) | (rw [up_cell _ _ _ (by omega)]) | (rw [fil_cell _ _ _ _ _ (by omega)]) | (rw [hM _ (by omega)]) | (rw [hm _ (by omega)])))) | (have t_ := Rel.bits (h); exact Or.inr t_)) (by first | (refine Or.inl (And.intro ?_ (And.intro ?_ ?_)) <;> first | (simp only [List.mem_cons, List.not_mem_nil, or_false, forall_eq_or_imp, forall_eq, false_implies, implies_true, and_true] <;> omega) | (repeat' (first | exact True.intro | rfl | refine And.intro ?_ ?_ | (rw [sv_ne _ _ _ _ (by omega)]) | (rw [up_cell _ _ _ (by omega)]) | (rw [fil_cell _ _ _ _ _ (by omega)]) | (rw [hM _ (by omega)]) | (rw [hm _ (by omega)])))) | (have t_ := Rel.regs (h); exact Or.inr t_)) (by first | (refine Or.inl (And.intro ?_ (And.intro ?_ ?_)) <;> first | (simp only [List.mem_cons, List.not_mem_nil, or_false, forall_eq_or_imp, forall_eq, false_implies, implies_true, and_true] <;> omega) | (repeat' (first | exact True.intro | rfl | refine And.intro ?_ ?_ | (rw [sv_ne _ _ _ _ (by omega)]) | (rw [up_cell _ _ _ (by omega)]) | (rw [fil_cell _ _ _ _ _ (by omega)]) | (rw [hM _ (by omega)]) | (rw [hm _ (by omega)])))) | (have t_ := Rel.rsv (h); exact Or.inr t_)) (by first | (refine Or.inl (And.intro ?_ (And.intro ?_ ?_)) <;> first | (simp only [List.mem_cons, List.not_mem_nil, or_false, forall_eq_or_imp, forall_eq, false_implies, implies_true, and_true] <;> omega) | (repeat' (first | exact True.intro | rfl | refine And.intro ?_ ?_ | (rw [sv_ne _ _ _ _ (by omega)]) | (rw [up_cell _ _ _ (by omega)]) | (rw [fil_cell _ _ _ _ _ (by omega)]) | (rw [hM _ (by omega)]) | (rw [hm _ (by omega)])))) | (have t_ := Rel.queue (h); exact Or.inr t_)) (Or.inr (by
    intro j hj
    rw [ecn] at hj
    rw [hct, hM _ (by omega), hM _ (by omega), hM _ (by omega), hM _ (by omega)]
    rw [show ctl m j + 24 = ctl m j + nI 24 from rfl, show ctl m j + 28 = ctl m j + nI 28 from rfl, show ctl m j + 32 = ctl m j + nI 32 from rfl, show ctl m j + 40 = ctl m j + nI 40 from rfl, gc j hj 24 (by omega), gc j hj 28 (by omega), gc j hj 32 (by omega), gc j hj 40 (by omega)]
    exact h.ctlw j hj)) (by first | (refine Or.inl (And.intro ?_ (And.intro ?_ ?_)) <;> first | (simp only [List.mem_cons, List.not_mem_nil, or_false, forall_eq_or_imp, forall_eq, false_implies, implies_true, and_true] <;> omega) | (repeat' (first | exact True.intro | rfl | refine And.intro ?_ ?_ | (rw [sv_ne _ _ _ _ (by omega)]) | (rw [up_cell _ _ _ (by omega)]) | (rw [fil_cell _ _ _ _ _ (by omega)]) | (rw [hM _ (by omega)]) | (rw [hm _ (by omega)])))) | (have t_ := Rel.wt (h); exact Or.inr t_)))
theorem pb_c (m : it_Me) (a v : Int32) {k : Nat} (h : k ≠ 2) : pb m a v k = m k := by
  unfold pb
  split
  · rfl
  · split
    · rw [sv_cell _ _ _ _ h]
    · rfl
/-- one byte of a process's own RAM -/
theorem own_b {B : Nat} {m : it_Me} (hI : Inv B m) {i : Nat} (hi : i < cnt m) {a : Int32} (ha : (m (14 + 5 * i) 5).toInt ≤ a.toInt ∧ a.toInt < (m (14 + 5 * i) 7).toInt) (v : Int32) : InM a ∧ Inv B (pb m a v) ∧ ∀ M, Rel m M → Rel (pb m a v) (it_sv M 67 (Int32.toNatClampNeg a) (it_i2b v)) := by
  have o := (hI.p hi).ord
  have s := (hI.p hi).szI
  have cl := (hI.p hi).ctlI
  have hA : InM a := ⟨by omega, by omega⟩
  have hw := wi_eq hA
  have hj := bj_lt a
  have hq := bj_eq a
  have hw2 : ∀ w, pb m a v 2 w ≠ m 2 w → (m (14 + 5 * i) 5).toInt ≤ 65536 + 4 * (w : Int) ∧ 65536 + 4 * (w : Int) < (m (14 + 5 * i) 8).toInt := fun w h => by
    rw [pb_in hA] at h
    have e : w = wi a := by
      by_cases e : w = wi a
      · exact e
      · exact absurd (sv_ne _ _ _ _ (Or.inr e)) h
    omega
  refine ⟨hA, hI.own hi (fun k hk => pb_c _ _ _ hk) hw2, fun M hM => hM.own hI hi (fun k hk => pb_c _ _ _ hk) hw2 (fun k hk => sv_cell _ _ _ _ hk) (fun w hw' hx j hj' => ?_)⟩
  rw [pb_in hA, ad_eq hA, sv_rd, sv_rd]
  by_cases e : w = wi a
  · subst e
    rw [if_pos (show 2 = 2 ∧ wi a = wi a from ⟨rfl, rfl⟩), sb_pB _ _ hj hj']
    by_cases e2 : j = bj a
    · rw [if_pos (by omega), if_pos e2]
    · rw [if_neg (by omega), if_neg e2]
      exact hM.mem _ hw' hx j hj'
  · rw [if_neg (by omega), if_neg (by omega)]
    exact hM.mem _ hw' hx j hj'
/-- one word of a process's own RAM -/
theorem own_w {B : Nat} {m : it_Me} (hI : Inv B m) {i : Nat} (hi : i < cnt m) {a : Int32} (ha : (m (14 + 5 * i) 5).toInt ≤ a.toInt ∧ a.toInt < (m (14 + 5 * i) 7).toInt) (h4 : a.toInt % 4 = 0) (v : Int32) : InM a ∧ Inv B (pw m a v) ∧ ∀ M, Rel m M → Rel (pw m a v) (pwM M a v) := by
  have o := (hI.p hi).ord
  have s := (hI.p hi).szI
  have cl := (hI.p hi).ctlI
  have hA : InM a := ⟨by omega, by omega⟩
  have hw := wi_eq hA
  have e0 : bj a = 0 := by unfold bj; omega
  have hw2 : ∀ w, pw m a v 2 w ≠ m 2 w → (m (14 + 5 * i) 5).toInt ≤ 65536 + 4 * (w : Int) ∧ 65536 + 4 * (w : Int) < (m (14 + 5 * i) 8).toInt := fun w h => by
    rw [pw_in hA] at h
    have e : w = wi a := by
      by_cases e : w = wi a
      · exact e
      · exact absurd (sv_ne _ _ _ _ (Or.inr e)) h
    omega
  refine ⟨hA, hI.own hi (fun k hk => pw_c _ _ _ hk) hw2, fun M hM => hM.own hI hi (fun k hk => pw_c _ _ _ hk) hw2 (fun k hk => pwM_c _ _ _ hk) (fun w hw' hx j hj' => ?_)⟩
  have ea := ad_eq hA
  rw [e0] at ea
  rw [pw_in hA, pwM_r, sv_rd]
  by_cases e : w = wi a
  · subst e
    rw [if_pos (by omega), if_pos (show 2 = 2 ∧ wi a = wi a from ⟨rfl, rfl⟩)]
    congr 1
    omega
  · rw [if_neg (by omega), if_neg (by omega)]
    exact hM.mem _ hw' hx j hj'
