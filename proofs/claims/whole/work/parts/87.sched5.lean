/-! The scheduler by levels (2). -/
abbrev fu (m : it_Me) (t : Nat) : Prop := it_shl (m 54 3) (m 55 t) ≤ m 56 t
def plC (m : it_Me) (t : Nat) : it_Me := it_sv (it_sv m 54 9 (m 54 9 + 1)) 57 t (m 54 9 + 1)
def upC (m : it_Me) (t : Nat) : it_Me := it_sv (it_sv m 55 t (it_min 2 (m 55 t + 1))) 56 t 0
def upM (M : it_Me) (t : Nat) : it_Me := it_sv (it_sv M 106 t (it_min 2 (M 106 t + 1))) 107 t 0
def plM (M : it_Me) (n t : Nat) : it_Me := it_sv M 108 t (mxN M n + 1)
theorem c_153u {kc : it_Kc} {m : it_Me} {t : Nat} (t8 : t < 8) (e4 : m 54 4 = nI t) {Φ : it_Me → Prop} (h : Φ (plC (upC m t) t)) : w_153 kc 0 m Φ := by
  unfold w_153 w_153_38
  unfold plC upC at h
  simp (disch := omega) only [sv_n1, sv_n2, sv_same] at h ⊢
  rw [e4, cI t8]
  exact ⟨fun _ => ⟨vI t8, vI t8, vI t8, vI t8, h⟩, fun q => absurd True.intro q⟩
theorem c_153n {kc : it_Kc} {m : it_Me} {t : Nat} (t8 : t < 8) (e4 : m 54 4 = nI t) {Φ : it_Me → Prop} (h : Φ (plC m t)) : w_153 kc 1 m Φ := by
  unfold w_153 w_153_38
  unfold plC at h
  simp (disch := omega) only [sv_n1, sv_n2, sv_same] at h ⊢
  rw [e4, cI t8]
  exact ⟨fun q => absurd q (by decide), fun _ => ⟨vI t8, h⟩⟩
theorem up_I {B : Nat} {m : it_Me} (hI : Inv B m) (h2 : m 54 2 = 2) (t : Nat) : Inv B (upC m t) := by
  have h8 := cnt_le hI
  have e0 : upC m t 0 = m 0 := by unfold upC; rw [sv_cell _ _ _ _ (by omega), sv_cell _ _ _ _ (by omega)]
  refine hI.sch (Nat.le_refl B) (fun k hk => by unfold upC; rw [sv_cell _ _ _ _ (by omega), sv_cell _ _ _ _ (by omega)]) (by unfold upC; rw [sv_n1 _ _ _ _ _ (by omega), sv_n1 _ _ _ _ _ (by omega)]) (by unfold upC; rw [sv_n1 _ _ _ _ _ (by omega), sv_n1 _ _ _ _ _ (by omega)]) (fun ho => ?_) (fun _ q => absurd h2 q) (fun ho _ i hi => ?_) (fun ho _ => ?_)
  · have : upC m t 54 4 = m 54 4 := by unfold upC; rw [sv_n1 _ _ _ _ _ (by omega), sv_n1 _ _ _ _ _ (by omega)]
    rw [this]
    exact hI.tn ho
  · have l := hI.lv2 ho h2 i hi
    have a : upC m t 55 i = if i = t then it_min 2 (m 55 t + 1) else m 55 i := by
      unfold upC
      rw [sv_n1 _ _ _ _ _ (by omega), sv_rd]
      simp only [true_and]
    have b : upC m t 56 i = if i = t then 0 else m 56 i := by
      unfold upC
      rw [sv_rd, sv_n1 _ _ _ _ _ (by omega)]
      simp only [true_and]
    rw [a, b]
    by_cases q : i = t
    · subst q
      rw [if_pos rfl, if_pos rfl, minI]
      have e : (m 55 i + 1).toInt = (m 55 i).toInt + 1 := add_I (by show _ ≤ _ + (1 : Int); omega) (by show _ + (1 : Int) < _; omega)
      rw [e, show (2 : Int32).toInt = 2 from rfl, show (0 : Int32).toInt = 0 from rfl]
      omega
    · rw [if_neg q, if_neg q]
      exact l
  · have e9 : upC m t 54 9 = m 54 9 := by unfold upC; rw [sv_n1 _ _ _ _ _ (by omega), sv_n1 _ _ _ _ _ (by omega)]
    have e57 : upC m t 57 = m 57 := by unfold upC; rw [sv_cell _ _ _ _ (by omega), sv_cell _ _ _ _ (by omega)]
    rw [e9, e57]
    exact hI.pl ho h2
theorem up_R {m M : it_Me} (h : Rel m M) (h8 : cnt m ≤ 8) (ho : m 0 10 = 1) (h2 : m 54 2 = 2) {t : Nat} (ht : t < cnt m) : Rel (upC m t) (upM M t) := by
  have lv := h.levels ho h2
  have e54 : upC m t 54 = m 54 := by unfold upC; rw [sv_cell _ _ _ _ (by omega), sv_cell _ _ _ _ (by omega)]
  have e66 : upM M t 66 = M 66 := by unfold upM; rw [sv_cell _ _ _ _ (by omega), sv_cell _ _ _ _ (by omega)]
  refine h.sch h8 (fun k hk => by unfold upC; rw [sv_cell _ _ _ _ (by omega), sv_cell _ _ _ _ (by omega)]) (by rw [e54]) (by rw [e54]) (fun k hk => by unfold upM; rw [sv_cell _ _ _ _ (by omega), sv_cell _ _ _ _ (by omega)]) (fun j _ _ => by rw [e66]) (by rw [e54, e66]; exact h.turn) (fun _ q => absurd q (by rw [h2]; decide)) (fun _ _ i hi => ?_) (fun _ _ => ?_)
  · have a : upC m t 55 i = if i = t then it_min 2 (m 55 t + 1) else m 55 i := by
      unfold upC
      rw [sv_n1 _ _ _ _ _ (by omega), sv_rd]
      simp only [true_and]
    have b : upC m t 56 i = if i = t then 0 else m 56 i := by
      unfold upC
      rw [sv_rd, sv_n1 _ _ _ _ _ (by omega)]
      simp only [true_and]
    have c : upM M t 106 i = if i = t then it_min 2 (M 106 t + 1) else M 106 i := by
      unfold upM
      rw [sv_n1 _ _ _ _ _ (by omega), sv_rd]
      simp only [true_and]
    have d : upM M t 107 i = if i = t then 0 else M 107 i := by
      unfold upM
      rw [sv_rd, sv_n1 _ _ _ _ _ (by omega)]
      simp only [true_and]
    rw [a, b, c, d, (lv t ht).1, (lv i hi).1, (lv i hi).2]
    exact ⟨rfl, rfl⟩
  · have a : upC m t 57 = m 57 := by unfold upC; rw [sv_cell _ _ _ _ (by omega), sv_cell _ _ _ _ (by omega)]
    have b : upM M t 108 = M 108 := by unfold upM; rw [sv_cell _ _ _ _ (by omega), sv_cell _ _ _ _ (by omega)]
    rw [a, b, e54]
    exact h.places ho h2
theorem pl_v {B : Nat} {m : it_Me} (hI : Inv B m) (hB : B < 2147483000) (ho : m 0 10 = 1) (h2 : m 54 2 = 2) : (m 54 9 + 1).toInt = (m 54 9).toInt + 1 := by
  have p := hI.pl ho h2
  exact add_I (by show _ ≤ _ + (1 : Int); omega) (by show _ + (1 : Int) < _; omega)
theorem pl_I {B : Nat} {m : it_Me} (hI : Inv B m) (hB : B < 2147483000) (h2 : m 54 2 = 2) {t : Nat} (ht : t < cnt m) : Inv (B + 1) (plC m t) := by
  have f : ∀ j, j ≠ 9 → plC m t 54 j = m 54 j := fun j hj => by unfold plC; rw [sv_n1 _ _ _ _ _ (by omega), sv_n2 _ _ _ _ hj]
  have e55 : plC m t 55 = m 55 := by unfold plC; rw [sv_cell _ _ _ _ (by omega), sv_cell _ _ _ _ (by omega)]
  have e56 : plC m t 56 = m 56 := by unfold plC; rw [sv_cell _ _ _ _ (by omega), sv_cell _ _ _ _ (by omega)]
  refine hI.sch (by omega) (fun k hk => by unfold plC; rw [sv_cell _ _ _ _ (by omega), sv_cell _ _ _ _ (by omega)]) (f _ (by omega)) (f _ (by omega)) (fun ho => by rw [f _ (by omega)]; exact hI.tn ho) (fun _ q => absurd h2 q) (fun ho _ i hi => ?_) (fun ho _ => ?_)
  · have l := hI.lv2 ho h2 i hi
    rw [e55, e56]
    omega
  · have p := hI.pl ho h2
    have v := pl_v hI hB ho h2
    have e9 : plC m t 54 9 = m 54 9 + 1 := by unfold plC; rw [sv_n1 _ _ _ _ _ (by omega), sv_same]
    have e57 : ∀ i, plC m t 57 i = if i = t then m 54 9 + 1 else m 57 i := fun i => by
      unfold plC
      rw [sv_rd, sv_n1 _ _ _ _ _ (by omega)]
      simp only [true_and]
    rw [e9]
    refine ⟨by omega, by omega, fun i hi => ?_, fun i j hi hj e => ?_⟩
    · rw [e57]
      have := p.2.2.1 i hi
      by_cases q : i = t
      · rw [if_pos q]; omega
      · rw [if_neg q]; omega
    · rw [e57, e57] at e
      have pi := p.2.2.1 i hi
      have pj := p.2.2.1 j hj
      by_cases q : i = t <;> by_cases q2 : j = t
      · omega
      · rw [if_pos q, if_neg q2, ← Int32.toInt_inj] at e; omega
      · rw [if_neg q, if_pos q2, ← Int32.toInt_inj] at e; omega
      · rw [if_neg q, if_neg q2] at e; exact p.2.2.2 i j hi hj e
theorem pl_R {B : Nat} {m M : it_Me} (hI : Inv B m) (hB : B < 2147483000) (h : Rel m M) (ho : m 0 10 = 1) (h2 : m 54 2 = 2) {t : Nat} (ht : t < cnt m) : Rel (plC m t) (plM M (cnt m) t) := by
  have h8 := cnt_le hI
  have f : ∀ j, j ≠ 9 → plC m t 54 j = m 54 j := fun j hj => by unfold plC; rw [sv_n1 _ _ _ _ _ (by omega), sv_n2 _ _ _ _ hj]
  have g : ∀ k, k ≠ 108 → plM M (cnt m) t k = M k := fun k hk => by unfold plM; rw [sv_cell _ _ _ _ hk]
  have p := hI.pl ho h2
  have v := pl_v hI hB ho h2
  have pp := h.places ho h2
  have e9 : plC m t 54 9 = m 54 9 + 1 := by unfold plC; rw [sv_n1 _ _ _ _ _ (by omega), sv_same]
  have e57 : ∀ i, plC m t 57 i = if i = t then m 54 9 + 1 else m 57 i := fun i => by
    unfold plC
    rw [sv_rd, sv_n1 _ _ _ _ _ (by omega)]
    simp only [true_and]
  have e108 : ∀ i, plM M (cnt m) t 108 i = if i = t then mxN M (cnt m) + 1 else M 108 i := fun i => by
    unfold plM
    rw [sv_rd]
    simp only [true_and]
  have b := mxN_b (M := M) (X := (m 54 9).toInt) p.1 (cnt m) (fun i hi => by
    have := pp.2 i hi
    rw [Int32.le_iff_toInt_le, Int32.le_iff_toInt_le] at this
    exact this)
  have mv : (mxN M (cnt m) + 1).toInt = (mxN M (cnt m)).toInt + 1 := add_I (by show _ ≤ _ + (1 : Int); omega) (by show _ + (1 : Int) < _; omega)
  refine h.sch h8 (fun k hk => by unfold plC; rw [sv_cell _ _ _ _ (by omega), sv_cell _ _ _ _ (by omega)]) (f _ (by omega)) (f _ (by omega)) (fun k hk => g k (by omega)) (fun j _ _ => by rw [g _ (by omega)]) (by rw [g _ (by omega), f _ (by omega)]; exact h.turn) (fun _ q => absurd q (by rw [h2]; decide)) (fun _ _ i hi => ?_) (fun _ _ => ⟨fun i j hi hj => ?_, fun i hi => ?_⟩)
  · rw [g _ (by omega), g _ (by omega)]
    have a : plC m t 55 = m 55 := by unfold plC; rw [sv_cell _ _ _ _ (by omega), sv_cell _ _ _ _ (by omega)]
    have c : plC m t 56 = m 56 := by unfold plC; rw [sv_cell _ _ _ _ (by omega), sv_cell _ _ _ _ (by omega)]
    rw [a, c]
    exact h.levels ho h2 i hi
  · have q0 := pp.1 i j hi hj
    have pi := p.2.2.1 i hi
    have pj := p.2.2.1 j hj
    have bi := b.2.2 i hi
    have bj := b.2.2 j hj
    rw [e57, e57, e108, e108, Int32.lt_iff_toInt_lt, Int32.lt_iff_toInt_lt]
    rw [Int32.lt_iff_toInt_lt, Int32.lt_iff_toInt_lt] at q0
    by_cases q : i = t <;> by_cases q2 : j = t
    · rw [if_pos q, if_pos q2, if_pos q, if_pos q2]; omega
    · rw [if_pos q, if_neg q2, if_pos q, if_neg q2]; omega
    · rw [if_neg q, if_pos q2, if_neg q, if_pos q2]; omega
    · rw [if_neg q, if_neg q2, if_neg q, if_neg q2]; exact q0
  · rw [e9, e108]
    have := pp.2 i hi
    rw [Int32.le_iff_toInt_le, Int32.le_iff_toInt_le] at this ⊢
    rw [v, show (0 : Int32).toInt = 0 from rfl] at *
    by_cases q : i = t
    · rw [if_pos q]; omega
    · rw [if_neg q]; omega
/-- the process has run once more in its level -/
theorem us_I {B : Nat} {m : it_Me} (hI : Inv B m) (hB : B < 2147483000) (h2 : m 54 2 = 2) (t : Nat) : Inv (B + 1) (it_sv m 56 t (m 56 t + 1)) := by
  refine hI.sch (by omega) (fun k hk => sv_cell _ _ _ _ (by omega)) (sv_n1 _ _ _ _ _ (by omega)) (sv_n1 _ _ _ _ _ (by omega)) (fun ho => by rw [sv_n1 _ _ _ _ _ (by omega)]; exact hI.tn ho) (fun _ q => absurd h2 q) (fun ho _ i hi => ?_) (fun ho _ => ?_)
  · have l := hI.lv2 ho h2 i hi
    rw [sv_n1 _ _ _ _ _ (by omega), sv_rd]
    simp only [true_and]
    by_cases q : i = t
    · rw [if_pos q]
      subst q
      have e : (m 56 i + 1).toInt = (m 56 i).toInt + 1 := add_I (by show _ ≤ _ + (1 : Int); omega) (by show _ + (1 : Int) < _; omega)
      omega
    · rw [if_neg q]; omega
  · have p := hI.pl ho h2
    rw [sv_n1 _ _ _ _ _ (by omega), sv_cell _ _ _ _ (by omega)]
    exact ⟨p.1, by omega, p.2.2⟩
theorem us_R {m M : it_Me} (h : Rel m M) (h8 : cnt m ≤ 8) (ho : m 0 10 = 1) (h2 : m 54 2 = 2) {t : Nat} (ht : t < cnt m) : Rel (it_sv m 56 t (m 56 t + 1)) (psM M t) := by
  have lv := h.levels ho h2
  refine h.sch h8 (fun k hk => sv_cell _ _ _ _ (by omega)) (sv_n1 _ _ _ _ _ (by omega)) (sv_n1 _ _ _ _ _ (by omega)) (fun k hk => psM_f _ _ (by omega)) (fun j _ h71 => psM_66 _ _ h71) (by rw [psM_66 _ _ (by omega), sv_n1 _ _ _ _ _ (by omega)]; exact h.turn) (fun _ q => absurd q (by rw [h2]; decide)) (fun _ _ i hi => ?_) (fun _ _ => ?_)
  · have a : psM M t 107 i = if i = t then M 107 t + 1 else M 107 i := by
      unfold psM
      rw [sv_rd, sv_n1 _ _ _ _ _ (by omega)]
      simp only [true_and]
    have b : it_sv m 56 t (m 56 t + 1) 56 i = if i = t then m 56 t + 1 else m 56 i := by
      rw [sv_rd]
      simp only [true_and]
    rw [a, b, psM_f _ _ (by omega), sv_n1 _ _ _ _ _ (by omega), (lv i hi).1, (lv i hi).2, (lv t ht).2]
    exact ⟨rfl, rfl⟩
  · rw [psM_f _ _ (by omega), sv_cell _ _ _ _ (by omega), sv_n1 _ _ _ _ _ (by omega)]
    exact h.places ho h2
theorem bt_R2 {m M : it_Me} (h : Rel m M) (h8 : cnt m ≤ 8) (ho : m 0 10 = 1) (h2 : m 54 2 = 2) {i : Nat} (hi : i < cnt m) : Rel (bt1 m i) (btM M i) := by
  have e : btM M i = it_sv (it_sv (it_sv M 97 i 0) 66 70 (nI i)) 66 71 0 := by
    unfold btM
    rw [sv_comm _ 66 71 0 97 i 0 (by omega), sv_comm _ 66 70 (nI i) 97 i 0 (by omega)]
  have e1 : bt1 m i = it_sv (it_sv m (14 + 5 * i) 4 1) 54 4 (nI i) := by
    unfold bt1
    rw [sv_comm _ 54 4 (nI i) (14 + 5 * i) 4 1 (by omega)]
  have R1 := h.rs h8 hi 1
  rw [rsI1] at R1
  have cn : cnt (it_sv m (14 + 5 * i) 4 1) = cnt m := cnt_sv _ _ _ (by omega)
  have c54 : it_sv m (14 + 5 * i) 4 1 54 = m 54 := sv_cell _ _ _ _ (by omega)
  have c0 : it_sv m (14 + 5 * i) 4 1 0 = m 0 := sv_cell _ _ _ _ (by omega)
  rw [e, e1]
  refine R1.sch (by rw [cn]; exact h8) (fun k hk => sv_cell _ _ _ _ hk.1) (sv_n2 _ _ _ _ (by omega)) (sv_n2 _ _ _ _ (by omega)) (fun k hk => by rw [sv_cell _ _ _ _ (by omega), sv_cell _ _ _ _ (by omega)]) (fun j h70 h71 => by rw [sv_n2 _ _ _ _ h71, sv_n2 _ _ _ _ h70]) ?_ (fun _ q => ?_) (fun _ q => ?_) (fun _ q => ?_)
  · rw [sv_n2 _ _ _ _ (by omega), sv_same, sv_same]
  · rw [c54, h2] at q
    exact absurd q (by decide)
  · have := R1.levels (by rw [c0]; exact ho) (by rw [c54]; exact h2)
    intro i' hi'
    have k : ∀ x, x ≠ 66 → it_sv (it_sv (it_sv M 97 i 0) 66 70 (nI i)) 66 71 0 x = it_sv M 97 i 0 x := fun x hx => by rw [sv_cell _ _ _ _ hx, sv_cell _ _ _ _ hx]
    rw [k 106 (by omega), k 107 (by omega), sv_cell (k' := 55) _ _ _ _ (by omega), sv_cell (k' := 56) _ _ _ _ (by omega)]
    exact this i' hi'
  · have := R1.places (by rw [c0]; exact ho) (by rw [c54]; exact h2)
    have k : ∀ x, x ≠ 66 → it_sv (it_sv (it_sv M 97 i 0) 66 70 (nI i)) 66 71 0 x = it_sv M 97 i 0 x := fun x hx => by rw [sv_cell _ _ _ _ hx, sv_cell _ _ _ _ hx]
    rw [k 108 (by omega), sv_cell (k' := 57) _ _ _ _ (by omega), sv_n2 _ _ _ _ (by omega)]
    exact this
