/-! The scheduler by levels: the least, the greatest. -/
theorem minI (a b : Int32) : (it_min a b).toInt = min a.toInt b.toInt := by
  show (if b < a then b else a).toInt = _
  by_cases h : b < a
  · have h' := Int32.lt_iff_toInt_lt.mp h
    rw [if_pos h]
    omega
  · have h' : ¬ b.toInt < a.toInt := fun z => h (Int32.lt_iff_toInt_lt.mpr z)
    rw [if_neg h]
    omega
theorem c_152 {kc : it_Kc} {B : Nat} {m : it_Me} (hI : Inv B m) {Φ : Int32 → it_Me → Prop} (h : Φ (bI (∃ i, i < cnt m ∧ cr m i)) m) : w_152 kc m Φ := by
  have h8 := cnt_le hI
  have lp : ∀ d k, k + d = cnt m → (∀ j, j < k → ¬ cr m j) → w_152_2 kc Φ (fun m => w_152_28 kc Φ m) (fun m => w_152_36 kc Φ m) (d + 1) (nI k) m := by
    intro d
    induction d with
    | zero =>
      intro k hk hno
      unfold w_152_2
      rw [cntI hI]
      refine ⟨fun _ => ?_, fun y => absurd ((nLe (by omega) (by omega)).2 (by omega)) y⟩
      unfold w_152_36
      rw [bI_f (fun ⟨i, hi, c⟩ => hno i (by omega) c)] at h
      exact h
    | succ d ih =>
      intro k hk hno
      unfold w_152_2
      rw [cntI hI]
      refine ⟨fun y => absurd ((nLe (by omega) (by omega)).1 y) (by omega), fun _ => ?_⟩
      rw [cI (by omega)]
      refine ⟨vI (by omega), c_130 ?_⟩
      by_cases c : cr m k
      · rw [bI_t c]
        refine ⟨fun y => absurd y (by decide), fun _ => ?_⟩
        unfold w_152_28
        rw [bI_t ⟨k, by omega, c⟩] at h
        exact h
      · rw [bI_f c, nI_s1]
        refine ⟨fun _ => ih (k + 1) (by omega) (fun j hj => ?_), fun y => absurd rfl y⟩
        by_cases e : j = k
        · subst e; exact c
        · exact hno j (by omega)
  exact ⟨cnt m + 1, lp (cnt m) 0 (by omega) (fun j hj => absurd hj (Nat.not_lt_zero _))⟩
/-- j goes before v -/
abbrev lpQ (m : it_Me) (v : Int32) (j : Nat) : Prop := v = -1 ∨ m 55 j < m 55 (Int32.toNatClampNeg v) ∨ (m 55 j = m 55 (Int32.toNatClampNeg v) ∧ ¬ m 57 (Int32.toNatClampNeg v) ≤ m 57 j)
def lpN (m : it_Me) (v : Int32) (j : Nat) : Int32 := if cr m j ∧ lpQ m v j then nI j else v
def lpf (m : it_Me) : Nat → Nat → Int32 → Int32
  | 0, _, v => v
  | r + 1, j, v => lpf m r (j + 1) (lpN m v j)
def lpI (m : it_Me) (n j : Nat) (v : Int32) : Prop := (v = -1 ∧ ∀ i, i < j → ¬ cr m i) ∨ ∃ a, a < n ∧ v = nI a ∧ cr m a
theorem lpN_I {m : it_Me} {n j : Nat} (hj : j < n) {v : Int32} (hv : lpI m n j v) : lpI m n (j + 1) (lpN m v j) := by
  unfold lpN
  by_cases h : cr m j ∧ lpQ m v j
  · rw [if_pos h]; exact Or.inr ⟨j, hj, rfl, h.1⟩
  · rw [if_neg h]
    rcases hv with ⟨e, hn⟩ | hv
    · refine Or.inl ⟨e, fun i hi c => ?_⟩
      by_cases q : i = j
      · subst q; exact h ⟨c, Or.inl e⟩
      · exact hn i (by omega) c
    · exact Or.inr hv
theorem lpf_I {m : it_Me} {n : Nat} : ∀ (r j : Nat) {v : Int32}, j + r = n → lpI m n j v → lpI m n n (lpf m r j v)
  | 0, j, v, e, h => by
    have : j = n := by omega
    subst this
    exact h
  | r + 1, j, v, e, h => lpf_I r (j + 1) (by omega) (lpN_I (by omega) h)
theorem c_154l {kc : it_Kc} {B : Nat} {m : it_Me} (hI : Inv B m) {Φ : Int32 → it_Me → Prop} {K : Int32 → it_Me → Prop} : ∀ (r j : Nat) (v : Int32), j + r = cnt m → lpI m (cnt m) j v → K (lpf m r j v) m → w_154_4 kc Φ K (r + 1) v (nI j) m := by
  have h8 := cnt_le hI
  intro r
  induction r with
  | zero =>
    intro j v hj hv h
    unfold w_154_4
    rw [cntI hI]
    exact ⟨fun _ => h, fun y => absurd ((nLe (by omega) (by omega)).2 (by omega)) y⟩
  | succ r ih =>
    intro j v hj hv h
    have jc : j < cnt m := by omega
    have nx := ih (j + 1) (lpN m v j) (by omega) (lpN_I jc hv) h
    have yes : cr m j ∧ lpQ m v j → w_154_80 kc Φ (w_154_4 kc Φ K (r + 1)) K (nI j) m := fun q => by
      unfold w_154_80 w_154_82
      unfold lpN at nx
      rw [if_pos q] at nx
      rw [nI_s1]
      exact nx
    have no : ¬ (cr m j ∧ lpQ m v j) → w_154_82 kc Φ (w_154_4 kc Φ K (r + 1)) K v (nI j) m := fun q => by
      unfold w_154_82
      unfold lpN at nx
      rw [if_neg q] at nx
      rw [nI_s1]
      exact nx
    unfold w_154_4
    rw [cntI hI]
    refine ⟨fun y => absurd ((nLe (by omega) (by omega)).1 y) (by omega), fun _ => ?_⟩
    rw [cI (by omega)]
    refine ⟨vI (by omega), c_130 ?_⟩
    by_cases c : cr m j
    · rw [bI_t c]
      refine ⟨fun y => absurd y (by decide), fun _ => ⟨fun e => yes ⟨c, Or.inl e⟩, fun e => ?_⟩⟩
      have va : vp_in v 8 := by
        rcases hv with y | ⟨a, ha, ea, _⟩
        · exact absurd y.1 e
        · rw [ea]; exact vI (by omega)
      refine ⟨vI (by omega), va, fun l => yes ⟨c, Or.inr (Or.inl l)⟩, fun l => ⟨vI (by omega), va, fun l2 => ⟨vI (by omega), va, fun l3 => no (fun q => ?_), fun l3 => yes ⟨c, Or.inr (Or.inr ⟨l2, l3⟩)⟩⟩, fun l2 => no (fun q => ?_)⟩⟩
      · rcases q.2 with z | z | z
        · exact e z
        · exact l z
        · exact z.2 l3
      · rcases q.2 with z | z | z
        · exact e z
        · exact l z
        · exact l2 z.1
    · rw [bI_f c]
      exact ⟨fun _ => no (fun q => c q.1), fun y => absurd rfl y⟩
theorem r_315l {kc : it_Kc} {B : Nat} {m M : it_Me} (hI : Inv B m) (hM : Rel m M) (ho : m 0 10 = 1) (h2 : m 54 2 = 2) {Φ : it_Me → Prop} {K : Int32 → it_Me → Prop} : ∀ (r j : Nat) (v : Int32), j + r = cnt m → lpI m (cnt m) j v → K (lpf m r j v) M → w_315_159 kc Φ K (r + 1) v (nI j) M := by
  have h8 := cnt_le hI
  have lv := hM.levels ho h2
  have pl := (hM.places ho h2).1
  have ple : ∀ i j, i < cnt m → j < cnt m → (M 108 i ≤ M 108 j ↔ m 57 i ≤ m 57 j) := fun i j hi hj => by
    have := pl j i hj hi
    rw [Int32.lt_iff_toInt_lt, Int32.lt_iff_toInt_lt] at this
    rw [Int32.le_iff_toInt_le, Int32.le_iff_toInt_le]
    omega
  intro r
  induction r with
  | zero =>
    intro j v hj hv h
    unfold w_315_159
    rw [hM.count, cntI hI]
    exact ⟨fun _ => h, fun y => absurd ((nLe (by omega) (by omega)).2 (by omega)) y⟩
  | succ r ih =>
    intro j v hj hv h
    have jc : j < cnt m := by omega
    have nx := ih (j + 1) (lpN m v j) (by omega) (lpN_I jc hv) h
    have yes : lpQ m v j → w_315_217 kc Φ (w_315_159 kc Φ K (r + 1)) K v (nI j) M := fun q => by
      unfold w_315_217 w_315_222 w_315_239 w_315_240
      unfold lpN at nx
      rw [nI_s1]
      refine r_312 hM (by omega) jc ?_
      by_cases c : cr m j
      · rw [bI_t c]
        rw [if_pos ⟨c, q⟩] at nx
        exact ⟨fun y => absurd y (by decide), fun _ => ⟨fun y => absurd y (by decide), fun _ => nx⟩⟩
      · rw [bI_f c]
        rw [if_neg (fun y => c y.1)] at nx
        exact ⟨fun _ => nx, fun y => absurd rfl y⟩
    have no : ¬ lpQ m v j → w_315_221 kc Φ (w_315_159 kc Φ K (r + 1)) K v (nI j) M := fun q => by
      unfold w_315_221 w_315_222 w_315_239 w_315_240
      unfold lpN at nx
      rw [if_neg (fun y => q y.2)] at nx
      rw [nI_s1]
      refine r_312 hM (by omega) jc ?_
      exact ⟨fun _ => nx, fun _ => ⟨fun _ => nx, fun y => absurd rfl y⟩⟩
    unfold w_315_159
    rw [hM.count, cntI hI]
    refine ⟨fun y => absurd ((nLe (by omega) (by omega)).1 y) (by omega), fun _ => ⟨fun e => yes (Or.inl e), fun e => ?_⟩⟩
    rcases hv with y | ⟨a, ha, ea, ca⟩
    · exact absurd y.1 e
    · subst ea
      have ca8 := cI (show a < 8 by omega)
      have cj8 := cI (show j < 8 by omega)
      rw [ca8, cj8, (lv a ha).1, (lv j jc).1, ple a j ha jc]
      have va := vI (show a < 8 by omega)
      have vj := vI (show j < 8 by omega)
      refine ⟨vj, va, fun l => yes (Or.inr (Or.inl (by rw [ca8]; exact l))), fun l => ⟨vj, va, fun l2 => ⟨vj, va, fun l3 => no (fun q => ?_), fun l3 => yes (Or.inr (Or.inr (by rw [ca8]; exact ⟨l2, l3⟩)))⟩, fun l2 => no (fun q => ?_)⟩⟩
      · rcases q with z | z | z
        · exact e z
        · rw [ca8] at z; exact l z
        · rw [ca8] at z; exact z.2 l3
      · rcases q with z | z | z
        · exact e z
        · rw [ca8] at z; exact l z
        · rw [ca8] at z; exact l2 z.1
/-- the greatest place -/
def mxN (M : it_Me) : Nat → Int32
  | 0 => 0
  | j + 1 => it_max (mxN M j) (M 108 j)
theorem mxN_b {M : it_Me} {X : Int} (hX : 0 ≤ X) : ∀ n, (∀ i, i < n → 0 ≤ (M 108 i).toInt ∧ (M 108 i).toInt ≤ X) → 0 ≤ (mxN M n).toInt ∧ (mxN M n).toInt ≤ X ∧ ∀ i, i < n → (M 108 i).toInt ≤ (mxN M n).toInt
  | 0, _ => ⟨by show (0 : Int) ≤ 0; omega, hX, fun i hi => absurd hi (Nat.not_lt_zero _)⟩
  | n + 1, h => by
    have k := mxN_b (M := M) hX n (fun i hi => h i (by omega))
    have hn := h n (by omega)
    have e : (mxN M (n + 1)).toInt = max (mxN M n).toInt (M 108 n).toInt := maxI _ _
    refine ⟨by omega, by omega, fun i hi => ?_⟩
    by_cases q : i = n
    · subst q; omega
    · have := k.2.2 i (by omega); omega
theorem r_315m {kc : it_Kc} {B : Nat} {m M : it_Me} (hI : Inv B m) (hM : Rel m M) {Φ : it_Me → Prop} {K : Int32 → it_Me → Prop} {N : it_Me} (hN : N 66 34 = M 66 34) (h : K (mxN N (cnt m)) N) : ∀ r j, j + r = cnt m → w_315_118 kc Φ K (r + 1) (mxN N j) (nI j) N := by
  have h8 := cnt_le hI
  intro r
  induction r with
  | zero =>
    intro j hj
    have : j = cnt m := by omega
    subst this
    unfold w_315_118
    rw [hN, hM.count, cntI hI]
    exact ⟨fun _ => h, fun y => absurd ((nLe (by omega) (by omega)).2 (by omega)) y⟩
  | succ r ih =>
    intro j hj
    unfold w_315_118
    rw [hN, hM.count, cntI hI, cI (by omega), nI_s1]
    exact ⟨fun y => absurd ((nLe (by omega) (by omega)).1 y) (by omega), fun _ => ⟨vI (by omega), ih (j + 1) (by omega)⟩⟩
