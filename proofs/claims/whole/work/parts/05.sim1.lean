/-! The small machine's cells as cells of the heap; groups 0 to 3 as steps of the machine. -/
def it_A (sz0 : Nat) : Nat → Prop := fun q => sz0 ≤ q
def it_ad (sz0 : Nat) (ka : Nat → Nat) (k : Nat) : Nat := if k < it_K then sz0 + k else ka (k - it_K)
def it_cv (ad : Nat → Nat) : Value → Value
  | .ref k => .ref (ad k)
  | v => v
theorem it_cv_cat (ad : Nat → Nat) (v : Value) : (it_cv ad v).category = v.category := by cases v <;> rfl
def it_fv (ad : Nat → Nat) (mem : it_Me) (k j : Nat) : Option (Option Nat) → Value
  | none => .int (mem k j)
  | some none => .null
  | some (some r) => .ref (ad r)
def it_ce (ad : Nat → Nat) (cs : Nat → ClassId) (mem : it_Me) (k : Nat) : it_Ce → va_E
  | .inl (ci, fs) => .inr (ci, fs.mapIdx (fun j f => it_fv ad mem k j f))
  | .inr (.inl (_, n)) => .inl (cs k, n, .inl (mem k))
  | .inr (.inr l) => .inl (cs k, l.length, .inr (.inr (.inr (.inr (fun i => (l.getD i none).map ad)))))
def it_w (ad : Nat → Nat) (cs : Nat → ClassId) (sh : it_Sh) (mem : it_Me) : va_W := sh.mapIdx (fun k e => (ad k, it_ce ad cs mem k e))
def it_ty : (Nat × Nat) ⊕ List (Option Nat) → FieldType
  | .inl (0, _) => .int
  | .inl (1, _) => .byte
  | .inl _ => .boolean
  | .inr _ => .object "GrantBoard$Process"
theorem it_w_at {ad : Nat → Nat} {cs : Nat → ClassId} {sh : it_Sh} {mem : it_Me} {k : Nat} {e : it_Ce} (h : sh[k]? = some e) : (it_w ad cs sh mem)[k]? = some (ad k, it_ce ad cs mem k e) := by
  simp [it_w, List.getElem?_mapIdx, h]
theorem it_w_of {ad : Nat → Nat} {cs : Nat → ClassId} {sh : it_Sh} {mem : it_Me} {k : Nat} {q : Nat × va_E} (h : (it_w ad cs sh mem)[k]? = some q) : ∃ e, sh[k]? = some e ∧ q = (ad k, it_ce ad cs mem k e) := by
  simp only [it_w, List.getElem?_mapIdx, Option.map_eq_some_iff] at h
  obtain ⟨e, h1, h2⟩ := h
  exact ⟨e, h1, h2.symm⟩
theorem it_w_len {ad : Nat → Nat} {cs : Nat → ClassId} {sh : it_Sh} {mem : it_Me} : (it_w ad cs sh mem).length = sh.length := by simp [it_w]
theorem it_ad_lt {sz0 : Nat} {ka : Nat → Nat} {k : Nat} (h : k < it_K) : it_ad sz0 ka k = sz0 + k := if_pos h
theorem it_lt {sh : it_Sh} {k : Nat} {e : it_Ce} (h : sh[k]? = some e) : k < sh.length := (List.getElem?_eq_some_iff.mp h).1
/-- the cells lie apart -/
theorem it_D {sz0 : Nat} {ka : Nat → Nat} {cs : Nat → ClassId} {sh : it_Sh} {mem : it_Me} (hl : sh.length ≤ it_K) : va_D (it_A sz0) (it_w (it_ad sz0 ka) cs sh mem) := by
  refine ⟨fun i j x y hx hy hxy => ?_, fun k q hq => ?_⟩
  · obtain ⟨e1, h1, rfl⟩ := it_w_of hx
    obtain ⟨e2, h2, rfl⟩ := it_w_of hy
    have l1 := it_lt h1
    have l2 := it_lt h2
    simp only [it_ad_lt (Nat.lt_of_lt_of_le l1 hl), it_ad_lt (Nat.lt_of_lt_of_le l2 hl)] at hxy
    omega
  · obtain ⟨e1, h1, rfl⟩ := it_w_of hq
    have l1 := it_lt h1
    show sz0 ≤ it_ad sz0 ka k
    rw [it_ad_lt (Nat.lt_of_lt_of_le l1 hl)]
    omega
/-- what a method's activation stands on: the arrays that nobody writes -/
def it_Ko (sz0 : Nat) (ka : Nat → Nat) (kc : it_Kc) (U : State) (H : Heap) : Prop :=
  (∀ j, j < 8 → va_T .int (ka j) (kc j).1 (fun i => .int ((kc j).2 i)) (it_A sz0) U H) ∧ ∀ j z, it_st[j]? = some z → va_Z z.1 z.2.1 z.2.2 (.ref (ka j)) (it_A sz0) U H
/-- the moving world -/
def it_Hp (sz0 : Nat) (ka : Nat → Nat) (D : va_G) (cs : Nat → ClassId) (sh : it_Sh) (mem : it_Me) (s : State) (H : Heap) (locs : List Loc) : Prop :=
  va_P D it_cl (it_w (it_ad sz0 ka) cs sh mem) H ∧ (∀ k e, sh[k]? = some (.inr e) → ArrOfT s (cs k) (it_ty e) ∧ va_RA s (cs k) (it_ty e)) ∧ H.size = sz0 + sh.length ∧ sh.length ≤ it_K ∧ va_S (it_A sz0) s.heap H locs
/-- locals -/
def it_al (ad : Nat → Nat) (l : it_Ls) : List (Nat × Value) := (List.range l.length).filterMap (fun i => match l[i]? with
  | some (some v) => some (i, it_cv ad v)
  | _ => none)
theorem it_al_mem {ad : Nat → Nat} {l : it_Ls} {i : Nat} {v : Value} : (i, v) ∈ it_al ad l ↔ ∃ w, l[i]? = some (some w) ∧ v = it_cv ad w := by
  simp only [it_al, List.mem_filterMap, List.mem_range]
  constructor
  · rintro ⟨j, hj, h⟩
    split at h
    · rename_i w hw
      cases h
      exact ⟨w, hw, rfl⟩
    · cases h
  · rintro ⟨w, hw, rfl⟩
    exact ⟨i, (List.getElem?_eq_some_iff.mp hw).1, by rw [hw]⟩
def it_Lo (lsA : Array Slot) (nL : Nat) (ad : Nat → Nat) (l : it_Ls) : Prop := l.length = nL ∧ lv_has lsA nL (it_al ad l)
theorem it_Lo.get {lsA : Array Slot} {nL : Nat} {ad : Nat → Nat} {l : it_Ls} (h : it_Lo lsA nL ad l) {i : Nat} {w : Value} (hw : l[i]? = some (some w)) : lsA[i]? = some (.val (it_cv ad w)) := h.2.2.2 (i, it_cv ad w) (it_al_mem.mpr ⟨w, hw, rfl⟩)
theorem it_cut_len (l : it_Ls) (i : Nat) : (it_cut l i).length = l.length := by
  cases i with
  | zero => rfl
  | succ i =>
    simp only [it_cut]
    split
    · split <;> simp
    · rfl
theorem it_cut_at {l : it_Ls} {i j : Nat} {w : Value} (h : (it_cut l i)[j]? = some (some w)) : l[j]? = some (some w) ∧ ¬ (j + 1 = i ∧ w.category = 2) := by
  cases i with
  | zero => exact ⟨h, fun q => by omega⟩
  | succ i =>
    simp only [it_cut] at h
    split at h
    · rename_i v hv
      split at h
      · rename_i hc
        by_cases hj : i = j
        · subst hj
          rw [List.getElem?_set_self (by have := (List.getElem?_eq_some_iff.mp hv).1; exact this)] at h
          cases h
        · rw [List.getElem?_set_ne hj] at h
          exact ⟨h, fun q => hj (by omega)⟩
      · rename_i hc
        refine ⟨h, fun q => ?_⟩
        have : j = i := by omega
        subst this
        rw [hv] at h
        cases h
        exact hc q.2
    · rename_i hn
      refine ⟨h, fun q => ?_⟩
      have : j = i := by omega
      subst this
      exact hn w h
theorem it_put1_at {l : it_Ls} {i j : Nat} {v w : Value} (h : (it_put1 l i v)[j]? = some (some w)) : (j = i ∧ w = v) ∨ (j ≠ i ∧ l[j]? = some (some w) ∧ ¬ (j + 1 = i ∧ w.category = 2)) := by
  by_cases hj : i = j
  · subst hj
    simp only [it_put1, List.getElem?_set] at h
    split at h
    · split at h
      · cases h; exact Or.inl ⟨rfl, rfl⟩
      · cases h
    · rename_i q; exact absurd trivial q
  · simp only [it_put1] at h
    rw [List.getElem?_set_ne hj] at h
    obtain ⟨h1, h2⟩ := it_cut_at h
    exact Or.inr ⟨Ne.symm hj, h1, h2⟩
theorem it_put2_at {l : it_Ls} {i j : Nat} {v w : Value} (h : (it_put2 l i v)[j]? = some (some w)) : (j = i ∧ w = v) ∨ (j ≠ i ∧ j ≠ i + 1 ∧ l[j]? = some (some w) ∧ ¬ (j + 1 = i ∧ w.category = 2)) := by
  by_cases hj : i + 1 = j
  · subst hj
    simp only [it_put2, List.getElem?_set] at h
    split at h
    · split at h <;> cases h
    · rename_i q; exact absurd trivial q
  · simp only [it_put2] at h
    rw [List.getElem?_set_ne hj] at h
    rcases it_put1_at h with h | ⟨h1, h2, h3⟩
    · exact Or.inl h
    · exact Or.inr ⟨h1, Ne.symm hj, h2, h3⟩
theorem it_Lo.put1 {lsA : Array Slot} {nL : Nat} {ad : Nat → Nat} {l : it_Ls} {i : Nat} {v : Value} (h : l.length = nL) (h1 : lv_has lsA nL ((i, it_cv ad v) :: (it_al ad l).filter (fun q => !(q.1 == i) && !(q.1 + 1 == i && q.2.category == 2))))
    : ∀ lsB : Array Slot, lv_has lsB nL ((i, it_cv ad v) :: (it_al ad l).filter (fun q => !(q.1 == i) && !(q.1 + 1 == i && q.2.category == 2))) → it_Lo lsB nL ad (it_put1 l i v) := by
  intro lsB hB
  refine ⟨by rw [it_put1, List.length_set, it_cut_len, h], hB.1, hB.2.1, ?_⟩
  rintro ⟨j, x⟩ hq
  obtain ⟨w, hw, rfl⟩ := it_al_mem.mp hq
  rcases it_put1_at hw with ⟨rfl, rfl⟩ | ⟨g1, g2, g3⟩
  · exact hB.2.2 _ List.mem_cons_self
  · refine hB.2.2 _ (List.mem_cons_of_mem _ (List.mem_filter.mpr ⟨it_al_mem.mpr ⟨w, g2, rfl⟩, ?_⟩))
    simp only [it_cv_cat]
    by_cases q : j + 1 = i <;> simp [g1, q]
    intro z
    exact g3 ⟨q, z⟩
theorem it_Lo.of1 {lsB : Array Slot} {nL : Nat} {ad : Nat → Nat} {l : it_Ls} {i : Nat} {v : Value} (h : l.length = nL) (hB : lv_has lsB nL ((i, it_cv ad v) :: (it_al ad l).filter (fun q => !(q.1 == i) && !(q.1 + 1 == i && q.2.category == 2)))) : it_Lo lsB nL ad (it_put1 l i v) := it_Lo.put1 h hB lsB hB
theorem it_Lo.of2 {lsB : Array Slot} {nL : Nat} {ad : Nat → Nat} {l : it_Ls} {i : Nat} {v : Value} (h : l.length = nL) (hB : lv_has lsB nL ((i, it_cv ad v) :: (it_al ad l).filter (fun q => !(q.1 == i) && (!(q.1 == i + 1) && !(q.1 + 1 == i && q.2.category == 2))))) : it_Lo lsB nL ad (it_put2 l i v) := by
  refine ⟨by rw [it_put2, List.length_set, List.length_set, it_cut_len, h], hB.1, hB.2.1, ?_⟩
  rintro ⟨j, x⟩ hq
  obtain ⟨w, hw, rfl⟩ := it_al_mem.mp hq
  rcases it_put2_at hw with ⟨rfl, rfl⟩ | ⟨g1, g4, g2, g3⟩
  · exact hB.2.2 _ List.mem_cons_self
  · refine hB.2.2 _ (List.mem_cons_of_mem _ (List.mem_filter.mpr ⟨it_al_mem.mpr ⟨w, g2, rfl⟩, ?_⟩))
    simp only [it_cv_cat]
    by_cases q : j + 1 = i <;> simp [g1, g4, q]
    intro z
    exact g3 ⟨q, z⟩
/-- a method's locals as it is entered -/
theorem it_ent_at {ad : Nat → Nat} : ∀ (vs : List Value) (k i : Nat) (w : Value), (it_ent vs)[i]? = some (some w) → (k + i, it_cv ad w) ∈ lv_args k (vs.map (it_cv ad))
  | [], k, i, w, h => by simp [it_ent] at h
  | v :: vs, k, i, w, h => by
    have hc : it_ent (v :: vs) = (if v.category = 2 then [some v, none] else [some v]) ++ it_ent vs := by simp [it_ent]
    rw [hc] at h
    simp only [List.map_cons, lv_args, it_cv_cat]
    by_cases h2 : v.category = 2
    · rw [if_pos h2] at h
      rw [if_pos h2]
      match i, h with
      | 0, h => cases h; exact List.mem_cons_self
      | 1, h => cases h
      | i + 2, h =>
        have h' : (it_ent vs)[i]? = some (some w) := by simpa using h
        have := it_ent_at (ad := ad) vs (k + 2) i w h'
        rw [show k + (i + 2) = k + 2 + i by omega]
        exact List.mem_cons_of_mem _ this
    · rw [if_neg h2] at h
      rw [if_neg h2]
      match i, h with
      | 0, h => cases h; exact List.mem_cons_self
      | i + 1, h =>
        have h' : (it_ent vs)[i]? = some (some w) := by simpa using h
        have := it_ent_at (ad := ad) vs (k + 1) i w h'
        rw [show k + (i + 1) = k + 1 + i by omega]
        exact List.mem_cons_of_mem _ this
theorem it_ent_len (ad : Nat → Nat) (vs : List Value) : (lg_sl (vs.map (it_cv ad))).length = (it_ent vs).length := by
  induction vs with
  | nil => rfl
  | cons v vs ih =>
    simp only [lg_sl, it_ent, List.map_cons, List.flatMap_cons, List.length_append, it_cv_cat] at ih ⊢
    rw [ih]
    split <;> rfl
theorem it_Lo.entry {ad : Nat → Nat} {vs : List Value} {n : Nat} (h : (it_ent vs).length ≤ n) : it_Lo ((lg_sl (vs.map (it_cv ad)) ++ List.replicate (n - (lg_sl (vs.map (it_cv ad))).length) Slot.unset).toArray) n ad (it_loc0 vs n) := by
  have hl := lv_entry (vs.map (it_cv ad)) (n := n) (by rw [it_ent_len]; exact h)
  refine ⟨by simp [it_loc0]; omega, hl.1, hl.2.1, ?_⟩
  rintro ⟨j, x⟩ hq
  obtain ⟨w, hw, rfl⟩ := it_al_mem.mp hq
  refine hl.2.2 _ ?_
  have hw' : (it_ent vs)[j]? = some (some w) := by
    by_cases hj : j < (it_ent vs).length
    · rwa [it_loc0, List.getElem?_append_left hj] at hw
    · rw [it_loc0, List.getElem?_append_right (by omega), List.getElem?_replicate] at hw
      split at hw <;> cases hw
  have := it_ent_at (ad := ad) vs 0 j w hw'
  rwa [Nat.zero_add] at this
