/-! Locals that nobody reads may hold anything. -/
def it_ag : it_Ls → it_Ls → Prop
  | [], [] => True
  | none :: l, _ :: k => it_ag l k
  | some v :: l, o :: k => o = some v ∧ it_ag l k
  | _, _ => False
theorem it_ag_len : ∀ {l k : it_Ls}, it_ag l k → l.length = k.length
  | [], [], _ => rfl
  | none :: l, _ :: k, h => by simp [it_ag_len (l := l) (k := k) h]
  | some v :: l, o :: k, h => by simp [it_ag_len (l := l) (k := k) h.2]
theorem it_ag_at : ∀ {l k : it_Ls}, it_ag l k → ∀ (i : Nat) (v : Value), l[i]? = some (some v) → k[i]? = some (some v)
  | [], [], _, i, v, h => by simp at h
  | none :: l, _ :: k, h, i, v, hi => by
    cases i with
    | zero => simp at hi
    | succ i => simpa using it_ag_at (l := l) (k := k) h i v (by simpa using hi)
  | some w :: l, o :: k, h, i, v, hi => by
    cases i with
    | zero => simp at hi; subst hi; simp [h.1]
    | succ i => simpa using it_ag_at (l := l) (k := k) h.2 i v (by simpa using hi)
def it_ag2 (l k : it_Ls) : Prop := l.length = k.length ∧ ∀ (i : Nat) (v : Value), l[i]? = some (some v) → k[i]? = some (some v)
theorem it_cut_kept {l : it_Ls} {i j : Nat} {w : Value} (h : l[j]? = some (some w)) (hn : ¬ (j + 1 = i ∧ w.category = 2)) : (it_cut l i)[j]? = some (some w) := by
  cases i with
  | zero => exact h
  | succ i =>
    simp only [it_cut]
    split
    · rename_i v hv
      split
      · rename_i hc
        by_cases hj : i = j
        · subst hj
          rw [hv] at h
          cases h
          exact absurd ⟨rfl, hc⟩ hn
        · rw [List.getElem?_set_ne hj]; exact h
      · exact h
    · exact h
theorem it_ag2.put1 {l k : it_Ls} (h : it_ag2 l k) (i : Nat) (v : Value) (hi : i < l.length) : it_ag2 (it_put1 l i v) (it_put1 k i v) := by
  refine ⟨by rw [it_put1, it_put1, List.length_set, List.length_set, it_cut_len, it_cut_len, h.1], fun j w hj => ?_⟩
  rcases it_put1_at hj with ⟨rfl, rfl⟩ | ⟨h1, h2, h3⟩
  · rw [it_put1, List.getElem?_set_self (by rw [it_cut_len, ← h.1]; exact hi)]
  · rw [it_put1, List.getElem?_set_ne (Ne.symm h1)]
    exact it_cut_kept (h.2 j w h2) h3
theorem it_ag2.put2 {l k : it_Ls} (h : it_ag2 l k) (i : Nat) (v : Value) (hi : i < l.length) : it_ag2 (it_put2 l i v) (it_put2 k i v) := by
  refine ⟨by rw [it_put2, it_put2, List.length_set, List.length_set, List.length_set, List.length_set, it_cut_len, it_cut_len, h.1], fun j w hj => ?_⟩
  rcases it_put2_at hj with ⟨rfl, rfl⟩ | ⟨h1, h4, h2, h3⟩
  · rw [it_put2, List.getElem?_set_ne (by omega), List.getElem?_set_self (by rw [it_cut_len, ← h.1]; exact hi)]
  · rw [it_put2, List.getElem?_set_ne (Ne.symm h4), List.getElem?_set_ne (Ne.symm h1)]
    exact it_cut_kept (h.2 j w h2) h3
theorem it_loc_ag {l k l1 : it_Ls} {ins : Instr} {st st1 : List Value} (h : it_ag2 l k) (hr : it_loc ins l st = some (l1, st1)) : ∃ k1, it_loc ins k st = some (k1, st1) ∧ it_ag2 l1 k1 := by
  have hlen := h.1
  have ldi : ∀ i, it_ldi l i st = some (l1, st1) → ∃ k1, it_ldi k i st = some (k1, st1) ∧ it_ag2 l1 k1 := fun i hr => by
    unfold it_ldi at hr
    split at hr
    · rename_i x hx; cases hr; exact ⟨k, by simp only [it_ldi, h.2 _ _ hx], h⟩
    · cases hr
  have ldl : ∀ i, it_ldl l i st = some (l1, st1) → ∃ k1, it_ldl k i st = some (k1, st1) ∧ it_ag2 l1 k1 := fun i hr => by
    unfold it_ldl at hr
    split at hr
    · rename_i x hx; cases hr; exact ⟨k, by simp only [it_ldl, h.2 _ _ hx], h⟩
    · cases hr
  have lda : ∀ i, it_lda l i st = some (l1, st1) → ∃ k1, it_lda k i st = some (k1, st1) ∧ it_ag2 l1 k1 := fun i hr => by
    unfold it_lda at hr
    split at hr
    · rename_i x hx; cases hr; exact ⟨k, by simp only [it_lda, h.2 _ _ hx], h⟩
    · rename_i hx; cases hr; exact ⟨k, by simp only [it_lda, h.2 _ _ hx], h⟩
    · cases hr
  unfold it_loc at hr
  split at hr
  · exact ldi _ hr
  · exact ldi _ hr
  · exact ldl _ hr
  · exact ldl _ hr
  · exact lda _ hr
  · exact lda _ hr
  · split at hr
    · rename_i hi; cases hr; exact ⟨_, by simp only [it_loc]; rw [if_pos (by omega)], h.put1 _ _ hi⟩
    · cases hr
  · split at hr
    · rename_i hi; cases hr; exact ⟨_, by simp only [it_loc]; rw [if_pos (by omega)], h.put1 _ _ hi⟩
    · cases hr
  · split at hr
    · rename_i hi; cases hr; exact ⟨_, by simp only [it_loc]; rw [if_pos (by omega)], h.put2 _ _ (by omega)⟩
    · cases hr
  · split at hr
    · rename_i hi; cases hr; exact ⟨_, by simp only [it_loc]; rw [if_pos (by omega)], h.put2 _ _ (by omega)⟩
    · cases hr
  · split at hr
    · rename_i hi; cases hr; exact ⟨_, by simp only [it_loc]; rw [if_pos (by omega)], h.put1 _ _ hi⟩
    · cases hr
  · split at hr
    · rename_i hi; cases hr; exact ⟨_, by simp only [it_loc]; rw [if_pos (by omega)], h.put1 _ _ hi⟩
    · cases hr
  · split at hr
    · rename_i hi; cases hr; exact ⟨_, by simp only [it_loc]; rw [if_pos (by omega)], h.put1 _ _ hi⟩
    · cases hr
  · split at hr
    · rename_i hi; cases hr; exact ⟨_, by simp only [it_loc]; rw [if_pos (by omega)], h.put1 _ _ hi⟩
    · cases hr
  · split at hr
    · rename_i x hx
      cases hr
      exact ⟨_, by simp only [it_loc, h.2 _ _ hx], h.put1 _ _ (List.getElem?_eq_some_iff.mp hx).1⟩
    · cases hr
  · cases hr
theorem it_run_ag (kc : it_Kc) : ∀ (n y pc : Nat) (l k : it_Ls) (st : List Value) (sh : it_Sh) (mem : it_Me) (x : Option Value × it_Sh × it_Me), it_ag2 l k → it_run kc n y pc l st sh mem = some x → it_run kc n y pc k st sh mem = some x
  | 0, _, _, _, _, _, _, _, _, _, h => by simp [it_run] at h
  | n + 1, y, pc, l, k, st, sh, mem, x, hg, h => by
    rw [it_run] at h ⊢
    split at h
    · split at h
      · split at h
        · exact it_run_ag kc n _ _ _ _ _ _ _ _ hg h
        · cases h
      · split at h
        · rename_i h1
          obtain ⟨k1, h2, h3⟩ := it_loc_ag hg h1
          simp only [h2]
          exact it_run_ag kc n _ _ _ _ _ _ _ _ h3 h
        · cases h
      · split at h
        · exact it_run_ag kc n _ _ _ _ _ _ _ _ hg h
        · cases h
      · split at h
        · exact it_run_ag kc n _ _ _ _ _ _ _ _ hg h
        · cases h
      · split at h
        · exact it_run_ag kc n _ _ _ _ _ _ _ _ hg h
        · cases h
      · split at h
        · split at h
          · rename_i h2
            split at h
            · rename_i h3
              simp only [if_pos h2]
              exact it_run_ag kc n _ _ _ _ _ _ _ _ hg h
            · cases h
          · cases h
        · cases h
      · split at h
        · exact h
        · cases h
      · split at h
        · exact it_run_ag kc n _ _ _ _ _ _ _ _ hg h
        · cases h
      · cases h
    · cases h
theorem it_V.weak {kc : it_Kc} {sh : it_Sh} {y pc : Nat} {l k : it_Ls} {st : List Value} {mem : it_Me} {Ψ : Option Value → it_Me → Prop} (hg : it_ag l k) (v : it_V kc sh y pc l st mem Ψ) : it_V kc sh y pc k st mem Ψ := by
  obtain ⟨n, r, m, h1, h2⟩ := v
  exact ⟨n, r, m, it_run_ag kc _ _ _ _ _ _ _ _ _ ⟨it_ag_len hg, it_ag_at hg⟩ h1, h2⟩
theorem it_isP_len {k : Nat} (h : it_isP k) : k < it_sh0.length := (List.getElem?_eq_some_iff.mp h.1).1
theorem it_V.acmp {kc : it_Kc} {y pc : Nat} {ls : it_Ls} {st : List Value} {mem : it_Me} {Ψ : Option Value → it_Me → Prop} {c : List (List (Option it_En))} {M : it_Mt} {a b : Nat} {o : Int} (hc : it_cds[y]? = some c) (hM : it_mt[y]? = some M) (hl : it_lk c pc = some (2, .if_acmp .ne o, a, b)) {x z : Nat} (hx : it_isP x) (hz : it_isP z) (v : it_V kc it_sh0 y (if x = z then pc + 3 else a) ls st mem Ψ) : it_V kc it_sh0 y pc ls (.ref z :: .ref x :: st) mem Ψ := by
  refine it_V.s1 hc hM ?_ v
  simp only [it_s1, hl, it_br]
  rw [if_pos ⟨it_isP_len hx, it_isP_len hz⟩]
