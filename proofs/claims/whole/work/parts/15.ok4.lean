/-! it_OK: what the theorem of the small machine asks of my lists. -/
theorem it_code_spec {y pc : Nat} {x : it_En} (h : it_code y pc = some x) : ∃ c r, it_cds[y]? = some c ∧ c[pc / 16]? = some r ∧ r[pc % 16]? = some (some x) := by
  unfold it_code at h
  split at h
  · rename_i c hc
    split at h
    · rename_i r hr
      split at h
      · rename_i z hz
        exact ⟨c, r, hc, hr, by rw [hz, h]⟩
      · cases h
    · cases h
  · cases h
theorem it_has {α : Type} [BEq α] [LawfulBEq α] {l : List α} {x : α} (h : l.contains x = true) : x ∈ l := List.contains_iff_mem.mp h
theorem it_lkb_ok {own : String} {o pc a b : Nat} {ins : Instr} (ho : it_cn[o]? = some own) (h : it_lkb o pc ins a b = true) : it_Lk own pc ins a b := by
  have field : ∀ i, it_FT.contains (o, i, a, b) = true → ∃ q, it_cl[a]? = some q ∧ b < q.2.2 ∧ (q.2.1 b).1 = q.1 ∧ Cond.fieldLink own i q.1 (q.2.1 b).2.1 (q.2.1 b).2.2.1 ∈ it_tb := fun i h => by
    obtain ⟨own', q, h1, h2, h3, h4, h5⟩ := it_FT_ok _ (it_has h)
    cases ho.symm.trans h1
    exact ⟨q, h2, h3, h4, h5⟩
  have cnst : ∀ i, it_IT.contains (o, i, b) = true → Cond.constant own i (Int32.ofNat b) ∈ it_tb := fun i h => by
    obtain ⟨own', h1, h2⟩ := it_IT_ok _ (it_has h)
    cases ho.symm.trans h1
    exact h2
  have call : ∀ i, it_MT.contains (o, i, a, b) = true → ∃ y, it_mnm a = some y ∧ it_ml own i y ∧ (9996 ≤ a → Cond.methodLink own i y ∈ it_tb) := fun i h => by
    obtain ⟨own', y, h1, h2, h3⟩ := it_MT_ok _ (it_has h)
    cases ho.symm.trans h1
    exact ⟨y, h2, h3⟩
  have cls : ∀ i, it_CT.contains (o, i, a) = true → ∃ q, it_cl[a]? = some q ∧ Cond.classLink own i q.1 ∈ it_tb ∧ Cond.instantiable q.1 q.2.2 ∈ it_tb ∧ Cond.initialized q.1 ∈ it_tb := fun i h => by
    obtain ⟨own', q, h1, h2, h3⟩ := it_CT_ok _ (it_has h)
    cases ho.symm.trans h1
    exact ⟨q, h2, h3⟩
  have big : ∀ M, it_mt[a]? = some M → a < 9000 := fun M hM => by
    have hl : it_mt.length ≤ 9000 := by decide +kernel
    have := (List.getElem?_eq_some_iff.mp hM).1
    omega
  have nm : ∀ {y : MethodName}, it_mnm a = some y → ∀ M, it_mt[a]? = some M → M.1.2 = y := fun h M hM => by
    have := big M hM
    simp only [it_mnm, if_neg (show ¬ a = 9998 by omega), if_neg (show ¬ a = 9999 by omega), if_neg (show ¬ a = 9996 by omega), if_neg (show ¬ a = 9997 by omega), hM] at h
    exact Option.some.inj h
  cases ins with
  | ldc i => exact cnst i h
  | ldc_w i => exact cnst i h
  | ldc2_w i =>
    obtain ⟨own', h1, h2⟩ := it_LT_ok _ (it_has (show it_LT.contains (o, i, b) = true from h))
    cases ho.symm.trans h1
    exact h2
  | goto f =>
    simp only [it_lkb, decide_eq_true_eq] at h
    exact h
  | ifCond c f =>
    simp only [it_lkb, decide_eq_true_eq] at h
    exact h
  | if_icmp c f =>
    simp only [it_lkb, decide_eq_true_eq] at h
    exact h
  | ifnull f =>
    simp only [it_lkb, decide_eq_true_eq] at h
    exact h
  | ifnonnull f =>
    simp only [it_lkb, decide_eq_true_eq] at h
    exact h
  | if_acmp c f =>
    simp only [it_lkb, decide_eq_true_eq] at h
    exact h
  | tableswitch d lo hi offs =>
    simp only [it_lkb, Bool.and_eq_true, decide_eq_true_eq] at h
    exact ⟨h.1, it_swb_ok h.2⟩
  | lookupswitch d ps =>
    simp only [it_lkb, Bool.and_eq_true] at h
    exact ⟨h.1, it_swb_ok h.2⟩
  | getfield i => exact field i h
  | putfield i => exact field i h
  | getstatic i =>
    obtain ⟨own', z, h1, h2, h3⟩ := it_ST_ok _ (it_has (show it_ST.contains (o, i, a, b) = true from h))
    cases ho.symm.trans h1
    exact ⟨z, h2, h3⟩
  | new i => exact cls i h
  | newarray t =>
    cases t with
    | int => exact it_w_arrI
    | byte => exact it_w_arrB
    | boolean => exact it_w_arrZ
    | _ => cases h
  | anewarray i =>
    simp only [it_lkb, Bool.and_eq_true, beq_iff_eq] at h
    obtain ⟨rfl, h⟩ := h
    obtain ⟨q, h1, h2, -⟩ := cls i h
    cases h1
    exact ⟨h2, it_w_over⟩
  | invokespecial i =>
    simp only [it_lkb, Bool.and_eq_true, Bool.or_eq_true, beq_iff_eq] at h
    obtain ⟨y, h1, h2, h9⟩ := call i h.1
    simp only [it_Lk]
    split
    · rename_i ha
      simp only [it_mnm, if_pos ha] at h1
      cases h1
      exact ⟨h9 (by omega), it_w_obj.1, it_w_obj.2⟩
    · rename_i ha
      intro M hM
      have hk := it_k_ok a M hM
      have hkd : it_kd.getD a 9 = 2 := h.2.resolve_left ha
      rw [hkd] at hk
      obtain ⟨-, -, -, -, -, -, g1, g2, g3⟩ := hk
      exact ⟨g2, g3, by rw [nm h1 M hM]; exact h2, g1⟩
  | invokestatic i =>
    simp only [it_lkb, Bool.and_eq_true, Bool.or_eq_true, beq_iff_eq] at h
    obtain ⟨y, h1, h2, h9⟩ := call i h.1
    simp only [it_Lk]
    split
    · rename_i ha
      subst ha
      cases h1
      exact ⟨h9 (by omega), it_w_cpy.1, it_w_cpy.2.1, it_w_cpy.2.2⟩
    · rename_i ha
      split
      · rename_i hb
        subst hb
        cases h1
        exact ⟨h9 (by omega), it_w_max.1, it_w_max.2.1, it_w_max.2.2⟩
      · rename_i hb
        split
        · rename_i hc
          subst hc
          cases h1
          exact ⟨h9 (by omega), it_w_min.1, it_w_min.2.1, it_w_min.2.2⟩
        · rename_i hc
          intro M hM
          have hk := it_k_ok a M hM
          have hkd : it_kd.getD a 9 = 0 := ((h.2.resolve_left ha).resolve_left hb).resolve_left hc
          rw [hkd] at hk
          obtain ⟨-, -, -, -, -, -, g1⟩ := hk
          exact ⟨by rw [nm h1 M hM]; exact h2, g1⟩
  | invokevirtual i =>
    simp only [it_lkb, Bool.and_eq_true, beq_iff_eq, bne_iff_ne, ne_eq] at h
    obtain ⟨y, h1, h2, h9⟩ := call i h.1
    intro M hM
    have hk := it_k_ok a M hM
    rw [h.2.2.2] at hk
    obtain ⟨-, -, -, -, -, -, g1, g2, g3⟩ := hk
    exact ⟨by rw [nm h1 M hM]; exact h2, g1, g2, g3⟩
  | _ => trivial
theorem it_ok : it_OK := by
  refine ⟨it_Ck_ok, fun y M h => ?_, fun y pc g ins a b M hc hM => ?_⟩
  · have k := it_k_ok y M h
    exact ⟨k.1, k.2.1, k.2.2.1, k.2.2.2.1, k.2.2.2.2.1⟩
  · obtain ⟨c, r, h1, h2, h3⟩ := it_code_spec hc
    have hq := it_chk_all y
    simp only [it_chkM, h1, hM] at hq
    have hk := it_chkC_at hq (pc / 16) (pc % 16) r _ h2 h3
    rw [show 0 + 16 * (pc / 16) + pc % 16 = pc by omega] at hk
    simp only [it_chk, Bool.and_eq_true, Bool.or_eq_true, beq_iff_eq, bne_iff_ne, ne_eq, decide_eq_true_eq] at hk
    obtain ⟨k1, k2, k3, k4⟩ := hk
    refine ⟨?_, k2, it_lkb_ok (it_k_ok y M hM).2.2.2.2.1 k3, fun hg => ?_⟩
    · split at k1
      · rename_i i len hd
        simp only [Bool.and_eq_true, Bool.or_eq_true, beq_iff_eq, decide_eq_true_eq] at k1
        exact ⟨len, by rw [hd, k1.1], k1.2⟩
      · cases k1
    · have k5 := k4.resolve_left (fun q => q hg)
      refine ⟨k5.1, fun M1 hM1 => ?_⟩
      exact (it_k_ok a M1 hM1).2.2.2.2.2.1 k5.2.2
