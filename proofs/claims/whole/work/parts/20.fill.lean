/-! java/util/Arrays.fill: sound. -/
theorem it_alen_of {c n : Nat} (h : it_isR c n) : it_alen c = n := by simp only [it_alen, h.1]
theorem it_fil_0 (m : it_Me) (c a : Nat) (v : Int32) : it_fil m c a a v = m := by
  funext k
  simp only [it_fil, it_up]
  split
  · rename_i hk
    subst hk
    funext i
    rw [if_neg (by omega)]
  · rfl
theorem it_fil_s (m : it_Me) (c a b : Nat) (v : Int32) (h : a ≤ b) : it_sv (it_fil m c a b v) c b v = it_fil m c a (b + 1) v := by
  funext k
  simp only [it_sv, it_fil, it_up]
  split
  · funext i
    simp only [upd]
    by_cases hi : i = b
    · subst hi
      rw [if_pos rfl, if_pos (by omega)]
    · rw [if_neg hi]
      simp only [if_true]
      by_cases hb : a ≤ i ∧ i < b
      · rw [if_pos hb, if_pos (by omega)]
      · rw [if_neg hb, if_neg (by omega)]
  · rfl
/-- the lengths of arrays are small -/
theorem it_isR_small {c n : Nat} (h : it_isR c n) : n ≤ 1000000 := by
  have key : it_sh0.all (fun e => match e with
    | .inr (.inl (_, n)) => decide (n ≤ 1000000)
    | _ => true) = true := by decide +kernel
  have := List.all_eq_true.mp key _ (List.mem_of_getElem? h.1)
  simpa using this
set_option maxRecDepth 100000 in
set_option maxHeartbeats 4000000 in
theorem s_361 (kc : it_Kc) (x0 : Nat) (x1 : Int32) {n : Nat} (hx0 : it_isR x0 n) (m : it_Me) (Φ : it_Me → Prop) (h : w_361 kc x0 x1 m Φ) : it_V kc it_sh0 361 0 (it_loc0 [(.ref x0), (.int x1)] 4) [] m (it_Pv Φ) := by
  rw [w_361, it_alen_of hx0] at h
  have hn := it_isR_small hx0
  have loop : ∀ k i : Nat, i + k = n → it_V kc it_sh0 361 5 [some (.ref x0), some (.int x1), some (.int (nI i)), some (.int (nI n))] [] (it_fil m x0 0 i x1) (it_Pv Φ) := by
    intro k
    induction k with
    | zero =>
      intro i hi
      refine it_V.sN it_cd361 it_m361 3 (pc1 := (if nI n ≤ nI i then 20 else 10)) (ls1 := [some (.ref x0), some (.int x1), some (.int (nI i)), some (.int (nI n))]) (st1 := []) (mem1 := it_fil m x0 0 i x1) rfl ?_
      have hi : i = n := by omega
      subst hi
      rw [if_pos (nI_le (Nat.le_refl _) (by omega))]
      exact it_V.ret it_cd361 it_m361 rfl rfl ⟨rfl, h⟩
    | succ k ih =>
      intro i hi
      refine it_V.sN it_cd361 it_m361 3 (pc1 := (if nI n ≤ nI i then 20 else 10)) (ls1 := [some (.ref x0), some (.int x1), some (.int (nI i)), some (.int (nI n))]) (st1 := []) (mem1 := it_fil m x0 0 i x1) rfl ?_
      rw [if_neg (nI_ge (by omega) (by omega))]
      refine it_V.sN it_cd361 it_m361 3 (pc1 := 13) (ls1 := [some (.ref x0), some (.int x1), some (.int (nI i)), some (.int (nI n))]) (st1 := [.int x1, .int (nI i), .ref x0]) (mem1 := it_fil m x0 0 i x1) rfl ?_
      refine it_V.iast it_cd361 it_m361 rfl hx0.1 (vp_in_nI (by omega) (by omega)) ?_
      rw [nI_clamp (by omega), it_fil_s _ _ _ _ _ (Nat.zero_le _)]
      refine it_V.sN it_cd361 it_m361 2 (pc1 := 5) (ls1 := [some (.ref x0), some (.int x1), some (.int (nI i + 1)), some (.int (nI n))]) (st1 := []) (mem1 := it_fil m x0 0 (i + 1) x1) rfl ?_
      rw [nI_1]
      exact ih (i + 1) (by omega)
  refine it_V.at (pc1 := 0) (ls1 := [some (.ref x0), some (.int x1), none, none]) (st1 := []) (mem1 := m) rfl rfl rfl rfl ?_
  refine it_V.sN it_cd361 it_m361 3 (pc1 := 3) (ls1 := [some (.ref x0), some (.int x1), some (.int (0 : Int32)), none]) (st1 := [.ref x0]) (mem1 := m) rfl ?_
  refine it_V.len it_cd361 it_m361 rfl hx0 ?_
  refine it_V.sN it_cd361 it_m361 1 (pc1 := 5) (ls1 := [some (.ref x0), some (.int x1), some (.int (0 : Int32)), some (.int (nI n))]) (st1 := []) (mem1 := m) rfl ?_
  have := loop n 0 (by omega)
  rw [it_fil_0] at this
  exact this
set_option maxRecDepth 100000 in
set_option maxHeartbeats 4000000 in
theorem s_360 (kc : it_Kc) (x0 x1 x2 : Int32) (m : it_Me) (Φ : it_Me → Prop) (h1 : x1 ≤ x2) (h2 : 0 ≤ x1) (h3 : x2 ≤ x0) (h : Φ m) : it_V kc it_sh0 360 0 (it_loc0 [(.int x0), (.int x1), (.int x2)] 3) [] m (it_Pv Φ) := by
  refine it_V.at (pc1 := 0) (ls1 := [some (.int x0), some (.int x1), some (.int x2)]) (st1 := []) (mem1 := m) rfl rfl rfl rfl ?_
  refine it_V.sN it_cd360 it_m360 3 (pc1 := (if x1 ≤ x2 then 46 else 5)) (ls1 := [some (.int x0), some (.int x1), some (.int x2)]) (st1 := []) (mem1 := m) rfl ?_
  rw [if_pos h1]
  refine it_V.sN it_cd360 it_m360 2 (pc1 := (if 0 ≤ x1 then 59 else 50)) (ls1 := [some (.int x0), some (.int x1), some (.int x2)]) (st1 := []) (mem1 := m) rfl ?_
  rw [if_pos h2]
  refine it_V.sN it_cd360 it_m360 3 (pc1 := (if x2 ≤ x0 then 73 else 64)) (ls1 := [some (.int x0), some (.int x1), some (.int x2)]) (st1 := []) (mem1 := m) rfl ?_
  rw [if_pos h3]
  exact it_V.ret it_cd360 it_m360 rfl rfl ⟨rfl, h⟩
set_option maxRecDepth 100000 in
set_option maxHeartbeats 4000000 in
theorem s_362 (kc : it_Kc) (x0 : Nat) (x1 x2 x3 : Int32) {n : Nat} (hx0 : it_isR x0 n) (m : it_Me) (Φ : it_Me → Prop) (h : w_362 kc x0 x1 x2 x3 m Φ) : it_V kc it_sh0 362 0 (it_loc0 [(.ref x0), (.int x1), (.int x2), (.int x3)] 5) [] m (it_Pv Φ) := by
  rw [w_362, it_alen_of hx0] at h
  have hn := it_isR_small hx0
  obtain ⟨⟨g1, g2, g3⟩, h⟩ := h
  obtain ⟨a, ha, rfl⟩ := nI_of (x := x1) (Int32.not_lt.mpr g1)
  obtain ⟨b, hb, rfl⟩ := nI_of (x := x2) (Int32.not_lt.mpr (Int32.le_trans g1 g2))
  have hab : a ≤ b := (nI_leI ha hb).mp g2
  have hbn : b ≤ n := (nI_leI hb (by omega)).mp g3
  rw [nI_clamp ha, nI_clamp hb] at h
  have loop : ∀ k i : Nat, a ≤ i → i + k = b → it_V kc it_sh0 362 10 [some (.ref x0), some (.int (nI a)), some (.int (nI b)), some (.int x3), some (.int (nI i))] [] (it_fil m x0 a i x3) (it_Pv Φ) := by
    intro k
    induction k with
    | zero =>
      intro i hai hi
      refine it_V.sN it_cd362 it_m362 3 (pc1 := (if nI b ≤ nI i then 27 else 16)) (ls1 := [some (.ref x0), some (.int (nI a)), some (.int (nI b)), some (.int x3), some (.int (nI i))]) (st1 := []) (mem1 := it_fil m x0 a i x3) rfl ?_
      have hi : i = b := by omega
      subst hi
      rw [if_pos (nI_le (Nat.le_refl _) (by omega))]
      exact it_V.ret it_cd362 it_m362 rfl rfl ⟨rfl, h⟩
    | succ k ih =>
      intro i hai hi
      refine it_V.sN it_cd362 it_m362 3 (pc1 := (if nI b ≤ nI i then 27 else 16)) (ls1 := [some (.ref x0), some (.int (nI a)), some (.int (nI b)), some (.int x3), some (.int (nI i))]) (st1 := []) (mem1 := it_fil m x0 a i x3) rfl ?_
      rw [if_neg (nI_ge (by omega) (by omega))]
      refine it_V.sN it_cd362 it_m362 3 (pc1 := 20) (ls1 := [some (.ref x0), some (.int (nI a)), some (.int (nI b)), some (.int x3), some (.int (nI i))]) (st1 := [.int x3, .int (nI i), .ref x0]) (mem1 := it_fil m x0 a i x3) rfl ?_
      refine it_V.iast it_cd362 it_m362 rfl hx0.1 (vp_in_nI (by omega) (by omega)) ?_
      rw [nI_clamp (by omega), it_fil_s _ _ _ _ _ hai]
      refine it_V.sN it_cd362 it_m362 2 (pc1 := 10) (ls1 := [some (.ref x0), some (.int (nI a)), some (.int (nI b)), some (.int x3), some (.int (nI i + 1))]) (st1 := []) (mem1 := it_fil m x0 a (i + 1) x3) rfl ?_
      rw [nI_1]
      exact ih (i + 1) (by omega) (by omega)
  refine it_V.at (pc1 := 0) (ls1 := [some (.ref x0), some (.int (nI a)), some (.int (nI b)), some (.int x3), none]) (st1 := []) (mem1 := m) rfl rfl rfl rfl ?_
  refine it_V.sN it_cd362 it_m362 1 (pc1 := 1) (ls1 := [some (.ref x0), some (.int (nI a)), some (.int (nI b)), some (.int x3), none]) (st1 := [.ref x0]) (mem1 := m) rfl ?_
  refine it_V.len it_cd362 it_m362 rfl hx0 ?_
  refine it_V.sN it_cd362 it_m362 2 (pc1 := 4) (ls1 := [some (.ref x0), some (.int (nI a)), some (.int (nI b)), some (.int x3), none]) (st1 := [.int (nI b), .int (nI a), .int (nI n)]) (mem1 := m) rfl ?_
  refine it_V.call it_cd362 it_m362 rfl it_m360 [.int (nI n), .int (nI a), .int (nI b)] [] rfl rfl ⟨Nat.le_of_ble_eq_true rfl, Nat.le_of_ble_eq_true rfl, Nat.le_of_ble_eq_true rfl, Nat.le_of_ble_eq_true rfl, rfl⟩ (s_360 kc (nI n) (nI a) (nI b) m (fun m2 => m2 = m) g2 g1 g3 rfl) ?_
  rintro _ m2 ⟨rfl, rfl⟩
  refine it_V.sN it_cd362 it_m362 2 (pc1 := 10) (ls1 := [some (.ref x0), some (.int (nI a)), some (.int (nI b)), some (.int x3), some (.int (nI a))]) (st1 := []) (mem1 := m2) rfl ?_
  have := loop (b - a) a (Nat.le_refl _) (by omega)
  rw [it_fil_0] at this
  exact this
