/-! The load in lockstep. -/
theorem ld {kc : it_Kc} {B : Nat} {m : it_Me} (hI : Inv B m) (ho : m 0 10 = 0) (hl : m 7 4 = 0) (hb : m 7 2 ≠ 0) (ha : m 59 12 = 0) {x0 x1 x2 s : Int32} (h0 : x0 = 0 ∨ x0 = 1 ∨ x0 = 2) (h1 : 1 ≤ x1.toInt ∧ x1.toInt ≤ 1000) : ∃ x m', (∀ Φ : Int32 → it_Me → Prop, Φ x m' → w_146 kc x0 x1 (it_sv m 0 10 1) (fun m3 => w_73 kc s (it_sv m3 9 8 x2) (fun m4 => Φ (m4 9 7) m4))) ∧ Inv B m' ∧ FrC m m' ∧ m' 7 4 = 0 ∧ ∀ M, Rel m M → M 66 7 = x0 → M 66 8 = x1 → M 66 9 = x2 → ∀ Φ : Int32 → it_Me → Prop, (∀ M', Rel m' M' → FrM M M' → Φ x M') → w_250 kc s M (fun m2 => ∃ e, w_251_146 kc Φ (fun m => w_251_248 kc Φ m) e (0 : Int32) (it_sv (it_sv (it_sv (it_sv m2 66 3 (1 : Int32)) 66 70 (-1 : Int32)) 66 71 (0 : Int32)) 66 69 (0 : Int32))) := by
  have n9 := (hI.off ho).1
  have hz := (hI.off ho).2.2
  have I1 := bS_I (x2 := x2) hI ho hb ha h0 h1
  have c0 : cnt (bS m x0 x1 x2) = 0 := cnt0 (by rw [bS_9 _ _ _ _ (by omega)]; exact n9)
  have e2 : bS m x0 x1 x2 2 = m 2 := bS_k _ _ _ _ (by omega)
  obtain ⟨F, eF⟩ : ∃ F, F = m 2 := ⟨_, rfl⟩
  have F1 : FlC F (bS m x0 x1 x2) := fun w _ => by rw [e2, eF]
  obtain ⟨P, hP⟩ := LdR_ex F (csL F s 3840 65536) (csL F s 3840 65536) 131072 0
  have len := LdR_len F _ _ _ _ _ (by omega) hP
  have i0 : nI 0 = 0 := by decide
  have i1 : nI 65536 = 65536 := by decide
  have i2 : nI 131072 = 131072 := by decide
  obtain ⟨m', a1, a2, a3, a4, a5⟩ := c_73l (kc := kc) 3840 65536 131072 0 (bS m x0 x1 x2) P (by omega) (by omega) (by omega) (by omega) (by omega) (by omega) (by omega) I1 c0 (bS_on _ _ _ _) (bS_s0 _ _ _ _) F1 (by rw [e2]; exact hz) (fun i hi => absurd hi (Nat.not_lt_zero _)) hP
  rw [Nat.zero_add] at a3
  have e9 := cntI a2
  rw [a3] at e9
  have mk : ∀ k, k ≠ 0 → k ≠ 9 → k ≠ 13 → (k < 14 ∨ 58 ≤ k) → m' k = m k := fun k k0 k9 k13 hk => by rw [a5.2.1 k k9 k13 (by omega), bS_k _ _ _ _ (by omega)]
  have m0 : ∀ j, m' 0 j = bS m x0 x1 x2 0 j := fun j => by rw [a5.2.1 0 (by omega) (by omega) (by omega)]
  have m54 : ∀ k, 54 ≤ k → k < 58 → m' k = bS m x0 x1 x2 k := fun k k1 k2 => a5.2.1 k (by omega) (by omega) (by omega)
  have z' : ∀ w, 16384 ≤ w → w < 32768 → m' 2 w = 0 := fun w w1 w2 => by rw [a5.1, e2]; exact hz w w1 w2
  have on' : m' 0 10 = 1 := by rw [m0]; exact bS_on _ _ _ _
  refine ⟨nI P.length, m', fun Φ h => ?_, a2, fun k hk => mk k (by omega) (by omega) (by omega) (by omega), by rw [mk 7 (by omega) (by omega) (by omega) (by omega)]; exact hl, fun M hM q7 q8 q9 Φ h => ?_⟩
  · unfold w_146
    refine c_147 ?_
    show w_73 kc s (bS m x0 x1 x2) (fun m4 => Φ (m4 9 7) m4)
    rw [← e9] at h
    have k := a1 (fun m4 => Φ (m4 9 7) m4) (fun m => w_73_53 kc (fun m4 => Φ (m4 9 7) m4) m) (fun m => w_73_155 kc (fun m4 => Φ (m4 9 7) m4) m) h h
    rw [i1, i2, Nat.sub_self, i0] at k
    unfold w_73
    exact ⟨3840 + 1, k⟩
  · generalize hΨ : (fun m2 => ∃ e, w_251_146 kc Φ (fun m => w_251_248 kc Φ m) e (0 : Int32) (it_sv (it_sv (it_sv (it_sv m2 66 3 (1 : Int32)) 66 70 (-1 : Int32)) 66 71 (0 : Int32)) 66 69 (0 : Int32))) = Ψ
    have FR : FlR F M := fun w hw j hj => by rw [eF]; exact hM.mem w (by omega) (nexF hI hw) j hj
    have R0 : rz M := fun x z1 z2 => by
      have t := hM.mem ((x - 65536) / 4) (by omega) (excl0 n9 _) ((x - 65536) % 4) (by omega)
      rw [hz _ (by omega) (by omega), sb_0 (by omega), show 65536 + 4 * ((x - 65536) / 4) + (x - 65536) % 4 = x by omega] at t
      exact t
    have ci := csL_i (F := F) (s := s) 3840 65536 (by omega) (by omega) (by omega)
    have okL0 := csL_ok F s
    obtain ⟨N1, b1, b2, b3, b4⟩ := r_248l (kc := kc) (F := F) (s := s) (Φ := fun m1 => ∃ e, w_250_10 kc Ψ (fun m => w_250_296 kc Ψ m) e (131072 : Int32) (0 : Int32) m1) 3840 65536 (it_sv M 66 33 0) [] (by omega) (by omega) (by omega) (by omega) (by rw [List.length_nil]; omega) (FR.cg (sv_cell _ _ _ _ (by omega))) ⟨by rw [sv_same]; exact i0.symm, fun i hi => absurd hi (Nat.not_lt_zero _)⟩
    rw [List.nil_append] at b1
    have n34 : N1 66 34 = nI 0 := by rw [b2.2 34 (by omega) (by omega), sv_n2 _ _ _ _ (by omega), hM.count, n9, i0]
    obtain ⟨L, hL⟩ : ∃ L, L = csL F s 3840 65536 := ⟨_, rfl⟩
    rw [← hL] at hP b1 ci okL0
    obtain ⟨N2, d1, d2, d3, d4⟩ := r_250l (kc := kc) (Φ := Ψ) okL0 (fun i hi => ⟨(ci.2.1 i hi).2.2.1, (ci.2.1 i hi).2.2.2⟩) L.length 0 131072 0 N1 P (by omega) (by omega) (by omega) (by omega) b3 b1 n34 (by rw [List.drop_zero]; exact hP)
    rw [Nat.zero_add] at d2
    have hok := LdR_ok L 131072 0 P (fun x hx => by
      obtain ⟨i, hi, e⟩ := List.getElem_of_mem hx
      have g : L.getD i 0 = x := by rw [List.getD_eq_getElem?_getD, List.getElem?_eq_getElem hi, e]; rfl
      have t := ci.2.1 i hi
      rw [g] at t
      have f := frF t.2.2.1 t.1
      exact ⟨t.1, t.2.1, by omega⟩) (by omega) (by omega) hP
    have c3k : ∀ k, k ≠ 66 → it_sv (it_sv (it_sv (it_sv N2 66 3 (1 : Int32)) 66 70 (-1 : Int32)) 66 71 (0 : Int32)) 66 69 (0 : Int32) k = N2 k := fun k hk => by rw [sv_cell _ _ _ _ hk, sv_cell _ _ _ _ hk, sv_cell _ _ _ _ hk, sv_cell _ _ _ _ hk]
    have e67 : N2 67 = M 67 := by rw [d4.1 67 (by omega) (by omega), b2.1 67 (by omega) (by omega) (by omega) (by omega) (by omega), sv_cell _ _ _ _ (by omega)]
    obtain ⟨N4, f1, f2, f3, f4, f5⟩ := r_251b (kc := kc) (F := F) (n := P.length) (by omega) (pp := fun i => P.getD i (0, 0, 0)) hok (Φ := Φ) P.length 0 (it_sv (it_sv (it_sv (it_sv N2 66 3 (1 : Int32)) 66 70 (-1 : Int32)) 66 71 (0 : Int32)) 66 69 (0 : Int32)) (by omega) (by rw [sv_n2 _ _ _ _ (by omega), sv_n2 _ _ _ _ (by omega), sv_n2 _ _ _ _ (by omega), sv_n2 _ _ _ _ (by omega)]; exact d2) (FR.cg (by rw [c3k 67 (by omega)]; exact e67)) (fun x z1 z2 => by rw [c3k 67 (by omega), e67]; exact R0 x z1 z2) (fun j hj => by
      have t := d3 j hj
      rw [Nat.zero_add] at t
      exact t.cg (fun k k1 k2 => by rw [c3k k (by omega)])) (fun j hj => absurd hj (Nat.not_lt_zero _))
    -- what stays of the reference
    have n66 : ∀ j, (j < 18 ∨ 28 < j) → j ≠ 33 → j ≠ 34 → j ≠ 3 → j ≠ 70 → j ≠ 71 → j ≠ 69 → N4 66 j = M 66 j := fun j h' h33 h34 h3 h70 h71 h69 => by
      rw [f5 66 (by omega), sv_n2 _ _ _ _ h69, sv_n2 _ _ _ _ h71, sv_n2 _ _ _ _ h70, sv_n2 _ _ _ _ h3, d4.2.2 j h' h34, b2.2 j h' h33, sv_n2 _ _ _ _ h33]
    have nk : ∀ k, k ≠ 66 → (k < 66 ∨ (67 < k ∧ k < 75) ∨ k = 98 ∨ k = 99 ∨ k = 109 ∨ 110 < k) → N4 k = M k := fun k h' hk => by
      rw [f5 k (by omega), c3k k h', d4.1 k h' (by omega), b2.1 k h' (by omega) (by omega) (by omega) (by omega), sv_cell _ _ _ _ h']
    have n34' : N4 66 34 = nI P.length := by
      rw [f5 66 (by omega), sv_n2 _ _ _ _ (by omega), sv_n2 _ _ _ _ (by omega), sv_n2 _ _ _ _ (by omega), sv_n2 _ _ _ _ (by omega)]
      exact d2
    have wt : ∀ i, i < 8 → N4 98 i = m' (14 + 5 * i) 15 ∧ N4 99 i = m' (14 + 5 * i) 16 := fun i hi => by
      rw [nk 98 (by omega) (by omega), nk 99 (by omega) (by omega), a5.2.2.2 i 15 hi (by omega), a5.2.2.2 i 16 hi (by omega), bS_k _ _ _ _ (by omega)]
      exact hM.wt i hi
    have aL : ∀ i, i < cnt m' → LpC F m' i (P.getD i (0, 0, 0)) := fun i hi => by
      have L := a4 i (by rw [← a3]; exact hi)
      rw [Nat.zero_add] at L
      exact L
    have aR : ∀ i, i < cnt m' → RcN F N4 i (P.getD i (0, 0, 0)) := fun i hi => by
      have R := d3 i (by rw [← a3]; exact hi)
      rw [Nat.zero_add] at R
      exact R.cg (fun k k1 k2 => by rw [f5 k (by omega), c3k k (by omega)])
    have pr := fun (i : Nat) (hi : i < cnt m') => lpR (aL i hi) (aR i hi) (f4 i (by rw [← a3]; exact hi)) (a2.pi on' i hi) (wt i (by omega)) z'
    have g4 : ∀ i, i < cnt m' → ∀ d, d < 9 → m' (14 + 5 * i + 4) d = 0 := fun i hi d hd => by
      have L := a4 i (by rw [← a3]; exact hi)
      rw [Nat.zero_add] at L
      exact L.2.2.2.2 d hd
    have g14 : ∀ i, i < cnt m' → m' (14 + 5 * i) 14 = 0 := fun i hi => by
      have L := a4 i (by rw [← a3]; exact hi)
      rw [Nat.zero_add] at L
      exact L.2.1.2.2.2.2.2
    have bg : ∀ i, i < cnt m' → BgN F N4 i (P.getD i (0, 0, 0)) := fun i hi => f4 i (by rw [← a3]; exact hi)
    have s := bS_s0 m x0 x1 x2
    have R : Rel m' N4 := by
      refine Rel.mk ?_ ?_ ?_ ?_ ?_ ?_ ?_ ?_ ?_ ?_ ?_ ?_ ?_ ?_ ?_ ?_ ?_ ?_ ?_ ?_ ?_ ?_ ?_ ?_ ?_ ?_ ?_ ?_ ?_ ?_ ?_ ?_ ?_ wt
      · rw [n66 2 (by omega) (by omega) (by omega) (by omega) (by omega) (by omega) (by omega), m0, bS_0 _ _ _ _ (by omega)]; exact hM.tapeLen
      · rw [f5 66 (by omega), sv_n2 _ _ _ _ (by omega), sv_n2 _ _ _ _ (by omega), sv_n2 _ _ _ _ (by omega), sv_same, on']
      · rw [n66 4 (by omega) (by omega) (by omega) (by omega) (by omega) (by omega) (by omega), mk 7 (by omega) (by omega) (by omega) (by omega)]; exact hM.lost
      · rw [n66 5 (by omega) (by omega) (by omega) (by omega) (by omega) (by omega) (by omega), mk 7 (by omega) (by omega) (by omega) (by omega)]; exact hM.power
      · rw [n66 6 (by omega) (by omega) (by omega) (by omega) (by omega) (by omega) (by omega), mk 4 (by omega) (by omega) (by omega) (by omega)]; exact hM.time
      · rw [n66 10 (by omega) (by omega) (by omega) (by omega) (by omega) (by omega) (by omega), mk 59 (by omega) (by omega) (by omega) (by omega)]; exact hM.z
      · rw [n34', e9]
      · rw [f5 66 (by omega), sv_n2 _ _ _ _ (by omega), sv_n2 _ _ _ _ (by omega), sv_same, m54 54 (by omega) (by omega)]; exact s.1.symm
      · rw [n66 17 (by omega) (by omega) (by omega) (by omega) (by omega) (by omega) (by omega), mk 7 (by omega) (by omega) (by omega) (by omega)]; exact hM.bank
      · rw [nk 68 (by omega) (by omega), mk 65 (by omega) (by omega) (by omega) (by omega)]; exact hM.tape
      · rw [nk 69 (by omega) (by omega), mk 5 (by omega) (by omega) (by omega) (by omega)]; exact hM.counts
      · rw [nk 74 (by omega) (by omega), mk 6 (by omega) (by omega) (by omega) (by omega)]; exact hM.events
      · rw [nk 70 (by omega) (by omega), mk 61 (by omega) (by omega) (by omega) (by omega)]; exact hM.out
      · rw [nk 71 (by omega) (by omega), mk 59 (by omega) (by omega) (by omega) (by omega)]; exact hM.lamps
      · rw [nk 72 (by omega) (by omega), mk 59 (by omega) (by omega) (by omega) (by omega)]; exact hM.buttons
      · rw [nk 73 (by omega) (by omega), mk 60 (by omega) (by omega) (by omega) (by omega)]; exact hM.lev
      · intro w hw _ j hj
        by_cases hr : 16384 ≤ w
        · rw [z' w hr hw, sb_0 hj]
          exact f3 _ (by omega) (by omega)
        · rw [f2 w (by omega) j hj, a5.1, e2, eF]
      · intro _
        rw [n66 7 (by omega) (by omega) (by omega) (by omega) (by omega) (by omega) (by omega), n66 8 (by omega) (by omega) (by omega) (by omega) (by omega) (by omega) (by omega), n66 9 (by omega) (by omega) (by omega) (by omega) (by omega) (by omega) (by omega), m54 54 (by omega) (by omega), a5.2.2.1 8 (by omega), (bS_54 m x0 x1 x2).1, (bS_54 m x0 x1 x2).2, bS_98]
        exact ⟨q7, q8, q9⟩
      · intro _ _ q
        rw [m54 54 (by omega) (by omega), s.1] at q
        exact absurd rfl q
      · intro _ _ i hi
        rw [m54 55 (by omega) (by omega), m54 56 (by omega) (by omega), (s.2.2 i (by omega)).1, (s.2.2 i (by omega)).2.1]
        exact ⟨(bg i hi).2.2.1.2.2.2.1, (bg i hi).2.2.1.2.2.2.2.1⟩
      · intro _ _
        rw [m54 57 (by omega) (by omega), m54 54 (by omega) (by omega), s.2.1]
        refine ⟨fun i j hi hj => ?_, fun i hi => ?_⟩
        · rw [(s.2.2 i (by omega)).2.2, (s.2.2 j (by omega)).2.2, (bg i hi).2.2.1.2.2.2.2.2, (bg j hj).2.2.1.2.2.2.2.2]
        · rw [(bg i hi).2.2.1.2.2.2.2.2]
          exact ⟨(nLe (a := 0) (by omega) (by omega)).2 (by omega), (nLe (b := 7) (by omega) (by omega)).2 (by omega)⟩
      · intro _
        rw [f5 66 (by omega), sv_same, mk 59 (by omega) (by omega) (by omega) (by omega), ha]
      · intro i hi q
        exact absurd (g4 i hi 1 (by omega)) q.1
      · intro i hi q
        exact absurd (g4 i hi 1 (by omega)) q.1
      · exact fun i hi => (pr i hi).1
      · exact fun i hi => (pr i hi).2.1
      · exact fun i hi => (pr i hi).2.2.1
      · exact fun i hi => (pr i hi).2.2.2.1
      · exact fun i hi => (pr i hi).2.2.2.2.1
      · exact fun i hi => (pr i hi).2.2.2.2.2.1
      · exact fun i hi _ _ => (pr i hi).2.2.2.2.2.2.1
      · intro i hi k hk
        rw [g14 i hi] at hk
        have hk : (k : Int) < 5 * 0 := hk
        omega
      · exact fun i hi => (pr i hi).2.2.2.2.2.2.2
    have fin : Φ (N4 66 34) N4 := by rw [n34']; exact h N4 R (fun k hk => nk k (by omega) (by omega))
    have k4 := f1 (fun m => w_251_248 kc Φ m) fin
    rw [i0] at k4
    have k3 : Ψ N2 := by rw [← hΨ]; exact ⟨_, k4⟩
    have k2 := d1 (fun m => w_250_296 kc Ψ m) k3
    rw [i2, i0] at k2
    have k1' : ∃ e, w_250_10 kc Ψ (fun m => w_250_296 kc Ψ m) e (131072 : Int32) (0 : Int32) N1 := ⟨_, k2⟩
    have k1 := b4 (fun m => w_248_123 kc (fun m1 => ∃ e, w_250_10 kc Ψ (fun m => w_250_296 kc Ψ m) e (131072 : Int32) (0 : Int32) m1) m) k1'
    rw [i1] at k1
    unfold w_250 w_248
    exact ⟨_, k1⟩
