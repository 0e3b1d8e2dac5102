/-! The formulas are sound for the small machine. Written by wip/whole/gen_wp.py, split_wp.py -/
set_option maxRecDepth 100000 in
set_option maxHeartbeats 4000000 in
theorem s_252 (kc : it_Kc) (x0 : Int32) (m : it_Me) (Φ : Int32 → it_Me → Prop) (h : w_252 kc x0 m Φ) : it_V kc it_sh0 252 0 (it_loc0 [(.ref 66), (.int x0)] 2) [] m (it_Pi Φ) := by
  rw [w_252] at h
  refine it_V.at (pc1 := 0) (ls1 := [some (.ref 66), some (.int x0)]) (st1 := []) (mem1 := m) rfl rfl rfl rfl ?_
  refine it_V.sN it_cd252 it_m252 3 (pc1 := 5) (ls1 := [some (.ref 66), some (.int x0)]) (st1 := [(.int x0), (.ref 89)]) (mem1 := m) rfl ?_
  obtain ⟨g1, h⟩ := h
  refine it_V.iald it_cd252 it_m252 rfl ((⟨rfl, by decide⟩ : it_isR 89 8)).2 ((⟨rfl, by decide⟩ : it_isR 89 8)).1 g1 ?_
  refine it_V.at (pc1 := 6) (ls1 := [some (.ref 66), some (.int x0)]) (st1 := [(.int (m 89 (Int32.toNatClampNeg x0)))]) (mem1 := m) rfl rfl rfl rfl ?_
  refine it_V.sN it_cd252 it_m252 3 (pc1 := 11) (ls1 := [some (.ref 66), some (.int x0)]) (st1 := [(.int x0), (.ref 90), (.int (m 89 (Int32.toNatClampNeg x0)))]) (mem1 := m) rfl ?_
  obtain ⟨g2, h⟩ := h
  refine it_V.iald it_cd252 it_m252 rfl ((⟨rfl, by decide⟩ : it_isR 90 8)).2 ((⟨rfl, by decide⟩ : it_isR 90 8)).1 g2 ?_
  refine it_V.at (pc1 := 12) (ls1 := [some (.ref 66), some (.int x0)]) (st1 := [(.int (m 90 (Int32.toNatClampNeg x0))), (.int (m 89 (Int32.toNatClampNeg x0)))]) (mem1 := m) rfl rfl rfl rfl ?_
  refine it_V.sN it_cd252 it_m252 3 (pc1 := 16) (ls1 := [some (.ref 66), some (.int x0)]) (st1 := [(.int (((m 89 (Int32.toNatClampNeg x0)) + (m 90 (Int32.toNatClampNeg x0))) - (64 : Int32)))]) (mem1 := m) rfl ?_
  exact it_V.ret it_cd252 it_m252 rfl rfl ⟨_, rfl, h⟩
set_option maxRecDepth 100000 in
set_option maxHeartbeats 4000000 in
theorem s_254 (kc : it_Kc) (x0 : Int32) (m : it_Me) (Φ : Int32 → it_Me → Prop) (h : w_254 kc x0 m Φ) : it_V kc it_sh0 254 0 (it_loc0 [(.ref 66), (.int x0)] 2) [] m (it_Pi Φ) := by
  rw [w_254] at h
  refine it_V.at (pc1 := 0) (ls1 := [some (.ref 66), some (.int x0)]) (st1 := []) (mem1 := m) rfl rfl rfl rfl ?_
  refine it_V.sN it_cd254 it_m254 3 (pc1 := 5) (ls1 := [some (.ref 66), some (.int x0)]) (st1 := [(.int x0), (.ref 79)]) (mem1 := m) rfl ?_
  obtain ⟨g1, h⟩ := h
  refine it_V.iald it_cd254 it_m254 rfl ((⟨rfl, by decide⟩ : it_isR 79 8)).2 ((⟨rfl, by decide⟩ : it_isR 79 8)).1 g1 ?_
  refine it_V.at (pc1 := 6) (ls1 := [some (.ref 66), some (.int x0)]) (st1 := [(.int (m 79 (Int32.toNatClampNeg x0)))]) (mem1 := m) rfl rfl rfl rfl ?_
  refine it_V.sN it_cd254 it_m254 4 (pc1 := 12) (ls1 := [some (.ref 66), some (.int x0)]) (st1 := [(.int x0), (.ref 79), (.ref 66), (.int (m 79 (Int32.toNatClampNeg x0)))]) (mem1 := m) rfl ?_
  obtain ⟨g2, h⟩ := h
  refine it_V.iald it_cd254 it_m254 rfl ((⟨rfl, by decide⟩ : it_isR 79 8)).2 ((⟨rfl, by decide⟩ : it_isR 79 8)).1 g2 ?_
  refine it_V.at (pc1 := 13) (ls1 := [some (.ref 66), some (.int x0)]) (st1 := [(.int (m 79 (Int32.toNatClampNeg x0))), (.ref 66), (.int (m 79 (Int32.toNatClampNeg x0)))]) (mem1 := m) rfl rfl rfl rfl ?_
  refine it_V.sN it_cd254 it_m254 2 (pc1 := 15) (ls1 := [some (.ref 66), some (.int x0)]) (st1 := [(.int ((m 79 (Int32.toNatClampNeg x0)) + (2 : Int32))), (.ref 66), (.int (m 79 (Int32.toNatClampNeg x0)))]) (mem1 := m) rfl ?_
  refine it_V.call it_cd254 it_m254 rfl it_m219 [(.ref 66), (.int ((m 79 (Int32.toNatClampNeg x0)) + (2 : Int32)))] [(.int (m 79 (Int32.toNatClampNeg x0)))] rfl rfl ⟨Nat.le_of_ble_eq_true rfl, Nat.le_of_ble_eq_true rfl, Nat.le_of_ble_eq_true rfl, Nat.le_of_ble_eq_true rfl, rfl⟩ (s_219 kc ((m 79 (Int32.toNatClampNeg x0)) + (2 : Int32)) m _ h) ?_
  rintro _ m4 ⟨r3, rfl, h⟩
  refine it_V.at (pc1 := 18) (ls1 := [some (.ref 66), some (.int x0)]) (st1 := [(.int r3), (.int (m 79 (Int32.toNatClampNeg x0)))]) (mem1 := m4) rfl rfl rfl rfl ?_
  refine it_V.sN it_cd254 it_m254 1 (pc1 := 19) (ls1 := [some (.ref 66), some (.int x0)]) (st1 := [(.int ((m 79 (Int32.toNatClampNeg x0)) + r3))]) (mem1 := m4) rfl ?_
  exact it_V.ret it_cd254 it_m254 rfl rfl ⟨_, rfl, h⟩
set_option maxRecDepth 100000 in
set_option maxHeartbeats 4000000 in
theorem s_253_77 (kc : it_Kc) (Φ : it_Me → Prop) (K101 : Int32 → it_Me → Prop) (hK101 : ∀ (v1 : Int32) (m : it_Me), K101 v1 m → it_V kc it_sh0 253 101 [some (.ref 66), some (.int v1), none] [] m (it_Pv Φ)) : ∀ (n : Nat) (v1 : Int32) (v2 : Int32) (m : it_Me) (h : w_253_77 kc Φ K101 n v1 v2 m), it_V kc it_sh0 253 77 [some (.ref 66), some (.int v1), some (.int v2)] [] m (it_Pv Φ) := by
  intro n
  induction n with
  | zero => intro v1 v2 m h; exact absurd h id
  | succ n ih =>
    intro v1 v2 m h
    rw [w_253_77] at h
    refine it_V.sN it_cd253 it_m253 3 (pc1 := (if (32 : Int32) ≤ v2 then 101 else 83)) (ls1 := [some (.ref 66), some (.int v1), some (.int v2)]) (st1 := []) (mem1 := m) rfl ?_
    refine it_V.ite (fun c1 => ?_) (fun c1 => ?_)
    · have h := h.1 c1
      refine it_V.weak (l := [some (.ref 66), some (.int v1), none]) ⟨rfl, ⟨rfl, trivial⟩⟩ ?_
      exact hK101 v1 m h
    · have h := h.2 c1
      refine it_V.sN it_cd253 it_m253 8 (pc1 := 94) (ls1 := [some (.ref 66), some (.int v1), some (.int v2)]) (st1 := [(.int (0 : Int32)), (.int (((32 : Int32) * v1) + v2)), (.ref 93)]) (mem1 := m) rfl ?_
      obtain ⟨g2, h⟩ := h
      refine it_V.iast it_cd253 it_m253 rfl ((⟨rfl, by decide⟩ : it_isR 93 256)).1 g2 ?_
      refine it_V.at (pc1 := 95) (ls1 := [some (.ref 66), some (.int v1), some (.int v2)]) (st1 := []) (mem1 := (it_sv m 93 (Int32.toNatClampNeg (((32 : Int32) * v1) + v2)) (0 : Int32))) rfl rfl rfl rfl ?_
      refine it_V.sN it_cd253 it_m253 2 (pc1 := 77) (ls1 := [some (.ref 66), some (.int v1), some (.int (v2 + (1 : Int32)))]) (st1 := []) (mem1 := (it_sv m 93 (Int32.toNatClampNeg (((32 : Int32) * v1) + v2)) (0 : Int32))) rfl ?_
      exact ih v1 (v2 + (1 : Int32)) (it_sv m 93 (Int32.toNatClampNeg (((32 : Int32) * v1) + v2)) (0 : Int32)) h
set_option maxRecDepth 100000 in
set_option maxHeartbeats 4000000 in
theorem s_253_2 (kc : it_Kc) (Φ : it_Me → Prop) (K32 : Int32 → it_Me → Prop) (hK32 : ∀ (v1 : Int32) (m : it_Me), K32 v1 m → it_V kc it_sh0 253 32 [some (.ref 66), some (.int v1), none] [] m (it_Pv Φ)) : ∀ (n : Nat) (v1 : Int32) (v2 : Int32) (m : it_Me) (h : w_253_2 kc Φ K32 n v1 v2 m), it_V kc it_sh0 253 2 [some (.ref 66), some (.int v1), some (.int v2)] [] m (it_Pv Φ) := by
  intro n
  induction n with
  | zero => intro v1 v2 m h; exact absurd h id
  | succ n ih =>
    intro v1 v2 m h
    rw [w_253_2] at h
    refine it_V.sN it_cd253 it_m253 4 (pc1 := 8) (ls1 := [some (.ref 66), some (.int v1), some (.int v2)]) (st1 := [(.int v1), (.ref 90), (.int v2)]) (mem1 := m) rfl ?_
    obtain ⟨g1, h⟩ := h
    refine it_V.iald it_cd253 it_m253 rfl ((⟨rfl, by decide⟩ : it_isR 90 8)).2 ((⟨rfl, by decide⟩ : it_isR 90 8)).1 g1 ?_
    refine it_V.at (pc1 := 9) (ls1 := [some (.ref 66), some (.int v1), some (.int v2)]) (st1 := [(.int (m 90 (Int32.toNatClampNeg v1))), (.int v2)]) (mem1 := m) rfl rfl rfl rfl ?_
    refine it_V.sN it_cd253 it_m253 1 (pc1 := (if (m 90 (Int32.toNatClampNeg v1)) ≤ v2 then 32 else 12)) (ls1 := [some (.ref 66), some (.int v1), some (.int v2)]) (st1 := []) (mem1 := m) rfl ?_
    refine it_V.ite (fun c2 => ?_) (fun c2 => ?_)
    · have h := h.1 c2
      refine it_V.weak (l := [some (.ref 66), some (.int v1), none]) ⟨rfl, ⟨rfl, trivial⟩⟩ ?_
      exact hK32 v1 m h
    · have h := h.2 c2
      refine it_V.sN it_cd253 it_m253 5 (pc1 := 21) (ls1 := [some (.ref 66), some (.int v1), some (.int v2)]) (st1 := [(.int v1), (.ref 89), (.ref 67)]) (mem1 := m) rfl ?_
      obtain ⟨g3, h⟩ := h
      refine it_V.iald it_cd253 it_m253 rfl ((⟨rfl, by decide⟩ : it_isR 89 8)).2 ((⟨rfl, by decide⟩ : it_isR 89 8)).1 g3 ?_
      refine it_V.at (pc1 := 22) (ls1 := [some (.ref 66), some (.int v1), some (.int v2)]) (st1 := [(.int (m 89 (Int32.toNatClampNeg v1))), (.ref 67)]) (mem1 := m) rfl rfl rfl rfl ?_
      refine it_V.sN it_cd253 it_m253 3 (pc1 := 25) (ls1 := [some (.ref 66), some (.int v1), some (.int v2)]) (st1 := [(.int (0 : Int32)), (.int ((m 89 (Int32.toNatClampNeg v1)) + v2)), (.ref 67)]) (mem1 := m) rfl ?_
      obtain ⟨g4, h⟩ := h
      refine it_V.bast (n := 196608) it_cd253 it_m253 rfl rfl g4 ?_
      refine it_V.at (pc1 := 26) (ls1 := [some (.ref 66), some (.int v1), some (.int v2)]) (st1 := []) (mem1 := (it_sv m 67 (Int32.toNatClampNeg ((m 89 (Int32.toNatClampNeg v1)) + v2)) (it_i2b (0 : Int32)))) rfl rfl rfl rfl ?_
      refine it_V.sN it_cd253 it_m253 2 (pc1 := 2) (ls1 := [some (.ref 66), some (.int v1), some (.int (v2 + (1 : Int32)))]) (st1 := []) (mem1 := (it_sv m 67 (Int32.toNatClampNeg ((m 89 (Int32.toNatClampNeg v1)) + v2)) (it_i2b (0 : Int32)))) rfl ?_
      exact ih v1 (v2 + (1 : Int32)) (it_sv m 67 (Int32.toNatClampNeg ((m 89 (Int32.toNatClampNeg v1)) + v2)) (it_i2b (0 : Int32))) h
set_option maxRecDepth 100000 in
set_option maxHeartbeats 4000000 in
theorem s_253_101 (kc : it_Kc) (Φ : it_Me → Prop) (v1 : Int32) (m : it_Me) (h : w_253_101 kc Φ v1 m) : it_V kc it_sh0 253 101 [some (.ref 66), some (.int v1), none] [] m (it_Pv Φ) := by
  rw [w_253_101] at h
  refine it_V.sN it_cd253 it_m253 10 (pc1 := 116) (ls1 := [some (.ref 66), some (.int v1), none]) (st1 := [(.int v1), (.ref 91), (.int (((32 : Int32) * v1) + (2 : Int32))), (.ref 93)]) (mem1 := m) rfl ?_
  obtain ⟨g1, h⟩ := h
  refine it_V.iald it_cd253 it_m253 rfl ((⟨rfl, by decide⟩ : it_isR 91 8)).2 ((⟨rfl, by decide⟩ : it_isR 91 8)).1 g1 ?_
  refine it_V.at (pc1 := 117) (ls1 := [some (.ref 66), some (.int v1), none]) (st1 := [(.int (m 91 (Int32.toNatClampNeg v1))), (.int (((32 : Int32) * v1) + (2 : Int32))), (.ref 93)]) (mem1 := m) rfl rfl rfl rfl ?_
  obtain ⟨g2, h⟩ := h
  refine it_V.iast it_cd253 it_m253 rfl ((⟨rfl, by decide⟩ : it_isR 93 256)).1 g2 ?_
  refine it_V.at (pc1 := 118) (ls1 := [some (.ref 66), some (.int v1), none]) (st1 := []) (mem1 := (it_sv m 93 (Int32.toNatClampNeg (((32 : Int32) * v1) + (2 : Int32))) (m 91 (Int32.toNatClampNeg v1)))) rfl rfl rfl rfl ?_
  refine it_V.sN it_cd253 it_m253 9 (pc1 := 131) (ls1 := [some (.ref 66), some (.int v1), none]) (st1 := [(.int v1), (.ref 66), (.int (((32 : Int32) * v1) + (10 : Int32))), (.ref 93)]) (mem1 := (it_sv m 93 (Int32.toNatClampNeg (((32 : Int32) * v1) + (2 : Int32))) (m 91 (Int32.toNatClampNeg v1)))) rfl ?_
  refine it_V.call it_cd253 it_m253 rfl it_m254 [(.ref 66), (.int v1)] [(.int (((32 : Int32) * v1) + (10 : Int32))), (.ref 93)] rfl rfl ⟨Nat.le_of_ble_eq_true rfl, Nat.le_of_ble_eq_true rfl, Nat.le_of_ble_eq_true rfl, Nat.le_of_ble_eq_true rfl, rfl⟩ (s_254 kc v1 (it_sv m 93 (Int32.toNatClampNeg (((32 : Int32) * v1) + (2 : Int32))) (m 91 (Int32.toNatClampNeg v1))) _ h) ?_
  rintro _ m4 ⟨r3, rfl, h⟩
  refine it_V.at (pc1 := 134) (ls1 := [some (.ref 66), some (.int v1), none]) (st1 := [(.int r3), (.int (((32 : Int32) * v1) + (10 : Int32))), (.ref 93)]) (mem1 := m4) rfl rfl rfl rfl ?_
  obtain ⟨g5, h⟩ := h
  refine it_V.iast it_cd253 it_m253 rfl ((⟨rfl, by decide⟩ : it_isR 93 256)).1 g5 ?_
  refine it_V.at (pc1 := 135) (ls1 := [some (.ref 66), some (.int v1), none]) (st1 := []) (mem1 := (it_sv m4 93 (Int32.toNatClampNeg (((32 : Int32) * v1) + (10 : Int32))) r3)) rfl rfl rfl rfl ?_
  refine it_V.sN it_cd253 it_m253 10 (pc1 := 151) (ls1 := [some (.ref 66), some (.int v1), none]) (st1 := [(.int v1), (.ref 89), (.int (((32 : Int32) * v1) + (11 : Int32))), (.ref 93)]) (mem1 := (it_sv m4 93 (Int32.toNatClampNeg (((32 : Int32) * v1) + (10 : Int32))) r3)) rfl ?_
  obtain ⟨g6, h⟩ := h
  refine it_V.iald it_cd253 it_m253 rfl ((⟨rfl, by decide⟩ : it_isR 89 8)).2 ((⟨rfl, by decide⟩ : it_isR 89 8)).1 g6 ?_
  refine it_V.at (pc1 := 152) (ls1 := [some (.ref 66), some (.int v1), none]) (st1 := [(.int ((it_sv m4 93 (Int32.toNatClampNeg (((32 : Int32) * v1) + (10 : Int32))) r3) 89 (Int32.toNatClampNeg v1))), (.int (((32 : Int32) * v1) + (11 : Int32))), (.ref 93)]) (mem1 := (it_sv m4 93 (Int32.toNatClampNeg (((32 : Int32) * v1) + (10 : Int32))) r3)) rfl rfl rfl rfl ?_
  obtain ⟨g7, h⟩ := h
  refine it_V.iast it_cd253 it_m253 rfl ((⟨rfl, by decide⟩ : it_isR 93 256)).1 g7 ?_
  refine it_V.at (pc1 := 153) (ls1 := [some (.ref 66), some (.int v1), none]) (st1 := []) (mem1 := (it_sv (it_sv m4 93 (Int32.toNatClampNeg (((32 : Int32) * v1) + (10 : Int32))) r3) 93 (Int32.toNatClampNeg (((32 : Int32) * v1) + (11 : Int32))) ((it_sv m4 93 (Int32.toNatClampNeg (((32 : Int32) * v1) + (10 : Int32))) r3) 89 (Int32.toNatClampNeg v1)))) rfl rfl rfl rfl ?_
  refine it_V.sN it_cd253 it_m253 10 (pc1 := 169) (ls1 := [some (.ref 66), some (.int v1), none]) (st1 := [(.int v1), (.ref 90), (.int (((32 : Int32) * v1) + (12 : Int32))), (.ref 93)]) (mem1 := (it_sv (it_sv m4 93 (Int32.toNatClampNeg (((32 : Int32) * v1) + (10 : Int32))) r3) 93 (Int32.toNatClampNeg (((32 : Int32) * v1) + (11 : Int32))) ((it_sv m4 93 (Int32.toNatClampNeg (((32 : Int32) * v1) + (10 : Int32))) r3) 89 (Int32.toNatClampNeg v1)))) rfl ?_
  obtain ⟨g8, h⟩ := h
  refine it_V.iald it_cd253 it_m253 rfl ((⟨rfl, by decide⟩ : it_isR 90 8)).2 ((⟨rfl, by decide⟩ : it_isR 90 8)).1 g8 ?_
  refine it_V.at (pc1 := 170) (ls1 := [some (.ref 66), some (.int v1), none]) (st1 := [(.int ((it_sv (it_sv m4 93 (Int32.toNatClampNeg (((32 : Int32) * v1) + (10 : Int32))) r3) 93 (Int32.toNatClampNeg (((32 : Int32) * v1) + (11 : Int32))) ((it_sv m4 93 (Int32.toNatClampNeg (((32 : Int32) * v1) + (10 : Int32))) r3) 89 (Int32.toNatClampNeg v1))) 90 (Int32.toNatClampNeg v1))), (.int (((32 : Int32) * v1) + (12 : Int32))), (.ref 93)]) (mem1 := (it_sv (it_sv m4 93 (Int32.toNatClampNeg (((32 : Int32) * v1) + (10 : Int32))) r3) 93 (Int32.toNatClampNeg (((32 : Int32) * v1) + (11 : Int32))) ((it_sv m4 93 (Int32.toNatClampNeg (((32 : Int32) * v1) + (10 : Int32))) r3) 89 (Int32.toNatClampNeg v1)))) rfl rfl rfl rfl ?_
  obtain ⟨g9, h⟩ := h
  refine it_V.iast it_cd253 it_m253 rfl ((⟨rfl, by decide⟩ : it_isR 93 256)).1 g9 ?_
  refine it_V.at (pc1 := 171) (ls1 := [some (.ref 66), some (.int v1), none]) (st1 := []) (mem1 := (it_sv (it_sv (it_sv m4 93 (Int32.toNatClampNeg (((32 : Int32) * v1) + (10 : Int32))) r3) 93 (Int32.toNatClampNeg (((32 : Int32) * v1) + (11 : Int32))) ((it_sv m4 93 (Int32.toNatClampNeg (((32 : Int32) * v1) + (10 : Int32))) r3) 89 (Int32.toNatClampNeg v1))) 93 (Int32.toNatClampNeg (((32 : Int32) * v1) + (12 : Int32))) ((it_sv (it_sv m4 93 (Int32.toNatClampNeg (((32 : Int32) * v1) + (10 : Int32))) r3) 93 (Int32.toNatClampNeg (((32 : Int32) * v1) + (11 : Int32))) ((it_sv m4 93 (Int32.toNatClampNeg (((32 : Int32) * v1) + (10 : Int32))) r3) 89 (Int32.toNatClampNeg v1))) 90 (Int32.toNatClampNeg v1)))) rfl rfl rfl rfl ?_
  refine it_V.sN it_cd253 it_m253 10 (pc1 := 187) (ls1 := [some (.ref 66), some (.int v1), none]) (st1 := [(.int v1), (.ref 91), (.int (((32 : Int32) * v1) + (13 : Int32))), (.ref 93)]) (mem1 := (it_sv (it_sv (it_sv m4 93 (Int32.toNatClampNeg (((32 : Int32) * v1) + (10 : Int32))) r3) 93 (Int32.toNatClampNeg (((32 : Int32) * v1) + (11 : Int32))) ((it_sv m4 93 (Int32.toNatClampNeg (((32 : Int32) * v1) + (10 : Int32))) r3) 89 (Int32.toNatClampNeg v1))) 93 (Int32.toNatClampNeg (((32 : Int32) * v1) + (12 : Int32))) ((it_sv (it_sv m4 93 (Int32.toNatClampNeg (((32 : Int32) * v1) + (10 : Int32))) r3) 93 (Int32.toNatClampNeg (((32 : Int32) * v1) + (11 : Int32))) ((it_sv m4 93 (Int32.toNatClampNeg (((32 : Int32) * v1) + (10 : Int32))) r3) 89 (Int32.toNatClampNeg v1))) 90 (Int32.toNatClampNeg v1)))) rfl ?_
  obtain ⟨g10, h⟩ := h
  refine it_V.iald it_cd253 it_m253 rfl ((⟨rfl, by decide⟩ : it_isR 91 8)).2 ((⟨rfl, by decide⟩ : it_isR 91 8)).1 g10 ?_
  refine it_V.at (pc1 := 188) (ls1 := [some (.ref 66), some (.int v1), none]) (st1 := [(.int ((it_sv (it_sv (it_sv m4 93 (Int32.toNatClampNeg (((32 : Int32) * v1) + (10 : Int32))) r3) 93 (Int32.toNatClampNeg (((32 : Int32) * v1) + (11 : Int32))) ((it_sv m4 93 (Int32.toNatClampNeg (((32 : Int32) * v1) + (10 : Int32))) r3) 89 (Int32.toNatClampNeg v1))) 93 (Int32.toNatClampNeg (((32 : Int32) * v1) + (12 : Int32))) ((it_sv (it_sv m4 93 (Int32.toNatClampNeg (((32 : Int32) * v1) + (10 : Int32))) r3) 93 (Int32.toNatClampNeg (((32 : Int32) * v1) + (11 : Int32))) ((it_sv m4 93 (Int32.toNatClampNeg (((32 : Int32) * v1) + (10 : Int32))) r3) 89 (Int32.toNatClampNeg v1))) 90 (Int32.toNatClampNeg v1))) 91 (Int32.toNatClampNeg v1))), (.int (((32 : Int32) * v1) + (13 : Int32))), (.ref 93)]) (mem1 := (it_sv (it_sv (it_sv m4 93 (Int32.toNatClampNeg (((32 : Int32) * v1) + (10 : Int32))) r3) 93 (Int32.toNatClampNeg (((32 : Int32) * v1) + (11 : Int32))) ((it_sv m4 93 (Int32.toNatClampNeg (((32 : Int32) * v1) + (10 : Int32))) r3) 89 (Int32.toNatClampNeg v1))) 93 (Int32.toNatClampNeg (((32 : Int32) * v1) + (12 : Int32))) ((it_sv (it_sv m4 93 (Int32.toNatClampNeg (((32 : Int32) * v1) + (10 : Int32))) r3) 93 (Int32.toNatClampNeg (((32 : Int32) * v1) + (11 : Int32))) ((it_sv m4 93 (Int32.toNatClampNeg (((32 : Int32) * v1) + (10 : Int32))) r3) 89 (Int32.toNatClampNeg v1))) 90 (Int32.toNatClampNeg v1)))) rfl rfl rfl rfl ?_
  obtain ⟨g11, h⟩ := h
  refine it_V.iast it_cd253 it_m253 rfl ((⟨rfl, by decide⟩ : it_isR 93 256)).1 g11 ?_
  refine it_V.at (pc1 := 189) (ls1 := [some (.ref 66), some (.int v1), none]) (st1 := []) (mem1 := (it_sv (it_sv (it_sv (it_sv m4 93 (Int32.toNatClampNeg (((32 : Int32) * v1) + (10 : Int32))) r3) 93 (Int32.toNatClampNeg (((32 : Int32) * v1) + (11 : Int32))) ((it_sv m4 93 (Int32.toNatClampNeg (((32 : Int32) * v1) + (10 : Int32))) r3) 89 (Int32.toNatClampNeg v1))) 93 (Int32.toNatClampNeg (((32 : Int32) * v1) + (12 : Int32))) ((it_sv (it_sv m4 93 (Int32.toNatClampNeg (((32 : Int32) * v1) + (10 : Int32))) r3) 93 (Int32.toNatClampNeg (((32 : Int32) * v1) + (11 : Int32))) ((it_sv m4 93 (Int32.toNatClampNeg (((32 : Int32) * v1) + (10 : Int32))) r3) 89 (Int32.toNatClampNeg v1))) 90 (Int32.toNatClampNeg v1))) 93 (Int32.toNatClampNeg (((32 : Int32) * v1) + (13 : Int32))) ((it_sv (it_sv (it_sv m4 93 (Int32.toNatClampNeg (((32 : Int32) * v1) + (10 : Int32))) r3) 93 (Int32.toNatClampNeg (((32 : Int32) * v1) + (11 : Int32))) ((it_sv m4 93 (Int32.toNatClampNeg (((32 : Int32) * v1) + (10 : Int32))) r3) 89 (Int32.toNatClampNeg v1))) 93 (Int32.toNatClampNeg (((32 : Int32) * v1) + (12 : Int32))) ((it_sv (it_sv m4 93 (Int32.toNatClampNeg (((32 : Int32) * v1) + (10 : Int32))) r3) 93 (Int32.toNatClampNeg (((32 : Int32) * v1) + (11 : Int32))) ((it_sv m4 93 (Int32.toNatClampNeg (((32 : Int32) * v1) + (10 : Int32))) r3) 89 (Int32.toNatClampNeg v1))) 90 (Int32.toNatClampNeg v1))) 91 (Int32.toNatClampNeg v1)))) rfl rfl rfl rfl ?_
  refine it_V.sN it_cd253 it_m253 6 (pc1 := 199) (ls1 := [some (.ref 66), some (.int v1), none]) (st1 := [(.int v1), (.ref 81), (.int v1), (.ref 94)]) (mem1 := (it_sv (it_sv (it_sv (it_sv m4 93 (Int32.toNatClampNeg (((32 : Int32) * v1) + (10 : Int32))) r3) 93 (Int32.toNatClampNeg (((32 : Int32) * v1) + (11 : Int32))) ((it_sv m4 93 (Int32.toNatClampNeg (((32 : Int32) * v1) + (10 : Int32))) r3) 89 (Int32.toNatClampNeg v1))) 93 (Int32.toNatClampNeg (((32 : Int32) * v1) + (12 : Int32))) ((it_sv (it_sv m4 93 (Int32.toNatClampNeg (((32 : Int32) * v1) + (10 : Int32))) r3) 93 (Int32.toNatClampNeg (((32 : Int32) * v1) + (11 : Int32))) ((it_sv m4 93 (Int32.toNatClampNeg (((32 : Int32) * v1) + (10 : Int32))) r3) 89 (Int32.toNatClampNeg v1))) 90 (Int32.toNatClampNeg v1))) 93 (Int32.toNatClampNeg (((32 : Int32) * v1) + (13 : Int32))) ((it_sv (it_sv (it_sv m4 93 (Int32.toNatClampNeg (((32 : Int32) * v1) + (10 : Int32))) r3) 93 (Int32.toNatClampNeg (((32 : Int32) * v1) + (11 : Int32))) ((it_sv m4 93 (Int32.toNatClampNeg (((32 : Int32) * v1) + (10 : Int32))) r3) 89 (Int32.toNatClampNeg v1))) 93 (Int32.toNatClampNeg (((32 : Int32) * v1) + (12 : Int32))) ((it_sv (it_sv m4 93 (Int32.toNatClampNeg (((32 : Int32) * v1) + (10 : Int32))) r3) 93 (Int32.toNatClampNeg (((32 : Int32) * v1) + (11 : Int32))) ((it_sv m4 93 (Int32.toNatClampNeg (((32 : Int32) * v1) + (10 : Int32))) r3) 89 (Int32.toNatClampNeg v1))) 90 (Int32.toNatClampNeg v1))) 91 (Int32.toNatClampNeg v1)))) rfl ?_
  obtain ⟨g12, h⟩ := h
  refine it_V.iald it_cd253 it_m253 rfl ((⟨rfl, by decide⟩ : it_isR 81 8)).2 ((⟨rfl, by decide⟩ : it_isR 81 8)).1 g12 ?_
  refine it_V.at (pc1 := 200) (ls1 := [some (.ref 66), some (.int v1), none]) (st1 := [(.int ((it_sv (it_sv (it_sv (it_sv m4 93 (Int32.toNatClampNeg (((32 : Int32) * v1) + (10 : Int32))) r3) 93 (Int32.toNatClampNeg (((32 : Int32) * v1) + (11 : Int32))) ((it_sv m4 93 (Int32.toNatClampNeg (((32 : Int32) * v1) + (10 : Int32))) r3) 89 (Int32.toNatClampNeg v1))) 93 (Int32.toNatClampNeg (((32 : Int32) * v1) + (12 : Int32))) ((it_sv (it_sv m4 93 (Int32.toNatClampNeg (((32 : Int32) * v1) + (10 : Int32))) r3) 93 (Int32.toNatClampNeg (((32 : Int32) * v1) + (11 : Int32))) ((it_sv m4 93 (Int32.toNatClampNeg (((32 : Int32) * v1) + (10 : Int32))) r3) 89 (Int32.toNatClampNeg v1))) 90 (Int32.toNatClampNeg v1))) 93 (Int32.toNatClampNeg (((32 : Int32) * v1) + (13 : Int32))) ((it_sv (it_sv (it_sv m4 93 (Int32.toNatClampNeg (((32 : Int32) * v1) + (10 : Int32))) r3) 93 (Int32.toNatClampNeg (((32 : Int32) * v1) + (11 : Int32))) ((it_sv m4 93 (Int32.toNatClampNeg (((32 : Int32) * v1) + (10 : Int32))) r3) 89 (Int32.toNatClampNeg v1))) 93 (Int32.toNatClampNeg (((32 : Int32) * v1) + (12 : Int32))) ((it_sv (it_sv m4 93 (Int32.toNatClampNeg (((32 : Int32) * v1) + (10 : Int32))) r3) 93 (Int32.toNatClampNeg (((32 : Int32) * v1) + (11 : Int32))) ((it_sv m4 93 (Int32.toNatClampNeg (((32 : Int32) * v1) + (10 : Int32))) r3) 89 (Int32.toNatClampNeg v1))) 90 (Int32.toNatClampNeg v1))) 91 (Int32.toNatClampNeg v1))) 81 (Int32.toNatClampNeg v1))), (.int v1), (.ref 94)]) (mem1 := (it_sv (it_sv (it_sv (it_sv m4 93 (Int32.toNatClampNeg (((32 : Int32) * v1) + (10 : Int32))) r3) 93 (Int32.toNatClampNeg (((32 : Int32) * v1) + (11 : Int32))) ((it_sv m4 93 (Int32.toNatClampNeg (((32 : Int32) * v1) + (10 : Int32))) r3) 89 (Int32.toNatClampNeg v1))) 93 (Int32.toNatClampNeg (((32 : Int32) * v1) + (12 : Int32))) ((it_sv (it_sv m4 93 (Int32.toNatClampNeg (((32 : Int32) * v1) + (10 : Int32))) r3) 93 (Int32.toNatClampNeg (((32 : Int32) * v1) + (11 : Int32))) ((it_sv m4 93 (Int32.toNatClampNeg (((32 : Int32) * v1) + (10 : Int32))) r3) 89 (Int32.toNatClampNeg v1))) 90 (Int32.toNatClampNeg v1))) 93 (Int32.toNatClampNeg (((32 : Int32) * v1) + (13 : Int32))) ((it_sv (it_sv (it_sv m4 93 (Int32.toNatClampNeg (((32 : Int32) * v1) + (10 : Int32))) r3) 93 (Int32.toNatClampNeg (((32 : Int32) * v1) + (11 : Int32))) ((it_sv m4 93 (Int32.toNatClampNeg (((32 : Int32) * v1) + (10 : Int32))) r3) 89 (Int32.toNatClampNeg v1))) 93 (Int32.toNatClampNeg (((32 : Int32) * v1) + (12 : Int32))) ((it_sv (it_sv m4 93 (Int32.toNatClampNeg (((32 : Int32) * v1) + (10 : Int32))) r3) 93 (Int32.toNatClampNeg (((32 : Int32) * v1) + (11 : Int32))) ((it_sv m4 93 (Int32.toNatClampNeg (((32 : Int32) * v1) + (10 : Int32))) r3) 89 (Int32.toNatClampNeg v1))) 90 (Int32.toNatClampNeg v1))) 91 (Int32.toNatClampNeg v1)))) rfl rfl rfl rfl ?_
  refine it_V.sN it_cd253 it_m253 2 (pc1 := 203) (ls1 := [some (.ref 66), some (.int v1), none]) (st1 := [(.int (((it_sv (it_sv (it_sv (it_sv m4 93 (Int32.toNatClampNeg (((32 : Int32) * v1) + (10 : Int32))) r3) 93 (Int32.toNatClampNeg (((32 : Int32) * v1) + (11 : Int32))) ((it_sv m4 93 (Int32.toNatClampNeg (((32 : Int32) * v1) + (10 : Int32))) r3) 89 (Int32.toNatClampNeg v1))) 93 (Int32.toNatClampNeg (((32 : Int32) * v1) + (12 : Int32))) ((it_sv (it_sv m4 93 (Int32.toNatClampNeg (((32 : Int32) * v1) + (10 : Int32))) r3) 93 (Int32.toNatClampNeg (((32 : Int32) * v1) + (11 : Int32))) ((it_sv m4 93 (Int32.toNatClampNeg (((32 : Int32) * v1) + (10 : Int32))) r3) 89 (Int32.toNatClampNeg v1))) 90 (Int32.toNatClampNeg v1))) 93 (Int32.toNatClampNeg (((32 : Int32) * v1) + (13 : Int32))) ((it_sv (it_sv (it_sv m4 93 (Int32.toNatClampNeg (((32 : Int32) * v1) + (10 : Int32))) r3) 93 (Int32.toNatClampNeg (((32 : Int32) * v1) + (11 : Int32))) ((it_sv m4 93 (Int32.toNatClampNeg (((32 : Int32) * v1) + (10 : Int32))) r3) 89 (Int32.toNatClampNeg v1))) 93 (Int32.toNatClampNeg (((32 : Int32) * v1) + (12 : Int32))) ((it_sv (it_sv m4 93 (Int32.toNatClampNeg (((32 : Int32) * v1) + (10 : Int32))) r3) 93 (Int32.toNatClampNeg (((32 : Int32) * v1) + (11 : Int32))) ((it_sv m4 93 (Int32.toNatClampNeg (((32 : Int32) * v1) + (10 : Int32))) r3) 89 (Int32.toNatClampNeg v1))) 90 (Int32.toNatClampNeg v1))) 91 (Int32.toNatClampNeg v1))) 81 (Int32.toNatClampNeg v1)) &&& (-2 : Int32))), (.int v1), (.ref 94)]) (mem1 := (it_sv (it_sv (it_sv (it_sv m4 93 (Int32.toNatClampNeg (((32 : Int32) * v1) + (10 : Int32))) r3) 93 (Int32.toNatClampNeg (((32 : Int32) * v1) + (11 : Int32))) ((it_sv m4 93 (Int32.toNatClampNeg (((32 : Int32) * v1) + (10 : Int32))) r3) 89 (Int32.toNatClampNeg v1))) 93 (Int32.toNatClampNeg (((32 : Int32) * v1) + (12 : Int32))) ((it_sv (it_sv m4 93 (Int32.toNatClampNeg (((32 : Int32) * v1) + (10 : Int32))) r3) 93 (Int32.toNatClampNeg (((32 : Int32) * v1) + (11 : Int32))) ((it_sv m4 93 (Int32.toNatClampNeg (((32 : Int32) * v1) + (10 : Int32))) r3) 89 (Int32.toNatClampNeg v1))) 90 (Int32.toNatClampNeg v1))) 93 (Int32.toNatClampNeg (((32 : Int32) * v1) + (13 : Int32))) ((it_sv (it_sv (it_sv m4 93 (Int32.toNatClampNeg (((32 : Int32) * v1) + (10 : Int32))) r3) 93 (Int32.toNatClampNeg (((32 : Int32) * v1) + (11 : Int32))) ((it_sv m4 93 (Int32.toNatClampNeg (((32 : Int32) * v1) + (10 : Int32))) r3) 89 (Int32.toNatClampNeg v1))) 93 (Int32.toNatClampNeg (((32 : Int32) * v1) + (12 : Int32))) ((it_sv (it_sv m4 93 (Int32.toNatClampNeg (((32 : Int32) * v1) + (10 : Int32))) r3) 93 (Int32.toNatClampNeg (((32 : Int32) * v1) + (11 : Int32))) ((it_sv m4 93 (Int32.toNatClampNeg (((32 : Int32) * v1) + (10 : Int32))) r3) 89 (Int32.toNatClampNeg v1))) 90 (Int32.toNatClampNeg v1))) 91 (Int32.toNatClampNeg v1)))) rfl ?_
  obtain ⟨g13, h⟩ := h
  refine it_V.iast it_cd253 it_m253 rfl ((⟨rfl, by decide⟩ : it_isR 94 8)).1 g13 ?_
  refine it_V.at (pc1 := 204) (ls1 := [some (.ref 66), some (.int v1), none]) (st1 := []) (mem1 := (it_sv (it_sv (it_sv (it_sv (it_sv m4 93 (Int32.toNatClampNeg (((32 : Int32) * v1) + (10 : Int32))) r3) 93 (Int32.toNatClampNeg (((32 : Int32) * v1) + (11 : Int32))) ((it_sv m4 93 (Int32.toNatClampNeg (((32 : Int32) * v1) + (10 : Int32))) r3) 89 (Int32.toNatClampNeg v1))) 93 (Int32.toNatClampNeg (((32 : Int32) * v1) + (12 : Int32))) ((it_sv (it_sv m4 93 (Int32.toNatClampNeg (((32 : Int32) * v1) + (10 : Int32))) r3) 93 (Int32.toNatClampNeg (((32 : Int32) * v1) + (11 : Int32))) ((it_sv m4 93 (Int32.toNatClampNeg (((32 : Int32) * v1) + (10 : Int32))) r3) 89 (Int32.toNatClampNeg v1))) 90 (Int32.toNatClampNeg v1))) 93 (Int32.toNatClampNeg (((32 : Int32) * v1) + (13 : Int32))) ((it_sv (it_sv (it_sv m4 93 (Int32.toNatClampNeg (((32 : Int32) * v1) + (10 : Int32))) r3) 93 (Int32.toNatClampNeg (((32 : Int32) * v1) + (11 : Int32))) ((it_sv m4 93 (Int32.toNatClampNeg (((32 : Int32) * v1) + (10 : Int32))) r3) 89 (Int32.toNatClampNeg v1))) 93 (Int32.toNatClampNeg (((32 : Int32) * v1) + (12 : Int32))) ((it_sv (it_sv m4 93 (Int32.toNatClampNeg (((32 : Int32) * v1) + (10 : Int32))) r3) 93 (Int32.toNatClampNeg (((32 : Int32) * v1) + (11 : Int32))) ((it_sv m4 93 (Int32.toNatClampNeg (((32 : Int32) * v1) + (10 : Int32))) r3) 89 (Int32.toNatClampNeg v1))) 90 (Int32.toNatClampNeg v1))) 91 (Int32.toNatClampNeg v1))) 94 (Int32.toNatClampNeg v1) (((it_sv (it_sv (it_sv (it_sv m4 93 (Int32.toNatClampNeg (((32 : Int32) * v1) + (10 : Int32))) r3) 93 (Int32.toNatClampNeg (((32 : Int32) * v1) + (11 : Int32))) ((it_sv m4 93 (Int32.toNatClampNeg (((32 : Int32) * v1) + (10 : Int32))) r3) 89 (Int32.toNatClampNeg v1))) 93 (Int32.toNatClampNeg (((32 : Int32) * v1) + (12 : Int32))) ((it_sv (it_sv m4 93 (Int32.toNatClampNeg (((32 : Int32) * v1) + (10 : Int32))) r3) 93 (Int32.toNatClampNeg (((32 : Int32) * v1) + (11 : Int32))) ((it_sv m4 93 (Int32.toNatClampNeg (((32 : Int32) * v1) + (10 : Int32))) r3) 89 (Int32.toNatClampNeg v1))) 90 (Int32.toNatClampNeg v1))) 93 (Int32.toNatClampNeg (((32 : Int32) * v1) + (13 : Int32))) ((it_sv (it_sv (it_sv m4 93 (Int32.toNatClampNeg (((32 : Int32) * v1) + (10 : Int32))) r3) 93 (Int32.toNatClampNeg (((32 : Int32) * v1) + (11 : Int32))) ((it_sv m4 93 (Int32.toNatClampNeg (((32 : Int32) * v1) + (10 : Int32))) r3) 89 (Int32.toNatClampNeg v1))) 93 (Int32.toNatClampNeg (((32 : Int32) * v1) + (12 : Int32))) ((it_sv (it_sv m4 93 (Int32.toNatClampNeg (((32 : Int32) * v1) + (10 : Int32))) r3) 93 (Int32.toNatClampNeg (((32 : Int32) * v1) + (11 : Int32))) ((it_sv m4 93 (Int32.toNatClampNeg (((32 : Int32) * v1) + (10 : Int32))) r3) 89 (Int32.toNatClampNeg v1))) 90 (Int32.toNatClampNeg v1))) 91 (Int32.toNatClampNeg v1))) 81 (Int32.toNatClampNeg v1)) &&& (-2 : Int32)))) rfl rfl rfl rfl ?_
  refine it_V.sN it_cd253 it_m253 4 (pc1 := 210) (ls1 := [some (.ref 66), some (.int v1), none]) (st1 := [(.int (1 : Int32)), (.int v1), (.ref 95)]) (mem1 := (it_sv (it_sv (it_sv (it_sv (it_sv m4 93 (Int32.toNatClampNeg (((32 : Int32) * v1) + (10 : Int32))) r3) 93 (Int32.toNatClampNeg (((32 : Int32) * v1) + (11 : Int32))) ((it_sv m4 93 (Int32.toNatClampNeg (((32 : Int32) * v1) + (10 : Int32))) r3) 89 (Int32.toNatClampNeg v1))) 93 (Int32.toNatClampNeg (((32 : Int32) * v1) + (12 : Int32))) ((it_sv (it_sv m4 93 (Int32.toNatClampNeg (((32 : Int32) * v1) + (10 : Int32))) r3) 93 (Int32.toNatClampNeg (((32 : Int32) * v1) + (11 : Int32))) ((it_sv m4 93 (Int32.toNatClampNeg (((32 : Int32) * v1) + (10 : Int32))) r3) 89 (Int32.toNatClampNeg v1))) 90 (Int32.toNatClampNeg v1))) 93 (Int32.toNatClampNeg (((32 : Int32) * v1) + (13 : Int32))) ((it_sv (it_sv (it_sv m4 93 (Int32.toNatClampNeg (((32 : Int32) * v1) + (10 : Int32))) r3) 93 (Int32.toNatClampNeg (((32 : Int32) * v1) + (11 : Int32))) ((it_sv m4 93 (Int32.toNatClampNeg (((32 : Int32) * v1) + (10 : Int32))) r3) 89 (Int32.toNatClampNeg v1))) 93 (Int32.toNatClampNeg (((32 : Int32) * v1) + (12 : Int32))) ((it_sv (it_sv m4 93 (Int32.toNatClampNeg (((32 : Int32) * v1) + (10 : Int32))) r3) 93 (Int32.toNatClampNeg (((32 : Int32) * v1) + (11 : Int32))) ((it_sv m4 93 (Int32.toNatClampNeg (((32 : Int32) * v1) + (10 : Int32))) r3) 89 (Int32.toNatClampNeg v1))) 90 (Int32.toNatClampNeg v1))) 91 (Int32.toNatClampNeg v1))) 94 (Int32.toNatClampNeg v1) (((it_sv (it_sv (it_sv (it_sv m4 93 (Int32.toNatClampNeg (((32 : Int32) * v1) + (10 : Int32))) r3) 93 (Int32.toNatClampNeg (((32 : Int32) * v1) + (11 : Int32))) ((it_sv m4 93 (Int32.toNatClampNeg (((32 : Int32) * v1) + (10 : Int32))) r3) 89 (Int32.toNatClampNeg v1))) 93 (Int32.toNatClampNeg (((32 : Int32) * v1) + (12 : Int32))) ((it_sv (it_sv m4 93 (Int32.toNatClampNeg (((32 : Int32) * v1) + (10 : Int32))) r3) 93 (Int32.toNatClampNeg (((32 : Int32) * v1) + (11 : Int32))) ((it_sv m4 93 (Int32.toNatClampNeg (((32 : Int32) * v1) + (10 : Int32))) r3) 89 (Int32.toNatClampNeg v1))) 90 (Int32.toNatClampNeg v1))) 93 (Int32.toNatClampNeg (((32 : Int32) * v1) + (13 : Int32))) ((it_sv (it_sv (it_sv m4 93 (Int32.toNatClampNeg (((32 : Int32) * v1) + (10 : Int32))) r3) 93 (Int32.toNatClampNeg (((32 : Int32) * v1) + (11 : Int32))) ((it_sv m4 93 (Int32.toNatClampNeg (((32 : Int32) * v1) + (10 : Int32))) r3) 89 (Int32.toNatClampNeg v1))) 93 (Int32.toNatClampNeg (((32 : Int32) * v1) + (12 : Int32))) ((it_sv (it_sv m4 93 (Int32.toNatClampNeg (((32 : Int32) * v1) + (10 : Int32))) r3) 93 (Int32.toNatClampNeg (((32 : Int32) * v1) + (11 : Int32))) ((it_sv m4 93 (Int32.toNatClampNeg (((32 : Int32) * v1) + (10 : Int32))) r3) 89 (Int32.toNatClampNeg v1))) 90 (Int32.toNatClampNeg v1))) 91 (Int32.toNatClampNeg v1))) 81 (Int32.toNatClampNeg v1)) &&& (-2 : Int32)))) rfl ?_
  obtain ⟨g14, h⟩ := h
  refine it_V.iast it_cd253 it_m253 rfl ((⟨rfl, by decide⟩ : it_isR 95 8)).1 g14 ?_
  refine it_V.at (pc1 := 211) (ls1 := [some (.ref 66), some (.int v1), none]) (st1 := []) (mem1 := (it_sv (it_sv (it_sv (it_sv (it_sv (it_sv m4 93 (Int32.toNatClampNeg (((32 : Int32) * v1) + (10 : Int32))) r3) 93 (Int32.toNatClampNeg (((32 : Int32) * v1) + (11 : Int32))) ((it_sv m4 93 (Int32.toNatClampNeg (((32 : Int32) * v1) + (10 : Int32))) r3) 89 (Int32.toNatClampNeg v1))) 93 (Int32.toNatClampNeg (((32 : Int32) * v1) + (12 : Int32))) ((it_sv (it_sv m4 93 (Int32.toNatClampNeg (((32 : Int32) * v1) + (10 : Int32))) r3) 93 (Int32.toNatClampNeg (((32 : Int32) * v1) + (11 : Int32))) ((it_sv m4 93 (Int32.toNatClampNeg (((32 : Int32) * v1) + (10 : Int32))) r3) 89 (Int32.toNatClampNeg v1))) 90 (Int32.toNatClampNeg v1))) 93 (Int32.toNatClampNeg (((32 : Int32) * v1) + (13 : Int32))) ((it_sv (it_sv (it_sv m4 93 (Int32.toNatClampNeg (((32 : Int32) * v1) + (10 : Int32))) r3) 93 (Int32.toNatClampNeg (((32 : Int32) * v1) + (11 : Int32))) ((it_sv m4 93 (Int32.toNatClampNeg (((32 : Int32) * v1) + (10 : Int32))) r3) 89 (Int32.toNatClampNeg v1))) 93 (Int32.toNatClampNeg (((32 : Int32) * v1) + (12 : Int32))) ((it_sv (it_sv m4 93 (Int32.toNatClampNeg (((32 : Int32) * v1) + (10 : Int32))) r3) 93 (Int32.toNatClampNeg (((32 : Int32) * v1) + (11 : Int32))) ((it_sv m4 93 (Int32.toNatClampNeg (((32 : Int32) * v1) + (10 : Int32))) r3) 89 (Int32.toNatClampNeg v1))) 90 (Int32.toNatClampNeg v1))) 91 (Int32.toNatClampNeg v1))) 94 (Int32.toNatClampNeg v1) (((it_sv (it_sv (it_sv (it_sv m4 93 (Int32.toNatClampNeg (((32 : Int32) * v1) + (10 : Int32))) r3) 93 (Int32.toNatClampNeg (((32 : Int32) * v1) + (11 : Int32))) ((it_sv m4 93 (Int32.toNatClampNeg (((32 : Int32) * v1) + (10 : Int32))) r3) 89 (Int32.toNatClampNeg v1))) 93 (Int32.toNatClampNeg (((32 : Int32) * v1) + (12 : Int32))) ((it_sv (it_sv m4 93 (Int32.toNatClampNeg (((32 : Int32) * v1) + (10 : Int32))) r3) 93 (Int32.toNatClampNeg (((32 : Int32) * v1) + (11 : Int32))) ((it_sv m4 93 (Int32.toNatClampNeg (((32 : Int32) * v1) + (10 : Int32))) r3) 89 (Int32.toNatClampNeg v1))) 90 (Int32.toNatClampNeg v1))) 93 (Int32.toNatClampNeg (((32 : Int32) * v1) + (13 : Int32))) ((it_sv (it_sv (it_sv m4 93 (Int32.toNatClampNeg (((32 : Int32) * v1) + (10 : Int32))) r3) 93 (Int32.toNatClampNeg (((32 : Int32) * v1) + (11 : Int32))) ((it_sv m4 93 (Int32.toNatClampNeg (((32 : Int32) * v1) + (10 : Int32))) r3) 89 (Int32.toNatClampNeg v1))) 93 (Int32.toNatClampNeg (((32 : Int32) * v1) + (12 : Int32))) ((it_sv (it_sv m4 93 (Int32.toNatClampNeg (((32 : Int32) * v1) + (10 : Int32))) r3) 93 (Int32.toNatClampNeg (((32 : Int32) * v1) + (11 : Int32))) ((it_sv m4 93 (Int32.toNatClampNeg (((32 : Int32) * v1) + (10 : Int32))) r3) 89 (Int32.toNatClampNeg v1))) 90 (Int32.toNatClampNeg v1))) 91 (Int32.toNatClampNeg v1))) 81 (Int32.toNatClampNeg v1)) &&& (-2 : Int32))) 95 (Int32.toNatClampNeg v1) (1 : Int32))) rfl rfl rfl rfl ?_
  refine it_V.sN it_cd253 it_m253 4 (pc1 := 217) (ls1 := [some (.ref 66), some (.int v1), none]) (st1 := [(.int (0 : Int32)), (.int v1), (.ref 97)]) (mem1 := (it_sv (it_sv (it_sv (it_sv (it_sv (it_sv m4 93 (Int32.toNatClampNeg (((32 : Int32) * v1) + (10 : Int32))) r3) 93 (Int32.toNatClampNeg (((32 : Int32) * v1) + (11 : Int32))) ((it_sv m4 93 (Int32.toNatClampNeg (((32 : Int32) * v1) + (10 : Int32))) r3) 89 (Int32.toNatClampNeg v1))) 93 (Int32.toNatClampNeg (((32 : Int32) * v1) + (12 : Int32))) ((it_sv (it_sv m4 93 (Int32.toNatClampNeg (((32 : Int32) * v1) + (10 : Int32))) r3) 93 (Int32.toNatClampNeg (((32 : Int32) * v1) + (11 : Int32))) ((it_sv m4 93 (Int32.toNatClampNeg (((32 : Int32) * v1) + (10 : Int32))) r3) 89 (Int32.toNatClampNeg v1))) 90 (Int32.toNatClampNeg v1))) 93 (Int32.toNatClampNeg (((32 : Int32) * v1) + (13 : Int32))) ((it_sv (it_sv (it_sv m4 93 (Int32.toNatClampNeg (((32 : Int32) * v1) + (10 : Int32))) r3) 93 (Int32.toNatClampNeg (((32 : Int32) * v1) + (11 : Int32))) ((it_sv m4 93 (Int32.toNatClampNeg (((32 : Int32) * v1) + (10 : Int32))) r3) 89 (Int32.toNatClampNeg v1))) 93 (Int32.toNatClampNeg (((32 : Int32) * v1) + (12 : Int32))) ((it_sv (it_sv m4 93 (Int32.toNatClampNeg (((32 : Int32) * v1) + (10 : Int32))) r3) 93 (Int32.toNatClampNeg (((32 : Int32) * v1) + (11 : Int32))) ((it_sv m4 93 (Int32.toNatClampNeg (((32 : Int32) * v1) + (10 : Int32))) r3) 89 (Int32.toNatClampNeg v1))) 90 (Int32.toNatClampNeg v1))) 91 (Int32.toNatClampNeg v1))) 94 (Int32.toNatClampNeg v1) (((it_sv (it_sv (it_sv (it_sv m4 93 (Int32.toNatClampNeg (((32 : Int32) * v1) + (10 : Int32))) r3) 93 (Int32.toNatClampNeg (((32 : Int32) * v1) + (11 : Int32))) ((it_sv m4 93 (Int32.toNatClampNeg (((32 : Int32) * v1) + (10 : Int32))) r3) 89 (Int32.toNatClampNeg v1))) 93 (Int32.toNatClampNeg (((32 : Int32) * v1) + (12 : Int32))) ((it_sv (it_sv m4 93 (Int32.toNatClampNeg (((32 : Int32) * v1) + (10 : Int32))) r3) 93 (Int32.toNatClampNeg (((32 : Int32) * v1) + (11 : Int32))) ((it_sv m4 93 (Int32.toNatClampNeg (((32 : Int32) * v1) + (10 : Int32))) r3) 89 (Int32.toNatClampNeg v1))) 90 (Int32.toNatClampNeg v1))) 93 (Int32.toNatClampNeg (((32 : Int32) * v1) + (13 : Int32))) ((it_sv (it_sv (it_sv m4 93 (Int32.toNatClampNeg (((32 : Int32) * v1) + (10 : Int32))) r3) 93 (Int32.toNatClampNeg (((32 : Int32) * v1) + (11 : Int32))) ((it_sv m4 93 (Int32.toNatClampNeg (((32 : Int32) * v1) + (10 : Int32))) r3) 89 (Int32.toNatClampNeg v1))) 93 (Int32.toNatClampNeg (((32 : Int32) * v1) + (12 : Int32))) ((it_sv (it_sv m4 93 (Int32.toNatClampNeg (((32 : Int32) * v1) + (10 : Int32))) r3) 93 (Int32.toNatClampNeg (((32 : Int32) * v1) + (11 : Int32))) ((it_sv m4 93 (Int32.toNatClampNeg (((32 : Int32) * v1) + (10 : Int32))) r3) 89 (Int32.toNatClampNeg v1))) 90 (Int32.toNatClampNeg v1))) 91 (Int32.toNatClampNeg v1))) 81 (Int32.toNatClampNeg v1)) &&& (-2 : Int32))) 95 (Int32.toNatClampNeg v1) (1 : Int32))) rfl ?_
  obtain ⟨g15, h⟩ := h
  refine it_V.iast it_cd253 it_m253 rfl ((⟨rfl, by decide⟩ : it_isR 97 8)).1 g15 ?_
  refine it_V.at (pc1 := 218) (ls1 := [some (.ref 66), some (.int v1), none]) (st1 := []) (mem1 := (it_sv (it_sv (it_sv (it_sv (it_sv (it_sv (it_sv m4 93 (Int32.toNatClampNeg (((32 : Int32) * v1) + (10 : Int32))) r3) 93 (Int32.toNatClampNeg (((32 : Int32) * v1) + (11 : Int32))) ((it_sv m4 93 (Int32.toNatClampNeg (((32 : Int32) * v1) + (10 : Int32))) r3) 89 (Int32.toNatClampNeg v1))) 93 (Int32.toNatClampNeg (((32 : Int32) * v1) + (12 : Int32))) ((it_sv (it_sv m4 93 (Int32.toNatClampNeg (((32 : Int32) * v1) + (10 : Int32))) r3) 93 (Int32.toNatClampNeg (((32 : Int32) * v1) + (11 : Int32))) ((it_sv m4 93 (Int32.toNatClampNeg (((32 : Int32) * v1) + (10 : Int32))) r3) 89 (Int32.toNatClampNeg v1))) 90 (Int32.toNatClampNeg v1))) 93 (Int32.toNatClampNeg (((32 : Int32) * v1) + (13 : Int32))) ((it_sv (it_sv (it_sv m4 93 (Int32.toNatClampNeg (((32 : Int32) * v1) + (10 : Int32))) r3) 93 (Int32.toNatClampNeg (((32 : Int32) * v1) + (11 : Int32))) ((it_sv m4 93 (Int32.toNatClampNeg (((32 : Int32) * v1) + (10 : Int32))) r3) 89 (Int32.toNatClampNeg v1))) 93 (Int32.toNatClampNeg (((32 : Int32) * v1) + (12 : Int32))) ((it_sv (it_sv m4 93 (Int32.toNatClampNeg (((32 : Int32) * v1) + (10 : Int32))) r3) 93 (Int32.toNatClampNeg (((32 : Int32) * v1) + (11 : Int32))) ((it_sv m4 93 (Int32.toNatClampNeg (((32 : Int32) * v1) + (10 : Int32))) r3) 89 (Int32.toNatClampNeg v1))) 90 (Int32.toNatClampNeg v1))) 91 (Int32.toNatClampNeg v1))) 94 (Int32.toNatClampNeg v1) (((it_sv (it_sv (it_sv (it_sv m4 93 (Int32.toNatClampNeg (((32 : Int32) * v1) + (10 : Int32))) r3) 93 (Int32.toNatClampNeg (((32 : Int32) * v1) + (11 : Int32))) ((it_sv m4 93 (Int32.toNatClampNeg (((32 : Int32) * v1) + (10 : Int32))) r3) 89 (Int32.toNatClampNeg v1))) 93 (Int32.toNatClampNeg (((32 : Int32) * v1) + (12 : Int32))) ((it_sv (it_sv m4 93 (Int32.toNatClampNeg (((32 : Int32) * v1) + (10 : Int32))) r3) 93 (Int32.toNatClampNeg (((32 : Int32) * v1) + (11 : Int32))) ((it_sv m4 93 (Int32.toNatClampNeg (((32 : Int32) * v1) + (10 : Int32))) r3) 89 (Int32.toNatClampNeg v1))) 90 (Int32.toNatClampNeg v1))) 93 (Int32.toNatClampNeg (((32 : Int32) * v1) + (13 : Int32))) ((it_sv (it_sv (it_sv m4 93 (Int32.toNatClampNeg (((32 : Int32) * v1) + (10 : Int32))) r3) 93 (Int32.toNatClampNeg (((32 : Int32) * v1) + (11 : Int32))) ((it_sv m4 93 (Int32.toNatClampNeg (((32 : Int32) * v1) + (10 : Int32))) r3) 89 (Int32.toNatClampNeg v1))) 93 (Int32.toNatClampNeg (((32 : Int32) * v1) + (12 : Int32))) ((it_sv (it_sv m4 93 (Int32.toNatClampNeg (((32 : Int32) * v1) + (10 : Int32))) r3) 93 (Int32.toNatClampNeg (((32 : Int32) * v1) + (11 : Int32))) ((it_sv m4 93 (Int32.toNatClampNeg (((32 : Int32) * v1) + (10 : Int32))) r3) 89 (Int32.toNatClampNeg v1))) 90 (Int32.toNatClampNeg v1))) 91 (Int32.toNatClampNeg v1))) 81 (Int32.toNatClampNeg v1)) &&& (-2 : Int32))) 95 (Int32.toNatClampNeg v1) (1 : Int32)) 97 (Int32.toNatClampNeg v1) (0 : Int32))) rfl rfl rfl rfl ?_
  refine it_V.sN it_cd253 it_m253 4 (pc1 := 224) (ls1 := [some (.ref 66), some (.int v1), none]) (st1 := [(.int (0 : Int32)), (.int v1), (.ref 101)]) (mem1 := (it_sv (it_sv (it_sv (it_sv (it_sv (it_sv (it_sv m4 93 (Int32.toNatClampNeg (((32 : Int32) * v1) + (10 : Int32))) r3) 93 (Int32.toNatClampNeg (((32 : Int32) * v1) + (11 : Int32))) ((it_sv m4 93 (Int32.toNatClampNeg (((32 : Int32) * v1) + (10 : Int32))) r3) 89 (Int32.toNatClampNeg v1))) 93 (Int32.toNatClampNeg (((32 : Int32) * v1) + (12 : Int32))) ((it_sv (it_sv m4 93 (Int32.toNatClampNeg (((32 : Int32) * v1) + (10 : Int32))) r3) 93 (Int32.toNatClampNeg (((32 : Int32) * v1) + (11 : Int32))) ((it_sv m4 93 (Int32.toNatClampNeg (((32 : Int32) * v1) + (10 : Int32))) r3) 89 (Int32.toNatClampNeg v1))) 90 (Int32.toNatClampNeg v1))) 93 (Int32.toNatClampNeg (((32 : Int32) * v1) + (13 : Int32))) ((it_sv (it_sv (it_sv m4 93 (Int32.toNatClampNeg (((32 : Int32) * v1) + (10 : Int32))) r3) 93 (Int32.toNatClampNeg (((32 : Int32) * v1) + (11 : Int32))) ((it_sv m4 93 (Int32.toNatClampNeg (((32 : Int32) * v1) + (10 : Int32))) r3) 89 (Int32.toNatClampNeg v1))) 93 (Int32.toNatClampNeg (((32 : Int32) * v1) + (12 : Int32))) ((it_sv (it_sv m4 93 (Int32.toNatClampNeg (((32 : Int32) * v1) + (10 : Int32))) r3) 93 (Int32.toNatClampNeg (((32 : Int32) * v1) + (11 : Int32))) ((it_sv m4 93 (Int32.toNatClampNeg (((32 : Int32) * v1) + (10 : Int32))) r3) 89 (Int32.toNatClampNeg v1))) 90 (Int32.toNatClampNeg v1))) 91 (Int32.toNatClampNeg v1))) 94 (Int32.toNatClampNeg v1) (((it_sv (it_sv (it_sv (it_sv m4 93 (Int32.toNatClampNeg (((32 : Int32) * v1) + (10 : Int32))) r3) 93 (Int32.toNatClampNeg (((32 : Int32) * v1) + (11 : Int32))) ((it_sv m4 93 (Int32.toNatClampNeg (((32 : Int32) * v1) + (10 : Int32))) r3) 89 (Int32.toNatClampNeg v1))) 93 (Int32.toNatClampNeg (((32 : Int32) * v1) + (12 : Int32))) ((it_sv (it_sv m4 93 (Int32.toNatClampNeg (((32 : Int32) * v1) + (10 : Int32))) r3) 93 (Int32.toNatClampNeg (((32 : Int32) * v1) + (11 : Int32))) ((it_sv m4 93 (Int32.toNatClampNeg (((32 : Int32) * v1) + (10 : Int32))) r3) 89 (Int32.toNatClampNeg v1))) 90 (Int32.toNatClampNeg v1))) 93 (Int32.toNatClampNeg (((32 : Int32) * v1) + (13 : Int32))) ((it_sv (it_sv (it_sv m4 93 (Int32.toNatClampNeg (((32 : Int32) * v1) + (10 : Int32))) r3) 93 (Int32.toNatClampNeg (((32 : Int32) * v1) + (11 : Int32))) ((it_sv m4 93 (Int32.toNatClampNeg (((32 : Int32) * v1) + (10 : Int32))) r3) 89 (Int32.toNatClampNeg v1))) 93 (Int32.toNatClampNeg (((32 : Int32) * v1) + (12 : Int32))) ((it_sv (it_sv m4 93 (Int32.toNatClampNeg (((32 : Int32) * v1) + (10 : Int32))) r3) 93 (Int32.toNatClampNeg (((32 : Int32) * v1) + (11 : Int32))) ((it_sv m4 93 (Int32.toNatClampNeg (((32 : Int32) * v1) + (10 : Int32))) r3) 89 (Int32.toNatClampNeg v1))) 90 (Int32.toNatClampNeg v1))) 91 (Int32.toNatClampNeg v1))) 81 (Int32.toNatClampNeg v1)) &&& (-2 : Int32))) 95 (Int32.toNatClampNeg v1) (1 : Int32)) 97 (Int32.toNatClampNeg v1) (0 : Int32))) rfl ?_
  obtain ⟨g16, h⟩ := h
  refine it_V.iast it_cd253 it_m253 rfl ((⟨rfl, by decide⟩ : it_isR 101 8)).1 g16 ?_
  refine it_V.at (pc1 := 225) (ls1 := [some (.ref 66), some (.int v1), none]) (st1 := []) (mem1 := (it_sv (it_sv (it_sv (it_sv (it_sv (it_sv (it_sv (it_sv m4 93 (Int32.toNatClampNeg (((32 : Int32) * v1) + (10 : Int32))) r3) 93 (Int32.toNatClampNeg (((32 : Int32) * v1) + (11 : Int32))) ((it_sv m4 93 (Int32.toNatClampNeg (((32 : Int32) * v1) + (10 : Int32))) r3) 89 (Int32.toNatClampNeg v1))) 93 (Int32.toNatClampNeg (((32 : Int32) * v1) + (12 : Int32))) ((it_sv (it_sv m4 93 (Int32.toNatClampNeg (((32 : Int32) * v1) + (10 : Int32))) r3) 93 (Int32.toNatClampNeg (((32 : Int32) * v1) + (11 : Int32))) ((it_sv m4 93 (Int32.toNatClampNeg (((32 : Int32) * v1) + (10 : Int32))) r3) 89 (Int32.toNatClampNeg v1))) 90 (Int32.toNatClampNeg v1))) 93 (Int32.toNatClampNeg (((32 : Int32) * v1) + (13 : Int32))) ((it_sv (it_sv (it_sv m4 93 (Int32.toNatClampNeg (((32 : Int32) * v1) + (10 : Int32))) r3) 93 (Int32.toNatClampNeg (((32 : Int32) * v1) + (11 : Int32))) ((it_sv m4 93 (Int32.toNatClampNeg (((32 : Int32) * v1) + (10 : Int32))) r3) 89 (Int32.toNatClampNeg v1))) 93 (Int32.toNatClampNeg (((32 : Int32) * v1) + (12 : Int32))) ((it_sv (it_sv m4 93 (Int32.toNatClampNeg (((32 : Int32) * v1) + (10 : Int32))) r3) 93 (Int32.toNatClampNeg (((32 : Int32) * v1) + (11 : Int32))) ((it_sv m4 93 (Int32.toNatClampNeg (((32 : Int32) * v1) + (10 : Int32))) r3) 89 (Int32.toNatClampNeg v1))) 90 (Int32.toNatClampNeg v1))) 91 (Int32.toNatClampNeg v1))) 94 (Int32.toNatClampNeg v1) (((it_sv (it_sv (it_sv (it_sv m4 93 (Int32.toNatClampNeg (((32 : Int32) * v1) + (10 : Int32))) r3) 93 (Int32.toNatClampNeg (((32 : Int32) * v1) + (11 : Int32))) ((it_sv m4 93 (Int32.toNatClampNeg (((32 : Int32) * v1) + (10 : Int32))) r3) 89 (Int32.toNatClampNeg v1))) 93 (Int32.toNatClampNeg (((32 : Int32) * v1) + (12 : Int32))) ((it_sv (it_sv m4 93 (Int32.toNatClampNeg (((32 : Int32) * v1) + (10 : Int32))) r3) 93 (Int32.toNatClampNeg (((32 : Int32) * v1) + (11 : Int32))) ((it_sv m4 93 (Int32.toNatClampNeg (((32 : Int32) * v1) + (10 : Int32))) r3) 89 (Int32.toNatClampNeg v1))) 90 (Int32.toNatClampNeg v1))) 93 (Int32.toNatClampNeg (((32 : Int32) * v1) + (13 : Int32))) ((it_sv (it_sv (it_sv m4 93 (Int32.toNatClampNeg (((32 : Int32) * v1) + (10 : Int32))) r3) 93 (Int32.toNatClampNeg (((32 : Int32) * v1) + (11 : Int32))) ((it_sv m4 93 (Int32.toNatClampNeg (((32 : Int32) * v1) + (10 : Int32))) r3) 89 (Int32.toNatClampNeg v1))) 93 (Int32.toNatClampNeg (((32 : Int32) * v1) + (12 : Int32))) ((it_sv (it_sv m4 93 (Int32.toNatClampNeg (((32 : Int32) * v1) + (10 : Int32))) r3) 93 (Int32.toNatClampNeg (((32 : Int32) * v1) + (11 : Int32))) ((it_sv m4 93 (Int32.toNatClampNeg (((32 : Int32) * v1) + (10 : Int32))) r3) 89 (Int32.toNatClampNeg v1))) 90 (Int32.toNatClampNeg v1))) 91 (Int32.toNatClampNeg v1))) 81 (Int32.toNatClampNeg v1)) &&& (-2 : Int32))) 95 (Int32.toNatClampNeg v1) (1 : Int32)) 97 (Int32.toNatClampNeg v1) (0 : Int32)) 101 (Int32.toNatClampNeg v1) (0 : Int32))) rfl rfl rfl rfl ?_
  exact it_V.ret it_cd253 it_m253 rfl rfl ⟨rfl, h⟩
set_option maxRecDepth 100000 in
set_option maxHeartbeats 4000000 in
theorem s_253_32 (kc : it_Kc) (Φ : it_Me → Prop) (v1 : Int32) (m : it_Me) (h : w_253_32 kc Φ v1 m) : it_V kc it_sh0 253 32 [some (.ref 66), some (.int v1), none] [] m (it_Pv Φ) := by
  rw [w_253_32] at h
  refine it_V.sN it_cd253 it_m253 6 (pc1 := 42) (ls1 := [some (.ref 66), some (.int v1), none]) (st1 := [(.int v1), (.ref 89), (.int v1), (.ref 91)]) (mem1 := m) rfl ?_
  obtain ⟨g1, h⟩ := h
  refine it_V.iald it_cd253 it_m253 rfl ((⟨rfl, by decide⟩ : it_isR 89 8)).2 ((⟨rfl, by decide⟩ : it_isR 89 8)).1 g1 ?_
  refine it_V.at (pc1 := 43) (ls1 := [some (.ref 66), some (.int v1), none]) (st1 := [(.int (m 89 (Int32.toNatClampNeg v1))), (.int v1), (.ref 91)]) (mem1 := m) rfl rfl rfl rfl ?_
  refine it_V.sN it_cd253 it_m253 3 (pc1 := 48) (ls1 := [some (.ref 66), some (.int v1), none]) (st1 := [(.int v1), (.ref 82), (.int (m 89 (Int32.toNatClampNeg v1))), (.int v1), (.ref 91)]) (mem1 := m) rfl ?_
  obtain ⟨g2, h⟩ := h
  refine it_V.iald it_cd253 it_m253 rfl ((⟨rfl, by decide⟩ : it_isR 82 8)).2 ((⟨rfl, by decide⟩ : it_isR 82 8)).1 g2 ?_
  refine it_V.at (pc1 := 49) (ls1 := [some (.ref 66), some (.int v1), none]) (st1 := [(.int (m 82 (Int32.toNatClampNeg v1))), (.int (m 89 (Int32.toNatClampNeg v1))), (.int v1), (.ref 91)]) (mem1 := m) rfl rfl rfl rfl ?_
  refine it_V.sN it_cd253 it_m253 3 (pc1 := 52) (ls1 := [some (.ref 66), some (.int v1), none]) (st1 := [(.int (4 : Int32)), (.int ((m 82 (Int32.toNatClampNeg v1)) + (3 : Int32))), (.int (m 89 (Int32.toNatClampNeg v1))), (.int v1), (.ref 91)]) (mem1 := m) rfl ?_
  obtain ⟨g3, h⟩ := h
  refine it_V.s1 it_cd253 it_m253 (pc1 := 53) (ls1 := [some (.ref 66), some (.int v1), none]) (st1 := [(.int (((m 82 (Int32.toNatClampNeg v1)) + (3 : Int32)) / (4 : Int32))), (.int (m 89 (Int32.toNatClampNeg v1))), (.int v1), (.ref 91)]) (mem1 := m) (by simp only [it_s1, show it_lk it_c253 52 = some (0, .idiv, 0, 0) from rfl, it_ops, if_neg g3]; rfl) ?_
  refine it_V.sN it_cd253 it_m253 3 (pc1 := 56) (ls1 := [some (.ref 66), some (.int v1), none]) (st1 := [(.int ((m 89 (Int32.toNatClampNeg v1)) + ((((m 82 (Int32.toNatClampNeg v1)) + (3 : Int32)) / (4 : Int32)) * (4 : Int32)))), (.int v1), (.ref 91)]) (mem1 := m) rfl ?_
  obtain ⟨g4, h⟩ := h
  refine it_V.iast it_cd253 it_m253 rfl ((⟨rfl, by decide⟩ : it_isR 91 8)).1 g4 ?_
  refine it_V.at (pc1 := 57) (ls1 := [some (.ref 66), some (.int v1), none]) (st1 := []) (mem1 := (it_sv m 91 (Int32.toNatClampNeg v1) ((m 89 (Int32.toNatClampNeg v1)) + ((((m 82 (Int32.toNatClampNeg v1)) + (3 : Int32)) / (4 : Int32)) * (4 : Int32))))) rfl rfl rfl rfl ?_
  refine it_V.sN it_cd253 it_m253 5 (pc1 := 64) (ls1 := [some (.ref 66), some (.int v1), none]) (st1 := [(.int v1), (.ref 66), (.int v1), (.ref 92)]) (mem1 := (it_sv m 91 (Int32.toNatClampNeg v1) ((m 89 (Int32.toNatClampNeg v1)) + ((((m 82 (Int32.toNatClampNeg v1)) + (3 : Int32)) / (4 : Int32)) * (4 : Int32))))) rfl ?_
  refine it_V.call it_cd253 it_m253 rfl it_m252 [(.ref 66), (.int v1)] [(.int v1), (.ref 92)] rfl rfl ⟨Nat.le_of_ble_eq_true rfl, Nat.le_of_ble_eq_true rfl, Nat.le_of_ble_eq_true rfl, Nat.le_of_ble_eq_true rfl, rfl⟩ (s_252 kc v1 (it_sv m 91 (Int32.toNatClampNeg v1) ((m 89 (Int32.toNatClampNeg v1)) + ((((m 82 (Int32.toNatClampNeg v1)) + (3 : Int32)) / (4 : Int32)) * (4 : Int32)))) _ h) ?_
  rintro _ m6 ⟨r5, rfl, h⟩
  refine it_V.at (pc1 := 67) (ls1 := [some (.ref 66), some (.int v1), none]) (st1 := [(.int r5), (.int v1), (.ref 92)]) (mem1 := m6) rfl rfl rfl rfl ?_
  obtain ⟨g7, h⟩ := h
  refine it_V.iast it_cd253 it_m253 rfl ((⟨rfl, by decide⟩ : it_isR 92 8)).1 g7 ?_
  refine it_V.at (pc1 := 68) (ls1 := [some (.ref 66), some (.int v1), none]) (st1 := []) (mem1 := (it_sv m6 92 (Int32.toNatClampNeg v1) r5)) rfl rfl rfl rfl ?_
  refine it_V.sN it_cd253 it_m253 4 (pc1 := 74) (ls1 := [some (.ref 66), some (.int v1), none]) (st1 := [(.int (0 : Int32)), (.int v1), (.ref 110)]) (mem1 := (it_sv m6 92 (Int32.toNatClampNeg v1) r5)) rfl ?_
  obtain ⟨g8, h⟩ := h
  refine it_V.iast it_cd253 it_m253 rfl ((⟨rfl, by decide⟩ : it_isR 110 8)).1 g8 ?_
  refine it_V.at (pc1 := 75) (ls1 := [some (.ref 66), some (.int v1), none]) (st1 := []) (mem1 := (it_sv (it_sv m6 92 (Int32.toNatClampNeg v1) r5) 110 (Int32.toNatClampNeg v1) (0 : Int32))) rfl rfl rfl rfl ?_
  refine it_V.sN it_cd253 it_m253 2 (pc1 := 77) (ls1 := [some (.ref 66), some (.int v1), some (.int (0 : Int32))]) (st1 := []) (mem1 := (it_sv (it_sv m6 92 (Int32.toNatClampNeg v1) r5) 110 (Int32.toNatClampNeg v1) (0 : Int32))) rfl ?_
  obtain ⟨n, h⟩ := h
  exact s_253_77 kc Φ _ (fun v1 m h => s_253_101 kc Φ v1 m h) n v1 (0 : Int32) (it_sv (it_sv m6 92 (Int32.toNatClampNeg v1) r5) 110 (Int32.toNatClampNeg v1) (0 : Int32)) h
set_option maxRecDepth 100000 in
set_option maxHeartbeats 4000000 in
theorem s_253 (kc : it_Kc) (x0 : Int32) (m : it_Me) (Φ : it_Me → Prop) (h : w_253 kc x0 m Φ) : it_V kc it_sh0 253 0 (it_loc0 [(.ref 66), (.int x0)] 3) [] m (it_Pv Φ) := by
  rw [w_253] at h
  refine it_V.at (pc1 := 0) (ls1 := [some (.ref 66), some (.int x0), none]) (st1 := []) (mem1 := m) rfl rfl rfl rfl ?_
  refine it_V.sN it_cd253 it_m253 2 (pc1 := 2) (ls1 := [some (.ref 66), some (.int x0), some (.int (0 : Int32))]) (st1 := []) (mem1 := m) rfl ?_
  obtain ⟨n, h⟩ := h
  exact s_253_2 kc Φ _ (fun v1 m h => s_253_32 kc Φ v1 m h) n x0 (0 : Int32) m h
set_option maxRecDepth 100000 in
set_option maxHeartbeats 4000000 in
theorem s_251_78 (kc : it_Kc) (Φ : Int32 → it_Me → Prop) (K98 : Int32 → it_Me → Prop) (hK98 : ∀ (v4 : Int32) (m : it_Me), K98 v4 m → it_V kc it_sh0 251 98 [some (.ref 66), none, none, none, some (.int v4), none, none] [] m (it_Pi Φ)) : ∀ (n : Nat) (v4 : Int32) (v6 : Int32) (m : it_Me) (h : w_251_78 kc Φ K98 n v4 v6 m), it_V kc it_sh0 251 78 [some (.ref 66), none, none, none, some (.int v4), none, some (.int v6)] [] m (it_Pi Φ) := by
  intro n
  induction n with
  | zero => intro v4 v6 m h; exact absurd h id
  | succ n ih =>
    intro v4 v6 m h
    rw [w_251_78] at h
    refine it_V.sN it_cd251 it_m251 3 (pc1 := (if (4 : Int32) ≤ v6 then 98 else 84)) (ls1 := [some (.ref 66), none, none, none, some (.int v4), none, some (.int v6)]) (st1 := []) (mem1 := m) rfl ?_
    refine it_V.ite (fun c1 => ?_) (fun c1 => ?_)
    · have h := h.1 c1
      refine it_V.weak (l := [some (.ref 66), none, none, none, some (.int v4), none, none]) ⟨rfl, ⟨rfl, trivial⟩⟩ ?_
      exact hK98 v4 m h
    · have h := h.2 c1
      refine it_V.sN it_cd251 it_m251 4 (pc1 := 91) (ls1 := [some (.ref 66), none, none, none, some (.int v4), none, some (.int v6)]) (st1 := [(.int (0 : Int32)), (.int v6), (.ref 71)]) (mem1 := m) rfl ?_
      obtain ⟨g2, h⟩ := h
      refine it_V.zast (n := 4) it_cd251 it_m251 rfl rfl g2 ?_
      refine it_V.at (pc1 := 92) (ls1 := [some (.ref 66), none, none, none, some (.int v4), none, some (.int v6)]) (st1 := []) (mem1 := (it_sv m 71 (Int32.toNatClampNeg v6) ((0 : Int32) &&& 1))) rfl rfl rfl rfl ?_
      refine it_V.sN it_cd251 it_m251 2 (pc1 := 78) (ls1 := [some (.ref 66), none, none, none, some (.int v4), none, some (.int (v6 + (1 : Int32)))]) (st1 := []) (mem1 := (it_sv m 71 (Int32.toNatClampNeg v6) ((0 : Int32) &&& 1))) rfl ?_
      refine it_V.weak (l := [some (.ref 66), none, none, none, some (.int v4), none, some (.int (v6 + (1 : Int32)))]) ⟨rfl, ⟨rfl, ⟨rfl, trivial⟩⟩⟩ ?_
      exact ih v4 (v6 + (1 : Int32)) (it_sv m 71 (Int32.toNatClampNeg v6) ((0 : Int32) &&& 1)) h
set_option maxRecDepth 100000 in
set_option maxHeartbeats 4000000 in
theorem s_251_146 (kc : it_Kc) (Φ : Int32 → it_Me → Prop) (K248 : it_Me → Prop) (hK248 : ∀ (m : it_Me), K248 m → it_V kc it_sh0 251 248 [some (.ref 66), none, none, none, none, none, none] [] m (it_Pi Φ)) : ∀ (n : Nat) (v6 : Int32) (m : it_Me) (h : w_251_146 kc Φ K248 n v6 m), it_V kc it_sh0 251 146 [some (.ref 66), none, none, none, none, none, some (.int v6)] [] m (it_Pi Φ) := by
  intro n
  induction n with
  | zero => intro v6 m h; exact absurd h id
  | succ n ih =>
    intro v6 m h
    rw [w_251_146] at h
    refine it_V.sN it_cd251 it_m251 4 (pc1 := (if (m 66 34) ≤ v6 then 248 else 155)) (ls1 := [some (.ref 66), none, none, none, none, none, some (.int v6)]) (st1 := []) (mem1 := m) rfl ?_
    refine it_V.ite (fun c1 => ?_) (fun c1 => ?_)
    · have h := h.1 c1
      refine it_V.weak (l := [some (.ref 66), none, none, none, none, none, none]) ⟨rfl, trivial⟩ ?_
      exact hK248 m h
    · have h := h.2 c1
      refine it_V.sN it_cd251 it_m251 4 (pc1 := 162) (ls1 := [some (.ref 66), none, none, none, none, none, some (.int v6)]) (st1 := [(.int (0 : Int32)), (.int v6), (.ref 96)]) (mem1 := m) rfl ?_
      obtain ⟨g2, h⟩ := h
      refine it_V.zast (n := 8) it_cd251 it_m251 rfl rfl g2 ?_
      refine it_V.at (pc1 := 163) (ls1 := [some (.ref 66), none, none, none, none, none, some (.int v6)]) (st1 := []) (mem1 := (it_sv m 96 (Int32.toNatClampNeg v6) ((0 : Int32) &&& 1))) rfl rfl rfl rfl ?_
      refine it_V.sN it_cd251 it_m251 4 (pc1 := 170) (ls1 := [some (.ref 66), none, none, none, none, none, some (.int v6)]) (st1 := [(.int (0 : Int32)), (.int v6), (.ref 100)]) (mem1 := (it_sv m 96 (Int32.toNatClampNeg v6) ((0 : Int32) &&& 1))) rfl ?_
      obtain ⟨g3, h⟩ := h
      refine it_V.iast it_cd251 it_m251 rfl ((⟨rfl, by decide⟩ : it_isR 100 8)).1 g3 ?_
      refine it_V.at (pc1 := 171) (ls1 := [some (.ref 66), none, none, none, none, none, some (.int v6)]) (st1 := []) (mem1 := (it_sv (it_sv m 96 (Int32.toNatClampNeg v6) ((0 : Int32) &&& 1)) 100 (Int32.toNatClampNeg v6) (0 : Int32))) rfl rfl rfl rfl ?_
      refine it_V.sN it_cd251 it_m251 4 (pc1 := 178) (ls1 := [some (.ref 66), none, none, none, none, none, some (.int v6)]) (st1 := [(.int (0 : Int32)), (.int v6), (.ref 101)]) (mem1 := (it_sv (it_sv m 96 (Int32.toNatClampNeg v6) ((0 : Int32) &&& 1)) 100 (Int32.toNatClampNeg v6) (0 : Int32))) rfl ?_
      obtain ⟨g4, h⟩ := h
      refine it_V.iast it_cd251 it_m251 rfl ((⟨rfl, by decide⟩ : it_isR 101 8)).1 g4 ?_
      refine it_V.at (pc1 := 179) (ls1 := [some (.ref 66), none, none, none, none, none, some (.int v6)]) (st1 := []) (mem1 := (it_sv (it_sv (it_sv m 96 (Int32.toNatClampNeg v6) ((0 : Int32) &&& 1)) 100 (Int32.toNatClampNeg v6) (0 : Int32)) 101 (Int32.toNatClampNeg v6) (0 : Int32))) rfl rfl rfl rfl ?_
      refine it_V.sN it_cd251 it_m251 4 (pc1 := 186) (ls1 := [some (.ref 66), none, none, none, none, none, some (.int v6)]) (st1 := [(.int (0 : Int32)), (.int v6), (.ref 102)]) (mem1 := (it_sv (it_sv (it_sv m 96 (Int32.toNatClampNeg v6) ((0 : Int32) &&& 1)) 100 (Int32.toNatClampNeg v6) (0 : Int32)) 101 (Int32.toNatClampNeg v6) (0 : Int32))) rfl ?_
      obtain ⟨g5, h⟩ := h
      refine it_V.iast it_cd251 it_m251 rfl ((⟨rfl, by decide⟩ : it_isR 102 8)).1 g5 ?_
      refine it_V.at (pc1 := 187) (ls1 := [some (.ref 66), none, none, none, none, none, some (.int v6)]) (st1 := []) (mem1 := (it_sv (it_sv (it_sv (it_sv m 96 (Int32.toNatClampNeg v6) ((0 : Int32) &&& 1)) 100 (Int32.toNatClampNeg v6) (0 : Int32)) 101 (Int32.toNatClampNeg v6) (0 : Int32)) 102 (Int32.toNatClampNeg v6) (0 : Int32))) rfl rfl rfl rfl ?_
      refine it_V.sN it_cd251 it_m251 4 (pc1 := 194) (ls1 := [some (.ref 66), none, none, none, none, none, some (.int v6)]) (st1 := [(.int (0 : Int32)), (.int v6), (.ref 103)]) (mem1 := (it_sv (it_sv (it_sv (it_sv m 96 (Int32.toNatClampNeg v6) ((0 : Int32) &&& 1)) 100 (Int32.toNatClampNeg v6) (0 : Int32)) 101 (Int32.toNatClampNeg v6) (0 : Int32)) 102 (Int32.toNatClampNeg v6) (0 : Int32))) rfl ?_
      obtain ⟨g6, h⟩ := h
      refine it_V.iast it_cd251 it_m251 rfl ((⟨rfl, by decide⟩ : it_isR 103 8)).1 g6 ?_
      refine it_V.at (pc1 := 195) (ls1 := [some (.ref 66), none, none, none, none, none, some (.int v6)]) (st1 := []) (mem1 := (it_sv (it_sv (it_sv (it_sv (it_sv m 96 (Int32.toNatClampNeg v6) ((0 : Int32) &&& 1)) 100 (Int32.toNatClampNeg v6) (0 : Int32)) 101 (Int32.toNatClampNeg v6) (0 : Int32)) 102 (Int32.toNatClampNeg v6) (0 : Int32)) 103 (Int32.toNatClampNeg v6) (0 : Int32))) rfl rfl rfl rfl ?_
      refine it_V.sN it_cd251 it_m251 4 (pc1 := 202) (ls1 := [some (.ref 66), none, none, none, none, none, some (.int v6)]) (st1 := [(.int (0 : Int32)), (.int v6), (.ref 104)]) (mem1 := (it_sv (it_sv (it_sv (it_sv (it_sv m 96 (Int32.toNatClampNeg v6) ((0 : Int32) &&& 1)) 100 (Int32.toNatClampNeg v6) (0 : Int32)) 101 (Int32.toNatClampNeg v6) (0 : Int32)) 102 (Int32.toNatClampNeg v6) (0 : Int32)) 103 (Int32.toNatClampNeg v6) (0 : Int32))) rfl ?_
      obtain ⟨g7, h⟩ := h
      refine it_V.iast it_cd251 it_m251 rfl ((⟨rfl, by decide⟩ : it_isR 104 8)).1 g7 ?_
      refine it_V.at (pc1 := 203) (ls1 := [some (.ref 66), none, none, none, none, none, some (.int v6)]) (st1 := []) (mem1 := (it_sv (it_sv (it_sv (it_sv (it_sv (it_sv m 96 (Int32.toNatClampNeg v6) ((0 : Int32) &&& 1)) 100 (Int32.toNatClampNeg v6) (0 : Int32)) 101 (Int32.toNatClampNeg v6) (0 : Int32)) 102 (Int32.toNatClampNeg v6) (0 : Int32)) 103 (Int32.toNatClampNeg v6) (0 : Int32)) 104 (Int32.toNatClampNeg v6) (0 : Int32))) rfl rfl rfl rfl ?_
      refine it_V.sN it_cd251 it_m251 4 (pc1 := 210) (ls1 := [some (.ref 66), none, none, none, none, none, some (.int v6)]) (st1 := [(.int (0 : Int32)), (.int v6), (.ref 105)]) (mem1 := (it_sv (it_sv (it_sv (it_sv (it_sv (it_sv m 96 (Int32.toNatClampNeg v6) ((0 : Int32) &&& 1)) 100 (Int32.toNatClampNeg v6) (0 : Int32)) 101 (Int32.toNatClampNeg v6) (0 : Int32)) 102 (Int32.toNatClampNeg v6) (0 : Int32)) 103 (Int32.toNatClampNeg v6) (0 : Int32)) 104 (Int32.toNatClampNeg v6) (0 : Int32))) rfl ?_
      obtain ⟨g8, h⟩ := h
      refine it_V.iast it_cd251 it_m251 rfl ((⟨rfl, by decide⟩ : it_isR 105 8)).1 g8 ?_
      refine it_V.at (pc1 := 211) (ls1 := [some (.ref 66), none, none, none, none, none, some (.int v6)]) (st1 := []) (mem1 := (it_sv (it_sv (it_sv (it_sv (it_sv (it_sv (it_sv m 96 (Int32.toNatClampNeg v6) ((0 : Int32) &&& 1)) 100 (Int32.toNatClampNeg v6) (0 : Int32)) 101 (Int32.toNatClampNeg v6) (0 : Int32)) 102 (Int32.toNatClampNeg v6) (0 : Int32)) 103 (Int32.toNatClampNeg v6) (0 : Int32)) 104 (Int32.toNatClampNeg v6) (0 : Int32)) 105 (Int32.toNatClampNeg v6) (0 : Int32))) rfl rfl rfl rfl ?_
      refine it_V.sN it_cd251 it_m251 4 (pc1 := 218) (ls1 := [some (.ref 66), none, none, none, none, none, some (.int v6)]) (st1 := [(.int (0 : Int32)), (.int v6), (.ref 106)]) (mem1 := (it_sv (it_sv (it_sv (it_sv (it_sv (it_sv (it_sv m 96 (Int32.toNatClampNeg v6) ((0 : Int32) &&& 1)) 100 (Int32.toNatClampNeg v6) (0 : Int32)) 101 (Int32.toNatClampNeg v6) (0 : Int32)) 102 (Int32.toNatClampNeg v6) (0 : Int32)) 103 (Int32.toNatClampNeg v6) (0 : Int32)) 104 (Int32.toNatClampNeg v6) (0 : Int32)) 105 (Int32.toNatClampNeg v6) (0 : Int32))) rfl ?_
      obtain ⟨g9, h⟩ := h
      refine it_V.iast it_cd251 it_m251 rfl ((⟨rfl, by decide⟩ : it_isR 106 8)).1 g9 ?_
      refine it_V.at (pc1 := 219) (ls1 := [some (.ref 66), none, none, none, none, none, some (.int v6)]) (st1 := []) (mem1 := (it_sv (it_sv (it_sv (it_sv (it_sv (it_sv (it_sv (it_sv m 96 (Int32.toNatClampNeg v6) ((0 : Int32) &&& 1)) 100 (Int32.toNatClampNeg v6) (0 : Int32)) 101 (Int32.toNatClampNeg v6) (0 : Int32)) 102 (Int32.toNatClampNeg v6) (0 : Int32)) 103 (Int32.toNatClampNeg v6) (0 : Int32)) 104 (Int32.toNatClampNeg v6) (0 : Int32)) 105 (Int32.toNatClampNeg v6) (0 : Int32)) 106 (Int32.toNatClampNeg v6) (0 : Int32))) rfl rfl rfl rfl ?_
      refine it_V.sN it_cd251 it_m251 4 (pc1 := 226) (ls1 := [some (.ref 66), none, none, none, none, none, some (.int v6)]) (st1 := [(.int (0 : Int32)), (.int v6), (.ref 107)]) (mem1 := (it_sv (it_sv (it_sv (it_sv (it_sv (it_sv (it_sv (it_sv m 96 (Int32.toNatClampNeg v6) ((0 : Int32) &&& 1)) 100 (Int32.toNatClampNeg v6) (0 : Int32)) 101 (Int32.toNatClampNeg v6) (0 : Int32)) 102 (Int32.toNatClampNeg v6) (0 : Int32)) 103 (Int32.toNatClampNeg v6) (0 : Int32)) 104 (Int32.toNatClampNeg v6) (0 : Int32)) 105 (Int32.toNatClampNeg v6) (0 : Int32)) 106 (Int32.toNatClampNeg v6) (0 : Int32))) rfl ?_
      obtain ⟨g10, h⟩ := h
      refine it_V.iast it_cd251 it_m251 rfl ((⟨rfl, by decide⟩ : it_isR 107 8)).1 g10 ?_
      refine it_V.at (pc1 := 227) (ls1 := [some (.ref 66), none, none, none, none, none, some (.int v6)]) (st1 := []) (mem1 := (it_sv (it_sv (it_sv (it_sv (it_sv (it_sv (it_sv (it_sv (it_sv m 96 (Int32.toNatClampNeg v6) ((0 : Int32) &&& 1)) 100 (Int32.toNatClampNeg v6) (0 : Int32)) 101 (Int32.toNatClampNeg v6) (0 : Int32)) 102 (Int32.toNatClampNeg v6) (0 : Int32)) 103 (Int32.toNatClampNeg v6) (0 : Int32)) 104 (Int32.toNatClampNeg v6) (0 : Int32)) 105 (Int32.toNatClampNeg v6) (0 : Int32)) 106 (Int32.toNatClampNeg v6) (0 : Int32)) 107 (Int32.toNatClampNeg v6) (0 : Int32))) rfl rfl rfl rfl ?_
      refine it_V.sN it_cd251 it_m251 4 (pc1 := 235) (ls1 := [some (.ref 66), none, none, none, none, none, some (.int v6)]) (st1 := [(.int v6), (.int v6), (.ref 108)]) (mem1 := (it_sv (it_sv (it_sv (it_sv (it_sv (it_sv (it_sv (it_sv (it_sv m 96 (Int32.toNatClampNeg v6) ((0 : Int32) &&& 1)) 100 (Int32.toNatClampNeg v6) (0 : Int32)) 101 (Int32.toNatClampNeg v6) (0 : Int32)) 102 (Int32.toNatClampNeg v6) (0 : Int32)) 103 (Int32.toNatClampNeg v6) (0 : Int32)) 104 (Int32.toNatClampNeg v6) (0 : Int32)) 105 (Int32.toNatClampNeg v6) (0 : Int32)) 106 (Int32.toNatClampNeg v6) (0 : Int32)) 107 (Int32.toNatClampNeg v6) (0 : Int32))) rfl ?_
      obtain ⟨g11, h⟩ := h
      refine it_V.iast it_cd251 it_m251 rfl ((⟨rfl, by decide⟩ : it_isR 108 8)).1 g11 ?_
      refine it_V.at (pc1 := 236) (ls1 := [some (.ref 66), none, none, none, none, none, some (.int v6)]) (st1 := []) (mem1 := (it_sv (it_sv (it_sv (it_sv (it_sv (it_sv (it_sv (it_sv (it_sv (it_sv m 96 (Int32.toNatClampNeg v6) ((0 : Int32) &&& 1)) 100 (Int32.toNatClampNeg v6) (0 : Int32)) 101 (Int32.toNatClampNeg v6) (0 : Int32)) 102 (Int32.toNatClampNeg v6) (0 : Int32)) 103 (Int32.toNatClampNeg v6) (0 : Int32)) 104 (Int32.toNatClampNeg v6) (0 : Int32)) 105 (Int32.toNatClampNeg v6) (0 : Int32)) 106 (Int32.toNatClampNeg v6) (0 : Int32)) 107 (Int32.toNatClampNeg v6) (0 : Int32)) 108 (Int32.toNatClampNeg v6) v6)) rfl rfl rfl rfl ?_
      refine it_V.sN it_cd251 it_m251 2 (pc1 := 239) (ls1 := [some (.ref 66), none, none, none, none, none, some (.int v6)]) (st1 := [(.int v6), (.ref 66)]) (mem1 := (it_sv (it_sv (it_sv (it_sv (it_sv (it_sv (it_sv (it_sv (it_sv (it_sv m 96 (Int32.toNatClampNeg v6) ((0 : Int32) &&& 1)) 100 (Int32.toNatClampNeg v6) (0 : Int32)) 101 (Int32.toNatClampNeg v6) (0 : Int32)) 102 (Int32.toNatClampNeg v6) (0 : Int32)) 103 (Int32.toNatClampNeg v6) (0 : Int32)) 104 (Int32.toNatClampNeg v6) (0 : Int32)) 105 (Int32.toNatClampNeg v6) (0 : Int32)) 106 (Int32.toNatClampNeg v6) (0 : Int32)) 107 (Int32.toNatClampNeg v6) (0 : Int32)) 108 (Int32.toNatClampNeg v6) v6)) rfl ?_
      refine it_V.call it_cd251 it_m251 rfl it_m253 [(.ref 66), (.int v6)] [] rfl rfl ⟨Nat.le_of_ble_eq_true rfl, Nat.le_of_ble_eq_true rfl, Nat.le_of_ble_eq_true rfl, Nat.le_of_ble_eq_true rfl, rfl⟩ (s_253 kc v6 (it_sv (it_sv (it_sv (it_sv (it_sv (it_sv (it_sv (it_sv (it_sv (it_sv m 96 (Int32.toNatClampNeg v6) ((0 : Int32) &&& 1)) 100 (Int32.toNatClampNeg v6) (0 : Int32)) 101 (Int32.toNatClampNeg v6) (0 : Int32)) 102 (Int32.toNatClampNeg v6) (0 : Int32)) 103 (Int32.toNatClampNeg v6) (0 : Int32)) 104 (Int32.toNatClampNeg v6) (0 : Int32)) 105 (Int32.toNatClampNeg v6) (0 : Int32)) 106 (Int32.toNatClampNeg v6) (0 : Int32)) 107 (Int32.toNatClampNeg v6) (0 : Int32)) 108 (Int32.toNatClampNeg v6) v6) _ h) ?_
      rintro _ m12 ⟨rfl, h⟩
      refine it_V.at (pc1 := 242) (ls1 := [some (.ref 66), none, none, none, none, none, some (.int v6)]) (st1 := []) (mem1 := m12) rfl rfl rfl rfl ?_
      refine it_V.sN it_cd251 it_m251 2 (pc1 := 146) (ls1 := [some (.ref 66), none, none, none, none, none, some (.int (v6 + (1 : Int32)))]) (st1 := []) (mem1 := m12) rfl ?_
      refine it_V.weak (l := [some (.ref 66), none, none, none, none, none, some (.int (v6 + (1 : Int32)))]) ⟨rfl, ⟨rfl, trivial⟩⟩ ?_
      exact ih (v6 + (1 : Int32)) m12 h
set_option maxRecDepth 100000 in
set_option maxHeartbeats 4000000 in
theorem s_251_41 (kc : it_Kc) (Φ : Int32 → it_Me → Prop) (m : it_Me) (h : w_251_41 kc Φ m) : it_V kc it_sh0 251 41 [none, none, none, none, none, none, none] [] m (it_Pi Φ) := by
  rw [w_251_41] at h
  refine it_V.sN it_cd251 it_m251 1 (pc1 := 43) (ls1 := [none, none, none, none, none, none, none]) (st1 := [(.int (-2 : Int32))]) (mem1 := m) rfl ?_
  exact it_V.ret it_cd251 it_m251 rfl rfl ⟨_, rfl, h⟩
set_option maxRecDepth 100000 in
set_option maxHeartbeats 4000000 in
theorem s_251_248 (kc : it_Kc) (Φ : Int32 → it_Me → Prop) (m : it_Me) (h : w_251_248 kc Φ m) : it_V kc it_sh0 251 248 [some (.ref 66), none, none, none, none, none, none] [] m (it_Pi Φ) := by
  rw [w_251_248] at h
  refine it_V.sN it_cd251 it_m251 2 (pc1 := 252) (ls1 := [some (.ref 66), none, none, none, none, none, none]) (st1 := [(.int (m 66 34))]) (mem1 := m) rfl ?_
  exact it_V.ret it_cd251 it_m251 rfl rfl ⟨_, rfl, h⟩
set_option maxRecDepth 100000 in
set_option maxHeartbeats 4000000 in
theorem s_251_98 (kc : it_Kc) (Φ : Int32 → it_Me → Prop) (v4 : Int32) (m : it_Me) (h : w_251_98 kc Φ v4 m) : it_V kc it_sh0 251 98 [some (.ref 66), none, none, none, some (.int v4), none, none] [] m (it_Pi Φ) := by
  rw [w_251_98] at h
  refine it_V.sN it_cd251 it_m251 1 (pc1 := 99) (ls1 := [some (.ref 66), none, none, none, some (.int v4), none, none]) (st1 := [(.ref 66)]) (mem1 := m) rfl ?_
  refine it_V.call it_cd251 it_m251 rfl it_m241 [(.ref 66)] [] rfl rfl ⟨Nat.le_of_ble_eq_true rfl, Nat.le_of_ble_eq_true rfl, Nat.le_of_ble_eq_true rfl, Nat.le_of_ble_eq_true rfl, rfl⟩ (s_241 kc m _ h) ?_
  rintro _ m1 ⟨rfl, h⟩
  refine it_V.at (pc1 := 102) (ls1 := [some (.ref 66), none, none, none, some (.int v4), none, none]) (st1 := []) (mem1 := m1) rfl rfl rfl rfl ?_
  refine it_V.sN it_cd251 it_m251 3 (pc1 := (if (m1 66 4) = 0 then 117 else 109)) (ls1 := [some (.ref 66), none, none, none, some (.int v4), none, none]) (st1 := []) (mem1 := m1) rfl ?_
  refine it_V.ite (fun c2 => ?_) (fun c2 => ?_)
  · have h := h.1 c2
    refine it_V.sN it_cd251 it_m251 2 (pc1 := 120) (ls1 := [some (.ref 66), none, none, none, some (.int v4), none, none]) (st1 := [(.int v4), (.ref 66)]) (mem1 := m1) rfl ?_
    refine it_V.call it_cd251 it_m251 rfl it_m250 [(.ref 66), (.int v4)] [] rfl rfl ⟨Nat.le_of_ble_eq_true rfl, Nat.le_of_ble_eq_true rfl, Nat.le_of_ble_eq_true rfl, Nat.le_of_ble_eq_true rfl, rfl⟩ (s_250 kc v4 m1 _ h) ?_
    rintro _ m3 ⟨rfl, h⟩
    refine it_V.at (pc1 := 123) (ls1 := [some (.ref 66), none, none, none, some (.int v4), none, none]) (st1 := []) (mem1 := m3) rfl rfl rfl rfl ?_
    refine it_V.sN it_cd251 it_m251 14 (pc1 := 146) (ls1 := [some (.ref 66), none, none, none, some (.int v4), none, some (.int (0 : Int32))]) (st1 := []) (mem1 := (it_sv (it_sv (it_sv (it_sv m3 66 3 (1 : Int32)) 66 70 (-1 : Int32)) 66 71 (0 : Int32)) 66 69 (0 : Int32))) rfl ?_
    refine it_V.weak (l := [some (.ref 66), none, none, none, none, none, some (.int (0 : Int32))]) ⟨rfl, ⟨rfl, trivial⟩⟩ ?_
    obtain ⟨n, h⟩ := h
    exact s_251_146 kc Φ _ (fun m h => s_251_248 kc Φ m h) n (0 : Int32) (it_sv (it_sv (it_sv (it_sv m3 66 3 (1 : Int32)) 66 70 (-1 : Int32)) 66 71 (0 : Int32)) 66 69 (0 : Int32)) h
  · have h := h.2 c2
    refine it_V.sN it_cd251 it_m251 4 (pc1 := 116) (ls1 := [some (.ref 66), none, none, none, some (.int v4), none, none]) (st1 := [(.int (-4 : Int32))]) (mem1 := (it_sv m1 66 4 (0 : Int32))) rfl ?_
    exact it_V.ret it_cd251 it_m251 rfl rfl ⟨_, rfl, h⟩
set_option maxRecDepth 100000 in
set_option maxHeartbeats 4000000 in
theorem s_251 (kc : it_Kc) (x0 : Int32) (x1 : Int32) (x2 : Int32) (x3 : Int32) (x4 : Int32) (m : it_Me) (Φ : Int32 → it_Me → Prop) (h : w_251 kc x0 x1 x2 x3 x4 m Φ) : it_V kc it_sh0 251 0 (it_loc0 [(.ref 66), (.int x0), (.int x1), (.int x2), (.int x3), (.int x4)] 7) [] m (it_Pi Φ) := by
  rw [w_251] at h
  refine it_V.at (pc1 := 0) (ls1 := [some (.ref 66), some (.int x0), some (.int x1), some (.int x2), some (.int x3), some (.int x4), none]) (st1 := []) (mem1 := m) rfl rfl rfl rfl ?_
  refine it_V.sN it_cd251 it_m251 3 (pc1 := (if (m 66 3) = 0 then 10 else 7)) (ls1 := [some (.ref 66), some (.int x0), some (.int x1), some (.int x2), some (.int x3), some (.int x4), none]) (st1 := []) (mem1 := m) rfl ?_
  refine it_V.ite (fun c1 => ?_) (fun c1 => ?_)
  · have h := h.1 c1
    refine it_V.sN it_cd251 it_m251 2 (pc1 := (if x0 < 0 then 41 else 14)) (ls1 := [some (.ref 66), some (.int x0), some (.int x1), some (.int x2), some (.int x3), some (.int x4), none]) (st1 := []) (mem1 := m) rfl ?_
    refine it_V.ite (fun c2 => ?_) (fun c2 => ?_)
    · have h := h.1 c2
      refine it_V.weak (l := [none, none, none, none, none, none, none]) trivial ?_
      exact s_251_41 kc Φ m h
    · have h := h.2 c2
      refine it_V.sN it_cd251 it_m251 3 (pc1 := (if (2 : Int32) < x0 then 41 else 19)) (ls1 := [some (.ref 66), some (.int x0), some (.int x1), some (.int x2), some (.int x3), some (.int x4), none]) (st1 := []) (mem1 := m) rfl ?_
      refine it_V.ite (fun c3 => ?_) (fun c3 => ?_)
      · have h := h.1 c3
        refine it_V.weak (l := [none, none, none, none, none, none, none]) trivial ?_
        exact s_251_41 kc Φ m h
      · have h := h.2 c3
        refine it_V.sN it_cd251 it_m251 3 (pc1 := (if x1 < (1 : Int32) then 41 else 24)) (ls1 := [some (.ref 66), some (.int x0), some (.int x1), some (.int x2), some (.int x3), some (.int x4), none]) (st1 := []) (mem1 := m) rfl ?_
        refine it_V.ite (fun c4 => ?_) (fun c4 => ?_)
        · have h := h.1 c4
          refine it_V.weak (l := [none, none, none, none, none, none, none]) trivial ?_
          exact s_251_41 kc Φ m h
        · have h := h.2 c4
          refine it_V.sN it_cd251 it_m251 3 (pc1 := (if (1000 : Int32) < x1 then 41 else 31)) (ls1 := [some (.ref 66), some (.int x0), some (.int x1), some (.int x2), some (.int x3), some (.int x4), none]) (st1 := []) (mem1 := m) rfl ?_
          refine it_V.ite (fun c5 => ?_) (fun c5 => ?_)
          · have h := h.1 c5
            refine it_V.weak (l := [none, none, none, none, none, none, none]) trivial ?_
            exact s_251_41 kc Φ m h
          · have h := h.2 c5
            refine it_V.sN it_cd251 it_m251 2 (pc1 := (if x2 < 0 then 41 else 35)) (ls1 := [some (.ref 66), some (.int x0), some (.int x1), some (.int x2), some (.int x3), some (.int x4), none]) (st1 := []) (mem1 := m) rfl ?_
            refine it_V.ite (fun c6 => ?_) (fun c6 => ?_)
            · have h := h.1 c6
              refine it_V.weak (l := [none, none, none, none, none, none, none]) trivial ?_
              exact s_251_41 kc Φ m h
            · have h := h.2 c6
              refine it_V.sN it_cd251 it_m251 3 (pc1 := (if x2 ≤ (100 : Int32) then 44 else 41)) (ls1 := [some (.ref 66), some (.int x0), some (.int x1), some (.int x2), some (.int x3), some (.int x4), none]) (st1 := []) (mem1 := m) rfl ?_
              refine it_V.ite (fun c7 => ?_) (fun c7 => ?_)
              · have h := h.1 c7
                refine it_V.sN it_cd251 it_m251 20 (pc1 := 78) (ls1 := [some (.ref 66), some (.int x0), some (.int x1), some (.int x2), some (.int x3), some (.int x4), some (.int (0 : Int32))]) (st1 := []) (mem1 := (it_sv (it_sv (it_sv (it_sv (it_sv (it_sv m 66 7 x0) 66 8 x1) 66 9 x2) 66 10 x4) 66 6 (0 : Int32)) 66 4 (0 : Int32))) rfl ?_
                refine it_V.weak (l := [some (.ref 66), none, none, none, some (.int x3), none, some (.int (0 : Int32))]) ⟨rfl, ⟨rfl, ⟨rfl, trivial⟩⟩⟩ ?_
                obtain ⟨n, h⟩ := h
                exact s_251_78 kc Φ _ (fun v4 m h => s_251_98 kc Φ v4 m h) n x3 (0 : Int32) (it_sv (it_sv (it_sv (it_sv (it_sv (it_sv m 66 7 x0) 66 8 x1) 66 9 x2) 66 10 x4) 66 6 (0 : Int32)) 66 4 (0 : Int32)) h
              · have h := h.2 c7
                refine it_V.weak (l := [none, none, none, none, none, none, none]) trivial ?_
                exact s_251_41 kc Φ m h
  · have h := h.2 c1
    refine it_V.sN it_cd251 it_m251 1 (pc1 := 9) (ls1 := [some (.ref 66), some (.int x0), some (.int x1), some (.int x2), some (.int x3), some (.int x4), none]) (st1 := [(.int (-3 : Int32))]) (mem1 := m) rfl ?_
    exact it_V.ret it_cd251 it_m251 rfl rfl ⟨_, rfl, h⟩
set_option maxRecDepth 100000 in
set_option maxHeartbeats 4000000 in
theorem s_257 (kc : it_Kc) (x0 : Int32) (x1 : Int32) (x2 : Int32) (m : it_Me) (Φ : it_Me → Prop) (h : w_257 kc x0 x1 x2 m Φ) : it_V kc it_sh0 257 0 (it_loc0 [(.ref 66), (.int x0), (.int x1), (.int x2)] 5) [] m (it_Pv Φ) := by
  rw [w_257] at h
  refine it_V.at (pc1 := 0) (ls1 := [some (.ref 66), some (.int x0), some (.int x1), some (.int x2), none]) (st1 := []) (mem1 := m) rfl rfl rfl rfl ?_
  refine it_V.sN it_cd257 it_m257 4 (pc1 := 7) (ls1 := [some (.ref 66), some (.int x0), some (.int x1), some (.int x2), none]) (st1 := [(.int (11 : Int32)), (.ref 69), (.int (4 : Int32))]) (mem1 := m) rfl ?_
  obtain ⟨g1, h⟩ := h
  refine it_V.iald it_cd257 it_m257 rfl ((⟨rfl, by decide⟩ : it_isR 69 12)).2 ((⟨rfl, by decide⟩ : it_isR 69 12)).1 g1 ?_
  refine it_V.at (pc1 := 8) (ls1 := [some (.ref 66), some (.int x0), some (.int x1), some (.int x2), none]) (st1 := [(.int (m 69 (Int32.toNatClampNeg (11 : Int32)))), (.int (4 : Int32))]) (mem1 := m) rfl rfl rfl rfl ?_
  refine it_V.sN it_cd257 it_m257 4 (pc1 := 16) (ls1 := [some (.ref 66), some (.int x0), some (.int x1), some (.int x2), none]) (st1 := [(.long (200 : Int64)), (.long ((Int32.toInt64 (m 69 (Int32.toNatClampNeg (11 : Int32)))) &&& (4294967295 : Int64))), (.int (4 : Int32))]) (mem1 := m) rfl ?_
  obtain ⟨g2, h⟩ := h
  refine it_V.s1 it_cd257 it_m257 (pc1 := 17) (ls1 := [some (.ref 66), some (.int x0), some (.int x1), some (.int x2), none]) (st1 := [(.long (it_lrem ((Int32.toInt64 (m 69 (Int32.toNatClampNeg (11 : Int32)))) &&& (4294967295 : Int64)) (200 : Int64))), (.int (4 : Int32))]) (mem1 := m) (by simp only [it_s1, show it_lk it_c257 16 = some (0, .lrem, 0, 0) from rfl, it_ops, if_neg g2]; rfl) ?_
  refine it_V.sN it_cd257 it_m257 8 (pc1 := 31) (ls1 := [some (.ref 66), some (.int x0), some (.int x1), some (.int x2), some (.int ((4 : Int32) * (Int64.toInt32 (it_lrem ((Int32.toInt64 (m 69 (Int32.toNatClampNeg (11 : Int32)))) &&& (4294967295 : Int64)) (200 : Int64)))))]) (st1 := [(.int (m 66 6)), (.int ((4 : Int32) * (Int64.toInt32 (it_lrem ((Int32.toInt64 (m 69 (Int32.toNatClampNeg (11 : Int32)))) &&& (4294967295 : Int64)) (200 : Int64))))), (.ref 74)]) (mem1 := m) rfl ?_
  obtain ⟨g3, h⟩ := h
  refine it_V.iast it_cd257 it_m257 rfl ((⟨rfl, by decide⟩ : it_isR 74 800)).1 g3 ?_
  refine it_V.at (pc1 := 32) (ls1 := [some (.ref 66), some (.int x0), some (.int x1), some (.int x2), some (.int ((4 : Int32) * (Int64.toInt32 (it_lrem ((Int32.toInt64 (m 69 (Int32.toNatClampNeg (11 : Int32)))) &&& (4294967295 : Int64)) (200 : Int64)))))]) (st1 := []) (mem1 := (it_sv m 74 (Int32.toNatClampNeg ((4 : Int32) * (Int64.toInt32 (it_lrem ((Int32.toInt64 (m 69 (Int32.toNatClampNeg (11 : Int32)))) &&& (4294967295 : Int64)) (200 : Int64))))) (m 66 6))) rfl rfl rfl rfl ?_
  refine it_V.sN it_cd257 it_m257 6 (pc1 := 41) (ls1 := [some (.ref 66), some (.int x0), some (.int x1), some (.int x2), some (.int ((4 : Int32) * (Int64.toInt32 (it_lrem ((Int32.toInt64 (m 69 (Int32.toNatClampNeg (11 : Int32)))) &&& (4294967295 : Int64)) (200 : Int64)))))]) (st1 := [(.int x0), (.int (((4 : Int32) * (Int64.toInt32 (it_lrem ((Int32.toInt64 (m 69 (Int32.toNatClampNeg (11 : Int32)))) &&& (4294967295 : Int64)) (200 : Int64)))) + (1 : Int32))), (.ref 74)]) (mem1 := (it_sv m 74 (Int32.toNatClampNeg ((4 : Int32) * (Int64.toInt32 (it_lrem ((Int32.toInt64 (m 69 (Int32.toNatClampNeg (11 : Int32)))) &&& (4294967295 : Int64)) (200 : Int64))))) (m 66 6))) rfl ?_
  obtain ⟨g4, h⟩ := h
  refine it_V.iast it_cd257 it_m257 rfl ((⟨rfl, by decide⟩ : it_isR 74 800)).1 g4 ?_
  refine it_V.at (pc1 := 42) (ls1 := [some (.ref 66), some (.int x0), some (.int x1), some (.int x2), some (.int ((4 : Int32) * (Int64.toInt32 (it_lrem ((Int32.toInt64 (m 69 (Int32.toNatClampNeg (11 : Int32)))) &&& (4294967295 : Int64)) (200 : Int64)))))]) (st1 := []) (mem1 := (it_sv (it_sv m 74 (Int32.toNatClampNeg ((4 : Int32) * (Int64.toInt32 (it_lrem ((Int32.toInt64 (m 69 (Int32.toNatClampNeg (11 : Int32)))) &&& (4294967295 : Int64)) (200 : Int64))))) (m 66 6)) 74 (Int32.toNatClampNeg (((4 : Int32) * (Int64.toInt32 (it_lrem ((Int32.toInt64 (m 69 (Int32.toNatClampNeg (11 : Int32)))) &&& (4294967295 : Int64)) (200 : Int64)))) + (1 : Int32))) x0)) rfl rfl rfl rfl ?_
  refine it_V.sN it_cd257 it_m257 6 (pc1 := 51) (ls1 := [some (.ref 66), some (.int x0), some (.int x1), some (.int x2), some (.int ((4 : Int32) * (Int64.toInt32 (it_lrem ((Int32.toInt64 (m 69 (Int32.toNatClampNeg (11 : Int32)))) &&& (4294967295 : Int64)) (200 : Int64)))))]) (st1 := [(.int x1), (.int (((4 : Int32) * (Int64.toInt32 (it_lrem ((Int32.toInt64 (m 69 (Int32.toNatClampNeg (11 : Int32)))) &&& (4294967295 : Int64)) (200 : Int64)))) + (2 : Int32))), (.ref 74)]) (mem1 := (it_sv (it_sv m 74 (Int32.toNatClampNeg ((4 : Int32) * (Int64.toInt32 (it_lrem ((Int32.toInt64 (m 69 (Int32.toNatClampNeg (11 : Int32)))) &&& (4294967295 : Int64)) (200 : Int64))))) (m 66 6)) 74 (Int32.toNatClampNeg (((4 : Int32) * (Int64.toInt32 (it_lrem ((Int32.toInt64 (m 69 (Int32.toNatClampNeg (11 : Int32)))) &&& (4294967295 : Int64)) (200 : Int64)))) + (1 : Int32))) x0)) rfl ?_
  obtain ⟨g5, h⟩ := h
  refine it_V.iast it_cd257 it_m257 rfl ((⟨rfl, by decide⟩ : it_isR 74 800)).1 g5 ?_
  refine it_V.at (pc1 := 52) (ls1 := [some (.ref 66), some (.int x0), some (.int x1), some (.int x2), some (.int ((4 : Int32) * (Int64.toInt32 (it_lrem ((Int32.toInt64 (m 69 (Int32.toNatClampNeg (11 : Int32)))) &&& (4294967295 : Int64)) (200 : Int64)))))]) (st1 := []) (mem1 := (it_sv (it_sv (it_sv m 74 (Int32.toNatClampNeg ((4 : Int32) * (Int64.toInt32 (it_lrem ((Int32.toInt64 (m 69 (Int32.toNatClampNeg (11 : Int32)))) &&& (4294967295 : Int64)) (200 : Int64))))) (m 66 6)) 74 (Int32.toNatClampNeg (((4 : Int32) * (Int64.toInt32 (it_lrem ((Int32.toInt64 (m 69 (Int32.toNatClampNeg (11 : Int32)))) &&& (4294967295 : Int64)) (200 : Int64)))) + (1 : Int32))) x0) 74 (Int32.toNatClampNeg (((4 : Int32) * (Int64.toInt32 (it_lrem ((Int32.toInt64 (m 69 (Int32.toNatClampNeg (11 : Int32)))) &&& (4294967295 : Int64)) (200 : Int64)))) + (2 : Int32))) x1)) rfl rfl rfl rfl ?_
  refine it_V.sN it_cd257 it_m257 6 (pc1 := 61) (ls1 := [some (.ref 66), some (.int x0), some (.int x1), some (.int x2), some (.int ((4 : Int32) * (Int64.toInt32 (it_lrem ((Int32.toInt64 (m 69 (Int32.toNatClampNeg (11 : Int32)))) &&& (4294967295 : Int64)) (200 : Int64)))))]) (st1 := [(.int x2), (.int (((4 : Int32) * (Int64.toInt32 (it_lrem ((Int32.toInt64 (m 69 (Int32.toNatClampNeg (11 : Int32)))) &&& (4294967295 : Int64)) (200 : Int64)))) + (3 : Int32))), (.ref 74)]) (mem1 := (it_sv (it_sv (it_sv m 74 (Int32.toNatClampNeg ((4 : Int32) * (Int64.toInt32 (it_lrem ((Int32.toInt64 (m 69 (Int32.toNatClampNeg (11 : Int32)))) &&& (4294967295 : Int64)) (200 : Int64))))) (m 66 6)) 74 (Int32.toNatClampNeg (((4 : Int32) * (Int64.toInt32 (it_lrem ((Int32.toInt64 (m 69 (Int32.toNatClampNeg (11 : Int32)))) &&& (4294967295 : Int64)) (200 : Int64)))) + (1 : Int32))) x0) 74 (Int32.toNatClampNeg (((4 : Int32) * (Int64.toInt32 (it_lrem ((Int32.toInt64 (m 69 (Int32.toNatClampNeg (11 : Int32)))) &&& (4294967295 : Int64)) (200 : Int64)))) + (2 : Int32))) x1)) rfl ?_
  obtain ⟨g6, h⟩ := h
  refine it_V.iast it_cd257 it_m257 rfl ((⟨rfl, by decide⟩ : it_isR 74 800)).1 g6 ?_
  refine it_V.at (pc1 := 62) (ls1 := [some (.ref 66), some (.int x0), some (.int x1), some (.int x2), some (.int ((4 : Int32) * (Int64.toInt32 (it_lrem ((Int32.toInt64 (m 69 (Int32.toNatClampNeg (11 : Int32)))) &&& (4294967295 : Int64)) (200 : Int64)))))]) (st1 := []) (mem1 := (it_sv (it_sv (it_sv (it_sv m 74 (Int32.toNatClampNeg ((4 : Int32) * (Int64.toInt32 (it_lrem ((Int32.toInt64 (m 69 (Int32.toNatClampNeg (11 : Int32)))) &&& (4294967295 : Int64)) (200 : Int64))))) (m 66 6)) 74 (Int32.toNatClampNeg (((4 : Int32) * (Int64.toInt32 (it_lrem ((Int32.toInt64 (m 69 (Int32.toNatClampNeg (11 : Int32)))) &&& (4294967295 : Int64)) (200 : Int64)))) + (1 : Int32))) x0) 74 (Int32.toNatClampNeg (((4 : Int32) * (Int64.toInt32 (it_lrem ((Int32.toInt64 (m 69 (Int32.toNatClampNeg (11 : Int32)))) &&& (4294967295 : Int64)) (200 : Int64)))) + (2 : Int32))) x1) 74 (Int32.toNatClampNeg (((4 : Int32) * (Int64.toInt32 (it_lrem ((Int32.toInt64 (m 69 (Int32.toNatClampNeg (11 : Int32)))) &&& (4294967295 : Int64)) (200 : Int64)))) + (3 : Int32))) x2)) rfl rfl rfl rfl ?_
  refine it_V.sN it_cd257 it_m257 4 (pc1 := 69) (ls1 := [some (.ref 66), some (.int x0), some (.int x1), some (.int x2), some (.int ((4 : Int32) * (Int64.toInt32 (it_lrem ((Int32.toInt64 (m 69 (Int32.toNatClampNeg (11 : Int32)))) &&& (4294967295 : Int64)) (200 : Int64)))))]) (st1 := [(.int (11 : Int32)), (.ref 69), (.int (11 : Int32)), (.ref 69)]) (mem1 := (it_sv (it_sv (it_sv (it_sv m 74 (Int32.toNatClampNeg ((4 : Int32) * (Int64.toInt32 (it_lrem ((Int32.toInt64 (m 69 (Int32.toNatClampNeg (11 : Int32)))) &&& (4294967295 : Int64)) (200 : Int64))))) (m 66 6)) 74 (Int32.toNatClampNeg (((4 : Int32) * (Int64.toInt32 (it_lrem ((Int32.toInt64 (m 69 (Int32.toNatClampNeg (11 : Int32)))) &&& (4294967295 : Int64)) (200 : Int64)))) + (1 : Int32))) x0) 74 (Int32.toNatClampNeg (((4 : Int32) * (Int64.toInt32 (it_lrem ((Int32.toInt64 (m 69 (Int32.toNatClampNeg (11 : Int32)))) &&& (4294967295 : Int64)) (200 : Int64)))) + (2 : Int32))) x1) 74 (Int32.toNatClampNeg (((4 : Int32) * (Int64.toInt32 (it_lrem ((Int32.toInt64 (m 69 (Int32.toNatClampNeg (11 : Int32)))) &&& (4294967295 : Int64)) (200 : Int64)))) + (3 : Int32))) x2)) rfl ?_
  obtain ⟨g7, h⟩ := h
  refine it_V.iald it_cd257 it_m257 rfl ((⟨rfl, by decide⟩ : it_isR 69 12)).2 ((⟨rfl, by decide⟩ : it_isR 69 12)).1 g7 ?_
  refine it_V.at (pc1 := 70) (ls1 := [some (.ref 66), some (.int x0), some (.int x1), some (.int x2), some (.int ((4 : Int32) * (Int64.toInt32 (it_lrem ((Int32.toInt64 (m 69 (Int32.toNatClampNeg (11 : Int32)))) &&& (4294967295 : Int64)) (200 : Int64)))))]) (st1 := [(.int ((it_sv (it_sv (it_sv (it_sv m 74 (Int32.toNatClampNeg ((4 : Int32) * (Int64.toInt32 (it_lrem ((Int32.toInt64 (m 69 (Int32.toNatClampNeg (11 : Int32)))) &&& (4294967295 : Int64)) (200 : Int64))))) (m 66 6)) 74 (Int32.toNatClampNeg (((4 : Int32) * (Int64.toInt32 (it_lrem ((Int32.toInt64 (m 69 (Int32.toNatClampNeg (11 : Int32)))) &&& (4294967295 : Int64)) (200 : Int64)))) + (1 : Int32))) x0) 74 (Int32.toNatClampNeg (((4 : Int32) * (Int64.toInt32 (it_lrem ((Int32.toInt64 (m 69 (Int32.toNatClampNeg (11 : Int32)))) &&& (4294967295 : Int64)) (200 : Int64)))) + (2 : Int32))) x1) 74 (Int32.toNatClampNeg (((4 : Int32) * (Int64.toInt32 (it_lrem ((Int32.toInt64 (m 69 (Int32.toNatClampNeg (11 : Int32)))) &&& (4294967295 : Int64)) (200 : Int64)))) + (3 : Int32))) x2) 69 (Int32.toNatClampNeg (11 : Int32)))), (.int (11 : Int32)), (.ref 69)]) (mem1 := (it_sv (it_sv (it_sv (it_sv m 74 (Int32.toNatClampNeg ((4 : Int32) * (Int64.toInt32 (it_lrem ((Int32.toInt64 (m 69 (Int32.toNatClampNeg (11 : Int32)))) &&& (4294967295 : Int64)) (200 : Int64))))) (m 66 6)) 74 (Int32.toNatClampNeg (((4 : Int32) * (Int64.toInt32 (it_lrem ((Int32.toInt64 (m 69 (Int32.toNatClampNeg (11 : Int32)))) &&& (4294967295 : Int64)) (200 : Int64)))) + (1 : Int32))) x0) 74 (Int32.toNatClampNeg (((4 : Int32) * (Int64.toInt32 (it_lrem ((Int32.toInt64 (m 69 (Int32.toNatClampNeg (11 : Int32)))) &&& (4294967295 : Int64)) (200 : Int64)))) + (2 : Int32))) x1) 74 (Int32.toNatClampNeg (((4 : Int32) * (Int64.toInt32 (it_lrem ((Int32.toInt64 (m 69 (Int32.toNatClampNeg (11 : Int32)))) &&& (4294967295 : Int64)) (200 : Int64)))) + (3 : Int32))) x2)) rfl rfl rfl rfl ?_
  refine it_V.sN it_cd257 it_m257 2 (pc1 := 72) (ls1 := [some (.ref 66), some (.int x0), some (.int x1), some (.int x2), some (.int ((4 : Int32) * (Int64.toInt32 (it_lrem ((Int32.toInt64 (m 69 (Int32.toNatClampNeg (11 : Int32)))) &&& (4294967295 : Int64)) (200 : Int64)))))]) (st1 := [(.int (((it_sv (it_sv (it_sv (it_sv m 74 (Int32.toNatClampNeg ((4 : Int32) * (Int64.toInt32 (it_lrem ((Int32.toInt64 (m 69 (Int32.toNatClampNeg (11 : Int32)))) &&& (4294967295 : Int64)) (200 : Int64))))) (m 66 6)) 74 (Int32.toNatClampNeg (((4 : Int32) * (Int64.toInt32 (it_lrem ((Int32.toInt64 (m 69 (Int32.toNatClampNeg (11 : Int32)))) &&& (4294967295 : Int64)) (200 : Int64)))) + (1 : Int32))) x0) 74 (Int32.toNatClampNeg (((4 : Int32) * (Int64.toInt32 (it_lrem ((Int32.toInt64 (m 69 (Int32.toNatClampNeg (11 : Int32)))) &&& (4294967295 : Int64)) (200 : Int64)))) + (2 : Int32))) x1) 74 (Int32.toNatClampNeg (((4 : Int32) * (Int64.toInt32 (it_lrem ((Int32.toInt64 (m 69 (Int32.toNatClampNeg (11 : Int32)))) &&& (4294967295 : Int64)) (200 : Int64)))) + (3 : Int32))) x2) 69 (Int32.toNatClampNeg (11 : Int32))) + (1 : Int32))), (.int (11 : Int32)), (.ref 69)]) (mem1 := (it_sv (it_sv (it_sv (it_sv m 74 (Int32.toNatClampNeg ((4 : Int32) * (Int64.toInt32 (it_lrem ((Int32.toInt64 (m 69 (Int32.toNatClampNeg (11 : Int32)))) &&& (4294967295 : Int64)) (200 : Int64))))) (m 66 6)) 74 (Int32.toNatClampNeg (((4 : Int32) * (Int64.toInt32 (it_lrem ((Int32.toInt64 (m 69 (Int32.toNatClampNeg (11 : Int32)))) &&& (4294967295 : Int64)) (200 : Int64)))) + (1 : Int32))) x0) 74 (Int32.toNatClampNeg (((4 : Int32) * (Int64.toInt32 (it_lrem ((Int32.toInt64 (m 69 (Int32.toNatClampNeg (11 : Int32)))) &&& (4294967295 : Int64)) (200 : Int64)))) + (2 : Int32))) x1) 74 (Int32.toNatClampNeg (((4 : Int32) * (Int64.toInt32 (it_lrem ((Int32.toInt64 (m 69 (Int32.toNatClampNeg (11 : Int32)))) &&& (4294967295 : Int64)) (200 : Int64)))) + (3 : Int32))) x2)) rfl ?_
  obtain ⟨g8, h⟩ := h
  refine it_V.iast it_cd257 it_m257 rfl ((⟨rfl, by decide⟩ : it_isR 69 12)).1 g8 ?_
  refine it_V.at (pc1 := 73) (ls1 := [some (.ref 66), some (.int x0), some (.int x1), some (.int x2), some (.int ((4 : Int32) * (Int64.toInt32 (it_lrem ((Int32.toInt64 (m 69 (Int32.toNatClampNeg (11 : Int32)))) &&& (4294967295 : Int64)) (200 : Int64)))))]) (st1 := []) (mem1 := (it_sv (it_sv (it_sv (it_sv (it_sv m 74 (Int32.toNatClampNeg ((4 : Int32) * (Int64.toInt32 (it_lrem ((Int32.toInt64 (m 69 (Int32.toNatClampNeg (11 : Int32)))) &&& (4294967295 : Int64)) (200 : Int64))))) (m 66 6)) 74 (Int32.toNatClampNeg (((4 : Int32) * (Int64.toInt32 (it_lrem ((Int32.toInt64 (m 69 (Int32.toNatClampNeg (11 : Int32)))) &&& (4294967295 : Int64)) (200 : Int64)))) + (1 : Int32))) x0) 74 (Int32.toNatClampNeg (((4 : Int32) * (Int64.toInt32 (it_lrem ((Int32.toInt64 (m 69 (Int32.toNatClampNeg (11 : Int32)))) &&& (4294967295 : Int64)) (200 : Int64)))) + (2 : Int32))) x1) 74 (Int32.toNatClampNeg (((4 : Int32) * (Int64.toInt32 (it_lrem ((Int32.toInt64 (m 69 (Int32.toNatClampNeg (11 : Int32)))) &&& (4294967295 : Int64)) (200 : Int64)))) + (3 : Int32))) x2) 69 (Int32.toNatClampNeg (11 : Int32)) (((it_sv (it_sv (it_sv (it_sv m 74 (Int32.toNatClampNeg ((4 : Int32) * (Int64.toInt32 (it_lrem ((Int32.toInt64 (m 69 (Int32.toNatClampNeg (11 : Int32)))) &&& (4294967295 : Int64)) (200 : Int64))))) (m 66 6)) 74 (Int32.toNatClampNeg (((4 : Int32) * (Int64.toInt32 (it_lrem ((Int32.toInt64 (m 69 (Int32.toNatClampNeg (11 : Int32)))) &&& (4294967295 : Int64)) (200 : Int64)))) + (1 : Int32))) x0) 74 (Int32.toNatClampNeg (((4 : Int32) * (Int64.toInt32 (it_lrem ((Int32.toInt64 (m 69 (Int32.toNatClampNeg (11 : Int32)))) &&& (4294967295 : Int64)) (200 : Int64)))) + (2 : Int32))) x1) 74 (Int32.toNatClampNeg (((4 : Int32) * (Int64.toInt32 (it_lrem ((Int32.toInt64 (m 69 (Int32.toNatClampNeg (11 : Int32)))) &&& (4294967295 : Int64)) (200 : Int64)))) + (3 : Int32))) x2) 69 (Int32.toNatClampNeg (11 : Int32))) + (1 : Int32)))) rfl rfl rfl rfl ?_
  exact it_V.ret it_cd257 it_m257 rfl rfl ⟨rfl, h⟩
set_option maxRecDepth 100000 in
set_option maxHeartbeats 4000000 in
theorem s_255 (kc : it_Kc) (x0 : Int32) (m : it_Me) (Φ : it_Me → Prop) (h : w_255 kc x0 m Φ) : it_V kc it_sh0 255 0 (it_loc0 [(.ref 66), (.int x0)] 2) [] m (it_Pv Φ) := by
  rw [w_255] at h
  refine it_V.at (pc1 := 0) (ls1 := [some (.ref 66), some (.int x0)]) (st1 := []) (mem1 := m) rfl rfl rfl rfl ?_
  refine it_V.sN it_cd255 it_m255 4 (pc1 := 6) (ls1 := [some (.ref 66), some (.int x0)]) (st1 := [(.int x0), (.ref 100), (.int x0), (.ref 100)]) (mem1 := m) rfl ?_
  obtain ⟨g1, h⟩ := h
  refine it_V.iald it_cd255 it_m255 rfl ((⟨rfl, by decide⟩ : it_isR 100 8)).2 ((⟨rfl, by decide⟩ : it_isR 100 8)).1 g1 ?_
  refine it_V.at (pc1 := 7) (ls1 := [some (.ref 66), some (.int x0)]) (st1 := [(.int (m 100 (Int32.toNatClampNeg x0))), (.int x0), (.ref 100)]) (mem1 := m) rfl rfl rfl rfl ?_
  refine it_V.sN it_cd255 it_m255 2 (pc1 := 9) (ls1 := [some (.ref 66), some (.int x0)]) (st1 := [(.int ((m 100 (Int32.toNatClampNeg x0)) + (1 : Int32))), (.int x0), (.ref 100)]) (mem1 := m) rfl ?_
  obtain ⟨g2, h⟩ := h
  refine it_V.iast it_cd255 it_m255 rfl ((⟨rfl, by decide⟩ : it_isR 100 8)).1 g2 ?_
  refine it_V.at (pc1 := 10) (ls1 := [some (.ref 66), some (.int x0)]) (st1 := []) (mem1 := (it_sv m 100 (Int32.toNatClampNeg x0) ((m 100 (Int32.toNatClampNeg x0)) + (1 : Int32)))) rfl rfl rfl rfl ?_
  refine it_V.sN it_cd255 it_m255 4 (pc1 := 17) (ls1 := [some (.ref 66), some (.int x0)]) (st1 := [(.int (8 : Int32)), (.ref 69), (.int (8 : Int32)), (.ref 69)]) (mem1 := (it_sv m 100 (Int32.toNatClampNeg x0) ((m 100 (Int32.toNatClampNeg x0)) + (1 : Int32)))) rfl ?_
  obtain ⟨g3, h⟩ := h
  refine it_V.iald it_cd255 it_m255 rfl ((⟨rfl, by decide⟩ : it_isR 69 12)).2 ((⟨rfl, by decide⟩ : it_isR 69 12)).1 g3 ?_
  refine it_V.at (pc1 := 18) (ls1 := [some (.ref 66), some (.int x0)]) (st1 := [(.int ((it_sv m 100 (Int32.toNatClampNeg x0) ((m 100 (Int32.toNatClampNeg x0)) + (1 : Int32))) 69 (Int32.toNatClampNeg (8 : Int32)))), (.int (8 : Int32)), (.ref 69)]) (mem1 := (it_sv m 100 (Int32.toNatClampNeg x0) ((m 100 (Int32.toNatClampNeg x0)) + (1 : Int32)))) rfl rfl rfl rfl ?_
  refine it_V.sN it_cd255 it_m255 2 (pc1 := 20) (ls1 := [some (.ref 66), some (.int x0)]) (st1 := [(.int (((it_sv m 100 (Int32.toNatClampNeg x0) ((m 100 (Int32.toNatClampNeg x0)) + (1 : Int32))) 69 (Int32.toNatClampNeg (8 : Int32))) + (1 : Int32))), (.int (8 : Int32)), (.ref 69)]) (mem1 := (it_sv m 100 (Int32.toNatClampNeg x0) ((m 100 (Int32.toNatClampNeg x0)) + (1 : Int32)))) rfl ?_
  obtain ⟨g4, h⟩ := h
  refine it_V.iast it_cd255 it_m255 rfl ((⟨rfl, by decide⟩ : it_isR 69 12)).1 g4 ?_
  refine it_V.at (pc1 := 21) (ls1 := [some (.ref 66), some (.int x0)]) (st1 := []) (mem1 := (it_sv (it_sv m 100 (Int32.toNatClampNeg x0) ((m 100 (Int32.toNatClampNeg x0)) + (1 : Int32))) 69 (Int32.toNatClampNeg (8 : Int32)) (((it_sv m 100 (Int32.toNatClampNeg x0) ((m 100 (Int32.toNatClampNeg x0)) + (1 : Int32))) 69 (Int32.toNatClampNeg (8 : Int32))) + (1 : Int32)))) rfl rfl rfl rfl ?_
  refine it_V.sN it_cd255 it_m255 2 (pc1 := 23) (ls1 := [some (.ref 66), some (.int x0)]) (st1 := [(.int x0), (.ref 66)]) (mem1 := (it_sv (it_sv m 100 (Int32.toNatClampNeg x0) ((m 100 (Int32.toNatClampNeg x0)) + (1 : Int32))) 69 (Int32.toNatClampNeg (8 : Int32)) (((it_sv m 100 (Int32.toNatClampNeg x0) ((m 100 (Int32.toNatClampNeg x0)) + (1 : Int32))) 69 (Int32.toNatClampNeg (8 : Int32))) + (1 : Int32)))) rfl ?_
  refine it_V.call it_cd255 it_m255 rfl it_m253 [(.ref 66), (.int x0)] [] rfl rfl ⟨Nat.le_of_ble_eq_true rfl, Nat.le_of_ble_eq_true rfl, Nat.le_of_ble_eq_true rfl, Nat.le_of_ble_eq_true rfl, rfl⟩ (s_253 kc x0 (it_sv (it_sv m 100 (Int32.toNatClampNeg x0) ((m 100 (Int32.toNatClampNeg x0)) + (1 : Int32))) 69 (Int32.toNatClampNeg (8 : Int32)) (((it_sv m 100 (Int32.toNatClampNeg x0) ((m 100 (Int32.toNatClampNeg x0)) + (1 : Int32))) 69 (Int32.toNatClampNeg (8 : Int32))) + (1 : Int32))) _ h) ?_
  rintro _ m5 ⟨rfl, h⟩
  refine it_V.at (pc1 := 26) (ls1 := [some (.ref 66), some (.int x0)]) (st1 := []) (mem1 := m5) rfl rfl rfl rfl ?_
  refine it_V.sN it_cd255 it_m255 6 (pc1 := 34) (ls1 := [some (.ref 66), some (.int x0)]) (st1 := [(.int x0), (.ref 100), (.int (3 : Int32)), (.int x0), (.ref 66)]) (mem1 := m5) rfl ?_
  obtain ⟨g6, h⟩ := h
  refine it_V.iald it_cd255 it_m255 rfl ((⟨rfl, by decide⟩ : it_isR 100 8)).2 ((⟨rfl, by decide⟩ : it_isR 100 8)).1 g6 ?_
  refine it_V.at (pc1 := 35) (ls1 := [some (.ref 66), some (.int x0)]) (st1 := [(.int (m5 100 (Int32.toNatClampNeg x0))), (.int (3 : Int32)), (.int x0), (.ref 66)]) (mem1 := m5) rfl rfl rfl rfl ?_
  refine it_V.call it_cd255 it_m255 rfl it_m257 [(.ref 66), (.int x0), (.int (3 : Int32)), (.int (m5 100 (Int32.toNatClampNeg x0)))] [] rfl rfl ⟨Nat.le_of_ble_eq_true rfl, Nat.le_of_ble_eq_true rfl, Nat.le_of_ble_eq_true rfl, Nat.le_of_ble_eq_true rfl, rfl⟩ (s_257 kc x0 (3 : Int32) (m5 100 (Int32.toNatClampNeg x0)) m5 _ h) ?_
  rintro _ m7 ⟨rfl, h⟩
  refine it_V.at (pc1 := 38) (ls1 := [some (.ref 66), some (.int x0)]) (st1 := []) (mem1 := m7) rfl rfl rfl rfl ?_
  exact it_V.ret it_cd255 it_m255 rfl rfl ⟨rfl, h⟩
set_option maxRecDepth 100000 in
set_option maxHeartbeats 4000000 in
theorem s_264_25 (kc : it_Kc) (Φ : Int32 → it_Me → Prop) (u0 : Int32) (m : it_Me) (h : w_264_25 kc Φ u0 m) : it_V kc it_sh0 264 25 [none] [(.int u0)] m (it_Pi Φ) := by
  rw [w_264_25] at h
  exact it_V.ret it_cd264 it_m264 rfl rfl ⟨_, rfl, h⟩
set_option maxRecDepth 100000 in
set_option maxHeartbeats 4000000 in
theorem s_264_20 (kc : it_Kc) (Φ : Int32 → it_Me → Prop) (m : it_Me) (h : w_264_20 kc Φ m) : it_V kc it_sh0 264 20 [none] [] m (it_Pi Φ) := by
  rw [w_264_20] at h
  refine it_V.sN it_cd264 it_m264 2 (pc1 := 25) (ls1 := [none]) (st1 := [(.int (0 : Int32))]) (mem1 := m) rfl ?_
  refine it_V.weak (l := [none]) trivial ?_
  exact s_264_25 kc Φ (0 : Int32) m h
set_option maxRecDepth 100000 in
set_option maxHeartbeats 4000000 in
theorem s_264 (kc : it_Kc) (x0 : Int32) (m : it_Me) (Φ : Int32 → it_Me → Prop) (h : w_264 kc x0 m Φ) : it_V kc it_sh0 264 0 (it_loc0 [(.int x0)] 1) [] m (it_Pi Φ) := by
  rw [w_264] at h
  refine it_V.at (pc1 := 0) (ls1 := [some (.int x0)]) (st1 := []) (mem1 := m) rfl rfl rfl rfl ?_
  refine it_V.sN it_cd264 it_m264 3 (pc1 := (if x0 = (1 : Int32) then 5 else 9)) (ls1 := [some (.int x0)]) (st1 := []) (mem1 := m) rfl ?_
  refine it_V.ite (fun c1 => ?_) (fun c1 => ?_)
  · have h := h.1 c1
    refine it_V.sN it_cd264 it_m264 2 (pc1 := 25) (ls1 := [some (.int x0)]) (st1 := [(.int (3 : Int32))]) (mem1 := m) rfl ?_
    refine it_V.weak (l := [none]) trivial ?_
    exact s_264_25 kc Φ (3 : Int32) m h
  · have h := h.2 c1
    refine it_V.sN it_cd264 it_m264 3 (pc1 := (if x0 = (2 : Int32) then 20 else 14)) (ls1 := [some (.int x0)]) (st1 := []) (mem1 := m) rfl ?_
    refine it_V.ite (fun c2 => ?_) (fun c2 => ?_)
    · have h := h.1 c2
      refine it_V.weak (l := [none]) trivial ?_
      exact s_264_20 kc Φ m h
    · have h := h.2 c2
      refine it_V.sN it_cd264 it_m264 3 (pc1 := (if x0 = (8 : Int32) then 20 else 24)) (ls1 := [some (.int x0)]) (st1 := []) (mem1 := m) rfl ?_
      refine it_V.ite (fun c3 => ?_) (fun c3 => ?_)
      · have h := h.1 c3
        refine it_V.weak (l := [none]) trivial ?_
        exact s_264_20 kc Φ m h
      · have h := h.2 c3
        refine it_V.sN it_cd264 it_m264 1 (pc1 := 25) (ls1 := [some (.int x0)]) (st1 := [(.int (1 : Int32))]) (mem1 := m) rfl ?_
        refine it_V.weak (l := [none]) trivial ?_
        exact s_264_25 kc Φ (1 : Int32) m h
set_option maxRecDepth 100000 in
set_option maxHeartbeats 4000000 in
theorem s_265_31 (kc : it_Kc) (Φ : Int32 → it_Me → Prop) (u0 : Int32) (m : it_Me) (h : w_265_31 kc Φ u0 m) : it_V kc it_sh0 265 31 [none] [(.int u0)] m (it_Pi Φ) := by
  rw [w_265_31] at h
  exact it_V.ret it_cd265 it_m265 rfl rfl ⟨_, rfl, h⟩
set_option maxRecDepth 100000 in
set_option maxHeartbeats 4000000 in
theorem s_265_26 (kc : it_Kc) (Φ : Int32 → it_Me → Prop) (m : it_Me) (h : w_265_26 kc Φ m) : it_V kc it_sh0 265 26 [none] [] m (it_Pi Φ) := by
  rw [w_265_26] at h
  refine it_V.sN it_cd265 it_m265 2 (pc1 := 31) (ls1 := [none]) (st1 := [(.int (1 : Int32))]) (mem1 := m) rfl ?_
  refine it_V.weak (l := [none]) trivial ?_
  exact s_265_31 kc Φ (1 : Int32) m h
set_option maxRecDepth 100000 in
set_option maxHeartbeats 4000000 in
theorem s_265 (kc : it_Kc) (x0 : Int32) (m : it_Me) (Φ : Int32 → it_Me → Prop) (h : w_265 kc x0 m Φ) : it_V kc it_sh0 265 0 (it_loc0 [(.int x0)] 1) [] m (it_Pi Φ) := by
  rw [w_265] at h
  refine it_V.at (pc1 := 0) (ls1 := [some (.int x0)]) (st1 := []) (mem1 := m) rfl rfl rfl rfl ?_
  refine it_V.sN it_cd265 it_m265 3 (pc1 := (if x0 = (1 : Int32) then 5 else 9)) (ls1 := [some (.int x0)]) (st1 := []) (mem1 := m) rfl ?_
  refine it_V.ite (fun c1 => ?_) (fun c1 => ?_)
  · have h := h.1 c1
    refine it_V.sN it_cd265 it_m265 2 (pc1 := 31) (ls1 := [some (.int x0)]) (st1 := [(.int (2 : Int32))]) (mem1 := m) rfl ?_
    refine it_V.weak (l := [none]) trivial ?_
    exact s_265_31 kc Φ (2 : Int32) m h
  · have h := h.2 c1
    refine it_V.sN it_cd265 it_m265 3 (pc1 := (if x0 = (5 : Int32) then 26 else 14)) (ls1 := [some (.int x0)]) (st1 := []) (mem1 := m) rfl ?_
    refine it_V.ite (fun c2 => ?_) (fun c2 => ?_)
    · have h := h.1 c2
      refine it_V.weak (l := [none]) trivial ?_
      exact s_265_26 kc Φ m h
    · have h := h.2 c2
      refine it_V.sN it_cd265 it_m265 3 (pc1 := (if x0 = (7 : Int32) then 26 else 20)) (ls1 := [some (.int x0)]) (st1 := []) (mem1 := m) rfl ?_
      refine it_V.ite (fun c3 => ?_) (fun c3 => ?_)
      · have h := h.1 c3
        refine it_V.weak (l := [none]) trivial ?_
        exact s_265_26 kc Φ m h
      · have h := h.2 c3
        refine it_V.sN it_cd265 it_m265 3 (pc1 := (if x0 = (8 : Int32) then 26 else 30)) (ls1 := [some (.int x0)]) (st1 := []) (mem1 := m) rfl ?_
        refine it_V.ite (fun c4 => ?_) (fun c4 => ?_)
        · have h := h.1 c4
          refine it_V.weak (l := [none]) trivial ?_
          exact s_265_26 kc Φ m h
        · have h := h.2 c4
          refine it_V.sN it_cd265 it_m265 1 (pc1 := 31) (ls1 := [some (.int x0)]) (st1 := [(.int (0 : Int32))]) (mem1 := m) rfl ?_
          refine it_V.weak (l := [none]) trivial ?_
          exact s_265_31 kc Φ (0 : Int32) m h
set_option maxRecDepth 100000 in
set_option maxHeartbeats 4000000 in
theorem s_266_30 (kc : it_Kc) (Φ : Int32 → it_Me → Prop) (u0 : Int32) (m : it_Me) (h : w_266_30 kc Φ u0 m) : it_V kc it_sh0 266 30 [none] [(.int u0)] m (it_Pi Φ) := by
  rw [w_266_30] at h
  exact it_V.ret it_cd266 it_m266 rfl rfl ⟨_, rfl, h⟩
set_option maxRecDepth 100000 in
set_option maxHeartbeats 4000000 in
theorem s_266_25 (kc : it_Kc) (Φ : Int32 → it_Me → Prop) (m : it_Me) (h : w_266_25 kc Φ m) : it_V kc it_sh0 266 25 [none] [] m (it_Pi Φ) := by
  rw [w_266_25] at h
  refine it_V.sN it_cd266 it_m266 2 (pc1 := 30) (ls1 := [none]) (st1 := [(.int (1 : Int32))]) (mem1 := m) rfl ?_
  refine it_V.weak (l := [none]) trivial ?_
  exact s_266_30 kc Φ (1 : Int32) m h
set_option maxRecDepth 100000 in
set_option maxHeartbeats 4000000 in
theorem s_266 (kc : it_Kc) (x0 : Int32) (m : it_Me) (Φ : Int32 → it_Me → Prop) (h : w_266 kc x0 m Φ) : it_V kc it_sh0 266 0 (it_loc0 [(.int x0)] 1) [] m (it_Pi Φ) := by
  rw [w_266] at h
  refine it_V.at (pc1 := 0) (ls1 := [some (.int x0)]) (st1 := []) (mem1 := m) rfl rfl rfl rfl ?_
  refine it_V.sN it_cd266 it_m266 3 (pc1 := (if x0 = (1 : Int32) then 5 else 9)) (ls1 := [some (.int x0)]) (st1 := []) (mem1 := m) rfl ?_
  refine it_V.ite (fun c1 => ?_) (fun c1 => ?_)
  · have h := h.1 c1
    refine it_V.sN it_cd266 it_m266 2 (pc1 := 30) (ls1 := [some (.int x0)]) (st1 := [(.int (2 : Int32))]) (mem1 := m) rfl ?_
    refine it_V.weak (l := [none]) trivial ?_
    exact s_266_30 kc Φ (2 : Int32) m h
  · have h := h.2 c1
    refine it_V.sN it_cd266 it_m266 3 (pc1 := (if x0 = (4 : Int32) then 25 else 14)) (ls1 := [some (.int x0)]) (st1 := []) (mem1 := m) rfl ?_
    refine it_V.ite (fun c2 => ?_) (fun c2 => ?_)
    · have h := h.1 c2
      refine it_V.weak (l := [none]) trivial ?_
      exact s_266_25 kc Φ m h
    · have h := h.2 c2
      refine it_V.sN it_cd266 it_m266 3 (pc1 := (if x0 = (5 : Int32) then 25 else 19)) (ls1 := [some (.int x0)]) (st1 := []) (mem1 := m) rfl ?_
      refine it_V.ite (fun c3 => ?_) (fun c3 => ?_)
      · have h := h.1 c3
        refine it_V.weak (l := [none]) trivial ?_
        exact s_266_25 kc Φ m h
      · have h := h.2 c3
        refine it_V.sN it_cd266 it_m266 3 (pc1 := (if x0 = (7 : Int32) then 25 else 29)) (ls1 := [some (.int x0)]) (st1 := []) (mem1 := m) rfl ?_
        refine it_V.ite (fun c4 => ?_) (fun c4 => ?_)
        · have h := h.1 c4
          refine it_V.weak (l := [none]) trivial ?_
          exact s_266_25 kc Φ m h
        · have h := h.2 c4
          refine it_V.sN it_cd266 it_m266 1 (pc1 := 30) (ls1 := [some (.int x0)]) (st1 := [(.int (0 : Int32))]) (mem1 := m) rfl ?_
          refine it_V.weak (l := [none]) trivial ?_
          exact s_266_30 kc Φ (0 : Int32) m h
set_option maxRecDepth 100000 in
set_option maxHeartbeats 4000000 in
theorem s_267_39 (kc : it_Kc) (Φ : Int32 → it_Me → Prop) (u0 : Int32) (m : it_Me) (h : w_267_39 kc Φ u0 m) : it_V kc it_sh0 267 39 [none] [(.int u0)] m (it_Pi Φ) := by
  rw [w_267_39] at h
  exact it_V.ret it_cd267 it_m267 rfl rfl ⟨_, rfl, h⟩
set_option maxRecDepth 100000 in
set_option maxHeartbeats 4000000 in
theorem s_267_10 (kc : it_Kc) (Φ : Int32 → it_Me → Prop) (m : it_Me) (h : w_267_10 kc Φ m) : it_V kc it_sh0 267 10 [none] [] m (it_Pi Φ) := by
  rw [w_267_10] at h
  refine it_V.sN it_cd267 it_m267 2 (pc1 := 39) (ls1 := [none]) (st1 := [(.int (3 : Int32))]) (mem1 := m) rfl ?_
  refine it_V.weak (l := [none]) trivial ?_
  exact s_267_39 kc Φ (3 : Int32) m h
set_option maxRecDepth 100000 in
set_option maxHeartbeats 4000000 in
theorem s_267_34 (kc : it_Kc) (Φ : Int32 → it_Me → Prop) (m : it_Me) (h : w_267_34 kc Φ m) : it_V kc it_sh0 267 34 [none] [] m (it_Pi Φ) := by
  rw [w_267_34] at h
  refine it_V.sN it_cd267 it_m267 2 (pc1 := 39) (ls1 := [none]) (st1 := [(.int (1 : Int32))]) (mem1 := m) rfl ?_
  refine it_V.weak (l := [none]) trivial ?_
  exact s_267_39 kc Φ (1 : Int32) m h
set_option maxRecDepth 100000 in
set_option maxHeartbeats 4000000 in
theorem s_267 (kc : it_Kc) (x0 : Int32) (m : it_Me) (Φ : Int32 → it_Me → Prop) (h : w_267 kc x0 m Φ) : it_V kc it_sh0 267 0 (it_loc0 [(.int x0)] 1) [] m (it_Pi Φ) := by
  rw [w_267] at h
  refine it_V.at (pc1 := 0) (ls1 := [some (.int x0)]) (st1 := []) (mem1 := m) rfl rfl rfl rfl ?_
  refine it_V.sN it_cd267 it_m267 2 (pc1 := (if x0 = 0 then 10 else 4)) (ls1 := [some (.int x0)]) (st1 := []) (mem1 := m) rfl ?_
  refine it_V.ite (fun c1 => ?_) (fun c1 => ?_)
  · have h := h.1 c1
    refine it_V.weak (l := [none]) trivial ?_
    exact s_267_10 kc Φ m h
  · have h := h.2 c1
    refine it_V.sN it_cd267 it_m267 3 (pc1 := (if x0 = (6 : Int32) then 10 else 14)) (ls1 := [some (.int x0)]) (st1 := []) (mem1 := m) rfl ?_
    refine it_V.ite (fun c2 => ?_) (fun c2 => ?_)
    · have h := h.1 c2
      refine it_V.weak (l := [none]) trivial ?_
      exact s_267_10 kc Φ m h
    · have h := h.2 c2
      refine it_V.sN it_cd267 it_m267 3 (pc1 := (if x0 = (1 : Int32) then 19 else 23)) (ls1 := [some (.int x0)]) (st1 := []) (mem1 := m) rfl ?_
      refine it_V.ite (fun c3 => ?_) (fun c3 => ?_)
      · have h := h.1 c3
        refine it_V.sN it_cd267 it_m267 2 (pc1 := 39) (ls1 := [some (.int x0)]) (st1 := [(.int (4 : Int32))]) (mem1 := m) rfl ?_
        refine it_V.weak (l := [none]) trivial ?_
        exact s_267_39 kc Φ (4 : Int32) m h
      · have h := h.2 c3
        refine it_V.sN it_cd267 it_m267 3 (pc1 := (if x0 = (3 : Int32) then 34 else 28)) (ls1 := [some (.int x0)]) (st1 := []) (mem1 := m) rfl ?_
        refine it_V.ite (fun c4 => ?_) (fun c4 => ?_)
        · have h := h.1 c4
          refine it_V.weak (l := [none]) trivial ?_
          exact s_267_34 kc Φ m h
        · have h := h.2 c4
          refine it_V.sN it_cd267 it_m267 3 (pc1 := (if x0 = (7 : Int32) then 34 else 38)) (ls1 := [some (.int x0)]) (st1 := []) (mem1 := m) rfl ?_
          refine it_V.ite (fun c5 => ?_) (fun c5 => ?_)
          · have h := h.1 c5
            refine it_V.weak (l := [none]) trivial ?_
            exact s_267_34 kc Φ m h
          · have h := h.2 c5
            refine it_V.sN it_cd267 it_m267 1 (pc1 := 39) (ls1 := [some (.int x0)]) (st1 := [(.int (0 : Int32))]) (mem1 := m) rfl ?_
            refine it_V.weak (l := [none]) trivial ?_
            exact s_267_39 kc Φ (0 : Int32) m h
set_option maxRecDepth 100000 in
set_option maxHeartbeats 4000000 in
theorem s_268 (kc : it_Kc) (x0 : Int32) (m : it_Me) (Φ : Int32 → it_Me → Prop) (h : w_268 kc x0 m Φ) : it_V kc it_sh0 268 0 (it_loc0 [(.int x0)] 1) [] m (it_Pi Φ) := by
  rw [w_268] at h
  refine it_V.at (pc1 := 0) (ls1 := [some (.int x0)]) (st1 := []) (mem1 := m) rfl rfl rfl rfl ?_
  refine it_V.sN it_cd268 it_m268 3 (pc1 := 5) (ls1 := [some (.int x0)]) (st1 := [(.int x0), (.int (8 : Int32)), (.int (8 : Int32))]) (mem1 := m) rfl ?_
  refine it_V.call it_cd268 it_m268 rfl it_m264 [(.int x0)] [(.int (8 : Int32)), (.int (8 : Int32))] rfl rfl ⟨Nat.le_of_ble_eq_true rfl, Nat.le_of_ble_eq_true rfl, Nat.le_of_ble_eq_true rfl, Nat.le_of_ble_eq_true rfl, rfl⟩ (s_264 kc x0 m _ h) ?_
  rintro _ m2 ⟨r1, rfl, h⟩
  refine it_V.at (pc1 := 8) (ls1 := [some (.int x0)]) (st1 := [(.int r1), (.int (8 : Int32)), (.int (8 : Int32))]) (mem1 := m2) rfl rfl rfl rfl ?_
  refine it_V.sN it_cd268 it_m268 1 (pc1 := 9) (ls1 := [some (.int x0)]) (st1 := [(.int x0), (.int r1), (.int (8 : Int32)), (.int (8 : Int32))]) (mem1 := m2) rfl ?_
  refine it_V.call it_cd268 it_m268 rfl it_m265 [(.int x0)] [(.int r1), (.int (8 : Int32)), (.int (8 : Int32))] rfl rfl ⟨Nat.le_of_ble_eq_true rfl, Nat.le_of_ble_eq_true rfl, Nat.le_of_ble_eq_true rfl, Nat.le_of_ble_eq_true rfl, rfl⟩ (s_265 kc x0 m2 _ h) ?_
  rintro _ m4 ⟨r3, rfl, h⟩
  refine it_V.at (pc1 := 12) (ls1 := [some (.int x0)]) (st1 := [(.int r3), (.int r1), (.int (8 : Int32)), (.int (8 : Int32))]) (mem1 := m4) rfl rfl rfl rfl ?_
  refine it_V.sN it_cd268 it_m268 2 (pc1 := 14) (ls1 := [some (.int x0)]) (st1 := [(.int x0), (.int (r1 + r3)), (.int (8 : Int32)), (.int (8 : Int32))]) (mem1 := m4) rfl ?_
  refine it_V.call it_cd268 it_m268 rfl it_m266 [(.int x0)] [(.int (r1 + r3)), (.int (8 : Int32)), (.int (8 : Int32))] rfl rfl ⟨Nat.le_of_ble_eq_true rfl, Nat.le_of_ble_eq_true rfl, Nat.le_of_ble_eq_true rfl, Nat.le_of_ble_eq_true rfl, rfl⟩ (s_266 kc x0 m4 _ h) ?_
  rintro _ m6 ⟨r5, rfl, h⟩
  refine it_V.at (pc1 := 17) (ls1 := [some (.int x0)]) (st1 := [(.int r5), (.int (r1 + r3)), (.int (8 : Int32)), (.int (8 : Int32))]) (mem1 := m6) rfl rfl rfl rfl ?_
  refine it_V.sN it_cd268 it_m268 5 (pc1 := 22) (ls1 := [some (.int x0)]) (st1 := [(.int x0), (.int (4 : Int32)), (.int ((8 : Int32) + ((8 : Int32) * ((r1 + r3) + r5))))]) (mem1 := m6) rfl ?_
  refine it_V.call it_cd268 it_m268 rfl it_m267 [(.int x0)] [(.int (4 : Int32)), (.int ((8 : Int32) + ((8 : Int32) * ((r1 + r3) + r5))))] rfl rfl ⟨Nat.le_of_ble_eq_true rfl, Nat.le_of_ble_eq_true rfl, Nat.le_of_ble_eq_true rfl, Nat.le_of_ble_eq_true rfl, rfl⟩ (s_267 kc x0 m6 _ h) ?_
  rintro _ m8 ⟨r7, rfl, h⟩
  refine it_V.at (pc1 := 25) (ls1 := [some (.int x0)]) (st1 := [(.int r7), (.int (4 : Int32)), (.int ((8 : Int32) + ((8 : Int32) * ((r1 + r3) + r5))))]) (mem1 := m8) rfl rfl rfl rfl ?_
  refine it_V.sN it_cd268 it_m268 2 (pc1 := 27) (ls1 := [some (.int x0)]) (st1 := [(.int (((8 : Int32) + ((8 : Int32) * ((r1 + r3) + r5))) + ((4 : Int32) * r7)))]) (mem1 := m8) rfl ?_
  exact it_V.ret it_cd268 it_m268 rfl rfl ⟨_, rfl, h⟩
set_option maxRecDepth 100000 in
set_option maxHeartbeats 4000000 in
theorem s_269 (kc : it_Kc) (x0 : Int32) (x1 : Int32) (m : it_Me) (Φ : Int32 → it_Me → Prop) (h : w_269 kc x0 x1 m Φ) : it_V kc it_sh0 269 0 (it_loc0 [(.int x0), (.int x1)] 2) [] m (it_Pi Φ) := by
  rw [w_269] at h
  refine it_V.at (pc1 := 0) (ls1 := [some (.int x0), some (.int x1)]) (st1 := []) (mem1 := m) rfl rfl rfl rfl ?_
  refine it_V.sN it_cd269 it_m269 5 (pc1 := 7) (ls1 := [some (.int x0), some (.int x1)]) (st1 := [(.int x1), (.int (8 : Int32)), (.int (x0 + (8 : Int32)))]) (mem1 := m) rfl ?_
  refine it_V.call it_cd269 it_m269 rfl it_m264 [(.int x1)] [(.int (8 : Int32)), (.int (x0 + (8 : Int32)))] rfl rfl ⟨Nat.le_of_ble_eq_true rfl, Nat.le_of_ble_eq_true rfl, Nat.le_of_ble_eq_true rfl, Nat.le_of_ble_eq_true rfl, rfl⟩ (s_264 kc x1 m _ h) ?_
  rintro _ m2 ⟨r1, rfl, h⟩
  refine it_V.at (pc1 := 10) (ls1 := [some (.int x0), some (.int x1)]) (st1 := [(.int r1), (.int (8 : Int32)), (.int (x0 + (8 : Int32)))]) (mem1 := m2) rfl rfl rfl rfl ?_
  refine it_V.sN it_cd269 it_m269 1 (pc1 := 11) (ls1 := [some (.int x0), some (.int x1)]) (st1 := [(.int x1), (.int r1), (.int (8 : Int32)), (.int (x0 + (8 : Int32)))]) (mem1 := m2) rfl ?_
  refine it_V.call it_cd269 it_m269 rfl it_m265 [(.int x1)] [(.int r1), (.int (8 : Int32)), (.int (x0 + (8 : Int32)))] rfl rfl ⟨Nat.le_of_ble_eq_true rfl, Nat.le_of_ble_eq_true rfl, Nat.le_of_ble_eq_true rfl, Nat.le_of_ble_eq_true rfl, rfl⟩ (s_265 kc x1 m2 _ h) ?_
  rintro _ m4 ⟨r3, rfl, h⟩
  refine it_V.at (pc1 := 14) (ls1 := [some (.int x0), some (.int x1)]) (st1 := [(.int r3), (.int r1), (.int (8 : Int32)), (.int (x0 + (8 : Int32)))]) (mem1 := m4) rfl rfl rfl rfl ?_
  refine it_V.sN it_cd269 it_m269 2 (pc1 := 16) (ls1 := [some (.int x0), some (.int x1)]) (st1 := [(.int x1), (.int (r1 + r3)), (.int (8 : Int32)), (.int (x0 + (8 : Int32)))]) (mem1 := m4) rfl ?_
  refine it_V.call it_cd269 it_m269 rfl it_m266 [(.int x1)] [(.int (r1 + r3)), (.int (8 : Int32)), (.int (x0 + (8 : Int32)))] rfl rfl ⟨Nat.le_of_ble_eq_true rfl, Nat.le_of_ble_eq_true rfl, Nat.le_of_ble_eq_true rfl, Nat.le_of_ble_eq_true rfl, rfl⟩ (s_266 kc x1 m4 _ h) ?_
  rintro _ m6 ⟨r5, rfl, h⟩
  refine it_V.at (pc1 := 19) (ls1 := [some (.int x0), some (.int x1)]) (st1 := [(.int r5), (.int (r1 + r3)), (.int (8 : Int32)), (.int (x0 + (8 : Int32)))]) (mem1 := m6) rfl rfl rfl rfl ?_
  refine it_V.sN it_cd269 it_m269 3 (pc1 := 22) (ls1 := [some (.int x0), some (.int x1)]) (st1 := [(.int ((x0 + (8 : Int32)) + ((8 : Int32) * ((r1 + r3) + r5))))]) (mem1 := m6) rfl ?_
  exact it_V.ret it_cd269 it_m269 rfl rfl ⟨_, rfl, h⟩
set_option maxRecDepth 100000 in
set_option maxHeartbeats 4000000 in
theorem s_256_61 (kc : it_Kc) (Φ : it_Me → Prop) (K81 : Int32 → Int32 → it_Me → Prop) (hK81 : ∀ (v1 : Int32) (v5 : Int32) (m : it_Me), K81 v1 v5 m → it_V kc it_sh0 256 81 [some (.ref 66), some (.int v1), none, none, none, some (.int v5), none] [] m (it_Pv Φ)) : ∀ (n : Nat) (v1 : Int32) (v5 : Int32) (v6 : Int32) (m : it_Me) (h : w_256_61 kc Φ K81 n v1 v5 v6 m), it_V kc it_sh0 256 61 [some (.ref 66), some (.int v1), none, none, none, some (.int v5), some (.int v6)] [] m (it_Pv Φ) := by
  intro n
  induction n with
  | zero => intro v1 v5 v6 m h; exact absurd h id
  | succ n ih =>
    intro v1 v5 v6 m h
    rw [w_256_61] at h
    refine it_V.sN it_cd256 it_m256 3 (pc1 := (if v5 ≤ v6 then 81 else 68)) (ls1 := [some (.ref 66), some (.int v1), none, none, none, some (.int v5), some (.int v6)]) (st1 := []) (mem1 := m) rfl ?_
    refine it_V.ite (fun c1 => ?_) (fun c1 => ?_)
    · have h := h.1 c1
      refine it_V.weak (l := [some (.ref 66), some (.int v1), none, none, none, some (.int v5), none]) ⟨rfl, ⟨rfl, ⟨rfl, trivial⟩⟩⟩ ?_
      exact hK81 v1 v5 m h
    · have h := h.2 c1
      refine it_V.sN it_cd256 it_m256 3 (pc1 := 72) (ls1 := [some (.ref 66), some (.int v1), none, none, none, some (.int v5), some (.int v6)]) (st1 := [(.int (0 : Int32)), (.int v6), (.ref 66)]) (mem1 := m) rfl ?_
      refine it_V.call it_cd256 it_m256 rfl it_m221 [(.ref 66), (.int v6), (.int (0 : Int32))] [] rfl rfl ⟨Nat.le_of_ble_eq_true rfl, Nat.le_of_ble_eq_true rfl, Nat.le_of_ble_eq_true rfl, Nat.le_of_ble_eq_true rfl, rfl⟩ (s_221 kc v6 (0 : Int32) m _ h) ?_
      rintro _ m2 ⟨rfl, h⟩
      refine it_V.at (pc1 := 75) (ls1 := [some (.ref 66), some (.int v1), none, none, none, some (.int v5), some (.int v6)]) (st1 := []) (mem1 := m2) rfl rfl rfl rfl ?_
      refine it_V.sN it_cd256 it_m256 2 (pc1 := 61) (ls1 := [some (.ref 66), some (.int v1), none, none, none, some (.int v5), some (.int (v6 + (4 : Int32)))]) (st1 := []) (mem1 := m2) rfl ?_
      refine it_V.weak (l := [some (.ref 66), some (.int v1), none, none, none, some (.int v5), some (.int (v6 + (4 : Int32)))]) ⟨rfl, ⟨rfl, ⟨rfl, ⟨rfl, trivial⟩⟩⟩⟩ ?_
      exact ih v1 v5 (v6 + (4 : Int32)) m2 h
set_option maxRecDepth 100000 in
set_option maxHeartbeats 4000000 in
theorem s_256_81 (kc : it_Kc) (Φ : it_Me → Prop) (K28 : Int32 → Int32 → it_Me → Prop) (K87 : it_Me → Prop) (hK28 : ∀ (v1 : Int32) (v3 : Int32) (m : it_Me), K28 v1 v3 m → it_V kc it_sh0 256 28 [some (.ref 66), some (.int v1), none, some (.int v3), none, none, none] [] m (it_Pv Φ)) (hK87 : ∀ (m : it_Me), K87 m → it_V kc it_sh0 256 87 [none, none, none, none, none, none, none] [] m (it_Pv Φ)) (v1 : Int32) (v5 : Int32) (m : it_Me) (h : w_256_81 kc Φ K28 K87 v1 v5 m) : it_V kc it_sh0 256 81 [some (.ref 66), some (.int v1), none, none, none, some (.int v5), none] [] m (it_Pv Φ) := by
  rw [w_256_81] at h
  refine it_V.sN it_cd256 it_m256 3 (pc1 := 28) (ls1 := [some (.ref 66), some (.int v1), none, some (.int v5), none, some (.int v5), none]) (st1 := []) (mem1 := m) rfl ?_
  refine it_V.weak (l := [some (.ref 66), some (.int v1), none, some (.int v5), none, none, none]) ⟨rfl, ⟨rfl, ⟨rfl, trivial⟩⟩⟩ ?_
  exact hK28 v1 v5 m h
set_option maxRecDepth 100000 in
set_option maxHeartbeats 4000000 in
theorem s_256_28 (kc : it_Kc) (Φ : it_Me → Prop) (K87 : it_Me → Prop) (hK87 : ∀ (m : it_Me), K87 m → it_V kc it_sh0 256 87 [none, none, none, none, none, none, none] [] m (it_Pv Φ)) : ∀ (n : Nat) (v1 : Int32) (v3 : Int32) (m : it_Me) (h : w_256_28 kc Φ K87 n v1 v3 m), it_V kc it_sh0 256 28 [some (.ref 66), some (.int v1), none, some (.int v3), none, none, none] [] m (it_Pv Φ) := by
  intro n
  induction n with
  | zero => intro v1 v3 m h; exact absurd h id
  | succ n ih =>
    intro v1 v3 m h
    rw [w_256_28] at h
    refine it_V.sN it_cd256 it_m256 3 (pc1 := 31) (ls1 := [some (.ref 66), some (.int v1), none, some (.int v3), none, none, none]) (st1 := [(.int v1), (.ref 66), (.int v3)]) (mem1 := m) rfl ?_
    refine it_V.call it_cd256 it_m256 rfl it_m252 [(.ref 66), (.int v1)] [(.int v3)] rfl rfl ⟨Nat.le_of_ble_eq_true rfl, Nat.le_of_ble_eq_true rfl, Nat.le_of_ble_eq_true rfl, Nat.le_of_ble_eq_true rfl, rfl⟩ (s_252 kc v1 m _ h) ?_
    rintro _ m2 ⟨r1, rfl, h⟩
    refine it_V.at (pc1 := 34) (ls1 := [some (.ref 66), some (.int v1), none, some (.int v3), none, none, none]) (st1 := [(.int r1), (.int v3)]) (mem1 := m2) rfl rfl rfl rfl ?_
    refine it_V.sN it_cd256 it_m256 1 (pc1 := (if v3 = r1 then 87 else 37)) (ls1 := [some (.ref 66), some (.int v1), none, some (.int v3), none, none, none]) (st1 := []) (mem1 := m2) rfl ?_
    refine it_V.ite (fun c3 => ?_) (fun c3 => ?_)
    · have h := h.1 c3
      refine it_V.weak (l := [none, none, none, none, none, none, none]) trivial ?_
      exact hK87 m2 h
    · have h := h.2 c3
      refine it_V.sN it_cd256 it_m256 2 (pc1 := 39) (ls1 := [some (.ref 66), some (.int v1), none, some (.int v3), none, none, none]) (st1 := [(.int v3), (.ref 66)]) (mem1 := m2) rfl ?_
      refine it_V.call it_cd256 it_m256 rfl it_m220 [(.ref 66), (.int v3)] [] rfl rfl ⟨Nat.le_of_ble_eq_true rfl, Nat.le_of_ble_eq_true rfl, Nat.le_of_ble_eq_true rfl, Nat.le_of_ble_eq_true rfl, rfl⟩ (s_220 kc v3 m2 _ h) ?_
      rintro _ m5 ⟨r4, rfl, h⟩
      refine it_V.at (pc1 := 42) (ls1 := [some (.ref 66), some (.int v1), none, some (.int v3), none, none, none]) (st1 := [(.int r4)]) (mem1 := m5) rfl rfl rfl rfl ?_
      refine it_V.sN it_cd256 it_m256 3 (pc1 := 47) (ls1 := [some (.ref 66), some (.int v1), none, some (.int v3), some (.int r4), none, none]) (st1 := [(.int r4), (.int v3)]) (mem1 := m5) rfl ?_
      refine it_V.call it_cd256 it_m256 rfl it_m268 [(.int r4)] [(.int v3)] rfl rfl ⟨Nat.le_of_ble_eq_true rfl, Nat.le_of_ble_eq_true rfl, Nat.le_of_ble_eq_true rfl, Nat.le_of_ble_eq_true rfl, rfl⟩ (s_268 kc r4 m5 _ h) ?_
      rintro _ m7 ⟨r6, rfl, h⟩
      refine it_V.at (pc1 := 50) (ls1 := [some (.ref 66), some (.int v1), none, some (.int v3), some (.int r4), none, none]) (st1 := [(.int r6), (.int v3)]) (mem1 := m7) rfl rfl rfl rfl ?_
      refine it_V.sN it_cd256 it_m256 4 (pc1 := 56) (ls1 := [some (.ref 66), some (.int v1), none, some (.int v3), some (.int r4), some (.int (v3 + r6)), none]) (st1 := [(.int r4), (.int v3)]) (mem1 := m7) rfl ?_
      refine it_V.call it_cd256 it_m256 rfl it_m269 [(.int v3), (.int r4)] [] rfl rfl ⟨Nat.le_of_ble_eq_true rfl, Nat.le_of_ble_eq_true rfl, Nat.le_of_ble_eq_true rfl, Nat.le_of_ble_eq_true rfl, rfl⟩ (s_269 kc v3 r4 m7 _ h) ?_
      rintro _ m9 ⟨r8, rfl, h⟩
      refine it_V.at (pc1 := 59) (ls1 := [some (.ref 66), some (.int v1), none, some (.int v3), some (.int r4), some (.int (v3 + r6)), none]) (st1 := [(.int r8)]) (mem1 := m9) rfl rfl rfl rfl ?_
      refine it_V.sN it_cd256 it_m256 1 (pc1 := 61) (ls1 := [some (.ref 66), some (.int v1), none, some (.int v3), some (.int r4), some (.int (v3 + r6)), some (.int r8)]) (st1 := []) (mem1 := m9) rfl ?_
      refine it_V.weak (l := [some (.ref 66), some (.int v1), none, none, none, some (.int (v3 + r6)), some (.int r8)]) ⟨rfl, ⟨rfl, ⟨rfl, ⟨rfl, trivial⟩⟩⟩⟩ ?_
      obtain ⟨n, h⟩ := h
      exact s_256_61 kc Φ _ (fun v1 v5 m h => s_256_81 kc Φ _ _ ih hK87 v1 v5 m h) n v1 (v3 + r6) r8 m9 h
set_option maxRecDepth 100000 in
set_option maxHeartbeats 4000000 in
theorem s_256_87 (kc : it_Kc) (Φ : it_Me → Prop) (m : it_Me) (h : w_256_87 kc Φ m) : it_V kc it_sh0 256 87 [none, none, none, none, none, none, none] [] m (it_Pv Φ) := by
  rw [w_256_87] at h
  exact it_V.ret it_cd256 it_m256 rfl rfl ⟨rfl, h⟩
set_option maxRecDepth 100000 in
set_option maxHeartbeats 4000000 in
theorem s_256 (kc : it_Kc) (x0 : Int32) (x1 : Int32) (m : it_Me) (Φ : it_Me → Prop) (h : w_256 kc x0 x1 m Φ) : it_V kc it_sh0 256 0 (it_loc0 [(.ref 66), (.int x0), (.int x1)] 7) [] m (it_Pv Φ) := by
  rw [w_256] at h
  refine it_V.at (pc1 := 0) (ls1 := [some (.ref 66), some (.int x0), some (.int x1), none, none, none, none]) (st1 := []) (mem1 := m) rfl rfl rfl rfl ?_
  refine it_V.sN it_cd256 it_m256 4 (pc1 := 6) (ls1 := [some (.ref 66), some (.int x0), some (.int x1), none, none, none, none]) (st1 := [(.int x1), (.int x0), (.ref 95)]) (mem1 := m) rfl ?_
  obtain ⟨g1, h⟩ := h
  refine it_V.iast it_cd256 it_m256 rfl ((⟨rfl, by decide⟩ : it_isR 95 8)).1 g1 ?_
  refine it_V.at (pc1 := 7) (ls1 := [some (.ref 66), some (.int x0), some (.int x1), none, none, none, none]) (st1 := []) (mem1 := (it_sv m 95 (Int32.toNatClampNeg x0) x1)) rfl rfl rfl rfl ?_
  refine it_V.sN it_cd256 it_m256 4 (pc1 := 13) (ls1 := [some (.ref 66), some (.int x0), some (.int x1), none, none, none, none]) (st1 := [(.int (0 : Int32)), (.int x0), (.ref 110)]) (mem1 := (it_sv m 95 (Int32.toNatClampNeg x0) x1)) rfl ?_
  obtain ⟨g2, h⟩ := h
  refine it_V.iast it_cd256 it_m256 rfl ((⟨rfl, by decide⟩ : it_isR 110 8)).1 g2 ?_
  refine it_V.at (pc1 := 14) (ls1 := [some (.ref 66), some (.int x0), some (.int x1), none, none, none, none]) (st1 := []) (mem1 := (it_sv (it_sv m 95 (Int32.toNatClampNeg x0) x1) 110 (Int32.toNatClampNeg x0) (0 : Int32))) rfl rfl rfl rfl ?_
  refine it_V.sN it_cd256 it_m256 4 (pc1 := 20) (ls1 := [some (.ref 66), some (.int x0), some (.int x1), none, none, none, none]) (st1 := [(.int (0 : Int32)), (.int x0), (.ref 97)]) (mem1 := (it_sv (it_sv m 95 (Int32.toNatClampNeg x0) x1) 110 (Int32.toNatClampNeg x0) (0 : Int32))) rfl ?_
  obtain ⟨g3, h⟩ := h
  refine it_V.iast it_cd256 it_m256 rfl ((⟨rfl, by decide⟩ : it_isR 97 8)).1 g3 ?_
  refine it_V.at (pc1 := 21) (ls1 := [some (.ref 66), some (.int x0), some (.int x1), none, none, none, none]) (st1 := []) (mem1 := (it_sv (it_sv (it_sv m 95 (Int32.toNatClampNeg x0) x1) 110 (Int32.toNatClampNeg x0) (0 : Int32)) 97 (Int32.toNatClampNeg x0) (0 : Int32))) rfl rfl rfl rfl ?_
  refine it_V.sN it_cd256 it_m256 3 (pc1 := 26) (ls1 := [some (.ref 66), some (.int x0), some (.int x1), none, none, none, none]) (st1 := [(.int x0), (.ref 92)]) (mem1 := (it_sv (it_sv (it_sv m 95 (Int32.toNatClampNeg x0) x1) 110 (Int32.toNatClampNeg x0) (0 : Int32)) 97 (Int32.toNatClampNeg x0) (0 : Int32))) rfl ?_
  obtain ⟨g4, h⟩ := h
  refine it_V.iald it_cd256 it_m256 rfl ((⟨rfl, by decide⟩ : it_isR 92 8)).2 ((⟨rfl, by decide⟩ : it_isR 92 8)).1 g4 ?_
  refine it_V.at (pc1 := 27) (ls1 := [some (.ref 66), some (.int x0), some (.int x1), none, none, none, none]) (st1 := [(.int ((it_sv (it_sv (it_sv m 95 (Int32.toNatClampNeg x0) x1) 110 (Int32.toNatClampNeg x0) (0 : Int32)) 97 (Int32.toNatClampNeg x0) (0 : Int32)) 92 (Int32.toNatClampNeg x0)))]) (mem1 := (it_sv (it_sv (it_sv m 95 (Int32.toNatClampNeg x0) x1) 110 (Int32.toNatClampNeg x0) (0 : Int32)) 97 (Int32.toNatClampNeg x0) (0 : Int32))) rfl rfl rfl rfl ?_
  refine it_V.sN it_cd256 it_m256 1 (pc1 := 28) (ls1 := [some (.ref 66), some (.int x0), some (.int x1), some (.int ((it_sv (it_sv (it_sv m 95 (Int32.toNatClampNeg x0) x1) 110 (Int32.toNatClampNeg x0) (0 : Int32)) 97 (Int32.toNatClampNeg x0) (0 : Int32)) 92 (Int32.toNatClampNeg x0))), none, none, none]) (st1 := []) (mem1 := (it_sv (it_sv (it_sv m 95 (Int32.toNatClampNeg x0) x1) 110 (Int32.toNatClampNeg x0) (0 : Int32)) 97 (Int32.toNatClampNeg x0) (0 : Int32))) rfl ?_
  refine it_V.weak (l := [some (.ref 66), some (.int x0), none, some (.int ((it_sv (it_sv (it_sv m 95 (Int32.toNatClampNeg x0) x1) 110 (Int32.toNatClampNeg x0) (0 : Int32)) 97 (Int32.toNatClampNeg x0) (0 : Int32)) 92 (Int32.toNatClampNeg x0))), none, none, none]) ⟨rfl, ⟨rfl, ⟨rfl, trivial⟩⟩⟩ ?_
  obtain ⟨n, h⟩ := h
  exact s_256_28 kc Φ _ (fun m h => s_256_87 kc Φ m h) n x0 ((it_sv (it_sv (it_sv m 95 (Int32.toNatClampNeg x0) x1) 110 (Int32.toNatClampNeg x0) (0 : Int32)) 97 (Int32.toNatClampNeg x0) (0 : Int32)) 92 (Int32.toNatClampNeg x0)) (it_sv (it_sv (it_sv m 95 (Int32.toNatClampNeg x0) x1) 110 (Int32.toNatClampNeg x0) (0 : Int32)) 97 (Int32.toNatClampNeg x0) (0 : Int32)) h
set_option maxRecDepth 100000 in
set_option maxHeartbeats 4000000 in
theorem s_258_73 (kc : it_Kc) (Φ : it_Me → Prop) (m : it_Me) (h : w_258_73 kc Φ m) : it_V kc it_sh0 258 73 [none, none, none, none] [] m (it_Pv Φ) := by
  rw [w_258_73] at h
  exact it_V.ret it_cd258 it_m258 rfl rfl ⟨rfl, h⟩
set_option maxRecDepth 100000 in
set_option maxHeartbeats 4000000 in
theorem s_258 (kc : it_Kc) (x0 : Int32) (x1 : Int32) (x2 : Int32) (m : it_Me) (Φ : it_Me → Prop) (h : w_258 kc x0 x1 x2 m Φ) : it_V kc it_sh0 258 0 (it_loc0 [(.ref 66), (.int x0), (.int x1), (.int x2)] 4) [] m (it_Pv Φ) := by
  rw [w_258] at h
  refine it_V.at (pc1 := 0) (ls1 := [some (.ref 66), some (.int x0), some (.int x1), some (.int x2)]) (st1 := []) (mem1 := m) rfl rfl rfl rfl ?_
  refine it_V.sN it_cd258 it_m258 4 (pc1 := 7) (ls1 := [some (.ref 66), some (.int x0), some (.int x1), some (.int x2)]) (st1 := [(.int (7 : Int32)), (.ref 69), (.int (7 : Int32)), (.ref 69)]) (mem1 := m) rfl ?_
  obtain ⟨g1, h⟩ := h
  refine it_V.iald it_cd258 it_m258 rfl ((⟨rfl, by decide⟩ : it_isR 69 12)).2 ((⟨rfl, by decide⟩ : it_isR 69 12)).1 g1 ?_
  refine it_V.at (pc1 := 8) (ls1 := [some (.ref 66), some (.int x0), some (.int x1), some (.int x2)]) (st1 := [(.int (m 69 (Int32.toNatClampNeg (7 : Int32)))), (.int (7 : Int32)), (.ref 69)]) (mem1 := m) rfl rfl rfl rfl ?_
  refine it_V.sN it_cd258 it_m258 2 (pc1 := 10) (ls1 := [some (.ref 66), some (.int x0), some (.int x1), some (.int x2)]) (st1 := [(.int ((m 69 (Int32.toNatClampNeg (7 : Int32))) + (1 : Int32))), (.int (7 : Int32)), (.ref 69)]) (mem1 := m) rfl ?_
  obtain ⟨g2, h⟩ := h
  refine it_V.iast it_cd258 it_m258 rfl ((⟨rfl, by decide⟩ : it_isR 69 12)).1 g2 ?_
  refine it_V.at (pc1 := 11) (ls1 := [some (.ref 66), some (.int x0), some (.int x1), some (.int x2)]) (st1 := []) (mem1 := (it_sv m 69 (Int32.toNatClampNeg (7 : Int32)) ((m 69 (Int32.toNatClampNeg (7 : Int32))) + (1 : Int32)))) rfl rfl rfl rfl ?_
  refine it_V.sN it_cd258 it_m258 6 (pc1 := 19) (ls1 := [some (.ref 66), some (.int x0), some (.int x1), some (.int x2)]) (st1 := [(.int ((1 : Int32) + x1)), (.int x0), (.ref 102)]) (mem1 := (it_sv m 69 (Int32.toNatClampNeg (7 : Int32)) ((m 69 (Int32.toNatClampNeg (7 : Int32))) + (1 : Int32)))) rfl ?_
  obtain ⟨g3, h⟩ := h
  refine it_V.iast it_cd258 it_m258 rfl ((⟨rfl, by decide⟩ : it_isR 102 8)).1 g3 ?_
  refine it_V.at (pc1 := 20) (ls1 := [some (.ref 66), some (.int x0), some (.int x1), some (.int x2)]) (st1 := []) (mem1 := (it_sv (it_sv m 69 (Int32.toNatClampNeg (7 : Int32)) ((m 69 (Int32.toNatClampNeg (7 : Int32))) + (1 : Int32))) 102 (Int32.toNatClampNeg x0) ((1 : Int32) + x1))) rfl rfl rfl rfl ?_
  refine it_V.sN it_cd258 it_m258 4 (pc1 := 26) (ls1 := [some (.ref 66), some (.int x0), some (.int x1), some (.int x2)]) (st1 := [(.int x2), (.int x0), (.ref 103)]) (mem1 := (it_sv (it_sv m 69 (Int32.toNatClampNeg (7 : Int32)) ((m 69 (Int32.toNatClampNeg (7 : Int32))) + (1 : Int32))) 102 (Int32.toNatClampNeg x0) ((1 : Int32) + x1))) rfl ?_
  obtain ⟨g4, h⟩ := h
  refine it_V.iast it_cd258 it_m258 rfl ((⟨rfl, by decide⟩ : it_isR 103 8)).1 g4 ?_
  refine it_V.at (pc1 := 27) (ls1 := [some (.ref 66), some (.int x0), some (.int x1), some (.int x2)]) (st1 := []) (mem1 := (it_sv (it_sv (it_sv m 69 (Int32.toNatClampNeg (7 : Int32)) ((m 69 (Int32.toNatClampNeg (7 : Int32))) + (1 : Int32))) 102 (Int32.toNatClampNeg x0) ((1 : Int32) + x1)) 103 (Int32.toNatClampNeg x0) x2)) rfl rfl rfl rfl ?_
  refine it_V.sN it_cd258 it_m258 6 (pc1 := 37) (ls1 := [some (.ref 66), some (.int x0), some (.int x1), some (.int x2)]) (st1 := [(.int x0), (.ref 94), (.int x0), (.ref 104)]) (mem1 := (it_sv (it_sv (it_sv m 69 (Int32.toNatClampNeg (7 : Int32)) ((m 69 (Int32.toNatClampNeg (7 : Int32))) + (1 : Int32))) 102 (Int32.toNatClampNeg x0) ((1 : Int32) + x1)) 103 (Int32.toNatClampNeg x0) x2)) rfl ?_
  obtain ⟨g5, h⟩ := h
  refine it_V.iald it_cd258 it_m258 rfl ((⟨rfl, by decide⟩ : it_isR 94 8)).2 ((⟨rfl, by decide⟩ : it_isR 94 8)).1 g5 ?_
  refine it_V.at (pc1 := 38) (ls1 := [some (.ref 66), some (.int x0), some (.int x1), some (.int x2)]) (st1 := [(.int ((it_sv (it_sv (it_sv m 69 (Int32.toNatClampNeg (7 : Int32)) ((m 69 (Int32.toNatClampNeg (7 : Int32))) + (1 : Int32))) 102 (Int32.toNatClampNeg x0) ((1 : Int32) + x1)) 103 (Int32.toNatClampNeg x0) x2) 94 (Int32.toNatClampNeg x0))), (.int x0), (.ref 104)]) (mem1 := (it_sv (it_sv (it_sv m 69 (Int32.toNatClampNeg (7 : Int32)) ((m 69 (Int32.toNatClampNeg (7 : Int32))) + (1 : Int32))) 102 (Int32.toNatClampNeg x0) ((1 : Int32) + x1)) 103 (Int32.toNatClampNeg x0) x2)) rfl rfl rfl rfl ?_
  obtain ⟨g6, h⟩ := h
  refine it_V.iast it_cd258 it_m258 rfl ((⟨rfl, by decide⟩ : it_isR 104 8)).1 g6 ?_
  refine it_V.at (pc1 := 39) (ls1 := [some (.ref 66), some (.int x0), some (.int x1), some (.int x2)]) (st1 := []) (mem1 := (it_sv (it_sv (it_sv (it_sv m 69 (Int32.toNatClampNeg (7 : Int32)) ((m 69 (Int32.toNatClampNeg (7 : Int32))) + (1 : Int32))) 102 (Int32.toNatClampNeg x0) ((1 : Int32) + x1)) 103 (Int32.toNatClampNeg x0) x2) 104 (Int32.toNatClampNeg x0) ((it_sv (it_sv (it_sv m 69 (Int32.toNatClampNeg (7 : Int32)) ((m 69 (Int32.toNatClampNeg (7 : Int32))) + (1 : Int32))) 102 (Int32.toNatClampNeg x0) ((1 : Int32) + x1)) 103 (Int32.toNatClampNeg x0) x2) 94 (Int32.toNatClampNeg x0)))) rfl rfl rfl rfl ?_
  refine it_V.sN it_cd258 it_m258 4 (pc1 := 43) (ls1 := [some (.ref 66), some (.int x0), some (.int x1), some (.int x2)]) (st1 := [(.int x1), (.int (2 : Int32)), (.int x0), (.ref 66)]) (mem1 := (it_sv (it_sv (it_sv (it_sv m 69 (Int32.toNatClampNeg (7 : Int32)) ((m 69 (Int32.toNatClampNeg (7 : Int32))) + (1 : Int32))) 102 (Int32.toNatClampNeg x0) ((1 : Int32) + x1)) 103 (Int32.toNatClampNeg x0) x2) 104 (Int32.toNatClampNeg x0) ((it_sv (it_sv (it_sv m 69 (Int32.toNatClampNeg (7 : Int32)) ((m 69 (Int32.toNatClampNeg (7 : Int32))) + (1 : Int32))) 102 (Int32.toNatClampNeg x0) ((1 : Int32) + x1)) 103 (Int32.toNatClampNeg x0) x2) 94 (Int32.toNatClampNeg x0)))) rfl ?_
  refine it_V.call it_cd258 it_m258 rfl it_m257 [(.ref 66), (.int x0), (.int (2 : Int32)), (.int x1)] [] rfl rfl ⟨Nat.le_of_ble_eq_true rfl, Nat.le_of_ble_eq_true rfl, Nat.le_of_ble_eq_true rfl, Nat.le_of_ble_eq_true rfl, rfl⟩ (s_257 kc x0 (2 : Int32) x1 (it_sv (it_sv (it_sv (it_sv m 69 (Int32.toNatClampNeg (7 : Int32)) ((m 69 (Int32.toNatClampNeg (7 : Int32))) + (1 : Int32))) 102 (Int32.toNatClampNeg x0) ((1 : Int32) + x1)) 103 (Int32.toNatClampNeg x0) x2) 104 (Int32.toNatClampNeg x0) ((it_sv (it_sv (it_sv m 69 (Int32.toNatClampNeg (7 : Int32)) ((m 69 (Int32.toNatClampNeg (7 : Int32))) + (1 : Int32))) 102 (Int32.toNatClampNeg x0) ((1 : Int32) + x1)) 103 (Int32.toNatClampNeg x0) x2) 94 (Int32.toNatClampNeg x0))) _ h) ?_
  rintro _ m7 ⟨rfl, h⟩
  refine it_V.at (pc1 := 46) (ls1 := [some (.ref 66), some (.int x0), some (.int x1), some (.int x2)]) (st1 := []) (mem1 := m7) rfl rfl rfl rfl ?_
  refine it_V.sN it_cd258 it_m258 3 (pc1 := 51) (ls1 := [some (.ref 66), some (.int x0), some (.int x1), some (.int x2)]) (st1 := [(.int x0), (.ref 100)]) (mem1 := m7) rfl ?_
  obtain ⟨g8, h⟩ := h
  refine it_V.iald it_cd258 it_m258 rfl ((⟨rfl, by decide⟩ : it_isR 100 8)).2 ((⟨rfl, by decide⟩ : it_isR 100 8)).1 g8 ?_
  refine it_V.at (pc1 := 52) (ls1 := [some (.ref 66), some (.int x0), some (.int x1), some (.int x2)]) (st1 := [(.int (m7 100 (Int32.toNatClampNeg x0)))]) (mem1 := m7) rfl rfl rfl rfl ?_
  refine it_V.sN it_cd258 it_m258 3 (pc1 := (if (m7 66 9) ≤ (m7 100 (Int32.toNatClampNeg x0)) then 67 else 59)) (ls1 := [some (.ref 66), some (.int x0), some (.int x1), some (.int x2)]) (st1 := []) (mem1 := m7) rfl ?_
  refine it_V.ite (fun c9 => ?_) (fun c9 => ?_)
  · have h := h.1 c9
    refine it_V.sN it_cd258 it_m258 3 (pc1 := 70) (ls1 := [some (.ref 66), some (.int x0), some (.int x1), some (.int x2)]) (st1 := [(.int (5 : Int32)), (.int x0), (.ref 66)]) (mem1 := m7) rfl ?_
    refine it_V.call it_cd258 it_m258 rfl it_m256 [(.ref 66), (.int x0), (.int (5 : Int32))] [] rfl rfl ⟨Nat.le_of_ble_eq_true rfl, Nat.le_of_ble_eq_true rfl, Nat.le_of_ble_eq_true rfl, Nat.le_of_ble_eq_true rfl, rfl⟩ (s_256 kc x0 (5 : Int32) m7 _ h) ?_
    rintro _ m10 ⟨rfl, h⟩
    refine it_V.at (pc1 := 73) (ls1 := [some (.ref 66), some (.int x0), some (.int x1), some (.int x2)]) (st1 := []) (mem1 := m10) rfl rfl rfl rfl ?_
    refine it_V.weak (l := [none, none, none, none]) trivial ?_
    exact s_258_73 kc Φ m10 h
  · have h := h.2 c9
    refine it_V.sN it_cd258 it_m258 2 (pc1 := 61) (ls1 := [some (.ref 66), some (.int x0), some (.int x1), some (.int x2)]) (st1 := [(.int x0), (.ref 66)]) (mem1 := m7) rfl ?_
    refine it_V.call it_cd258 it_m258 rfl it_m255 [(.ref 66), (.int x0)] [] rfl rfl ⟨Nat.le_of_ble_eq_true rfl, Nat.le_of_ble_eq_true rfl, Nat.le_of_ble_eq_true rfl, Nat.le_of_ble_eq_true rfl, rfl⟩ (s_255 kc x0 m7 _ h) ?_
    rintro _ m11 ⟨rfl, h⟩
    refine it_V.at (pc1 := 64) (ls1 := [some (.ref 66), some (.int x0), some (.int x1), some (.int x2)]) (st1 := []) (mem1 := m11) rfl rfl rfl rfl ?_
    refine it_V.sN it_cd258 it_m258 1 (pc1 := 73) (ls1 := [some (.ref 66), some (.int x0), some (.int x1), some (.int x2)]) (st1 := []) (mem1 := m11) rfl ?_
    refine it_V.weak (l := [none, none, none, none]) trivial ?_
    exact s_258_73 kc Φ m11 h
set_option maxRecDepth 100000 in
set_option maxHeartbeats 4000000 in
theorem s_259_79 (kc : it_Kc) (Φ : Int32 → it_Me → Prop) (u0 : Int32) (m : it_Me) (h : w_259_79 kc Φ u0 m) : it_V kc it_sh0 259 79 [none, none, none, none, none, none, none, none, none] [(.int u0)] m (it_Pi Φ) := by
  rw [w_259_79] at h
  exact it_V.retZ it_cd259 it_m259 rfl rfl h.1 ⟨_, rfl, h.2⟩
set_option maxRecDepth 100000 in
set_option maxHeartbeats 4000000 in
theorem s_259_78 (kc : it_Kc) (Φ : Int32 → it_Me → Prop) (m : it_Me) (h : w_259_78 kc Φ m) : it_V kc it_sh0 259 78 [none, none, none, none, none, none, none, none, none] [] m (it_Pi Φ) := by
  rw [w_259_78] at h
  refine it_V.sN it_cd259 it_m259 1 (pc1 := 79) (ls1 := [none, none, none, none, none, none, none, none, none]) (st1 := [(.int (0 : Int32))]) (mem1 := m) rfl ?_
  refine it_V.weak (l := [none, none, none, none, none, none, none, none, none]) trivial ?_
  exact s_259_79 kc Φ (0 : Int32) m h
set_option maxRecDepth 100000 in
set_option maxHeartbeats 4000000 in
theorem s_259_122 (kc : it_Kc) (Φ : Int32 → it_Me → Prop) (u0 : Int32) (m : it_Me) (h : w_259_122 kc Φ u0 m) : it_V kc it_sh0 259 122 [none, none, none, none, none, none, none, none, none] [(.int u0)] m (it_Pi Φ) := by
  rw [w_259_122] at h
  exact it_V.retZ it_cd259 it_m259 rfl rfl h.1 ⟨_, rfl, h.2⟩
set_option maxRecDepth 100000 in
set_option maxHeartbeats 4000000 in
theorem s_259_121 (kc : it_Kc) (Φ : Int32 → it_Me → Prop) (m : it_Me) (h : w_259_121 kc Φ m) : it_V kc it_sh0 259 121 [none, none, none, none, none, none, none, none, none] [] m (it_Pi Φ) := by
  rw [w_259_121] at h
  refine it_V.sN it_cd259 it_m259 1 (pc1 := 122) (ls1 := [none, none, none, none, none, none, none, none, none]) (st1 := [(.int (0 : Int32))]) (mem1 := m) rfl ?_
  refine it_V.weak (l := [none, none, none, none, none, none, none, none, none]) trivial ?_
  exact s_259_122 kc Φ (0 : Int32) m h
set_option maxRecDepth 100000 in
set_option maxHeartbeats 4000000 in
theorem s_259_80 (kc : it_Kc) (Φ : Int32 → it_Me → Prop) (v1 : Int32) (v3 : Int32) (v4 : Int32) (v5 : Int64) (m : it_Me) (h : w_259_80 kc Φ v1 v3 v4 v5 m) : it_V kc it_sh0 259 80 [some (.ref 66), some (.int v1), none, some (.int v3), some (.int v4), some (.long v5), none, none, none] [] m (it_Pi Φ) := by
  rw [w_259_80] at h
  refine it_V.sN it_cd259 it_m259 4 (pc1 := 87) (ls1 := [some (.ref 66), some (.int v1), none, some (.int v3), some (.int v4), some (.long v5), none, none, none]) (st1 := [(.int v1), (.ref 89), (.long v5)]) (mem1 := m) rfl ?_
  obtain ⟨g1, h⟩ := h
  refine it_V.iald it_cd259 it_m259 rfl ((⟨rfl, by decide⟩ : it_isR 89 8)).2 ((⟨rfl, by decide⟩ : it_isR 89 8)).1 g1 ?_
  refine it_V.at (pc1 := 88) (ls1 := [some (.ref 66), some (.int v1), none, some (.int v3), some (.int v4), some (.long v5), none, none, none]) (st1 := [(.int (m 89 (Int32.toNatClampNeg v1))), (.long v5)]) (mem1 := m) rfl rfl rfl rfl ?_
  refine it_V.sN it_cd259 it_m259 3 (pc1 := (if (lg_cmp v5 (Int32.toInt64 (m 89 (Int32.toNatClampNeg v1)))) < 0 then 121 else 93)) (ls1 := [some (.ref 66), some (.int v1), none, some (.int v3), some (.int v4), some (.long v5), none, none, none]) (st1 := []) (mem1 := m) rfl ?_
  refine it_V.ite (fun c2 => ?_) (fun c2 => ?_)
  · have h := h.1 c2
    refine it_V.weak (l := [none, none, none, none, none, none, none, none, none]) trivial ?_
    exact s_259_121 kc Φ m h
  · have h := h.2 c2
    refine it_V.sN it_cd259 it_m259 7 (pc1 := 103) (ls1 := [some (.ref 66), some (.int v1), none, some (.int v3), some (.int v4), some (.long v5), none, none, none]) (st1 := [(.int v1), (.ref 91), (.long (v5 + (Int32.toInt64 v3)))]) (mem1 := m) rfl ?_
    obtain ⟨g3, h⟩ := h
    refine it_V.iald it_cd259 it_m259 rfl ((⟨rfl, by decide⟩ : it_isR 91 8)).2 ((⟨rfl, by decide⟩ : it_isR 91 8)).1 g3 ?_
    refine it_V.at (pc1 := 104) (ls1 := [some (.ref 66), some (.int v1), none, some (.int v3), some (.int v4), some (.long v5), none, none, none]) (st1 := [(.int (m 91 (Int32.toNatClampNeg v1))), (.long (v5 + (Int32.toInt64 v3)))]) (mem1 := m) rfl rfl rfl rfl ?_
    refine it_V.sN it_cd259 it_m259 3 (pc1 := (if 0 < (lg_cmp (v5 + (Int32.toInt64 v3)) (Int32.toInt64 (m 91 (Int32.toNatClampNeg v1)))) then 121 else 109)) (ls1 := [some (.ref 66), some (.int v1), none, some (.int v3), some (.int v4), some (.long v5), none, none, none]) (st1 := []) (mem1 := m) rfl ?_
    refine it_V.ite (fun c4 => ?_) (fun c4 => ?_)
    · have h := h.1 c4
      refine it_V.weak (l := [none, none, none, none, none, none, none, none, none]) trivial ?_
      exact s_259_121 kc Φ m h
    · have h := h.2 c4
      refine it_V.sN it_cd259 it_m259 4 (pc1 := (if (v4 &&& (-4 : Int32)) = 0 then 117 else 121)) (ls1 := [some (.ref 66), some (.int v1), none, some (.int v3), some (.int v4), some (.long v5), none, none, none]) (st1 := []) (mem1 := m) rfl ?_
      refine it_V.ite (fun c5 => ?_) (fun c5 => ?_)
      · have h := h.1 c5
        refine it_V.sN it_cd259 it_m259 2 (pc1 := 122) (ls1 := [some (.ref 66), some (.int v1), none, some (.int v3), some (.int v4), some (.long v5), none, none, none]) (st1 := [(.int (1 : Int32))]) (mem1 := m) rfl ?_
        refine it_V.weak (l := [none, none, none, none, none, none, none, none, none]) trivial ?_
        exact s_259_122 kc Φ (1 : Int32) m h
      · have h := h.2 c5
        refine it_V.weak (l := [none, none, none, none, none, none, none, none, none]) trivial ?_
        exact s_259_121 kc Φ m h
set_option maxRecDepth 100000 in
set_option maxHeartbeats 4000000 in
theorem s_259 (kc : it_Kc) (x0 : Int32) (x1 : Int32) (x2 : Int32) (x3 : Int32) (m : it_Me) (Φ : Int32 → it_Me → Prop) (h : w_259 kc x0 x1 x2 x3 m Φ) : it_V kc it_sh0 259 0 (it_loc0 [(.ref 66), (.int x0), (.int x1), (.int x2), (.int x3)] 9) [] m (it_Pi Φ) := by
  rw [w_259] at h
  refine it_V.at (pc1 := 0) (ls1 := [some (.ref 66), some (.int x0), some (.int x1), some (.int x2), some (.int x3), none, none, none, none]) (st1 := []) (mem1 := m) rfl rfl rfl rfl ?_
  refine it_V.sN it_cd259 it_m259 8 (pc1 := 13) (ls1 := [some (.ref 66), some (.int x0), some (.int x1), some (.int x2), some (.int x3), some (.long ((Int32.toInt64 x1) &&& (4294967295 : Int64))), none, none, none]) (st1 := [(.int x0), (.ref 79)]) (mem1 := m) rfl ?_
  obtain ⟨g1, h⟩ := h
  refine it_V.iald it_cd259 it_m259 rfl ((⟨rfl, by decide⟩ : it_isR 79 8)).2 ((⟨rfl, by decide⟩ : it_isR 79 8)).1 g1 ?_
  refine it_V.at (pc1 := 14) (ls1 := [some (.ref 66), some (.int x0), some (.int x1), some (.int x2), some (.int x3), some (.long ((Int32.toInt64 x1) &&& (4294967295 : Int64))), none, none, none]) (st1 := [(.int (m 79 (Int32.toNatClampNeg x0)))]) (mem1 := m) rfl rfl rfl rfl ?_
  refine it_V.sN it_cd259 it_m259 4 (pc1 := 21) (ls1 := [some (.ref 66), some (.int x0), some (.int x1), some (.int x2), some (.int x3), some (.long ((Int32.toInt64 x1) &&& (4294967295 : Int64))), none, some (.int (m 79 (Int32.toNatClampNeg x0))), none]) (st1 := [(.int x0), (.ref 80)]) (mem1 := m) rfl ?_
  obtain ⟨g2, h⟩ := h
  refine it_V.iald it_cd259 it_m259 rfl ((⟨rfl, by decide⟩ : it_isR 80 8)).2 ((⟨rfl, by decide⟩ : it_isR 80 8)).1 g2 ?_
  refine it_V.at (pc1 := 22) (ls1 := [some (.ref 66), some (.int x0), some (.int x1), some (.int x2), some (.int x3), some (.long ((Int32.toInt64 x1) &&& (4294967295 : Int64))), none, some (.int (m 79 (Int32.toNatClampNeg x0))), none]) (st1 := [(.int (m 80 (Int32.toNatClampNeg x0)))]) (mem1 := m) rfl rfl rfl rfl ?_
  refine it_V.sN it_cd259 it_m259 6 (pc1 := (if 0 ≤ (lg_cmp ((Int32.toInt64 x1) &&& (4294967295 : Int64)) (Int32.toInt64 (m 80 (Int32.toNatClampNeg x0)))) then 80 else 33)) (ls1 := [some (.ref 66), some (.int x0), some (.int x1), some (.int x2), some (.int x3), some (.long ((Int32.toInt64 x1) &&& (4294967295 : Int64))), none, some (.int (m 79 (Int32.toNatClampNeg x0))), some (.int (m 80 (Int32.toNatClampNeg x0)))]) (st1 := []) (mem1 := m) rfl ?_
  refine it_V.ite (fun c3 => ?_) (fun c3 => ?_)
  · have h := h.1 c3
    refine it_V.weak (l := [some (.ref 66), some (.int x0), none, some (.int x2), some (.int x3), some (.long ((Int32.toInt64 x1) &&& (4294967295 : Int64))), none, none, none]) ⟨rfl, ⟨rfl, ⟨rfl, ⟨rfl, ⟨rfl, trivial⟩⟩⟩⟩⟩ ?_
    exact s_259_80 kc Φ x0 x2 x3 ((Int32.toInt64 x1) &&& (4294967295 : Int64)) m h
  · have h := h.2 c3
    refine it_V.sN it_cd259 it_m259 8 (pc1 := (if (lg_cmp (((Int32.toInt64 x1) &&& (4294967295 : Int64)) + (Int32.toInt64 x2)) (Int32.toInt64 (m 79 (Int32.toNatClampNeg x0)))) ≤ 0 then 80 else 45)) (ls1 := [some (.ref 66), some (.int x0), some (.int x1), some (.int x2), some (.int x3), some (.long ((Int32.toInt64 x1) &&& (4294967295 : Int64))), none, some (.int (m 79 (Int32.toNatClampNeg x0))), some (.int (m 80 (Int32.toNatClampNeg x0)))]) (st1 := []) (mem1 := m) rfl ?_
    refine it_V.ite (fun c4 => ?_) (fun c4 => ?_)
    · have h := h.1 c4
      refine it_V.weak (l := [some (.ref 66), some (.int x0), none, some (.int x2), some (.int x3), some (.long ((Int32.toInt64 x1) &&& (4294967295 : Int64))), none, none, none]) ⟨rfl, ⟨rfl, ⟨rfl, ⟨rfl, ⟨rfl, trivial⟩⟩⟩⟩⟩ ?_
      exact s_259_80 kc Φ x0 x2 x3 ((Int32.toInt64 x1) &&& (4294967295 : Int64)) m h
    · have h := h.2 c4
      refine it_V.sN it_cd259 it_m259 5 (pc1 := (if (lg_cmp ((Int32.toInt64 x1) &&& (4294967295 : Int64)) (Int32.toInt64 (m 79 (Int32.toNatClampNeg x0)))) < 0 then 78 else 54)) (ls1 := [some (.ref 66), some (.int x0), some (.int x1), some (.int x2), some (.int x3), some (.long ((Int32.toInt64 x1) &&& (4294967295 : Int64))), none, some (.int (m 79 (Int32.toNatClampNeg x0))), some (.int (m 80 (Int32.toNatClampNeg x0)))]) (st1 := []) (mem1 := m) rfl ?_
      refine it_V.ite (fun c5 => ?_) (fun c5 => ?_)
      · have h := h.1 c5
        refine it_V.weak (l := [none, none, none, none, none, none, none, none, none]) trivial ?_
        exact s_259_78 kc Φ m h
      · have h := h.2 c5
        refine it_V.sN it_cd259 it_m259 8 (pc1 := (if 0 < (lg_cmp (((Int32.toInt64 x1) &&& (4294967295 : Int64)) + (Int32.toInt64 x2)) (Int32.toInt64 (m 80 (Int32.toNatClampNeg x0)))) then 78 else 66)) (ls1 := [some (.ref 66), some (.int x0), some (.int x1), some (.int x2), some (.int x3), some (.long ((Int32.toInt64 x1) &&& (4294967295 : Int64))), none, some (.int (m 79 (Int32.toNatClampNeg x0))), some (.int (m 80 (Int32.toNatClampNeg x0)))]) (st1 := []) (mem1 := m) rfl ?_
        refine it_V.ite (fun c6 => ?_) (fun c6 => ?_)
        · have h := h.1 c6
          refine it_V.weak (l := [none, none, none, none, none, none, none, none, none]) trivial ?_
          exact s_259_78 kc Φ m h
        · have h := h.2 c6
          refine it_V.sN it_cd259 it_m259 4 (pc1 := (if (x3 &&& (-6 : Int32)) = 0 then 74 else 78)) (ls1 := [some (.ref 66), some (.int x0), some (.int x1), some (.int x2), some (.int x3), some (.long ((Int32.toInt64 x1) &&& (4294967295 : Int64))), none, some (.int (m 79 (Int32.toNatClampNeg x0))), some (.int (m 80 (Int32.toNatClampNeg x0)))]) (st1 := []) (mem1 := m) rfl ?_
          refine it_V.ite (fun c7 => ?_) (fun c7 => ?_)
          · have h := h.1 c7
            refine it_V.sN it_cd259 it_m259 2 (pc1 := 79) (ls1 := [some (.ref 66), some (.int x0), some (.int x1), some (.int x2), some (.int x3), some (.long ((Int32.toInt64 x1) &&& (4294967295 : Int64))), none, some (.int (m 79 (Int32.toNatClampNeg x0))), some (.int (m 80 (Int32.toNatClampNeg x0)))]) (st1 := [(.int (1 : Int32))]) (mem1 := m) rfl ?_
            refine it_V.weak (l := [none, none, none, none, none, none, none, none, none]) trivial ?_
            exact s_259_79 kc Φ (1 : Int32) m h
          · have h := h.2 c7
            refine it_V.weak (l := [none, none, none, none, none, none, none, none, none]) trivial ?_
            exact s_259_78 kc Φ m h
set_option maxRecDepth 100000 in
set_option maxHeartbeats 4000000 in
theorem s_260_32 (kc : it_Kc) (Φ : Int32 → it_Me → Prop) (u0 : Int32) (m : it_Me) (h : w_260_32 kc Φ u0 m) : it_V kc it_sh0 260 32 [none, none, none, none, none, none] [(.int u0)] m (it_Pi Φ) := by
  rw [w_260_32] at h
  exact it_V.retZ it_cd260 it_m260 rfl rfl h.1 ⟨_, rfl, h.2⟩
set_option maxRecDepth 100000 in
set_option maxHeartbeats 4000000 in
theorem s_260_31 (kc : it_Kc) (Φ : Int32 → it_Me → Prop) (m : it_Me) (h : w_260_31 kc Φ m) : it_V kc it_sh0 260 31 [none, none, none, none, none, none] [] m (it_Pi Φ) := by
  rw [w_260_31] at h
  refine it_V.sN it_cd260 it_m260 1 (pc1 := 32) (ls1 := [none, none, none, none, none, none]) (st1 := [(.int (0 : Int32))]) (mem1 := m) rfl ?_
  refine it_V.weak (l := [none, none, none, none, none, none]) trivial ?_
  exact s_260_32 kc Φ (0 : Int32) m h
set_option maxRecDepth 100000 in
set_option maxHeartbeats 4000000 in
theorem s_260 (kc : it_Kc) (x0 : Int32) (x1 : Int64) (x2 : Int64) (m : it_Me) (Φ : Int32 → it_Me → Prop) (h : w_260 kc x0 x1 x2 m Φ) : it_V kc it_sh0 260 0 (it_loc0 [(.ref 66), (.int x0), (.long x1), (.long x2)] 6) [] m (it_Pi Φ) := by
  rw [w_260] at h
  refine it_V.at (pc1 := 0) (ls1 := [some (.ref 66), some (.int x0), some (.long x1), none, some (.long x2), none]) (st1 := []) (mem1 := m) rfl rfl rfl rfl ?_
  refine it_V.sN it_cd260 it_m260 4 (pc1 := 6) (ls1 := [some (.ref 66), some (.int x0), some (.long x1), none, some (.long x2), none]) (st1 := [(.int x0), (.ref 89), (.long x1)]) (mem1 := m) rfl ?_
  obtain ⟨g1, h⟩ := h
  refine it_V.iald it_cd260 it_m260 rfl ((⟨rfl, by decide⟩ : it_isR 89 8)).2 ((⟨rfl, by decide⟩ : it_isR 89 8)).1 g1 ?_
  refine it_V.at (pc1 := 7) (ls1 := [some (.ref 66), some (.int x0), some (.long x1), none, some (.long x2), none]) (st1 := [(.int (m 89 (Int32.toNatClampNeg x0))), (.long x1)]) (mem1 := m) rfl rfl rfl rfl ?_
  refine it_V.sN it_cd260 it_m260 3 (pc1 := (if (lg_cmp x1 (Int32.toInt64 (m 89 (Int32.toNatClampNeg x0)))) < 0 then 31 else 12)) (ls1 := [some (.ref 66), some (.int x0), some (.long x1), none, some (.long x2), none]) (st1 := []) (mem1 := m) rfl ?_
  refine it_V.ite (fun c2 => ?_) (fun c2 => ?_)
  · have h := h.1 c2
    refine it_V.weak (l := [none, none, none, none, none, none]) trivial ?_
    exact s_260_31 kc Φ m h
  · have h := h.2 c2
    refine it_V.sN it_cd260 it_m260 6 (pc1 := 21) (ls1 := [some (.ref 66), some (.int x0), some (.long x1), none, some (.long x2), none]) (st1 := [(.int x0), (.ref 91), (.long (x1 + x2))]) (mem1 := m) rfl ?_
    obtain ⟨g3, h⟩ := h
    refine it_V.iald it_cd260 it_m260 rfl ((⟨rfl, by decide⟩ : it_isR 91 8)).2 ((⟨rfl, by decide⟩ : it_isR 91 8)).1 g3 ?_
    refine it_V.at (pc1 := 22) (ls1 := [some (.ref 66), some (.int x0), some (.long x1), none, some (.long x2), none]) (st1 := [(.int (m 91 (Int32.toNatClampNeg x0))), (.long (x1 + x2))]) (mem1 := m) rfl rfl rfl rfl ?_
    refine it_V.sN it_cd260 it_m260 3 (pc1 := (if 0 < (lg_cmp (x1 + x2) (Int32.toInt64 (m 91 (Int32.toNatClampNeg x0)))) then 31 else 27)) (ls1 := [some (.ref 66), some (.int x0), some (.long x1), none, some (.long x2), none]) (st1 := []) (mem1 := m) rfl ?_
    refine it_V.ite (fun c4 => ?_) (fun c4 => ?_)
    · have h := h.1 c4
      refine it_V.weak (l := [none, none, none, none, none, none]) trivial ?_
      exact s_260_31 kc Φ m h
    · have h := h.2 c4
      refine it_V.sN it_cd260 it_m260 2 (pc1 := 32) (ls1 := [some (.ref 66), some (.int x0), some (.long x1), none, some (.long x2), none]) (st1 := [(.int (1 : Int32))]) (mem1 := m) rfl ?_
      refine it_V.weak (l := [none, none, none, none, none, none]) trivial ?_
      exact s_260_32 kc Φ (1 : Int32) m h
set_option maxRecDepth 100000 in
set_option maxHeartbeats 4000000 in
theorem s_261_32 (kc : it_Kc) (Φ : Int32 → it_Me → Prop) (u0 : Int32) (m : it_Me) (h : w_261_32 kc Φ u0 m) : it_V kc it_sh0 261 32 [none, none, none, none, none, none] [(.int u0)] m (it_Pi Φ) := by
  rw [w_261_32] at h
  exact it_V.retZ it_cd261 it_m261 rfl rfl h.1 ⟨_, rfl, h.2⟩
set_option maxRecDepth 100000 in
set_option maxHeartbeats 4000000 in
theorem s_261_31 (kc : it_Kc) (Φ : Int32 → it_Me → Prop) (m : it_Me) (h : w_261_31 kc Φ m) : it_V kc it_sh0 261 31 [none, none, none, none, none, none] [] m (it_Pi Φ) := by
  rw [w_261_31] at h
  refine it_V.sN it_cd261 it_m261 1 (pc1 := 32) (ls1 := [none, none, none, none, none, none]) (st1 := [(.int (0 : Int32))]) (mem1 := m) rfl ?_
  refine it_V.weak (l := [none, none, none, none, none, none]) trivial ?_
  exact s_261_32 kc Φ (0 : Int32) m h
set_option maxRecDepth 100000 in
set_option maxHeartbeats 4000000 in
theorem s_261 (kc : it_Kc) (x0 : Int32) (x1 : Int64) (x2 : Int64) (m : it_Me) (Φ : Int32 → it_Me → Prop) (h : w_261 kc x0 x1 x2 m Φ) : it_V kc it_sh0 261 0 (it_loc0 [(.ref 66), (.int x0), (.long x1), (.long x2)] 6) [] m (it_Pi Φ) := by
  rw [w_261] at h
  refine it_V.at (pc1 := 0) (ls1 := [some (.ref 66), some (.int x0), some (.long x1), none, some (.long x2), none]) (st1 := []) (mem1 := m) rfl rfl rfl rfl ?_
  refine it_V.sN it_cd261 it_m261 4 (pc1 := 6) (ls1 := [some (.ref 66), some (.int x0), some (.long x1), none, some (.long x2), none]) (st1 := [(.int x0), (.ref 79), (.long x1)]) (mem1 := m) rfl ?_
  obtain ⟨g1, h⟩ := h
  refine it_V.iald it_cd261 it_m261 rfl ((⟨rfl, by decide⟩ : it_isR 79 8)).2 ((⟨rfl, by decide⟩ : it_isR 79 8)).1 g1 ?_
  refine it_V.at (pc1 := 7) (ls1 := [some (.ref 66), some (.int x0), some (.long x1), none, some (.long x2), none]) (st1 := [(.int (m 79 (Int32.toNatClampNeg x0))), (.long x1)]) (mem1 := m) rfl rfl rfl rfl ?_
  refine it_V.sN it_cd261 it_m261 3 (pc1 := (if (lg_cmp x1 (Int32.toInt64 (m 79 (Int32.toNatClampNeg x0)))) < 0 then 31 else 12)) (ls1 := [some (.ref 66), some (.int x0), some (.long x1), none, some (.long x2), none]) (st1 := []) (mem1 := m) rfl ?_
  refine it_V.ite (fun c2 => ?_) (fun c2 => ?_)
  · have h := h.1 c2
    refine it_V.weak (l := [none, none, none, none, none, none]) trivial ?_
    exact s_261_31 kc Φ m h
  · have h := h.2 c2
    refine it_V.sN it_cd261 it_m261 6 (pc1 := 21) (ls1 := [some (.ref 66), some (.int x0), some (.long x1), none, some (.long x2), none]) (st1 := [(.int x0), (.ref 80), (.long (x1 + x2))]) (mem1 := m) rfl ?_
    obtain ⟨g3, h⟩ := h
    refine it_V.iald it_cd261 it_m261 rfl ((⟨rfl, by decide⟩ : it_isR 80 8)).2 ((⟨rfl, by decide⟩ : it_isR 80 8)).1 g3 ?_
    refine it_V.at (pc1 := 22) (ls1 := [some (.ref 66), some (.int x0), some (.long x1), none, some (.long x2), none]) (st1 := [(.int (m 80 (Int32.toNatClampNeg x0))), (.long (x1 + x2))]) (mem1 := m) rfl rfl rfl rfl ?_
    refine it_V.sN it_cd261 it_m261 3 (pc1 := (if 0 < (lg_cmp (x1 + x2) (Int32.toInt64 (m 80 (Int32.toNatClampNeg x0)))) then 31 else 27)) (ls1 := [some (.ref 66), some (.int x0), some (.long x1), none, some (.long x2), none]) (st1 := []) (mem1 := m) rfl ?_
    refine it_V.ite (fun c4 => ?_) (fun c4 => ?_)
    · have h := h.1 c4
      refine it_V.weak (l := [none, none, none, none, none, none]) trivial ?_
      exact s_261_31 kc Φ m h
    · have h := h.2 c4
      refine it_V.sN it_cd261 it_m261 2 (pc1 := 32) (ls1 := [some (.ref 66), some (.int x0), some (.long x1), none, some (.long x2), none]) (st1 := [(.int (1 : Int32))]) (mem1 := m) rfl ?_
      refine it_V.weak (l := [none, none, none, none, none, none]) trivial ?_
      exact s_261_32 kc Φ (1 : Int32) m h
set_option maxRecDepth 100000 in
set_option maxHeartbeats 4000000 in
theorem s_262_13 (kc : it_Kc) (Φ : Int32 → it_Me → Prop) (u0 : Int32) (m : it_Me) (h : w_262_13 kc Φ u0 m) : it_V kc it_sh0 262 13 [none] [(.int u0)] m (it_Pi Φ) := by
  rw [w_262_13] at h
  exact it_V.retZ it_cd262 it_m262 rfl rfl h.1 ⟨_, rfl, h.2⟩
set_option maxRecDepth 100000 in
set_option maxHeartbeats 4000000 in
theorem s_262 (kc : it_Kc) (x0 : Int32) (m : it_Me) (Φ : Int32 → it_Me → Prop) (h : w_262 kc x0 m Φ) : it_V kc it_sh0 262 0 (it_loc0 [(.int x0)] 1) [] m (it_Pi Φ) := by
  rw [w_262] at h
  refine it_V.at (pc1 := 0) (ls1 := [some (.int x0)]) (st1 := []) (mem1 := m) rfl rfl rfl rfl ?_
  refine it_V.sN it_cd262 it_m262 6 (pc1 := (if (x0 &&& (x0 - (1 : Int32))) = 0 then 8 else 12)) (ls1 := [some (.int x0)]) (st1 := []) (mem1 := m) rfl ?_
  refine it_V.ite (fun c1 => ?_) (fun c1 => ?_)
  · have h := h.1 c1
    refine it_V.sN it_cd262 it_m262 2 (pc1 := 13) (ls1 := [some (.int x0)]) (st1 := [(.int (1 : Int32))]) (mem1 := m) rfl ?_
    refine it_V.weak (l := [none]) trivial ?_
    exact s_262_13 kc Φ (1 : Int32) m h
  · have h := h.2 c1
    refine it_V.sN it_cd262 it_m262 1 (pc1 := 13) (ls1 := [some (.int x0)]) (st1 := [(.int (0 : Int32))]) (mem1 := m) rfl ?_
    refine it_V.weak (l := [none]) trivial ?_
    exact s_262_13 kc Φ (0 : Int32) m h
set_option maxRecDepth 100000 in
set_option maxHeartbeats 4000000 in
theorem s_341_17 (kc : it_Kc) (Φ : Int32 → it_Me → Prop) (u0 : Int32) (m : it_Me) (h : w_341_17 kc Φ u0 m) : it_V kc it_sh0 341 17 [none, none] [(.int u0)] m (it_Pi Φ) := by
  rw [w_341_17] at h
  exact it_V.retZ it_cd341 it_m341 rfl rfl h.1 ⟨_, rfl, h.2⟩
set_option maxRecDepth 100000 in
set_option maxHeartbeats 4000000 in
theorem s_341_16 (kc : it_Kc) (Φ : Int32 → it_Me → Prop) (m : it_Me) (h : w_341_16 kc Φ m) : it_V kc it_sh0 341 16 [none, none] [] m (it_Pi Φ) := by
  rw [w_341_16] at h
  refine it_V.sN it_cd341 it_m341 1 (pc1 := 17) (ls1 := [none, none]) (st1 := [(.int (0 : Int32))]) (mem1 := m) rfl ?_
  refine it_V.weak (l := [none, none]) trivial ?_
  exact s_341_17 kc Φ (0 : Int32) m h
set_option maxRecDepth 100000 in
set_option maxHeartbeats 4000000 in
theorem s_341 (kc : it_Kc) (x0 : Int32) (m : it_Me) (Φ : Int32 → it_Me → Prop) (h : w_341 kc x0 m Φ) : it_V kc it_sh0 341 0 (it_loc0 [(.ref 66), (.int x0)] 2) [] m (it_Pi Φ) := by
  rw [w_341] at h
  refine it_V.at (pc1 := 0) (ls1 := [some (.ref 66), some (.int x0)]) (st1 := []) (mem1 := m) rfl rfl rfl rfl ?_
  refine it_V.sN it_cd341 it_m341 2 (pc1 := (if x0 < 0 then 16 else 4)) (ls1 := [some (.ref 66), some (.int x0)]) (st1 := []) (mem1 := m) rfl ?_
  refine it_V.ite (fun c1 => ?_) (fun c1 => ?_)
  · have h := h.1 c1
    refine it_V.weak (l := [none, none]) trivial ?_
    exact s_341_16 kc Φ m h
  · have h := h.2 c1
    refine it_V.sN it_cd341 it_m341 4 (pc1 := (if (m 66 34) ≤ x0 then 16 else 12)) (ls1 := [some (.ref 66), some (.int x0)]) (st1 := []) (mem1 := m) rfl ?_
    refine it_V.ite (fun c2 => ?_) (fun c2 => ?_)
    · have h := h.1 c2
      refine it_V.weak (l := [none, none]) trivial ?_
      exact s_341_16 kc Φ m h
    · have h := h.2 c2
      refine it_V.sN it_cd341 it_m341 2 (pc1 := 17) (ls1 := [some (.ref 66), some (.int x0)]) (st1 := [(.int (1 : Int32))]) (mem1 := m) rfl ?_
      refine it_V.weak (l := [none, none]) trivial ?_
      exact s_341_17 kc Φ (1 : Int32) m h
set_option maxRecDepth 100000 in
set_option maxHeartbeats 4000000 in
theorem s_263_256 (kc : it_Kc) (Φ : Int32 → it_Me → Prop) (K48 : Int32 → Int32 → Int32 → Int32 → Int32 → it_Me → Prop) (K143 : Int32 → Int32 → Int32 → Int32 → it_Me → Prop) (K212 : Int32 → Int32 → it_Me → Prop) (K233 : Int32 → Int32 → Int32 → Int32 → it_Me → Prop) (K262 : it_Me → Prop) (hK48 : ∀ (v1 : Int32) (v2 : Int32) (v3 : Int32) (v4 : Int32) (v5 : Int32) (m : it_Me), K48 v1 v2 v3 v4 v5 m → it_V kc it_sh0 263 48 [some (.ref 66), some (.int v1), some (.int v2), some (.int v3), some (.int v4), some (.int v5), none, none, none, none] [] m (it_Pi Φ)) (hK143 : ∀ (v3 : Int32) (v6 : Int32) (v7 : Int32) (v8 : Int32) (m : it_Me), K143 v3 v6 v7 v8 m → it_V kc it_sh0 263 143 [none, none, none, some (.int v3), none, none, some (.int v6), some (.int v7), some (.int v8), none] [] m (it_Pi Φ)) (hK212 : ∀ (v3 : Int32) (v6 : Int32) (m : it_Me), K212 v3 v6 m → it_V kc it_sh0 263 212 [none, none, none, some (.int v3), none, none, some (.int v6), none, none, none] [] m (it_Pi Φ)) (hK233 : ∀ (v3 : Int32) (v6 : Int32) (v7 : Int32) (v8 : Int32) (m : it_Me), K233 v3 v6 v7 v8 m → it_V kc it_sh0 263 233 [none, none, none, some (.int v3), none, none, some (.int v6), some (.int v7), some (.int v8), none] [] m (it_Pi Φ)) (hK262 : ∀ (m : it_Me), K262 m → it_V kc it_sh0 263 262 [none, none, none, none, none, none, none, none, none, none] [] m (it_Pi Φ)) (v1 : Int32) (v2 : Int32) (v3 : Int32) (v4 : Int32) (v5 : Int32) (m : it_Me) (h : w_263_256 kc Φ K48 K143 K212 K233 K262 v1 v2 v3 v4 v5 m) : it_V kc it_sh0 263 256 [some (.ref 66), some (.int v1), some (.int v2), some (.int v3), some (.int v4), some (.int v5), none, none, none, none] [] m (it_Pi Φ) := by
  rw [w_263_256] at h
  refine it_V.sN it_cd263 it_m263 2 (pc1 := 48) (ls1 := [some (.ref 66), some (.int v1), some (.int v2), some (.int v3), some (.int v4), some (.int (v5 + (1 : Int32))), none, none, none, none]) (st1 := []) (mem1 := m) rfl ?_
  refine it_V.weak (l := [some (.ref 66), some (.int v1), some (.int v2), some (.int v3), some (.int v4), some (.int (v5 + (1 : Int32))), none, none, none, none]) ⟨rfl, ⟨rfl, ⟨rfl, ⟨rfl, ⟨rfl, ⟨rfl, trivial⟩⟩⟩⟩⟩⟩ ?_
  exact hK48 v1 v2 v3 v4 (v5 + (1 : Int32)) m h
set_option maxRecDepth 100000 in
set_option maxHeartbeats 4000000 in
theorem s_263_201 (kc : it_Kc) (Φ : Int32 → it_Me → Prop) (K48 : Int32 → Int32 → Int32 → Int32 → Int32 → it_Me → Prop) (K143 : Int32 → Int32 → Int32 → Int32 → it_Me → Prop) (K212 : Int32 → Int32 → it_Me → Prop) (K233 : Int32 → Int32 → Int32 → Int32 → it_Me → Prop) (K262 : it_Me → Prop) (hK48 : ∀ (v1 : Int32) (v2 : Int32) (v3 : Int32) (v4 : Int32) (v5 : Int32) (m : it_Me), K48 v1 v2 v3 v4 v5 m → it_V kc it_sh0 263 48 [some (.ref 66), some (.int v1), some (.int v2), some (.int v3), some (.int v4), some (.int v5), none, none, none, none] [] m (it_Pi Φ)) (hK143 : ∀ (v3 : Int32) (v6 : Int32) (v7 : Int32) (v8 : Int32) (m : it_Me), K143 v3 v6 v7 v8 m → it_V kc it_sh0 263 143 [none, none, none, some (.int v3), none, none, some (.int v6), some (.int v7), some (.int v8), none] [] m (it_Pi Φ)) (hK212 : ∀ (v3 : Int32) (v6 : Int32) (m : it_Me), K212 v3 v6 m → it_V kc it_sh0 263 212 [none, none, none, some (.int v3), none, none, some (.int v6), none, none, none] [] m (it_Pi Φ)) (hK233 : ∀ (v3 : Int32) (v6 : Int32) (v7 : Int32) (v8 : Int32) (m : it_Me), K233 v3 v6 v7 v8 m → it_V kc it_sh0 263 233 [none, none, none, some (.int v3), none, none, some (.int v6), some (.int v7), some (.int v8), none] [] m (it_Pi Φ)) (hK262 : ∀ (m : it_Me), K262 m → it_V kc it_sh0 263 262 [none, none, none, none, none, none, none, none, none, none] [] m (it_Pi Φ)) (v1 : Int32) (v2 : Int32) (v3 : Int32) (v4 : Int32) (v5 : Int32) (v6 : Int32) (v7 : Int32) (v8 : Int32) (m : it_Me) (h : w_263_201 kc Φ K48 K143 K212 K233 K262 v1 v2 v3 v4 v5 v6 v7 v8 m) : it_V kc it_sh0 263 201 [some (.ref 66), some (.int v1), some (.int v2), some (.int v3), some (.int v4), some (.int v5), some (.int v6), some (.int v7), some (.int v8), none] [] m (it_Pi Φ) := by
  rw [w_263_201] at h
  refine it_V.sN it_cd263 it_m263 2 (pc1 := (if v7 ≤ 0 then 256 else 206)) (ls1 := [some (.ref 66), some (.int v1), some (.int v2), some (.int v3), some (.int v4), some (.int v5), some (.int v6), some (.int v7), some (.int v8), none]) (st1 := []) (mem1 := m) rfl ?_
  refine it_V.ite (fun c1 => ?_) (fun c1 => ?_)
  · have h := h.1 c1
    refine it_V.weak (l := [some (.ref 66), some (.int v1), some (.int v2), some (.int v3), some (.int v4), some (.int v5), none, none, none, none]) ⟨rfl, ⟨rfl, ⟨rfl, ⟨rfl, ⟨rfl, ⟨rfl, trivial⟩⟩⟩⟩⟩⟩ ?_
    exact s_263_256 kc Φ _ _ _ _ _ hK48 hK143 hK212 hK233 hK262 v1 v2 v3 v4 v5 m h
  · have h := h.2 c1
    refine it_V.sN it_cd263 it_m263 3 (pc1 := (if v2 = v4 then 212 else 225)) (ls1 := [some (.ref 66), some (.int v1), some (.int v2), some (.int v3), some (.int v4), some (.int v5), some (.int v6), some (.int v7), some (.int v8), none]) (st1 := []) (mem1 := m) rfl ?_
    refine it_V.ite (fun c2 => ?_) (fun c2 => ?_)
    · have h := h.1 c2
      refine it_V.weak (l := [none, none, none, some (.int v3), none, none, some (.int v6), none, none, none]) ⟨rfl, ⟨rfl, trivial⟩⟩ ?_
      exact hK212 v3 v6 m h
    · have h := h.2 c2
      refine it_V.sN it_cd263 it_m263 5 (pc1 := (if v2 = (v4 + (1 : Int32)) then 233 else 253)) (ls1 := [some (.ref 66), some (.int v1), some (.int v2), some (.int v3), some (.int v4), some (.int v5), some (.int v6), some (.int v7), some (.int v8), none]) (st1 := []) (mem1 := m) rfl ?_
      refine it_V.ite (fun c3 => ?_) (fun c3 => ?_)
      · have h := h.1 c3
        refine it_V.weak (l := [none, none, none, some (.int v3), none, none, some (.int v6), some (.int v7), some (.int v8), none]) ⟨rfl, ⟨rfl, ⟨rfl, ⟨rfl, trivial⟩⟩⟩⟩ ?_
        exact hK233 v3 v6 v7 v8 m h
      · have h := h.2 c3
        refine it_V.sN it_cd263 it_m263 1 (pc1 := 256) (ls1 := [some (.ref 66), some (.int v1), some (.int v2), some (.int v3), some (.int (v4 + (2 : Int32))), some (.int v5), some (.int v6), some (.int v7), some (.int v8), none]) (st1 := []) (mem1 := m) rfl ?_
        refine it_V.weak (l := [some (.ref 66), some (.int v1), some (.int v2), some (.int v3), some (.int (v4 + (2 : Int32))), some (.int v5), none, none, none, none]) ⟨rfl, ⟨rfl, ⟨rfl, ⟨rfl, ⟨rfl, ⟨rfl, trivial⟩⟩⟩⟩⟩⟩ ?_
        exact s_263_256 kc Φ _ _ _ _ _ hK48 hK143 hK212 hK233 hK262 v1 v2 v3 (v4 + (2 : Int32)) v5 m h
set_option maxRecDepth 100000 in
set_option maxHeartbeats 4000000 in
theorem s_263_114 (kc : it_Kc) (Φ : Int32 → it_Me → Prop) (K48 : Int32 → Int32 → Int32 → Int32 → Int32 → it_Me → Prop) (K143 : Int32 → Int32 → Int32 → Int32 → it_Me → Prop) (K212 : Int32 → Int32 → it_Me → Prop) (K233 : Int32 → Int32 → Int32 → Int32 → it_Me → Prop) (K262 : it_Me → Prop) (hK48 : ∀ (v1 : Int32) (v2 : Int32) (v3 : Int32) (v4 : Int32) (v5 : Int32) (m : it_Me), K48 v1 v2 v3 v4 v5 m → it_V kc it_sh0 263 48 [some (.ref 66), some (.int v1), some (.int v2), some (.int v3), some (.int v4), some (.int v5), none, none, none, none] [] m (it_Pi Φ)) (hK143 : ∀ (v3 : Int32) (v6 : Int32) (v7 : Int32) (v8 : Int32) (m : it_Me), K143 v3 v6 v7 v8 m → it_V kc it_sh0 263 143 [none, none, none, some (.int v3), none, none, some (.int v6), some (.int v7), some (.int v8), none] [] m (it_Pi Φ)) (hK212 : ∀ (v3 : Int32) (v6 : Int32) (m : it_Me), K212 v3 v6 m → it_V kc it_sh0 263 212 [none, none, none, some (.int v3), none, none, some (.int v6), none, none, none] [] m (it_Pi Φ)) (hK233 : ∀ (v3 : Int32) (v6 : Int32) (v7 : Int32) (v8 : Int32) (m : it_Me), K233 v3 v6 v7 v8 m → it_V kc it_sh0 263 233 [none, none, none, some (.int v3), none, none, some (.int v6), some (.int v7), some (.int v8), none] [] m (it_Pi Φ)) (hK262 : ∀ (m : it_Me), K262 m → it_V kc it_sh0 263 262 [none, none, none, none, none, none, none, none, none, none] [] m (it_Pi Φ)) (v1 : Int32) (v2 : Int32) (v3 : Int32) (v4 : Int32) (v5 : Int32) (v6 : Int32) (v7 : Int32) (u0 : Int32) (m : it_Me) (h : w_263_114 kc Φ K48 K143 K212 K233 K262 v1 v2 v3 v4 v5 v6 v7 u0 m) : it_V kc it_sh0 263 114 [some (.ref 66), some (.int v1), some (.int v2), some (.int v3), some (.int v4), some (.int v5), some (.int v6), some (.int v7), none, none] [(.int u0)] m (it_Pi Φ) := by
  rw [w_263_114] at h
  refine it_V.sN it_cd263 it_m263 3 (pc1 := (if v7 ≤ 0 then 201 else 121)) (ls1 := [some (.ref 66), some (.int v1), some (.int v2), some (.int v3), some (.int v4), some (.int v5), some (.int v6), some (.int v7), some (.int u0), none]) (st1 := []) (mem1 := m) rfl ?_
  refine it_V.ite (fun c1 => ?_) (fun c1 => ?_)
  · have h := h.1 c1
    refine it_V.weak (l := [some (.ref 66), some (.int v1), some (.int v2), some (.int v3), some (.int v4), some (.int v5), some (.int v6), some (.int v7), some (.int u0), none]) ⟨rfl, ⟨rfl, ⟨rfl, ⟨rfl, ⟨rfl, ⟨rfl, ⟨rfl, ⟨rfl, ⟨rfl, trivial⟩⟩⟩⟩⟩⟩⟩⟩⟩ ?_
    exact s_263_201 kc Φ _ _ _ _ _ hK48 hK143 hK212 hK233 hK262 v1 v2 v3 v4 v5 v6 v7 u0 m h
  · have h := h.2 c1
    refine it_V.sN it_cd263 it_m263 1 (pc1 := 123) (ls1 := [some (.ref 66), some (.int v1), some (.int v2), some (.int v3), some (.int v4), some (.int v5), some (.int v6), some (.int v7), some (.int u0), none]) (st1 := [(.int v7)]) (mem1 := m) rfl ?_
    refine it_V.call it_cd263 it_m263 rfl it_m262 [(.int v7)] [] rfl rfl ⟨Nat.le_of_ble_eq_true rfl, Nat.le_of_ble_eq_true rfl, Nat.le_of_ble_eq_true rfl, Nat.le_of_ble_eq_true rfl, rfl⟩ (s_262 kc v7 m _ h) ?_
    rintro _ m3 ⟨r2, rfl, h⟩
    refine it_V.at (pc1 := 126) (ls1 := [some (.ref 66), some (.int v1), some (.int v2), some (.int v3), some (.int v4), some (.int v5), some (.int v6), some (.int v7), some (.int u0), none]) (st1 := [(.int r2)]) (mem1 := m3) rfl rfl rfl rfl ?_
    refine it_V.sN it_cd263 it_m263 1 (pc1 := (if r2 = 0 then 201 else 129)) (ls1 := [some (.ref 66), some (.int v1), some (.int v2), some (.int v3), some (.int v4), some (.int v5), some (.int v6), some (.int v7), some (.int u0), none]) (st1 := []) (mem1 := m3) rfl ?_
    refine it_V.ite (fun c4 => ?_) (fun c4 => ?_)
    · have h := h.1 c4
      refine it_V.weak (l := [some (.ref 66), some (.int v1), some (.int v2), some (.int v3), some (.int v4), some (.int v5), some (.int v6), some (.int v7), some (.int u0), none]) ⟨rfl, ⟨rfl, ⟨rfl, ⟨rfl, ⟨rfl, ⟨rfl, ⟨rfl, ⟨rfl, ⟨rfl, trivial⟩⟩⟩⟩⟩⟩⟩⟩⟩ ?_
      exact s_263_201 kc Φ _ _ _ _ _ hK48 hK143 hK212 hK233 hK262 v1 v2 v3 v4 v5 v6 v7 u0 m3 h
    · have h := h.2 c4
      refine it_V.sN it_cd263 it_m263 2 (pc1 := 133) (ls1 := [some (.ref 66), some (.int v1), some (.int v2), some (.int v3), some (.int v4), some (.int v5), some (.int v6), some (.int v7), some (.int u0), none]) (st1 := [(.int v7), (.int v6)]) (mem1 := m3) rfl ?_
      obtain ⟨g5, h⟩ := h
      refine it_V.s1 it_cd263 it_m263 (pc1 := 134) (ls1 := [some (.ref 66), some (.int v1), some (.int v2), some (.int v3), some (.int v4), some (.int v5), some (.int v6), some (.int v7), some (.int u0), none]) (st1 := [(.int (it_rem v6 v7))]) (mem1 := m3) (by simp only [it_s1, show it_lk it_c263 133 = some (0, .irem, 0, 0) from rfl, it_ops, if_neg g5]; rfl) ?_
      refine it_V.sN it_cd263 it_m263 1 (pc1 := (if (it_rem v6 v7) = 0 then 137 else 201)) (ls1 := [some (.ref 66), some (.int v1), some (.int v2), some (.int v3), some (.int v4), some (.int v5), some (.int v6), some (.int v7), some (.int u0), none]) (st1 := []) (mem1 := m3) rfl ?_
      refine it_V.ite (fun c6 => ?_) (fun c6 => ?_)
      · have h := h.1 c6
        refine it_V.sN it_cd263 it_m263 3 (pc1 := (if v2 = v4 then 143 else 195)) (ls1 := [some (.ref 66), some (.int v1), some (.int v2), some (.int v3), some (.int v4), some (.int v5), some (.int v6), some (.int v7), some (.int u0), none]) (st1 := []) (mem1 := m3) rfl ?_
        refine it_V.ite (fun c7 => ?_) (fun c7 => ?_)
        · have h := h.1 c7
          refine it_V.weak (l := [none, none, none, some (.int v3), none, none, some (.int v6), some (.int v7), some (.int u0), none]) ⟨rfl, ⟨rfl, ⟨rfl, ⟨rfl, trivial⟩⟩⟩⟩ ?_
          exact hK143 v3 v6 v7 u0 m3 h
        · have h := h.2 c7
          refine it_V.sN it_cd263 it_m263 2 (pc1 := 256) (ls1 := [some (.ref 66), some (.int v1), some (.int v2), some (.int v3), some (.int (v4 + (1 : Int32))), some (.int v5), some (.int v6), some (.int v7), some (.int u0), none]) (st1 := []) (mem1 := m3) rfl ?_
          refine it_V.weak (l := [some (.ref 66), some (.int v1), some (.int v2), some (.int v3), some (.int (v4 + (1 : Int32))), some (.int v5), none, none, none, none]) ⟨rfl, ⟨rfl, ⟨rfl, ⟨rfl, ⟨rfl, ⟨rfl, trivial⟩⟩⟩⟩⟩⟩ ?_
          exact s_263_256 kc Φ _ _ _ _ _ hK48 hK143 hK212 hK233 hK262 v1 v2 v3 (v4 + (1 : Int32)) v5 m3 h
      · have h := h.2 c6
        refine it_V.weak (l := [some (.ref 66), some (.int v1), some (.int v2), some (.int v3), some (.int v4), some (.int v5), some (.int v6), some (.int v7), some (.int u0), none]) ⟨rfl, ⟨rfl, ⟨rfl, ⟨rfl, ⟨rfl, ⟨rfl, ⟨rfl, ⟨rfl, ⟨rfl, trivial⟩⟩⟩⟩⟩⟩⟩⟩⟩ ?_
        exact s_263_201 kc Φ _ _ _ _ _ hK48 hK143 hK212 hK233 hK262 v1 v2 v3 v4 v5 v6 v7 u0 m3 h
set_option maxRecDepth 100000 in
set_option maxHeartbeats 4000000 in
theorem s_263_102 (kc : it_Kc) (Φ : Int32 → it_Me → Prop) (K48 : Int32 → Int32 → Int32 → Int32 → Int32 → it_Me → Prop) (K143 : Int32 → Int32 → Int32 → Int32 → it_Me → Prop) (K212 : Int32 → Int32 → it_Me → Prop) (K233 : Int32 → Int32 → Int32 → Int32 → it_Me → Prop) (K262 : it_Me → Prop) (hK48 : ∀ (v1 : Int32) (v2 : Int32) (v3 : Int32) (v4 : Int32) (v5 : Int32) (m : it_Me), K48 v1 v2 v3 v4 v5 m → it_V kc it_sh0 263 48 [some (.ref 66), some (.int v1), some (.int v2), some (.int v3), some (.int v4), some (.int v5), none, none, none, none] [] m (it_Pi Φ)) (hK143 : ∀ (v3 : Int32) (v6 : Int32) (v7 : Int32) (v8 : Int32) (m : it_Me), K143 v3 v6 v7 v8 m → it_V kc it_sh0 263 143 [none, none, none, some (.int v3), none, none, some (.int v6), some (.int v7), some (.int v8), none] [] m (it_Pi Φ)) (hK212 : ∀ (v3 : Int32) (v6 : Int32) (m : it_Me), K212 v3 v6 m → it_V kc it_sh0 263 212 [none, none, none, some (.int v3), none, none, some (.int v6), none, none, none] [] m (it_Pi Φ)) (hK233 : ∀ (v3 : Int32) (v6 : Int32) (v7 : Int32) (v8 : Int32) (m : it_Me), K233 v3 v6 v7 v8 m → it_V kc it_sh0 263 233 [none, none, none, some (.int v3), none, none, some (.int v6), some (.int v7), some (.int v8), none] [] m (it_Pi Φ)) (hK262 : ∀ (m : it_Me), K262 m → it_V kc it_sh0 263 262 [none, none, none, none, none, none, none, none, none, none] [] m (it_Pi Φ)) (v1 : Int32) (v2 : Int32) (v3 : Int32) (v4 : Int32) (v5 : Int32) (v6 : Int32) (u0 : Int32) (m : it_Me) (h : w_263_102 kc Φ K48 K143 K212 K233 K262 v1 v2 v3 v4 v5 v6 u0 m) : it_V kc it_sh0 263 102 [some (.ref 66), some (.int v1), some (.int v2), some (.int v3), some (.int v4), some (.int v5), some (.int v6), none, none, none] [(.int u0)] m (it_Pi Φ) := by
  rw [w_263_102] at h
  refine it_V.sN it_cd263 it_m263 3 (pc1 := (if v5 = 0 then 109 else 113)) (ls1 := [some (.ref 66), some (.int v1), some (.int v2), some (.int v3), some (.int v4), some (.int v5), some (.int v6), some (.int u0), none, none]) (st1 := []) (mem1 := m) rfl ?_
  refine it_V.ite (fun c1 => ?_) (fun c1 => ?_)
  · have h := h.1 c1
    refine it_V.sN it_cd263 it_m263 2 (pc1 := 114) (ls1 := [some (.ref 66), some (.int v1), some (.int v2), some (.int v3), some (.int v4), some (.int v5), some (.int v6), some (.int u0), none, none]) (st1 := [(.int (5 : Int32))]) (mem1 := m) rfl ?_
    refine it_V.weak (l := [some (.ref 66), some (.int v1), some (.int v2), some (.int v3), some (.int v4), some (.int v5), some (.int v6), some (.int u0), none, none]) ⟨rfl, ⟨rfl, ⟨rfl, ⟨rfl, ⟨rfl, ⟨rfl, ⟨rfl, ⟨rfl, trivial⟩⟩⟩⟩⟩⟩⟩⟩ ?_
    exact s_263_114 kc Φ _ _ _ _ _ hK48 hK143 hK212 hK233 hK262 v1 v2 v3 v4 v5 v6 u0 (5 : Int32) m h
  · have h := h.2 c1
    refine it_V.sN it_cd263 it_m263 1 (pc1 := 114) (ls1 := [some (.ref 66), some (.int v1), some (.int v2), some (.int v3), some (.int v4), some (.int v5), some (.int v6), some (.int u0), none, none]) (st1 := [(.int (3 : Int32))]) (mem1 := m) rfl ?_
    refine it_V.weak (l := [some (.ref 66), some (.int v1), some (.int v2), some (.int v3), some (.int v4), some (.int v5), some (.int v6), some (.int u0), none, none]) ⟨rfl, ⟨rfl, ⟨rfl, ⟨rfl, ⟨rfl, ⟨rfl, ⟨rfl, ⟨rfl, trivial⟩⟩⟩⟩⟩⟩⟩⟩ ?_
    exact s_263_114 kc Φ _ _ _ _ _ hK48 hK143 hK212 hK233 hK262 v1 v2 v3 v4 v5 v6 u0 (3 : Int32) m h
set_option maxRecDepth 100000 in
set_option maxHeartbeats 4000000 in
theorem s_263_74 (kc : it_Kc) (Φ : Int32 → it_Me → Prop) (K48 : Int32 → Int32 → Int32 → Int32 → Int32 → it_Me → Prop) (K143 : Int32 → Int32 → Int32 → Int32 → it_Me → Prop) (K212 : Int32 → Int32 → it_Me → Prop) (K233 : Int32 → Int32 → Int32 → Int32 → it_Me → Prop) (K262 : it_Me → Prop) (hK48 : ∀ (v1 : Int32) (v2 : Int32) (v3 : Int32) (v4 : Int32) (v5 : Int32) (m : it_Me), K48 v1 v2 v3 v4 v5 m → it_V kc it_sh0 263 48 [some (.ref 66), some (.int v1), some (.int v2), some (.int v3), some (.int v4), some (.int v5), none, none, none, none] [] m (it_Pi Φ)) (hK143 : ∀ (v3 : Int32) (v6 : Int32) (v7 : Int32) (v8 : Int32) (m : it_Me), K143 v3 v6 v7 v8 m → it_V kc it_sh0 263 143 [none, none, none, some (.int v3), none, none, some (.int v6), some (.int v7), some (.int v8), none] [] m (it_Pi Φ)) (hK212 : ∀ (v3 : Int32) (v6 : Int32) (m : it_Me), K212 v3 v6 m → it_V kc it_sh0 263 212 [none, none, none, some (.int v3), none, none, some (.int v6), none, none, none] [] m (it_Pi Φ)) (hK233 : ∀ (v3 : Int32) (v6 : Int32) (v7 : Int32) (v8 : Int32) (m : it_Me), K233 v3 v6 v7 v8 m → it_V kc it_sh0 263 233 [none, none, none, some (.int v3), none, none, some (.int v6), some (.int v7), some (.int v8), none] [] m (it_Pi Φ)) (hK262 : ∀ (m : it_Me), K262 m → it_V kc it_sh0 263 262 [none, none, none, none, none, none, none, none, none, none] [] m (it_Pi Φ)) (v1 : Int32) (v2 : Int32) (v3 : Int32) (v4 : Int32) (v5 : Int32) (u0 : Int32) (m : it_Me) (h : w_263_74 kc Φ K48 K143 K212 K233 K262 v1 v2 v3 v4 v5 u0 m) : it_V kc it_sh0 263 74 [some (.ref 66), some (.int v1), some (.int v2), some (.int v3), some (.int v4), some (.int v5), none, none, none, none] [(.int u0)] m (it_Pi Φ) := by
  rw [w_263_74] at h
  refine it_V.sN it_cd263 it_m263 3 (pc1 := (if v5 = 0 then 81 else 93)) (ls1 := [some (.ref 66), some (.int v1), some (.int v2), some (.int v3), some (.int v4), some (.int v5), some (.int u0), none, none, none]) (st1 := []) (mem1 := m) rfl ?_
  refine it_V.ite (fun c1 => ?_) (fun c1 => ?_)
  · have h := h.1 c1
    refine it_V.sN it_cd263 it_m263 3 (pc1 := 86) (ls1 := [some (.ref 66), some (.int v1), some (.int v2), some (.int v3), some (.int v4), some (.int v5), some (.int u0), none, none, none]) (st1 := [(.int v1), (.ref 80)]) (mem1 := m) rfl ?_
    obtain ⟨g2, h⟩ := h
    refine it_V.iald it_cd263 it_m263 rfl ((⟨rfl, by decide⟩ : it_isR 80 8)).2 ((⟨rfl, by decide⟩ : it_isR 80 8)).1 g2 ?_
    refine it_V.at (pc1 := 87) (ls1 := [some (.ref 66), some (.int v1), some (.int v2), some (.int v3), some (.int v4), some (.int v5), some (.int u0), none, none, none]) (st1 := [(.int (m 80 (Int32.toNatClampNeg v1)))]) (mem1 := m) rfl rfl rfl rfl ?_
    refine it_V.sN it_cd263 it_m263 3 (pc1 := 102) (ls1 := [some (.ref 66), some (.int v1), some (.int v2), some (.int v3), some (.int v4), some (.int v5), some (.int u0), none, none, none]) (st1 := [(.int ((m 80 (Int32.toNatClampNeg v1)) - u0))]) (mem1 := m) rfl ?_
    refine it_V.weak (l := [some (.ref 66), some (.int v1), some (.int v2), some (.int v3), some (.int v4), some (.int v5), some (.int u0), none, none, none]) ⟨rfl, ⟨rfl, ⟨rfl, ⟨rfl, ⟨rfl, ⟨rfl, ⟨rfl, trivial⟩⟩⟩⟩⟩⟩⟩ ?_
    exact s_263_102 kc Φ _ _ _ _ _ hK48 hK143 hK212 hK233 hK262 v1 v2 v3 v4 v5 u0 ((m 80 (Int32.toNatClampNeg v1)) - u0) m h
  · have h := h.2 c1
    refine it_V.sN it_cd263 it_m263 3 (pc1 := 98) (ls1 := [some (.ref 66), some (.int v1), some (.int v2), some (.int v3), some (.int v4), some (.int v5), some (.int u0), none, none, none]) (st1 := [(.int v1), (.ref 91)]) (mem1 := m) rfl ?_
    obtain ⟨g3, h⟩ := h
    refine it_V.iald it_cd263 it_m263 rfl ((⟨rfl, by decide⟩ : it_isR 91 8)).2 ((⟨rfl, by decide⟩ : it_isR 91 8)).1 g3 ?_
    refine it_V.at (pc1 := 99) (ls1 := [some (.ref 66), some (.int v1), some (.int v2), some (.int v3), some (.int v4), some (.int v5), some (.int u0), none, none, none]) (st1 := [(.int (m 91 (Int32.toNatClampNeg v1)))]) (mem1 := m) rfl rfl rfl rfl ?_
    refine it_V.sN it_cd263 it_m263 2 (pc1 := 102) (ls1 := [some (.ref 66), some (.int v1), some (.int v2), some (.int v3), some (.int v4), some (.int v5), some (.int u0), none, none, none]) (st1 := [(.int ((m 91 (Int32.toNatClampNeg v1)) - u0))]) (mem1 := m) rfl ?_
    refine it_V.weak (l := [some (.ref 66), some (.int v1), some (.int v2), some (.int v3), some (.int v4), some (.int v5), some (.int u0), none, none, none]) ⟨rfl, ⟨rfl, ⟨rfl, ⟨rfl, ⟨rfl, ⟨rfl, ⟨rfl, trivial⟩⟩⟩⟩⟩⟩⟩ ?_
    exact s_263_102 kc Φ _ _ _ _ _ hK48 hK143 hK212 hK233 hK262 v1 v2 v3 v4 v5 u0 ((m 91 (Int32.toNatClampNeg v1)) - u0) m h
set_option maxRecDepth 100000 in
set_option maxHeartbeats 4000000 in
theorem s_263_48 (kc : it_Kc) (Φ : Int32 → it_Me → Prop) (K143 : Int32 → Int32 → Int32 → Int32 → it_Me → Prop) (K212 : Int32 → Int32 → it_Me → Prop) (K233 : Int32 → Int32 → Int32 → Int32 → it_Me → Prop) (K262 : it_Me → Prop) (hK143 : ∀ (v3 : Int32) (v6 : Int32) (v7 : Int32) (v8 : Int32) (m : it_Me), K143 v3 v6 v7 v8 m → it_V kc it_sh0 263 143 [none, none, none, some (.int v3), none, none, some (.int v6), some (.int v7), some (.int v8), none] [] m (it_Pi Φ)) (hK212 : ∀ (v3 : Int32) (v6 : Int32) (m : it_Me), K212 v3 v6 m → it_V kc it_sh0 263 212 [none, none, none, some (.int v3), none, none, some (.int v6), none, none, none] [] m (it_Pi Φ)) (hK233 : ∀ (v3 : Int32) (v6 : Int32) (v7 : Int32) (v8 : Int32) (m : it_Me), K233 v3 v6 v7 v8 m → it_V kc it_sh0 263 233 [none, none, none, some (.int v3), none, none, some (.int v6), some (.int v7), some (.int v8), none] [] m (it_Pi Φ)) (hK262 : ∀ (m : it_Me), K262 m → it_V kc it_sh0 263 262 [none, none, none, none, none, none, none, none, none, none] [] m (it_Pi Φ)) : ∀ (n : Nat) (v1 : Int32) (v2 : Int32) (v3 : Int32) (v4 : Int32) (v5 : Int32) (m : it_Me) (h : w_263_48 kc Φ K143 K212 K233 K262 n v1 v2 v3 v4 v5 m), it_V kc it_sh0 263 48 [some (.ref 66), some (.int v1), some (.int v2), some (.int v3), some (.int v4), some (.int v5), none, none, none, none] [] m (it_Pi Φ) := by
  intro n
  induction n with
  | zero => intro v1 v2 v3 v4 v5 m h; exact absurd h id
  | succ n ih =>
    intro v1 v2 v3 v4 v5 m h
    rw [w_263_48] at h
    refine it_V.sN it_cd263 it_m263 3 (pc1 := (if (2 : Int32) ≤ v5 then 262 else 54)) (ls1 := [some (.ref 66), some (.int v1), some (.int v2), some (.int v3), some (.int v4), some (.int v5), none, none, none, none]) (st1 := []) (mem1 := m) rfl ?_
    refine it_V.ite (fun c1 => ?_) (fun c1 => ?_)
    · have h := h.1 c1
      refine it_V.weak (l := [none, none, none, none, none, none, none, none, none, none]) trivial ?_
      exact hK262 m h
    · have h := h.2 c1
      refine it_V.sN it_cd263 it_m263 2 (pc1 := (if v5 = 0 then 59 else 68)) (ls1 := [some (.ref 66), some (.int v1), some (.int v2), some (.int v3), some (.int v4), some (.int v5), none, none, none, none]) (st1 := []) (mem1 := m) rfl ?_
      refine it_V.ite (fun c2 => ?_) (fun c2 => ?_)
      · have h := h.1 c2
        refine it_V.sN it_cd263 it_m263 3 (pc1 := 64) (ls1 := [some (.ref 66), some (.int v1), some (.int v2), some (.int v3), some (.int v4), some (.int v5), none, none, none, none]) (st1 := [(.int v1), (.ref 79)]) (mem1 := m) rfl ?_
        obtain ⟨g3, h⟩ := h
        refine it_V.iald it_cd263 it_m263 rfl ((⟨rfl, by decide⟩ : it_isR 79 8)).2 ((⟨rfl, by decide⟩ : it_isR 79 8)).1 g3 ?_
        refine it_V.at (pc1 := 65) (ls1 := [some (.ref 66), some (.int v1), some (.int v2), some (.int v3), some (.int v4), some (.int v5), none, none, none, none]) (st1 := [(.int (m 79 (Int32.toNatClampNeg v1)))]) (mem1 := m) rfl rfl rfl rfl ?_
        refine it_V.sN it_cd263 it_m263 1 (pc1 := 74) (ls1 := [some (.ref 66), some (.int v1), some (.int v2), some (.int v3), some (.int v4), some (.int v5), none, none, none, none]) (st1 := [(.int (m 79 (Int32.toNatClampNeg v1)))]) (mem1 := m) rfl ?_
        refine it_V.weak (l := [some (.ref 66), some (.int v1), some (.int v2), some (.int v3), some (.int v4), some (.int v5), none, none, none, none]) ⟨rfl, ⟨rfl, ⟨rfl, ⟨rfl, ⟨rfl, ⟨rfl, trivial⟩⟩⟩⟩⟩⟩ ?_
        exact s_263_74 kc Φ _ _ _ _ _ ih hK143 hK212 hK233 hK262 v1 v2 v3 v4 v5 (m 79 (Int32.toNatClampNeg v1)) m h
      · have h := h.2 c2
        refine it_V.sN it_cd263 it_m263 3 (pc1 := 73) (ls1 := [some (.ref 66), some (.int v1), some (.int v2), some (.int v3), some (.int v4), some (.int v5), none, none, none, none]) (st1 := [(.int v1), (.ref 89)]) (mem1 := m) rfl ?_
        obtain ⟨g4, h⟩ := h
        refine it_V.iald it_cd263 it_m263 rfl ((⟨rfl, by decide⟩ : it_isR 89 8)).2 ((⟨rfl, by decide⟩ : it_isR 89 8)).1 g4 ?_
        refine it_V.at (pc1 := 74) (ls1 := [some (.ref 66), some (.int v1), some (.int v2), some (.int v3), some (.int v4), some (.int v5), none, none, none, none]) (st1 := [(.int (m 89 (Int32.toNatClampNeg v1)))]) (mem1 := m) rfl rfl rfl rfl ?_
        refine it_V.weak (l := [some (.ref 66), some (.int v1), some (.int v2), some (.int v3), some (.int v4), some (.int v5), none, none, none, none]) ⟨rfl, ⟨rfl, ⟨rfl, ⟨rfl, ⟨rfl, ⟨rfl, trivial⟩⟩⟩⟩⟩⟩ ?_
        exact s_263_74 kc Φ _ _ _ _ _ ih hK143 hK212 hK233 hK262 v1 v2 v3 v4 v5 (m 89 (Int32.toNatClampNeg v1)) m h
set_option maxRecDepth 100000 in
set_option maxHeartbeats 4000000 in
theorem s_263_28 (kc : it_Kc) (Φ : Int32 → it_Me → Prop) (m : it_Me) (h : w_263_28 kc Φ m) : it_V kc it_sh0 263 28 [none, none, none, none, none, none, none, none, none, none] [] m (it_Pi Φ) := by
  rw [w_263_28] at h
  refine it_V.sN it_cd263 it_m263 1 (pc1 := 29) (ls1 := [none, none, none, none, none, none, none, none, none, none]) (st1 := [(.int (-1 : Int32))]) (mem1 := m) rfl ?_
  exact it_V.ret it_cd263 it_m263 rfl rfl ⟨_, rfl, h⟩
set_option maxRecDepth 100000 in
set_option maxHeartbeats 4000000 in
theorem s_263_39 (kc : it_Kc) (Φ : Int32 → it_Me → Prop) (m : it_Me) (h : w_263_39 kc Φ m) : it_V kc it_sh0 263 39 [none, none, none, none, none, none, none, none, none, none] [] m (it_Pi Φ) := by
  rw [w_263_39] at h
  refine it_V.sN it_cd263 it_m263 1 (pc1 := 41) (ls1 := [none, none, none, none, none, none, none, none, none, none]) (st1 := [(.int (-2 : Int32))]) (mem1 := m) rfl ?_
  exact it_V.ret it_cd263 it_m263 rfl rfl ⟨_, rfl, h⟩
set_option maxRecDepth 100000 in
set_option maxHeartbeats 4000000 in
theorem s_263_194 (kc : it_Kc) (Φ : Int32 → it_Me → Prop) (u0 : Int32) (m : it_Me) (h : w_263_194 kc Φ u0 m) : it_V kc it_sh0 263 194 [none, none, none, none, none, none, none, none, none, none] [(.int u0)] m (it_Pi Φ) := by
  rw [w_263_194] at h
  exact it_V.ret it_cd263 it_m263 rfl rfl ⟨_, rfl, h⟩
set_option maxRecDepth 100000 in
set_option maxHeartbeats 4000000 in
theorem s_263_193 (kc : it_Kc) (Φ : Int32 → it_Me → Prop) (u0 : Int32) (u1 : Int32) (m : it_Me) (h : w_263_193 kc Φ u0 u1 m) : it_V kc it_sh0 263 193 [none, none, none, none, none, none, none, none, none, none] [(.int u1), (.int u0)] m (it_Pi Φ) := by
  rw [w_263_193] at h
  refine it_V.sN it_cd263 it_m263 1 (pc1 := 194) (ls1 := [none, none, none, none, none, none, none, none, none, none]) (st1 := [(.int (u0 ||| u1))]) (mem1 := m) rfl ?_
  refine it_V.weak (l := [none, none, none, none, none, none, none, none, none, none]) trivial ?_
  exact s_263_194 kc Φ (u0 ||| u1) m h
set_option maxRecDepth 100000 in
set_option maxHeartbeats 4000000 in
theorem s_263_167 (kc : it_Kc) (Φ : Int32 → it_Me → Prop) (v3 : Int32) (v7 : Int32) (v8 : Int32) (u0 : Int32) (m : it_Me) (h : w_263_167 kc Φ v3 v7 v8 u0 m) : it_V kc it_sh0 263 167 [none, none, none, some (.int v3), none, none, none, some (.int v7), some (.int v8), none] [(.int u0)] m (it_Pi Φ) := by
  rw [w_263_167] at h
  refine it_V.sN it_cd263 it_m263 3 (pc1 := (if v3 = 0 then 173 else 178)) (ls1 := [none, none, none, some (.int v3), none, none, none, some (.int v7), some (.int v8), some (.int u0)]) (st1 := []) (mem1 := m) rfl ?_
  refine it_V.ite (fun c1 => ?_) (fun c1 => ?_)
  · have h := h.1 c1
    refine it_V.sN it_cd263 it_m263 2 (pc1 := 194) (ls1 := [none, none, none, some (.int v3), none, none, none, some (.int v7), some (.int v8), some (.int u0)]) (st1 := [(.int u0)]) (mem1 := m) rfl ?_
    refine it_V.weak (l := [none, none, none, none, none, none, none, none, none, none]) trivial ?_
    exact s_263_194 kc Φ u0 m h
  · have h := h.2 c1
    refine it_V.sN it_cd263 it_m263 4 (pc1 := (if v7 = (4 : Int32) then 186 else 191)) (ls1 := [none, none, none, some (.int v3), none, none, none, some (.int v7), some (.int v8), some (.int u0)]) (st1 := [(.int v8)]) (mem1 := m) rfl ?_
    refine it_V.ite (fun c2 => ?_) (fun c2 => ?_)
    · have h := h.1 c2
      refine it_V.sN it_cd263 it_m263 2 (pc1 := 193) (ls1 := [none, none, none, some (.int v3), none, none, none, some (.int v7), some (.int v8), some (.int u0)]) (st1 := [(.int (16 : Int32)), (.int v8)]) (mem1 := m) rfl ?_
      refine it_V.weak (l := [none, none, none, none, none, none, none, none, none, none]) trivial ?_
      exact s_263_193 kc Φ v8 (16 : Int32) m h
    · have h := h.2 c2
      refine it_V.sN it_cd263 it_m263 1 (pc1 := 193) (ls1 := [none, none, none, some (.int v3), none, none, none, some (.int v7), some (.int v8), some (.int u0)]) (st1 := [(.int (24 : Int32)), (.int v8)]) (mem1 := m) rfl ?_
      refine it_V.weak (l := [none, none, none, none, none, none, none, none, none, none]) trivial ?_
      exact s_263_193 kc Φ v8 (24 : Int32) m h
set_option maxRecDepth 100000 in
set_option maxHeartbeats 4000000 in
theorem s_263_143 (kc : it_Kc) (Φ : Int32 → it_Me → Prop) (v3 : Int32) (v6 : Int32) (v7 : Int32) (v8 : Int32) (m : it_Me) (h : w_263_143 kc Φ v3 v6 v7 v8 m) : it_V kc it_sh0 263 143 [none, none, none, some (.int v3), none, none, some (.int v6), some (.int v7), some (.int v8), none] [] m (it_Pi Φ) := by
  rw [w_263_143] at h
  refine it_V.sN it_cd263 it_m263 3 (pc1 := (if v7 = (4 : Int32) then 149 else 156)) (ls1 := [none, none, none, some (.int v3), none, none, some (.int v6), some (.int v7), some (.int v8), none]) (st1 := []) (mem1 := m) rfl ?_
  refine it_V.ite (fun c1 => ?_) (fun c1 => ?_)
  · have h := h.1 c1
    refine it_V.sN it_cd263 it_m263 4 (pc1 := 167) (ls1 := [none, none, none, some (.int v3), none, none, some (.int v6), some (.int v7), some (.int v8), none]) (st1 := [(.int (it_us v6 (2 : Int32)))]) (mem1 := m) rfl ?_
    refine it_V.weak (l := [none, none, none, some (.int v3), none, none, none, some (.int v7), some (.int v8), none]) ⟨rfl, ⟨rfl, ⟨rfl, trivial⟩⟩⟩ ?_
    exact s_263_167 kc Φ v3 v7 v8 (it_us v6 (2 : Int32)) m h
  · have h := h.2 c1
    refine it_V.sN it_cd263 it_m263 9 (pc1 := 167) (ls1 := [none, none, none, some (.int v3), none, none, some (.int v6), some (.int v7), some (.int v8), none]) (st1 := [(.int ((it_us v6 (2 : Int32)) ||| ((it_us v7 (3 : Int32)) - (1 : Int32))))]) (mem1 := m) rfl ?_
    refine it_V.weak (l := [none, none, none, some (.int v3), none, none, none, some (.int v7), some (.int v8), none]) ⟨rfl, ⟨rfl, ⟨rfl, trivial⟩⟩⟩ ?_
    exact s_263_167 kc Φ v3 v7 v8 ((it_us v6 (2 : Int32)) ||| ((it_us v7 (3 : Int32)) - (1 : Int32))) m h
set_option maxRecDepth 100000 in
set_option maxHeartbeats 4000000 in
theorem s_263_224 (kc : it_Kc) (Φ : Int32 → it_Me → Prop) (u0 : Int32) (m : it_Me) (h : w_263_224 kc Φ u0 m) : it_V kc it_sh0 263 224 [none, none, none, none, none, none, none, none, none, none] [(.int u0)] m (it_Pi Φ) := by
  rw [w_263_224] at h
  exact it_V.ret it_cd263 it_m263 rfl rfl ⟨_, rfl, h⟩
set_option maxRecDepth 100000 in
set_option maxHeartbeats 4000000 in
theorem s_263_212 (kc : it_Kc) (Φ : Int32 → it_Me → Prop) (v3 : Int32) (v6 : Int32) (m : it_Me) (h : w_263_212 kc Φ v3 v6 m) : it_V kc it_sh0 263 212 [none, none, none, some (.int v3), none, none, some (.int v6), none, none, none] [] m (it_Pi Φ) := by
  rw [w_263_212] at h
  refine it_V.sN it_cd263 it_m263 2 (pc1 := (if v3 = 0 then 216 else 223)) (ls1 := [none, none, none, some (.int v3), none, none, some (.int v6), none, none, none]) (st1 := []) (mem1 := m) rfl ?_
  refine it_V.ite (fun c1 => ?_) (fun c1 => ?_)
  · have h := h.1 c1
    refine it_V.sN it_cd263 it_m263 4 (pc1 := 224) (ls1 := [none, none, none, some (.int v3), none, none, some (.int v6), none, none, none]) (st1 := [(.int (it_us v6 (2 : Int32)))]) (mem1 := m) rfl ?_
    refine it_V.weak (l := [none, none, none, none, none, none, none, none, none, none]) trivial ?_
    exact s_263_224 kc Φ (it_us v6 (2 : Int32)) m h
  · have h := h.2 c1
    refine it_V.sN it_cd263 it_m263 1 (pc1 := 224) (ls1 := [none, none, none, some (.int v3), none, none, some (.int v6), none, none, none]) (st1 := [(.int (0 : Int32))]) (mem1 := m) rfl ?_
    refine it_V.weak (l := [none, none, none, none, none, none, none, none, none, none]) trivial ?_
    exact s_263_224 kc Φ (0 : Int32) m h
set_option maxRecDepth 100000 in
set_option maxHeartbeats 4000000 in
theorem s_263_252 (kc : it_Kc) (Φ : Int32 → it_Me → Prop) (u0 : Int32) (m : it_Me) (h : w_263_252 kc Φ u0 m) : it_V kc it_sh0 263 252 [none, none, none, none, none, none, none, none, none, none] [(.int u0)] m (it_Pi Φ) := by
  rw [w_263_252] at h
  exact it_V.ret it_cd263 it_m263 rfl rfl ⟨_, rfl, h⟩
set_option maxRecDepth 100000 in
set_option maxHeartbeats 4000000 in
theorem s_263_233 (kc : it_Kc) (Φ : Int32 → it_Me → Prop) (v3 : Int32) (v6 : Int32) (v7 : Int32) (v8 : Int32) (m : it_Me) (h : w_263_233 kc Φ v3 v6 v7 v8 m) : it_V kc it_sh0 263 233 [none, none, none, some (.int v3), none, none, some (.int v6), some (.int v7), some (.int v8), none] [] m (it_Pi Φ) := by
  rw [w_263_233] at h
  refine it_V.sN it_cd263 it_m263 2 (pc1 := (if v3 = 0 then 237 else 247)) (ls1 := [none, none, none, some (.int v3), none, none, some (.int v6), some (.int v7), some (.int v8), none]) (st1 := []) (mem1 := m) rfl ?_
  refine it_V.ite (fun c1 => ?_) (fun c1 => ?_)
  · have h := h.1 c1
    refine it_V.sN it_cd263 it_m263 6 (pc1 := 252) (ls1 := [none, none, none, some (.int v3), none, none, some (.int v6), some (.int v7), some (.int v8), none]) (st1 := [(.int (it_us (v6 + v7) (2 : Int32)))]) (mem1 := m) rfl ?_
    refine it_V.weak (l := [none, none, none, none, none, none, none, none, none, none]) trivial ?_
    exact s_263_252 kc Φ (it_us (v6 + v7) (2 : Int32)) m h
  · have h := h.2 c1
    refine it_V.sN it_cd263 it_m263 3 (pc1 := 252) (ls1 := [none, none, none, some (.int v3), none, none, some (.int v6), some (.int v7), some (.int v8), none]) (st1 := [(.int (v8 ||| (8 : Int32)))]) (mem1 := m) rfl ?_
    refine it_V.weak (l := [none, none, none, none, none, none, none, none, none, none]) trivial ?_
    exact s_263_252 kc Φ (v8 ||| (8 : Int32)) m h
set_option maxRecDepth 100000 in
set_option maxHeartbeats 4000000 in
theorem s_263_262 (kc : it_Kc) (Φ : Int32 → it_Me → Prop) (m : it_Me) (h : w_263_262 kc Φ m) : it_V kc it_sh0 263 262 [none, none, none, none, none, none, none, none, none, none] [] m (it_Pi Φ) := by
  rw [w_263_262] at h
  refine it_V.sN it_cd263 it_m263 1 (pc1 := 263) (ls1 := [none, none, none, none, none, none, none, none, none, none]) (st1 := [(.int (0 : Int32))]) (mem1 := m) rfl ?_
  exact it_V.ret it_cd263 it_m263 rfl rfl ⟨_, rfl, h⟩
set_option maxRecDepth 100000 in
set_option maxHeartbeats 4000000 in
theorem s_263 (kc : it_Kc) (x0 : Int32) (x1 : Int32) (x2 : Int32) (m : it_Me) (Φ : Int32 → it_Me → Prop) (h : w_263 kc x0 x1 x2 m Φ) : it_V kc it_sh0 263 0 (it_loc0 [(.ref 66), (.int x0), (.int x1), (.int x2)] 10) [] m (it_Pi Φ) := by
  rw [w_263] at h
  refine it_V.at (pc1 := 0) (ls1 := [some (.ref 66), some (.int x0), some (.int x1), some (.int x2), none, none, none, none, none, none]) (st1 := []) (mem1 := m) rfl rfl rfl rfl ?_
  refine it_V.sN it_cd263 it_m263 3 (pc1 := (if (m 66 3) = 0 then 7 else 10)) (ls1 := [some (.ref 66), some (.int x0), some (.int x1), some (.int x2), none, none, none, none, none, none]) (st1 := []) (mem1 := m) rfl ?_
  refine it_V.ite (fun c1 => ?_) (fun c1 => ?_)
  · have h := h.1 c1
    refine it_V.sN it_cd263 it_m263 1 (pc1 := 9) (ls1 := [some (.ref 66), some (.int x0), some (.int x1), some (.int x2), none, none, none, none, none, none]) (st1 := [(.int (-3 : Int32))]) (mem1 := m) rfl ?_
    exact it_V.ret it_cd263 it_m263 rfl rfl ⟨_, rfl, h⟩
  · have h := h.2 c1
    refine it_V.sN it_cd263 it_m263 2 (pc1 := 12) (ls1 := [some (.ref 66), some (.int x0), some (.int x1), some (.int x2), none, none, none, none, none, none]) (st1 := [(.int x0), (.ref 66)]) (mem1 := m) rfl ?_
    refine it_V.call it_cd263 it_m263 rfl it_m341 [(.ref 66), (.int x0)] [] rfl rfl ⟨Nat.le_of_ble_eq_true rfl, Nat.le_of_ble_eq_true rfl, Nat.le_of_ble_eq_true rfl, Nat.le_of_ble_eq_true rfl, rfl⟩ (s_341 kc x0 m _ h) ?_
    rintro _ m3 ⟨r2, rfl, h⟩
    refine it_V.at (pc1 := 15) (ls1 := [some (.ref 66), some (.int x0), some (.int x1), some (.int x2), none, none, none, none, none, none]) (st1 := [(.int r2)]) (mem1 := m3) rfl rfl rfl rfl ?_
    refine it_V.sN it_cd263 it_m263 1 (pc1 := (if r2 = 0 then 28 else 18)) (ls1 := [some (.ref 66), some (.int x0), some (.int x1), some (.int x2), none, none, none, none, none, none]) (st1 := []) (mem1 := m3) rfl ?_
    refine it_V.ite (fun c4 => ?_) (fun c4 => ?_)
    · have h := h.1 c4
      refine it_V.weak (l := [none, none, none, none, none, none, none, none, none, none]) trivial ?_
      exact s_263_28 kc Φ m3 h
    · have h := h.2 c4
      refine it_V.sN it_cd263 it_m263 2 (pc1 := (if x1 < 0 then 28 else 22)) (ls1 := [some (.ref 66), some (.int x0), some (.int x1), some (.int x2), none, none, none, none, none, none]) (st1 := []) (mem1 := m3) rfl ?_
      refine it_V.ite (fun c5 => ?_) (fun c5 => ?_)
      · have h := h.1 c5
        refine it_V.weak (l := [none, none, none, none, none, none, none, none, none, none]) trivial ?_
        exact s_263_28 kc Φ m3 h
      · have h := h.2 c5
        refine it_V.sN it_cd263 it_m263 3 (pc1 := (if x1 ≤ (15 : Int32) then 30 else 28)) (ls1 := [some (.ref 66), some (.int x0), some (.int x1), some (.int x2), none, none, none, none, none, none]) (st1 := []) (mem1 := m3) rfl ?_
        refine it_V.ite (fun c6 => ?_) (fun c6 => ?_)
        · have h := h.1 c6
          refine it_V.sN it_cd263 it_m263 2 (pc1 := (if x2 < 0 then 39 else 34)) (ls1 := [some (.ref 66), some (.int x0), some (.int x1), some (.int x2), none, none, none, none, none, none]) (st1 := []) (mem1 := m3) rfl ?_
          refine it_V.ite (fun c7 => ?_) (fun c7 => ?_)
          · have h := h.1 c7
            refine it_V.weak (l := [none, none, none, none, none, none, none, none, none, none]) trivial ?_
            exact s_263_39 kc Φ m3 h
          · have h := h.2 c7
            refine it_V.sN it_cd263 it_m263 3 (pc1 := (if x2 ≤ (1 : Int32) then 42 else 39)) (ls1 := [some (.ref 66), some (.int x0), some (.int x1), some (.int x2), none, none, none, none, none, none]) (st1 := []) (mem1 := m3) rfl ?_
            refine it_V.ite (fun c8 => ?_) (fun c8 => ?_)
            · have h := h.1 c8
              refine it_V.sN it_cd263 it_m263 4 (pc1 := 48) (ls1 := [some (.ref 66), some (.int x0), some (.int x1), some (.int x2), some (.int (0 : Int32)), some (.int (0 : Int32)), none, none, none, none]) (st1 := []) (mem1 := m3) rfl ?_
              obtain ⟨n, h⟩ := h
              exact s_263_48 kc Φ _ _ _ _ (fun v3 v6 v7 v8 m h => s_263_143 kc Φ v3 v6 v7 v8 m h) (fun v3 v6 m h => s_263_212 kc Φ v3 v6 m h) (fun v3 v6 v7 v8 m h => s_263_233 kc Φ v3 v6 v7 v8 m h) (fun m h => s_263_262 kc Φ m h) n x0 x1 x2 (0 : Int32) (0 : Int32) m3 h
            · have h := h.2 c8
              refine it_V.weak (l := [none, none, none, none, none, none, none, none, none, none]) trivial ?_
              exact s_263_39 kc Φ m3 h
        · have h := h.2 c6
          refine it_V.weak (l := [none, none, none, none, none, none, none, none, none, none]) trivial ?_
          exact s_263_28 kc Φ m3 h
set_option maxRecDepth 100000 in
set_option maxHeartbeats 4000000 in
theorem s_270 (kc : it_Kc) (x0 : Int32) (x1 : Int32) (x2 : Int32) (m : it_Me) (Φ : Int32 → it_Me → Prop) (h : w_270 kc x0 x1 x2 m Φ) : it_V kc it_sh0 270 0 (it_loc0 [(.int x0), (.int x1), (.int x2)] 3) [] m (it_Pi Φ) := by
  rw [w_270] at h
  refine it_V.at (pc1 := 0) (ls1 := [some (.int x0), some (.int x1), some (.int x2)]) (st1 := []) (mem1 := m) rfl rfl rfl rfl ?_
  refine it_V.sN it_cd270 it_m270 5 (pc1 := 7) (ls1 := [some (.int x0), some (.int x1), some (.int x2)]) (st1 := [(.int x1), (.int (8 : Int32)), (.int (x0 + (8 : Int32)))]) (mem1 := m) rfl ?_
  refine it_V.call it_cd270 it_m270 rfl it_m264 [(.int x1)] [(.int (8 : Int32)), (.int (x0 + (8 : Int32)))] rfl rfl ⟨Nat.le_of_ble_eq_true rfl, Nat.le_of_ble_eq_true rfl, Nat.le_of_ble_eq_true rfl, Nat.le_of_ble_eq_true rfl, rfl⟩ (s_264 kc x1 m _ h) ?_
  rintro _ m2 ⟨r1, rfl, h⟩
  refine it_V.at (pc1 := 10) (ls1 := [some (.int x0), some (.int x1), some (.int x2)]) (st1 := [(.int r1), (.int (8 : Int32)), (.int (x0 + (8 : Int32)))]) (mem1 := m2) rfl rfl rfl rfl ?_
  refine it_V.sN it_cd270 it_m270 4 (pc1 := 14) (ls1 := [some (.int x0), some (.int x1), some (.int x2)]) (st1 := [(.int ((x0 + (8 : Int32)) + ((8 : Int32) * (r1 + x2))))]) (mem1 := m2) rfl ?_
  exact it_V.ret it_cd270 it_m270 rfl rfl ⟨_, rfl, h⟩
set_option maxRecDepth 100000 in
set_option maxHeartbeats 4000000 in
theorem s_271 (kc : it_Kc) (x0 : Int32) (x1 : Int32) (x2 : Int32) (m : it_Me) (Φ : Int32 → it_Me → Prop) (h : w_271 kc x0 x1 x2 m Φ) : it_V kc it_sh0 271 0 (it_loc0 [(.int x0), (.int x1), (.int x2)] 3) [] m (it_Pi Φ) := by
  rw [w_271] at h
  refine it_V.at (pc1 := 0) (ls1 := [some (.int x0), some (.int x1), some (.int x2)]) (st1 := []) (mem1 := m) rfl rfl rfl rfl ?_
  refine it_V.sN it_cd271 it_m271 5 (pc1 := 7) (ls1 := [some (.int x0), some (.int x1), some (.int x2)]) (st1 := [(.int x1), (.int (8 : Int32)), (.int (x0 + (8 : Int32)))]) (mem1 := m) rfl ?_
  refine it_V.call it_cd271 it_m271 rfl it_m264 [(.int x1)] [(.int (8 : Int32)), (.int (x0 + (8 : Int32)))] rfl rfl ⟨Nat.le_of_ble_eq_true rfl, Nat.le_of_ble_eq_true rfl, Nat.le_of_ble_eq_true rfl, Nat.le_of_ble_eq_true rfl, rfl⟩ (s_264 kc x1 m _ h) ?_
  rintro _ m2 ⟨r1, rfl, h⟩
  refine it_V.at (pc1 := 10) (ls1 := [some (.int x0), some (.int x1), some (.int x2)]) (st1 := [(.int r1), (.int (8 : Int32)), (.int (x0 + (8 : Int32)))]) (mem1 := m2) rfl rfl rfl rfl ?_
  refine it_V.sN it_cd271 it_m271 1 (pc1 := 11) (ls1 := [some (.int x0), some (.int x1), some (.int x2)]) (st1 := [(.int x1), (.int r1), (.int (8 : Int32)), (.int (x0 + (8 : Int32)))]) (mem1 := m2) rfl ?_
  refine it_V.call it_cd271 it_m271 rfl it_m265 [(.int x1)] [(.int r1), (.int (8 : Int32)), (.int (x0 + (8 : Int32)))] rfl rfl ⟨Nat.le_of_ble_eq_true rfl, Nat.le_of_ble_eq_true rfl, Nat.le_of_ble_eq_true rfl, Nat.le_of_ble_eq_true rfl, rfl⟩ (s_265 kc x1 m2 _ h) ?_
  rintro _ m4 ⟨r3, rfl, h⟩
  refine it_V.at (pc1 := 14) (ls1 := [some (.int x0), some (.int x1), some (.int x2)]) (st1 := [(.int r3), (.int r1), (.int (8 : Int32)), (.int (x0 + (8 : Int32)))]) (mem1 := m4) rfl rfl rfl rfl ?_
  refine it_V.sN it_cd271 it_m271 5 (pc1 := 19) (ls1 := [some (.int x0), some (.int x1), some (.int x2)]) (st1 := [(.int ((x0 + (8 : Int32)) + ((8 : Int32) * ((r1 + r3) + x2))))]) (mem1 := m4) rfl ?_
  exact it_V.ret it_cd271 it_m271 rfl rfl ⟨_, rfl, h⟩
set_option maxRecDepth 100000 in
set_option maxHeartbeats 4000000 in
theorem s_272_7 (kc : it_Kc) (Φ : Int32 → it_Me → Prop) (K25 : Int32 → it_Me → Prop) (K41 : it_Me → Prop) (hK25 : ∀ (v3 : Int32) (m : it_Me), K25 v3 m → it_V kc it_sh0 272 25 [none, none, none, some (.int v3)] [] m (it_Pi Φ)) (hK41 : ∀ (m : it_Me), K41 m → it_V kc it_sh0 272 41 [none, none, none, none] [] m (it_Pi Φ)) : ∀ (n : Nat) (v1 : Int32) (v2 : Int32) (v3 : Int32) (m : it_Me) (h : w_272_7 kc Φ K25 K41 n v1 v2 v3 m), it_V kc it_sh0 272 7 [some (.ref 66), some (.int v1), some (.int v2), some (.int v3)] [] m (it_Pi Φ) := by
  intro n
  induction n with
  | zero => intro v1 v2 v3 m h; exact absurd h id
  | succ n ih =>
    intro v1 v2 v3 m h
    rw [w_272_7] at h
    refine it_V.sN it_cd272 it_m272 3 (pc1 := 10) (ls1 := [some (.ref 66), some (.int v1), some (.int v2), some (.int v3)]) (st1 := [(.int v1), (.ref 66), (.int v3)]) (mem1 := m) rfl ?_
    refine it_V.call it_cd272 it_m272 rfl it_m252 [(.ref 66), (.int v1)] [(.int v3)] rfl rfl ⟨Nat.le_of_ble_eq_true rfl, Nat.le_of_ble_eq_true rfl, Nat.le_of_ble_eq_true rfl, Nat.le_of_ble_eq_true rfl, rfl⟩ (s_252 kc v1 m _ h) ?_
    rintro _ m2 ⟨r1, rfl, h⟩
    refine it_V.at (pc1 := 13) (ls1 := [some (.ref 66), some (.int v1), some (.int v2), some (.int v3)]) (st1 := [(.int r1), (.int v3)]) (mem1 := m2) rfl rfl rfl rfl ?_
    refine it_V.sN it_cd272 it_m272 1 (pc1 := (if v3 = r1 then 41 else 16)) (ls1 := [some (.ref 66), some (.int v1), some (.int v2), some (.int v3)]) (st1 := []) (mem1 := m2) rfl ?_
    refine it_V.ite (fun c3 => ?_) (fun c3 => ?_)
    · have h := h.1 c3
      refine it_V.weak (l := [none, none, none, none]) trivial ?_
      exact hK41 m2 h
    · have h := h.2 c3
      refine it_V.sN it_cd272 it_m272 2 (pc1 := 18) (ls1 := [some (.ref 66), some (.int v1), some (.int v2), some (.int v3)]) (st1 := [(.int v3), (.ref 66)]) (mem1 := m2) rfl ?_
      refine it_V.call it_cd272 it_m272 rfl it_m220 [(.ref 66), (.int v3)] [] rfl rfl ⟨Nat.le_of_ble_eq_true rfl, Nat.le_of_ble_eq_true rfl, Nat.le_of_ble_eq_true rfl, Nat.le_of_ble_eq_true rfl, rfl⟩ (s_220 kc v3 m2 _ h) ?_
      rintro _ m5 ⟨r4, rfl, h⟩
      refine it_V.at (pc1 := 21) (ls1 := [some (.ref 66), some (.int v1), some (.int v2), some (.int v3)]) (st1 := [(.int r4)]) (mem1 := m5) rfl rfl rfl rfl ?_
      refine it_V.sN it_cd272 it_m272 2 (pc1 := (if r4 = v2 then 25 else 27)) (ls1 := [some (.ref 66), some (.int v1), some (.int v2), some (.int v3)]) (st1 := []) (mem1 := m5) rfl ?_
      refine it_V.ite (fun c6 => ?_) (fun c6 => ?_)
      · have h := h.1 c6
        refine it_V.weak (l := [none, none, none, some (.int v3)]) ⟨rfl, trivial⟩ ?_
        exact hK25 v3 m5 h
      · have h := h.2 c6
        refine it_V.sN it_cd272 it_m272 3 (pc1 := 30) (ls1 := [some (.ref 66), some (.int v1), some (.int v2), some (.int v3)]) (st1 := [(.int v3), (.ref 66), (.int v3)]) (mem1 := m5) rfl ?_
        refine it_V.call it_cd272 it_m272 rfl it_m220 [(.ref 66), (.int v3)] [(.int v3)] rfl rfl ⟨Nat.le_of_ble_eq_true rfl, Nat.le_of_ble_eq_true rfl, Nat.le_of_ble_eq_true rfl, Nat.le_of_ble_eq_true rfl, rfl⟩ (s_220 kc v3 m5 _ h) ?_
        rintro _ m8 ⟨r7, rfl, h⟩
        refine it_V.at (pc1 := 33) (ls1 := [some (.ref 66), some (.int v1), some (.int v2), some (.int v3)]) (st1 := [(.int r7), (.int v3)]) (mem1 := m8) rfl rfl rfl rfl ?_
        refine it_V.call it_cd272 it_m272 rfl it_m268 [(.int r7)] [(.int v3)] rfl rfl ⟨Nat.le_of_ble_eq_true rfl, Nat.le_of_ble_eq_true rfl, Nat.le_of_ble_eq_true rfl, Nat.le_of_ble_eq_true rfl, rfl⟩ (s_268 kc r7 m8 _ h) ?_
        rintro _ m10 ⟨r9, rfl, h⟩
        refine it_V.at (pc1 := 36) (ls1 := [some (.ref 66), some (.int v1), some (.int v2), some (.int v3)]) (st1 := [(.int r9), (.int v3)]) (mem1 := m10) rfl rfl rfl rfl ?_
        refine it_V.sN it_cd272 it_m272 3 (pc1 := 7) (ls1 := [some (.ref 66), some (.int v1), some (.int v2), some (.int (v3 + r9))]) (st1 := []) (mem1 := m10) rfl ?_
        exact ih v1 v2 (v3 + r9) m10 h
set_option maxRecDepth 100000 in
set_option maxHeartbeats 4000000 in
theorem s_272_25 (kc : it_Kc) (Φ : Int32 → it_Me → Prop) (v3 : Int32) (m : it_Me) (h : w_272_25 kc Φ v3 m) : it_V kc it_sh0 272 25 [none, none, none, some (.int v3)] [] m (it_Pi Φ) := by
  rw [w_272_25] at h
  refine it_V.sN it_cd272 it_m272 1 (pc1 := 26) (ls1 := [none, none, none, some (.int v3)]) (st1 := [(.int v3)]) (mem1 := m) rfl ?_
  exact it_V.ret it_cd272 it_m272 rfl rfl ⟨_, rfl, h⟩
set_option maxRecDepth 100000 in
set_option maxHeartbeats 4000000 in
theorem s_272_41 (kc : it_Kc) (Φ : Int32 → it_Me → Prop) (m : it_Me) (h : w_272_41 kc Φ m) : it_V kc it_sh0 272 41 [none, none, none, none] [] m (it_Pi Φ) := by
  rw [w_272_41] at h
  refine it_V.sN it_cd272 it_m272 1 (pc1 := 42) (ls1 := [none, none, none, none]) (st1 := [(.int (-1 : Int32))]) (mem1 := m) rfl ?_
  exact it_V.ret it_cd272 it_m272 rfl rfl ⟨_, rfl, h⟩
set_option maxRecDepth 100000 in
set_option maxHeartbeats 4000000 in
theorem s_272 (kc : it_Kc) (x0 : Int32) (x1 : Int32) (m : it_Me) (Φ : Int32 → it_Me → Prop) (h : w_272 kc x0 x1 m Φ) : it_V kc it_sh0 272 0 (it_loc0 [(.ref 66), (.int x0), (.int x1)] 4) [] m (it_Pi Φ) := by
  rw [w_272] at h
  refine it_V.at (pc1 := 0) (ls1 := [some (.ref 66), some (.int x0), some (.int x1), none]) (st1 := []) (mem1 := m) rfl rfl rfl rfl ?_
  refine it_V.sN it_cd272 it_m272 3 (pc1 := 5) (ls1 := [some (.ref 66), some (.int x0), some (.int x1), none]) (st1 := [(.int x0), (.ref 92)]) (mem1 := m) rfl ?_
  obtain ⟨g1, h⟩ := h
  refine it_V.iald it_cd272 it_m272 rfl ((⟨rfl, by decide⟩ : it_isR 92 8)).2 ((⟨rfl, by decide⟩ : it_isR 92 8)).1 g1 ?_
  refine it_V.at (pc1 := 6) (ls1 := [some (.ref 66), some (.int x0), some (.int x1), none]) (st1 := [(.int (m 92 (Int32.toNatClampNeg x0)))]) (mem1 := m) rfl rfl rfl rfl ?_
  refine it_V.sN it_cd272 it_m272 1 (pc1 := 7) (ls1 := [some (.ref 66), some (.int x0), some (.int x1), some (.int (m 92 (Int32.toNatClampNeg x0)))]) (st1 := []) (mem1 := m) rfl ?_
  obtain ⟨n, h⟩ := h
  exact s_272_7 kc Φ _ _ (fun v3 m h => s_272_25 kc Φ v3 m h) (fun m h => s_272_41 kc Φ m h) n x0 x1 (m 92 (Int32.toNatClampNeg x0)) m h
set_option maxRecDepth 100000 in
set_option maxHeartbeats 4000000 in
theorem s_273_44 (kc : it_Kc) (Φ : Int32 → it_Me → Prop) (K68 : Int32 → Int32 → Int32 → it_Me → Prop) (hK68 : ∀ (v1 : Int32) (v2 : Int32) (v4 : Int32) (m : it_Me), K68 v1 v2 v4 m → it_V kc it_sh0 273 68 [some (.ref 66), some (.int v1), some (.int v2), none, some (.int v4), none] [] m (it_Pi Φ)) : ∀ (n : Nat) (v1 : Int32) (v2 : Int32) (v4 : Int32) (v5 : Int32) (m : it_Me) (h : w_273_44 kc Φ K68 n v1 v2 v4 v5 m), it_V kc it_sh0 273 44 [some (.ref 66), some (.int v1), some (.int v2), none, some (.int v4), some (.int v5)] [] m (it_Pi Φ) := by
  intro n
  induction n with
  | zero => intro v1 v2 v4 v5 m h; exact absurd h id
  | succ n ih =>
    intro v1 v2 v4 v5 m h
    rw [w_273_44] at h
    refine it_V.sN it_cd273 it_m273 4 (pc1 := 51) (ls1 := [some (.ref 66), some (.int v1), some (.int v2), none, some (.int v4), some (.int v5)]) (st1 := [(.int v1), (.ref 92), (.int v5)]) (mem1 := m) rfl ?_
    obtain ⟨g1, h⟩ := h
    refine it_V.iald it_cd273 it_m273 rfl ((⟨rfl, by decide⟩ : it_isR 92 8)).2 ((⟨rfl, by decide⟩ : it_isR 92 8)).1 g1 ?_
    refine it_V.at (pc1 := 52) (ls1 := [some (.ref 66), some (.int v1), some (.int v2), none, some (.int v4), some (.int v5)]) (st1 := [(.int (m 92 (Int32.toNatClampNeg v1))), (.int v5)]) (mem1 := m) rfl rfl rfl rfl ?_
    refine it_V.sN it_cd273 it_m273 1 (pc1 := (if (m 92 (Int32.toNatClampNeg v1)) ≤ v5 then 68 else 55)) (ls1 := [some (.ref 66), some (.int v1), some (.int v2), none, some (.int v4), some (.int v5)]) (st1 := []) (mem1 := m) rfl ?_
    refine it_V.ite (fun c2 => ?_) (fun c2 => ?_)
    · have h := h.1 c2
      refine it_V.weak (l := [some (.ref 66), some (.int v1), some (.int v2), none, some (.int v4), none]) ⟨rfl, ⟨rfl, ⟨rfl, ⟨rfl, trivial⟩⟩⟩⟩ ?_
      exact hK68 v1 v2 v4 m h
    · have h := h.2 c2
      refine it_V.sN it_cd273 it_m273 3 (pc1 := 59) (ls1 := [some (.ref 66), some (.int v1), some (.int v2), none, some (.int v4), some (.int v5)]) (st1 := [(.int (0 : Int32)), (.int v5), (.ref 66)]) (mem1 := m) rfl ?_
      refine it_V.call it_cd273 it_m273 rfl it_m221 [(.ref 66), (.int v5), (.int (0 : Int32))] [] rfl rfl ⟨Nat.le_of_ble_eq_true rfl, Nat.le_of_ble_eq_true rfl, Nat.le_of_ble_eq_true rfl, Nat.le_of_ble_eq_true rfl, rfl⟩ (s_221 kc v5 (0 : Int32) m _ h) ?_
      rintro _ m3 ⟨rfl, h⟩
      refine it_V.at (pc1 := 62) (ls1 := [some (.ref 66), some (.int v1), some (.int v2), none, some (.int v4), some (.int v5)]) (st1 := []) (mem1 := m3) rfl rfl rfl rfl ?_
      refine it_V.sN it_cd273 it_m273 2 (pc1 := 44) (ls1 := [some (.ref 66), some (.int v1), some (.int v2), none, some (.int v4), some (.int (v5 + (4 : Int32)))]) (st1 := []) (mem1 := m3) rfl ?_
      refine it_V.weak (l := [some (.ref 66), some (.int v1), some (.int v2), none, some (.int v4), some (.int (v5 + (4 : Int32)))]) ⟨rfl, ⟨rfl, ⟨rfl, ⟨rfl, ⟨rfl, trivial⟩⟩⟩⟩⟩ ?_
      exact ih v1 v2 v4 (v5 + (4 : Int32)) m3 h
set_option maxRecDepth 100000 in
set_option maxHeartbeats 4000000 in
theorem s_273_104 (kc : it_Kc) (Φ : Int32 → it_Me → Prop) (v1 : Int32) (v4 : Int32) (u1 : Int32) (u2 : Int32) (m : it_Me) (h : w_273_104 kc Φ v1 v4 u1 u2 m) : it_V kc it_sh0 273 104 [some (.ref 66), some (.int v1), none, none, some (.int v4), none] [(.int u2), (.int u1), (.ref 66)] m (it_Pi Φ) := by
  rw [w_273_104] at h
  refine it_V.call it_cd273 it_m273 rfl it_m221 [(.ref 66), (.int u1), (.int u2)] [] rfl rfl ⟨Nat.le_of_ble_eq_true rfl, Nat.le_of_ble_eq_true rfl, Nat.le_of_ble_eq_true rfl, Nat.le_of_ble_eq_true rfl, rfl⟩ (s_221 kc u1 u2 m _ h) ?_
  rintro _ m1 ⟨rfl, h⟩
  refine it_V.at (pc1 := 107) (ls1 := [some (.ref 66), some (.int v1), none, none, some (.int v4), none]) (st1 := []) (mem1 := m1) rfl rfl rfl rfl ?_
  refine it_V.sN it_cd273 it_m273 4 (pc1 := 114) (ls1 := [some (.ref 66), some (.int v1), none, none, some (.int v4), none]) (st1 := [(.int v4), (.int v1), (.ref 92)]) (mem1 := m1) rfl ?_
  obtain ⟨g2, h⟩ := h
  refine it_V.iast it_cd273 it_m273 rfl ((⟨rfl, by decide⟩ : it_isR 92 8)).1 g2 ?_
  refine it_V.at (pc1 := 115) (ls1 := [some (.ref 66), some (.int v1), none, none, some (.int v4), none]) (st1 := []) (mem1 := (it_sv m1 92 (Int32.toNatClampNeg v1) v4)) rfl rfl rfl rfl ?_
  refine it_V.sN it_cd273 it_m273 1 (pc1 := 117) (ls1 := [some (.ref 66), some (.int v1), none, none, some (.int v4), none]) (st1 := [(.int v4)]) (mem1 := (it_sv m1 92 (Int32.toNatClampNeg v1) v4)) rfl ?_
  exact it_V.ret it_cd273 it_m273 rfl rfl ⟨_, rfl, h⟩
set_option maxRecDepth 100000 in
set_option maxHeartbeats 4000000 in
theorem s_273_68 (kc : it_Kc) (Φ : Int32 → it_Me → Prop) (v1 : Int32) (v2 : Int32) (v4 : Int32) (m : it_Me) (h : w_273_68 kc Φ v1 v2 v4 m) : it_V kc it_sh0 273 68 [some (.ref 66), some (.int v1), some (.int v2), none, some (.int v4), none] [] m (it_Pi Φ) := by
  rw [w_273_68] at h
  refine it_V.sN it_cd273 it_m273 3 (pc1 := 72) (ls1 := [some (.ref 66), some (.int v1), some (.int v2), none, some (.int v4), none]) (st1 := [(.int v2), (.int v4), (.ref 66)]) (mem1 := m) rfl ?_
  refine it_V.call it_cd273 it_m273 rfl it_m221 [(.ref 66), (.int v4), (.int v2)] [] rfl rfl ⟨Nat.le_of_ble_eq_true rfl, Nat.le_of_ble_eq_true rfl, Nat.le_of_ble_eq_true rfl, Nat.le_of_ble_eq_true rfl, rfl⟩ (s_221 kc v4 v2 m _ h) ?_
  rintro _ m1 ⟨rfl, h⟩
  refine it_V.at (pc1 := 75) (ls1 := [some (.ref 66), some (.int v1), some (.int v2), none, some (.int v4), none]) (st1 := []) (mem1 := m1) rfl rfl rfl rfl ?_
  refine it_V.sN it_cd273 it_m273 7 (pc1 := 85) (ls1 := [some (.ref 66), some (.int v1), some (.int v2), none, some (.int v4), none]) (st1 := [(.int v1), (.ref 92), (.int (v4 + (4 : Int32))), (.ref 66)]) (mem1 := m1) rfl ?_
  obtain ⟨g2, h⟩ := h
  refine it_V.iald it_cd273 it_m273 rfl ((⟨rfl, by decide⟩ : it_isR 92 8)).2 ((⟨rfl, by decide⟩ : it_isR 92 8)).1 g2 ?_
  refine it_V.at (pc1 := 86) (ls1 := [some (.ref 66), some (.int v1), some (.int v2), none, some (.int v4), none]) (st1 := [(.int (m1 92 (Int32.toNatClampNeg v1))), (.int (v4 + (4 : Int32))), (.ref 66)]) (mem1 := m1) rfl rfl rfl rfl ?_
  refine it_V.sN it_cd273 it_m273 2 (pc1 := 88) (ls1 := [some (.ref 66), some (.int v1), some (.int v2), none, some (.int v4), none]) (st1 := [(.int v1), (.ref 66), (.int (m1 92 (Int32.toNatClampNeg v1))), (.int (v4 + (4 : Int32))), (.ref 66)]) (mem1 := m1) rfl ?_
  refine it_V.call it_cd273 it_m273 rfl it_m252 [(.ref 66), (.int v1)] [(.int (m1 92 (Int32.toNatClampNeg v1))), (.int (v4 + (4 : Int32))), (.ref 66)] rfl rfl ⟨Nat.le_of_ble_eq_true rfl, Nat.le_of_ble_eq_true rfl, Nat.le_of_ble_eq_true rfl, Nat.le_of_ble_eq_true rfl, rfl⟩ (s_252 kc v1 m1 _ h) ?_
  rintro _ m4 ⟨r3, rfl, h⟩
  refine it_V.at (pc1 := 91) (ls1 := [some (.ref 66), some (.int v1), some (.int v2), none, some (.int v4), none]) (st1 := [(.int r3), (.int (m1 92 (Int32.toNatClampNeg v1))), (.int (v4 + (4 : Int32))), (.ref 66)]) (mem1 := m4) rfl rfl rfl rfl ?_
  refine it_V.sN it_cd273 it_m273 1 (pc1 := (if (m1 92 (Int32.toNatClampNeg v1)) = r3 then 94 else 98)) (ls1 := [some (.ref 66), some (.int v1), some (.int v2), none, some (.int v4), none]) (st1 := [(.int (v4 + (4 : Int32))), (.ref 66)]) (mem1 := m4) rfl ?_
  refine it_V.ite (fun c5 => ?_) (fun c5 => ?_)
  · have h := h.1 c5
    refine it_V.sN it_cd273 it_m273 2 (pc1 := 104) (ls1 := [some (.ref 66), some (.int v1), some (.int v2), none, some (.int v4), none]) (st1 := [(.int (0 : Int32)), (.int (v4 + (4 : Int32))), (.ref 66)]) (mem1 := m4) rfl ?_
    refine it_V.weak (l := [some (.ref 66), some (.int v1), none, none, some (.int v4), none]) ⟨rfl, ⟨rfl, ⟨rfl, trivial⟩⟩⟩ ?_
    exact s_273_104 kc Φ v1 v4 (v4 + (4 : Int32)) (0 : Int32) m4 h
  · have h := h.2 c5
    refine it_V.sN it_cd273 it_m273 3 (pc1 := 103) (ls1 := [some (.ref 66), some (.int v1), some (.int v2), none, some (.int v4), none]) (st1 := [(.int v1), (.ref 92), (.int (v4 + (4 : Int32))), (.ref 66)]) (mem1 := m4) rfl ?_
    obtain ⟨g6, h⟩ := h
    refine it_V.iald it_cd273 it_m273 rfl ((⟨rfl, by decide⟩ : it_isR 92 8)).2 ((⟨rfl, by decide⟩ : it_isR 92 8)).1 g6 ?_
    refine it_V.at (pc1 := 104) (ls1 := [some (.ref 66), some (.int v1), some (.int v2), none, some (.int v4), none]) (st1 := [(.int (m4 92 (Int32.toNatClampNeg v1))), (.int (v4 + (4 : Int32))), (.ref 66)]) (mem1 := m4) rfl rfl rfl rfl ?_
    refine it_V.weak (l := [some (.ref 66), some (.int v1), none, none, some (.int v4), none]) ⟨rfl, ⟨rfl, ⟨rfl, trivial⟩⟩⟩ ?_
    exact s_273_104 kc Φ v1 v4 (v4 + (4 : Int32)) (m4 92 (Int32.toNatClampNeg v1)) m4 h
set_option maxRecDepth 100000 in
set_option maxHeartbeats 4000000 in
theorem s_273 (kc : it_Kc) (x0 : Int32) (x1 : Int32) (m : it_Me) (Φ : Int32 → it_Me → Prop) (h : w_273 kc x0 x1 m Φ) : it_V kc it_sh0 273 0 (it_loc0 [(.ref 66), (.int x0), (.int x1)] 6) [] m (it_Pi Φ) := by
  rw [w_273] at h
  refine it_V.at (pc1 := 0) (ls1 := [some (.ref 66), some (.int x0), some (.int x1), none, none, none]) (st1 := []) (mem1 := m) rfl rfl rfl rfl ?_
  refine it_V.sN it_cd273 it_m273 3 (pc1 := 3) (ls1 := [some (.ref 66), some (.int x0), some (.int x1), none, none, none]) (st1 := [(.int x1), (.int x0), (.ref 66)]) (mem1 := m) rfl ?_
  refine it_V.call it_cd273 it_m273 rfl it_m272 [(.ref 66), (.int x0), (.int x1)] [] rfl rfl ⟨Nat.le_of_ble_eq_true rfl, Nat.le_of_ble_eq_true rfl, Nat.le_of_ble_eq_true rfl, Nat.le_of_ble_eq_true rfl, rfl⟩ (s_272 kc x0 x1 m _ h) ?_
  rintro _ m2 ⟨r1, rfl, h⟩
  refine it_V.at (pc1 := 6) (ls1 := [some (.ref 66), some (.int x0), some (.int x1), none, none, none]) (st1 := [(.int r1)]) (mem1 := m2) rfl rfl rfl rfl ?_
  refine it_V.sN it_cd273 it_m273 4 (pc1 := (if r1 = (-1 : Int32) then 14 else 12)) (ls1 := [some (.ref 66), some (.int x0), some (.int x1), some (.int r1), none, none]) (st1 := []) (mem1 := m2) rfl ?_
  refine it_V.ite (fun c3 => ?_) (fun c3 => ?_)
  · have h := h.1 c3
    refine it_V.sN it_cd273 it_m273 3 (pc1 := 19) (ls1 := [some (.ref 66), some (.int x0), some (.int x1), some (.int r1), none, none]) (st1 := [(.int x0), (.ref 92)]) (mem1 := m2) rfl ?_
    obtain ⟨g4, h⟩ := h
    refine it_V.iald it_cd273 it_m273 rfl ((⟨rfl, by decide⟩ : it_isR 92 8)).2 ((⟨rfl, by decide⟩ : it_isR 92 8)).1 g4 ?_
    refine it_V.at (pc1 := 20) (ls1 := [some (.ref 66), some (.int x0), some (.int x1), some (.int r1), none, none]) (st1 := [(.int (m2 92 (Int32.toNatClampNeg x0)))]) (mem1 := m2) rfl rfl rfl rfl ?_
    refine it_V.sN it_cd273 it_m273 1 (pc1 := 21) (ls1 := [some (.ref 66), some (.int x0), some (.int x1), some (.int r1), none, none]) (st1 := [(.int x1), (.int (m2 92 (Int32.toNatClampNeg x0)))]) (mem1 := m2) rfl ?_
    refine it_V.call it_cd273 it_m273 rfl it_m268 [(.int x1)] [(.int (m2 92 (Int32.toNatClampNeg x0)))] rfl rfl ⟨Nat.le_of_ble_eq_true rfl, Nat.le_of_ble_eq_true rfl, Nat.le_of_ble_eq_true rfl, Nat.le_of_ble_eq_true rfl, rfl⟩ (s_268 kc x1 m2 _ h) ?_
    rintro _ m6 ⟨r5, rfl, h⟩
    refine it_V.at (pc1 := 24) (ls1 := [some (.ref 66), some (.int x0), some (.int x1), some (.int r1), none, none]) (st1 := [(.int r5), (.int (m2 92 (Int32.toNatClampNeg x0)))]) (mem1 := m6) rfl rfl rfl rfl ?_
    refine it_V.sN it_cd273 it_m273 6 (pc1 := 34) (ls1 := [some (.ref 66), some (.int x0), some (.int x1), some (.int r1), some (.int ((m2 92 (Int32.toNatClampNeg x0)) - r5)), none]) (st1 := [(.int x0), (.ref 91), (.int ((m2 92 (Int32.toNatClampNeg x0)) - r5))]) (mem1 := m6) rfl ?_
    obtain ⟨g7, h⟩ := h
    refine it_V.iald it_cd273 it_m273 rfl ((⟨rfl, by decide⟩ : it_isR 91 8)).2 ((⟨rfl, by decide⟩ : it_isR 91 8)).1 g7 ?_
    refine it_V.at (pc1 := 35) (ls1 := [some (.ref 66), some (.int x0), some (.int x1), some (.int r1), some (.int ((m2 92 (Int32.toNatClampNeg x0)) - r5)), none]) (st1 := [(.int (m6 91 (Int32.toNatClampNeg x0))), (.int ((m2 92 (Int32.toNatClampNeg x0)) - r5))]) (mem1 := m6) rfl rfl rfl rfl ?_
    refine it_V.sN it_cd273 it_m273 1 (pc1 := (if (m6 91 (Int32.toNatClampNeg x0)) ≤ ((m2 92 (Int32.toNatClampNeg x0)) - r5) then 40 else 38)) (ls1 := [some (.ref 66), some (.int x0), some (.int x1), some (.int r1), some (.int ((m2 92 (Int32.toNatClampNeg x0)) - r5)), none]) (st1 := []) (mem1 := m6) rfl ?_
    refine it_V.ite (fun c8 => ?_) (fun c8 => ?_)
    · have h := h.1 c8
      refine it_V.sN it_cd273 it_m273 2 (pc1 := 44) (ls1 := [some (.ref 66), some (.int x0), some (.int x1), some (.int r1), some (.int ((m2 92 (Int32.toNatClampNeg x0)) - r5)), some (.int ((m2 92 (Int32.toNatClampNeg x0)) - r5))]) (st1 := []) (mem1 := m6) rfl ?_
      refine it_V.weak (l := [some (.ref 66), some (.int x0), some (.int x1), none, some (.int ((m2 92 (Int32.toNatClampNeg x0)) - r5)), some (.int ((m2 92 (Int32.toNatClampNeg x0)) - r5))]) ⟨rfl, ⟨rfl, ⟨rfl, ⟨rfl, ⟨rfl, trivial⟩⟩⟩⟩⟩ ?_
      obtain ⟨n, h⟩ := h
      exact s_273_44 kc Φ _ (fun v1 v2 v4 m h => s_273_68 kc Φ v1 v2 v4 m h) n x0 x1 ((m2 92 (Int32.toNatClampNeg x0)) - r5) ((m2 92 (Int32.toNatClampNeg x0)) - r5) m6 h
    · have h := h.2 c8
      refine it_V.sN it_cd273 it_m273 1 (pc1 := 39) (ls1 := [some (.ref 66), some (.int x0), some (.int x1), some (.int r1), some (.int ((m2 92 (Int32.toNatClampNeg x0)) - r5)), none]) (st1 := [(.int (-1 : Int32))]) (mem1 := m6) rfl ?_
      exact it_V.ret it_cd273 it_m273 rfl rfl ⟨_, rfl, h⟩
  · have h := h.2 c3
    refine it_V.sN it_cd273 it_m273 1 (pc1 := 13) (ls1 := [some (.ref 66), some (.int x0), some (.int x1), some (.int r1), none, none]) (st1 := [(.int r1)]) (mem1 := m2) rfl ?_
    exact it_V.ret it_cd273 it_m273 rfl rfl ⟨_, rfl, h⟩
set_option maxRecDepth 100000 in
set_option maxHeartbeats 4000000 in
theorem s_275 (kc : it_Kc) (x0 : Int32) (x1 : Int32) (x2 : Int32) (x3 : Int32) (x4 : Int32) (x5 : Int32) (m : it_Me) (Φ : it_Me → Prop) (h : w_275 kc x0 x1 x2 x3 x4 x5 m Φ) : it_V kc it_sh0 275 0 (it_loc0 [(.ref 66), (.int x0), (.int x1), (.int x2), (.int x3), (.int x4), (.int x5)] 7) [] m (it_Pv Φ) := by
  rw [w_275] at h
  refine it_V.at (pc1 := 0) (ls1 := [some (.ref 66), some (.int x0), some (.int x1), some (.int x2), some (.int x3), some (.int x4), some (.int x5)]) (st1 := []) (mem1 := m) rfl rfl rfl rfl ?_
  refine it_V.sN it_cd275 it_m275 8 (pc1 := 13) (ls1 := [some (.ref 66), some (.int x0), some (.int x1), some (.int x2), some (.int x3), some (.int x4), some (.int x5)]) (st1 := [(.int x3), (.int (((32 : Int32) * x0) + (10 : Int32))), (.ref 93)]) (mem1 := m) rfl ?_
  obtain ⟨g1, h⟩ := h
  refine it_V.iast it_cd275 it_m275 rfl ((⟨rfl, by decide⟩ : it_isR 93 256)).1 g1 ?_
  refine it_V.at (pc1 := 14) (ls1 := [some (.ref 66), some (.int x0), some (.int x1), some (.int x2), some (.int x3), some (.int x4), some (.int x5)]) (st1 := []) (mem1 := (it_sv m 93 (Int32.toNatClampNeg (((32 : Int32) * x0) + (10 : Int32))) x3)) rfl rfl rfl rfl ?_
  refine it_V.sN it_cd275 it_m275 8 (pc1 := 27) (ls1 := [some (.ref 66), some (.int x0), some (.int x1), some (.int x2), some (.int x3), some (.int x4), some (.int x5)]) (st1 := [(.int x4), (.int (((32 : Int32) * x0) + (11 : Int32))), (.ref 93)]) (mem1 := (it_sv m 93 (Int32.toNatClampNeg (((32 : Int32) * x0) + (10 : Int32))) x3)) rfl ?_
  obtain ⟨g2, h⟩ := h
  refine it_V.iast it_cd275 it_m275 rfl ((⟨rfl, by decide⟩ : it_isR 93 256)).1 g2 ?_
  refine it_V.at (pc1 := 28) (ls1 := [some (.ref 66), some (.int x0), some (.int x1), some (.int x2), some (.int x3), some (.int x4), some (.int x5)]) (st1 := []) (mem1 := (it_sv (it_sv m 93 (Int32.toNatClampNeg (((32 : Int32) * x0) + (10 : Int32))) x3) 93 (Int32.toNatClampNeg (((32 : Int32) * x0) + (11 : Int32))) x4)) rfl rfl rfl rfl ?_
  refine it_V.sN it_cd275 it_m275 8 (pc1 := 41) (ls1 := [some (.ref 66), some (.int x0), some (.int x1), some (.int x2), some (.int x3), some (.int x4), some (.int x5)]) (st1 := [(.int x5), (.int (((32 : Int32) * x0) + (12 : Int32))), (.ref 93)]) (mem1 := (it_sv (it_sv m 93 (Int32.toNatClampNeg (((32 : Int32) * x0) + (10 : Int32))) x3) 93 (Int32.toNatClampNeg (((32 : Int32) * x0) + (11 : Int32))) x4)) rfl ?_
  obtain ⟨g3, h⟩ := h
  refine it_V.iast it_cd275 it_m275 rfl ((⟨rfl, by decide⟩ : it_isR 93 256)).1 g3 ?_
  refine it_V.at (pc1 := 42) (ls1 := [some (.ref 66), some (.int x0), some (.int x1), some (.int x2), some (.int x3), some (.int x4), some (.int x5)]) (st1 := []) (mem1 := (it_sv (it_sv (it_sv m 93 (Int32.toNatClampNeg (((32 : Int32) * x0) + (10 : Int32))) x3) 93 (Int32.toNatClampNeg (((32 : Int32) * x0) + (11 : Int32))) x4) 93 (Int32.toNatClampNeg (((32 : Int32) * x0) + (12 : Int32))) x5)) rfl rfl rfl rfl ?_
  refine it_V.sN it_cd275 it_m275 4 (pc1 := 48) (ls1 := [some (.ref 66), some (.int x0), some (.int x1), some (.int x2), some (.int x3), some (.int x4), some (.int x5)]) (st1 := [(.int (0 : Int32)), (.int x0), (.ref 97)]) (mem1 := (it_sv (it_sv (it_sv m 93 (Int32.toNatClampNeg (((32 : Int32) * x0) + (10 : Int32))) x3) 93 (Int32.toNatClampNeg (((32 : Int32) * x0) + (11 : Int32))) x4) 93 (Int32.toNatClampNeg (((32 : Int32) * x0) + (12 : Int32))) x5)) rfl ?_
  obtain ⟨g4, h⟩ := h
  refine it_V.iast it_cd275 it_m275 rfl ((⟨rfl, by decide⟩ : it_isR 97 8)).1 g4 ?_
  refine it_V.at (pc1 := 49) (ls1 := [some (.ref 66), some (.int x0), some (.int x1), some (.int x2), some (.int x3), some (.int x4), some (.int x5)]) (st1 := []) (mem1 := (it_sv (it_sv (it_sv (it_sv m 93 (Int32.toNatClampNeg (((32 : Int32) * x0) + (10 : Int32))) x3) 93 (Int32.toNatClampNeg (((32 : Int32) * x0) + (11 : Int32))) x4) 93 (Int32.toNatClampNeg (((32 : Int32) * x0) + (12 : Int32))) x5) 97 (Int32.toNatClampNeg x0) (0 : Int32))) rfl rfl rfl rfl ?_
  refine it_V.sN it_cd275 it_m275 4 (pc1 := 56) (ls1 := [some (.ref 66), some (.int x0), some (.int x1), some (.int x2), some (.int x3), some (.int x4), some (.int x5)]) (st1 := [(.int (6 : Int32)), (.ref 69), (.int (6 : Int32)), (.ref 69)]) (mem1 := (it_sv (it_sv (it_sv (it_sv m 93 (Int32.toNatClampNeg (((32 : Int32) * x0) + (10 : Int32))) x3) 93 (Int32.toNatClampNeg (((32 : Int32) * x0) + (11 : Int32))) x4) 93 (Int32.toNatClampNeg (((32 : Int32) * x0) + (12 : Int32))) x5) 97 (Int32.toNatClampNeg x0) (0 : Int32))) rfl ?_
  obtain ⟨g5, h⟩ := h
  refine it_V.iald it_cd275 it_m275 rfl ((⟨rfl, by decide⟩ : it_isR 69 12)).2 ((⟨rfl, by decide⟩ : it_isR 69 12)).1 g5 ?_
  refine it_V.at (pc1 := 57) (ls1 := [some (.ref 66), some (.int x0), some (.int x1), some (.int x2), some (.int x3), some (.int x4), some (.int x5)]) (st1 := [(.int ((it_sv (it_sv (it_sv (it_sv m 93 (Int32.toNatClampNeg (((32 : Int32) * x0) + (10 : Int32))) x3) 93 (Int32.toNatClampNeg (((32 : Int32) * x0) + (11 : Int32))) x4) 93 (Int32.toNatClampNeg (((32 : Int32) * x0) + (12 : Int32))) x5) 97 (Int32.toNatClampNeg x0) (0 : Int32)) 69 (Int32.toNatClampNeg (6 : Int32)))), (.int (6 : Int32)), (.ref 69)]) (mem1 := (it_sv (it_sv (it_sv (it_sv m 93 (Int32.toNatClampNeg (((32 : Int32) * x0) + (10 : Int32))) x3) 93 (Int32.toNatClampNeg (((32 : Int32) * x0) + (11 : Int32))) x4) 93 (Int32.toNatClampNeg (((32 : Int32) * x0) + (12 : Int32))) x5) 97 (Int32.toNatClampNeg x0) (0 : Int32))) rfl rfl rfl rfl ?_
  refine it_V.sN it_cd275 it_m275 2 (pc1 := 59) (ls1 := [some (.ref 66), some (.int x0), some (.int x1), some (.int x2), some (.int x3), some (.int x4), some (.int x5)]) (st1 := [(.int (((it_sv (it_sv (it_sv (it_sv m 93 (Int32.toNatClampNeg (((32 : Int32) * x0) + (10 : Int32))) x3) 93 (Int32.toNatClampNeg (((32 : Int32) * x0) + (11 : Int32))) x4) 93 (Int32.toNatClampNeg (((32 : Int32) * x0) + (12 : Int32))) x5) 97 (Int32.toNatClampNeg x0) (0 : Int32)) 69 (Int32.toNatClampNeg (6 : Int32))) + (1 : Int32))), (.int (6 : Int32)), (.ref 69)]) (mem1 := (it_sv (it_sv (it_sv (it_sv m 93 (Int32.toNatClampNeg (((32 : Int32) * x0) + (10 : Int32))) x3) 93 (Int32.toNatClampNeg (((32 : Int32) * x0) + (11 : Int32))) x4) 93 (Int32.toNatClampNeg (((32 : Int32) * x0) + (12 : Int32))) x5) 97 (Int32.toNatClampNeg x0) (0 : Int32))) rfl ?_
  obtain ⟨g6, h⟩ := h
  refine it_V.iast it_cd275 it_m275 rfl ((⟨rfl, by decide⟩ : it_isR 69 12)).1 g6 ?_
  refine it_V.at (pc1 := 60) (ls1 := [some (.ref 66), some (.int x0), some (.int x1), some (.int x2), some (.int x3), some (.int x4), some (.int x5)]) (st1 := []) (mem1 := (it_sv (it_sv (it_sv (it_sv (it_sv m 93 (Int32.toNatClampNeg (((32 : Int32) * x0) + (10 : Int32))) x3) 93 (Int32.toNatClampNeg (((32 : Int32) * x0) + (11 : Int32))) x4) 93 (Int32.toNatClampNeg (((32 : Int32) * x0) + (12 : Int32))) x5) 97 (Int32.toNatClampNeg x0) (0 : Int32)) 69 (Int32.toNatClampNeg (6 : Int32)) (((it_sv (it_sv (it_sv (it_sv m 93 (Int32.toNatClampNeg (((32 : Int32) * x0) + (10 : Int32))) x3) 93 (Int32.toNatClampNeg (((32 : Int32) * x0) + (11 : Int32))) x4) 93 (Int32.toNatClampNeg (((32 : Int32) * x0) + (12 : Int32))) x5) 97 (Int32.toNatClampNeg x0) (0 : Int32)) 69 (Int32.toNatClampNeg (6 : Int32))) + (1 : Int32)))) rfl rfl rfl rfl ?_
  refine it_V.sN it_cd275 it_m275 8 (pc1 := 69) (ls1 := [some (.ref 66), some (.int x0), some (.int x1), some (.int x2), some (.int x3), some (.int x4), some (.int x5)]) (st1 := [(.int (((16 : Int32) * x1) + x2)), (.int (1 : Int32)), (.int x0), (.ref 66)]) (mem1 := (it_sv (it_sv (it_sv (it_sv (it_sv m 93 (Int32.toNatClampNeg (((32 : Int32) * x0) + (10 : Int32))) x3) 93 (Int32.toNatClampNeg (((32 : Int32) * x0) + (11 : Int32))) x4) 93 (Int32.toNatClampNeg (((32 : Int32) * x0) + (12 : Int32))) x5) 97 (Int32.toNatClampNeg x0) (0 : Int32)) 69 (Int32.toNatClampNeg (6 : Int32)) (((it_sv (it_sv (it_sv (it_sv m 93 (Int32.toNatClampNeg (((32 : Int32) * x0) + (10 : Int32))) x3) 93 (Int32.toNatClampNeg (((32 : Int32) * x0) + (11 : Int32))) x4) 93 (Int32.toNatClampNeg (((32 : Int32) * x0) + (12 : Int32))) x5) 97 (Int32.toNatClampNeg x0) (0 : Int32)) 69 (Int32.toNatClampNeg (6 : Int32))) + (1 : Int32)))) rfl ?_
  refine it_V.call it_cd275 it_m275 rfl it_m257 [(.ref 66), (.int x0), (.int (1 : Int32)), (.int (((16 : Int32) * x1) + x2))] [] rfl rfl ⟨Nat.le_of_ble_eq_true rfl, Nat.le_of_ble_eq_true rfl, Nat.le_of_ble_eq_true rfl, Nat.le_of_ble_eq_true rfl, rfl⟩ (s_257 kc x0 (1 : Int32) (((16 : Int32) * x1) + x2) (it_sv (it_sv (it_sv (it_sv (it_sv m 93 (Int32.toNatClampNeg (((32 : Int32) * x0) + (10 : Int32))) x3) 93 (Int32.toNatClampNeg (((32 : Int32) * x0) + (11 : Int32))) x4) 93 (Int32.toNatClampNeg (((32 : Int32) * x0) + (12 : Int32))) x5) 97 (Int32.toNatClampNeg x0) (0 : Int32)) 69 (Int32.toNatClampNeg (6 : Int32)) (((it_sv (it_sv (it_sv (it_sv m 93 (Int32.toNatClampNeg (((32 : Int32) * x0) + (10 : Int32))) x3) 93 (Int32.toNatClampNeg (((32 : Int32) * x0) + (11 : Int32))) x4) 93 (Int32.toNatClampNeg (((32 : Int32) * x0) + (12 : Int32))) x5) 97 (Int32.toNatClampNeg x0) (0 : Int32)) 69 (Int32.toNatClampNeg (6 : Int32))) + (1 : Int32))) _ h) ?_
  rintro _ m7 ⟨rfl, h⟩
  refine it_V.at (pc1 := 72) (ls1 := [some (.ref 66), some (.int x0), some (.int x1), some (.int x2), some (.int x3), some (.int x4), some (.int x5)]) (st1 := []) (mem1 := m7) rfl rfl rfl rfl ?_
  exact it_V.ret it_cd275 it_m275 rfl rfl ⟨rfl, h⟩
set_option maxRecDepth 100000 in
set_option maxHeartbeats 4000000 in
theorem s_276 (kc : it_Kc) (x0 : Int32) (x1 : Int32) (x2 : Int32) (x3 : Int32) (x4 : Int32) (x5 : Int32) (m : it_Me) (Φ : it_Me → Prop) (h : w_276 kc x0 x1 x2 x3 x4 x5 m Φ) : it_V kc it_sh0 276 0 (it_loc0 [(.ref 66), (.int x0), (.int x1), (.int x2), (.int x3), (.int x4), (.int x5)] 8) [] m (it_Pv Φ) := by
  rw [w_276] at h
  refine it_V.at (pc1 := 0) (ls1 := [some (.ref 66), some (.int x0), some (.int x1), some (.int x2), some (.int x3), some (.int x4), some (.int x5), none]) (st1 := []) (mem1 := m) rfl rfl rfl rfl ?_
  refine it_V.sN it_cd276 it_m276 3 (pc1 := 3) (ls1 := [some (.ref 66), some (.int x0), some (.int x1), some (.int x2), some (.int x3), some (.int x4), some (.int x5), none]) (st1 := [(.int x1), (.int x0), (.ref 66)]) (mem1 := m) rfl ?_
  refine it_V.call it_cd276 it_m276 rfl it_m272 [(.ref 66), (.int x0), (.int x1)] [] rfl rfl ⟨Nat.le_of_ble_eq_true rfl, Nat.le_of_ble_eq_true rfl, Nat.le_of_ble_eq_true rfl, Nat.le_of_ble_eq_true rfl, rfl⟩ (s_272 kc x0 x1 m _ h) ?_
  rintro _ m2 ⟨r1, rfl, h⟩
  refine it_V.at (pc1 := 6) (ls1 := [some (.ref 66), some (.int x0), some (.int x1), some (.int x2), some (.int x3), some (.int x4), some (.int x5), none]) (st1 := [(.int r1)]) (mem1 := m2) rfl rfl rfl rfl ?_
  refine it_V.sN it_cd276 it_m276 11 (pc1 := 23) (ls1 := [some (.ref 66), some (.int x0), some (.int x1), some (.int x2), some (.int x3), some (.int x4), some (.int x5), some (.int r1)]) (st1 := [(.int x0), (.ref 94), (.int (((32 : Int32) * x0) + (1 : Int32))), (.ref 93)]) (mem1 := m2) rfl ?_
  obtain ⟨g3, h⟩ := h
  refine it_V.iald it_cd276 it_m276 rfl ((⟨rfl, by decide⟩ : it_isR 94 8)).2 ((⟨rfl, by decide⟩ : it_isR 94 8)).1 g3 ?_
  refine it_V.at (pc1 := 24) (ls1 := [some (.ref 66), some (.int x0), some (.int x1), some (.int x2), some (.int x3), some (.int x4), some (.int x5), some (.int r1)]) (st1 := [(.int (m2 94 (Int32.toNatClampNeg x0))), (.int (((32 : Int32) * x0) + (1 : Int32))), (.ref 93)]) (mem1 := m2) rfl rfl rfl rfl ?_
  obtain ⟨g4, h⟩ := h
  refine it_V.iast it_cd276 it_m276 rfl ((⟨rfl, by decide⟩ : it_isR 93 256)).1 g4 ?_
  refine it_V.at (pc1 := 25) (ls1 := [some (.ref 66), some (.int x0), some (.int x1), some (.int x2), some (.int x3), some (.int x4), some (.int x5), some (.int r1)]) (st1 := []) (mem1 := (it_sv m2 93 (Int32.toNatClampNeg (((32 : Int32) * x0) + (1 : Int32))) (m2 94 (Int32.toNatClampNeg x0)))) rfl rfl rfl rfl ?_
  refine it_V.sN it_cd276 it_m276 15 (pc1 := 47) (ls1 := [some (.ref 66), some (.int x0), some (.int x1), some (.int x2), some (.int x3), some (.int x4), some (.int x5), some (.int r1)]) (st1 := [(.int ((r1 + (12 : Int32)) + ((8 : Int32) * x2))), (.ref 66), (.int (((32 : Int32) * x0) + (13 : Int32))), (.ref 93)]) (mem1 := (it_sv m2 93 (Int32.toNatClampNeg (((32 : Int32) * x0) + (1 : Int32))) (m2 94 (Int32.toNatClampNeg x0)))) rfl ?_
  refine it_V.call it_cd276 it_m276 rfl it_m220 [(.ref 66), (.int ((r1 + (12 : Int32)) + ((8 : Int32) * x2)))] [(.int (((32 : Int32) * x0) + (13 : Int32))), (.ref 93)] rfl rfl ⟨Nat.le_of_ble_eq_true rfl, Nat.le_of_ble_eq_true rfl, Nat.le_of_ble_eq_true rfl, Nat.le_of_ble_eq_true rfl, rfl⟩ (s_220 kc ((r1 + (12 : Int32)) + ((8 : Int32) * x2)) (it_sv m2 93 (Int32.toNatClampNeg (((32 : Int32) * x0) + (1 : Int32))) (m2 94 (Int32.toNatClampNeg x0))) _ h) ?_
  rintro _ m6 ⟨r5, rfl, h⟩
  refine it_V.at (pc1 := 50) (ls1 := [some (.ref 66), some (.int x0), some (.int x1), some (.int x2), some (.int x3), some (.int x4), some (.int x5), some (.int r1)]) (st1 := [(.int r5), (.int (((32 : Int32) * x0) + (13 : Int32))), (.ref 93)]) (mem1 := m6) rfl rfl rfl rfl ?_
  obtain ⟨g7, h⟩ := h
  refine it_V.iast it_cd276 it_m276 rfl ((⟨rfl, by decide⟩ : it_isR 93 256)).1 g7 ?_
  refine it_V.at (pc1 := 51) (ls1 := [some (.ref 66), some (.int x0), some (.int x1), some (.int x2), some (.int x3), some (.int x4), some (.int x5), some (.int r1)]) (st1 := []) (mem1 := (it_sv m6 93 (Int32.toNatClampNeg (((32 : Int32) * x0) + (13 : Int32))) r5)) rfl rfl rfl rfl ?_
  refine it_V.sN it_cd276 it_m276 11 (pc1 := 67) (ls1 := [some (.ref 66), some (.int x0), some (.int x1), some (.int x2), some (.int x3), some (.int x4), some (.int x5), some (.int r1)]) (st1 := [(.int ((r1 + (8 : Int32)) + ((8 : Int32) * x2))), (.ref 66), (.int x0), (.ref 94)]) (mem1 := (it_sv m6 93 (Int32.toNatClampNeg (((32 : Int32) * x0) + (13 : Int32))) r5)) rfl ?_
  refine it_V.call it_cd276 it_m276 rfl it_m220 [(.ref 66), (.int ((r1 + (8 : Int32)) + ((8 : Int32) * x2)))] [(.int x0), (.ref 94)] rfl rfl ⟨Nat.le_of_ble_eq_true rfl, Nat.le_of_ble_eq_true rfl, Nat.le_of_ble_eq_true rfl, Nat.le_of_ble_eq_true rfl, rfl⟩ (s_220 kc ((r1 + (8 : Int32)) + ((8 : Int32) * x2)) (it_sv m6 93 (Int32.toNatClampNeg (((32 : Int32) * x0) + (13 : Int32))) r5) _ h) ?_
  rintro _ m9 ⟨r8, rfl, h⟩
  refine it_V.at (pc1 := 70) (ls1 := [some (.ref 66), some (.int x0), some (.int x1), some (.int x2), some (.int x3), some (.int x4), some (.int x5), some (.int r1)]) (st1 := [(.int r8), (.int x0), (.ref 94)]) (mem1 := m9) rfl rfl rfl rfl ?_
  obtain ⟨g10, h⟩ := h
  refine it_V.iast it_cd276 it_m276 rfl ((⟨rfl, by decide⟩ : it_isR 94 8)).1 g10 ?_
  refine it_V.at (pc1 := 71) (ls1 := [some (.ref 66), some (.int x0), some (.int x1), some (.int x2), some (.int x3), some (.int x4), some (.int x5), some (.int r1)]) (st1 := []) (mem1 := (it_sv m9 94 (Int32.toNatClampNeg x0) r8)) rfl rfl rfl rfl ?_
  refine it_V.sN it_cd276 it_m276 7 (pc1 := 81) (ls1 := [some (.ref 66), some (.int x0), some (.int x1), some (.int x2), some (.int x3), some (.int x4), some (.int x5), some (.int r1)]) (st1 := [(.int x5), (.int x4), (.int x3), (.int x2), (.int x1), (.int x0), (.ref 66)]) (mem1 := (it_sv m9 94 (Int32.toNatClampNeg x0) r8)) rfl ?_
  refine it_V.call it_cd276 it_m276 rfl it_m275 [(.ref 66), (.int x0), (.int x1), (.int x2), (.int x3), (.int x4), (.int x5)] [] rfl rfl ⟨Nat.le_of_ble_eq_true rfl, Nat.le_of_ble_eq_true rfl, Nat.le_of_ble_eq_true rfl, Nat.le_of_ble_eq_true rfl, rfl⟩ (s_275 kc x0 x1 x2 x3 x4 x5 (it_sv m9 94 (Int32.toNatClampNeg x0) r8) _ h) ?_
  rintro _ m11 ⟨rfl, h⟩
  refine it_V.at (pc1 := 84) (ls1 := [some (.ref 66), some (.int x0), some (.int x1), some (.int x2), some (.int x3), some (.int x4), some (.int x5), some (.int r1)]) (st1 := []) (mem1 := m11) rfl rfl rfl rfl ?_
  exact it_V.ret it_cd276 it_m276 rfl rfl ⟨rfl, h⟩
set_option maxRecDepth 100000 in
set_option maxHeartbeats 4000000 in
theorem s_274_20 (kc : it_Kc) (Φ : it_Me → Prop) (m : it_Me) (h : w_274_20 kc Φ m) : it_V kc it_sh0 274 20 [none, none, none, none, none, none, none, none, none] [] m (it_Pv Φ) := by
  rw [w_274_20] at h
  exact it_V.ret it_cd274 it_m274 rfl rfl ⟨rfl, h⟩
set_option maxRecDepth 100000 in
set_option maxHeartbeats 4000000 in
theorem s_274_103 (kc : it_Kc) (Φ : it_Me → Prop) (m : it_Me) (h : w_274_103 kc Φ m) : it_V kc it_sh0 274 103 [none, none, none, none, none, none, none, none, none] [] m (it_Pv Φ) := by
  rw [w_274_103] at h
  exact it_V.ret it_cd274 it_m274 rfl rfl ⟨rfl, h⟩
set_option maxRecDepth 100000 in
set_option maxHeartbeats 4000000 in
theorem s_274_72 (kc : it_Kc) (Φ : it_Me → Prop) (v1 : Int32) (v2 : Int32) (v3 : Int32) (v4 : Int32) (v5 : Int32) (v6 : Int32) (m : it_Me) (h : w_274_72 kc Φ v1 v2 v3 v4 v5 v6 m) : it_V kc it_sh0 274 72 [some (.ref 66), some (.int v1), some (.int v2), some (.int v3), some (.int v4), some (.int v5), some (.int v6), none, none] [] m (it_Pv Φ) := by
  rw [w_274_72] at h
  refine it_V.sN it_cd274 it_m274 3 (pc1 := 75) (ls1 := [some (.ref 66), some (.int v1), some (.int v2), some (.int v3), some (.int v4), some (.int v5), some (.int v6), none, none]) (st1 := [(.int v2), (.int v1), (.ref 66)]) (mem1 := m) rfl ?_
  refine it_V.call it_cd274 it_m274 rfl it_m272 [(.ref 66), (.int v1), (.int v2)] [] rfl rfl ⟨Nat.le_of_ble_eq_true rfl, Nat.le_of_ble_eq_true rfl, Nat.le_of_ble_eq_true rfl, Nat.le_of_ble_eq_true rfl, rfl⟩ (s_272 kc v1 v2 m _ h) ?_
  rintro _ m2 ⟨r1, rfl, h⟩
  refine it_V.at (pc1 := 78) (ls1 := [some (.ref 66), some (.int v1), some (.int v2), some (.int v3), some (.int v4), some (.int v5), some (.int v6), none, none]) (st1 := [(.int r1)]) (mem1 := m2) rfl rfl rfl rfl ?_
  refine it_V.sN it_cd274 it_m274 4 (pc1 := (if r1 = (-1 : Int32) then 103 else 86)) (ls1 := [some (.ref 66), some (.int v1), some (.int v2), some (.int v3), some (.int v4), some (.int v5), some (.int v6), some (.int r1), none]) (st1 := []) (mem1 := m2) rfl ?_
  refine it_V.ite (fun c3 => ?_) (fun c3 => ?_)
  · have h := h.1 c3
    refine it_V.weak (l := [none, none, none, none, none, none, none, none, none]) trivial ?_
    exact s_274_103 kc Φ m2 h
  · have h := h.2 c3
    refine it_V.sN it_cd274 it_m274 8 (pc1 := 97) (ls1 := [some (.ref 66), some (.int v1), some (.int v2), some (.int v3), some (.int v4), some (.int v5), some (.int v6), some (.int r1), none]) (st1 := [(.int ((r1 + (8 : Int32)) + ((8 : Int32) * v3))), (.ref 66)]) (mem1 := m2) rfl ?_
    refine it_V.call it_cd274 it_m274 rfl it_m220 [(.ref 66), (.int ((r1 + (8 : Int32)) + ((8 : Int32) * v3)))] [] rfl rfl ⟨Nat.le_of_ble_eq_true rfl, Nat.le_of_ble_eq_true rfl, Nat.le_of_ble_eq_true rfl, Nat.le_of_ble_eq_true rfl, rfl⟩ (s_220 kc ((r1 + (8 : Int32)) + ((8 : Int32) * v3)) m2 _ h) ?_
    rintro _ m5 ⟨r4, rfl, h⟩
    refine it_V.at (pc1 := 100) (ls1 := [some (.ref 66), some (.int v1), some (.int v2), some (.int v3), some (.int v4), some (.int v5), some (.int v6), some (.int r1), none]) (st1 := [(.int r4)]) (mem1 := m5) rfl rfl rfl rfl ?_
    refine it_V.sN it_cd274 it_m274 1 (pc1 := (if r4 = 0 then 103 else 104)) (ls1 := [some (.ref 66), some (.int v1), some (.int v2), some (.int v3), some (.int v4), some (.int v5), some (.int v6), some (.int r1), none]) (st1 := []) (mem1 := m5) rfl ?_
    refine it_V.ite (fun c6 => ?_) (fun c6 => ?_)
    · have h := h.1 c6
      refine it_V.weak (l := [none, none, none, none, none, none, none, none, none]) trivial ?_
      exact s_274_103 kc Φ m5 h
    · have h := h.2 c6
      refine it_V.sN it_cd274 it_m274 3 (pc1 := 109) (ls1 := [some (.ref 66), some (.int v1), some (.int v2), some (.int v3), some (.int v4), some (.int v5), some (.int v6), some (.int r1), none]) (st1 := [(.int v1), (.ref 95)]) (mem1 := m5) rfl ?_
      obtain ⟨g7, h⟩ := h
      refine it_V.iald it_cd274 it_m274 rfl ((⟨rfl, by decide⟩ : it_isR 95 8)).2 ((⟨rfl, by decide⟩ : it_isR 95 8)).1 g7 ?_
      refine it_V.at (pc1 := 110) (ls1 := [some (.ref 66), some (.int v1), some (.int v2), some (.int v3), some (.int v4), some (.int v5), some (.int v6), some (.int r1), none]) (st1 := [(.int (m5 95 (Int32.toNatClampNeg v1)))]) (mem1 := m5) rfl rfl rfl rfl ?_
      refine it_V.sN it_cd274 it_m274 2 (pc1 := (if (m5 95 (Int32.toNatClampNeg v1)) = (2 : Int32) then 114 else 135)) (ls1 := [some (.ref 66), some (.int v1), some (.int v2), some (.int v3), some (.int v4), some (.int v5), some (.int v6), some (.int r1), none]) (st1 := []) (mem1 := m5) rfl ?_
      refine it_V.ite (fun c8 => ?_) (fun c8 => ?_)
      · have h := h.1 c8
        refine it_V.sN it_cd274 it_m274 4 (pc1 := 120) (ls1 := [some (.ref 66), some (.int v1), some (.int v2), some (.int v3), some (.int v4), some (.int v5), some (.int v6), some (.int r1), none]) (st1 := [(.int (1 : Int32)), (.int v1), (.ref 95)]) (mem1 := m5) rfl ?_
        obtain ⟨g9, h⟩ := h
        refine it_V.iast it_cd274 it_m274 rfl ((⟨rfl, by decide⟩ : it_isR 95 8)).1 g9 ?_
        refine it_V.at (pc1 := 121) (ls1 := [some (.ref 66), some (.int v1), some (.int v2), some (.int v3), some (.int v4), some (.int v5), some (.int v6), some (.int r1), none]) (st1 := []) (mem1 := (it_sv m5 95 (Int32.toNatClampNeg v1) (1 : Int32))) rfl rfl rfl rfl ?_
        refine it_V.sN it_cd274 it_m274 7 (pc1 := 131) (ls1 := [some (.ref 66), some (.int v1), some (.int v2), some (.int v3), some (.int v4), some (.int v5), some (.int v6), some (.int r1), none]) (st1 := [(.int v6), (.int v5), (.int v4), (.int v3), (.int v2), (.int v1), (.ref 66)]) (mem1 := (it_sv m5 95 (Int32.toNatClampNeg v1) (1 : Int32))) rfl ?_
        refine it_V.call it_cd274 it_m274 rfl it_m276 [(.ref 66), (.int v1), (.int v2), (.int v3), (.int v4), (.int v5), (.int v6)] [] rfl rfl ⟨Nat.le_of_ble_eq_true rfl, Nat.le_of_ble_eq_true rfl, Nat.le_of_ble_eq_true rfl, Nat.le_of_ble_eq_true rfl, rfl⟩ (s_276 kc v1 v2 v3 v4 v5 v6 (it_sv m5 95 (Int32.toNatClampNeg v1) (1 : Int32)) _ h) ?_
        rintro _ m10 ⟨rfl, h⟩
        refine it_V.at (pc1 := 134) (ls1 := [some (.ref 66), some (.int v1), some (.int v2), some (.int v3), some (.int v4), some (.int v5), some (.int v6), some (.int r1), none]) (st1 := []) (mem1 := m10) rfl rfl rfl rfl ?_
        exact it_V.ret it_cd274 it_m274 rfl rfl ⟨rfl, h⟩
      · have h := h.2 c8
        refine it_V.sN it_cd274 it_m274 3 (pc1 := 140) (ls1 := [some (.ref 66), some (.int v1), some (.int v2), some (.int v3), some (.int v4), some (.int v5), some (.int v6), some (.int r1), none]) (st1 := [(.int v1), (.ref 110)]) (mem1 := m5) rfl ?_
        obtain ⟨g11, h⟩ := h
        refine it_V.iald it_cd274 it_m274 rfl ((⟨rfl, by decide⟩ : it_isR 110 8)).2 ((⟨rfl, by decide⟩ : it_isR 110 8)).1 g11 ?_
        refine it_V.at (pc1 := 141) (ls1 := [some (.ref 66), some (.int v1), some (.int v2), some (.int v3), some (.int v4), some (.int v5), some (.int v6), some (.int r1), none]) (st1 := [(.int (m5 110 (Int32.toNatClampNeg v1)))]) (mem1 := m5) rfl rfl rfl rfl ?_
        refine it_V.sN it_cd274 it_m274 2 (pc1 := (if (m5 110 (Int32.toNatClampNeg v1)) = (10 : Int32) then 146 else 180)) (ls1 := [some (.ref 66), some (.int v1), some (.int v2), some (.int v3), some (.int v4), some (.int v5), some (.int v6), some (.int r1), none]) (st1 := []) (mem1 := m5) rfl ?_
        refine it_V.ite (fun c12 => ?_) (fun c12 => ?_)
        · have h := h.1 c12
          refine it_V.sN it_cd274 it_m274 4 (pc1 := 153) (ls1 := [some (.ref 66), some (.int v1), some (.int v2), some (.int v3), some (.int v4), some (.int v5), some (.int v6), some (.int r1), none]) (st1 := [(.int (9 : Int32)), (.ref 69), (.int (9 : Int32)), (.ref 69)]) (mem1 := m5) rfl ?_
          obtain ⟨g13, h⟩ := h
          refine it_V.iald it_cd274 it_m274 rfl ((⟨rfl, by decide⟩ : it_isR 69 12)).2 ((⟨rfl, by decide⟩ : it_isR 69 12)).1 g13 ?_
          refine it_V.at (pc1 := 154) (ls1 := [some (.ref 66), some (.int v1), some (.int v2), some (.int v3), some (.int v4), some (.int v5), some (.int v6), some (.int r1), none]) (st1 := [(.int (m5 69 (Int32.toNatClampNeg (9 : Int32)))), (.int (9 : Int32)), (.ref 69)]) (mem1 := m5) rfl rfl rfl rfl ?_
          refine it_V.sN it_cd274 it_m274 2 (pc1 := 156) (ls1 := [some (.ref 66), some (.int v1), some (.int v2), some (.int v3), some (.int v4), some (.int v5), some (.int v6), some (.int r1), none]) (st1 := [(.int ((m5 69 (Int32.toNatClampNeg (9 : Int32))) + (1 : Int32))), (.int (9 : Int32)), (.ref 69)]) (mem1 := m5) rfl ?_
          obtain ⟨g14, h⟩ := h
          refine it_V.iast it_cd274 it_m274 rfl ((⟨rfl, by decide⟩ : it_isR 69 12)).1 g14 ?_
          refine it_V.at (pc1 := 157) (ls1 := [some (.ref 66), some (.int v1), some (.int v2), some (.int v3), some (.int v4), some (.int v5), some (.int v6), some (.int r1), none]) (st1 := []) (mem1 := (it_sv m5 69 (Int32.toNatClampNeg (9 : Int32)) ((m5 69 (Int32.toNatClampNeg (9 : Int32))) + (1 : Int32)))) rfl rfl rfl rfl ?_
          refine it_V.sN it_cd274 it_m274 4 (pc1 := 163) (ls1 := [some (.ref 66), some (.int v1), some (.int v2), some (.int v3), some (.int v4), some (.int v5), some (.int v6), some (.int r1), none]) (st1 := [(.int v1), (.ref 105), (.int v1), (.ref 105)]) (mem1 := (it_sv m5 69 (Int32.toNatClampNeg (9 : Int32)) ((m5 69 (Int32.toNatClampNeg (9 : Int32))) + (1 : Int32)))) rfl ?_
          obtain ⟨g15, h⟩ := h
          refine it_V.iald it_cd274 it_m274 rfl ((⟨rfl, by decide⟩ : it_isR 105 8)).2 ((⟨rfl, by decide⟩ : it_isR 105 8)).1 g15 ?_
          refine it_V.at (pc1 := 164) (ls1 := [some (.ref 66), some (.int v1), some (.int v2), some (.int v3), some (.int v4), some (.int v5), some (.int v6), some (.int r1), none]) (st1 := [(.int ((it_sv m5 69 (Int32.toNatClampNeg (9 : Int32)) ((m5 69 (Int32.toNatClampNeg (9 : Int32))) + (1 : Int32))) 105 (Int32.toNatClampNeg v1))), (.int v1), (.ref 105)]) (mem1 := (it_sv m5 69 (Int32.toNatClampNeg (9 : Int32)) ((m5 69 (Int32.toNatClampNeg (9 : Int32))) + (1 : Int32)))) rfl rfl rfl rfl ?_
          refine it_V.sN it_cd274 it_m274 2 (pc1 := 166) (ls1 := [some (.ref 66), some (.int v1), some (.int v2), some (.int v3), some (.int v4), some (.int v5), some (.int v6), some (.int r1), none]) (st1 := [(.int (((it_sv m5 69 (Int32.toNatClampNeg (9 : Int32)) ((m5 69 (Int32.toNatClampNeg (9 : Int32))) + (1 : Int32))) 105 (Int32.toNatClampNeg v1)) + (1 : Int32))), (.int v1), (.ref 105)]) (mem1 := (it_sv m5 69 (Int32.toNatClampNeg (9 : Int32)) ((m5 69 (Int32.toNatClampNeg (9 : Int32))) + (1 : Int32)))) rfl ?_
          obtain ⟨g16, h⟩ := h
          refine it_V.iast it_cd274 it_m274 rfl ((⟨rfl, by decide⟩ : it_isR 105 8)).1 g16 ?_
          refine it_V.at (pc1 := 167) (ls1 := [some (.ref 66), some (.int v1), some (.int v2), some (.int v3), some (.int v4), some (.int v5), some (.int v6), some (.int r1), none]) (st1 := []) (mem1 := (it_sv (it_sv m5 69 (Int32.toNatClampNeg (9 : Int32)) ((m5 69 (Int32.toNatClampNeg (9 : Int32))) + (1 : Int32))) 105 (Int32.toNatClampNeg v1) (((it_sv m5 69 (Int32.toNatClampNeg (9 : Int32)) ((m5 69 (Int32.toNatClampNeg (9 : Int32))) + (1 : Int32))) 105 (Int32.toNatClampNeg v1)) + (1 : Int32)))) rfl rfl rfl rfl ?_
          refine it_V.sN it_cd274 it_m274 8 (pc1 := 176) (ls1 := [some (.ref 66), some (.int v1), some (.int v2), some (.int v3), some (.int v4), some (.int v5), some (.int v6), some (.int r1), none]) (st1 := [(.int (((16 : Int32) * v2) + v3)), (.int (5 : Int32)), (.int v1), (.ref 66)]) (mem1 := (it_sv (it_sv m5 69 (Int32.toNatClampNeg (9 : Int32)) ((m5 69 (Int32.toNatClampNeg (9 : Int32))) + (1 : Int32))) 105 (Int32.toNatClampNeg v1) (((it_sv m5 69 (Int32.toNatClampNeg (9 : Int32)) ((m5 69 (Int32.toNatClampNeg (9 : Int32))) + (1 : Int32))) 105 (Int32.toNatClampNeg v1)) + (1 : Int32)))) rfl ?_
          refine it_V.call it_cd274 it_m274 rfl it_m257 [(.ref 66), (.int v1), (.int (5 : Int32)), (.int (((16 : Int32) * v2) + v3))] [] rfl rfl ⟨Nat.le_of_ble_eq_true rfl, Nat.le_of_ble_eq_true rfl, Nat.le_of_ble_eq_true rfl, Nat.le_of_ble_eq_true rfl, rfl⟩ (s_257 kc v1 (5 : Int32) (((16 : Int32) * v2) + v3) (it_sv (it_sv m5 69 (Int32.toNatClampNeg (9 : Int32)) ((m5 69 (Int32.toNatClampNeg (9 : Int32))) + (1 : Int32))) 105 (Int32.toNatClampNeg v1) (((it_sv m5 69 (Int32.toNatClampNeg (9 : Int32)) ((m5 69 (Int32.toNatClampNeg (9 : Int32))) + (1 : Int32))) 105 (Int32.toNatClampNeg v1)) + (1 : Int32))) _ h) ?_
          rintro _ m17 ⟨rfl, h⟩
          refine it_V.at (pc1 := 179) (ls1 := [some (.ref 66), some (.int v1), some (.int v2), some (.int v3), some (.int v4), some (.int v5), some (.int v6), some (.int r1), none]) (st1 := []) (mem1 := m17) rfl rfl rfl rfl ?_
          exact it_V.ret it_cd274 it_m274 rfl rfl ⟨rfl, h⟩
        · have h := h.2 c12
          refine it_V.sN it_cd274 it_m274 7 (pc1 := 190) (ls1 := [some (.ref 66), some (.int v1), some (.int v2), some (.int v3), some (.int v4), some (.int v5), some (.int v6), some (.int r1), none]) (st1 := [(.int v1), (.ref 110), (.int (5 : Int32)), (.int ((50 : Int32) * v1))]) (mem1 := m5) rfl ?_
          obtain ⟨g18, h⟩ := h
          refine it_V.iald it_cd274 it_m274 rfl ((⟨rfl, by decide⟩ : it_isR 110 8)).2 ((⟨rfl, by decide⟩ : it_isR 110 8)).1 g18 ?_
          refine it_V.at (pc1 := 191) (ls1 := [some (.ref 66), some (.int v1), some (.int v2), some (.int v3), some (.int v4), some (.int v5), some (.int v6), some (.int r1), none]) (st1 := [(.int (m5 110 (Int32.toNatClampNeg v1))), (.int (5 : Int32)), (.int ((50 : Int32) * v1))]) (mem1 := m5) rfl rfl rfl rfl ?_
          refine it_V.sN it_cd274 it_m274 7 (pc1 := 202) (ls1 := [some (.ref 66), some (.int v1), some (.int v2), some (.int v3), some (.int v4), some (.int v5), some (.int v6), some (.int r1), some (.int (((50 : Int32) * v1) + ((5 : Int32) * (m5 110 (Int32.toNatClampNeg v1)))))]) (st1 := [(.int v2), (.int (((50 : Int32) * v1) + ((5 : Int32) * (m5 110 (Int32.toNatClampNeg v1))))), (.ref 109)]) (mem1 := m5) rfl ?_
          obtain ⟨g19, h⟩ := h
          refine it_V.iast it_cd274 it_m274 rfl ((⟨rfl, by decide⟩ : it_isR 109 400)).1 g19 ?_
          refine it_V.at (pc1 := 203) (ls1 := [some (.ref 66), some (.int v1), some (.int v2), some (.int v3), some (.int v4), some (.int v5), some (.int v6), some (.int r1), some (.int (((50 : Int32) * v1) + ((5 : Int32) * (m5 110 (Int32.toNatClampNeg v1)))))]) (st1 := []) (mem1 := (it_sv m5 109 (Int32.toNatClampNeg (((50 : Int32) * v1) + ((5 : Int32) * (m5 110 (Int32.toNatClampNeg v1))))) v2)) rfl rfl rfl rfl ?_
          refine it_V.sN it_cd274 it_m274 6 (pc1 := 212) (ls1 := [some (.ref 66), some (.int v1), some (.int v2), some (.int v3), some (.int v4), some (.int v5), some (.int v6), some (.int r1), some (.int (((50 : Int32) * v1) + ((5 : Int32) * (m5 110 (Int32.toNatClampNeg v1)))))]) (st1 := [(.int v3), (.int ((((50 : Int32) * v1) + ((5 : Int32) * (m5 110 (Int32.toNatClampNeg v1)))) + (1 : Int32))), (.ref 109)]) (mem1 := (it_sv m5 109 (Int32.toNatClampNeg (((50 : Int32) * v1) + ((5 : Int32) * (m5 110 (Int32.toNatClampNeg v1))))) v2)) rfl ?_
          obtain ⟨g20, h⟩ := h
          refine it_V.iast it_cd274 it_m274 rfl ((⟨rfl, by decide⟩ : it_isR 109 400)).1 g20 ?_
          refine it_V.at (pc1 := 213) (ls1 := [some (.ref 66), some (.int v1), some (.int v2), some (.int v3), some (.int v4), some (.int v5), some (.int v6), some (.int r1), some (.int (((50 : Int32) * v1) + ((5 : Int32) * (m5 110 (Int32.toNatClampNeg v1)))))]) (st1 := []) (mem1 := (it_sv (it_sv m5 109 (Int32.toNatClampNeg (((50 : Int32) * v1) + ((5 : Int32) * (m5 110 (Int32.toNatClampNeg v1))))) v2) 109 (Int32.toNatClampNeg ((((50 : Int32) * v1) + ((5 : Int32) * (m5 110 (Int32.toNatClampNeg v1)))) + (1 : Int32))) v3)) rfl rfl rfl rfl ?_
          refine it_V.sN it_cd274 it_m274 6 (pc1 := 223) (ls1 := [some (.ref 66), some (.int v1), some (.int v2), some (.int v3), some (.int v4), some (.int v5), some (.int v6), some (.int r1), some (.int (((50 : Int32) * v1) + ((5 : Int32) * (m5 110 (Int32.toNatClampNeg v1)))))]) (st1 := [(.int v4), (.int ((((50 : Int32) * v1) + ((5 : Int32) * (m5 110 (Int32.toNatClampNeg v1)))) + (2 : Int32))), (.ref 109)]) (mem1 := (it_sv (it_sv m5 109 (Int32.toNatClampNeg (((50 : Int32) * v1) + ((5 : Int32) * (m5 110 (Int32.toNatClampNeg v1))))) v2) 109 (Int32.toNatClampNeg ((((50 : Int32) * v1) + ((5 : Int32) * (m5 110 (Int32.toNatClampNeg v1)))) + (1 : Int32))) v3)) rfl ?_
          obtain ⟨g21, h⟩ := h
          refine it_V.iast it_cd274 it_m274 rfl ((⟨rfl, by decide⟩ : it_isR 109 400)).1 g21 ?_
          refine it_V.at (pc1 := 224) (ls1 := [some (.ref 66), some (.int v1), some (.int v2), some (.int v3), some (.int v4), some (.int v5), some (.int v6), some (.int r1), some (.int (((50 : Int32) * v1) + ((5 : Int32) * (m5 110 (Int32.toNatClampNeg v1)))))]) (st1 := []) (mem1 := (it_sv (it_sv (it_sv m5 109 (Int32.toNatClampNeg (((50 : Int32) * v1) + ((5 : Int32) * (m5 110 (Int32.toNatClampNeg v1))))) v2) 109 (Int32.toNatClampNeg ((((50 : Int32) * v1) + ((5 : Int32) * (m5 110 (Int32.toNatClampNeg v1)))) + (1 : Int32))) v3) 109 (Int32.toNatClampNeg ((((50 : Int32) * v1) + ((5 : Int32) * (m5 110 (Int32.toNatClampNeg v1)))) + (2 : Int32))) v4)) rfl rfl rfl rfl ?_
          refine it_V.sN it_cd274 it_m274 6 (pc1 := 234) (ls1 := [some (.ref 66), some (.int v1), some (.int v2), some (.int v3), some (.int v4), some (.int v5), some (.int v6), some (.int r1), some (.int (((50 : Int32) * v1) + ((5 : Int32) * (m5 110 (Int32.toNatClampNeg v1)))))]) (st1 := [(.int v5), (.int ((((50 : Int32) * v1) + ((5 : Int32) * (m5 110 (Int32.toNatClampNeg v1)))) + (3 : Int32))), (.ref 109)]) (mem1 := (it_sv (it_sv (it_sv m5 109 (Int32.toNatClampNeg (((50 : Int32) * v1) + ((5 : Int32) * (m5 110 (Int32.toNatClampNeg v1))))) v2) 109 (Int32.toNatClampNeg ((((50 : Int32) * v1) + ((5 : Int32) * (m5 110 (Int32.toNatClampNeg v1)))) + (1 : Int32))) v3) 109 (Int32.toNatClampNeg ((((50 : Int32) * v1) + ((5 : Int32) * (m5 110 (Int32.toNatClampNeg v1)))) + (2 : Int32))) v4)) rfl ?_
          obtain ⟨g22, h⟩ := h
          refine it_V.iast it_cd274 it_m274 rfl ((⟨rfl, by decide⟩ : it_isR 109 400)).1 g22 ?_
          refine it_V.at (pc1 := 235) (ls1 := [some (.ref 66), some (.int v1), some (.int v2), some (.int v3), some (.int v4), some (.int v5), some (.int v6), some (.int r1), some (.int (((50 : Int32) * v1) + ((5 : Int32) * (m5 110 (Int32.toNatClampNeg v1)))))]) (st1 := []) (mem1 := (it_sv (it_sv (it_sv (it_sv m5 109 (Int32.toNatClampNeg (((50 : Int32) * v1) + ((5 : Int32) * (m5 110 (Int32.toNatClampNeg v1))))) v2) 109 (Int32.toNatClampNeg ((((50 : Int32) * v1) + ((5 : Int32) * (m5 110 (Int32.toNatClampNeg v1)))) + (1 : Int32))) v3) 109 (Int32.toNatClampNeg ((((50 : Int32) * v1) + ((5 : Int32) * (m5 110 (Int32.toNatClampNeg v1)))) + (2 : Int32))) v4) 109 (Int32.toNatClampNeg ((((50 : Int32) * v1) + ((5 : Int32) * (m5 110 (Int32.toNatClampNeg v1)))) + (3 : Int32))) v5)) rfl rfl rfl rfl ?_
          refine it_V.sN it_cd274 it_m274 6 (pc1 := 245) (ls1 := [some (.ref 66), some (.int v1), some (.int v2), some (.int v3), some (.int v4), some (.int v5), some (.int v6), some (.int r1), some (.int (((50 : Int32) * v1) + ((5 : Int32) * (m5 110 (Int32.toNatClampNeg v1)))))]) (st1 := [(.int v6), (.int ((((50 : Int32) * v1) + ((5 : Int32) * (m5 110 (Int32.toNatClampNeg v1)))) + (4 : Int32))), (.ref 109)]) (mem1 := (it_sv (it_sv (it_sv (it_sv m5 109 (Int32.toNatClampNeg (((50 : Int32) * v1) + ((5 : Int32) * (m5 110 (Int32.toNatClampNeg v1))))) v2) 109 (Int32.toNatClampNeg ((((50 : Int32) * v1) + ((5 : Int32) * (m5 110 (Int32.toNatClampNeg v1)))) + (1 : Int32))) v3) 109 (Int32.toNatClampNeg ((((50 : Int32) * v1) + ((5 : Int32) * (m5 110 (Int32.toNatClampNeg v1)))) + (2 : Int32))) v4) 109 (Int32.toNatClampNeg ((((50 : Int32) * v1) + ((5 : Int32) * (m5 110 (Int32.toNatClampNeg v1)))) + (3 : Int32))) v5)) rfl ?_
          obtain ⟨g23, h⟩ := h
          refine it_V.iast it_cd274 it_m274 rfl ((⟨rfl, by decide⟩ : it_isR 109 400)).1 g23 ?_
          refine it_V.at (pc1 := 246) (ls1 := [some (.ref 66), some (.int v1), some (.int v2), some (.int v3), some (.int v4), some (.int v5), some (.int v6), some (.int r1), some (.int (((50 : Int32) * v1) + ((5 : Int32) * (m5 110 (Int32.toNatClampNeg v1)))))]) (st1 := []) (mem1 := (it_sv (it_sv (it_sv (it_sv (it_sv m5 109 (Int32.toNatClampNeg (((50 : Int32) * v1) + ((5 : Int32) * (m5 110 (Int32.toNatClampNeg v1))))) v2) 109 (Int32.toNatClampNeg ((((50 : Int32) * v1) + ((5 : Int32) * (m5 110 (Int32.toNatClampNeg v1)))) + (1 : Int32))) v3) 109 (Int32.toNatClampNeg ((((50 : Int32) * v1) + ((5 : Int32) * (m5 110 (Int32.toNatClampNeg v1)))) + (2 : Int32))) v4) 109 (Int32.toNatClampNeg ((((50 : Int32) * v1) + ((5 : Int32) * (m5 110 (Int32.toNatClampNeg v1)))) + (3 : Int32))) v5) 109 (Int32.toNatClampNeg ((((50 : Int32) * v1) + ((5 : Int32) * (m5 110 (Int32.toNatClampNeg v1)))) + (4 : Int32))) v6)) rfl rfl rfl rfl ?_
          refine it_V.sN it_cd274 it_m274 4 (pc1 := 252) (ls1 := [some (.ref 66), some (.int v1), some (.int v2), some (.int v3), some (.int v4), some (.int v5), some (.int v6), some (.int r1), some (.int (((50 : Int32) * v1) + ((5 : Int32) * (m5 110 (Int32.toNatClampNeg v1)))))]) (st1 := [(.int v1), (.ref 110), (.int v1), (.ref 110)]) (mem1 := (it_sv (it_sv (it_sv (it_sv (it_sv m5 109 (Int32.toNatClampNeg (((50 : Int32) * v1) + ((5 : Int32) * (m5 110 (Int32.toNatClampNeg v1))))) v2) 109 (Int32.toNatClampNeg ((((50 : Int32) * v1) + ((5 : Int32) * (m5 110 (Int32.toNatClampNeg v1)))) + (1 : Int32))) v3) 109 (Int32.toNatClampNeg ((((50 : Int32) * v1) + ((5 : Int32) * (m5 110 (Int32.toNatClampNeg v1)))) + (2 : Int32))) v4) 109 (Int32.toNatClampNeg ((((50 : Int32) * v1) + ((5 : Int32) * (m5 110 (Int32.toNatClampNeg v1)))) + (3 : Int32))) v5) 109 (Int32.toNatClampNeg ((((50 : Int32) * v1) + ((5 : Int32) * (m5 110 (Int32.toNatClampNeg v1)))) + (4 : Int32))) v6)) rfl ?_
          obtain ⟨g24, h⟩ := h
          refine it_V.iald it_cd274 it_m274 rfl ((⟨rfl, by decide⟩ : it_isR 110 8)).2 ((⟨rfl, by decide⟩ : it_isR 110 8)).1 g24 ?_
          refine it_V.at (pc1 := 253) (ls1 := [some (.ref 66), some (.int v1), some (.int v2), some (.int v3), some (.int v4), some (.int v5), some (.int v6), some (.int r1), some (.int (((50 : Int32) * v1) + ((5 : Int32) * (m5 110 (Int32.toNatClampNeg v1)))))]) (st1 := [(.int ((it_sv (it_sv (it_sv (it_sv (it_sv m5 109 (Int32.toNatClampNeg (((50 : Int32) * v1) + ((5 : Int32) * (m5 110 (Int32.toNatClampNeg v1))))) v2) 109 (Int32.toNatClampNeg ((((50 : Int32) * v1) + ((5 : Int32) * (m5 110 (Int32.toNatClampNeg v1)))) + (1 : Int32))) v3) 109 (Int32.toNatClampNeg ((((50 : Int32) * v1) + ((5 : Int32) * (m5 110 (Int32.toNatClampNeg v1)))) + (2 : Int32))) v4) 109 (Int32.toNatClampNeg ((((50 : Int32) * v1) + ((5 : Int32) * (m5 110 (Int32.toNatClampNeg v1)))) + (3 : Int32))) v5) 109 (Int32.toNatClampNeg ((((50 : Int32) * v1) + ((5 : Int32) * (m5 110 (Int32.toNatClampNeg v1)))) + (4 : Int32))) v6) 110 (Int32.toNatClampNeg v1))), (.int v1), (.ref 110)]) (mem1 := (it_sv (it_sv (it_sv (it_sv (it_sv m5 109 (Int32.toNatClampNeg (((50 : Int32) * v1) + ((5 : Int32) * (m5 110 (Int32.toNatClampNeg v1))))) v2) 109 (Int32.toNatClampNeg ((((50 : Int32) * v1) + ((5 : Int32) * (m5 110 (Int32.toNatClampNeg v1)))) + (1 : Int32))) v3) 109 (Int32.toNatClampNeg ((((50 : Int32) * v1) + ((5 : Int32) * (m5 110 (Int32.toNatClampNeg v1)))) + (2 : Int32))) v4) 109 (Int32.toNatClampNeg ((((50 : Int32) * v1) + ((5 : Int32) * (m5 110 (Int32.toNatClampNeg v1)))) + (3 : Int32))) v5) 109 (Int32.toNatClampNeg ((((50 : Int32) * v1) + ((5 : Int32) * (m5 110 (Int32.toNatClampNeg v1)))) + (4 : Int32))) v6)) rfl rfl rfl rfl ?_
          refine it_V.sN it_cd274 it_m274 2 (pc1 := 255) (ls1 := [some (.ref 66), some (.int v1), some (.int v2), some (.int v3), some (.int v4), some (.int v5), some (.int v6), some (.int r1), some (.int (((50 : Int32) * v1) + ((5 : Int32) * (m5 110 (Int32.toNatClampNeg v1)))))]) (st1 := [(.int (((it_sv (it_sv (it_sv (it_sv (it_sv m5 109 (Int32.toNatClampNeg (((50 : Int32) * v1) + ((5 : Int32) * (m5 110 (Int32.toNatClampNeg v1))))) v2) 109 (Int32.toNatClampNeg ((((50 : Int32) * v1) + ((5 : Int32) * (m5 110 (Int32.toNatClampNeg v1)))) + (1 : Int32))) v3) 109 (Int32.toNatClampNeg ((((50 : Int32) * v1) + ((5 : Int32) * (m5 110 (Int32.toNatClampNeg v1)))) + (2 : Int32))) v4) 109 (Int32.toNatClampNeg ((((50 : Int32) * v1) + ((5 : Int32) * (m5 110 (Int32.toNatClampNeg v1)))) + (3 : Int32))) v5) 109 (Int32.toNatClampNeg ((((50 : Int32) * v1) + ((5 : Int32) * (m5 110 (Int32.toNatClampNeg v1)))) + (4 : Int32))) v6) 110 (Int32.toNatClampNeg v1)) + (1 : Int32))), (.int v1), (.ref 110)]) (mem1 := (it_sv (it_sv (it_sv (it_sv (it_sv m5 109 (Int32.toNatClampNeg (((50 : Int32) * v1) + ((5 : Int32) * (m5 110 (Int32.toNatClampNeg v1))))) v2) 109 (Int32.toNatClampNeg ((((50 : Int32) * v1) + ((5 : Int32) * (m5 110 (Int32.toNatClampNeg v1)))) + (1 : Int32))) v3) 109 (Int32.toNatClampNeg ((((50 : Int32) * v1) + ((5 : Int32) * (m5 110 (Int32.toNatClampNeg v1)))) + (2 : Int32))) v4) 109 (Int32.toNatClampNeg ((((50 : Int32) * v1) + ((5 : Int32) * (m5 110 (Int32.toNatClampNeg v1)))) + (3 : Int32))) v5) 109 (Int32.toNatClampNeg ((((50 : Int32) * v1) + ((5 : Int32) * (m5 110 (Int32.toNatClampNeg v1)))) + (4 : Int32))) v6)) rfl ?_
          obtain ⟨g25, h⟩ := h
          refine it_V.iast it_cd274 it_m274 rfl ((⟨rfl, by decide⟩ : it_isR 110 8)).1 g25 ?_
          refine it_V.at (pc1 := 256) (ls1 := [some (.ref 66), some (.int v1), some (.int v2), some (.int v3), some (.int v4), some (.int v5), some (.int v6), some (.int r1), some (.int (((50 : Int32) * v1) + ((5 : Int32) * (m5 110 (Int32.toNatClampNeg v1)))))]) (st1 := []) (mem1 := (it_sv (it_sv (it_sv (it_sv (it_sv (it_sv m5 109 (Int32.toNatClampNeg (((50 : Int32) * v1) + ((5 : Int32) * (m5 110 (Int32.toNatClampNeg v1))))) v2) 109 (Int32.toNatClampNeg ((((50 : Int32) * v1) + ((5 : Int32) * (m5 110 (Int32.toNatClampNeg v1)))) + (1 : Int32))) v3) 109 (Int32.toNatClampNeg ((((50 : Int32) * v1) + ((5 : Int32) * (m5 110 (Int32.toNatClampNeg v1)))) + (2 : Int32))) v4) 109 (Int32.toNatClampNeg ((((50 : Int32) * v1) + ((5 : Int32) * (m5 110 (Int32.toNatClampNeg v1)))) + (3 : Int32))) v5) 109 (Int32.toNatClampNeg ((((50 : Int32) * v1) + ((5 : Int32) * (m5 110 (Int32.toNatClampNeg v1)))) + (4 : Int32))) v6) 110 (Int32.toNatClampNeg v1) (((it_sv (it_sv (it_sv (it_sv (it_sv m5 109 (Int32.toNatClampNeg (((50 : Int32) * v1) + ((5 : Int32) * (m5 110 (Int32.toNatClampNeg v1))))) v2) 109 (Int32.toNatClampNeg ((((50 : Int32) * v1) + ((5 : Int32) * (m5 110 (Int32.toNatClampNeg v1)))) + (1 : Int32))) v3) 109 (Int32.toNatClampNeg ((((50 : Int32) * v1) + ((5 : Int32) * (m5 110 (Int32.toNatClampNeg v1)))) + (2 : Int32))) v4) 109 (Int32.toNatClampNeg ((((50 : Int32) * v1) + ((5 : Int32) * (m5 110 (Int32.toNatClampNeg v1)))) + (3 : Int32))) v5) 109 (Int32.toNatClampNeg ((((50 : Int32) * v1) + ((5 : Int32) * (m5 110 (Int32.toNatClampNeg v1)))) + (4 : Int32))) v6) 110 (Int32.toNatClampNeg v1)) + (1 : Int32)))) rfl rfl rfl rfl ?_
          exact it_V.ret it_cd274 it_m274 rfl rfl ⟨rfl, h⟩
set_option maxRecDepth 100000 in
set_option maxHeartbeats 4000000 in
theorem s_274 (kc : it_Kc) (x0 : Int32) (x1 : Int32) (x2 : Int32) (x3 : Int32) (x4 : Int32) (x5 : Int32) (m : it_Me) (Φ : it_Me → Prop) (h : w_274 kc x0 x1 x2 x3 x4 x5 m Φ) : it_V kc it_sh0 274 0 (it_loc0 [(.ref 66), (.int x0), (.int x1), (.int x2), (.int x3), (.int x4), (.int x5)] 9) [] m (it_Pv Φ) := by
  rw [w_274] at h
  refine it_V.at (pc1 := 0) (ls1 := [some (.ref 66), some (.int x0), some (.int x1), some (.int x2), some (.int x3), some (.int x4), some (.int x5), none, none]) (st1 := []) (mem1 := m) rfl rfl rfl rfl ?_
  refine it_V.sN it_cd274 it_m274 3 (pc1 := 5) (ls1 := [some (.ref 66), some (.int x0), some (.int x1), some (.int x2), some (.int x3), some (.int x4), some (.int x5), none, none]) (st1 := [(.int x0), (.ref 95)]) (mem1 := m) rfl ?_
  obtain ⟨g1, h⟩ := h
  refine it_V.iald it_cd274 it_m274 rfl ((⟨rfl, by decide⟩ : it_isR 95 8)).2 ((⟨rfl, by decide⟩ : it_isR 95 8)).1 g1 ?_
  refine it_V.at (pc1 := 6) (ls1 := [some (.ref 66), some (.int x0), some (.int x1), some (.int x2), some (.int x3), some (.int x4), some (.int x5), none, none]) (st1 := [(.int (m 95 (Int32.toNatClampNeg x0)))]) (mem1 := m) rfl rfl rfl rfl ?_
  refine it_V.sN it_cd274 it_m274 2 (pc1 := (if (m 95 (Int32.toNatClampNeg x0)) = (4 : Int32) then 20 else 10)) (ls1 := [some (.ref 66), some (.int x0), some (.int x1), some (.int x2), some (.int x3), some (.int x4), some (.int x5), none, none]) (st1 := []) (mem1 := m) rfl ?_
  refine it_V.ite (fun c2 => ?_) (fun c2 => ?_)
  · have h := h.1 c2
    refine it_V.weak (l := [none, none, none, none, none, none, none, none, none]) trivial ?_
    exact s_274_20 kc Φ m h
  · have h := h.2 c2
    refine it_V.sN it_cd274 it_m274 3 (pc1 := 15) (ls1 := [some (.ref 66), some (.int x0), some (.int x1), some (.int x2), some (.int x3), some (.int x4), some (.int x5), none, none]) (st1 := [(.int x0), (.ref 95)]) (mem1 := m) rfl ?_
    obtain ⟨g3, h⟩ := h
    refine it_V.iald it_cd274 it_m274 rfl ((⟨rfl, by decide⟩ : it_isR 95 8)).2 ((⟨rfl, by decide⟩ : it_isR 95 8)).1 g3 ?_
    refine it_V.at (pc1 := 16) (ls1 := [some (.ref 66), some (.int x0), some (.int x1), some (.int x2), some (.int x3), some (.int x4), some (.int x5), none, none]) (st1 := [(.int (m 95 (Int32.toNatClampNeg x0)))]) (mem1 := m) rfl rfl rfl rfl ?_
    refine it_V.sN it_cd274 it_m274 2 (pc1 := (if (m 95 (Int32.toNatClampNeg x0)) = (5 : Int32) then 20 else 21)) (ls1 := [some (.ref 66), some (.int x0), some (.int x1), some (.int x2), some (.int x3), some (.int x4), some (.int x5), none, none]) (st1 := []) (mem1 := m) rfl ?_
    refine it_V.ite (fun c4 => ?_) (fun c4 => ?_)
    · have h := h.1 c4
      refine it_V.weak (l := [none, none, none, none, none, none, none, none, none]) trivial ?_
      exact s_274_20 kc Φ m h
    · have h := h.2 c4
      refine it_V.sN it_cd274 it_m274 3 (pc1 := 26) (ls1 := [some (.ref 66), some (.int x0), some (.int x1), some (.int x2), some (.int x3), some (.int x4), some (.int x5), none, none]) (st1 := [(.int x0), (.ref 95)]) (mem1 := m) rfl ?_
      obtain ⟨g5, h⟩ := h
      refine it_V.iald it_cd274 it_m274 rfl ((⟨rfl, by decide⟩ : it_isR 95 8)).2 ((⟨rfl, by decide⟩ : it_isR 95 8)).1 g5 ?_
      refine it_V.at (pc1 := 27) (ls1 := [some (.ref 66), some (.int x0), some (.int x1), some (.int x2), some (.int x3), some (.int x4), some (.int x5), none, none]) (st1 := [(.int (m 95 (Int32.toNatClampNeg x0)))]) (mem1 := m) rfl rfl rfl rfl ?_
      refine it_V.sN it_cd274 it_m274 2 (pc1 := (if (m 95 (Int32.toNatClampNeg x0)) = (3 : Int32) then 31 else 72)) (ls1 := [some (.ref 66), some (.int x0), some (.int x1), some (.int x2), some (.int x3), some (.int x4), some (.int x5), none, none]) (st1 := []) (mem1 := m) rfl ?_
      refine it_V.ite (fun c6 => ?_) (fun c6 => ?_)
      · have h := h.1 c6
        refine it_V.sN it_cd274 it_m274 3 (pc1 := 36) (ls1 := [some (.ref 66), some (.int x0), some (.int x1), some (.int x2), some (.int x3), some (.int x4), some (.int x5), none, none]) (st1 := [(.int x0), (.ref 98)]) (mem1 := m) rfl ?_
        obtain ⟨g7, h⟩ := h
        refine it_V.iald it_cd274 it_m274 rfl ((⟨rfl, by decide⟩ : it_isR 98 8)).2 ((⟨rfl, by decide⟩ : it_isR 98 8)).1 g7 ?_
        refine it_V.at (pc1 := 37) (ls1 := [some (.ref 66), some (.int x0), some (.int x1), some (.int x2), some (.int x3), some (.int x4), some (.int x5), none, none]) (st1 := [(.int (m 98 (Int32.toNatClampNeg x0)))]) (mem1 := m) rfl rfl rfl rfl ?_
        refine it_V.sN it_cd274 it_m274 2 (pc1 := (if (m 98 (Int32.toNatClampNeg x0)) = x1 then 41 else 72)) (ls1 := [some (.ref 66), some (.int x0), some (.int x1), some (.int x2), some (.int x3), some (.int x4), some (.int x5), none, none]) (st1 := []) (mem1 := m) rfl ?_
        refine it_V.ite (fun c8 => ?_) (fun c8 => ?_)
        · have h := h.1 c8
          refine it_V.sN it_cd274 it_m274 3 (pc1 := 46) (ls1 := [some (.ref 66), some (.int x0), some (.int x1), some (.int x2), some (.int x3), some (.int x4), some (.int x5), none, none]) (st1 := [(.int x0), (.ref 99)]) (mem1 := m) rfl ?_
          obtain ⟨g9, h⟩ := h
          refine it_V.iald it_cd274 it_m274 rfl ((⟨rfl, by decide⟩ : it_isR 99 8)).2 ((⟨rfl, by decide⟩ : it_isR 99 8)).1 g9 ?_
          refine it_V.at (pc1 := 47) (ls1 := [some (.ref 66), some (.int x0), some (.int x1), some (.int x2), some (.int x3), some (.int x4), some (.int x5), none, none]) (st1 := [(.int (m 99 (Int32.toNatClampNeg x0)))]) (mem1 := m) rfl rfl rfl rfl ?_
          refine it_V.sN it_cd274 it_m274 2 (pc1 := (if (m 99 (Int32.toNatClampNeg x0)) = x2 then 51 else 72)) (ls1 := [some (.ref 66), some (.int x0), some (.int x1), some (.int x2), some (.int x3), some (.int x4), some (.int x5), none, none]) (st1 := []) (mem1 := m) rfl ?_
          refine it_V.ite (fun c10 => ?_) (fun c10 => ?_)
          · have h := h.1 c10
            refine it_V.sN it_cd274 it_m274 4 (pc1 := 57) (ls1 := [some (.ref 66), some (.int x0), some (.int x1), some (.int x2), some (.int x3), some (.int x4), some (.int x5), none, none]) (st1 := [(.int (1 : Int32)), (.int x0), (.ref 95)]) (mem1 := m) rfl ?_
            obtain ⟨g11, h⟩ := h
            refine it_V.iast it_cd274 it_m274 rfl ((⟨rfl, by decide⟩ : it_isR 95 8)).1 g11 ?_
            refine it_V.at (pc1 := 58) (ls1 := [some (.ref 66), some (.int x0), some (.int x1), some (.int x2), some (.int x3), some (.int x4), some (.int x5), none, none]) (st1 := []) (mem1 := (it_sv m 95 (Int32.toNatClampNeg x0) (1 : Int32))) rfl rfl rfl rfl ?_
            refine it_V.sN it_cd274 it_m274 7 (pc1 := 68) (ls1 := [some (.ref 66), some (.int x0), some (.int x1), some (.int x2), some (.int x3), some (.int x4), some (.int x5), none, none]) (st1 := [(.int x5), (.int x4), (.int x3), (.int x2), (.int x1), (.int x0), (.ref 66)]) (mem1 := (it_sv m 95 (Int32.toNatClampNeg x0) (1 : Int32))) rfl ?_
            refine it_V.call it_cd274 it_m274 rfl it_m275 [(.ref 66), (.int x0), (.int x1), (.int x2), (.int x3), (.int x4), (.int x5)] [] rfl rfl ⟨Nat.le_of_ble_eq_true rfl, Nat.le_of_ble_eq_true rfl, Nat.le_of_ble_eq_true rfl, Nat.le_of_ble_eq_true rfl, rfl⟩ (s_275 kc x0 x1 x2 x3 x4 x5 (it_sv m 95 (Int32.toNatClampNeg x0) (1 : Int32)) _ h) ?_
            rintro _ m12 ⟨rfl, h⟩
            refine it_V.at (pc1 := 71) (ls1 := [some (.ref 66), some (.int x0), some (.int x1), some (.int x2), some (.int x3), some (.int x4), some (.int x5), none, none]) (st1 := []) (mem1 := m12) rfl rfl rfl rfl ?_
            exact it_V.ret it_cd274 it_m274 rfl rfl ⟨rfl, h⟩
          · have h := h.2 c10
            exact s_274_72 kc Φ x0 x1 x2 x3 x4 x5 m h
        · have h := h.2 c8
          exact s_274_72 kc Φ x0 x1 x2 x3 x4 x5 m h
      · have h := h.2 c6
        exact s_274_72 kc Φ x0 x1 x2 x3 x4 x5 m h
set_option maxRecDepth 100000 in
set_option maxHeartbeats 4000000 in
theorem s_277_19 (kc : it_Kc) (Φ : it_Me → Prop) (K56 : it_Me → Prop) (hK56 : ∀ (m : it_Me), K56 m → it_V kc it_sh0 277 56 [none, none, none, none] [] m (it_Pv Φ)) : ∀ (n : Nat) (v1 : Int32) (v3 : Int32) (m : it_Me) (h : w_277_19 kc Φ K56 n v1 v3 m), it_V kc it_sh0 277 19 [some (.ref 66), some (.int v1), none, some (.int v3)] [] m (it_Pv Φ) := by
  intro n
  induction n with
  | zero => intro v1 v3 m h; exact absurd h id
  | succ n ih =>
    intro v1 v3 m h
    rw [w_277_19] at h
    refine it_V.sN it_cd277 it_m277 8 (pc1 := 30) (ls1 := [some (.ref 66), some (.int v1), none, some (.int v3)]) (st1 := [(.int v1), (.ref 110), (.int (5 : Int32)), (.int ((50 : Int32) * v1)), (.int v3)]) (mem1 := m) rfl ?_
    obtain ⟨g1, h⟩ := h
    refine it_V.iald it_cd277 it_m277 rfl ((⟨rfl, by decide⟩ : it_isR 110 8)).2 ((⟨rfl, by decide⟩ : it_isR 110 8)).1 g1 ?_
    refine it_V.at (pc1 := 31) (ls1 := [some (.ref 66), some (.int v1), none, some (.int v3)]) (st1 := [(.int (m 110 (Int32.toNatClampNeg v1))), (.int (5 : Int32)), (.int ((50 : Int32) * v1)), (.int v3)]) (mem1 := m) rfl rfl rfl rfl ?_
    refine it_V.sN it_cd277 it_m277 3 (pc1 := (if (((50 : Int32) * v1) + ((5 : Int32) * (m 110 (Int32.toNatClampNeg v1)))) ≤ v3 then 56 else 36)) (ls1 := [some (.ref 66), some (.int v1), none, some (.int v3)]) (st1 := []) (mem1 := m) rfl ?_
    refine it_V.ite (fun c2 => ?_) (fun c2 => ?_)
    · have h := h.1 c2
      refine it_V.weak (l := [none, none, none, none]) trivial ?_
      exact hK56 m h
    · have h := h.2 c2
      refine it_V.sN it_cd277 it_m277 8 (pc1 := 48) (ls1 := [some (.ref 66), some (.int v1), none, some (.int v3)]) (st1 := [(.int (v3 + (5 : Int32))), (.ref 109), (.int v3), (.ref 109)]) (mem1 := m) rfl ?_
      obtain ⟨g3, h⟩ := h
      refine it_V.iald it_cd277 it_m277 rfl ((⟨rfl, by decide⟩ : it_isR 109 400)).2 ((⟨rfl, by decide⟩ : it_isR 109 400)).1 g3 ?_
      refine it_V.at (pc1 := 49) (ls1 := [some (.ref 66), some (.int v1), none, some (.int v3)]) (st1 := [(.int (m 109 (Int32.toNatClampNeg (v3 + (5 : Int32))))), (.int v3), (.ref 109)]) (mem1 := m) rfl rfl rfl rfl ?_
      obtain ⟨g4, h⟩ := h
      refine it_V.iast it_cd277 it_m277 rfl ((⟨rfl, by decide⟩ : it_isR 109 400)).1 g4 ?_
      refine it_V.at (pc1 := 50) (ls1 := [some (.ref 66), some (.int v1), none, some (.int v3)]) (st1 := []) (mem1 := (it_sv m 109 (Int32.toNatClampNeg v3) (m 109 (Int32.toNatClampNeg (v3 + (5 : Int32)))))) rfl rfl rfl rfl ?_
      refine it_V.sN it_cd277 it_m277 2 (pc1 := 19) (ls1 := [some (.ref 66), some (.int v1), none, some (.int (v3 + (1 : Int32)))]) (st1 := []) (mem1 := (it_sv m 109 (Int32.toNatClampNeg v3) (m 109 (Int32.toNatClampNeg (v3 + (5 : Int32)))))) rfl ?_
      refine it_V.weak (l := [some (.ref 66), some (.int v1), none, some (.int (v3 + (1 : Int32)))]) ⟨rfl, ⟨rfl, ⟨rfl, trivial⟩⟩⟩ ?_
      exact ih v1 (v3 + (1 : Int32)) (it_sv m 109 (Int32.toNatClampNeg v3) (m 109 (Int32.toNatClampNeg (v3 + (5 : Int32))))) h
set_option maxRecDepth 100000 in
set_option maxHeartbeats 4000000 in
theorem s_277_56 (kc : it_Kc) (Φ : it_Me → Prop) (m : it_Me) (h : w_277_56 kc Φ m) : it_V kc it_sh0 277 56 [none, none, none, none] [] m (it_Pv Φ) := by
  rw [w_277_56] at h
  exact it_V.ret it_cd277 it_m277 rfl rfl ⟨rfl, h⟩
set_option maxRecDepth 100000 in
set_option maxHeartbeats 4000000 in
theorem s_277 (kc : it_Kc) (x0 : Int32) (x1 : Int32) (m : it_Me) (Φ : it_Me → Prop) (h : w_277 kc x0 x1 m Φ) : it_V kc it_sh0 277 0 (it_loc0 [(.ref 66), (.int x0), (.int x1)] 4) [] m (it_Pv Φ) := by
  rw [w_277] at h
  refine it_V.at (pc1 := 0) (ls1 := [some (.ref 66), some (.int x0), some (.int x1), none]) (st1 := []) (mem1 := m) rfl rfl rfl rfl ?_
  refine it_V.sN it_cd277 it_m277 4 (pc1 := 6) (ls1 := [some (.ref 66), some (.int x0), some (.int x1), none]) (st1 := [(.int x0), (.ref 110), (.int x0), (.ref 110)]) (mem1 := m) rfl ?_
  obtain ⟨g1, h⟩ := h
  refine it_V.iald it_cd277 it_m277 rfl ((⟨rfl, by decide⟩ : it_isR 110 8)).2 ((⟨rfl, by decide⟩ : it_isR 110 8)).1 g1 ?_
  refine it_V.at (pc1 := 7) (ls1 := [some (.ref 66), some (.int x0), some (.int x1), none]) (st1 := [(.int (m 110 (Int32.toNatClampNeg x0))), (.int x0), (.ref 110)]) (mem1 := m) rfl rfl rfl rfl ?_
  refine it_V.sN it_cd277 it_m277 2 (pc1 := 9) (ls1 := [some (.ref 66), some (.int x0), some (.int x1), none]) (st1 := [(.int ((m 110 (Int32.toNatClampNeg x0)) - (1 : Int32))), (.int x0), (.ref 110)]) (mem1 := m) rfl ?_
  obtain ⟨g2, h⟩ := h
  refine it_V.iast it_cd277 it_m277 rfl ((⟨rfl, by decide⟩ : it_isR 110 8)).1 g2 ?_
  refine it_V.at (pc1 := 10) (ls1 := [some (.ref 66), some (.int x0), some (.int x1), none]) (st1 := []) (mem1 := (it_sv m 110 (Int32.toNatClampNeg x0) ((m 110 (Int32.toNatClampNeg x0)) - (1 : Int32)))) rfl rfl rfl rfl ?_
  refine it_V.sN it_cd277 it_m277 8 (pc1 := 19) (ls1 := [some (.ref 66), some (.int x0), some (.int x1), some (.int (((50 : Int32) * x0) + ((5 : Int32) * x1)))]) (st1 := []) (mem1 := (it_sv m 110 (Int32.toNatClampNeg x0) ((m 110 (Int32.toNatClampNeg x0)) - (1 : Int32)))) rfl ?_
  refine it_V.weak (l := [some (.ref 66), some (.int x0), none, some (.int (((50 : Int32) * x0) + ((5 : Int32) * x1)))]) ⟨rfl, ⟨rfl, ⟨rfl, trivial⟩⟩⟩ ?_
  obtain ⟨n, h⟩ := h
  exact s_277_19 kc Φ _ (fun m h => s_277_56 kc Φ m h) n x0 (((50 : Int32) * x0) + ((5 : Int32) * x1)) (it_sv m 110 (Int32.toNatClampNeg x0) ((m 110 (Int32.toNatClampNeg x0)) - (1 : Int32))) h
set_option maxRecDepth 100000 in
set_option maxHeartbeats 4000000 in
theorem s_278 (kc : it_Kc) (x0 : Int32) (m : it_Me) (Φ : it_Me → Prop) (h : w_278 kc x0 m Φ) : it_V kc it_sh0 278 0 (it_loc0 [(.ref 66), (.int x0)] 8) [] m (it_Pv Φ) := by
  rw [w_278] at h
  refine it_V.at (pc1 := 0) (ls1 := [some (.ref 66), some (.int x0), none, none, none, none, none, none]) (st1 := []) (mem1 := m) rfl rfl rfl rfl ?_
  refine it_V.sN it_cd278 it_m278 7 (pc1 := 10) (ls1 := [some (.ref 66), some (.int x0), some (.int ((50 : Int32) * x0)), none, none, none, none, none]) (st1 := [(.int ((50 : Int32) * x0)), (.ref 109)]) (mem1 := m) rfl ?_
  obtain ⟨g1, h⟩ := h
  refine it_V.iald it_cd278 it_m278 rfl ((⟨rfl, by decide⟩ : it_isR 109 400)).2 ((⟨rfl, by decide⟩ : it_isR 109 400)).1 g1 ?_
  refine it_V.at (pc1 := 11) (ls1 := [some (.ref 66), some (.int x0), some (.int ((50 : Int32) * x0)), none, none, none, none, none]) (st1 := [(.int (m 109 (Int32.toNatClampNeg ((50 : Int32) * x0))))]) (mem1 := m) rfl rfl rfl rfl ?_
  refine it_V.sN it_cd278 it_m278 6 (pc1 := 19) (ls1 := [some (.ref 66), some (.int x0), some (.int ((50 : Int32) * x0)), some (.int (m 109 (Int32.toNatClampNeg ((50 : Int32) * x0)))), none, none, none, none]) (st1 := [(.int (((50 : Int32) * x0) + (1 : Int32))), (.ref 109)]) (mem1 := m) rfl ?_
  obtain ⟨g2, h⟩ := h
  refine it_V.iald it_cd278 it_m278 rfl ((⟨rfl, by decide⟩ : it_isR 109 400)).2 ((⟨rfl, by decide⟩ : it_isR 109 400)).1 g2 ?_
  refine it_V.at (pc1 := 20) (ls1 := [some (.ref 66), some (.int x0), some (.int ((50 : Int32) * x0)), some (.int (m 109 (Int32.toNatClampNeg ((50 : Int32) * x0)))), none, none, none, none]) (st1 := [(.int (m 109 (Int32.toNatClampNeg (((50 : Int32) * x0) + (1 : Int32)))))]) (mem1 := m) rfl rfl rfl rfl ?_
  refine it_V.sN it_cd278 it_m278 6 (pc1 := 29) (ls1 := [some (.ref 66), some (.int x0), some (.int ((50 : Int32) * x0)), some (.int (m 109 (Int32.toNatClampNeg ((50 : Int32) * x0)))), some (.int (m 109 (Int32.toNatClampNeg (((50 : Int32) * x0) + (1 : Int32))))), none, none, none]) (st1 := [(.int (((50 : Int32) * x0) + (2 : Int32))), (.ref 109)]) (mem1 := m) rfl ?_
  obtain ⟨g3, h⟩ := h
  refine it_V.iald it_cd278 it_m278 rfl ((⟨rfl, by decide⟩ : it_isR 109 400)).2 ((⟨rfl, by decide⟩ : it_isR 109 400)).1 g3 ?_
  refine it_V.at (pc1 := 30) (ls1 := [some (.ref 66), some (.int x0), some (.int ((50 : Int32) * x0)), some (.int (m 109 (Int32.toNatClampNeg ((50 : Int32) * x0)))), some (.int (m 109 (Int32.toNatClampNeg (((50 : Int32) * x0) + (1 : Int32))))), none, none, none]) (st1 := [(.int (m 109 (Int32.toNatClampNeg (((50 : Int32) * x0) + (2 : Int32)))))]) (mem1 := m) rfl rfl rfl rfl ?_
  refine it_V.sN it_cd278 it_m278 6 (pc1 := 39) (ls1 := [some (.ref 66), some (.int x0), some (.int ((50 : Int32) * x0)), some (.int (m 109 (Int32.toNatClampNeg ((50 : Int32) * x0)))), some (.int (m 109 (Int32.toNatClampNeg (((50 : Int32) * x0) + (1 : Int32))))), some (.int (m 109 (Int32.toNatClampNeg (((50 : Int32) * x0) + (2 : Int32))))), none, none]) (st1 := [(.int (((50 : Int32) * x0) + (3 : Int32))), (.ref 109)]) (mem1 := m) rfl ?_
  obtain ⟨g4, h⟩ := h
  refine it_V.iald it_cd278 it_m278 rfl ((⟨rfl, by decide⟩ : it_isR 109 400)).2 ((⟨rfl, by decide⟩ : it_isR 109 400)).1 g4 ?_
  refine it_V.at (pc1 := 40) (ls1 := [some (.ref 66), some (.int x0), some (.int ((50 : Int32) * x0)), some (.int (m 109 (Int32.toNatClampNeg ((50 : Int32) * x0)))), some (.int (m 109 (Int32.toNatClampNeg (((50 : Int32) * x0) + (1 : Int32))))), some (.int (m 109 (Int32.toNatClampNeg (((50 : Int32) * x0) + (2 : Int32))))), none, none]) (st1 := [(.int (m 109 (Int32.toNatClampNeg (((50 : Int32) * x0) + (3 : Int32)))))]) (mem1 := m) rfl rfl rfl rfl ?_
  refine it_V.sN it_cd278 it_m278 6 (pc1 := 49) (ls1 := [some (.ref 66), some (.int x0), some (.int ((50 : Int32) * x0)), some (.int (m 109 (Int32.toNatClampNeg ((50 : Int32) * x0)))), some (.int (m 109 (Int32.toNatClampNeg (((50 : Int32) * x0) + (1 : Int32))))), some (.int (m 109 (Int32.toNatClampNeg (((50 : Int32) * x0) + (2 : Int32))))), some (.int (m 109 (Int32.toNatClampNeg (((50 : Int32) * x0) + (3 : Int32))))), none]) (st1 := [(.int (((50 : Int32) * x0) + (4 : Int32))), (.ref 109)]) (mem1 := m) rfl ?_
  obtain ⟨g5, h⟩ := h
  refine it_V.iald it_cd278 it_m278 rfl ((⟨rfl, by decide⟩ : it_isR 109 400)).2 ((⟨rfl, by decide⟩ : it_isR 109 400)).1 g5 ?_
  refine it_V.at (pc1 := 50) (ls1 := [some (.ref 66), some (.int x0), some (.int ((50 : Int32) * x0)), some (.int (m 109 (Int32.toNatClampNeg ((50 : Int32) * x0)))), some (.int (m 109 (Int32.toNatClampNeg (((50 : Int32) * x0) + (1 : Int32))))), some (.int (m 109 (Int32.toNatClampNeg (((50 : Int32) * x0) + (2 : Int32))))), some (.int (m 109 (Int32.toNatClampNeg (((50 : Int32) * x0) + (3 : Int32))))), none]) (st1 := [(.int (m 109 (Int32.toNatClampNeg (((50 : Int32) * x0) + (4 : Int32)))))]) (mem1 := m) rfl rfl rfl rfl ?_
  refine it_V.sN it_cd278 it_m278 4 (pc1 := 55) (ls1 := [some (.ref 66), some (.int x0), some (.int ((50 : Int32) * x0)), some (.int (m 109 (Int32.toNatClampNeg ((50 : Int32) * x0)))), some (.int (m 109 (Int32.toNatClampNeg (((50 : Int32) * x0) + (1 : Int32))))), some (.int (m 109 (Int32.toNatClampNeg (((50 : Int32) * x0) + (2 : Int32))))), some (.int (m 109 (Int32.toNatClampNeg (((50 : Int32) * x0) + (3 : Int32))))), some (.int (m 109 (Int32.toNatClampNeg (((50 : Int32) * x0) + (4 : Int32)))))]) (st1 := [(.int (0 : Int32)), (.int x0), (.ref 66)]) (mem1 := m) rfl ?_
  refine it_V.call it_cd278 it_m278 rfl it_m277 [(.ref 66), (.int x0), (.int (0 : Int32))] [] rfl rfl ⟨Nat.le_of_ble_eq_true rfl, Nat.le_of_ble_eq_true rfl, Nat.le_of_ble_eq_true rfl, Nat.le_of_ble_eq_true rfl, rfl⟩ (s_277 kc x0 (0 : Int32) m _ h) ?_
  rintro _ m6 ⟨rfl, h⟩
  refine it_V.at (pc1 := 58) (ls1 := [some (.ref 66), some (.int x0), some (.int ((50 : Int32) * x0)), some (.int (m 109 (Int32.toNatClampNeg ((50 : Int32) * x0)))), some (.int (m 109 (Int32.toNatClampNeg (((50 : Int32) * x0) + (1 : Int32))))), some (.int (m 109 (Int32.toNatClampNeg (((50 : Int32) * x0) + (2 : Int32))))), some (.int (m 109 (Int32.toNatClampNeg (((50 : Int32) * x0) + (3 : Int32))))), some (.int (m 109 (Int32.toNatClampNeg (((50 : Int32) * x0) + (4 : Int32)))))]) (st1 := []) (mem1 := m6) rfl rfl rfl rfl ?_
  refine it_V.sN it_cd278 it_m278 7 (pc1 := 69) (ls1 := [some (.ref 66), some (.int x0), some (.int ((50 : Int32) * x0)), some (.int (m 109 (Int32.toNatClampNeg ((50 : Int32) * x0)))), some (.int (m 109 (Int32.toNatClampNeg (((50 : Int32) * x0) + (1 : Int32))))), some (.int (m 109 (Int32.toNatClampNeg (((50 : Int32) * x0) + (2 : Int32))))), some (.int (m 109 (Int32.toNatClampNeg (((50 : Int32) * x0) + (3 : Int32))))), some (.int (m 109 (Int32.toNatClampNeg (((50 : Int32) * x0) + (4 : Int32)))))]) (st1 := [(.int (m 109 (Int32.toNatClampNeg (((50 : Int32) * x0) + (4 : Int32))))), (.int (m 109 (Int32.toNatClampNeg (((50 : Int32) * x0) + (3 : Int32))))), (.int (m 109 (Int32.toNatClampNeg (((50 : Int32) * x0) + (2 : Int32))))), (.int (m 109 (Int32.toNatClampNeg (((50 : Int32) * x0) + (1 : Int32))))), (.int (m 109 (Int32.toNatClampNeg ((50 : Int32) * x0)))), (.int x0), (.ref 66)]) (mem1 := m6) rfl ?_
  refine it_V.call it_cd278 it_m278 rfl it_m276 [(.ref 66), (.int x0), (.int (m 109 (Int32.toNatClampNeg ((50 : Int32) * x0)))), (.int (m 109 (Int32.toNatClampNeg (((50 : Int32) * x0) + (1 : Int32))))), (.int (m 109 (Int32.toNatClampNeg (((50 : Int32) * x0) + (2 : Int32))))), (.int (m 109 (Int32.toNatClampNeg (((50 : Int32) * x0) + (3 : Int32))))), (.int (m 109 (Int32.toNatClampNeg (((50 : Int32) * x0) + (4 : Int32)))))] [] rfl rfl ⟨Nat.le_of_ble_eq_true rfl, Nat.le_of_ble_eq_true rfl, Nat.le_of_ble_eq_true rfl, Nat.le_of_ble_eq_true rfl, rfl⟩ (s_276 kc x0 (m 109 (Int32.toNatClampNeg ((50 : Int32) * x0))) (m 109 (Int32.toNatClampNeg (((50 : Int32) * x0) + (1 : Int32)))) (m 109 (Int32.toNatClampNeg (((50 : Int32) * x0) + (2 : Int32)))) (m 109 (Int32.toNatClampNeg (((50 : Int32) * x0) + (3 : Int32)))) (m 109 (Int32.toNatClampNeg (((50 : Int32) * x0) + (4 : Int32)))) m6 _ h) ?_
  rintro _ m7 ⟨rfl, h⟩
  refine it_V.at (pc1 := 72) (ls1 := [some (.ref 66), some (.int x0), some (.int ((50 : Int32) * x0)), some (.int (m 109 (Int32.toNatClampNeg ((50 : Int32) * x0)))), some (.int (m 109 (Int32.toNatClampNeg (((50 : Int32) * x0) + (1 : Int32))))), some (.int (m 109 (Int32.toNatClampNeg (((50 : Int32) * x0) + (2 : Int32))))), some (.int (m 109 (Int32.toNatClampNeg (((50 : Int32) * x0) + (3 : Int32))))), some (.int (m 109 (Int32.toNatClampNeg (((50 : Int32) * x0) + (4 : Int32)))))]) (st1 := []) (mem1 := m7) rfl rfl rfl rfl ?_
  exact it_V.ret it_cd278 it_m278 rfl rfl ⟨rfl, h⟩
set_option maxRecDepth 100000 in
set_option maxHeartbeats 4000000 in
theorem s_279_54 (kc : it_Kc) (Φ : it_Me → Prop) (m : it_Me) (h : w_279_54 kc Φ m) : it_V kc it_sh0 279 54 [none, none, none, none, none] [] m (it_Pv Φ) := by
  rw [w_279_54] at h
  exact it_V.ret it_cd279 it_m279 rfl rfl ⟨rfl, h⟩
set_option maxRecDepth 100000 in
set_option maxHeartbeats 4000000 in
theorem s_279_33 (kc : it_Kc) (Φ : it_Me → Prop) (v1 : Int32) (v2 : Int32) (v4 : Int32) (m : it_Me) (h : w_279_33 kc Φ v1 v2 v4 m) : it_V kc it_sh0 279 33 [some (.ref 66), some (.int v1), some (.int v2), none, some (.int v4)] [] m (it_Pv Φ) := by
  rw [w_279_33] at h
  refine it_V.sN it_cd279 it_m279 3 (pc1 := (if v2 = (130 : Int32) then 40 else 54)) (ls1 := [some (.ref 66), some (.int v1), some (.int v2), none, some (.int v4)]) (st1 := []) (mem1 := m) rfl ?_
  refine it_V.ite (fun c1 => ?_) (fun c1 => ?_)
  · have h := h.1 c1
    refine it_V.sN it_cd279 it_m279 8 (pc1 := 53) (ls1 := [some (.ref 66), some (.int v1), some (.int v2), none, some (.int v4)]) (st1 := [(.int v4), (.int (((32 : Int32) * v1) + (12 : Int32))), (.ref 93)]) (mem1 := m) rfl ?_
    obtain ⟨g2, h⟩ := h
    refine it_V.iast it_cd279 it_m279 rfl ((⟨rfl, by decide⟩ : it_isR 93 256)).1 g2 ?_
    refine it_V.at (pc1 := 54) (ls1 := [some (.ref 66), some (.int v1), some (.int v2), none, some (.int v4)]) (st1 := []) (mem1 := (it_sv m 93 (Int32.toNatClampNeg (((32 : Int32) * v1) + (12 : Int32))) v4)) rfl rfl rfl rfl ?_
    refine it_V.weak (l := [none, none, none, none, none]) trivial ?_
    exact s_279_54 kc Φ (it_sv m 93 (Int32.toNatClampNeg (((32 : Int32) * v1) + (12 : Int32))) v4) h
  · have h := h.2 c1
    refine it_V.weak (l := [none, none, none, none, none]) trivial ?_
    exact s_279_54 kc Φ m h
set_option maxRecDepth 100000 in
set_option maxHeartbeats 4000000 in
theorem s_279 (kc : it_Kc) (x0 : Int32) (x1 : Int32) (x2 : Int32) (x3 : Int32) (m : it_Me) (Φ : it_Me → Prop) (h : w_279 kc x0 x1 x2 x3 m Φ) : it_V kc it_sh0 279 0 (it_loc0 [(.ref 66), (.int x0), (.int x1), (.int x2), (.int x3)] 5) [] m (it_Pv Φ) := by
  rw [w_279] at h
  refine it_V.at (pc1 := 0) (ls1 := [some (.ref 66), some (.int x0), some (.int x1), some (.int x2), some (.int x3)]) (st1 := []) (mem1 := m) rfl rfl rfl rfl ?_
  refine it_V.sN it_cd279 it_m279 8 (pc1 := 12) (ls1 := [some (.ref 66), some (.int x0), some (.int x1), some (.int x2), some (.int x3)]) (st1 := [(.int x1), (.int (((32 : Int32) * x0) + (10 : Int32))), (.ref 93)]) (mem1 := m) rfl ?_
  obtain ⟨g1, h⟩ := h
  refine it_V.iast it_cd279 it_m279 rfl ((⟨rfl, by decide⟩ : it_isR 93 256)).1 g1 ?_
  refine it_V.at (pc1 := 13) (ls1 := [some (.ref 66), some (.int x0), some (.int x1), some (.int x2), some (.int x3)]) (st1 := []) (mem1 := (it_sv m 93 (Int32.toNatClampNeg (((32 : Int32) * x0) + (10 : Int32))) x1)) rfl rfl rfl rfl ?_
  refine it_V.sN it_cd279 it_m279 3 (pc1 := (if x1 = (128 : Int32) then 33 else 20)) (ls1 := [some (.ref 66), some (.int x0), some (.int x1), some (.int x2), some (.int x3)]) (st1 := []) (mem1 := (it_sv m 93 (Int32.toNatClampNeg (((32 : Int32) * x0) + (10 : Int32))) x1)) rfl ?_
  refine it_V.ite (fun c2 => ?_) (fun c2 => ?_)
  · have h := h.1 c2
    refine it_V.weak (l := [some (.ref 66), some (.int x0), some (.int x1), none, some (.int x3)]) ⟨rfl, ⟨rfl, ⟨rfl, ⟨rfl, trivial⟩⟩⟩⟩ ?_
    exact s_279_33 kc Φ x0 x1 x3 (it_sv m 93 (Int32.toNatClampNeg (((32 : Int32) * x0) + (10 : Int32))) x1) h
  · have h := h.2 c2
    refine it_V.sN it_cd279 it_m279 8 (pc1 := 32) (ls1 := [some (.ref 66), some (.int x0), some (.int x1), some (.int x2), some (.int x3)]) (st1 := [(.int x2), (.int (((32 : Int32) * x0) + (11 : Int32))), (.ref 93)]) (mem1 := (it_sv m 93 (Int32.toNatClampNeg (((32 : Int32) * x0) + (10 : Int32))) x1)) rfl ?_
    obtain ⟨g3, h⟩ := h
    refine it_V.iast it_cd279 it_m279 rfl ((⟨rfl, by decide⟩ : it_isR 93 256)).1 g3 ?_
    refine it_V.at (pc1 := 33) (ls1 := [some (.ref 66), some (.int x0), some (.int x1), some (.int x2), some (.int x3)]) (st1 := []) (mem1 := (it_sv (it_sv m 93 (Int32.toNatClampNeg (((32 : Int32) * x0) + (10 : Int32))) x1) 93 (Int32.toNatClampNeg (((32 : Int32) * x0) + (11 : Int32))) x2)) rfl rfl rfl rfl ?_
    refine it_V.weak (l := [some (.ref 66), some (.int x0), some (.int x1), none, some (.int x3)]) ⟨rfl, ⟨rfl, ⟨rfl, ⟨rfl, trivial⟩⟩⟩⟩ ?_
    exact s_279_33 kc Φ x0 x1 x3 (it_sv (it_sv m 93 (Int32.toNatClampNeg (((32 : Int32) * x0) + (10 : Int32))) x1) 93 (Int32.toNatClampNeg (((32 : Int32) * x0) + (11 : Int32))) x2) h
set_option maxRecDepth 100000 in
set_option maxHeartbeats 4000000 in
theorem s_280 (kc : it_Kc) (x0 : Int32) (m : it_Me) (Φ : it_Me → Prop) (h : w_280 kc x0 m Φ) : it_V kc it_sh0 280 0 (it_loc0 [(.ref 66), (.int x0)] 2) [] m (it_Pv Φ) := by
  rw [w_280] at h
  refine it_V.at (pc1 := 0) (ls1 := [some (.ref 66), some (.int x0)]) (st1 := []) (mem1 := m) rfl rfl rfl rfl ?_
  refine it_V.sN it_cd280 it_m280 5 (pc1 := 7) (ls1 := [some (.ref 66), some (.int x0)]) (st1 := [(.int (0 : Int32)), (.int (0 : Int32)), (.int (128 : Int32)), (.int x0), (.ref 66)]) (mem1 := m) rfl ?_
  refine it_V.call it_cd280 it_m280 rfl it_m279 [(.ref 66), (.int x0), (.int (128 : Int32)), (.int (0 : Int32)), (.int (0 : Int32))] [] rfl rfl ⟨Nat.le_of_ble_eq_true rfl, Nat.le_of_ble_eq_true rfl, Nat.le_of_ble_eq_true rfl, Nat.le_of_ble_eq_true rfl, rfl⟩ (s_279 kc x0 (128 : Int32) (0 : Int32) (0 : Int32) m _ h) ?_
  rintro _ m1 ⟨rfl, h⟩
  refine it_V.at (pc1 := 10) (ls1 := [some (.ref 66), some (.int x0)]) (st1 := []) (mem1 := m1) rfl rfl rfl rfl ?_
  exact it_V.ret it_cd280 it_m280 rfl rfl ⟨rfl, h⟩
set_option maxRecDepth 100000 in
set_option maxHeartbeats 4000000 in
theorem s_281 (kc : it_Kc) (x0 : Int32) (x1 : Int32) (m : it_Me) (Φ : it_Me → Prop) (h : w_281 kc x0 x1 m Φ) : it_V kc it_sh0 281 0 (it_loc0 [(.ref 66), (.int x0), (.int x1)] 3) [] m (it_Pv Φ) := by
  rw [w_281] at h
  refine it_V.at (pc1 := 0) (ls1 := [some (.ref 66), some (.int x0), some (.int x1)]) (st1 := []) (mem1 := m) rfl rfl rfl rfl ?_
  refine it_V.sN it_cd281 it_m281 5 (pc1 := 7) (ls1 := [some (.ref 66), some (.int x0), some (.int x1)]) (st1 := [(.int (0 : Int32)), (.int x1), (.int (129 : Int32)), (.int x0), (.ref 66)]) (mem1 := m) rfl ?_
  refine it_V.call it_cd281 it_m281 rfl it_m279 [(.ref 66), (.int x0), (.int (129 : Int32)), (.int x1), (.int (0 : Int32))] [] rfl rfl ⟨Nat.le_of_ble_eq_true rfl, Nat.le_of_ble_eq_true rfl, Nat.le_of_ble_eq_true rfl, Nat.le_of_ble_eq_true rfl, rfl⟩ (s_279 kc x0 (129 : Int32) x1 (0 : Int32) m _ h) ?_
  rintro _ m1 ⟨rfl, h⟩
  refine it_V.at (pc1 := 10) (ls1 := [some (.ref 66), some (.int x0), some (.int x1)]) (st1 := []) (mem1 := m1) rfl rfl rfl rfl ?_
  exact it_V.ret it_cd281 it_m281 rfl rfl ⟨rfl, h⟩
set_option maxRecDepth 100000 in
set_option maxHeartbeats 4000000 in
theorem s_282 (kc : it_Kc) (x0 : Int32) (x1 : Int32) (m : it_Me) (Φ : it_Me → Prop) (h : w_282 kc x0 x1 m Φ) : it_V kc it_sh0 282 0 (it_loc0 [(.ref 66), (.int x0), (.int x1)] 3) [] m (it_Pv Φ) := by
  rw [w_282] at h
  refine it_V.at (pc1 := 0) (ls1 := [some (.ref 66), some (.int x0), some (.int x1)]) (st1 := []) (mem1 := m) rfl rfl rfl rfl ?_
  refine it_V.sN it_cd282 it_m282 5 (pc1 := 5) (ls1 := [some (.ref 66), some (.int x0), some (.int x1)]) (st1 := [(.int (0 : Int32)), (.int x1), (.int (0 : Int32)), (.int x0), (.ref 66)]) (mem1 := m) rfl ?_
  refine it_V.call it_cd282 it_m282 rfl it_m279 [(.ref 66), (.int x0), (.int (0 : Int32)), (.int x1), (.int (0 : Int32))] [] rfl rfl ⟨Nat.le_of_ble_eq_true rfl, Nat.le_of_ble_eq_true rfl, Nat.le_of_ble_eq_true rfl, Nat.le_of_ble_eq_true rfl, rfl⟩ (s_279 kc x0 (0 : Int32) x1 (0 : Int32) m _ h) ?_
  rintro _ m1 ⟨rfl, h⟩
  refine it_V.at (pc1 := 8) (ls1 := [some (.ref 66), some (.int x0), some (.int x1)]) (st1 := []) (mem1 := m1) rfl rfl rfl rfl ?_
  exact it_V.ret it_cd282 it_m282 rfl rfl ⟨rfl, h⟩
set_option maxRecDepth 100000 in
set_option maxHeartbeats 4000000 in
theorem s_283 (kc : it_Kc) (x0 : Int32) (x1 : Int32) (x2 : Int32) (x3 : Int32) (m : it_Me) (Φ : it_Me → Prop) (h : w_283 kc x0 x1 x2 x3 m Φ) : it_V kc it_sh0 283 0 (it_loc0 [(.ref 66), (.int x0), (.int x1), (.int x2), (.int x3)] 5) [] m (it_Pv Φ) := by
  rw [w_283] at h
  refine it_V.at (pc1 := 0) (ls1 := [some (.ref 66), some (.int x0), some (.int x1), some (.int x2), some (.int x3)]) (st1 := []) (mem1 := m) rfl rfl rfl rfl ?_
  refine it_V.sN it_cd283 it_m283 8 (pc1 := 12) (ls1 := [some (.ref 66), some (.int x0), some (.int x1), some (.int x2), some (.int x3)]) (st1 := [(.int (2 : Int32)), (.int (((32 : Int32) * x0) + (10 : Int32))), (.ref 93)]) (mem1 := m) rfl ?_
  obtain ⟨g1, h⟩ := h
  refine it_V.iast it_cd283 it_m283 rfl ((⟨rfl, by decide⟩ : it_isR 93 256)).1 g1 ?_
  refine it_V.at (pc1 := 13) (ls1 := [some (.ref 66), some (.int x0), some (.int x1), some (.int x2), some (.int x3)]) (st1 := []) (mem1 := (it_sv m 93 (Int32.toNatClampNeg (((32 : Int32) * x0) + (10 : Int32))) (2 : Int32))) rfl rfl rfl rfl ?_
  refine it_V.sN it_cd283 it_m283 8 (pc1 := 25) (ls1 := [some (.ref 66), some (.int x0), some (.int x1), some (.int x2), some (.int x3)]) (st1 := [(.int x1), (.int (((32 : Int32) * x0) + (11 : Int32))), (.ref 93)]) (mem1 := (it_sv m 93 (Int32.toNatClampNeg (((32 : Int32) * x0) + (10 : Int32))) (2 : Int32))) rfl ?_
  obtain ⟨g2, h⟩ := h
  refine it_V.iast it_cd283 it_m283 rfl ((⟨rfl, by decide⟩ : it_isR 93 256)).1 g2 ?_
  refine it_V.at (pc1 := 26) (ls1 := [some (.ref 66), some (.int x0), some (.int x1), some (.int x2), some (.int x3)]) (st1 := []) (mem1 := (it_sv (it_sv m 93 (Int32.toNatClampNeg (((32 : Int32) * x0) + (10 : Int32))) (2 : Int32)) 93 (Int32.toNatClampNeg (((32 : Int32) * x0) + (11 : Int32))) x1)) rfl rfl rfl rfl ?_
  refine it_V.sN it_cd283 it_m283 8 (pc1 := 38) (ls1 := [some (.ref 66), some (.int x0), some (.int x1), some (.int x2), some (.int x3)]) (st1 := [(.int x2), (.int (((32 : Int32) * x0) + (12 : Int32))), (.ref 93)]) (mem1 := (it_sv (it_sv m 93 (Int32.toNatClampNeg (((32 : Int32) * x0) + (10 : Int32))) (2 : Int32)) 93 (Int32.toNatClampNeg (((32 : Int32) * x0) + (11 : Int32))) x1)) rfl ?_
  obtain ⟨g3, h⟩ := h
  refine it_V.iast it_cd283 it_m283 rfl ((⟨rfl, by decide⟩ : it_isR 93 256)).1 g3 ?_
  refine it_V.at (pc1 := 39) (ls1 := [some (.ref 66), some (.int x0), some (.int x1), some (.int x2), some (.int x3)]) (st1 := []) (mem1 := (it_sv (it_sv (it_sv m 93 (Int32.toNatClampNeg (((32 : Int32) * x0) + (10 : Int32))) (2 : Int32)) 93 (Int32.toNatClampNeg (((32 : Int32) * x0) + (11 : Int32))) x1) 93 (Int32.toNatClampNeg (((32 : Int32) * x0) + (12 : Int32))) x2)) rfl rfl rfl rfl ?_
  refine it_V.sN it_cd283 it_m283 8 (pc1 := 52) (ls1 := [some (.ref 66), some (.int x0), some (.int x1), some (.int x2), some (.int x3)]) (st1 := [(.int x3), (.int (((32 : Int32) * x0) + (13 : Int32))), (.ref 93)]) (mem1 := (it_sv (it_sv (it_sv m 93 (Int32.toNatClampNeg (((32 : Int32) * x0) + (10 : Int32))) (2 : Int32)) 93 (Int32.toNatClampNeg (((32 : Int32) * x0) + (11 : Int32))) x1) 93 (Int32.toNatClampNeg (((32 : Int32) * x0) + (12 : Int32))) x2)) rfl ?_
  obtain ⟨g4, h⟩ := h
  refine it_V.iast it_cd283 it_m283 rfl ((⟨rfl, by decide⟩ : it_isR 93 256)).1 g4 ?_
  refine it_V.at (pc1 := 53) (ls1 := [some (.ref 66), some (.int x0), some (.int x1), some (.int x2), some (.int x3)]) (st1 := []) (mem1 := (it_sv (it_sv (it_sv (it_sv m 93 (Int32.toNatClampNeg (((32 : Int32) * x0) + (10 : Int32))) (2 : Int32)) 93 (Int32.toNatClampNeg (((32 : Int32) * x0) + (11 : Int32))) x1) 93 (Int32.toNatClampNeg (((32 : Int32) * x0) + (12 : Int32))) x2) 93 (Int32.toNatClampNeg (((32 : Int32) * x0) + (13 : Int32))) x3)) rfl rfl rfl rfl ?_
  exact it_V.ret it_cd283 it_m283 rfl rfl ⟨rfl, h⟩
