/-! The formulas are sound for the small machine. Written by wip/whole/gen_wp.py, split_wp.py -/
set_option maxRecDepth 100000 in
set_option maxHeartbeats 4000000 in
theorem s_320 (kc : it_Kc) (x0 : Int32) (m : it_Me) (Φ : it_Me → Prop) (h : w_320 kc x0 m Φ) : it_V kc it_sh0 320 0 (it_loc0 [(.ref 66), (.int x0)] 4) [] m (it_Pv Φ) := by
  rw [w_320] at h
  refine it_V.at (pc1 := 0) (ls1 := [some (.ref 66), some (.int x0), none, none]) (st1 := []) (mem1 := m) rfl rfl rfl rfl ?_
  refine it_V.sN it_cd320 it_m320 3 (pc1 := 5) (ls1 := [some (.ref 66), some (.int x0), none, none]) (st1 := [(.int x0), (.ref 94)]) (mem1 := m) rfl ?_
  obtain ⟨g1, h⟩ := h
  refine it_V.iald it_cd320 it_m320 rfl ((⟨rfl, by decide⟩ : it_isR 94 8)).2 ((⟨rfl, by decide⟩ : it_isR 94 8)).1 g1 ?_
  refine it_V.at (pc1 := 6) (ls1 := [some (.ref 66), some (.int x0), none, none]) (st1 := [(.int (m 94 (Int32.toNatClampNeg x0)))]) (mem1 := m) rfl rfl rfl rfl ?_
  refine it_V.sN it_cd320 it_m320 6 (pc1 := 12) (ls1 := [some (.ref 66), some (.int x0), some (.int (m 94 (Int32.toNatClampNeg x0))), none]) (st1 := [(.int (4 : Int32)), (.int (2 : Int32)), (.int (m 94 (Int32.toNatClampNeg x0))), (.int x0), (.ref 66)]) (mem1 := m) rfl ?_
  refine it_V.call it_cd320 it_m320 rfl it_m259 [(.ref 66), (.int x0), (.int (m 94 (Int32.toNatClampNeg x0))), (.int (2 : Int32)), (.int (4 : Int32))] [] rfl rfl ⟨Nat.le_of_ble_eq_true rfl, Nat.le_of_ble_eq_true rfl, Nat.le_of_ble_eq_true rfl, Nat.le_of_ble_eq_true rfl, rfl⟩ (s_259 kc x0 (m 94 (Int32.toNatClampNeg x0)) (2 : Int32) (4 : Int32) m _ h) ?_
  rintro _ m3 ⟨r2, rfl, h⟩
  refine it_V.at (pc1 := 15) (ls1 := [some (.ref 66), some (.int x0), some (.int (m 94 (Int32.toNatClampNeg x0))), none]) (st1 := [(.int r2)]) (mem1 := m3) rfl rfl rfl rfl ?_
  refine it_V.sN it_cd320 it_m320 1 (pc1 := (if r2 = 0 then 18 else 26)) (ls1 := [some (.ref 66), some (.int x0), some (.int (m 94 (Int32.toNatClampNeg x0))), none]) (st1 := []) (mem1 := m3) rfl ?_
  refine it_V.ite (fun c4 => ?_) (fun c4 => ?_)
  · have h := h.1 c4
    refine it_V.sN it_cd320 it_m320 4 (pc1 := 22) (ls1 := [some (.ref 66), some (.int x0), some (.int (m 94 (Int32.toNatClampNeg x0))), none]) (st1 := [(.int (m 94 (Int32.toNatClampNeg x0))), (.int (1 : Int32)), (.int x0), (.ref 66)]) (mem1 := m3) rfl ?_
    refine it_V.call it_cd320 it_m320 rfl it_m258 [(.ref 66), (.int x0), (.int (1 : Int32)), (.int (m 94 (Int32.toNatClampNeg x0)))] [] rfl rfl ⟨Nat.le_of_ble_eq_true rfl, Nat.le_of_ble_eq_true rfl, Nat.le_of_ble_eq_true rfl, Nat.le_of_ble_eq_true rfl, rfl⟩ (s_258 kc x0 (1 : Int32) (m 94 (Int32.toNatClampNeg x0)) m3 _ h) ?_
    rintro _ m5 ⟨rfl, h⟩
    refine it_V.at (pc1 := 25) (ls1 := [some (.ref 66), some (.int x0), some (.int (m 94 (Int32.toNatClampNeg x0))), none]) (st1 := []) (mem1 := m5) rfl rfl rfl rfl ?_
    exact it_V.ret it_cd320 it_m320 rfl rfl ⟨rfl, h⟩
  · have h := h.2 c4
    refine it_V.sN it_cd320 it_m320 2 (pc1 := 28) (ls1 := [some (.ref 66), some (.int x0), some (.int (m 94 (Int32.toNatClampNeg x0))), none]) (st1 := [(.int (m 94 (Int32.toNatClampNeg x0))), (.ref 66)]) (mem1 := m3) rfl ?_
    refine it_V.call it_cd320 it_m320 rfl it_m219 [(.ref 66), (.int (m 94 (Int32.toNatClampNeg x0)))] [] rfl rfl ⟨Nat.le_of_ble_eq_true rfl, Nat.le_of_ble_eq_true rfl, Nat.le_of_ble_eq_true rfl, Nat.le_of_ble_eq_true rfl, rfl⟩ (s_219 kc (m 94 (Int32.toNatClampNeg x0)) m3 _ h) ?_
    rintro _ m7 ⟨r6, rfl, h⟩
    refine it_V.at (pc1 := 31) (ls1 := [some (.ref 66), some (.int x0), some (.int (m 94 (Int32.toNatClampNeg x0))), none]) (st1 := [(.int r6)]) (mem1 := m7) rfl rfl rfl rfl ?_
    refine it_V.sN it_cd320 it_m320 6 (pc1 := (if (r6 &&& (3 : Int32)) = (3 : Int32) then 46 else 39)) (ls1 := [some (.ref 66), some (.int x0), some (.int (m 94 (Int32.toNatClampNeg x0))), some (.int r6)]) (st1 := []) (mem1 := m7) rfl ?_
    refine it_V.ite (fun c8 => ?_) (fun c8 => ?_)
    · have h := h.1 c8
      refine it_V.sN it_cd320 it_m320 7 (pc1 := 53) (ls1 := [some (.ref 66), some (.int x0), some (.int (m 94 (Int32.toNatClampNeg x0))), some (.int r6)]) (st1 := [(.int (4 : Int32)), (.int (2 : Int32)), (.int ((m 94 (Int32.toNatClampNeg x0)) + (2 : Int32))), (.int x0), (.ref 66)]) (mem1 := m7) rfl ?_
      refine it_V.call it_cd320 it_m320 rfl it_m259 [(.ref 66), (.int x0), (.int ((m 94 (Int32.toNatClampNeg x0)) + (2 : Int32))), (.int (2 : Int32)), (.int (4 : Int32))] [] rfl rfl ⟨Nat.le_of_ble_eq_true rfl, Nat.le_of_ble_eq_true rfl, Nat.le_of_ble_eq_true rfl, Nat.le_of_ble_eq_true rfl, rfl⟩ (s_259 kc x0 ((m 94 (Int32.toNatClampNeg x0)) + (2 : Int32)) (2 : Int32) (4 : Int32) m7 _ h) ?_
      rintro _ m10 ⟨r9, rfl, h⟩
      refine it_V.at (pc1 := 56) (ls1 := [some (.ref 66), some (.int x0), some (.int (m 94 (Int32.toNatClampNeg x0))), some (.int r6)]) (st1 := [(.int r9)]) (mem1 := m10) rfl rfl rfl rfl ?_
      refine it_V.sN it_cd320 it_m320 1 (pc1 := (if r9 = 0 then 59 else 69)) (ls1 := [some (.ref 66), some (.int x0), some (.int (m 94 (Int32.toNatClampNeg x0))), some (.int r6)]) (st1 := []) (mem1 := m10) rfl ?_
      refine it_V.ite (fun c11 => ?_) (fun c11 => ?_)
      · have h := h.1 c11
        refine it_V.sN it_cd320 it_m320 6 (pc1 := 65) (ls1 := [some (.ref 66), some (.int x0), some (.int (m 94 (Int32.toNatClampNeg x0))), some (.int r6)]) (st1 := [(.int ((m 94 (Int32.toNatClampNeg x0)) + (2 : Int32))), (.int (1 : Int32)), (.int x0), (.ref 66)]) (mem1 := m10) rfl ?_
        refine it_V.call it_cd320 it_m320 rfl it_m258 [(.ref 66), (.int x0), (.int (1 : Int32)), (.int ((m 94 (Int32.toNatClampNeg x0)) + (2 : Int32)))] [] rfl rfl ⟨Nat.le_of_ble_eq_true rfl, Nat.le_of_ble_eq_true rfl, Nat.le_of_ble_eq_true rfl, Nat.le_of_ble_eq_true rfl, rfl⟩ (s_258 kc x0 (1 : Int32) ((m 94 (Int32.toNatClampNeg x0)) + (2 : Int32)) m10 _ h) ?_
        rintro _ m12 ⟨rfl, h⟩
        refine it_V.at (pc1 := 68) (ls1 := [some (.ref 66), some (.int x0), some (.int (m 94 (Int32.toNatClampNeg x0))), some (.int r6)]) (st1 := []) (mem1 := m12) rfl rfl rfl rfl ?_
        exact it_V.ret it_cd320 it_m320 rfl rfl ⟨rfl, h⟩
      · have h := h.2 c11
        refine it_V.sN it_cd320 it_m320 7 (pc1 := 76) (ls1 := [some (.ref 66), some (.int x0), some (.int (m 94 (Int32.toNatClampNeg x0))), some (.int r6)]) (st1 := [(.int ((m 94 (Int32.toNatClampNeg x0)) + (2 : Int32))), (.ref 66), (.int r6), (.int x0), (.ref 66)]) (mem1 := m10) rfl ?_
        refine it_V.call it_cd320 it_m320 rfl it_m219 [(.ref 66), (.int ((m 94 (Int32.toNatClampNeg x0)) + (2 : Int32)))] [(.int r6), (.int x0), (.ref 66)] rfl rfl ⟨Nat.le_of_ble_eq_true rfl, Nat.le_of_ble_eq_true rfl, Nat.le_of_ble_eq_true rfl, Nat.le_of_ble_eq_true rfl, rfl⟩ (s_219 kc ((m 94 (Int32.toNatClampNeg x0)) + (2 : Int32)) m10 _ h) ?_
        rintro _ m14 ⟨r13, rfl, h⟩
        refine it_V.at (pc1 := 79) (ls1 := [some (.ref 66), some (.int x0), some (.int (m 94 (Int32.toNatClampNeg x0))), some (.int r6)]) (st1 := [(.int r13), (.int r6), (.int x0), (.ref 66)]) (mem1 := m14) rfl rfl rfl rfl ?_
        refine it_V.sN it_cd320 it_m320 3 (pc1 := 83) (ls1 := [some (.ref 66), some (.int x0), some (.int (m 94 (Int32.toNatClampNeg x0))), some (.int r6)]) (st1 := [(.int (r6 ||| (it_shl r13 (16 : Int32)))), (.int x0), (.ref 66)]) (mem1 := m14) rfl ?_
        refine it_V.call it_cd320 it_m320 rfl it_m322 [(.ref 66), (.int x0), (.int (r6 ||| (it_shl r13 (16 : Int32))))] [] rfl rfl ⟨Nat.le_of_ble_eq_true rfl, Nat.le_of_ble_eq_true rfl, Nat.le_of_ble_eq_true rfl, Nat.le_of_ble_eq_true rfl, rfl⟩ (s_322 kc x0 (r6 ||| (it_shl r13 (16 : Int32))) m14 _ h) ?_
        rintro _ m15 ⟨rfl, h⟩
        refine it_V.at (pc1 := 86) (ls1 := [some (.ref 66), some (.int x0), some (.int (m 94 (Int32.toNatClampNeg x0))), some (.int r6)]) (st1 := []) (mem1 := m15) rfl rfl rfl rfl ?_
        exact it_V.ret it_cd320 it_m320 rfl rfl ⟨rfl, h⟩
    · have h := h.2 c8
      refine it_V.sN it_cd320 it_m320 3 (pc1 := 42) (ls1 := [some (.ref 66), some (.int x0), some (.int (m 94 (Int32.toNatClampNeg x0))), some (.int r6)]) (st1 := [(.int r6), (.int x0), (.ref 66)]) (mem1 := m7) rfl ?_
      refine it_V.call it_cd320 it_m320 rfl it_m336 [(.ref 66), (.int x0), (.int r6)] [] rfl rfl ⟨Nat.le_of_ble_eq_true rfl, Nat.le_of_ble_eq_true rfl, Nat.le_of_ble_eq_true rfl, Nat.le_of_ble_eq_true rfl, rfl⟩ (s_336 kc x0 r6 m7 _ h) ?_
      rintro _ m16 ⟨rfl, h⟩
      refine it_V.at (pc1 := 45) (ls1 := [some (.ref 66), some (.int x0), some (.int (m 94 (Int32.toNatClampNeg x0))), some (.int r6)]) (st1 := []) (mem1 := m16) rfl rfl rfl rfl ?_
      exact it_V.ret it_cd320 it_m320 rfl rfl ⟨rfl, h⟩
set_option maxRecDepth 100000 in
set_option maxHeartbeats 4000000 in
theorem s_316_44 (kc : it_Kc) (Φ : it_Me → Prop) (K79 : it_Me → Prop) (hK79 : ∀ (m : it_Me), K79 m → it_V kc it_sh0 316 79 [some (.ref 66), none] [] m (it_Pv Φ)) : ∀ (n : Nat) (v1 : Int32) (m : it_Me) (h : w_316_44 kc Φ K79 n v1 m), it_V kc it_sh0 316 44 [some (.ref 66), some (.int v1)] [] m (it_Pv Φ) := by
  intro n
  induction n with
  | zero => intro v1 m h; exact absurd h id
  | succ n ih =>
    intro v1 m h
    rw [w_316_44] at h
    refine it_V.sN it_cd316 it_m316 4 (pc1 := (if (m 66 34) ≤ v1 then 79 else 52)) (ls1 := [some (.ref 66), some (.int v1)]) (st1 := []) (mem1 := m) rfl ?_
    refine it_V.ite (fun c1 => ?_) (fun c1 => ?_)
    · have h := h.1 c1
      refine it_V.weak (l := [some (.ref 66), none]) ⟨rfl, trivial⟩ ?_
      exact hK79 m h
    · have h := h.2 c1
      refine it_V.sN it_cd316 it_m316 4 (pc1 := 58) (ls1 := [some (.ref 66), some (.int v1)]) (st1 := [(.int (0 : Int32)), (.int v1), (.ref 106)]) (mem1 := m) rfl ?_
      obtain ⟨g2, h⟩ := h
      refine it_V.iast it_cd316 it_m316 rfl ((⟨rfl, by decide⟩ : it_isR 106 8)).1 g2 ?_
      refine it_V.at (pc1 := 59) (ls1 := [some (.ref 66), some (.int v1)]) (st1 := []) (mem1 := (it_sv m 106 (Int32.toNatClampNeg v1) (0 : Int32))) rfl rfl rfl rfl ?_
      refine it_V.sN it_cd316 it_m316 4 (pc1 := 65) (ls1 := [some (.ref 66), some (.int v1)]) (st1 := [(.int (0 : Int32)), (.int v1), (.ref 107)]) (mem1 := (it_sv m 106 (Int32.toNatClampNeg v1) (0 : Int32))) rfl ?_
      obtain ⟨g3, h⟩ := h
      refine it_V.iast it_cd316 it_m316 rfl ((⟨rfl, by decide⟩ : it_isR 107 8)).1 g3 ?_
      refine it_V.at (pc1 := 66) (ls1 := [some (.ref 66), some (.int v1)]) (st1 := []) (mem1 := (it_sv (it_sv m 106 (Int32.toNatClampNeg v1) (0 : Int32)) 107 (Int32.toNatClampNeg v1) (0 : Int32))) rfl rfl rfl rfl ?_
      refine it_V.sN it_cd316 it_m316 4 (pc1 := 72) (ls1 := [some (.ref 66), some (.int v1)]) (st1 := [(.int v1), (.int v1), (.ref 108)]) (mem1 := (it_sv (it_sv m 106 (Int32.toNatClampNeg v1) (0 : Int32)) 107 (Int32.toNatClampNeg v1) (0 : Int32))) rfl ?_
      obtain ⟨g4, h⟩ := h
      refine it_V.iast it_cd316 it_m316 rfl ((⟨rfl, by decide⟩ : it_isR 108 8)).1 g4 ?_
      refine it_V.at (pc1 := 73) (ls1 := [some (.ref 66), some (.int v1)]) (st1 := []) (mem1 := (it_sv (it_sv (it_sv m 106 (Int32.toNatClampNeg v1) (0 : Int32)) 107 (Int32.toNatClampNeg v1) (0 : Int32)) 108 (Int32.toNatClampNeg v1) v1)) rfl rfl rfl rfl ?_
      refine it_V.sN it_cd316 it_m316 2 (pc1 := 44) (ls1 := [some (.ref 66), some (.int (v1 + (1 : Int32)))]) (st1 := []) (mem1 := (it_sv (it_sv (it_sv m 106 (Int32.toNatClampNeg v1) (0 : Int32)) 107 (Int32.toNatClampNeg v1) (0 : Int32)) 108 (Int32.toNatClampNeg v1) v1)) rfl ?_
      exact ih (v1 + (1 : Int32)) (it_sv (it_sv (it_sv m 106 (Int32.toNatClampNeg v1) (0 : Int32)) 107 (Int32.toNatClampNeg v1) (0 : Int32)) 108 (Int32.toNatClampNeg v1) v1) h
set_option maxRecDepth 100000 in
set_option maxHeartbeats 4000000 in
theorem s_316_142 (kc : it_Kc) (Φ : it_Me → Prop) (m : it_Me) (h : w_316_142 kc Φ m) : it_V kc it_sh0 316 142 [none, none] [] m (it_Pv Φ) := by
  rw [w_316_142] at h
  exact it_V.ret it_cd316 it_m316 rfl rfl ⟨rfl, h⟩
set_option maxRecDepth 100000 in
set_option maxHeartbeats 4000000 in
theorem s_316_84 (kc : it_Kc) (Φ : it_Me → Prop) (m : it_Me) (h : w_316_84 kc Φ m) : it_V kc it_sh0 316 84 [some (.ref 66), none] [] m (it_Pv Φ) := by
  rw [w_316_84] at h
  refine it_V.sN it_cd316 it_m316 1 (pc1 := 85) (ls1 := [some (.ref 66), none]) (st1 := [(.ref 66)]) (mem1 := m) rfl ?_
  refine it_V.call it_cd316 it_m316 rfl it_m308 [(.ref 66)] [] rfl rfl ⟨Nat.le_of_ble_eq_true rfl, Nat.le_of_ble_eq_true rfl, Nat.le_of_ble_eq_true rfl, Nat.le_of_ble_eq_true rfl, rfl⟩ (s_308 kc m _ h) ?_
  rintro _ m1 ⟨rfl, h⟩
  refine it_V.at (pc1 := 88) (ls1 := [some (.ref 66), none]) (st1 := []) (mem1 := m1) rfl rfl rfl rfl ?_
  refine it_V.sN it_cd316 it_m316 1 (pc1 := 89) (ls1 := [some (.ref 66), none]) (st1 := [(.ref 66)]) (mem1 := m1) rfl ?_
  refine it_V.call it_cd316 it_m316 rfl it_m310 [(.ref 66)] [] rfl rfl ⟨Nat.le_of_ble_eq_true rfl, Nat.le_of_ble_eq_true rfl, Nat.le_of_ble_eq_true rfl, Nat.le_of_ble_eq_true rfl, rfl⟩ (s_310 kc m1 _ h) ?_
  rintro _ m2 ⟨rfl, h⟩
  refine it_V.at (pc1 := 92) (ls1 := [some (.ref 66), none]) (st1 := []) (mem1 := m2) rfl rfl rfl rfl ?_
  refine it_V.sN it_cd316 it_m316 1 (pc1 := 93) (ls1 := [some (.ref 66), none]) (st1 := [(.ref 66)]) (mem1 := m2) rfl ?_
  refine it_V.call it_cd316 it_m316 rfl it_m311 [(.ref 66)] [] rfl rfl ⟨Nat.le_of_ble_eq_true rfl, Nat.le_of_ble_eq_true rfl, Nat.le_of_ble_eq_true rfl, Nat.le_of_ble_eq_true rfl, rfl⟩ (s_311 kc m2 _ h) ?_
  rintro _ m3 ⟨rfl, h⟩
  refine it_V.at (pc1 := 96) (ls1 := [some (.ref 66), none]) (st1 := []) (mem1 := m3) rfl rfl rfl rfl ?_
  refine it_V.sN it_cd316 it_m316 1 (pc1 := 97) (ls1 := [some (.ref 66), none]) (st1 := [(.ref 66)]) (mem1 := m3) rfl ?_
  refine it_V.call it_cd316 it_m316 rfl it_m314 [(.ref 66)] [] rfl rfl ⟨Nat.le_of_ble_eq_true rfl, Nat.le_of_ble_eq_true rfl, Nat.le_of_ble_eq_true rfl, Nat.le_of_ble_eq_true rfl, rfl⟩ (s_314 kc m3 _ h) ?_
  rintro _ m5 ⟨r4, rfl, h⟩
  refine it_V.at (pc1 := 100) (ls1 := [some (.ref 66), none]) (st1 := [(.int r4)]) (mem1 := m5) rfl rfl rfl rfl ?_
  refine it_V.sN it_cd316 it_m316 4 (pc1 := (if r4 = (-1 : Int32) then 142 else 106)) (ls1 := [some (.ref 66), some (.int r4)]) (st1 := []) (mem1 := m5) rfl ?_
  refine it_V.ite (fun c6 => ?_) (fun c6 => ?_)
  · have h := h.1 c6
    refine it_V.weak (l := [none, none]) trivial ?_
    exact s_316_142 kc Φ m5 h
  · have h := h.2 c6
    refine it_V.sN it_cd316 it_m316 10 (pc1 := 122) (ls1 := [some (.ref 66), some (.int r4)]) (st1 := [(.int r4), (.ref 107), (.int r4), (.ref 107)]) (mem1 := (it_sv m5 66 71 ((m5 66 71) + (1 : Int32)))) rfl ?_
    obtain ⟨g7, h⟩ := h
    refine it_V.iald it_cd316 it_m316 rfl ((⟨rfl, by decide⟩ : it_isR 107 8)).2 ((⟨rfl, by decide⟩ : it_isR 107 8)).1 g7 ?_
    refine it_V.at (pc1 := 123) (ls1 := [some (.ref 66), some (.int r4)]) (st1 := [(.int ((it_sv m5 66 71 ((m5 66 71) + (1 : Int32))) 107 (Int32.toNatClampNeg r4))), (.int r4), (.ref 107)]) (mem1 := (it_sv m5 66 71 ((m5 66 71) + (1 : Int32)))) rfl rfl rfl rfl ?_
    refine it_V.sN it_cd316 it_m316 2 (pc1 := 125) (ls1 := [some (.ref 66), some (.int r4)]) (st1 := [(.int (((it_sv m5 66 71 ((m5 66 71) + (1 : Int32))) 107 (Int32.toNatClampNeg r4)) + (1 : Int32))), (.int r4), (.ref 107)]) (mem1 := (it_sv m5 66 71 ((m5 66 71) + (1 : Int32)))) rfl ?_
    obtain ⟨g8, h⟩ := h
    refine it_V.iast it_cd316 it_m316 rfl ((⟨rfl, by decide⟩ : it_isR 107 8)).1 g8 ?_
    refine it_V.at (pc1 := 126) (ls1 := [some (.ref 66), some (.int r4)]) (st1 := []) (mem1 := (it_sv (it_sv m5 66 71 ((m5 66 71) + (1 : Int32))) 107 (Int32.toNatClampNeg r4) (((it_sv m5 66 71 ((m5 66 71) + (1 : Int32))) 107 (Int32.toNatClampNeg r4)) + (1 : Int32)))) rfl rfl rfl rfl ?_
    refine it_V.sN it_cd316 it_m316 4 (pc1 := 133) (ls1 := [some (.ref 66), some (.int r4)]) (st1 := [(.int (10 : Int32)), (.ref 69), (.int (10 : Int32)), (.ref 69)]) (mem1 := (it_sv (it_sv m5 66 71 ((m5 66 71) + (1 : Int32))) 107 (Int32.toNatClampNeg r4) (((it_sv m5 66 71 ((m5 66 71) + (1 : Int32))) 107 (Int32.toNatClampNeg r4)) + (1 : Int32)))) rfl ?_
    obtain ⟨g9, h⟩ := h
    refine it_V.iald it_cd316 it_m316 rfl ((⟨rfl, by decide⟩ : it_isR 69 12)).2 ((⟨rfl, by decide⟩ : it_isR 69 12)).1 g9 ?_
    refine it_V.at (pc1 := 134) (ls1 := [some (.ref 66), some (.int r4)]) (st1 := [(.int ((it_sv (it_sv m5 66 71 ((m5 66 71) + (1 : Int32))) 107 (Int32.toNatClampNeg r4) (((it_sv m5 66 71 ((m5 66 71) + (1 : Int32))) 107 (Int32.toNatClampNeg r4)) + (1 : Int32))) 69 (Int32.toNatClampNeg (10 : Int32)))), (.int (10 : Int32)), (.ref 69)]) (mem1 := (it_sv (it_sv m5 66 71 ((m5 66 71) + (1 : Int32))) 107 (Int32.toNatClampNeg r4) (((it_sv m5 66 71 ((m5 66 71) + (1 : Int32))) 107 (Int32.toNatClampNeg r4)) + (1 : Int32)))) rfl rfl rfl rfl ?_
    refine it_V.sN it_cd316 it_m316 2 (pc1 := 136) (ls1 := [some (.ref 66), some (.int r4)]) (st1 := [(.int (((it_sv (it_sv m5 66 71 ((m5 66 71) + (1 : Int32))) 107 (Int32.toNatClampNeg r4) (((it_sv m5 66 71 ((m5 66 71) + (1 : Int32))) 107 (Int32.toNatClampNeg r4)) + (1 : Int32))) 69 (Int32.toNatClampNeg (10 : Int32))) + (1 : Int32))), (.int (10 : Int32)), (.ref 69)]) (mem1 := (it_sv (it_sv m5 66 71 ((m5 66 71) + (1 : Int32))) 107 (Int32.toNatClampNeg r4) (((it_sv m5 66 71 ((m5 66 71) + (1 : Int32))) 107 (Int32.toNatClampNeg r4)) + (1 : Int32)))) rfl ?_
    obtain ⟨g10, h⟩ := h
    refine it_V.iast it_cd316 it_m316 rfl ((⟨rfl, by decide⟩ : it_isR 69 12)).1 g10 ?_
    refine it_V.at (pc1 := 137) (ls1 := [some (.ref 66), some (.int r4)]) (st1 := []) (mem1 := (it_sv (it_sv (it_sv m5 66 71 ((m5 66 71) + (1 : Int32))) 107 (Int32.toNatClampNeg r4) (((it_sv m5 66 71 ((m5 66 71) + (1 : Int32))) 107 (Int32.toNatClampNeg r4)) + (1 : Int32))) 69 (Int32.toNatClampNeg (10 : Int32)) (((it_sv (it_sv m5 66 71 ((m5 66 71) + (1 : Int32))) 107 (Int32.toNatClampNeg r4) (((it_sv m5 66 71 ((m5 66 71) + (1 : Int32))) 107 (Int32.toNatClampNeg r4)) + (1 : Int32))) 69 (Int32.toNatClampNeg (10 : Int32))) + (1 : Int32)))) rfl rfl rfl rfl ?_
    refine it_V.sN it_cd316 it_m316 2 (pc1 := 139) (ls1 := [some (.ref 66), some (.int r4)]) (st1 := [(.int r4), (.ref 66)]) (mem1 := (it_sv (it_sv (it_sv m5 66 71 ((m5 66 71) + (1 : Int32))) 107 (Int32.toNatClampNeg r4) (((it_sv m5 66 71 ((m5 66 71) + (1 : Int32))) 107 (Int32.toNatClampNeg r4)) + (1 : Int32))) 69 (Int32.toNatClampNeg (10 : Int32)) (((it_sv (it_sv m5 66 71 ((m5 66 71) + (1 : Int32))) 107 (Int32.toNatClampNeg r4) (((it_sv m5 66 71 ((m5 66 71) + (1 : Int32))) 107 (Int32.toNatClampNeg r4)) + (1 : Int32))) 69 (Int32.toNatClampNeg (10 : Int32))) + (1 : Int32)))) rfl ?_
    refine it_V.call it_cd316 it_m316 rfl it_m320 [(.ref 66), (.int r4)] [] rfl rfl ⟨Nat.le_of_ble_eq_true rfl, Nat.le_of_ble_eq_true rfl, Nat.le_of_ble_eq_true rfl, Nat.le_of_ble_eq_true rfl, rfl⟩ (s_320 kc r4 (it_sv (it_sv (it_sv m5 66 71 ((m5 66 71) + (1 : Int32))) 107 (Int32.toNatClampNeg r4) (((it_sv m5 66 71 ((m5 66 71) + (1 : Int32))) 107 (Int32.toNatClampNeg r4)) + (1 : Int32))) 69 (Int32.toNatClampNeg (10 : Int32)) (((it_sv (it_sv m5 66 71 ((m5 66 71) + (1 : Int32))) 107 (Int32.toNatClampNeg r4) (((it_sv m5 66 71 ((m5 66 71) + (1 : Int32))) 107 (Int32.toNatClampNeg r4)) + (1 : Int32))) 69 (Int32.toNatClampNeg (10 : Int32))) + (1 : Int32))) _ h) ?_
    rintro _ m11 ⟨rfl, h⟩
    refine it_V.at (pc1 := 142) (ls1 := [some (.ref 66), some (.int r4)]) (st1 := []) (mem1 := m11) rfl rfl rfl rfl ?_
    refine it_V.weak (l := [none, none]) trivial ?_
    exact s_316_142 kc Φ m11 h
set_option maxRecDepth 100000 in
set_option maxHeartbeats 4000000 in
theorem s_316_79 (kc : it_Kc) (Φ : it_Me → Prop) (m : it_Me) (h : w_316_79 kc Φ m) : it_V kc it_sh0 316 79 [some (.ref 66), none] [] m (it_Pv Φ) := by
  rw [w_316_79] at h
  refine it_V.sN it_cd316 it_m316 3 (pc1 := 84) (ls1 := [some (.ref 66), none]) (st1 := []) (mem1 := (it_sv m 66 70 (-1 : Int32))) rfl ?_
  refine it_V.weak (l := [some (.ref 66), none]) ⟨rfl, trivial⟩ ?_
  exact s_316_84 kc Φ (it_sv m 66 70 (-1 : Int32)) h
set_option maxRecDepth 100000 in
set_option maxHeartbeats 4000000 in
theorem s_316 (kc : it_Kc) (m : it_Me) (Φ : it_Me → Prop) (h : w_316 kc m Φ) : it_V kc it_sh0 316 0 (it_loc0 [(.ref 66)] 2) [] m (it_Pv Φ) := by
  rw [w_316] at h
  refine it_V.at (pc1 := 0) (ls1 := [some (.ref 66), none]) (st1 := []) (mem1 := m) rfl rfl rfl rfl ?_
  refine it_V.sN it_cd316 it_m316 10 (pc1 := (if ((it_sv m 66 6 ((m 66 6) + (1 : Int32))) 66 7) = (2 : Int32) then 18 else 84)) (ls1 := [some (.ref 66), none]) (st1 := []) (mem1 := (it_sv m 66 6 ((m 66 6) + (1 : Int32)))) rfl ?_
  refine it_V.ite (fun c1 => ?_) (fun c1 => ?_)
  · have h := h.1 c1
    refine it_V.sN it_cd316 it_m316 10 (pc1 := 36) (ls1 := [some (.ref 66), none]) (st1 := [(.long ((64 : Int64) * (Int32.toInt64 ((it_sv m 66 6 ((m 66 6) + (1 : Int32))) 66 8)))), (.long ((Int32.toInt64 ((it_sv m 66 6 ((m 66 6) + (1 : Int32))) 66 6)) &&& (4294967295 : Int64)))]) (mem1 := (it_sv m 66 6 ((m 66 6) + (1 : Int32)))) rfl ?_
    obtain ⟨g2, h⟩ := h
    refine it_V.s1 it_cd316 it_m316 (pc1 := 37) (ls1 := [some (.ref 66), none]) (st1 := [(.long (it_lrem ((Int32.toInt64 ((it_sv m 66 6 ((m 66 6) + (1 : Int32))) 66 6)) &&& (4294967295 : Int64)) ((64 : Int64) * (Int32.toInt64 ((it_sv m 66 6 ((m 66 6) + (1 : Int32))) 66 8)))))]) (mem1 := (it_sv m 66 6 ((m 66 6) + (1 : Int32)))) (by simp only [it_s1, show it_lk it_c316 36 = some (0, .lrem, 0, 0) from rfl, it_ops, if_neg g2]; rfl) ?_
    refine it_V.sN it_cd316 it_m316 3 (pc1 := (if (lg_cmp (it_lrem ((Int32.toInt64 ((it_sv m 66 6 ((m 66 6) + (1 : Int32))) 66 6)) &&& (4294967295 : Int64)) ((64 : Int64) * (Int32.toInt64 ((it_sv m 66 6 ((m 66 6) + (1 : Int32))) 66 8)))) (0 : Int64)) = 0 then 42 else 84)) (ls1 := [some (.ref 66), none]) (st1 := []) (mem1 := (it_sv m 66 6 ((m 66 6) + (1 : Int32)))) rfl ?_
    refine it_V.ite (fun c3 => ?_) (fun c3 => ?_)
    · have h := h.1 c3
      refine it_V.sN it_cd316 it_m316 2 (pc1 := 44) (ls1 := [some (.ref 66), some (.int (0 : Int32))]) (st1 := []) (mem1 := (it_sv m 66 6 ((m 66 6) + (1 : Int32)))) rfl ?_
      obtain ⟨n, h⟩ := h
      exact s_316_44 kc Φ _ (fun m h => s_316_79 kc Φ m h) n (0 : Int32) (it_sv m 66 6 ((m 66 6) + (1 : Int32))) h
    · have h := h.2 c3
      exact s_316_84 kc Φ (it_sv m 66 6 ((m 66 6) + (1 : Int32))) h
  · have h := h.2 c1
    exact s_316_84 kc Φ (it_sv m 66 6 ((m 66 6) + (1 : Int32))) h
set_option maxRecDepth 100000 in
set_option maxHeartbeats 4000000 in
theorem s_317_32 (kc : it_Kc) (Φ : Int32 → it_Me → Prop) (K48 : it_Me → Prop) (K66 : Int32 → it_Me → Prop) (hK48 : ∀ (m : it_Me), K48 m → it_V kc it_sh0 317 48 [some (.ref 66), none, none] [] m (it_Pi Φ)) (hK66 : ∀ (v1 : Int32) (m : it_Me), K66 v1 m → it_V kc it_sh0 317 66 [none, some (.int v1), none] [] m (it_Pi Φ)) : ∀ (n : Nat) (v1 : Int32) (v2 : Int32) (m : it_Me) (h : w_317_32 kc Φ K48 K66 n v1 v2 m), it_V kc it_sh0 317 32 [some (.ref 66), some (.int v1), some (.int v2)] [] m (it_Pi Φ) := by
  intro n
  induction n with
  | zero => intro v1 v2 m h; exact absurd h id
  | succ n ih =>
    intro v1 v2 m h
    rw [w_317_32] at h
    refine it_V.sN it_cd317 it_m317 3 (pc1 := (if v1 ≤ v2 then 66 else 37)) (ls1 := [some (.ref 66), some (.int v1), some (.int v2)]) (st1 := []) (mem1 := m) rfl ?_
    refine it_V.ite (fun c1 => ?_) (fun c1 => ?_)
    · have h := h.1 c1
      refine it_V.weak (l := [none, some (.int v1), none]) ⟨rfl, trivial⟩ ?_
      exact hK66 v1 m h
    · have h := h.2 c1
      refine it_V.sN it_cd317 it_m317 1 (pc1 := 38) (ls1 := [some (.ref 66), some (.int v1), some (.int v2)]) (st1 := [(.ref 66)]) (mem1 := m) rfl ?_
      refine it_V.call it_cd317 it_m317 rfl it_m316 [(.ref 66)] [] rfl rfl ⟨Nat.le_of_ble_eq_true rfl, Nat.le_of_ble_eq_true rfl, Nat.le_of_ble_eq_true rfl, Nat.le_of_ble_eq_true rfl, rfl⟩ (s_316 kc m _ h) ?_
      rintro _ m2 ⟨rfl, h⟩
      refine it_V.at (pc1 := 41) (ls1 := [some (.ref 66), some (.int v1), some (.int v2)]) (st1 := []) (mem1 := m2) rfl rfl rfl rfl ?_
      refine it_V.sN it_cd317 it_m317 3 (pc1 := (if (m2 66 4) = 0 then 60 else 48)) (ls1 := [some (.ref 66), some (.int v1), some (.int v2)]) (st1 := []) (mem1 := m2) rfl ?_
      refine it_V.ite (fun c3 => ?_) (fun c3 => ?_)
      · have h := h.1 c3
        refine it_V.sN it_cd317 it_m317 2 (pc1 := 32) (ls1 := [some (.ref 66), some (.int v1), some (.int (v2 + (1 : Int32)))]) (st1 := []) (mem1 := m2) rfl ?_
        exact ih v1 (v2 + (1 : Int32)) m2 h
      · have h := h.2 c3
        refine it_V.weak (l := [some (.ref 66), none, none]) ⟨rfl, trivial⟩ ?_
        exact hK48 m2 h
set_option maxRecDepth 100000 in
set_option maxHeartbeats 4000000 in
theorem s_317_22 (kc : it_Kc) (Φ : Int32 → it_Me → Prop) (m : it_Me) (h : w_317_22 kc Φ m) : it_V kc it_sh0 317 22 [none, none, none] [] m (it_Pi Φ) := by
  rw [w_317_22] at h
  refine it_V.sN it_cd317 it_m317 1 (pc1 := 24) (ls1 := [none, none, none]) (st1 := [(.int (-2 : Int32))]) (mem1 := m) rfl ?_
  exact it_V.ret it_cd317 it_m317 rfl rfl ⟨_, rfl, h⟩
set_option maxRecDepth 100000 in
set_option maxHeartbeats 4000000 in
theorem s_317_48 (kc : it_Kc) (Φ : Int32 → it_Me → Prop) (m : it_Me) (h : w_317_48 kc Φ m) : it_V kc it_sh0 317 48 [some (.ref 66), none, none] [] m (it_Pi Φ) := by
  rw [w_317_48] at h
  refine it_V.sN it_cd317 it_m317 4 (pc1 := 54) (ls1 := [some (.ref 66), none, none]) (st1 := [(.ref 66)]) (mem1 := (it_sv m 66 4 (0 : Int32))) rfl ?_
  refine it_V.call it_cd317 it_m317 rfl it_m228 [(.ref 66)] [] rfl rfl ⟨Nat.le_of_ble_eq_true rfl, Nat.le_of_ble_eq_true rfl, Nat.le_of_ble_eq_true rfl, Nat.le_of_ble_eq_true rfl, rfl⟩ (s_228 kc (it_sv m 66 4 (0 : Int32)) _ h) ?_
  rintro _ m1 ⟨rfl, h⟩
  refine it_V.at (pc1 := 57) (ls1 := [some (.ref 66), none, none]) (st1 := []) (mem1 := m1) rfl rfl rfl rfl ?_
  refine it_V.sN it_cd317 it_m317 1 (pc1 := 59) (ls1 := [some (.ref 66), none, none]) (st1 := [(.int (-4 : Int32))]) (mem1 := m1) rfl ?_
  exact it_V.ret it_cd317 it_m317 rfl rfl ⟨_, rfl, h⟩
set_option maxRecDepth 100000 in
set_option maxHeartbeats 4000000 in
theorem s_317_66 (kc : it_Kc) (Φ : Int32 → it_Me → Prop) (v1 : Int32) (m : it_Me) (h : w_317_66 kc Φ v1 m) : it_V kc it_sh0 317 66 [none, some (.int v1), none] [] m (it_Pi Φ) := by
  rw [w_317_66] at h
  refine it_V.sN it_cd317 it_m317 1 (pc1 := 67) (ls1 := [none, some (.int v1), none]) (st1 := [(.int v1)]) (mem1 := m) rfl ?_
  exact it_V.ret it_cd317 it_m317 rfl rfl ⟨_, rfl, h⟩
set_option maxRecDepth 100000 in
set_option maxHeartbeats 4000000 in
theorem s_317 (kc : it_Kc) (x0 : Int32) (m : it_Me) (Φ : Int32 → it_Me → Prop) (h : w_317 kc x0 m Φ) : it_V kc it_sh0 317 0 (it_loc0 [(.ref 66), (.int x0)] 3) [] m (it_Pi Φ) := by
  rw [w_317] at h
  refine it_V.at (pc1 := 0) (ls1 := [some (.ref 66), some (.int x0), none]) (st1 := []) (mem1 := m) rfl rfl rfl rfl ?_
  refine it_V.sN it_cd317 it_m317 3 (pc1 := (if (m 66 3) = 0 then 7 else 10)) (ls1 := [some (.ref 66), some (.int x0), none]) (st1 := []) (mem1 := m) rfl ?_
  refine it_V.ite (fun c1 => ?_) (fun c1 => ?_)
  · have h := h.1 c1
    refine it_V.sN it_cd317 it_m317 1 (pc1 := 9) (ls1 := [some (.ref 66), some (.int x0), none]) (st1 := [(.int (-3 : Int32))]) (mem1 := m) rfl ?_
    exact it_V.ret it_cd317 it_m317 rfl rfl ⟨_, rfl, h⟩
  · have h := h.2 c1
    refine it_V.sN it_cd317 it_m317 3 (pc1 := (if x0 < (1 : Int32) then 22 else 15)) (ls1 := [some (.ref 66), some (.int x0), none]) (st1 := []) (mem1 := m) rfl ?_
    refine it_V.ite (fun c2 => ?_) (fun c2 => ?_)
    · have h := h.1 c2
      refine it_V.weak (l := [none, none, none]) trivial ?_
      exact s_317_22 kc Φ m h
    · have h := h.2 c2
      refine it_V.sN it_cd317 it_m317 3 (pc1 := (if x0 ≤ (20000 : Int32) then 25 else 22)) (ls1 := [some (.ref 66), some (.int x0), none]) (st1 := []) (mem1 := m) rfl ?_
      refine it_V.ite (fun c3 => ?_) (fun c3 => ?_)
      · have h := h.1 c3
        refine it_V.sN it_cd317 it_m317 5 (pc1 := 32) (ls1 := [some (.ref 66), some (.int x0), some (.int (0 : Int32))]) (st1 := []) (mem1 := (it_sv m 66 4 (0 : Int32))) rfl ?_
        obtain ⟨n, h⟩ := h
        exact s_317_32 kc Φ _ _ (fun m h => s_317_48 kc Φ m h) (fun v1 m h => s_317_66 kc Φ v1 m h) n x0 (0 : Int32) (it_sv m 66 4 (0 : Int32)) h
      · have h := h.2 c3
        refine it_V.weak (l := [none, none, none]) trivial ?_
        exact s_317_22 kc Φ m h
set_option maxRecDepth 100000 in
set_option maxHeartbeats 4000000 in
theorem s_342_98 (kc : it_Kc) (Φ : Int32 → it_Me → Prop) (K33 : Int32 → Int32 → Int32 → it_Me → Prop) (K104 : it_Me → Prop) (hK33 : ∀ (v1 : Int32) (v2 : Int32) (v3 : Int32) (m : it_Me), K33 v1 v2 v3 m → it_V kc it_sh0 342 33 [some (.ref 66), some (.int v1), some (.int v2), some (.int v3), none] [] m (it_Pi Φ)) (hK104 : ∀ (m : it_Me), K104 m → it_V kc it_sh0 342 104 [none, none, none, none, none] [] m (it_Pi Φ)) (v1 : Int32) (v2 : Int32) (v3 : Int32) (m : it_Me) (h : w_342_98 kc Φ K33 K104 v1 v2 v3 m) : it_V kc it_sh0 342 98 [some (.ref 66), some (.int v1), some (.int v2), some (.int v3), none] [] m (it_Pi Φ) := by
  rw [w_342_98] at h
  refine it_V.sN it_cd342 it_m342 2 (pc1 := 33) (ls1 := [some (.ref 66), some (.int v1), some (.int v2), some (.int (v3 + (1 : Int32))), none]) (st1 := []) (mem1 := m) rfl ?_
  refine it_V.weak (l := [some (.ref 66), some (.int v1), some (.int v2), some (.int (v3 + (1 : Int32))), none]) ⟨rfl, ⟨rfl, ⟨rfl, ⟨rfl, trivial⟩⟩⟩⟩ ?_
  exact hK33 v1 v2 (v3 + (1 : Int32)) m h
set_option maxRecDepth 100000 in
set_option maxHeartbeats 4000000 in
theorem s_342_94 (kc : it_Kc) (Φ : Int32 → it_Me → Prop) (K33 : Int32 → Int32 → Int32 → it_Me → Prop) (K104 : it_Me → Prop) (hK33 : ∀ (v1 : Int32) (v2 : Int32) (v3 : Int32) (m : it_Me), K33 v1 v2 v3 m → it_V kc it_sh0 342 33 [some (.ref 66), some (.int v1), some (.int v2), some (.int v3), none] [] m (it_Pi Φ)) (hK104 : ∀ (m : it_Me), K104 m → it_V kc it_sh0 342 104 [none, none, none, none, none] [] m (it_Pi Φ)) (v1 : Int32) (v2 : Int32) (v3 : Int32) (u1 : Int32) (u2 : Int32) (u3 : Int32) (u4 : Int32) (u5 : Int32) (m : it_Me) (h : w_342_94 kc Φ K33 K104 v1 v2 v3 u1 u2 u3 u4 u5 m) : it_V kc it_sh0 342 94 [some (.ref 66), some (.int v1), some (.int v2), some (.int v3), none] [(.int u5), (.int u4), (.int u3), (.int u2), (.int u1), (.ref 66)] m (it_Pi Φ) := by
  rw [w_342_94] at h
  refine it_V.sN it_cd342 it_m342 1 (pc1 := 95) (ls1 := [some (.ref 66), some (.int v1), some (.int v2), some (.int v3), none]) (st1 := [(.int (0 : Int32)), (.int u5), (.int u4), (.int u3), (.int u2), (.int u1), (.ref 66)]) (mem1 := m) rfl ?_
  refine it_V.call it_cd342 it_m342 rfl it_m274 [(.ref 66), (.int u1), (.int u2), (.int u3), (.int u4), (.int u5), (.int (0 : Int32))] [] rfl rfl ⟨Nat.le_of_ble_eq_true rfl, Nat.le_of_ble_eq_true rfl, Nat.le_of_ble_eq_true rfl, Nat.le_of_ble_eq_true rfl, rfl⟩ (s_274 kc u1 u2 u3 u4 u5 (0 : Int32) m _ h) ?_
  rintro _ m1 ⟨rfl, h⟩
  refine it_V.at (pc1 := 98) (ls1 := [some (.ref 66), some (.int v1), some (.int v2), some (.int v3), none]) (st1 := []) (mem1 := m1) rfl rfl rfl rfl ?_
  refine it_V.weak (l := [some (.ref 66), some (.int v1), some (.int v2), some (.int v3), none]) ⟨rfl, ⟨rfl, ⟨rfl, ⟨rfl, trivial⟩⟩⟩⟩ ?_
  exact s_342_98 kc Φ _ _ hK33 hK104 v1 v2 v3 m1 h
set_option maxRecDepth 100000 in
set_option maxHeartbeats 4000000 in
theorem s_342_33 (kc : it_Kc) (Φ : Int32 → it_Me → Prop) (K104 : it_Me → Prop) (hK104 : ∀ (m : it_Me), K104 m → it_V kc it_sh0 342 104 [none, none, none, none, none] [] m (it_Pi Φ)) : ∀ (n : Nat) (v1 : Int32) (v2 : Int32) (v3 : Int32) (m : it_Me) (h : w_342_33 kc Φ K104 n v1 v2 v3 m), it_V kc it_sh0 342 33 [some (.ref 66), some (.int v1), some (.int v2), some (.int v3), none] [] m (it_Pi Φ) := by
  intro n
  induction n with
  | zero => intro v1 v2 v3 m h; exact absurd h id
  | succ n ih =>
    intro v1 v2 v3 m h
    rw [w_342_33] at h
    refine it_V.sN it_cd342 it_m342 3 (pc1 := (if (m 66 3) = 0 then 104 else 40)) (ls1 := [some (.ref 66), some (.int v1), some (.int v2), some (.int v3), none]) (st1 := []) (mem1 := m) rfl ?_
    refine it_V.ite (fun c1 => ?_) (fun c1 => ?_)
    · have h := h.1 c1
      refine it_V.weak (l := [none, none, none, none, none]) trivial ?_
      exact hK104 m h
    · have h := h.2 c1
      refine it_V.sN it_cd342 it_m342 4 (pc1 := (if (m 66 34) ≤ v3 then 104 else 48)) (ls1 := [some (.ref 66), some (.int v1), some (.int v2), some (.int v3), none]) (st1 := []) (mem1 := m) rfl ?_
      refine it_V.ite (fun c2 => ?_) (fun c2 => ?_)
      · have h := h.1 c2
        refine it_V.weak (l := [none, none, none, none, none]) trivial ?_
        exact hK104 m h
      · have h := h.2 c2
        refine it_V.sN it_cd342 it_m342 3 (pc1 := 51) (ls1 := [some (.ref 66), some (.int v1), some (.int v2), some (.int v3), none]) (st1 := [(.int (3 : Int32)), (.int v3), (.ref 66)]) (mem1 := m) rfl ?_
        refine it_V.call it_cd342 it_m342 rfl it_m272 [(.ref 66), (.int v3), (.int (3 : Int32))] [] rfl rfl ⟨Nat.le_of_ble_eq_true rfl, Nat.le_of_ble_eq_true rfl, Nat.le_of_ble_eq_true rfl, Nat.le_of_ble_eq_true rfl, rfl⟩ (s_272 kc v3 (3 : Int32) m _ h) ?_
        rintro _ m4 ⟨r3, rfl, h⟩
        refine it_V.at (pc1 := 54) (ls1 := [some (.ref 66), some (.int v1), some (.int v2), some (.int v3), none]) (st1 := [(.int r3)]) (mem1 := m4) rfl rfl rfl rfl ?_
        refine it_V.sN it_cd342 it_m342 4 (pc1 := (if r3 = (-1 : Int32) then 98 else 62)) (ls1 := [some (.ref 66), some (.int v1), some (.int v2), some (.int v3), some (.int r3)]) (st1 := []) (mem1 := m4) rfl ?_
        refine it_V.ite (fun c5 => ?_) (fun c5 => ?_)
        · have h := h.1 c5
          refine it_V.weak (l := [some (.ref 66), some (.int v1), some (.int v2), some (.int v3), none]) ⟨rfl, ⟨rfl, ⟨rfl, ⟨rfl, trivial⟩⟩⟩⟩ ?_
          exact s_342_98 kc Φ _ _ ih hK104 v1 v2 v3 m4 h
        · have h := h.2 c5
          refine it_V.sN it_cd342 it_m342 3 (pc1 := 66) (ls1 := [some (.ref 66), some (.int v1), some (.int v2), some (.int v3), some (.int r3)]) (st1 := [(.int (3 : Int32)), (.int r3), (.ref 66)]) (mem1 := m4) rfl ?_
          refine it_V.call it_cd342 it_m342 rfl it_m269 [(.int r3), (.int (3 : Int32))] [(.ref 66)] rfl rfl ⟨Nat.le_of_ble_eq_true rfl, Nat.le_of_ble_eq_true rfl, Nat.le_of_ble_eq_true rfl, Nat.le_of_ble_eq_true rfl, rfl⟩ (s_269 kc r3 (3 : Int32) m4 _ h) ?_
          rintro _ m7 ⟨r6, rfl, h⟩
          refine it_V.at (pc1 := 69) (ls1 := [some (.ref 66), some (.int v1), some (.int v2), some (.int v3), some (.int r3)]) (st1 := [(.int r6), (.ref 66)]) (mem1 := m7) rfl rfl rfl rfl ?_
          refine it_V.call it_cd342 it_m342 rfl it_m220 [(.ref 66), (.int r6)] [] rfl rfl ⟨Nat.le_of_ble_eq_true rfl, Nat.le_of_ble_eq_true rfl, Nat.le_of_ble_eq_true rfl, Nat.le_of_ble_eq_true rfl, rfl⟩ (s_220 kc r6 m7 _ h) ?_
          rintro _ m9 ⟨r8, rfl, h⟩
          refine it_V.at (pc1 := 72) (ls1 := [some (.ref 66), some (.int v1), some (.int v2), some (.int v3), some (.int r3)]) (st1 := [(.int r8)]) (mem1 := m9) rfl rfl rfl rfl ?_
          refine it_V.sN it_cd342 it_m342 6 (pc1 := (if ((it_us r8 v1) &&& (1 : Int32)) = (1 : Int32) then 80 else 98)) (ls1 := [some (.ref 66), some (.int v1), some (.int v2), some (.int v3), some (.int r3)]) (st1 := []) (mem1 := m9) rfl ?_
          refine it_V.ite (fun c10 => ?_) (fun c10 => ?_)
          · have h := h.1 c10
            refine it_V.sN it_cd342 it_m342 7 (pc1 := (if v2 = 0 then 93 else 89)) (ls1 := [some (.ref 66), some (.int v1), some (.int v2), some (.int v3), some (.int r3)]) (st1 := [(.int v1), (.int (0 : Int32)), (.int (3 : Int32)), (.int v3), (.ref 66)]) (mem1 := m9) rfl ?_
            refine it_V.ite (fun c11 => ?_) (fun c11 => ?_)
            · have h := h.1 c11
              refine it_V.sN it_cd342 it_m342 1 (pc1 := 94) (ls1 := [some (.ref 66), some (.int v1), some (.int v2), some (.int v3), some (.int r3)]) (st1 := [(.int (0 : Int32)), (.int v1), (.int (0 : Int32)), (.int (3 : Int32)), (.int v3), (.ref 66)]) (mem1 := m9) rfl ?_
              refine it_V.weak (l := [some (.ref 66), some (.int v1), some (.int v2), some (.int v3), none]) ⟨rfl, ⟨rfl, ⟨rfl, ⟨rfl, trivial⟩⟩⟩⟩ ?_
              exact s_342_94 kc Φ _ _ ih hK104 v1 v2 v3 v3 (3 : Int32) (0 : Int32) v1 (0 : Int32) m9 h
            · have h := h.2 c11
              refine it_V.sN it_cd342 it_m342 2 (pc1 := 94) (ls1 := [some (.ref 66), some (.int v1), some (.int v2), some (.int v3), some (.int r3)]) (st1 := [(.int (1 : Int32)), (.int v1), (.int (0 : Int32)), (.int (3 : Int32)), (.int v3), (.ref 66)]) (mem1 := m9) rfl ?_
              refine it_V.weak (l := [some (.ref 66), some (.int v1), some (.int v2), some (.int v3), none]) ⟨rfl, ⟨rfl, ⟨rfl, ⟨rfl, trivial⟩⟩⟩⟩ ?_
              exact s_342_94 kc Φ _ _ ih hK104 v1 v2 v3 v3 (3 : Int32) (0 : Int32) v1 (1 : Int32) m9 h
          · have h := h.2 c10
            refine it_V.weak (l := [some (.ref 66), some (.int v1), some (.int v2), some (.int v3), none]) ⟨rfl, ⟨rfl, ⟨rfl, ⟨rfl, trivial⟩⟩⟩⟩ ?_
            exact s_342_98 kc Φ _ _ ih hK104 v1 v2 v3 m9 h
set_option maxRecDepth 100000 in
set_option maxHeartbeats 4000000 in
theorem s_342_9 (kc : it_Kc) (Φ : Int32 → it_Me → Prop) (m : it_Me) (h : w_342_9 kc Φ m) : it_V kc it_sh0 342 9 [none, none, none, none, none] [] m (it_Pi Φ) := by
  rw [w_342_9] at h
  refine it_V.sN it_cd342 it_m342 1 (pc1 := 11) (ls1 := [none, none, none, none, none]) (st1 := [(.int (-2 : Int32))]) (mem1 := m) rfl ?_
  exact it_V.ret it_cd342 it_m342 rfl rfl ⟨_, rfl, h⟩
set_option maxRecDepth 100000 in
set_option maxHeartbeats 4000000 in
theorem s_342_104 (kc : it_Kc) (Φ : Int32 → it_Me → Prop) (m : it_Me) (h : w_342_104 kc Φ m) : it_V kc it_sh0 342 104 [none, none, none, none, none] [] m (it_Pi Φ) := by
  rw [w_342_104] at h
  refine it_V.sN it_cd342 it_m342 1 (pc1 := 105) (ls1 := [none, none, none, none, none]) (st1 := [(.int (1 : Int32))]) (mem1 := m) rfl ?_
  exact it_V.ret it_cd342 it_m342 rfl rfl ⟨_, rfl, h⟩
set_option maxRecDepth 100000 in
set_option maxHeartbeats 4000000 in
theorem s_342 (kc : it_Kc) (x0 : Int32) (x1 : Int32) (m : it_Me) (Φ : Int32 → it_Me → Prop) (h : w_342 kc x0 x1 m Φ) : it_V kc it_sh0 342 0 (it_loc0 [(.ref 66), (.int x0), (.int x1)] 5) [] m (it_Pi Φ) := by
  rw [w_342] at h
  refine it_V.at (pc1 := 0) (ls1 := [some (.ref 66), some (.int x0), some (.int x1), none, none]) (st1 := []) (mem1 := m) rfl rfl rfl rfl ?_
  refine it_V.sN it_cd342 it_m342 2 (pc1 := (if x0 < 0 then 9 else 4)) (ls1 := [some (.ref 66), some (.int x0), some (.int x1), none, none]) (st1 := []) (mem1 := m) rfl ?_
  refine it_V.ite (fun c1 => ?_) (fun c1 => ?_)
  · have h := h.1 c1
    refine it_V.weak (l := [none, none, none, none, none]) trivial ?_
    exact s_342_9 kc Φ m h
  · have h := h.2 c1
    refine it_V.sN it_cd342 it_m342 3 (pc1 := (if x0 ≤ (3 : Int32) then 12 else 9)) (ls1 := [some (.ref 66), some (.int x0), some (.int x1), none, none]) (st1 := []) (mem1 := m) rfl ?_
    refine it_V.ite (fun c2 => ?_) (fun c2 => ?_)
    · have h := h.1 c2
      refine it_V.sN it_cd342 it_m342 3 (pc1 := 17) (ls1 := [some (.ref 66), some (.int x0), some (.int x1), none, none]) (st1 := [(.int x0), (.ref 72)]) (mem1 := m) rfl ?_
      obtain ⟨g3, h⟩ := h
      refine it_V.bald (t := 2) (n := 4) it_cd342 it_m342 rfl rfl (by decide) g3 ?_
      refine it_V.at (pc1 := 18) (ls1 := [some (.ref 66), some (.int x0), some (.int x1), none, none]) (st1 := [(.int (m 72 (Int32.toNatClampNeg x0)))]) (mem1 := m) rfl rfl rfl rfl ?_
      refine it_V.sN it_cd342 it_m342 2 (pc1 := (if (m 72 (Int32.toNatClampNeg x0)) = x1 then 22 else 24)) (ls1 := [some (.ref 66), some (.int x0), some (.int x1), none, none]) (st1 := []) (mem1 := m) rfl ?_
      refine it_V.ite (fun c4 => ?_) (fun c4 => ?_)
      · have h := h.1 c4
        refine it_V.sN it_cd342 it_m342 1 (pc1 := 23) (ls1 := [some (.ref 66), some (.int x0), some (.int x1), none, none]) (st1 := [(.int (0 : Int32))]) (mem1 := m) rfl ?_
        exact it_V.ret it_cd342 it_m342 rfl rfl ⟨_, rfl, h⟩
      · have h := h.2 c4
        refine it_V.sN it_cd342 it_m342 4 (pc1 := 30) (ls1 := [some (.ref 66), some (.int x0), some (.int x1), none, none]) (st1 := [(.int x1), (.int x0), (.ref 72)]) (mem1 := m) rfl ?_
        obtain ⟨g5, h⟩ := h
        refine it_V.zast (n := 4) it_cd342 it_m342 rfl rfl g5 ?_
        refine it_V.at (pc1 := 31) (ls1 := [some (.ref 66), some (.int x0), some (.int x1), none, none]) (st1 := []) (mem1 := (it_sv m 72 (Int32.toNatClampNeg x0) (x1 &&& 1))) rfl rfl rfl rfl ?_
        refine it_V.sN it_cd342 it_m342 2 (pc1 := 33) (ls1 := [some (.ref 66), some (.int x0), some (.int x1), some (.int (0 : Int32)), none]) (st1 := []) (mem1 := (it_sv m 72 (Int32.toNatClampNeg x0) (x1 &&& 1))) rfl ?_
        obtain ⟨n, h⟩ := h
        exact s_342_33 kc Φ _ (fun m h => s_342_104 kc Φ m h) n x0 x1 (0 : Int32) (it_sv m 72 (Int32.toNatClampNeg x0) (x1 &&& 1)) h
    · have h := h.2 c2
      refine it_V.weak (l := [none, none, none, none, none]) trivial ?_
      exact s_342_9 kc Φ m h
set_option maxRecDepth 100000 in
set_option maxHeartbeats 4000000 in
theorem s_343_21 (kc : it_Kc) (Φ : Int32 → it_Me → Prop) (m : it_Me) (h : w_343_21 kc Φ m) : it_V kc it_sh0 343 21 [none, none, none, none, none, none, none] [] m (it_Pi Φ) := by
  rw [w_343_21] at h
  refine it_V.sN it_cd343 it_m343 1 (pc1 := 23) (ls1 := [none, none, none, none, none, none, none]) (st1 := [(.int (-2 : Int32))]) (mem1 := m) rfl ?_
  exact it_V.ret it_cd343 it_m343 rfl rfl ⟨_, rfl, h⟩
set_option maxRecDepth 100000 in
set_option maxHeartbeats 4000000 in
theorem s_343_179 (kc : it_Kc) (Φ : Int32 → it_Me → Prop) (u0 : Int32) (m : it_Me) (h : w_343_179 kc Φ u0 m) : it_V kc it_sh0 343 179 [none, none, none, none, none, none, none] [(.int u0)] m (it_Pi Φ) := by
  rw [w_343_179] at h
  exact it_V.ret it_cd343 it_m343 rfl rfl ⟨_, rfl, h⟩
set_option maxRecDepth 100000 in
set_option maxHeartbeats 4000000 in
theorem s_343_169 (kc : it_Kc) (Φ : Int32 → it_Me → Prop) (v6 : Int32) (m : it_Me) (h : w_343_169 kc Φ v6 m) : it_V kc it_sh0 343 169 [none, none, none, none, none, none, some (.int v6)] [] m (it_Pi Φ) := by
  rw [w_343_169] at h
  refine it_V.sN it_cd343 it_m343 2 (pc1 := (if v6 = 0 then 178 else 174)) (ls1 := [none, none, none, none, none, none, some (.int v6)]) (st1 := []) (mem1 := m) rfl ?_
  refine it_V.ite (fun c1 => ?_) (fun c1 => ?_)
  · have h := h.1 c1
    refine it_V.sN it_cd343 it_m343 1 (pc1 := 179) (ls1 := [none, none, none, none, none, none, some (.int v6)]) (st1 := [(.int (0 : Int32))]) (mem1 := m) rfl ?_
    refine it_V.weak (l := [none, none, none, none, none, none, none]) trivial ?_
    exact s_343_179 kc Φ (0 : Int32) m h
  · have h := h.2 c1
    refine it_V.sN it_cd343 it_m343 2 (pc1 := 179) (ls1 := [none, none, none, none, none, none, some (.int v6)]) (st1 := [(.int (1 : Int32))]) (mem1 := m) rfl ?_
    refine it_V.weak (l := [none, none, none, none, none, none, none]) trivial ?_
    exact s_343_179 kc Φ (1 : Int32) m h
set_option maxRecDepth 100000 in
set_option maxHeartbeats 4000000 in
theorem s_343_142 (kc : it_Kc) (Φ : Int32 → it_Me → Prop) (v2 : Int32) (v4 : Int32) (v5 : Int32) (v6 : Int32) (m : it_Me) (h : w_343_142 kc Φ v2 v4 v5 v6 m) : it_V kc it_sh0 343 142 [some (.ref 66), none, some (.int v2), none, some (.int v4), some (.int v5), some (.int v6)] [] m (it_Pi Φ) := by
  rw [w_343_142] at h
  refine it_V.sN it_cd343 it_m343 3 (pc1 := 146) (ls1 := [some (.ref 66), none, some (.int v2), none, some (.int v4), some (.int v5), some (.int v6)]) (st1 := [(.int (0 : Int32)), (.int v4), (.ref 66)]) (mem1 := m) rfl ?_
  refine it_V.call it_cd343 it_m343 rfl it_m221 [(.ref 66), (.int v4), (.int (0 : Int32))] [] rfl rfl ⟨Nat.le_of_ble_eq_true rfl, Nat.le_of_ble_eq_true rfl, Nat.le_of_ble_eq_true rfl, Nat.le_of_ble_eq_true rfl, rfl⟩ (s_221 kc v4 (0 : Int32) m _ h) ?_
  rintro _ m1 ⟨rfl, h⟩
  refine it_V.at (pc1 := 149) (ls1 := [some (.ref 66), none, some (.int v2), none, some (.int v4), some (.int v5), some (.int v6)]) (st1 := []) (mem1 := m1) rfl rfl rfl rfl ?_
  refine it_V.sN it_cd343 it_m343 5 (pc1 := 155) (ls1 := [some (.ref 66), none, some (.int v2), none, some (.int v4), some (.int v5), some (.int v6)]) (st1 := [(.int (0 : Int32)), (.int (v4 + (4 : Int32))), (.ref 66)]) (mem1 := m1) rfl ?_
  refine it_V.call it_cd343 it_m343 rfl it_m221 [(.ref 66), (.int (v4 + (4 : Int32))), (.int (0 : Int32))] [] rfl rfl ⟨Nat.le_of_ble_eq_true rfl, Nat.le_of_ble_eq_true rfl, Nat.le_of_ble_eq_true rfl, Nat.le_of_ble_eq_true rfl, rfl⟩ (s_221 kc (v4 + (4 : Int32)) (0 : Int32) m1 _ h) ?_
  rintro _ m2 ⟨rfl, h⟩
  refine it_V.at (pc1 := 158) (ls1 := [some (.ref 66), none, some (.int v2), none, some (.int v4), some (.int v5), some (.int v6)]) (st1 := []) (mem1 := m2) rfl rfl rfl rfl ?_
  refine it_V.sN it_cd343 it_m343 7 (pc1 := 166) (ls1 := [some (.ref 66), none, some (.int v2), none, some (.int v4), some (.int v5), some (.int v6)]) (st1 := [(.int (0 : Int32)), (.int v5), (.int (0 : Int32)), (.int (2 : Int32)), (.int (1 : Int32)), (.int v2), (.ref 66)]) (mem1 := m2) rfl ?_
  refine it_V.call it_cd343 it_m343 rfl it_m274 [(.ref 66), (.int v2), (.int (1 : Int32)), (.int (2 : Int32)), (.int (0 : Int32)), (.int v5), (.int (0 : Int32))] [] rfl rfl ⟨Nat.le_of_ble_eq_true rfl, Nat.le_of_ble_eq_true rfl, Nat.le_of_ble_eq_true rfl, Nat.le_of_ble_eq_true rfl, rfl⟩ (s_274 kc v2 (1 : Int32) (2 : Int32) (0 : Int32) v5 (0 : Int32) m2 _ h) ?_
  rintro _ m3 ⟨rfl, h⟩
  refine it_V.at (pc1 := 169) (ls1 := [some (.ref 66), none, some (.int v2), none, some (.int v4), some (.int v5), some (.int v6)]) (st1 := []) (mem1 := m3) rfl rfl rfl rfl ?_
  refine it_V.weak (l := [none, none, none, none, none, none, some (.int v6)]) ⟨rfl, trivial⟩ ?_
  exact s_343_169 kc Φ v6 m3 h
set_option maxRecDepth 100000 in
set_option maxHeartbeats 4000000 in
theorem s_343_126 (kc : it_Kc) (Φ : Int32 → it_Me → Prop) (v2 : Int32) (v4 : Int32) (v5 : Int32) (v6 : Int32) (m : it_Me) (h : w_343_126 kc Φ v2 v4 v5 v6 m) : it_V kc it_sh0 343 126 [some (.ref 66), none, some (.int v2), none, some (.int v4), some (.int v5), some (.int v6)] [] m (it_Pi Φ) := by
  rw [w_343_126] at h
  refine it_V.sN it_cd343 it_m343 2 (pc1 := (if v6 = 0 then 142 else 131)) (ls1 := [some (.ref 66), none, some (.int v2), none, some (.int v4), some (.int v5), some (.int v6)]) (st1 := []) (mem1 := m) rfl ?_
  refine it_V.ite (fun c1 => ?_) (fun c1 => ?_)
  · have h := h.1 c1
    refine it_V.weak (l := [some (.ref 66), none, some (.int v2), none, some (.int v4), some (.int v5), some (.int v6)]) ⟨rfl, ⟨rfl, ⟨rfl, ⟨rfl, ⟨rfl, trivial⟩⟩⟩⟩⟩ ?_
    exact s_343_142 kc Φ v2 v4 v5 v6 m h
  · have h := h.2 c1
    refine it_V.sN it_cd343 it_m343 3 (pc1 := 136) (ls1 := [some (.ref 66), none, some (.int v2), none, some (.int v4), some (.int v5), some (.int v6)]) (st1 := [(.int v4), (.ref 66), (.int v5)]) (mem1 := m) rfl ?_
    refine it_V.call it_cd343 it_m343 rfl it_m220 [(.ref 66), (.int v4)] [(.int v5)] rfl rfl ⟨Nat.le_of_ble_eq_true rfl, Nat.le_of_ble_eq_true rfl, Nat.le_of_ble_eq_true rfl, Nat.le_of_ble_eq_true rfl, rfl⟩ (s_220 kc v4 m _ h) ?_
    rintro _ m3 ⟨r2, rfl, h⟩
    refine it_V.at (pc1 := 139) (ls1 := [some (.ref 66), none, some (.int v2), none, some (.int v4), some (.int v5), some (.int v6)]) (st1 := [(.int r2), (.int v5)]) (mem1 := m3) rfl rfl rfl rfl ?_
    refine it_V.sN it_cd343 it_m343 1 (pc1 := (if v5 = r2 then 142 else 169)) (ls1 := [some (.ref 66), none, some (.int v2), none, some (.int v4), some (.int v5), some (.int v6)]) (st1 := []) (mem1 := m3) rfl ?_
    refine it_V.ite (fun c4 => ?_) (fun c4 => ?_)
    · have h := h.1 c4
      refine it_V.weak (l := [some (.ref 66), none, some (.int v2), none, some (.int v4), some (.int v5), some (.int v6)]) ⟨rfl, ⟨rfl, ⟨rfl, ⟨rfl, ⟨rfl, trivial⟩⟩⟩⟩⟩ ?_
      exact s_343_142 kc Φ v2 v4 v5 v6 m3 h
    · have h := h.2 c4
      refine it_V.weak (l := [none, none, none, none, none, none, some (.int v6)]) ⟨rfl, trivial⟩ ?_
      exact s_343_169 kc Φ v6 m3 h
set_option maxRecDepth 100000 in
set_option maxHeartbeats 4000000 in
theorem s_343_86 (kc : it_Kc) (Φ : Int32 → it_Me → Prop) (v1 : Int32) (v2 : Int32) (v3 : Int32) (v4 : Int32) (v5 : Int32) (u0 : Int32) (m : it_Me) (h : w_343_86 kc Φ v1 v2 v3 v4 v5 u0 m) : it_V kc it_sh0 343 86 [some (.ref 66), some (.int v1), some (.int v2), some (.int v3), some (.int v4), some (.int v5), none] [(.int u0)] m (it_Pi Φ) := by
  rw [w_343_86] at h
  refine it_V.sN it_cd343 it_m343 3 (pc1 := (if u0 = 0 then 126 else 93)) (ls1 := [some (.ref 66), some (.int v1), some (.int v2), some (.int v3), some (.int v4), some (.int v5), some (.int u0)]) (st1 := []) (mem1 := m) rfl ?_
  refine it_V.ite (fun c1 => ?_) (fun c1 => ?_)
  · have h := h.1 c1
    refine it_V.weak (l := [some (.ref 66), none, some (.int v2), none, some (.int v4), some (.int v5), some (.int u0)]) ⟨rfl, ⟨rfl, ⟨rfl, ⟨rfl, ⟨rfl, trivial⟩⟩⟩⟩⟩ ?_
    exact s_343_126 kc Φ v2 v4 v5 u0 m h
  · have h := h.2 c1
    refine it_V.sN it_cd343 it_m343 6 (pc1 := 101) (ls1 := [some (.ref 66), some (.int v1), some (.int v2), some (.int v3), some (.int v4), some (.int v5), some (.int u0)]) (st1 := [(.int (1 : Int32)), (.int (1 : Int32)), (.int v3), (.ref 66), (.ref 67)]) (mem1 := m) rfl ?_
    refine it_V.call it_cd343 it_m343 rfl it_m271 [(.int v3), (.int (1 : Int32)), (.int (1 : Int32))] [(.ref 66), (.ref 67)] rfl rfl ⟨Nat.le_of_ble_eq_true rfl, Nat.le_of_ble_eq_true rfl, Nat.le_of_ble_eq_true rfl, Nat.le_of_ble_eq_true rfl, rfl⟩ (s_271 kc v3 (1 : Int32) (1 : Int32) m _ h) ?_
    rintro _ m3 ⟨r2, rfl, h⟩
    refine it_V.at (pc1 := 104) (ls1 := [some (.ref 66), some (.int v1), some (.int v2), some (.int v3), some (.int v4), some (.int v5), some (.int u0)]) (st1 := [(.int r2), (.ref 66), (.ref 67)]) (mem1 := m3) rfl rfl rfl rfl ?_
    refine it_V.call it_cd343 it_m343 rfl it_m220 [(.ref 66), (.int r2)] [(.ref 67)] rfl rfl ⟨Nat.le_of_ble_eq_true rfl, Nat.le_of_ble_eq_true rfl, Nat.le_of_ble_eq_true rfl, Nat.le_of_ble_eq_true rfl, rfl⟩ (s_220 kc r2 m3 _ h) ?_
    rintro _ m5 ⟨r4, rfl, h⟩
    refine it_V.at (pc1 := 107) (ls1 := [some (.ref 66), some (.int v1), some (.int v2), some (.int v3), some (.int v4), some (.int v5), some (.int u0)]) (st1 := [(.int r4), (.ref 67)]) (mem1 := m5) rfl rfl rfl rfl ?_
    refine it_V.sN it_cd343 it_m343 4 (pc1 := 112) (ls1 := [some (.ref 66), some (.int v1), some (.int v2), some (.int v3), some (.int v4), some (.int v5), some (.int u0)]) (st1 := [(.int (it_i2b v1)), (.int (r4 + v5)), (.ref 67)]) (mem1 := m5) rfl ?_
    obtain ⟨g6, h⟩ := h
    refine it_V.bast (n := 196608) it_cd343 it_m343 rfl rfl g6 ?_
    refine it_V.at (pc1 := 113) (ls1 := [some (.ref 66), some (.int v1), some (.int v2), some (.int v3), some (.int v4), some (.int v5), some (.int u0)]) (st1 := []) (mem1 := (it_sv m5 67 (Int32.toNatClampNeg (r4 + v5)) (it_i2b (it_i2b v1)))) rfl rfl rfl rfl ?_
    refine it_V.sN it_cd343 it_m343 6 (pc1 := 123) (ls1 := [some (.ref 66), some (.int v1), some (.int v2), some (.int v3), some (.int v4), some (.int (v5 + (1 : Int32))), some (.int u0)]) (st1 := [(.int (v5 + (1 : Int32))), (.int (v4 + (4 : Int32))), (.ref 66)]) (mem1 := (it_sv m5 67 (Int32.toNatClampNeg (r4 + v5)) (it_i2b (it_i2b v1)))) rfl ?_
    refine it_V.call it_cd343 it_m343 rfl it_m221 [(.ref 66), (.int (v4 + (4 : Int32))), (.int (v5 + (1 : Int32)))] [] rfl rfl ⟨Nat.le_of_ble_eq_true rfl, Nat.le_of_ble_eq_true rfl, Nat.le_of_ble_eq_true rfl, Nat.le_of_ble_eq_true rfl, rfl⟩ (s_221 kc (v4 + (4 : Int32)) (v5 + (1 : Int32)) (it_sv m5 67 (Int32.toNatClampNeg (r4 + v5)) (it_i2b (it_i2b v1))) _ h) ?_
    rintro _ m7 ⟨rfl, h⟩
    refine it_V.at (pc1 := 126) (ls1 := [some (.ref 66), some (.int v1), some (.int v2), some (.int v3), some (.int v4), some (.int (v5 + (1 : Int32))), some (.int u0)]) (st1 := []) (mem1 := m7) rfl rfl rfl rfl ?_
    refine it_V.weak (l := [some (.ref 66), none, some (.int v2), none, some (.int v4), some (.int (v5 + (1 : Int32))), some (.int u0)]) ⟨rfl, ⟨rfl, ⟨rfl, ⟨rfl, ⟨rfl, trivial⟩⟩⟩⟩⟩ ?_
    exact s_343_126 kc Φ v2 v4 (v5 + (1 : Int32)) u0 m7 h
set_option maxRecDepth 100000 in
set_option maxHeartbeats 4000000 in
theorem s_343 (kc : it_Kc) (x0 : Int32) (m : it_Me) (Φ : Int32 → it_Me → Prop) (h : w_343 kc x0 m Φ) : it_V kc it_sh0 343 0 (it_loc0 [(.ref 66), (.int x0)] 7) [] m (it_Pi Φ) := by
  rw [w_343] at h
  refine it_V.at (pc1 := 0) (ls1 := [some (.ref 66), some (.int x0), none, none, none, none, none]) (st1 := []) (mem1 := m) rfl rfl rfl rfl ?_
  refine it_V.sN it_cd343 it_m343 3 (pc1 := (if (m 66 3) = 0 then 7 else 10)) (ls1 := [some (.ref 66), some (.int x0), none, none, none, none, none]) (st1 := []) (mem1 := m) rfl ?_
  refine it_V.ite (fun c1 => ?_) (fun c1 => ?_)
  · have h := h.1 c1
    refine it_V.sN it_cd343 it_m343 1 (pc1 := 9) (ls1 := [some (.ref 66), some (.int x0), none, none, none, none, none]) (st1 := [(.int (-3 : Int32))]) (mem1 := m) rfl ?_
    exact it_V.ret it_cd343 it_m343 rfl rfl ⟨_, rfl, h⟩
  · have h := h.2 c1
    refine it_V.sN it_cd343 it_m343 2 (pc1 := (if x0 < 0 then 21 else 14)) (ls1 := [some (.ref 66), some (.int x0), none, none, none, none, none]) (st1 := []) (mem1 := m) rfl ?_
    refine it_V.ite (fun c2 => ?_) (fun c2 => ?_)
    · have h := h.1 c2
      refine it_V.weak (l := [none, none, none, none, none, none, none]) trivial ?_
      exact s_343_21 kc Φ m h
    · have h := h.2 c2
      refine it_V.sN it_cd343 it_m343 3 (pc1 := (if x0 ≤ (255 : Int32) then 24 else 21)) (ls1 := [some (.ref 66), some (.int x0), none, none, none, none, none]) (st1 := []) (mem1 := m) rfl ?_
      refine it_V.ite (fun c3 => ?_) (fun c3 => ?_)
      · have h := h.1 c3
        refine it_V.sN it_cd343 it_m343 2 (pc1 := 26) (ls1 := [some (.ref 66), some (.int x0), none, none, none, none, none]) (st1 := [(.int (0 : Int32)), (.ref 66)]) (mem1 := m) rfl ?_
        refine it_V.call it_cd343 it_m343 rfl it_m309 [(.ref 66), (.int (0 : Int32))] [] rfl rfl ⟨Nat.le_of_ble_eq_true rfl, Nat.le_of_ble_eq_true rfl, Nat.le_of_ble_eq_true rfl, Nat.le_of_ble_eq_true rfl, rfl⟩ (s_309 kc (0 : Int32) m _ h) ?_
        rintro _ m5 ⟨r4, rfl, h⟩
        refine it_V.at (pc1 := 29) (ls1 := [some (.ref 66), some (.int x0), none, none, none, none, none]) (st1 := [(.int r4)]) (mem1 := m5) rfl rfl rfl rfl ?_
        refine it_V.sN it_cd343 it_m343 4 (pc1 := (if r4 = (-1 : Int32) then 35 else 37)) (ls1 := [some (.ref 66), some (.int x0), some (.int r4), none, none, none, none]) (st1 := []) (mem1 := m5) rfl ?_
        refine it_V.ite (fun c6 => ?_) (fun c6 => ?_)
        · have h := h.1 c6
          refine it_V.sN it_cd343 it_m343 1 (pc1 := 36) (ls1 := [some (.ref 66), some (.int x0), some (.int r4), none, none, none, none]) (st1 := [(.int (0 : Int32))]) (mem1 := m5) rfl ?_
          exact it_V.ret it_cd343 it_m343 rfl rfl ⟨_, rfl, h⟩
        · have h := h.2 c6
          refine it_V.sN it_cd343 it_m343 3 (pc1 := 40) (ls1 := [some (.ref 66), some (.int x0), some (.int r4), none, none, none, none]) (st1 := [(.int (1 : Int32)), (.int r4), (.ref 66)]) (mem1 := m5) rfl ?_
          refine it_V.call it_cd343 it_m343 rfl it_m272 [(.ref 66), (.int r4), (.int (1 : Int32))] [] rfl rfl ⟨Nat.le_of_ble_eq_true rfl, Nat.le_of_ble_eq_true rfl, Nat.le_of_ble_eq_true rfl, Nat.le_of_ble_eq_true rfl, rfl⟩ (s_272 kc r4 (1 : Int32) m5 _ h) ?_
          rintro _ m8 ⟨r7, rfl, h⟩
          refine it_V.at (pc1 := 43) (ls1 := [some (.ref 66), some (.int x0), some (.int r4), none, none, none, none]) (st1 := [(.int r7)]) (mem1 := m8) rfl rfl rfl rfl ?_
          refine it_V.sN it_cd343 it_m343 3 (pc1 := 46) (ls1 := [some (.ref 66), some (.int x0), some (.int r4), some (.int r7), none, none, none]) (st1 := [(.int (1 : Int32)), (.int r7)]) (mem1 := m8) rfl ?_
          refine it_V.call it_cd343 it_m343 rfl it_m269 [(.int r7), (.int (1 : Int32))] [] rfl rfl ⟨Nat.le_of_ble_eq_true rfl, Nat.le_of_ble_eq_true rfl, Nat.le_of_ble_eq_true rfl, Nat.le_of_ble_eq_true rfl, rfl⟩ (s_269 kc r7 (1 : Int32) m8 _ h) ?_
          rintro _ m10 ⟨r9, rfl, h⟩
          refine it_V.at (pc1 := 49) (ls1 := [some (.ref 66), some (.int x0), some (.int r4), some (.int r7), none, none, none]) (st1 := [(.int r9)]) (mem1 := m10) rfl rfl rfl rfl ?_
          refine it_V.sN it_cd343 it_m343 7 (pc1 := 59) (ls1 := [some (.ref 66), some (.int x0), some (.int r4), some (.int r7), some (.int (r9 + (8 : Int32))), none, none]) (st1 := [(.int ((r9 + (8 : Int32)) + (4 : Int32))), (.ref 66)]) (mem1 := m10) rfl ?_
          refine it_V.call it_cd343 it_m343 rfl it_m220 [(.ref 66), (.int ((r9 + (8 : Int32)) + (4 : Int32)))] [] rfl rfl ⟨Nat.le_of_ble_eq_true rfl, Nat.le_of_ble_eq_true rfl, Nat.le_of_ble_eq_true rfl, Nat.le_of_ble_eq_true rfl, rfl⟩ (s_220 kc ((r9 + (8 : Int32)) + (4 : Int32)) m10 _ h) ?_
          rintro _ m12 ⟨r11, rfl, h⟩
          refine it_V.at (pc1 := 62) (ls1 := [some (.ref 66), some (.int x0), some (.int r4), some (.int r7), some (.int (r9 + (8 : Int32))), none, none]) (st1 := [(.int r11)]) (mem1 := m12) rfl rfl rfl rfl ?_
          refine it_V.sN it_cd343 it_m343 6 (pc1 := 70) (ls1 := [some (.ref 66), some (.int x0), some (.int r4), some (.int r7), some (.int (r9 + (8 : Int32))), some (.int r11), none]) (st1 := [(.int (1 : Int32)), (.int (1 : Int32)), (.int r7), (.ref 66), (.int r11)]) (mem1 := m12) rfl ?_
          refine it_V.call it_cd343 it_m343 rfl it_m271 [(.int r7), (.int (1 : Int32)), (.int (1 : Int32))] [(.ref 66), (.int r11)] rfl rfl ⟨Nat.le_of_ble_eq_true rfl, Nat.le_of_ble_eq_true rfl, Nat.le_of_ble_eq_true rfl, Nat.le_of_ble_eq_true rfl, rfl⟩ (s_271 kc r7 (1 : Int32) (1 : Int32) m12 _ h) ?_
          rintro _ m14 ⟨r13, rfl, h⟩
          refine it_V.at (pc1 := 73) (ls1 := [some (.ref 66), some (.int x0), some (.int r4), some (.int r7), some (.int (r9 + (8 : Int32))), some (.int r11), none]) (st1 := [(.int r13), (.ref 66), (.int r11)]) (mem1 := m14) rfl rfl rfl rfl ?_
          refine it_V.sN it_cd343 it_m343 2 (pc1 := 75) (ls1 := [some (.ref 66), some (.int x0), some (.int r4), some (.int r7), some (.int (r9 + (8 : Int32))), some (.int r11), none]) (st1 := [(.int (r13 + (4 : Int32))), (.ref 66), (.int r11)]) (mem1 := m14) rfl ?_
          refine it_V.call it_cd343 it_m343 rfl it_m220 [(.ref 66), (.int (r13 + (4 : Int32)))] [(.int r11)] rfl rfl ⟨Nat.le_of_ble_eq_true rfl, Nat.le_of_ble_eq_true rfl, Nat.le_of_ble_eq_true rfl, Nat.le_of_ble_eq_true rfl, rfl⟩ (s_220 kc (r13 + (4 : Int32)) m14 _ h) ?_
          rintro _ m16 ⟨r15, rfl, h⟩
          refine it_V.at (pc1 := 78) (ls1 := [some (.ref 66), some (.int x0), some (.int r4), some (.int r7), some (.int (r9 + (8 : Int32))), some (.int r11), none]) (st1 := [(.int r15), (.int r11)]) (mem1 := m16) rfl rfl rfl rfl ?_
          refine it_V.sN it_cd343 it_m343 1 (pc1 := (if r15 ≤ r11 then 85 else 81)) (ls1 := [some (.ref 66), some (.int x0), some (.int r4), some (.int r7), some (.int (r9 + (8 : Int32))), some (.int r11), none]) (st1 := []) (mem1 := m16) rfl ?_
          refine it_V.ite (fun c17 => ?_) (fun c17 => ?_)
          · have h := h.1 c17
            refine it_V.sN it_cd343 it_m343 1 (pc1 := 86) (ls1 := [some (.ref 66), some (.int x0), some (.int r4), some (.int r7), some (.int (r9 + (8 : Int32))), some (.int r11), none]) (st1 := [(.int (0 : Int32))]) (mem1 := m16) rfl ?_
            exact s_343_86 kc Φ x0 r4 r7 (r9 + (8 : Int32)) r11 (0 : Int32) m16 h
          · have h := h.2 c17
            refine it_V.sN it_cd343 it_m343 2 (pc1 := 86) (ls1 := [some (.ref 66), some (.int x0), some (.int r4), some (.int r7), some (.int (r9 + (8 : Int32))), some (.int r11), none]) (st1 := [(.int (1 : Int32))]) (mem1 := m16) rfl ?_
            exact s_343_86 kc Φ x0 r4 r7 (r9 + (8 : Int32)) r11 (1 : Int32) m16 h
      · have h := h.2 c3
        refine it_V.weak (l := [none, none, none, none, none, none, none]) trivial ?_
        exact s_343_21 kc Φ m h
set_option maxRecDepth 100000 in
set_option maxHeartbeats 4000000 in
theorem s_344_9 (kc : it_Kc) (Φ : Int32 → it_Me → Prop) (m : it_Me) (h : w_344_9 kc Φ m) : it_V kc it_sh0 344 9 [none, none, none] [] m (it_Pi Φ) := by
  rw [w_344_9] at h
  refine it_V.sN it_cd344 it_m344 1 (pc1 := 11) (ls1 := [none, none, none]) (st1 := [(.int (-2 : Int32))]) (mem1 := m) rfl ?_
  exact it_V.ret it_cd344 it_m344 rfl rfl ⟨_, rfl, h⟩
set_option maxRecDepth 100000 in
set_option maxHeartbeats 4000000 in
theorem s_344 (kc : it_Kc) (x0 : Int32) (x1 : Int32) (m : it_Me) (Φ : Int32 → it_Me → Prop) (h : w_344 kc x0 x1 m Φ) : it_V kc it_sh0 344 0 (it_loc0 [(.ref 66), (.int x0), (.int x1)] 3) [] m (it_Pi Φ) := by
  rw [w_344] at h
  refine it_V.at (pc1 := 0) (ls1 := [some (.ref 66), some (.int x0), some (.int x1)]) (st1 := []) (mem1 := m) rfl rfl rfl rfl ?_
  refine it_V.sN it_cd344 it_m344 2 (pc1 := (if x0 < 0 then 9 else 4)) (ls1 := [some (.ref 66), some (.int x0), some (.int x1)]) (st1 := []) (mem1 := m) rfl ?_
  refine it_V.ite (fun c1 => ?_) (fun c1 => ?_)
  · have h := h.1 c1
    refine it_V.weak (l := [none, none, none]) trivial ?_
    exact s_344_9 kc Φ m h
  · have h := h.2 c1
    refine it_V.sN it_cd344 it_m344 3 (pc1 := (if x0 ≤ (1 : Int32) then 12 else 9)) (ls1 := [some (.ref 66), some (.int x0), some (.int x1)]) (st1 := []) (mem1 := m) rfl ?_
    refine it_V.ite (fun c2 => ?_) (fun c2 => ?_)
    · have h := h.1 c2
      refine it_V.sN it_cd344 it_m344 4 (pc1 := 18) (ls1 := [some (.ref 66), some (.int x0), some (.int x1)]) (st1 := [(.int x1), (.int x0), (.ref 73)]) (mem1 := m) rfl ?_
      obtain ⟨g3, h⟩ := h
      refine it_V.iast it_cd344 it_m344 rfl ((⟨rfl, by decide⟩ : it_isR 73 2)).1 g3 ?_
      refine it_V.at (pc1 := 19) (ls1 := [some (.ref 66), some (.int x0), some (.int x1)]) (st1 := []) (mem1 := (it_sv m 73 (Int32.toNatClampNeg x0) x1)) rfl rfl rfl rfl ?_
      refine it_V.sN it_cd344 it_m344 1 (pc1 := 20) (ls1 := [some (.ref 66), some (.int x0), some (.int x1)]) (st1 := [(.int (1 : Int32))]) (mem1 := (it_sv m 73 (Int32.toNatClampNeg x0) x1)) rfl ?_
      exact it_V.ret it_cd344 it_m344 rfl rfl ⟨_, rfl, h⟩
    · have h := h.2 c2
      refine it_V.weak (l := [none, none, none]) trivial ?_
      exact s_344_9 kc Φ m h
set_option maxRecDepth 100000 in
set_option maxHeartbeats 4000000 in
theorem s_345_44 (kc : it_Kc) (Φ : Int32 → it_Me → Prop) (u0 : Int32) (m : it_Me) (h : w_345_44 kc Φ u0 m) : it_V kc it_sh0 345 44 [none, none, none, none] [(.int u0)] m (it_Pi Φ) := by
  rw [w_345_44] at h
  exact it_V.ret it_cd345 it_m345 rfl rfl ⟨_, rfl, h⟩
set_option maxRecDepth 100000 in
set_option maxHeartbeats 4000000 in
theorem s_345 (kc : it_Kc) (x0 : Int32) (x1 : Int32) (m : it_Me) (Φ : Int32 → it_Me → Prop) (h : w_345 kc x0 x1 m Φ) : it_V kc it_sh0 345 0 (it_loc0 [(.ref 66), (.int x0), (.int x1)] 4) [] m (it_Pi Φ) := by
  rw [w_345] at h
  refine it_V.at (pc1 := 0) (ls1 := [some (.ref 66), some (.int x0), some (.int x1), none]) (st1 := []) (mem1 := m) rfl rfl rfl rfl ?_
  refine it_V.sN it_cd345 it_m345 3 (pc1 := (if (m 66 3) = 0 then 7 else 10)) (ls1 := [some (.ref 66), some (.int x0), some (.int x1), none]) (st1 := []) (mem1 := m) rfl ?_
  refine it_V.ite (fun c1 => ?_) (fun c1 => ?_)
  · have h := h.1 c1
    refine it_V.sN it_cd345 it_m345 1 (pc1 := 9) (ls1 := [some (.ref 66), some (.int x0), some (.int x1), none]) (st1 := [(.int (-3 : Int32))]) (mem1 := m) rfl ?_
    exact it_V.ret it_cd345 it_m345 rfl rfl ⟨_, rfl, h⟩
  · have h := h.2 c1
    refine it_V.sN it_cd345 it_m345 2 (pc1 := 12) (ls1 := [some (.ref 66), some (.int x0), some (.int x1), none]) (st1 := [(.int x0), (.ref 66)]) (mem1 := m) rfl ?_
    refine it_V.call it_cd345 it_m345 rfl it_m341 [(.ref 66), (.int x0)] [] rfl rfl ⟨Nat.le_of_ble_eq_true rfl, Nat.le_of_ble_eq_true rfl, Nat.le_of_ble_eq_true rfl, Nat.le_of_ble_eq_true rfl, rfl⟩ (s_341 kc x0 m _ h) ?_
    rintro _ m3 ⟨r2, rfl, h⟩
    refine it_V.at (pc1 := 15) (ls1 := [some (.ref 66), some (.int x0), some (.int x1), none]) (st1 := [(.int r2)]) (mem1 := m3) rfl rfl rfl rfl ?_
    refine it_V.sN it_cd345 it_m345 1 (pc1 := (if r2 = 0 then 18 else 20)) (ls1 := [some (.ref 66), some (.int x0), some (.int x1), none]) (st1 := []) (mem1 := m3) rfl ?_
    refine it_V.ite (fun c4 => ?_) (fun c4 => ?_)
    · have h := h.1 c4
      refine it_V.sN it_cd345 it_m345 1 (pc1 := 19) (ls1 := [some (.ref 66), some (.int x0), some (.int x1), none]) (st1 := [(.int (-1 : Int32))]) (mem1 := m3) rfl ?_
      exact it_V.ret it_cd345 it_m345 rfl rfl ⟨_, rfl, h⟩
    · have h := h.2 c4
      refine it_V.sN it_cd345 it_m345 3 (pc1 := 25) (ls1 := [some (.ref 66), some (.int x0), some (.int x1), none]) (st1 := [(.int x0), (.ref 96)]) (mem1 := m3) rfl ?_
      obtain ⟨g5, h⟩ := h
      refine it_V.bald (t := 2) (n := 8) it_cd345 it_m345 rfl rfl (by decide) g5 ?_
      refine it_V.at (pc1 := 26) (ls1 := [some (.ref 66), some (.int x0), some (.int x1), none]) (st1 := [(.int (m3 96 (Int32.toNatClampNeg x0)))]) (mem1 := m3) rfl rfl rfl rfl ?_
      refine it_V.sN it_cd345 it_m345 5 (pc1 := 33) (ls1 := [some (.ref 66), some (.int x0), some (.int x1), some (.int (m3 96 (Int32.toNatClampNeg x0)))]) (st1 := [(.int x1), (.int x0), (.ref 96)]) (mem1 := m3) rfl ?_
      obtain ⟨g6, h⟩ := h
      refine it_V.zast (n := 8) it_cd345 it_m345 rfl rfl g6 ?_
      refine it_V.at (pc1 := 34) (ls1 := [some (.ref 66), some (.int x0), some (.int x1), some (.int (m3 96 (Int32.toNatClampNeg x0)))]) (st1 := []) (mem1 := (it_sv m3 96 (Int32.toNatClampNeg x0) (x1 &&& 1))) rfl rfl rfl rfl ?_
      refine it_V.sN it_cd345 it_m345 3 (pc1 := (if (m3 96 (Int32.toNatClampNeg x0)) = x1 then 39 else 43)) (ls1 := [some (.ref 66), some (.int x0), some (.int x1), some (.int (m3 96 (Int32.toNatClampNeg x0)))]) (st1 := []) (mem1 := (it_sv m3 96 (Int32.toNatClampNeg x0) (x1 &&& 1))) rfl ?_
      refine it_V.ite (fun c7 => ?_) (fun c7 => ?_)
      · have h := h.1 c7
        refine it_V.sN it_cd345 it_m345 2 (pc1 := 44) (ls1 := [some (.ref 66), some (.int x0), some (.int x1), some (.int (m3 96 (Int32.toNatClampNeg x0)))]) (st1 := [(.int (0 : Int32))]) (mem1 := (it_sv m3 96 (Int32.toNatClampNeg x0) (x1 &&& 1))) rfl ?_
        refine it_V.weak (l := [none, none, none, none]) trivial ?_
        exact s_345_44 kc Φ (0 : Int32) (it_sv m3 96 (Int32.toNatClampNeg x0) (x1 &&& 1)) h
      · have h := h.2 c7
        refine it_V.sN it_cd345 it_m345 1 (pc1 := 44) (ls1 := [some (.ref 66), some (.int x0), some (.int x1), some (.int (m3 96 (Int32.toNatClampNeg x0)))]) (st1 := [(.int (1 : Int32))]) (mem1 := (it_sv m3 96 (Int32.toNatClampNeg x0) (x1 &&& 1))) rfl ?_
        refine it_V.weak (l := [none, none, none, none]) trivial ?_
        exact s_345_44 kc Φ (1 : Int32) (it_sv m3 96 (Int32.toNatClampNeg x0) (x1 &&& 1)) h
set_option maxRecDepth 100000 in
set_option maxHeartbeats 4000000 in
theorem s_346 (kc : it_Kc) (x0 : Int32) (m : it_Me) (Φ : Int32 → it_Me → Prop) (h : w_346 kc x0 m Φ) : it_V kc it_sh0 346 0 (it_loc0 [(.ref 66), (.int x0)] 2) [] m (it_Pi Φ) := by
  rw [w_346] at h
  refine it_V.at (pc1 := 0) (ls1 := [some (.ref 66), some (.int x0)]) (st1 := []) (mem1 := m) rfl rfl rfl rfl ?_
  refine it_V.sN it_cd346 it_m346 3 (pc1 := (if (m 66 3) = 0 then 7 else 10)) (ls1 := [some (.ref 66), some (.int x0)]) (st1 := []) (mem1 := m) rfl ?_
  refine it_V.ite (fun c1 => ?_) (fun c1 => ?_)
  · have h := h.1 c1
    refine it_V.sN it_cd346 it_m346 1 (pc1 := 9) (ls1 := [some (.ref 66), some (.int x0)]) (st1 := [(.int (-3 : Int32))]) (mem1 := m) rfl ?_
    exact it_V.ret it_cd346 it_m346 rfl rfl ⟨_, rfl, h⟩
  · have h := h.2 c1
    refine it_V.sN it_cd346 it_m346 2 (pc1 := 12) (ls1 := [some (.ref 66), some (.int x0)]) (st1 := [(.int x0), (.ref 66)]) (mem1 := m) rfl ?_
    refine it_V.call it_cd346 it_m346 rfl it_m341 [(.ref 66), (.int x0)] [] rfl rfl ⟨Nat.le_of_ble_eq_true rfl, Nat.le_of_ble_eq_true rfl, Nat.le_of_ble_eq_true rfl, Nat.le_of_ble_eq_true rfl, rfl⟩ (s_341 kc x0 m _ h) ?_
    rintro _ m3 ⟨r2, rfl, h⟩
    refine it_V.at (pc1 := 15) (ls1 := [some (.ref 66), some (.int x0)]) (st1 := [(.int r2)]) (mem1 := m3) rfl rfl rfl rfl ?_
    refine it_V.sN it_cd346 it_m346 1 (pc1 := (if r2 = 0 then 18 else 20)) (ls1 := [some (.ref 66), some (.int x0)]) (st1 := []) (mem1 := m3) rfl ?_
    refine it_V.ite (fun c4 => ?_) (fun c4 => ?_)
    · have h := h.1 c4
      refine it_V.sN it_cd346 it_m346 1 (pc1 := 19) (ls1 := [some (.ref 66), some (.int x0)]) (st1 := [(.int (-1 : Int32))]) (mem1 := m3) rfl ?_
      exact it_V.ret it_cd346 it_m346 rfl rfl ⟨_, rfl, h⟩
    · have h := h.2 c4
      refine it_V.sN it_cd346 it_m346 2 (pc1 := 22) (ls1 := [some (.ref 66), some (.int x0)]) (st1 := [(.int x0), (.ref 66)]) (mem1 := m3) rfl ?_
      refine it_V.call it_cd346 it_m346 rfl it_m255 [(.ref 66), (.int x0)] [] rfl rfl ⟨Nat.le_of_ble_eq_true rfl, Nat.le_of_ble_eq_true rfl, Nat.le_of_ble_eq_true rfl, Nat.le_of_ble_eq_true rfl, rfl⟩ (s_255 kc x0 m3 _ h) ?_
      rintro _ m5 ⟨rfl, h⟩
      refine it_V.at (pc1 := 25) (ls1 := [some (.ref 66), some (.int x0)]) (st1 := []) (mem1 := m5) rfl rfl rfl rfl ?_
      refine it_V.sN it_cd346 it_m346 1 (pc1 := 26) (ls1 := [some (.ref 66), some (.int x0)]) (st1 := [(.int (1 : Int32))]) (mem1 := m5) rfl ?_
      exact it_V.ret it_cd346 it_m346 rfl rfl ⟨_, rfl, h⟩
set_option maxRecDepth 100000 in
set_option maxHeartbeats 4000000 in
theorem s_347_10 (kc : it_Kc) (Φ : Int32 → it_Me → Prop) (m : it_Me) (h : w_347_10 kc Φ m) : it_V kc it_sh0 347 10 [none, none] [] m (it_Pi Φ) := by
  rw [w_347_10] at h
  refine it_V.sN it_cd347 it_m347 1 (pc1 := 12) (ls1 := [none, none]) (st1 := [(.int (-2 : Int32))]) (mem1 := m) rfl ?_
  exact it_V.ret it_cd347 it_m347 rfl rfl ⟨_, rfl, h⟩
set_option maxRecDepth 100000 in
set_option maxHeartbeats 4000000 in
theorem s_347_62 (kc : it_Kc) (Φ : Int32 → it_Me → Prop) (u0 : Int32) (m : it_Me) (h : w_347_62 kc Φ u0 m) : it_V kc it_sh0 347 62 [none, none] [(.int u0)] m (it_Pi Φ) := by
  rw [w_347_62] at h
  exact it_V.ret it_cd347 it_m347 rfl rfl ⟨_, rfl, h⟩
set_option maxRecDepth 100000 in
set_option maxHeartbeats 4000000 in
theorem s_347 (kc : it_Kc) (x0 : Int32) (m : it_Me) (Φ : Int32 → it_Me → Prop) (h : w_347 kc x0 m Φ) : it_V kc it_sh0 347 0 (it_loc0 [(.ref 66), (.int x0)] 2) [] m (it_Pi Φ) := by
  rw [w_347] at h
  refine it_V.at (pc1 := 0) (ls1 := [some (.ref 66), some (.int x0)]) (st1 := []) (mem1 := m) rfl rfl rfl rfl ?_
  refine it_V.sN it_cd347 it_m347 2 (pc1 := (if x0 < 0 then 10 else 4)) (ls1 := [some (.ref 66), some (.int x0)]) (st1 := []) (mem1 := m) rfl ?_
  refine it_V.ite (fun c1 => ?_) (fun c1 => ?_)
  · have h := h.1 c1
    refine it_V.weak (l := [none, none]) trivial ?_
    exact s_347_10 kc Φ m h
  · have h := h.2 c1
    refine it_V.sN it_cd347 it_m347 3 (pc1 := (if x0 ≤ (11 : Int32) then 13 else 10)) (ls1 := [some (.ref 66), some (.int x0)]) (st1 := []) (mem1 := m) rfl ?_
    refine it_V.ite (fun c2 => ?_) (fun c2 => ?_)
    · have h := h.1 c2
      refine it_V.sN it_cd347 it_m347 2 (pc1 := (if x0 = 0 then 17 else 32)) (ls1 := [some (.ref 66), some (.int x0)]) (st1 := []) (mem1 := m) rfl ?_
      refine it_V.ite (fun c3 => ?_) (fun c3 => ?_)
      · have h := h.1 c3
        refine it_V.sN it_cd347 it_m347 3 (pc1 := (if (m 66 3) = 0 then 28 else 24)) (ls1 := [some (.ref 66), some (.int x0)]) (st1 := []) (mem1 := m) rfl ?_
        refine it_V.ite (fun c4 => ?_) (fun c4 => ?_)
        · have h := h.1 c4
          refine it_V.sN it_cd347 it_m347 2 (pc1 := 62) (ls1 := [some (.ref 66), some (.int x0)]) (st1 := [(.int (0 : Int32))]) (mem1 := m) rfl ?_
          refine it_V.weak (l := [none, none]) trivial ?_
          exact s_347_62 kc Φ (0 : Int32) m h
        · have h := h.2 c4
          refine it_V.sN it_cd347 it_m347 2 (pc1 := 62) (ls1 := [some (.ref 66), some (.int x0)]) (st1 := [(.int (1 : Int32))]) (mem1 := m) rfl ?_
          refine it_V.weak (l := [none, none]) trivial ?_
          exact s_347_62 kc Φ (1 : Int32) m h
      · have h := h.2 c3
        refine it_V.sN it_cd347 it_m347 3 (pc1 := (if x0 = (1 : Int32) then 37 else 44)) (ls1 := [some (.ref 66), some (.int x0)]) (st1 := []) (mem1 := m) rfl ?_
        refine it_V.ite (fun c5 => ?_) (fun c5 => ?_)
        · have h := h.1 c5
          refine it_V.sN it_cd347 it_m347 3 (pc1 := 62) (ls1 := [some (.ref 66), some (.int x0)]) (st1 := [(.int (m 66 34))]) (mem1 := m) rfl ?_
          refine it_V.weak (l := [none, none]) trivial ?_
          exact s_347_62 kc Φ (m 66 34) m h
        · have h := h.2 c5
          refine it_V.sN it_cd347 it_m347 3 (pc1 := (if x0 = (2 : Int32) then 49 else 56)) (ls1 := [some (.ref 66), some (.int x0)]) (st1 := []) (mem1 := m) rfl ?_
          refine it_V.ite (fun c6 => ?_) (fun c6 => ?_)
          · have h := h.1 c6
            refine it_V.sN it_cd347 it_m347 3 (pc1 := 62) (ls1 := [some (.ref 66), some (.int x0)]) (st1 := [(.int (m 66 6))]) (mem1 := m) rfl ?_
            refine it_V.weak (l := [none, none]) trivial ?_
            exact s_347_62 kc Φ (m 66 6) m h
          · have h := h.2 c6
            refine it_V.sN it_cd347 it_m347 3 (pc1 := 61) (ls1 := [some (.ref 66), some (.int x0)]) (st1 := [(.int x0), (.ref 69)]) (mem1 := m) rfl ?_
            obtain ⟨g7, h⟩ := h
            refine it_V.iald it_cd347 it_m347 rfl ((⟨rfl, by decide⟩ : it_isR 69 12)).2 ((⟨rfl, by decide⟩ : it_isR 69 12)).1 g7 ?_
            refine it_V.at (pc1 := 62) (ls1 := [some (.ref 66), some (.int x0)]) (st1 := [(.int (m 69 (Int32.toNatClampNeg x0)))]) (mem1 := m) rfl rfl rfl rfl ?_
            refine it_V.weak (l := [none, none]) trivial ?_
            exact s_347_62 kc Φ (m 69 (Int32.toNatClampNeg x0)) m h
    · have h := h.2 c2
      refine it_V.weak (l := [none, none]) trivial ?_
      exact s_347_10 kc Φ m h
set_option maxRecDepth 100000 in
set_option maxHeartbeats 4000000 in
theorem s_348_9 (kc : it_Kc) (Φ : Int32 → it_Me → Prop) (K35 : Int32 → it_Me → Prop) (hK35 : ∀ (v2 : Int32) (m : it_Me), K35 v2 m → it_V kc it_sh0 348 35 [none, none, some (.int v2), none] [] m (it_Pi Φ)) : ∀ (n : Nat) (v1 : Int32) (v2 : Int32) (v3 : Int32) (m : it_Me) (h : w_348_9 kc Φ K35 n v1 v2 v3 m), it_V kc it_sh0 348 9 [some (.ref 66), some (.int v1), some (.int v2), some (.int v3)] [] m (it_Pi Φ) := by
  intro n
  induction n with
  | zero => intro v1 v2 v3 m h; exact absurd h id
  | succ n ih =>
    intro v1 v2 v3 m h
    rw [w_348_9] at h
    refine it_V.sN it_cd348 it_m348 3 (pc1 := 12) (ls1 := [some (.ref 66), some (.int v1), some (.int v2), some (.int v3)]) (st1 := [(.int v1), (.ref 66), (.int v3)]) (mem1 := m) rfl ?_
    refine it_V.call it_cd348 it_m348 rfl it_m252 [(.ref 66), (.int v1)] [(.int v3)] rfl rfl ⟨Nat.le_of_ble_eq_true rfl, Nat.le_of_ble_eq_true rfl, Nat.le_of_ble_eq_true rfl, Nat.le_of_ble_eq_true rfl, rfl⟩ (s_252 kc v1 m _ h) ?_
    rintro _ m2 ⟨r1, rfl, h⟩
    refine it_V.at (pc1 := 15) (ls1 := [some (.ref 66), some (.int v1), some (.int v2), some (.int v3)]) (st1 := [(.int r1), (.int v3)]) (mem1 := m2) rfl rfl rfl rfl ?_
    refine it_V.sN it_cd348 it_m348 1 (pc1 := (if v3 = r1 then 35 else 18)) (ls1 := [some (.ref 66), some (.int v1), some (.int v2), some (.int v3)]) (st1 := []) (mem1 := m2) rfl ?_
    refine it_V.ite (fun c3 => ?_) (fun c3 => ?_)
    · have h := h.1 c3
      refine it_V.weak (l := [none, none, some (.int v2), none]) ⟨rfl, trivial⟩ ?_
      exact hK35 v2 m2 h
    · have h := h.2 c3
      refine it_V.sN it_cd348 it_m348 4 (pc1 := 24) (ls1 := [some (.ref 66), some (.int v1), some (.int (v2 + (1 : Int32))), some (.int v3)]) (st1 := [(.int v3), (.ref 66), (.int v3)]) (mem1 := m2) rfl ?_
      refine it_V.call it_cd348 it_m348 rfl it_m220 [(.ref 66), (.int v3)] [(.int v3)] rfl rfl ⟨Nat.le_of_ble_eq_true rfl, Nat.le_of_ble_eq_true rfl, Nat.le_of_ble_eq_true rfl, Nat.le_of_ble_eq_true rfl, rfl⟩ (s_220 kc v3 m2 _ h) ?_
      rintro _ m5 ⟨r4, rfl, h⟩
      refine it_V.at (pc1 := 27) (ls1 := [some (.ref 66), some (.int v1), some (.int (v2 + (1 : Int32))), some (.int v3)]) (st1 := [(.int r4), (.int v3)]) (mem1 := m5) rfl rfl rfl rfl ?_
      refine it_V.call it_cd348 it_m348 rfl it_m268 [(.int r4)] [(.int v3)] rfl rfl ⟨Nat.le_of_ble_eq_true rfl, Nat.le_of_ble_eq_true rfl, Nat.le_of_ble_eq_true rfl, Nat.le_of_ble_eq_true rfl, rfl⟩ (s_268 kc r4 m5 _ h) ?_
      rintro _ m7 ⟨r6, rfl, h⟩
      refine it_V.at (pc1 := 30) (ls1 := [some (.ref 66), some (.int v1), some (.int (v2 + (1 : Int32))), some (.int v3)]) (st1 := [(.int r6), (.int v3)]) (mem1 := m7) rfl rfl rfl rfl ?_
      refine it_V.sN it_cd348 it_m348 3 (pc1 := 9) (ls1 := [some (.ref 66), some (.int v1), some (.int (v2 + (1 : Int32))), some (.int (v3 + r6))]) (st1 := []) (mem1 := m7) rfl ?_
      exact ih v1 (v2 + (1 : Int32)) (v3 + r6) m7 h
set_option maxRecDepth 100000 in
set_option maxHeartbeats 4000000 in
theorem s_348_35 (kc : it_Kc) (Φ : Int32 → it_Me → Prop) (v2 : Int32) (m : it_Me) (h : w_348_35 kc Φ v2 m) : it_V kc it_sh0 348 35 [none, none, some (.int v2), none] [] m (it_Pi Φ) := by
  rw [w_348_35] at h
  refine it_V.sN it_cd348 it_m348 1 (pc1 := 36) (ls1 := [none, none, some (.int v2), none]) (st1 := [(.int v2)]) (mem1 := m) rfl ?_
  exact it_V.ret it_cd348 it_m348 rfl rfl ⟨_, rfl, h⟩
set_option maxRecDepth 100000 in
set_option maxHeartbeats 4000000 in
theorem s_348 (kc : it_Kc) (x0 : Int32) (m : it_Me) (Φ : Int32 → it_Me → Prop) (h : w_348 kc x0 m Φ) : it_V kc it_sh0 348 0 (it_loc0 [(.ref 66), (.int x0)] 4) [] m (it_Pi Φ) := by
  rw [w_348] at h
  refine it_V.at (pc1 := 0) (ls1 := [some (.ref 66), some (.int x0), none, none]) (st1 := []) (mem1 := m) rfl rfl rfl rfl ?_
  refine it_V.sN it_cd348 it_m348 5 (pc1 := 7) (ls1 := [some (.ref 66), some (.int x0), some (.int (0 : Int32)), none]) (st1 := [(.int x0), (.ref 92)]) (mem1 := m) rfl ?_
  obtain ⟨g1, h⟩ := h
  refine it_V.iald it_cd348 it_m348 rfl ((⟨rfl, by decide⟩ : it_isR 92 8)).2 ((⟨rfl, by decide⟩ : it_isR 92 8)).1 g1 ?_
  refine it_V.at (pc1 := 8) (ls1 := [some (.ref 66), some (.int x0), some (.int (0 : Int32)), none]) (st1 := [(.int (m 92 (Int32.toNatClampNeg x0)))]) (mem1 := m) rfl rfl rfl rfl ?_
  refine it_V.sN it_cd348 it_m348 1 (pc1 := 9) (ls1 := [some (.ref 66), some (.int x0), some (.int (0 : Int32)), some (.int (m 92 (Int32.toNatClampNeg x0)))]) (st1 := []) (mem1 := m) rfl ?_
  obtain ⟨n, h⟩ := h
  exact s_348_9 kc Φ _ (fun v2 m h => s_348_35 kc Φ v2 m h) n x0 (0 : Int32) (m 92 (Int32.toNatClampNeg x0)) m h
set_option maxRecDepth 100000 in
set_option maxHeartbeats 4000000 in
theorem s_349_21 (kc : it_Kc) (Φ : Int32 → it_Me → Prop) (u0 : Int32) (u1 : Int32) (m : it_Me) (h : w_349_21 kc Φ u0 u1 m) : it_V kc it_sh0 349 21 [none, none] [(.int u1), (.int u0)] m (it_Pi Φ) := by
  rw [w_349_21] at h
  refine it_V.sN it_cd349 it_m349 1 (pc1 := 22) (ls1 := [none, none]) (st1 := [(.int (u0 + u1))]) (mem1 := m) rfl ?_
  exact it_V.ret it_cd349 it_m349 rfl rfl ⟨_, rfl, h⟩
set_option maxRecDepth 100000 in
set_option maxHeartbeats 4000000 in
theorem s_349 (kc : it_Kc) (x0 : Int32) (m : it_Me) (Φ : Int32 → it_Me → Prop) (h : w_349 kc x0 m Φ) : it_V kc it_sh0 349 0 (it_loc0 [(.ref 66), (.int x0)] 2) [] m (it_Pi Φ) := by
  rw [w_349] at h
  refine it_V.at (pc1 := 0) (ls1 := [some (.ref 66), some (.int x0)]) (st1 := []) (mem1 := m) rfl rfl rfl rfl ?_
  refine it_V.sN it_cd349 it_m349 3 (pc1 := 5) (ls1 := [some (.ref 66), some (.int x0)]) (st1 := [(.int x0), (.ref 95)]) (mem1 := m) rfl ?_
  obtain ⟨g1, h⟩ := h
  refine it_V.iald it_cd349 it_m349 rfl ((⟨rfl, by decide⟩ : it_isR 95 8)).2 ((⟨rfl, by decide⟩ : it_isR 95 8)).1 g1 ?_
  refine it_V.at (pc1 := 6) (ls1 := [some (.ref 66), some (.int x0)]) (st1 := [(.int (m 95 (Int32.toNatClampNeg x0)))]) (mem1 := m) rfl rfl rfl rfl ?_
  refine it_V.sN it_cd349 it_m349 3 (pc1 := 11) (ls1 := [some (.ref 66), some (.int x0)]) (st1 := [(.int x0), (.ref 96), (.int (m 95 (Int32.toNatClampNeg x0)))]) (mem1 := m) rfl ?_
  obtain ⟨g2, h⟩ := h
  refine it_V.bald (t := 2) (n := 8) it_cd349 it_m349 rfl rfl (by decide) g2 ?_
  refine it_V.at (pc1 := 12) (ls1 := [some (.ref 66), some (.int x0)]) (st1 := [(.int (m 96 (Int32.toNatClampNeg x0))), (.int (m 95 (Int32.toNatClampNeg x0)))]) (mem1 := m) rfl rfl rfl rfl ?_
  refine it_V.sN it_cd349 it_m349 1 (pc1 := (if (m 96 (Int32.toNatClampNeg x0)) = 0 then 20 else 15)) (ls1 := [some (.ref 66), some (.int x0)]) (st1 := [(.int (m 95 (Int32.toNatClampNeg x0)))]) (mem1 := m) rfl ?_
  refine it_V.ite (fun c3 => ?_) (fun c3 => ?_)
  · have h := h.1 c3
    refine it_V.sN it_cd349 it_m349 1 (pc1 := 21) (ls1 := [some (.ref 66), some (.int x0)]) (st1 := [(.int (0 : Int32)), (.int (m 95 (Int32.toNatClampNeg x0)))]) (mem1 := m) rfl ?_
    refine it_V.weak (l := [none, none]) trivial ?_
    exact s_349_21 kc Φ (m 95 (Int32.toNatClampNeg x0)) (0 : Int32) m h
  · have h := h.2 c3
    refine it_V.sN it_cd349 it_m349 2 (pc1 := 21) (ls1 := [some (.ref 66), some (.int x0)]) (st1 := [(.int (8 : Int32)), (.int (m 95 (Int32.toNatClampNeg x0)))]) (mem1 := m) rfl ?_
    refine it_V.weak (l := [none, none]) trivial ?_
    exact s_349_21 kc Φ (m 95 (Int32.toNatClampNeg x0)) (8 : Int32) m h
set_option maxRecDepth 100000 in
set_option maxHeartbeats 4000000 in
theorem s_350_203 (kc : it_Kc) (Φ : Int32 → it_Me → Prop) (u0 : Int32) (m : it_Me) (h : w_350_203 kc Φ u0 m) : it_V kc it_sh0 350 203 [none, none, none, none] [(.int u0)] m (it_Pi Φ) := by
  rw [w_350_203] at h
  exact it_V.ret it_cd350 it_m350 rfl rfl ⟨_, rfl, h⟩
set_option maxRecDepth 100000 in
set_option maxHeartbeats 4000000 in
theorem s_350_224 (kc : it_Kc) (Φ : Int32 → it_Me → Prop) (u0 : Int32) (m : it_Me) (h : w_350_224 kc Φ u0 m) : it_V kc it_sh0 350 224 [none, none, none, none] [(.int u0)] m (it_Pi Φ) := by
  rw [w_350_224] at h
  exact it_V.ret it_cd350 it_m350 rfl rfl ⟨_, rfl, h⟩
set_option maxRecDepth 100000 in
set_option maxHeartbeats 4000000 in
theorem s_350 (kc : it_Kc) (x0 : Int32) (x1 : Int32) (m : it_Me) (Φ : Int32 → it_Me → Prop) (h : w_350 kc x0 x1 m Φ) : it_V kc it_sh0 350 0 (it_loc0 [(.ref 66), (.int x0), (.int x1)] 4) [] m (it_Pi Φ) := by
  rw [w_350] at h
  refine it_V.at (pc1 := 0) (ls1 := [some (.ref 66), some (.int x0), some (.int x1), none]) (st1 := []) (mem1 := m) rfl rfl rfl rfl ?_
  refine it_V.sN it_cd350 it_m350 3 (pc1 := (if (m 66 3) = 0 then 7 else 10)) (ls1 := [some (.ref 66), some (.int x0), some (.int x1), none]) (st1 := []) (mem1 := m) rfl ?_
  refine it_V.ite (fun c1 => ?_) (fun c1 => ?_)
  · have h := h.1 c1
    refine it_V.sN it_cd350 it_m350 1 (pc1 := 9) (ls1 := [some (.ref 66), some (.int x0), some (.int x1), none]) (st1 := [(.int (-3 : Int32))]) (mem1 := m) rfl ?_
    exact it_V.ret it_cd350 it_m350 rfl rfl ⟨_, rfl, h⟩
  · have h := h.2 c1
    refine it_V.sN it_cd350 it_m350 2 (pc1 := 12) (ls1 := [some (.ref 66), some (.int x0), some (.int x1), none]) (st1 := [(.int x0), (.ref 66)]) (mem1 := m) rfl ?_
    refine it_V.call it_cd350 it_m350 rfl it_m341 [(.ref 66), (.int x0)] [] rfl rfl ⟨Nat.le_of_ble_eq_true rfl, Nat.le_of_ble_eq_true rfl, Nat.le_of_ble_eq_true rfl, Nat.le_of_ble_eq_true rfl, rfl⟩ (s_341 kc x0 m _ h) ?_
    rintro _ m3 ⟨r2, rfl, h⟩
    refine it_V.at (pc1 := 15) (ls1 := [some (.ref 66), some (.int x0), some (.int x1), none]) (st1 := [(.int r2)]) (mem1 := m3) rfl rfl rfl rfl ?_
    refine it_V.sN it_cd350 it_m350 1 (pc1 := (if r2 = 0 then 18 else 20)) (ls1 := [some (.ref 66), some (.int x0), some (.int x1), none]) (st1 := []) (mem1 := m3) rfl ?_
    refine it_V.ite (fun c4 => ?_) (fun c4 => ?_)
    · have h := h.1 c4
      refine it_V.sN it_cd350 it_m350 1 (pc1 := 19) (ls1 := [some (.ref 66), some (.int x0), some (.int x1), none]) (st1 := [(.int (-1 : Int32))]) (mem1 := m3) rfl ?_
      exact it_V.ret it_cd350 it_m350 rfl rfl ⟨_, rfl, h⟩
    · have h := h.2 c4
      refine it_V.sN it_cd350 it_m350 3 (pc1 := 23) (ls1 := [some (.ref 66), some (.int x0), some (.int x1), some (.int x0)]) (st1 := [(.int x1)]) (mem1 := m3) rfl ?_
      refine it_V.sN it_cd350 it_m350 1 (pc1 := (if x1 = (0 : Int32) then 96 else (if x1 = (1 : Int32) then 102 else (if x1 = (2 : Int32) then 109 else (if x1 = (3 : Int32) then 116 else (if x1 = (4 : Int32) then 130 else (if x1 = (5 : Int32) then 137 else (if x1 = (6 : Int32) then 144 else (if x1 = (7 : Int32) then 151 else (if x1 = (8 : Int32) then 158 else (if x1 = (9 : Int32) then 165 else (if x1 = (10 : Int32) then 172 else (if x1 = (11 : Int32) then 178 else (if x1 = (12 : Int32) then 185 else (if x1 = (13 : Int32) then 204 else (if x1 = (14 : Int32) then 211 else 225)))))))))))))))) (ls1 := [some (.ref 66), some (.int x0), some (.int x1), some (.int x0)]) (st1 := []) (mem1 := m3) rfl ?_
      refine it_V.ite (fun c5 => ?_) (fun c5 => ?_)
      · have h := h.1 c5
        refine it_V.sN it_cd350 it_m350 2 (pc1 := 98) (ls1 := [some (.ref 66), some (.int x0), some (.int x1), some (.int x0)]) (st1 := [(.int x0), (.ref 66)]) (mem1 := m3) rfl ?_
        refine it_V.call it_cd350 it_m350 rfl it_m349 [(.ref 66), (.int x0)] [] rfl rfl ⟨Nat.le_of_ble_eq_true rfl, Nat.le_of_ble_eq_true rfl, Nat.le_of_ble_eq_true rfl, Nat.le_of_ble_eq_true rfl, rfl⟩ (s_349 kc x0 m3 _ h) ?_
        rintro _ m7 ⟨r6, rfl, h⟩
        refine it_V.at (pc1 := 101) (ls1 := [some (.ref 66), some (.int x0), some (.int x1), some (.int x0)]) (st1 := [(.int r6)]) (mem1 := m7) rfl rfl rfl rfl ?_
        exact it_V.ret it_cd350 it_m350 rfl rfl ⟨_, rfl, h⟩
      · have h := h.2 c5
        refine it_V.ite (fun c8 => ?_) (fun c8 => ?_)
        · have h := h.1 c8
          refine it_V.sN it_cd350 it_m350 3 (pc1 := 107) (ls1 := [some (.ref 66), some (.int x0), some (.int x1), some (.int x0)]) (st1 := [(.int x0), (.ref 94)]) (mem1 := m3) rfl ?_
          obtain ⟨g9, h⟩ := h
          refine it_V.iald it_cd350 it_m350 rfl ((⟨rfl, by decide⟩ : it_isR 94 8)).2 ((⟨rfl, by decide⟩ : it_isR 94 8)).1 g9 ?_
          refine it_V.at (pc1 := 108) (ls1 := [some (.ref 66), some (.int x0), some (.int x1), some (.int x0)]) (st1 := [(.int (m3 94 (Int32.toNatClampNeg x0)))]) (mem1 := m3) rfl rfl rfl rfl ?_
          exact it_V.ret it_cd350 it_m350 rfl rfl ⟨_, rfl, h⟩
        · have h := h.2 c8
          refine it_V.ite (fun c10 => ?_) (fun c10 => ?_)
          · have h := h.1 c10
            refine it_V.sN it_cd350 it_m350 3 (pc1 := 114) (ls1 := [some (.ref 66), some (.int x0), some (.int x1), some (.int x0)]) (st1 := [(.int x0), (.ref 79)]) (mem1 := m3) rfl ?_
            obtain ⟨g11, h⟩ := h
            refine it_V.iald it_cd350 it_m350 rfl ((⟨rfl, by decide⟩ : it_isR 79 8)).2 ((⟨rfl, by decide⟩ : it_isR 79 8)).1 g11 ?_
            refine it_V.at (pc1 := 115) (ls1 := [some (.ref 66), some (.int x0), some (.int x1), some (.int x0)]) (st1 := [(.int (m3 79 (Int32.toNatClampNeg x0)))]) (mem1 := m3) rfl rfl rfl rfl ?_
            exact it_V.ret it_cd350 it_m350 rfl rfl ⟨_, rfl, h⟩
          · have h := h.2 c10
            refine it_V.ite (fun c12 => ?_) (fun c12 => ?_)
            · have h := h.1 c12
              refine it_V.sN it_cd350 it_m350 3 (pc1 := 121) (ls1 := [some (.ref 66), some (.int x0), some (.int x1), some (.int x0)]) (st1 := [(.int x0), (.ref 80)]) (mem1 := m3) rfl ?_
              obtain ⟨g13, h⟩ := h
              refine it_V.iald it_cd350 it_m350 rfl ((⟨rfl, by decide⟩ : it_isR 80 8)).2 ((⟨rfl, by decide⟩ : it_isR 80 8)).1 g13 ?_
              refine it_V.at (pc1 := 122) (ls1 := [some (.ref 66), some (.int x0), some (.int x1), some (.int x0)]) (st1 := [(.int (m3 80 (Int32.toNatClampNeg x0)))]) (mem1 := m3) rfl rfl rfl rfl ?_
              refine it_V.sN it_cd350 it_m350 3 (pc1 := 127) (ls1 := [some (.ref 66), some (.int x0), some (.int x1), some (.int x0)]) (st1 := [(.int x0), (.ref 79), (.int (m3 80 (Int32.toNatClampNeg x0)))]) (mem1 := m3) rfl ?_
              obtain ⟨g14, h⟩ := h
              refine it_V.iald it_cd350 it_m350 rfl ((⟨rfl, by decide⟩ : it_isR 79 8)).2 ((⟨rfl, by decide⟩ : it_isR 79 8)).1 g14 ?_
              refine it_V.at (pc1 := 128) (ls1 := [some (.ref 66), some (.int x0), some (.int x1), some (.int x0)]) (st1 := [(.int (m3 79 (Int32.toNatClampNeg x0))), (.int (m3 80 (Int32.toNatClampNeg x0)))]) (mem1 := m3) rfl rfl rfl rfl ?_
              refine it_V.sN it_cd350 it_m350 1 (pc1 := 129) (ls1 := [some (.ref 66), some (.int x0), some (.int x1), some (.int x0)]) (st1 := [(.int ((m3 80 (Int32.toNatClampNeg x0)) - (m3 79 (Int32.toNatClampNeg x0))))]) (mem1 := m3) rfl ?_
              exact it_V.ret it_cd350 it_m350 rfl rfl ⟨_, rfl, h⟩
            · have h := h.2 c12
              refine it_V.ite (fun c15 => ?_) (fun c15 => ?_)
              · have h := h.1 c15
                refine it_V.sN it_cd350 it_m350 3 (pc1 := 135) (ls1 := [some (.ref 66), some (.int x0), some (.int x1), some (.int x0)]) (st1 := [(.int x0), (.ref 89)]) (mem1 := m3) rfl ?_
                obtain ⟨g16, h⟩ := h
                refine it_V.iald it_cd350 it_m350 rfl ((⟨rfl, by decide⟩ : it_isR 89 8)).2 ((⟨rfl, by decide⟩ : it_isR 89 8)).1 g16 ?_
                refine it_V.at (pc1 := 136) (ls1 := [some (.ref 66), some (.int x0), some (.int x1), some (.int x0)]) (st1 := [(.int (m3 89 (Int32.toNatClampNeg x0)))]) (mem1 := m3) rfl rfl rfl rfl ?_
                exact it_V.ret it_cd350 it_m350 rfl rfl ⟨_, rfl, h⟩
              · have h := h.2 c15
                refine it_V.ite (fun c17 => ?_) (fun c17 => ?_)
                · have h := h.1 c17
                  refine it_V.sN it_cd350 it_m350 3 (pc1 := 142) (ls1 := [some (.ref 66), some (.int x0), some (.int x1), some (.int x0)]) (st1 := [(.int x0), (.ref 90)]) (mem1 := m3) rfl ?_
                  obtain ⟨g18, h⟩ := h
                  refine it_V.iald it_cd350 it_m350 rfl ((⟨rfl, by decide⟩ : it_isR 90 8)).2 ((⟨rfl, by decide⟩ : it_isR 90 8)).1 g18 ?_
                  refine it_V.at (pc1 := 143) (ls1 := [some (.ref 66), some (.int x0), some (.int x1), some (.int x0)]) (st1 := [(.int (m3 90 (Int32.toNatClampNeg x0)))]) (mem1 := m3) rfl rfl rfl rfl ?_
                  exact it_V.ret it_cd350 it_m350 rfl rfl ⟨_, rfl, h⟩
                · have h := h.2 c17
                  refine it_V.ite (fun c19 => ?_) (fun c19 => ?_)
                  · have h := h.1 c19
                    refine it_V.sN it_cd350 it_m350 3 (pc1 := 149) (ls1 := [some (.ref 66), some (.int x0), some (.int x1), some (.int x0)]) (st1 := [(.int x0), (.ref 91)]) (mem1 := m3) rfl ?_
                    obtain ⟨g20, h⟩ := h
                    refine it_V.iald it_cd350 it_m350 rfl ((⟨rfl, by decide⟩ : it_isR 91 8)).2 ((⟨rfl, by decide⟩ : it_isR 91 8)).1 g20 ?_
                    refine it_V.at (pc1 := 150) (ls1 := [some (.ref 66), some (.int x0), some (.int x1), some (.int x0)]) (st1 := [(.int (m3 91 (Int32.toNatClampNeg x0)))]) (mem1 := m3) rfl rfl rfl rfl ?_
                    exact it_V.ret it_cd350 it_m350 rfl rfl ⟨_, rfl, h⟩
                  · have h := h.2 c19
                    refine it_V.ite (fun c21 => ?_) (fun c21 => ?_)
                    · have h := h.1 c21
                      refine it_V.sN it_cd350 it_m350 3 (pc1 := 156) (ls1 := [some (.ref 66), some (.int x0), some (.int x1), some (.int x0)]) (st1 := [(.int x0), (.ref 92)]) (mem1 := m3) rfl ?_
                      obtain ⟨g22, h⟩ := h
                      refine it_V.iald it_cd350 it_m350 rfl ((⟨rfl, by decide⟩ : it_isR 92 8)).2 ((⟨rfl, by decide⟩ : it_isR 92 8)).1 g22 ?_
                      refine it_V.at (pc1 := 157) (ls1 := [some (.ref 66), some (.int x0), some (.int x1), some (.int x0)]) (st1 := [(.int (m3 92 (Int32.toNatClampNeg x0)))]) (mem1 := m3) rfl rfl rfl rfl ?_
                      exact it_V.ret it_cd350 it_m350 rfl rfl ⟨_, rfl, h⟩
                    · have h := h.2 c21
                      refine it_V.ite (fun c23 => ?_) (fun c23 => ?_)
                      · have h := h.1 c23
                        refine it_V.sN it_cd350 it_m350 3 (pc1 := 163) (ls1 := [some (.ref 66), some (.int x0), some (.int x1), some (.int x0)]) (st1 := [(.int x0), (.ref 100)]) (mem1 := m3) rfl ?_
                        obtain ⟨g24, h⟩ := h
                        refine it_V.iald it_cd350 it_m350 rfl ((⟨rfl, by decide⟩ : it_isR 100 8)).2 ((⟨rfl, by decide⟩ : it_isR 100 8)).1 g24 ?_
                        refine it_V.at (pc1 := 164) (ls1 := [some (.ref 66), some (.int x0), some (.int x1), some (.int x0)]) (st1 := [(.int (m3 100 (Int32.toNatClampNeg x0)))]) (mem1 := m3) rfl rfl rfl rfl ?_
                        exact it_V.ret it_cd350 it_m350 rfl rfl ⟨_, rfl, h⟩
                      · have h := h.2 c23
                        refine it_V.ite (fun c25 => ?_) (fun c25 => ?_)
                        · have h := h.1 c25
                          refine it_V.sN it_cd350 it_m350 3 (pc1 := 170) (ls1 := [some (.ref 66), some (.int x0), some (.int x1), some (.int x0)]) (st1 := [(.int x0), (.ref 110)]) (mem1 := m3) rfl ?_
                          obtain ⟨g26, h⟩ := h
                          refine it_V.iald it_cd350 it_m350 rfl ((⟨rfl, by decide⟩ : it_isR 110 8)).2 ((⟨rfl, by decide⟩ : it_isR 110 8)).1 g26 ?_
                          refine it_V.at (pc1 := 171) (ls1 := [some (.ref 66), some (.int x0), some (.int x1), some (.int x0)]) (st1 := [(.int (m3 110 (Int32.toNatClampNeg x0)))]) (mem1 := m3) rfl rfl rfl rfl ?_
                          exact it_V.ret it_cd350 it_m350 rfl rfl ⟨_, rfl, h⟩
                        · have h := h.2 c25
                          refine it_V.ite (fun c27 => ?_) (fun c27 => ?_)
                          · have h := h.1 c27
                            refine it_V.sN it_cd350 it_m350 2 (pc1 := 174) (ls1 := [some (.ref 66), some (.int x0), some (.int x1), some (.int x0)]) (st1 := [(.int x0), (.ref 66)]) (mem1 := m3) rfl ?_
                            refine it_V.call it_cd350 it_m350 rfl it_m348 [(.ref 66), (.int x0)] [] rfl rfl ⟨Nat.le_of_ble_eq_true rfl, Nat.le_of_ble_eq_true rfl, Nat.le_of_ble_eq_true rfl, Nat.le_of_ble_eq_true rfl, rfl⟩ (s_348 kc x0 m3 _ h) ?_
                            rintro _ m29 ⟨r28, rfl, h⟩
                            refine it_V.at (pc1 := 177) (ls1 := [some (.ref 66), some (.int x0), some (.int x1), some (.int x0)]) (st1 := [(.int r28)]) (mem1 := m29) rfl rfl rfl rfl ?_
                            exact it_V.ret it_cd350 it_m350 rfl rfl ⟨_, rfl, h⟩
                          · have h := h.2 c27
                            refine it_V.ite (fun c30 => ?_) (fun c30 => ?_)
                            · have h := h.1 c30
                              refine it_V.sN it_cd350 it_m350 3 (pc1 := 183) (ls1 := [some (.ref 66), some (.int x0), some (.int x1), some (.int x0)]) (st1 := [(.int x0), (.ref 101)]) (mem1 := m3) rfl ?_
                              obtain ⟨g31, h⟩ := h
                              refine it_V.iald it_cd350 it_m350 rfl ((⟨rfl, by decide⟩ : it_isR 101 8)).2 ((⟨rfl, by decide⟩ : it_isR 101 8)).1 g31 ?_
                              refine it_V.at (pc1 := 184) (ls1 := [some (.ref 66), some (.int x0), some (.int x1), some (.int x0)]) (st1 := [(.int (m3 101 (Int32.toNatClampNeg x0)))]) (mem1 := m3) rfl rfl rfl rfl ?_
                              exact it_V.ret it_cd350 it_m350 rfl rfl ⟨_, rfl, h⟩
                            · have h := h.2 c30
                              refine it_V.ite (fun c32 => ?_) (fun c32 => ?_)
                              · have h := h.1 c32
                                refine it_V.sN it_cd350 it_m350 4 (pc1 := (if (m3 66 7) = (2 : Int32) then 193 else 202)) (ls1 := [some (.ref 66), some (.int x0), some (.int x1), some (.int x0)]) (st1 := []) (mem1 := m3) rfl ?_
                                refine it_V.ite (fun c33 => ?_) (fun c33 => ?_)
                                · have h := h.1 c33
                                  refine it_V.sN it_cd350 it_m350 3 (pc1 := 198) (ls1 := [some (.ref 66), some (.int x0), some (.int x1), some (.int x0)]) (st1 := [(.int x0), (.ref 106)]) (mem1 := m3) rfl ?_
                                  obtain ⟨g34, h⟩ := h
                                  refine it_V.iald it_cd350 it_m350 rfl ((⟨rfl, by decide⟩ : it_isR 106 8)).2 ((⟨rfl, by decide⟩ : it_isR 106 8)).1 g34 ?_
                                  refine it_V.at (pc1 := 199) (ls1 := [some (.ref 66), some (.int x0), some (.int x1), some (.int x0)]) (st1 := [(.int (m3 106 (Int32.toNatClampNeg x0)))]) (mem1 := m3) rfl rfl rfl rfl ?_
                                  refine it_V.sN it_cd350 it_m350 1 (pc1 := 203) (ls1 := [some (.ref 66), some (.int x0), some (.int x1), some (.int x0)]) (st1 := [(.int (m3 106 (Int32.toNatClampNeg x0)))]) (mem1 := m3) rfl ?_
                                  refine it_V.weak (l := [none, none, none, none]) trivial ?_
                                  exact s_350_203 kc Φ (m3 106 (Int32.toNatClampNeg x0)) m3 h
                                · have h := h.2 c33
                                  refine it_V.sN it_cd350 it_m350 1 (pc1 := 203) (ls1 := [some (.ref 66), some (.int x0), some (.int x1), some (.int x0)]) (st1 := [(.int (0 : Int32))]) (mem1 := m3) rfl ?_
                                  refine it_V.weak (l := [none, none, none, none]) trivial ?_
                                  exact s_350_203 kc Φ (0 : Int32) m3 h
                              · have h := h.2 c32
                                refine it_V.ite (fun c35 => ?_) (fun c35 => ?_)
                                · have h := h.1 c35
                                  refine it_V.sN it_cd350 it_m350 3 (pc1 := 209) (ls1 := [some (.ref 66), some (.int x0), some (.int x1), some (.int x0)]) (st1 := [(.int x0), (.ref 83)]) (mem1 := m3) rfl ?_
                                  obtain ⟨g36, h⟩ := h
                                  refine it_V.iald it_cd350 it_m350 rfl ((⟨rfl, by decide⟩ : it_isR 83 8)).2 ((⟨rfl, by decide⟩ : it_isR 83 8)).1 g36 ?_
                                  refine it_V.at (pc1 := 210) (ls1 := [some (.ref 66), some (.int x0), some (.int x1), some (.int x0)]) (st1 := [(.int (m3 83 (Int32.toNatClampNeg x0)))]) (mem1 := m3) rfl rfl rfl rfl ?_
                                  exact it_V.ret it_cd350 it_m350 rfl rfl ⟨_, rfl, h⟩
                                · have h := h.2 c35
                                  refine it_V.ite (fun c37 => ?_) (fun c37 => ?_)
                                  · have h := h.1 c37
                                    refine it_V.sN it_cd350 it_m350 4 (pc1 := (if (m3 66 70) = x0 then 219 else 223)) (ls1 := [some (.ref 66), some (.int x0), some (.int x1), some (.int x0)]) (st1 := []) (mem1 := m3) rfl ?_
                                    refine it_V.ite (fun c38 => ?_) (fun c38 => ?_)
                                    · have h := h.1 c38
                                      refine it_V.sN it_cd350 it_m350 2 (pc1 := 224) (ls1 := [some (.ref 66), some (.int x0), some (.int x1), some (.int x0)]) (st1 := [(.int (1 : Int32))]) (mem1 := m3) rfl ?_
                                      refine it_V.weak (l := [none, none, none, none]) trivial ?_
                                      exact s_350_224 kc Φ (1 : Int32) m3 h
                                    · have h := h.2 c38
                                      refine it_V.sN it_cd350 it_m350 1 (pc1 := 224) (ls1 := [some (.ref 66), some (.int x0), some (.int x1), some (.int x0)]) (st1 := [(.int (0 : Int32))]) (mem1 := m3) rfl ?_
                                      refine it_V.weak (l := [none, none, none, none]) trivial ?_
                                      exact s_350_224 kc Φ (0 : Int32) m3 h
                                  · have h := h.2 c37
                                    refine it_V.sN it_cd350 it_m350 1 (pc1 := 227) (ls1 := [some (.ref 66), some (.int x0), some (.int x1), some (.int x0)]) (st1 := [(.int (-2 : Int32))]) (mem1 := m3) rfl ?_
                                    exact it_V.ret it_cd350 it_m350 rfl rfl ⟨_, rfl, h⟩
set_option maxRecDepth 100000 in
set_option maxHeartbeats 4000000 in
theorem s_351_43 (kc : it_Kc) (Φ : Int32 → it_Me → Prop) (u0 : Int32) (m : it_Me) (h : w_351_43 kc Φ u0 m) : it_V kc it_sh0 351 43 [none, none, none] [(.int u0)] m (it_Pi Φ) := by
  rw [w_351_43] at h
  exact it_V.ret it_cd351 it_m351 rfl rfl ⟨_, rfl, h⟩
set_option maxRecDepth 100000 in
set_option maxHeartbeats 4000000 in
theorem s_351_42 (kc : it_Kc) (Φ : Int32 → it_Me → Prop) (m : it_Me) (h : w_351_42 kc Φ m) : it_V kc it_sh0 351 42 [none, none, none] [] m (it_Pi Φ) := by
  rw [w_351_42] at h
  refine it_V.sN it_cd351 it_m351 1 (pc1 := 43) (ls1 := [none, none, none]) (st1 := [(.int (-1 : Int32))]) (mem1 := m) rfl ?_
  refine it_V.weak (l := [none, none, none]) trivial ?_
  exact s_351_43 kc Φ (-1 : Int32) m h
set_option maxRecDepth 100000 in
set_option maxHeartbeats 4000000 in
theorem s_351 (kc : it_Kc) (x0 : Int32) (x1 : Int32) (m : it_Me) (Φ : Int32 → it_Me → Prop) (h : w_351 kc x0 x1 m Φ) : it_V kc it_sh0 351 0 (it_loc0 [(.ref 66), (.int x0), (.int x1)] 3) [] m (it_Pi Φ) := by
  rw [w_351] at h
  refine it_V.at (pc1 := 0) (ls1 := [some (.ref 66), some (.int x0), some (.int x1)]) (st1 := []) (mem1 := m) rfl rfl rfl rfl ?_
  refine it_V.sN it_cd351 it_m351 3 (pc1 := (if (m 66 3) = 0 then 7 else 10)) (ls1 := [some (.ref 66), some (.int x0), some (.int x1)]) (st1 := []) (mem1 := m) rfl ?_
  refine it_V.ite (fun c1 => ?_) (fun c1 => ?_)
  · have h := h.1 c1
    refine it_V.sN it_cd351 it_m351 1 (pc1 := 9) (ls1 := [some (.ref 66), some (.int x0), some (.int x1)]) (st1 := [(.int (-3 : Int32))]) (mem1 := m) rfl ?_
    exact it_V.ret it_cd351 it_m351 rfl rfl ⟨_, rfl, h⟩
  · have h := h.2 c1
    refine it_V.sN it_cd351 it_m351 2 (pc1 := 12) (ls1 := [some (.ref 66), some (.int x0), some (.int x1)]) (st1 := [(.int x0), (.ref 66)]) (mem1 := m) rfl ?_
    refine it_V.call it_cd351 it_m351 rfl it_m341 [(.ref 66), (.int x0)] [] rfl rfl ⟨Nat.le_of_ble_eq_true rfl, Nat.le_of_ble_eq_true rfl, Nat.le_of_ble_eq_true rfl, Nat.le_of_ble_eq_true rfl, rfl⟩ (s_341 kc x0 m _ h) ?_
    rintro _ m3 ⟨r2, rfl, h⟩
    refine it_V.at (pc1 := 15) (ls1 := [some (.ref 66), some (.int x0), some (.int x1)]) (st1 := [(.int r2)]) (mem1 := m3) rfl rfl rfl rfl ?_
    refine it_V.sN it_cd351 it_m351 1 (pc1 := (if r2 = 0 then 42 else 18)) (ls1 := [some (.ref 66), some (.int x0), some (.int x1)]) (st1 := []) (mem1 := m3) rfl ?_
    refine it_V.ite (fun c4 => ?_) (fun c4 => ?_)
    · have h := h.1 c4
      refine it_V.weak (l := [none, none, none]) trivial ?_
      exact s_351_42 kc Φ m3 h
    · have h := h.2 c4
      refine it_V.sN it_cd351 it_m351 2 (pc1 := (if x1 < 0 then 42 else 22)) (ls1 := [some (.ref 66), some (.int x0), some (.int x1)]) (st1 := []) (mem1 := m3) rfl ?_
      refine it_V.ite (fun c5 => ?_) (fun c5 => ?_)
      · have h := h.1 c5
        refine it_V.weak (l := [none, none, none]) trivial ?_
        exact s_351_42 kc Φ m3 h
      · have h := h.2 c5
        refine it_V.sN it_cd351 it_m351 3 (pc1 := (if (31 : Int32) < x1 then 42 else 28)) (ls1 := [some (.ref 66), some (.int x0), some (.int x1)]) (st1 := []) (mem1 := m3) rfl ?_
        refine it_V.ite (fun c6 => ?_) (fun c6 => ?_)
        · have h := h.1 c6
          refine it_V.weak (l := [none, none, none]) trivial ?_
          exact s_351_42 kc Φ m3 h
        · have h := h.2 c6
          refine it_V.sN it_cd351 it_m351 7 (pc1 := 38) (ls1 := [some (.ref 66), some (.int x0), some (.int x1)]) (st1 := [(.int (((32 : Int32) * x0) + x1)), (.ref 93)]) (mem1 := m3) rfl ?_
          obtain ⟨g7, h⟩ := h
          refine it_V.iald it_cd351 it_m351 rfl ((⟨rfl, by decide⟩ : it_isR 93 256)).2 ((⟨rfl, by decide⟩ : it_isR 93 256)).1 g7 ?_
          refine it_V.at (pc1 := 39) (ls1 := [some (.ref 66), some (.int x0), some (.int x1)]) (st1 := [(.int (m3 93 (Int32.toNatClampNeg (((32 : Int32) * x0) + x1))))]) (mem1 := m3) rfl rfl rfl rfl ?_
          refine it_V.sN it_cd351 it_m351 1 (pc1 := 43) (ls1 := [some (.ref 66), some (.int x0), some (.int x1)]) (st1 := [(.int (m3 93 (Int32.toNatClampNeg (((32 : Int32) * x0) + x1))))]) (mem1 := m3) rfl ?_
          refine it_V.weak (l := [none, none, none]) trivial ?_
          exact s_351_43 kc Φ (m3 93 (Int32.toNatClampNeg (((32 : Int32) * x0) + x1))) m3 h
set_option maxRecDepth 100000 in
set_option maxHeartbeats 4000000 in
theorem s_352 (kc : it_Kc) (x0 : Int32) (m : it_Me) (Φ : it_Me → Prop) (h : w_352 kc x0 m Φ) : it_V kc it_sh0 352 0 (it_loc0 [(.ref 66), (.int x0)] 3) [] m (it_Pv Φ) := by
  rw [w_352] at h
  refine it_V.at (pc1 := 0) (ls1 := [some (.ref 66), some (.int x0), none]) (st1 := []) (mem1 := m) rfl rfl rfl rfl ?_
  refine it_V.sN it_cd352 it_m352 2 (pc1 := 2) (ls1 := [some (.ref 66), some (.int x0), none]) (st1 := [(.int x0), (.ref 66)]) (mem1 := m) rfl ?_
  refine it_V.call it_cd352 it_m352 rfl it_m252 [(.ref 66), (.int x0)] [] rfl rfl ⟨Nat.le_of_ble_eq_true rfl, Nat.le_of_ble_eq_true rfl, Nat.le_of_ble_eq_true rfl, Nat.le_of_ble_eq_true rfl, rfl⟩ (s_252 kc x0 m _ h) ?_
  rintro _ m2 ⟨r1, rfl, h⟩
  refine it_V.at (pc1 := 5) (ls1 := [some (.ref 66), some (.int x0), none]) (st1 := [(.int r1)]) (mem1 := m2) rfl rfl rfl rfl ?_
  refine it_V.sN it_cd352 it_m352 4 (pc1 := 9) (ls1 := [some (.ref 66), some (.int x0), some (.int r1)]) (st1 := [(.int x0), (.int r1), (.ref 66)]) (mem1 := m2) rfl ?_
  refine it_V.call it_cd352 it_m352 rfl it_m221 [(.ref 66), (.int r1), (.int x0)] [] rfl rfl ⟨Nat.le_of_ble_eq_true rfl, Nat.le_of_ble_eq_true rfl, Nat.le_of_ble_eq_true rfl, Nat.le_of_ble_eq_true rfl, rfl⟩ (s_221 kc r1 x0 m2 _ h) ?_
  rintro _ m3 ⟨rfl, h⟩
  refine it_V.at (pc1 := 12) (ls1 := [some (.ref 66), some (.int x0), some (.int r1)]) (st1 := []) (mem1 := m3) rfl rfl rfl rfl ?_
  refine it_V.sN it_cd352 it_m352 7 (pc1 := 21) (ls1 := [some (.ref 66), some (.int x0), some (.int r1)]) (st1 := [(.int x0), (.ref 79), (.int (r1 + (4 : Int32))), (.ref 66)]) (mem1 := m3) rfl ?_
  obtain ⟨g4, h⟩ := h
  refine it_V.iald it_cd352 it_m352 rfl ((⟨rfl, by decide⟩ : it_isR 79 8)).2 ((⟨rfl, by decide⟩ : it_isR 79 8)).1 g4 ?_
  refine it_V.at (pc1 := 22) (ls1 := [some (.ref 66), some (.int x0), some (.int r1)]) (st1 := [(.int (m3 79 (Int32.toNatClampNeg x0))), (.int (r1 + (4 : Int32))), (.ref 66)]) (mem1 := m3) rfl rfl rfl rfl ?_
  refine it_V.call it_cd352 it_m352 rfl it_m221 [(.ref 66), (.int (r1 + (4 : Int32))), (.int (m3 79 (Int32.toNatClampNeg x0)))] [] rfl rfl ⟨Nat.le_of_ble_eq_true rfl, Nat.le_of_ble_eq_true rfl, Nat.le_of_ble_eq_true rfl, Nat.le_of_ble_eq_true rfl, rfl⟩ (s_221 kc (r1 + (4 : Int32)) (m3 79 (Int32.toNatClampNeg x0)) m3 _ h) ?_
  rintro _ m5 ⟨rfl, h⟩
  refine it_V.at (pc1 := 25) (ls1 := [some (.ref 66), some (.int x0), some (.int r1)]) (st1 := []) (mem1 := m5) rfl rfl rfl rfl ?_
  refine it_V.sN it_cd352 it_m352 7 (pc1 := 35) (ls1 := [some (.ref 66), some (.int x0), some (.int r1)]) (st1 := [(.int x0), (.ref 91), (.int (r1 + (8 : Int32))), (.ref 66)]) (mem1 := m5) rfl ?_
  obtain ⟨g6, h⟩ := h
  refine it_V.iald it_cd352 it_m352 rfl ((⟨rfl, by decide⟩ : it_isR 91 8)).2 ((⟨rfl, by decide⟩ : it_isR 91 8)).1 g6 ?_
  refine it_V.at (pc1 := 36) (ls1 := [some (.ref 66), some (.int x0), some (.int r1)]) (st1 := [(.int (m5 91 (Int32.toNatClampNeg x0))), (.int (r1 + (8 : Int32))), (.ref 66)]) (mem1 := m5) rfl rfl rfl rfl ?_
  refine it_V.call it_cd352 it_m352 rfl it_m221 [(.ref 66), (.int (r1 + (8 : Int32))), (.int (m5 91 (Int32.toNatClampNeg x0)))] [] rfl rfl ⟨Nat.le_of_ble_eq_true rfl, Nat.le_of_ble_eq_true rfl, Nat.le_of_ble_eq_true rfl, Nat.le_of_ble_eq_true rfl, rfl⟩ (s_221 kc (r1 + (8 : Int32)) (m5 91 (Int32.toNatClampNeg x0)) m5 _ h) ?_
  rintro _ m7 ⟨rfl, h⟩
  refine it_V.at (pc1 := 39) (ls1 := [some (.ref 66), some (.int x0), some (.int r1)]) (st1 := []) (mem1 := m7) rfl rfl rfl rfl ?_
  refine it_V.sN it_cd352 it_m352 7 (pc1 := 49) (ls1 := [some (.ref 66), some (.int x0), some (.int r1)]) (st1 := [(.int x0), (.ref 92), (.int (r1 + (12 : Int32))), (.ref 66)]) (mem1 := m7) rfl ?_
  obtain ⟨g8, h⟩ := h
  refine it_V.iald it_cd352 it_m352 rfl ((⟨rfl, by decide⟩ : it_isR 92 8)).2 ((⟨rfl, by decide⟩ : it_isR 92 8)).1 g8 ?_
  refine it_V.at (pc1 := 50) (ls1 := [some (.ref 66), some (.int x0), some (.int r1)]) (st1 := [(.int (m7 92 (Int32.toNatClampNeg x0))), (.int (r1 + (12 : Int32))), (.ref 66)]) (mem1 := m7) rfl rfl rfl rfl ?_
  refine it_V.call it_cd352 it_m352 rfl it_m221 [(.ref 66), (.int (r1 + (12 : Int32))), (.int (m7 92 (Int32.toNatClampNeg x0)))] [] rfl rfl ⟨Nat.le_of_ble_eq_true rfl, Nat.le_of_ble_eq_true rfl, Nat.le_of_ble_eq_true rfl, Nat.le_of_ble_eq_true rfl, rfl⟩ (s_221 kc (r1 + (12 : Int32)) (m7 92 (Int32.toNatClampNeg x0)) m7 _ h) ?_
  rintro _ m9 ⟨rfl, h⟩
  refine it_V.at (pc1 := 53) (ls1 := [some (.ref 66), some (.int x0), some (.int r1)]) (st1 := []) (mem1 := m9) rfl rfl rfl rfl ?_
  refine it_V.sN it_cd352 it_m352 7 (pc1 := 63) (ls1 := [some (.ref 66), some (.int x0), some (.int r1)]) (st1 := [(.int x0), (.ref 100), (.int (r1 + (16 : Int32))), (.ref 66)]) (mem1 := m9) rfl ?_
  obtain ⟨g10, h⟩ := h
  refine it_V.iald it_cd352 it_m352 rfl ((⟨rfl, by decide⟩ : it_isR 100 8)).2 ((⟨rfl, by decide⟩ : it_isR 100 8)).1 g10 ?_
  refine it_V.at (pc1 := 64) (ls1 := [some (.ref 66), some (.int x0), some (.int r1)]) (st1 := [(.int (m9 100 (Int32.toNatClampNeg x0))), (.int (r1 + (16 : Int32))), (.ref 66)]) (mem1 := m9) rfl rfl rfl rfl ?_
  refine it_V.call it_cd352 it_m352 rfl it_m221 [(.ref 66), (.int (r1 + (16 : Int32))), (.int (m9 100 (Int32.toNatClampNeg x0)))] [] rfl rfl ⟨Nat.le_of_ble_eq_true rfl, Nat.le_of_ble_eq_true rfl, Nat.le_of_ble_eq_true rfl, Nat.le_of_ble_eq_true rfl, rfl⟩ (s_221 kc (r1 + (16 : Int32)) (m9 100 (Int32.toNatClampNeg x0)) m9 _ h) ?_
  rintro _ m11 ⟨rfl, h⟩
  refine it_V.at (pc1 := 67) (ls1 := [some (.ref 66), some (.int x0), some (.int r1)]) (st1 := []) (mem1 := m11) rfl rfl rfl rfl ?_
  refine it_V.sN it_cd352 it_m352 7 (pc1 := 77) (ls1 := [some (.ref 66), some (.int x0), some (.int r1)]) (st1 := [(.int x0), (.ref 110), (.int (r1 + (20 : Int32))), (.ref 66)]) (mem1 := m11) rfl ?_
  obtain ⟨g12, h⟩ := h
  refine it_V.iald it_cd352 it_m352 rfl ((⟨rfl, by decide⟩ : it_isR 110 8)).2 ((⟨rfl, by decide⟩ : it_isR 110 8)).1 g12 ?_
  refine it_V.at (pc1 := 78) (ls1 := [some (.ref 66), some (.int x0), some (.int r1)]) (st1 := [(.int (m11 110 (Int32.toNatClampNeg x0))), (.int (r1 + (20 : Int32))), (.ref 66)]) (mem1 := m11) rfl rfl rfl rfl ?_
  refine it_V.call it_cd352 it_m352 rfl it_m221 [(.ref 66), (.int (r1 + (20 : Int32))), (.int (m11 110 (Int32.toNatClampNeg x0)))] [] rfl rfl ⟨Nat.le_of_ble_eq_true rfl, Nat.le_of_ble_eq_true rfl, Nat.le_of_ble_eq_true rfl, Nat.le_of_ble_eq_true rfl, rfl⟩ (s_221 kc (r1 + (20 : Int32)) (m11 110 (Int32.toNatClampNeg x0)) m11 _ h) ?_
  rintro _ m13 ⟨rfl, h⟩
  refine it_V.at (pc1 := 81) (ls1 := [some (.ref 66), some (.int x0), some (.int r1)]) (st1 := []) (mem1 := m13) rfl rfl rfl rfl ?_
  refine it_V.sN it_cd352 it_m352 7 (pc1 := 91) (ls1 := [some (.ref 66), some (.int x0), some (.int r1)]) (st1 := [(.int x0), (.ref 102), (.int (r1 + (24 : Int32))), (.ref 66)]) (mem1 := m13) rfl ?_
  obtain ⟨g14, h⟩ := h
  refine it_V.iald it_cd352 it_m352 rfl ((⟨rfl, by decide⟩ : it_isR 102 8)).2 ((⟨rfl, by decide⟩ : it_isR 102 8)).1 g14 ?_
  refine it_V.at (pc1 := 92) (ls1 := [some (.ref 66), some (.int x0), some (.int r1)]) (st1 := [(.int (m13 102 (Int32.toNatClampNeg x0))), (.int (r1 + (24 : Int32))), (.ref 66)]) (mem1 := m13) rfl rfl rfl rfl ?_
  refine it_V.call it_cd352 it_m352 rfl it_m221 [(.ref 66), (.int (r1 + (24 : Int32))), (.int (m13 102 (Int32.toNatClampNeg x0)))] [] rfl rfl ⟨Nat.le_of_ble_eq_true rfl, Nat.le_of_ble_eq_true rfl, Nat.le_of_ble_eq_true rfl, Nat.le_of_ble_eq_true rfl, rfl⟩ (s_221 kc (r1 + (24 : Int32)) (m13 102 (Int32.toNatClampNeg x0)) m13 _ h) ?_
  rintro _ m15 ⟨rfl, h⟩
  refine it_V.at (pc1 := 95) (ls1 := [some (.ref 66), some (.int x0), some (.int r1)]) (st1 := []) (mem1 := m15) rfl rfl rfl rfl ?_
  refine it_V.sN it_cd352 it_m352 7 (pc1 := 105) (ls1 := [some (.ref 66), some (.int x0), some (.int r1)]) (st1 := [(.int x0), (.ref 103), (.int (r1 + (28 : Int32))), (.ref 66)]) (mem1 := m15) rfl ?_
  obtain ⟨g16, h⟩ := h
  refine it_V.iald it_cd352 it_m352 rfl ((⟨rfl, by decide⟩ : it_isR 103 8)).2 ((⟨rfl, by decide⟩ : it_isR 103 8)).1 g16 ?_
  refine it_V.at (pc1 := 106) (ls1 := [some (.ref 66), some (.int x0), some (.int r1)]) (st1 := [(.int (m15 103 (Int32.toNatClampNeg x0))), (.int (r1 + (28 : Int32))), (.ref 66)]) (mem1 := m15) rfl rfl rfl rfl ?_
  refine it_V.call it_cd352 it_m352 rfl it_m221 [(.ref 66), (.int (r1 + (28 : Int32))), (.int (m15 103 (Int32.toNatClampNeg x0)))] [] rfl rfl ⟨Nat.le_of_ble_eq_true rfl, Nat.le_of_ble_eq_true rfl, Nat.le_of_ble_eq_true rfl, Nat.le_of_ble_eq_true rfl, rfl⟩ (s_221 kc (r1 + (28 : Int32)) (m15 103 (Int32.toNatClampNeg x0)) m15 _ h) ?_
  rintro _ m17 ⟨rfl, h⟩
  refine it_V.at (pc1 := 109) (ls1 := [some (.ref 66), some (.int x0), some (.int r1)]) (st1 := []) (mem1 := m17) rfl rfl rfl rfl ?_
  refine it_V.sN it_cd352 it_m352 7 (pc1 := 119) (ls1 := [some (.ref 66), some (.int x0), some (.int r1)]) (st1 := [(.int x0), (.ref 104), (.int (r1 + (32 : Int32))), (.ref 66)]) (mem1 := m17) rfl ?_
  obtain ⟨g18, h⟩ := h
  refine it_V.iald it_cd352 it_m352 rfl ((⟨rfl, by decide⟩ : it_isR 104 8)).2 ((⟨rfl, by decide⟩ : it_isR 104 8)).1 g18 ?_
  refine it_V.at (pc1 := 120) (ls1 := [some (.ref 66), some (.int x0), some (.int r1)]) (st1 := [(.int (m17 104 (Int32.toNatClampNeg x0))), (.int (r1 + (32 : Int32))), (.ref 66)]) (mem1 := m17) rfl rfl rfl rfl ?_
  refine it_V.call it_cd352 it_m352 rfl it_m221 [(.ref 66), (.int (r1 + (32 : Int32))), (.int (m17 104 (Int32.toNatClampNeg x0)))] [] rfl rfl ⟨Nat.le_of_ble_eq_true rfl, Nat.le_of_ble_eq_true rfl, Nat.le_of_ble_eq_true rfl, Nat.le_of_ble_eq_true rfl, rfl⟩ (s_221 kc (r1 + (32 : Int32)) (m17 104 (Int32.toNatClampNeg x0)) m17 _ h) ?_
  rintro _ m19 ⟨rfl, h⟩
  refine it_V.at (pc1 := 123) (ls1 := [some (.ref 66), some (.int x0), some (.int r1)]) (st1 := []) (mem1 := m19) rfl rfl rfl rfl ?_
  refine it_V.sN it_cd352 it_m352 6 (pc1 := 130) (ls1 := [some (.ref 66), some (.int x0), some (.int r1)]) (st1 := [(.int x0), (.ref 66), (.int (r1 + (36 : Int32))), (.ref 66)]) (mem1 := m19) rfl ?_
  refine it_V.call it_cd352 it_m352 rfl it_m349 [(.ref 66), (.int x0)] [(.int (r1 + (36 : Int32))), (.ref 66)] rfl rfl ⟨Nat.le_of_ble_eq_true rfl, Nat.le_of_ble_eq_true rfl, Nat.le_of_ble_eq_true rfl, Nat.le_of_ble_eq_true rfl, rfl⟩ (s_349 kc x0 m19 _ h) ?_
  rintro _ m21 ⟨r20, rfl, h⟩
  refine it_V.at (pc1 := 133) (ls1 := [some (.ref 66), some (.int x0), some (.int r1)]) (st1 := [(.int r20), (.int (r1 + (36 : Int32))), (.ref 66)]) (mem1 := m21) rfl rfl rfl rfl ?_
  refine it_V.call it_cd352 it_m352 rfl it_m221 [(.ref 66), (.int (r1 + (36 : Int32))), (.int r20)] [] rfl rfl ⟨Nat.le_of_ble_eq_true rfl, Nat.le_of_ble_eq_true rfl, Nat.le_of_ble_eq_true rfl, Nat.le_of_ble_eq_true rfl, rfl⟩ (s_221 kc (r1 + (36 : Int32)) r20 m21 _ h) ?_
  rintro _ m22 ⟨rfl, h⟩
  refine it_V.at (pc1 := 136) (ls1 := [some (.ref 66), some (.int x0), some (.int r1)]) (st1 := []) (mem1 := m22) rfl rfl rfl rfl ?_
  refine it_V.sN it_cd352 it_m352 7 (pc1 := 146) (ls1 := [some (.ref 66), some (.int x0), some (.int r1)]) (st1 := [(.int x0), (.ref 105), (.int (r1 + (40 : Int32))), (.ref 66)]) (mem1 := m22) rfl ?_
  obtain ⟨g23, h⟩ := h
  refine it_V.iald it_cd352 it_m352 rfl ((⟨rfl, by decide⟩ : it_isR 105 8)).2 ((⟨rfl, by decide⟩ : it_isR 105 8)).1 g23 ?_
  refine it_V.at (pc1 := 147) (ls1 := [some (.ref 66), some (.int x0), some (.int r1)]) (st1 := [(.int (m22 105 (Int32.toNatClampNeg x0))), (.int (r1 + (40 : Int32))), (.ref 66)]) (mem1 := m22) rfl rfl rfl rfl ?_
  refine it_V.call it_cd352 it_m352 rfl it_m221 [(.ref 66), (.int (r1 + (40 : Int32))), (.int (m22 105 (Int32.toNatClampNeg x0)))] [] rfl rfl ⟨Nat.le_of_ble_eq_true rfl, Nat.le_of_ble_eq_true rfl, Nat.le_of_ble_eq_true rfl, Nat.le_of_ble_eq_true rfl, rfl⟩ (s_221 kc (r1 + (40 : Int32)) (m22 105 (Int32.toNatClampNeg x0)) m22 _ h) ?_
  rintro _ m24 ⟨rfl, h⟩
  refine it_V.at (pc1 := 150) (ls1 := [some (.ref 66), some (.int x0), some (.int r1)]) (st1 := []) (mem1 := m24) rfl rfl rfl rfl ?_
  exact it_V.ret it_cd352 it_m352 rfl rfl ⟨rfl, h⟩
set_option maxRecDepth 100000 in
set_option maxHeartbeats 4000000 in
theorem s_353_16 (kc : it_Kc) (Φ : Int32 → it_Me → Prop) (K35 : Int32 → it_Me → Prop) (hK35 : ∀ (v1 : Int32) (m : it_Me), K35 v1 m → it_V kc it_sh0 353 35 [some (.ref 66), some (.int v1), none] [] m (it_Pi Φ)) : ∀ (n : Nat) (v1 : Int32) (v2 : Int32) (m : it_Me) (h : w_353_16 kc Φ K35 n v1 v2 m), it_V kc it_sh0 353 16 [some (.ref 66), some (.int v1), some (.int v2)] [] m (it_Pi Φ) := by
  intro n
  induction n with
  | zero => intro v1 v2 m h; exact absurd h id
  | succ n ih =>
    intro v1 v2 m h
    rw [w_353_16] at h
    refine it_V.sN it_cd353 it_m353 4 (pc1 := (if (m 66 34) ≤ v2 then 35 else 24)) (ls1 := [some (.ref 66), some (.int v1), some (.int v2)]) (st1 := []) (mem1 := m) rfl ?_
    refine it_V.ite (fun c1 => ?_) (fun c1 => ?_)
    · have h := h.1 c1
      refine it_V.weak (l := [some (.ref 66), some (.int v1), none]) ⟨rfl, ⟨rfl, trivial⟩⟩ ?_
      exact hK35 v1 m h
    · have h := h.2 c1
      refine it_V.sN it_cd353 it_m353 2 (pc1 := 26) (ls1 := [some (.ref 66), some (.int v1), some (.int v2)]) (st1 := [(.int v2), (.ref 66)]) (mem1 := m) rfl ?_
      refine it_V.call it_cd353 it_m353 rfl it_m352 [(.ref 66), (.int v2)] [] rfl rfl ⟨Nat.le_of_ble_eq_true rfl, Nat.le_of_ble_eq_true rfl, Nat.le_of_ble_eq_true rfl, Nat.le_of_ble_eq_true rfl, rfl⟩ (s_352 kc v2 m _ h) ?_
      rintro _ m2 ⟨rfl, h⟩
      refine it_V.at (pc1 := 29) (ls1 := [some (.ref 66), some (.int v1), some (.int v2)]) (st1 := []) (mem1 := m2) rfl rfl rfl rfl ?_
      refine it_V.sN it_cd353 it_m353 2 (pc1 := 16) (ls1 := [some (.ref 66), some (.int v1), some (.int (v2 + (1 : Int32)))]) (st1 := []) (mem1 := m2) rfl ?_
      exact ih v1 (v2 + (1 : Int32)) m2 h
set_option maxRecDepth 100000 in
set_option maxHeartbeats 4000000 in
theorem s_353_12 (kc : it_Kc) (Φ : Int32 → it_Me → Prop) (m : it_Me) (h : w_353_12 kc Φ m) : it_V kc it_sh0 353 12 [none, none, none] [] m (it_Pi Φ) := by
  rw [w_353_12] at h
  refine it_V.sN it_cd353 it_m353 1 (pc1 := 13) (ls1 := [none, none, none]) (st1 := [(.int (-1 : Int32))]) (mem1 := m) rfl ?_
  exact it_V.ret it_cd353 it_m353 rfl rfl ⟨_, rfl, h⟩
set_option maxRecDepth 100000 in
set_option maxHeartbeats 4000000 in
theorem s_353_35 (kc : it_Kc) (Φ : Int32 → it_Me → Prop) (v1 : Int32) (m : it_Me) (h : w_353_35 kc Φ v1 m) : it_V kc it_sh0 353 35 [some (.ref 66), some (.int v1), none] [] m (it_Pi Φ) := by
  rw [w_353_35] at h
  refine it_V.sN it_cd353 it_m353 2 (pc1 := 37) (ls1 := [some (.ref 66), some (.int v1), none]) (st1 := [(.int v1), (.ref 66)]) (mem1 := m) rfl ?_
  refine it_V.call it_cd353 it_m353 rfl it_m218 [(.ref 66), (.int v1)] [] rfl rfl ⟨Nat.le_of_ble_eq_true rfl, Nat.le_of_ble_eq_true rfl, Nat.le_of_ble_eq_true rfl, Nat.le_of_ble_eq_true rfl, rfl⟩ (s_218 kc v1 m _ h) ?_
  rintro _ m2 ⟨r1, rfl, h⟩
  refine it_V.at (pc1 := 40) (ls1 := [some (.ref 66), some (.int v1), none]) (st1 := [(.int r1)]) (mem1 := m2) rfl rfl rfl rfl ?_
  exact it_V.ret it_cd353 it_m353 rfl rfl ⟨_, rfl, h⟩
set_option maxRecDepth 100000 in
set_option maxHeartbeats 4000000 in
theorem s_353 (kc : it_Kc) (x0 : Int32) (m : it_Me) (Φ : Int32 → it_Me → Prop) (h : w_353 kc x0 m Φ) : it_V kc it_sh0 353 0 (it_loc0 [(.ref 66), (.int x0)] 3) [] m (it_Pi Φ) := by
  rw [w_353] at h
  refine it_V.at (pc1 := 0) (ls1 := [some (.ref 66), some (.int x0), none]) (st1 := []) (mem1 := m) rfl rfl rfl rfl ?_
  refine it_V.sN it_cd353 it_m353 3 (pc1 := (if x0 < (65536 : Int32) then 12 else 6)) (ls1 := [some (.ref 66), some (.int x0), none]) (st1 := []) (mem1 := m) rfl ?_
  refine it_V.ite (fun c1 => ?_) (fun c1 => ?_)
  · have h := h.1 c1
    refine it_V.weak (l := [none, none, none]) trivial ?_
    exact s_353_12 kc Φ m h
  · have h := h.2 c1
    refine it_V.sN it_cd353 it_m353 3 (pc1 := (if x0 < (196608 : Int32) then 14 else 12)) (ls1 := [some (.ref 66), some (.int x0), none]) (st1 := []) (mem1 := m) rfl ?_
    refine it_V.ite (fun c2 => ?_) (fun c2 => ?_)
    · have h := h.1 c2
      refine it_V.sN it_cd353 it_m353 2 (pc1 := 16) (ls1 := [some (.ref 66), some (.int x0), some (.int (0 : Int32))]) (st1 := []) (mem1 := m) rfl ?_
      obtain ⟨n, h⟩ := h
      exact s_353_16 kc Φ _ (fun v1 m h => s_353_35 kc Φ v1 m h) n x0 (0 : Int32) m h
    · have h := h.2 c2
      refine it_V.weak (l := [none, none, none]) trivial ?_
      exact s_353_12 kc Φ m h
set_option maxRecDepth 100000 in
set_option maxHeartbeats 4000000 in
theorem s_354_32 (kc : it_Kc) (Φ : Int32 → it_Me → Prop) (m : it_Me) (h : w_354_32 kc Φ m) : it_V kc it_sh0 354 32 [none, none, none, none] [] m (it_Pi Φ) := by
  rw [w_354_32] at h
  refine it_V.sN it_cd354 it_m354 1 (pc1 := 33) (ls1 := [none, none, none, none]) (st1 := [(.int (-1 : Int32))]) (mem1 := m) rfl ?_
  exact it_V.ret it_cd354 it_m354 rfl rfl ⟨_, rfl, h⟩
set_option maxRecDepth 100000 in
set_option maxHeartbeats 4000000 in
theorem s_354_63 (kc : it_Kc) (Φ : Int32 → it_Me → Prop) (u0 : Int32) (m : it_Me) (h : w_354_63 kc Φ u0 m) : it_V kc it_sh0 354 63 [none, none, none, none] [(.int u0)] m (it_Pi Φ) := by
  rw [w_354_63] at h
  exact it_V.ret it_cd354 it_m354 rfl rfl ⟨_, rfl, h⟩
set_option maxRecDepth 100000 in
set_option maxHeartbeats 4000000 in
theorem s_354_43 (kc : it_Kc) (Φ : Int32 → it_Me → Prop) (m : it_Me) (h : w_354_43 kc Φ m) : it_V kc it_sh0 354 43 [none, none, none, none] [] m (it_Pi Φ) := by
  rw [w_354_43] at h
  refine it_V.sN it_cd354 it_m354 2 (pc1 := 63) (ls1 := [none, none, none, none]) (st1 := [(.int (-2 : Int32))]) (mem1 := m) rfl ?_
  refine it_V.weak (l := [none, none, none, none]) trivial ?_
  exact s_354_63 kc Φ (-2 : Int32) m h
set_option maxRecDepth 100000 in
set_option maxHeartbeats 4000000 in
theorem s_354 (kc : it_Kc) (x0 : Int32) (x1 : Int32) (x2 : Int32) (m : it_Me) (Φ : Int32 → it_Me → Prop) (h : w_354 kc x0 x1 x2 m Φ) : it_V kc it_sh0 354 0 (it_loc0 [(.ref 66), (.int x0), (.int x1), (.int x2)] 4) [] m (it_Pi Φ) := by
  rw [w_354] at h
  refine it_V.at (pc1 := 0) (ls1 := [some (.ref 66), some (.int x0), some (.int x1), some (.int x2)]) (st1 := []) (mem1 := m) rfl rfl rfl rfl ?_
  refine it_V.sN it_cd354 it_m354 3 (pc1 := (if (m 66 3) = 0 then 7 else 10)) (ls1 := [some (.ref 66), some (.int x0), some (.int x1), some (.int x2)]) (st1 := []) (mem1 := m) rfl ?_
  refine it_V.ite (fun c1 => ?_) (fun c1 => ?_)
  · have h := h.1 c1
    refine it_V.sN it_cd354 it_m354 1 (pc1 := 9) (ls1 := [some (.ref 66), some (.int x0), some (.int x1), some (.int x2)]) (st1 := [(.int (-3 : Int32))]) (mem1 := m) rfl ?_
    exact it_V.ret it_cd354 it_m354 rfl rfl ⟨_, rfl, h⟩
  · have h := h.2 c1
    refine it_V.sN it_cd354 it_m354 2 (pc1 := 12) (ls1 := [some (.ref 66), some (.int x0), some (.int x1), some (.int x2)]) (st1 := [(.int x0), (.ref 66)]) (mem1 := m) rfl ?_
    refine it_V.call it_cd354 it_m354 rfl it_m341 [(.ref 66), (.int x0)] [] rfl rfl ⟨Nat.le_of_ble_eq_true rfl, Nat.le_of_ble_eq_true rfl, Nat.le_of_ble_eq_true rfl, Nat.le_of_ble_eq_true rfl, rfl⟩ (s_341 kc x0 m _ h) ?_
    rintro _ m3 ⟨r2, rfl, h⟩
    refine it_V.at (pc1 := 15) (ls1 := [some (.ref 66), some (.int x0), some (.int x1), some (.int x2)]) (st1 := [(.int r2)]) (mem1 := m3) rfl rfl rfl rfl ?_
    refine it_V.sN it_cd354 it_m354 1 (pc1 := (if r2 = 0 then 32 else 18)) (ls1 := [some (.ref 66), some (.int x0), some (.int x1), some (.int x2)]) (st1 := []) (mem1 := m3) rfl ?_
    refine it_V.ite (fun c4 => ?_) (fun c4 => ?_)
    · have h := h.1 c4
      refine it_V.weak (l := [none, none, none, none]) trivial ?_
      exact s_354_32 kc Φ m3 h
    · have h := h.2 c4
      refine it_V.sN it_cd354 it_m354 2 (pc1 := (if x1 < 0 then 32 else 22)) (ls1 := [some (.ref 66), some (.int x0), some (.int x1), some (.int x2)]) (st1 := []) (mem1 := m3) rfl ?_
      refine it_V.ite (fun c5 => ?_) (fun c5 => ?_)
      · have h := h.1 c5
        refine it_V.weak (l := [none, none, none, none]) trivial ?_
        exact s_354_32 kc Φ m3 h
      · have h := h.2 c5
        refine it_V.sN it_cd354 it_m354 4 (pc1 := 28) (ls1 := [some (.ref 66), some (.int x0), some (.int x1), some (.int x2)]) (st1 := [(.int x0), (.ref 110), (.int x1)]) (mem1 := m3) rfl ?_
        obtain ⟨g6, h⟩ := h
        refine it_V.iald it_cd354 it_m354 rfl ((⟨rfl, by decide⟩ : it_isR 110 8)).2 ((⟨rfl, by decide⟩ : it_isR 110 8)).1 g6 ?_
        refine it_V.at (pc1 := 29) (ls1 := [some (.ref 66), some (.int x0), some (.int x1), some (.int x2)]) (st1 := [(.int (m3 110 (Int32.toNatClampNeg x0))), (.int x1)]) (mem1 := m3) rfl rfl rfl rfl ?_
        refine it_V.sN it_cd354 it_m354 1 (pc1 := (if x1 < (m3 110 (Int32.toNatClampNeg x0)) then 34 else 32)) (ls1 := [some (.ref 66), some (.int x0), some (.int x1), some (.int x2)]) (st1 := []) (mem1 := m3) rfl ?_
        refine it_V.ite (fun c7 => ?_) (fun c7 => ?_)
        · have h := h.1 c7
          refine it_V.sN it_cd354 it_m354 2 (pc1 := (if x2 < 0 then 43 else 38)) (ls1 := [some (.ref 66), some (.int x0), some (.int x1), some (.int x2)]) (st1 := []) (mem1 := m3) rfl ?_
          refine it_V.ite (fun c8 => ?_) (fun c8 => ?_)
          · have h := h.1 c8
            refine it_V.weak (l := [none, none, none, none]) trivial ?_
            exact s_354_43 kc Φ m3 h
          · have h := h.2 c8
            refine it_V.sN it_cd354 it_m354 3 (pc1 := (if x2 ≤ (4 : Int32) then 48 else 43)) (ls1 := [some (.ref 66), some (.int x0), some (.int x1), some (.int x2)]) (st1 := []) (mem1 := m3) rfl ?_
            refine it_V.ite (fun c9 => ?_) (fun c9 => ?_)
            · have h := h.1 c9
              refine it_V.sN it_cd354 it_m354 11 (pc1 := 62) (ls1 := [some (.ref 66), some (.int x0), some (.int x1), some (.int x2)]) (st1 := [(.int ((((50 : Int32) * x0) + ((5 : Int32) * x1)) + x2)), (.ref 109)]) (mem1 := m3) rfl ?_
              obtain ⟨g10, h⟩ := h
              refine it_V.iald it_cd354 it_m354 rfl ((⟨rfl, by decide⟩ : it_isR 109 400)).2 ((⟨rfl, by decide⟩ : it_isR 109 400)).1 g10 ?_
              refine it_V.at (pc1 := 63) (ls1 := [some (.ref 66), some (.int x0), some (.int x1), some (.int x2)]) (st1 := [(.int (m3 109 (Int32.toNatClampNeg ((((50 : Int32) * x0) + ((5 : Int32) * x1)) + x2))))]) (mem1 := m3) rfl rfl rfl rfl ?_
              refine it_V.weak (l := [none, none, none, none]) trivial ?_
              exact s_354_63 kc Φ (m3 109 (Int32.toNatClampNeg ((((50 : Int32) * x0) + ((5 : Int32) * x1)) + x2))) m3 h
            · have h := h.2 c9
              refine it_V.weak (l := [none, none, none, none]) trivial ?_
              exact s_354_43 kc Φ m3 h
        · have h := h.2 c7
          refine it_V.weak (l := [none, none, none, none]) trivial ?_
          exact s_354_32 kc Φ m3 h
set_option maxRecDepth 100000 in
set_option maxHeartbeats 4000000 in
theorem s_355_28 (kc : it_Kc) (Φ : Int32 → it_Me → Prop) (u0 : Int32) (m : it_Me) (h : w_355_28 kc Φ u0 m) : it_V kc it_sh0 355 28 [none, none, none] [(.int u0)] m (it_Pi Φ) := by
  rw [w_355_28] at h
  exact it_V.ret it_cd355 it_m355 rfl rfl ⟨_, rfl, h⟩
set_option maxRecDepth 100000 in
set_option maxHeartbeats 4000000 in
theorem s_355 (kc : it_Kc) (x0 : Int32) (x1 : Int32) (m : it_Me) (Φ : Int32 → it_Me → Prop) (h : w_355 kc x0 x1 m Φ) : it_V kc it_sh0 355 0 (it_loc0 [(.ref 66), (.int x0), (.int x1)] 3) [] m (it_Pi Φ) := by
  rw [w_355] at h
  refine it_V.at (pc1 := 0) (ls1 := [some (.ref 66), some (.int x0), some (.int x1)]) (st1 := []) (mem1 := m) rfl rfl rfl rfl ?_
  refine it_V.sN it_cd355 it_m355 3 (pc1 := (if (m 66 3) = 0 then 7 else 10)) (ls1 := [some (.ref 66), some (.int x0), some (.int x1)]) (st1 := []) (mem1 := m) rfl ?_
  refine it_V.ite (fun c1 => ?_) (fun c1 => ?_)
  · have h := h.1 c1
    refine it_V.sN it_cd355 it_m355 1 (pc1 := 9) (ls1 := [some (.ref 66), some (.int x0), some (.int x1)]) (st1 := [(.int (-3 : Int32))]) (mem1 := m) rfl ?_
    exact it_V.ret it_cd355 it_m355 rfl rfl ⟨_, rfl, h⟩
  · have h := h.2 c1
    refine it_V.sN it_cd355 it_m355 2 (pc1 := 12) (ls1 := [some (.ref 66), some (.int x0), some (.int x1)]) (st1 := [(.int x0), (.ref 66)]) (mem1 := m) rfl ?_
    refine it_V.call it_cd355 it_m355 rfl it_m341 [(.ref 66), (.int x0)] [] rfl rfl ⟨Nat.le_of_ble_eq_true rfl, Nat.le_of_ble_eq_true rfl, Nat.le_of_ble_eq_true rfl, Nat.le_of_ble_eq_true rfl, rfl⟩ (s_341 kc x0 m _ h) ?_
    rintro _ m3 ⟨r2, rfl, h⟩
    refine it_V.at (pc1 := 15) (ls1 := [some (.ref 66), some (.int x0), some (.int x1)]) (st1 := [(.int r2)]) (mem1 := m3) rfl rfl rfl rfl ?_
    refine it_V.sN it_cd355 it_m355 1 (pc1 := (if r2 = 0 then 27 else 18)) (ls1 := [some (.ref 66), some (.int x0), some (.int x1)]) (st1 := []) (mem1 := m3) rfl ?_
    refine it_V.ite (fun c4 => ?_) (fun c4 => ?_)
    · have h := h.1 c4
      refine it_V.sN it_cd355 it_m355 1 (pc1 := 28) (ls1 := [some (.ref 66), some (.int x0), some (.int x1)]) (st1 := [(.int (-1 : Int32))]) (mem1 := m3) rfl ?_
      refine it_V.weak (l := [none, none, none]) trivial ?_
      exact s_355_28 kc Φ (-1 : Int32) m3 h
    · have h := h.2 c4
      refine it_V.sN it_cd355 it_m355 3 (pc1 := 21) (ls1 := [some (.ref 66), some (.int x0), some (.int x1)]) (st1 := [(.int x1), (.int x0), (.ref 66)]) (mem1 := m3) rfl ?_
      refine it_V.call it_cd355 it_m355 rfl it_m272 [(.ref 66), (.int x0), (.int x1)] [] rfl rfl ⟨Nat.le_of_ble_eq_true rfl, Nat.le_of_ble_eq_true rfl, Nat.le_of_ble_eq_true rfl, Nat.le_of_ble_eq_true rfl, rfl⟩ (s_272 kc x0 x1 m3 _ h) ?_
      rintro _ m6 ⟨r5, rfl, h⟩
      refine it_V.at (pc1 := 24) (ls1 := [some (.ref 66), some (.int x0), some (.int x1)]) (st1 := [(.int r5)]) (mem1 := m6) rfl rfl rfl rfl ?_
      refine it_V.sN it_cd355 it_m355 1 (pc1 := 28) (ls1 := [some (.ref 66), some (.int x0), some (.int x1)]) (st1 := [(.int r5)]) (mem1 := m6) rfl ?_
      refine it_V.weak (l := [none, none, none]) trivial ?_
      exact s_355_28 kc Φ r5 m6 h
set_option maxRecDepth 100000 in
set_option maxHeartbeats 4000000 in
theorem s_356_42 (kc : it_Kc) (Φ : Int32 → it_Me → Prop) (u0 : Int32) (m : it_Me) (h : w_356_42 kc Φ u0 m) : it_V kc it_sh0 356 42 [none, none] [(.int u0)] m (it_Pi Φ) := by
  rw [w_356_42] at h
  exact it_V.ret it_cd356 it_m356 rfl rfl ⟨_, rfl, h⟩
set_option maxRecDepth 100000 in
set_option maxHeartbeats 4000000 in
theorem s_356_28 (kc : it_Kc) (Φ : Int32 → it_Me → Prop) (m : it_Me) (h : w_356_28 kc Φ m) : it_V kc it_sh0 356 28 [none, none] [] m (it_Pi Φ) := by
  rw [w_356_28] at h
  refine it_V.sN it_cd356 it_m356 2 (pc1 := 42) (ls1 := [none, none]) (st1 := [(.int (-1 : Int32))]) (mem1 := m) rfl ?_
  refine it_V.weak (l := [none, none]) trivial ?_
  exact s_356_42 kc Φ (-1 : Int32) m h
set_option maxRecDepth 100000 in
set_option maxHeartbeats 4000000 in
theorem s_356 (kc : it_Kc) (x0 : Int32) (m : it_Me) (Φ : Int32 → it_Me → Prop) (h : w_356 kc x0 m Φ) : it_V kc it_sh0 356 0 (it_loc0 [(.ref 66), (.int x0)] 2) [] m (it_Pi Φ) := by
  rw [w_356] at h
  refine it_V.at (pc1 := 0) (ls1 := [some (.ref 66), some (.int x0)]) (st1 := []) (mem1 := m) rfl rfl rfl rfl ?_
  refine it_V.sN it_cd356 it_m356 2 (pc1 := (if x0 < 0 then 28 else 4)) (ls1 := [some (.ref 66), some (.int x0)]) (st1 := []) (mem1 := m) rfl ?_
  refine it_V.ite (fun c1 => ?_) (fun c1 => ?_)
  · have h := h.1 c1
    refine it_V.weak (l := [none, none]) trivial ?_
    exact s_356_28 kc Φ m h
  · have h := h.2 c1
    refine it_V.sN it_cd356 it_m356 3 (pc1 := (if (4000 : Int32) ≤ x0 then 28 else 11)) (ls1 := [some (.ref 66), some (.int x0)]) (st1 := []) (mem1 := m) rfl ?_
    refine it_V.ite (fun c2 => ?_) (fun c2 => ?_)
    · have h := h.1 c2
      refine it_V.weak (l := [none, none]) trivial ?_
      exact s_356_28 kc Φ m h
    · have h := h.2 c2
      refine it_V.sN it_cd356 it_m356 5 (pc1 := 18) (ls1 := [some (.ref 66), some (.int x0)]) (st1 := [(.int (3 : Int32)), (.ref 69), (.long (Int32.toInt64 x0))]) (mem1 := m) rfl ?_
      obtain ⟨g3, h⟩ := h
      refine it_V.iald it_cd356 it_m356 rfl ((⟨rfl, by decide⟩ : it_isR 69 12)).2 ((⟨rfl, by decide⟩ : it_isR 69 12)).1 g3 ?_
      refine it_V.at (pc1 := 19) (ls1 := [some (.ref 66), some (.int x0)]) (st1 := [(.int (m 69 (Int32.toNatClampNeg (3 : Int32)))), (.long (Int32.toInt64 x0))]) (mem1 := m) rfl rfl rfl rfl ?_
      refine it_V.sN it_cd356 it_m356 5 (pc1 := (if (lg_cmp (Int32.toInt64 x0) ((Int32.toInt64 (m 69 (Int32.toNatClampNeg (3 : Int32)))) &&& (4294967295 : Int64))) < 0 then 32 else 28)) (ls1 := [some (.ref 66), some (.int x0)]) (st1 := []) (mem1 := m) rfl ?_
      refine it_V.ite (fun c4 => ?_) (fun c4 => ?_)
      · have h := h.1 c4
        refine it_V.sN it_cd356 it_m356 3 (pc1 := 37) (ls1 := [some (.ref 66), some (.int x0)]) (st1 := [(.int x0), (.ref 70)]) (mem1 := m) rfl ?_
        obtain ⟨g5, h⟩ := h
        refine it_V.bald (t := 1) (n := 4000) it_cd356 it_m356 rfl rfl (by decide) g5 ?_
        refine it_V.at (pc1 := 38) (ls1 := [some (.ref 66), some (.int x0)]) (st1 := [(.int (m 70 (Int32.toNatClampNeg x0)))]) (mem1 := m) rfl rfl rfl rfl ?_
        refine it_V.sN it_cd356 it_m356 2 (pc1 := 42) (ls1 := [some (.ref 66), some (.int x0)]) (st1 := [(.int ((m 70 (Int32.toNatClampNeg x0)) &&& (255 : Int32)))]) (mem1 := m) rfl ?_
        refine it_V.weak (l := [none, none]) trivial ?_
        exact s_356_42 kc Φ ((m 70 (Int32.toNatClampNeg x0)) &&& (255 : Int32)) m h
      · have h := h.2 c4
        refine it_V.weak (l := [none, none]) trivial ?_
        exact s_356_28 kc Φ m h
set_option maxRecDepth 100000 in
set_option maxHeartbeats 4000000 in
theorem s_357_27 (kc : it_Kc) (Φ : Int32 → it_Me → Prop) (u0 : Int32) (m : it_Me) (h : w_357_27 kc Φ u0 m) : it_V kc it_sh0 357 27 [none, none] [(.int u0)] m (it_Pi Φ) := by
  rw [w_357_27] at h
  exact it_V.ret it_cd357 it_m357 rfl rfl ⟨_, rfl, h⟩
set_option maxRecDepth 100000 in
set_option maxHeartbeats 4000000 in
theorem s_357_9 (kc : it_Kc) (Φ : Int32 → it_Me → Prop) (m : it_Me) (h : w_357_9 kc Φ m) : it_V kc it_sh0 357 9 [none, none] [] m (it_Pi Φ) := by
  rw [w_357_9] at h
  refine it_V.sN it_cd357 it_m357 2 (pc1 := 27) (ls1 := [none, none]) (st1 := [(.int (-1 : Int32))]) (mem1 := m) rfl ?_
  refine it_V.weak (l := [none, none]) trivial ?_
  exact s_357_27 kc Φ (-1 : Int32) m h
set_option maxRecDepth 100000 in
set_option maxHeartbeats 4000000 in
theorem s_357 (kc : it_Kc) (x0 : Int32) (m : it_Me) (Φ : Int32 → it_Me → Prop) (h : w_357 kc x0 m Φ) : it_V kc it_sh0 357 0 (it_loc0 [(.ref 66), (.int x0)] 2) [] m (it_Pi Φ) := by
  rw [w_357] at h
  refine it_V.at (pc1 := 0) (ls1 := [some (.ref 66), some (.int x0)]) (st1 := []) (mem1 := m) rfl rfl rfl rfl ?_
  refine it_V.sN it_cd357 it_m357 2 (pc1 := (if x0 < 0 then 9 else 4)) (ls1 := [some (.ref 66), some (.int x0)]) (st1 := []) (mem1 := m) rfl ?_
  refine it_V.ite (fun c1 => ?_) (fun c1 => ?_)
  · have h := h.1 c1
    refine it_V.weak (l := [none, none]) trivial ?_
    exact s_357_9 kc Φ m h
  · have h := h.2 c1
    refine it_V.sN it_cd357 it_m357 3 (pc1 := (if x0 ≤ (3 : Int32) then 13 else 9)) (ls1 := [some (.ref 66), some (.int x0)]) (st1 := []) (mem1 := m) rfl ?_
    refine it_V.ite (fun c2 => ?_) (fun c2 => ?_)
    · have h := h.1 c2
      refine it_V.sN it_cd357 it_m357 3 (pc1 := 18) (ls1 := [some (.ref 66), some (.int x0)]) (st1 := [(.int x0), (.ref 71)]) (mem1 := m) rfl ?_
      obtain ⟨g3, h⟩ := h
      refine it_V.bald (t := 2) (n := 4) it_cd357 it_m357 rfl rfl (by decide) g3 ?_
      refine it_V.at (pc1 := 19) (ls1 := [some (.ref 66), some (.int x0)]) (st1 := [(.int (m 71 (Int32.toNatClampNeg x0)))]) (mem1 := m) rfl rfl rfl rfl ?_
      refine it_V.sN it_cd357 it_m357 1 (pc1 := (if (m 71 (Int32.toNatClampNeg x0)) = 0 then 26 else 22)) (ls1 := [some (.ref 66), some (.int x0)]) (st1 := []) (mem1 := m) rfl ?_
      refine it_V.ite (fun c4 => ?_) (fun c4 => ?_)
      · have h := h.1 c4
        refine it_V.sN it_cd357 it_m357 1 (pc1 := 27) (ls1 := [some (.ref 66), some (.int x0)]) (st1 := [(.int (0 : Int32))]) (mem1 := m) rfl ?_
        refine it_V.weak (l := [none, none]) trivial ?_
        exact s_357_27 kc Φ (0 : Int32) m h
      · have h := h.2 c4
        refine it_V.sN it_cd357 it_m357 2 (pc1 := 27) (ls1 := [some (.ref 66), some (.int x0)]) (st1 := [(.int (1 : Int32))]) (mem1 := m) rfl ?_
        refine it_V.weak (l := [none, none]) trivial ?_
        exact s_357_27 kc Φ (1 : Int32) m h
    · have h := h.2 c2
      refine it_V.weak (l := [none, none]) trivial ?_
      exact s_357_9 kc Φ m h
set_option maxRecDepth 100000 in
set_option maxHeartbeats 4000000 in
theorem s_358_29 (kc : it_Kc) (Φ : Int32 → it_Me → Prop) (m : it_Me) (h : w_358_29 kc Φ m) : it_V kc it_sh0 358 29 [none, none, none] [] m (it_Pi Φ) := by
  rw [w_358_29] at h
  refine it_V.sN it_cd358 it_m358 1 (pc1 := 30) (ls1 := [none, none, none]) (st1 := [(.int (-1 : Int32))]) (mem1 := m) rfl ?_
  exact it_V.ret it_cd358 it_m358 rfl rfl ⟨_, rfl, h⟩
set_option maxRecDepth 100000 in
set_option maxHeartbeats 4000000 in
theorem s_358_40 (kc : it_Kc) (Φ : Int32 → it_Me → Prop) (m : it_Me) (h : w_358_40 kc Φ m) : it_V kc it_sh0 358 40 [none, none, none] [] m (it_Pi Φ) := by
  rw [w_358_40] at h
  refine it_V.sN it_cd358 it_m358 1 (pc1 := 42) (ls1 := [none, none, none]) (st1 := [(.int (-2 : Int32))]) (mem1 := m) rfl ?_
  exact it_V.ret it_cd358 it_m358 rfl rfl ⟨_, rfl, h⟩
set_option maxRecDepth 100000 in
set_option maxHeartbeats 4000000 in
theorem s_358 (kc : it_Kc) (x0 : Int32) (x1 : Int32) (m : it_Me) (Φ : Int32 → it_Me → Prop) (h : w_358 kc x0 x1 m Φ) : it_V kc it_sh0 358 0 (it_loc0 [(.ref 66), (.int x0), (.int x1)] 3) [] m (it_Pi Φ) := by
  rw [w_358] at h
  refine it_V.at (pc1 := 0) (ls1 := [some (.ref 66), some (.int x0), some (.int x1)]) (st1 := []) (mem1 := m) rfl rfl rfl rfl ?_
  refine it_V.sN it_cd358 it_m358 2 (pc1 := (if x0 < 0 then 29 else 4)) (ls1 := [some (.ref 66), some (.int x0), some (.int x1)]) (st1 := []) (mem1 := m) rfl ?_
  refine it_V.ite (fun c1 => ?_) (fun c1 => ?_)
  · have h := h.1 c1
    refine it_V.weak (l := [none, none, none]) trivial ?_
    exact s_358_29 kc Φ m h
  · have h := h.2 c1
    refine it_V.sN it_cd358 it_m358 3 (pc1 := (if (200 : Int32) ≤ x0 then 29 else 11)) (ls1 := [some (.ref 66), some (.int x0), some (.int x1)]) (st1 := []) (mem1 := m) rfl ?_
    refine it_V.ite (fun c2 => ?_) (fun c2 => ?_)
    · have h := h.1 c2
      refine it_V.weak (l := [none, none, none]) trivial ?_
      exact s_358_29 kc Φ m h
    · have h := h.2 c2
      refine it_V.sN it_cd358 it_m358 5 (pc1 := 19) (ls1 := [some (.ref 66), some (.int x0), some (.int x1)]) (st1 := [(.int (11 : Int32)), (.ref 69), (.long (Int32.toInt64 x0))]) (mem1 := m) rfl ?_
      obtain ⟨g3, h⟩ := h
      refine it_V.iald it_cd358 it_m358 rfl ((⟨rfl, by decide⟩ : it_isR 69 12)).2 ((⟨rfl, by decide⟩ : it_isR 69 12)).1 g3 ?_
      refine it_V.at (pc1 := 20) (ls1 := [some (.ref 66), some (.int x0), some (.int x1)]) (st1 := [(.int (m 69 (Int32.toNatClampNeg (11 : Int32)))), (.long (Int32.toInt64 x0))]) (mem1 := m) rfl rfl rfl rfl ?_
      refine it_V.sN it_cd358 it_m358 5 (pc1 := (if (lg_cmp (Int32.toInt64 x0) ((Int32.toInt64 (m 69 (Int32.toNatClampNeg (11 : Int32)))) &&& (4294967295 : Int64))) < 0 then 31 else 29)) (ls1 := [some (.ref 66), some (.int x0), some (.int x1)]) (st1 := []) (mem1 := m) rfl ?_
      refine it_V.ite (fun c4 => ?_) (fun c4 => ?_)
      · have h := h.1 c4
        refine it_V.sN it_cd358 it_m358 2 (pc1 := (if x1 < 0 then 40 else 35)) (ls1 := [some (.ref 66), some (.int x0), some (.int x1)]) (st1 := []) (mem1 := m) rfl ?_
        refine it_V.ite (fun c5 => ?_) (fun c5 => ?_)
        · have h := h.1 c5
          refine it_V.weak (l := [none, none, none]) trivial ?_
          exact s_358_40 kc Φ m h
        · have h := h.2 c5
          refine it_V.sN it_cd358 it_m358 3 (pc1 := (if x1 ≤ (3 : Int32) then 43 else 40)) (ls1 := [some (.ref 66), some (.int x0), some (.int x1)]) (st1 := []) (mem1 := m) rfl ?_
          refine it_V.ite (fun c6 => ?_) (fun c6 => ?_)
          · have h := h.1 c6
            refine it_V.sN it_cd358 it_m358 6 (pc1 := 54) (ls1 := [some (.ref 66), some (.int x0), some (.int x1)]) (st1 := [(.int (11 : Int32)), (.ref 69), (.int (4 : Int32)), (.ref 74)]) (mem1 := m) rfl ?_
            obtain ⟨g7, h⟩ := h
            refine it_V.iald it_cd358 it_m358 rfl ((⟨rfl, by decide⟩ : it_isR 69 12)).2 ((⟨rfl, by decide⟩ : it_isR 69 12)).1 g7 ?_
            refine it_V.at (pc1 := 55) (ls1 := [some (.ref 66), some (.int x0), some (.int x1)]) (st1 := [(.int (m 69 (Int32.toNatClampNeg (11 : Int32)))), (.int (4 : Int32)), (.ref 74)]) (mem1 := m) rfl rfl rfl rfl ?_
            refine it_V.sN it_cd358 it_m358 8 (pc1 := 67) (ls1 := [some (.ref 66), some (.int x0), some (.int x1)]) (st1 := [(.long (200 : Int64)), (.long ((Int32.toInt64 (((m 69 (Int32.toNatClampNeg (11 : Int32))) - (1 : Int32)) - x0)) &&& (4294967295 : Int64))), (.int (4 : Int32)), (.ref 74)]) (mem1 := m) rfl ?_
            obtain ⟨g8, h⟩ := h
            refine it_V.s1 it_cd358 it_m358 (pc1 := 68) (ls1 := [some (.ref 66), some (.int x0), some (.int x1)]) (st1 := [(.long (it_lrem ((Int32.toInt64 (((m 69 (Int32.toNatClampNeg (11 : Int32))) - (1 : Int32)) - x0)) &&& (4294967295 : Int64)) (200 : Int64))), (.int (4 : Int32)), (.ref 74)]) (mem1 := m) (by simp only [it_s1, show it_lk it_c358 67 = some (0, .lrem, 0, 0) from rfl, it_ops, if_neg g8]; rfl) ?_
            refine it_V.sN it_cd358 it_m358 4 (pc1 := 72) (ls1 := [some (.ref 66), some (.int x0), some (.int x1)]) (st1 := [(.int (((4 : Int32) * (Int64.toInt32 (it_lrem ((Int32.toInt64 (((m 69 (Int32.toNatClampNeg (11 : Int32))) - (1 : Int32)) - x0)) &&& (4294967295 : Int64)) (200 : Int64)))) + x1)), (.ref 74)]) (mem1 := m) rfl ?_
            obtain ⟨g9, h⟩ := h
            refine it_V.iald it_cd358 it_m358 rfl ((⟨rfl, by decide⟩ : it_isR 74 800)).2 ((⟨rfl, by decide⟩ : it_isR 74 800)).1 g9 ?_
            refine it_V.at (pc1 := 73) (ls1 := [some (.ref 66), some (.int x0), some (.int x1)]) (st1 := [(.int (m 74 (Int32.toNatClampNeg (((4 : Int32) * (Int64.toInt32 (it_lrem ((Int32.toInt64 (((m 69 (Int32.toNatClampNeg (11 : Int32))) - (1 : Int32)) - x0)) &&& (4294967295 : Int64)) (200 : Int64)))) + x1))))]) (mem1 := m) rfl rfl rfl rfl ?_
            exact it_V.ret it_cd358 it_m358 rfl rfl ⟨_, rfl, h⟩
          · have h := h.2 c6
            refine it_V.weak (l := [none, none, none]) trivial ?_
            exact s_358_40 kc Φ m h
      · have h := h.2 c4
        refine it_V.weak (l := [none, none, none]) trivial ?_
        exact s_358_29 kc Φ m h
set_option maxRecDepth 100000 in
set_option maxHeartbeats 4000000 in
theorem s_359 (kc : it_Kc) (m : it_Me) (Φ : Int32 → it_Me → Prop) (h : w_359 kc m Φ) : it_V kc it_sh0 359 0 (it_loc0 [(.ref 66)] 1) [] m (it_Pi Φ) := by
  rw [w_359] at h
  refine it_V.at (pc1 := 0) (ls1 := [some (.ref 66)]) (st1 := []) (mem1 := m) rfl rfl rfl rfl ?_
  refine it_V.sN it_cd359 it_m359 1 (pc1 := 1) (ls1 := [some (.ref 66)]) (st1 := [(.int (0 : Int32))]) (mem1 := m) rfl ?_
  exact it_V.ret it_cd359 it_m359 rfl rfl ⟨_, rfl, h⟩
