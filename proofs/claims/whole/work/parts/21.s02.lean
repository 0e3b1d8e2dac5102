/-! The formulas are sound for the small machine. Written by wip/whole/gen_wp.py, split_wp.py -/
set_option maxRecDepth 100000 in
set_option maxHeartbeats 4000000 in
theorem s_131_21 (kc : it_Kc) (Φ : Int32 → it_Me → Prop) (u0 : Int32) (m : it_Me) (h : w_131_21 kc Φ u0 m) : it_V kc it_sh0 131 21 [none] [(.int u0)] m (it_Pi Φ) := by
  rw [w_131_21] at h
  exact it_V.retZ it_cd131 it_m131 rfl rfl h.1 ⟨_, rfl, h.2⟩
set_option maxRecDepth 100000 in
set_option maxHeartbeats 4000000 in
theorem s_131_16 (kc : it_Kc) (Φ : Int32 → it_Me → Prop) (m : it_Me) (h : w_131_16 kc Φ m) : it_V kc it_sh0 131 16 [none] [] m (it_Pi Φ) := by
  rw [w_131_16] at h
  refine it_V.sN it_cd131 it_m131 2 (pc1 := 21) (ls1 := [none]) (st1 := [(.int (1 : Int32))]) (mem1 := m) rfl ?_
  refine it_V.weak (l := [none]) trivial ?_
  exact s_131_21 kc Φ (1 : Int32) m h
set_option maxRecDepth 100000 in
set_option maxHeartbeats 4000000 in
theorem s_131 (kc : it_Kc) (k : Nat) (hk : it_isP k) (m : it_Me) (Φ : Int32 → it_Me → Prop) (h : w_131 kc k m Φ) : it_V kc it_sh0 131 0 (it_loc0 [(.ref k)] 1) [] m (it_Pi Φ) := by
  rw [w_131] at h
  refine it_V.at (pc1 := 0) (ls1 := [some (.ref k)]) (st1 := []) (mem1 := m) rfl rfl rfl rfl ?_
  refine it_V.sN it_cd131 it_m131 1 (pc1 := 1) (ls1 := [some (.ref k)]) (st1 := [(.ref k)]) (mem1 := m) rfl ?_
  refine it_V.getP it_cd131 it_m131 rfl (hk).1 rfl ?_
  refine it_V.at (pc1 := 4) (ls1 := [some (.ref k)]) (st1 := [(.int (m k 9))]) (mem1 := m) rfl rfl rfl rfl ?_
  refine it_V.sN it_cd131 it_m131 2 (pc1 := (if (m k 9) = (4 : Int32) then 16 else 8)) (ls1 := [some (.ref k)]) (st1 := []) (mem1 := m) rfl ?_
  refine it_V.ite (fun c1 => ?_) (fun c1 => ?_)
  · have h := h.1 c1
    refine it_V.weak (l := [none]) trivial ?_
    exact s_131_16 kc Φ m h
  · have h := h.2 c1
    refine it_V.sN it_cd131 it_m131 1 (pc1 := 9) (ls1 := [some (.ref k)]) (st1 := [(.ref k)]) (mem1 := m) rfl ?_
    refine it_V.getP it_cd131 it_m131 rfl (hk).1 rfl ?_
    refine it_V.at (pc1 := 12) (ls1 := [some (.ref k)]) (st1 := [(.int (m k 9))]) (mem1 := m) rfl rfl rfl rfl ?_
    refine it_V.sN it_cd131 it_m131 2 (pc1 := (if (m k 9) = (5 : Int32) then 16 else 20)) (ls1 := [some (.ref k)]) (st1 := []) (mem1 := m) rfl ?_
    refine it_V.ite (fun c2 => ?_) (fun c2 => ?_)
    · have h := h.1 c2
      refine it_V.weak (l := [none]) trivial ?_
      exact s_131_16 kc Φ m h
    · have h := h.2 c2
      refine it_V.sN it_cd131 it_m131 1 (pc1 := 21) (ls1 := [some (.ref k)]) (st1 := [(.int (0 : Int32))]) (mem1 := m) rfl ?_
      refine it_V.weak (l := [none]) trivial ?_
      exact s_131_21 kc Φ (0 : Int32) m h
set_option maxRecDepth 100000 in
set_option maxHeartbeats 4000000 in
theorem s_141_77 (kc : it_Kc) (Φ : it_Me → Prop) (m : it_Me) (h : w_141_77 kc Φ m) : it_V kc it_sh0 141 77 [none, none, none, none, none, none, none] [] m (it_Pv Φ) := by
  rw [w_141_77] at h
  exact it_V.ret it_cd141 it_m141 rfl rfl ⟨rfl, h⟩
set_option maxRecDepth 100000 in
set_option maxHeartbeats 4000000 in
theorem s_141 (kc : it_Kc) (k : Nat) (x0 : Int32) (x1 : Int32) (x2 : Int32) (x3 : Int32) (x4 : Int32) (hk : it_isP k) (m : it_Me) (Φ : it_Me → Prop) (h : w_141 kc k x0 x1 x2 x3 x4 m Φ) : it_V kc it_sh0 141 0 (it_loc0 [(.ref k), (.int x0), (.int x1), (.int x2), (.int x3), (.int x4)] 7) [] m (it_Pv Φ) := by
  rw [w_141] at h
  refine it_V.at (pc1 := 0) (ls1 := [some (.ref k), some (.int x0), some (.int x1), some (.int x2), some (.int x3), some (.int x4), none]) (st1 := []) (mem1 := m) rfl rfl rfl rfl ?_
  refine it_V.sN it_cd141 it_m141 1 (pc1 := 1) (ls1 := [some (.ref k), some (.int x0), some (.int x1), some (.int x2), some (.int x3), some (.int x4), none]) (st1 := [(.ref k)]) (mem1 := m) rfl ?_
  refine it_V.getP it_cd141 it_m141 rfl (hk).1 rfl ?_
  refine it_V.at (pc1 := 4) (ls1 := [some (.ref k), some (.int x0), some (.int x1), some (.int x2), some (.int x3), some (.int x4), none]) (st1 := [(.int (m k 14))]) (mem1 := m) rfl rfl rfl rfl ?_
  refine it_V.sN it_cd141 it_m141 2 (pc1 := (if (10 : Int32) ≤ (m k 14) then 77 else 9)) (ls1 := [some (.ref k), some (.int x0), some (.int x1), some (.int x2), some (.int x3), some (.int x4), none]) (st1 := []) (mem1 := m) rfl ?_
  refine it_V.ite (fun c1 => ?_) (fun c1 => ?_)
  · have h := h.1 c1
    refine it_V.weak (l := [none, none, none, none, none, none, none]) trivial ?_
    exact s_141_77 kc Φ m h
  · have h := h.2 c1
    refine it_V.sN it_cd141 it_m141 1 (pc1 := 10) (ls1 := [some (.ref k), some (.int x0), some (.int x1), some (.int x2), some (.int x3), some (.int x4), none]) (st1 := [(.ref k)]) (mem1 := m) rfl ?_
    refine it_V.getP it_cd141 it_m141 rfl (hk).1 rfl ?_
    refine it_V.at (pc1 := 13) (ls1 := [some (.ref k), some (.int x0), some (.int x1), some (.int x2), some (.int x3), some (.int x4), none]) (st1 := [(.int (m k 14))]) (mem1 := m) rfl rfl rfl rfl ?_
    refine it_V.sN it_cd141 it_m141 4 (pc1 := 18) (ls1 := [some (.ref k), some (.int x0), some (.int x1), some (.int x2), some (.int x3), some (.int x4), some (.int ((m k 14) * (5 : Int32)))]) (st1 := [(.ref k)]) (mem1 := m) rfl ?_
    refine it_V.getP it_cd141 it_m141 rfl (hk).1 rfl ?_
    refine it_V.at (pc1 := 21) (ls1 := [some (.ref k), some (.int x0), some (.int x1), some (.int x2), some (.int x3), some (.int x4), some (.int ((m k 14) * (5 : Int32)))]) (st1 := [(.ref (k + 3))]) (mem1 := m) rfl rfl rfl rfl ?_
    refine it_V.sN it_cd141 it_m141 2 (pc1 := 24) (ls1 := [some (.ref k), some (.int x0), some (.int x1), some (.int x2), some (.int x3), some (.int x4), some (.int ((m k 14) * (5 : Int32)))]) (st1 := [(.int x0), (.int ((m k 14) * (5 : Int32))), (.ref (k + 3))]) (mem1 := m) rfl ?_
    obtain ⟨g2, h⟩ := h
    refine it_V.iast it_cd141 it_m141 rfl ((hk).2.2.2.1).1 g2 ?_
    refine it_V.at (pc1 := 25) (ls1 := [some (.ref k), some (.int x0), some (.int x1), some (.int x2), some (.int x3), some (.int x4), some (.int ((m k 14) * (5 : Int32)))]) (st1 := []) (mem1 := (it_sv m (k + 3) (Int32.toNatClampNeg ((m k 14) * (5 : Int32))) x0)) rfl rfl rfl rfl ?_
    refine it_V.sN it_cd141 it_m141 1 (pc1 := 26) (ls1 := [some (.ref k), some (.int x0), some (.int x1), some (.int x2), some (.int x3), some (.int x4), some (.int ((m k 14) * (5 : Int32)))]) (st1 := [(.ref k)]) (mem1 := (it_sv m (k + 3) (Int32.toNatClampNeg ((m k 14) * (5 : Int32))) x0)) rfl ?_
    refine it_V.getP it_cd141 it_m141 rfl (hk).1 rfl ?_
    refine it_V.at (pc1 := 29) (ls1 := [some (.ref k), some (.int x0), some (.int x1), some (.int x2), some (.int x3), some (.int x4), some (.int ((m k 14) * (5 : Int32)))]) (st1 := [(.ref (k + 3))]) (mem1 := (it_sv m (k + 3) (Int32.toNatClampNeg ((m k 14) * (5 : Int32))) x0)) rfl rfl rfl rfl ?_
    refine it_V.sN it_cd141 it_m141 4 (pc1 := 34) (ls1 := [some (.ref k), some (.int x0), some (.int x1), some (.int x2), some (.int x3), some (.int x4), some (.int ((m k 14) * (5 : Int32)))]) (st1 := [(.int x1), (.int (((m k 14) * (5 : Int32)) + (1 : Int32))), (.ref (k + 3))]) (mem1 := (it_sv m (k + 3) (Int32.toNatClampNeg ((m k 14) * (5 : Int32))) x0)) rfl ?_
    obtain ⟨g3, h⟩ := h
    refine it_V.iast it_cd141 it_m141 rfl ((hk).2.2.2.1).1 g3 ?_
    refine it_V.at (pc1 := 35) (ls1 := [some (.ref k), some (.int x0), some (.int x1), some (.int x2), some (.int x3), some (.int x4), some (.int ((m k 14) * (5 : Int32)))]) (st1 := []) (mem1 := (it_sv (it_sv m (k + 3) (Int32.toNatClampNeg ((m k 14) * (5 : Int32))) x0) (k + 3) (Int32.toNatClampNeg (((m k 14) * (5 : Int32)) + (1 : Int32))) x1)) rfl rfl rfl rfl ?_
    refine it_V.sN it_cd141 it_m141 1 (pc1 := 36) (ls1 := [some (.ref k), some (.int x0), some (.int x1), some (.int x2), some (.int x3), some (.int x4), some (.int ((m k 14) * (5 : Int32)))]) (st1 := [(.ref k)]) (mem1 := (it_sv (it_sv m (k + 3) (Int32.toNatClampNeg ((m k 14) * (5 : Int32))) x0) (k + 3) (Int32.toNatClampNeg (((m k 14) * (5 : Int32)) + (1 : Int32))) x1)) rfl ?_
    refine it_V.getP it_cd141 it_m141 rfl (hk).1 rfl ?_
    refine it_V.at (pc1 := 39) (ls1 := [some (.ref k), some (.int x0), some (.int x1), some (.int x2), some (.int x3), some (.int x4), some (.int ((m k 14) * (5 : Int32)))]) (st1 := [(.ref (k + 3))]) (mem1 := (it_sv (it_sv m (k + 3) (Int32.toNatClampNeg ((m k 14) * (5 : Int32))) x0) (k + 3) (Int32.toNatClampNeg (((m k 14) * (5 : Int32)) + (1 : Int32))) x1)) rfl rfl rfl rfl ?_
    refine it_V.sN it_cd141 it_m141 4 (pc1 := 44) (ls1 := [some (.ref k), some (.int x0), some (.int x1), some (.int x2), some (.int x3), some (.int x4), some (.int ((m k 14) * (5 : Int32)))]) (st1 := [(.int x2), (.int (((m k 14) * (5 : Int32)) + (2 : Int32))), (.ref (k + 3))]) (mem1 := (it_sv (it_sv m (k + 3) (Int32.toNatClampNeg ((m k 14) * (5 : Int32))) x0) (k + 3) (Int32.toNatClampNeg (((m k 14) * (5 : Int32)) + (1 : Int32))) x1)) rfl ?_
    obtain ⟨g4, h⟩ := h
    refine it_V.iast it_cd141 it_m141 rfl ((hk).2.2.2.1).1 g4 ?_
    refine it_V.at (pc1 := 45) (ls1 := [some (.ref k), some (.int x0), some (.int x1), some (.int x2), some (.int x3), some (.int x4), some (.int ((m k 14) * (5 : Int32)))]) (st1 := []) (mem1 := (it_sv (it_sv (it_sv m (k + 3) (Int32.toNatClampNeg ((m k 14) * (5 : Int32))) x0) (k + 3) (Int32.toNatClampNeg (((m k 14) * (5 : Int32)) + (1 : Int32))) x1) (k + 3) (Int32.toNatClampNeg (((m k 14) * (5 : Int32)) + (2 : Int32))) x2)) rfl rfl rfl rfl ?_
    refine it_V.sN it_cd141 it_m141 1 (pc1 := 46) (ls1 := [some (.ref k), some (.int x0), some (.int x1), some (.int x2), some (.int x3), some (.int x4), some (.int ((m k 14) * (5 : Int32)))]) (st1 := [(.ref k)]) (mem1 := (it_sv (it_sv (it_sv m (k + 3) (Int32.toNatClampNeg ((m k 14) * (5 : Int32))) x0) (k + 3) (Int32.toNatClampNeg (((m k 14) * (5 : Int32)) + (1 : Int32))) x1) (k + 3) (Int32.toNatClampNeg (((m k 14) * (5 : Int32)) + (2 : Int32))) x2)) rfl ?_
    refine it_V.getP it_cd141 it_m141 rfl (hk).1 rfl ?_
    refine it_V.at (pc1 := 49) (ls1 := [some (.ref k), some (.int x0), some (.int x1), some (.int x2), some (.int x3), some (.int x4), some (.int ((m k 14) * (5 : Int32)))]) (st1 := [(.ref (k + 3))]) (mem1 := (it_sv (it_sv (it_sv m (k + 3) (Int32.toNatClampNeg ((m k 14) * (5 : Int32))) x0) (k + 3) (Int32.toNatClampNeg (((m k 14) * (5 : Int32)) + (1 : Int32))) x1) (k + 3) (Int32.toNatClampNeg (((m k 14) * (5 : Int32)) + (2 : Int32))) x2)) rfl rfl rfl rfl ?_
    refine it_V.sN it_cd141 it_m141 4 (pc1 := 55) (ls1 := [some (.ref k), some (.int x0), some (.int x1), some (.int x2), some (.int x3), some (.int x4), some (.int ((m k 14) * (5 : Int32)))]) (st1 := [(.int x3), (.int (((m k 14) * (5 : Int32)) + (3 : Int32))), (.ref (k + 3))]) (mem1 := (it_sv (it_sv (it_sv m (k + 3) (Int32.toNatClampNeg ((m k 14) * (5 : Int32))) x0) (k + 3) (Int32.toNatClampNeg (((m k 14) * (5 : Int32)) + (1 : Int32))) x1) (k + 3) (Int32.toNatClampNeg (((m k 14) * (5 : Int32)) + (2 : Int32))) x2)) rfl ?_
    obtain ⟨g5, h⟩ := h
    refine it_V.iast it_cd141 it_m141 rfl ((hk).2.2.2.1).1 g5 ?_
    refine it_V.at (pc1 := 56) (ls1 := [some (.ref k), some (.int x0), some (.int x1), some (.int x2), some (.int x3), some (.int x4), some (.int ((m k 14) * (5 : Int32)))]) (st1 := []) (mem1 := (it_sv (it_sv (it_sv (it_sv m (k + 3) (Int32.toNatClampNeg ((m k 14) * (5 : Int32))) x0) (k + 3) (Int32.toNatClampNeg (((m k 14) * (5 : Int32)) + (1 : Int32))) x1) (k + 3) (Int32.toNatClampNeg (((m k 14) * (5 : Int32)) + (2 : Int32))) x2) (k + 3) (Int32.toNatClampNeg (((m k 14) * (5 : Int32)) + (3 : Int32))) x3)) rfl rfl rfl rfl ?_
    refine it_V.sN it_cd141 it_m141 1 (pc1 := 57) (ls1 := [some (.ref k), some (.int x0), some (.int x1), some (.int x2), some (.int x3), some (.int x4), some (.int ((m k 14) * (5 : Int32)))]) (st1 := [(.ref k)]) (mem1 := (it_sv (it_sv (it_sv (it_sv m (k + 3) (Int32.toNatClampNeg ((m k 14) * (5 : Int32))) x0) (k + 3) (Int32.toNatClampNeg (((m k 14) * (5 : Int32)) + (1 : Int32))) x1) (k + 3) (Int32.toNatClampNeg (((m k 14) * (5 : Int32)) + (2 : Int32))) x2) (k + 3) (Int32.toNatClampNeg (((m k 14) * (5 : Int32)) + (3 : Int32))) x3)) rfl ?_
    refine it_V.getP it_cd141 it_m141 rfl (hk).1 rfl ?_
    refine it_V.at (pc1 := 60) (ls1 := [some (.ref k), some (.int x0), some (.int x1), some (.int x2), some (.int x3), some (.int x4), some (.int ((m k 14) * (5 : Int32)))]) (st1 := [(.ref (k + 3))]) (mem1 := (it_sv (it_sv (it_sv (it_sv m (k + 3) (Int32.toNatClampNeg ((m k 14) * (5 : Int32))) x0) (k + 3) (Int32.toNatClampNeg (((m k 14) * (5 : Int32)) + (1 : Int32))) x1) (k + 3) (Int32.toNatClampNeg (((m k 14) * (5 : Int32)) + (2 : Int32))) x2) (k + 3) (Int32.toNatClampNeg (((m k 14) * (5 : Int32)) + (3 : Int32))) x3)) rfl rfl rfl rfl ?_
    refine it_V.sN it_cd141 it_m141 4 (pc1 := 66) (ls1 := [some (.ref k), some (.int x0), some (.int x1), some (.int x2), some (.int x3), some (.int x4), some (.int ((m k 14) * (5 : Int32)))]) (st1 := [(.int x4), (.int (((m k 14) * (5 : Int32)) + (4 : Int32))), (.ref (k + 3))]) (mem1 := (it_sv (it_sv (it_sv (it_sv m (k + 3) (Int32.toNatClampNeg ((m k 14) * (5 : Int32))) x0) (k + 3) (Int32.toNatClampNeg (((m k 14) * (5 : Int32)) + (1 : Int32))) x1) (k + 3) (Int32.toNatClampNeg (((m k 14) * (5 : Int32)) + (2 : Int32))) x2) (k + 3) (Int32.toNatClampNeg (((m k 14) * (5 : Int32)) + (3 : Int32))) x3)) rfl ?_
    obtain ⟨g6, h⟩ := h
    refine it_V.iast it_cd141 it_m141 rfl ((hk).2.2.2.1).1 g6 ?_
    refine it_V.at (pc1 := 67) (ls1 := [some (.ref k), some (.int x0), some (.int x1), some (.int x2), some (.int x3), some (.int x4), some (.int ((m k 14) * (5 : Int32)))]) (st1 := []) (mem1 := (it_sv (it_sv (it_sv (it_sv (it_sv m (k + 3) (Int32.toNatClampNeg ((m k 14) * (5 : Int32))) x0) (k + 3) (Int32.toNatClampNeg (((m k 14) * (5 : Int32)) + (1 : Int32))) x1) (k + 3) (Int32.toNatClampNeg (((m k 14) * (5 : Int32)) + (2 : Int32))) x2) (k + 3) (Int32.toNatClampNeg (((m k 14) * (5 : Int32)) + (3 : Int32))) x3) (k + 3) (Int32.toNatClampNeg (((m k 14) * (5 : Int32)) + (4 : Int32))) x4)) rfl rfl rfl rfl ?_
    refine it_V.sN it_cd141 it_m141 2 (pc1 := 69) (ls1 := [some (.ref k), some (.int x0), some (.int x1), some (.int x2), some (.int x3), some (.int x4), some (.int ((m k 14) * (5 : Int32)))]) (st1 := [(.ref k), (.ref k)]) (mem1 := (it_sv (it_sv (it_sv (it_sv (it_sv m (k + 3) (Int32.toNatClampNeg ((m k 14) * (5 : Int32))) x0) (k + 3) (Int32.toNatClampNeg (((m k 14) * (5 : Int32)) + (1 : Int32))) x1) (k + 3) (Int32.toNatClampNeg (((m k 14) * (5 : Int32)) + (2 : Int32))) x2) (k + 3) (Int32.toNatClampNeg (((m k 14) * (5 : Int32)) + (3 : Int32))) x3) (k + 3) (Int32.toNatClampNeg (((m k 14) * (5 : Int32)) + (4 : Int32))) x4)) rfl ?_
    refine it_V.getP it_cd141 it_m141 rfl (hk).1 rfl ?_
    refine it_V.at (pc1 := 72) (ls1 := [some (.ref k), some (.int x0), some (.int x1), some (.int x2), some (.int x3), some (.int x4), some (.int ((m k 14) * (5 : Int32)))]) (st1 := [(.int ((it_sv (it_sv (it_sv (it_sv (it_sv m (k + 3) (Int32.toNatClampNeg ((m k 14) * (5 : Int32))) x0) (k + 3) (Int32.toNatClampNeg (((m k 14) * (5 : Int32)) + (1 : Int32))) x1) (k + 3) (Int32.toNatClampNeg (((m k 14) * (5 : Int32)) + (2 : Int32))) x2) (k + 3) (Int32.toNatClampNeg (((m k 14) * (5 : Int32)) + (3 : Int32))) x3) (k + 3) (Int32.toNatClampNeg (((m k 14) * (5 : Int32)) + (4 : Int32))) x4) k 14)), (.ref k)]) (mem1 := (it_sv (it_sv (it_sv (it_sv (it_sv m (k + 3) (Int32.toNatClampNeg ((m k 14) * (5 : Int32))) x0) (k + 3) (Int32.toNatClampNeg (((m k 14) * (5 : Int32)) + (1 : Int32))) x1) (k + 3) (Int32.toNatClampNeg (((m k 14) * (5 : Int32)) + (2 : Int32))) x2) (k + 3) (Int32.toNatClampNeg (((m k 14) * (5 : Int32)) + (3 : Int32))) x3) (k + 3) (Int32.toNatClampNeg (((m k 14) * (5 : Int32)) + (4 : Int32))) x4)) rfl rfl rfl rfl ?_
    refine it_V.sN it_cd141 it_m141 2 (pc1 := 74) (ls1 := [some (.ref k), some (.int x0), some (.int x1), some (.int x2), some (.int x3), some (.int x4), some (.int ((m k 14) * (5 : Int32)))]) (st1 := [(.int (((it_sv (it_sv (it_sv (it_sv (it_sv m (k + 3) (Int32.toNatClampNeg ((m k 14) * (5 : Int32))) x0) (k + 3) (Int32.toNatClampNeg (((m k 14) * (5 : Int32)) + (1 : Int32))) x1) (k + 3) (Int32.toNatClampNeg (((m k 14) * (5 : Int32)) + (2 : Int32))) x2) (k + 3) (Int32.toNatClampNeg (((m k 14) * (5 : Int32)) + (3 : Int32))) x3) (k + 3) (Int32.toNatClampNeg (((m k 14) * (5 : Int32)) + (4 : Int32))) x4) k 14) + (1 : Int32))), (.ref k)]) (mem1 := (it_sv (it_sv (it_sv (it_sv (it_sv m (k + 3) (Int32.toNatClampNeg ((m k 14) * (5 : Int32))) x0) (k + 3) (Int32.toNatClampNeg (((m k 14) * (5 : Int32)) + (1 : Int32))) x1) (k + 3) (Int32.toNatClampNeg (((m k 14) * (5 : Int32)) + (2 : Int32))) x2) (k + 3) (Int32.toNatClampNeg (((m k 14) * (5 : Int32)) + (3 : Int32))) x3) (k + 3) (Int32.toNatClampNeg (((m k 14) * (5 : Int32)) + (4 : Int32))) x4)) rfl ?_
    refine it_V.putP it_cd141 it_m141 rfl (hk).1 rfl rfl rfl (Or.inl rfl) ?_
    refine it_V.at (pc1 := 77) (ls1 := [some (.ref k), some (.int x0), some (.int x1), some (.int x2), some (.int x3), some (.int x4), some (.int ((m k 14) * (5 : Int32)))]) (st1 := []) (mem1 := (it_sv (it_sv (it_sv (it_sv (it_sv (it_sv m (k + 3) (Int32.toNatClampNeg ((m k 14) * (5 : Int32))) x0) (k + 3) (Int32.toNatClampNeg (((m k 14) * (5 : Int32)) + (1 : Int32))) x1) (k + 3) (Int32.toNatClampNeg (((m k 14) * (5 : Int32)) + (2 : Int32))) x2) (k + 3) (Int32.toNatClampNeg (((m k 14) * (5 : Int32)) + (3 : Int32))) x3) (k + 3) (Int32.toNatClampNeg (((m k 14) * (5 : Int32)) + (4 : Int32))) x4) k 14 (((it_sv (it_sv (it_sv (it_sv (it_sv m (k + 3) (Int32.toNatClampNeg ((m k 14) * (5 : Int32))) x0) (k + 3) (Int32.toNatClampNeg (((m k 14) * (5 : Int32)) + (1 : Int32))) x1) (k + 3) (Int32.toNatClampNeg (((m k 14) * (5 : Int32)) + (2 : Int32))) x2) (k + 3) (Int32.toNatClampNeg (((m k 14) * (5 : Int32)) + (3 : Int32))) x3) (k + 3) (Int32.toNatClampNeg (((m k 14) * (5 : Int32)) + (4 : Int32))) x4) k 14) + (1 : Int32)))) rfl rfl rfl rfl ?_
    refine it_V.weak (l := [none, none, none, none, none, none, none]) trivial ?_
    exact s_141_77 kc Φ (it_sv (it_sv (it_sv (it_sv (it_sv (it_sv m (k + 3) (Int32.toNatClampNeg ((m k 14) * (5 : Int32))) x0) (k + 3) (Int32.toNatClampNeg (((m k 14) * (5 : Int32)) + (1 : Int32))) x1) (k + 3) (Int32.toNatClampNeg (((m k 14) * (5 : Int32)) + (2 : Int32))) x2) (k + 3) (Int32.toNatClampNeg (((m k 14) * (5 : Int32)) + (3 : Int32))) x3) (k + 3) (Int32.toNatClampNeg (((m k 14) * (5 : Int32)) + (4 : Int32))) x4) k 14 (((it_sv (it_sv (it_sv (it_sv (it_sv m (k + 3) (Int32.toNatClampNeg ((m k 14) * (5 : Int32))) x0) (k + 3) (Int32.toNatClampNeg (((m k 14) * (5 : Int32)) + (1 : Int32))) x1) (k + 3) (Int32.toNatClampNeg (((m k 14) * (5 : Int32)) + (2 : Int32))) x2) (k + 3) (Int32.toNatClampNeg (((m k 14) * (5 : Int32)) + (3 : Int32))) x3) (k + 3) (Int32.toNatClampNeg (((m k 14) * (5 : Int32)) + (4 : Int32))) x4) k 14) + (1 : Int32))) h
set_option maxRecDepth 100000 in
set_option maxHeartbeats 4000000 in
theorem s_80_168 (kc : it_Kc) (Φ : it_Me → Prop) (m : it_Me) (h : w_80_168 kc Φ m) : it_V kc it_sh0 80 168 [none, none, none, none, none, none, none, none] [] m (it_Pv Φ) := by
  rw [w_80_168] at h
  exact it_V.ret it_cd80 it_m80 rfl rfl ⟨rfl, h⟩
set_option maxRecDepth 100000 in
set_option maxHeartbeats 4000000 in
theorem s_80_48 (kc : it_Kc) (Φ : it_Me → Prop) (v1 : Nat) (v2 : Int32) (v3 : Int32) (v4 : Int32) (v5 : Int32) (v6 : Int32) (hv1 : it_isP v1) (m : it_Me) (h : w_80_48 kc Φ v1 v2 v3 v4 v5 v6 m) : it_V kc it_sh0 80 48 [some (.ref 9), some (.ref v1), some (.int v2), some (.int v3), some (.int v4), some (.int v5), some (.int v6), none] [] m (it_Pv Φ) := by
  rw [w_80_48] at h
  refine it_V.sN it_cd80 it_m80 6 (pc1 := 56) (ls1 := [some (.ref 9), some (.ref v1), some (.int v2), some (.int v3), some (.int v4), some (.int v5), some (.int v6), none]) (st1 := [(.int v3), (.int v2), (.ref v1), (.ref 9), (.ref 1)]) (mem1 := m) rfl ?_
  refine it_V.call it_cd80 it_m80 rfl it_m87 [(.ref 9), (.ref v1), (.int v2), (.int v3)] [(.ref 1)] rfl rfl ⟨Nat.le_of_ble_eq_true rfl, Nat.le_of_ble_eq_true rfl, Nat.le_of_ble_eq_true rfl, Nat.le_of_ble_eq_true rfl, rfl⟩ (s_87 kc v1 v2 v3 (hv1) m _ h) ?_
  rintro _ m2 ⟨r1, rfl, h⟩
  refine it_V.at (pc1 := 59) (ls1 := [some (.ref 9), some (.ref v1), some (.int v2), some (.int v3), some (.int v4), some (.int v5), some (.int v6), none]) (st1 := [(.int r1), (.ref 1)]) (mem1 := m2) rfl rfl rfl rfl ?_
  refine it_V.call it_cd80 it_m80 rfl it_m12 [(.ref 1), (.int r1)] [] rfl rfl ⟨Nat.le_of_ble_eq_true rfl, Nat.le_of_ble_eq_true rfl, Nat.le_of_ble_eq_true rfl, Nat.le_of_ble_eq_true rfl, rfl⟩ (s_12 kc r1 m2 _ h) ?_
  rintro _ m4 ⟨r3, rfl, h⟩
  refine it_V.at (pc1 := 62) (ls1 := [some (.ref 9), some (.ref v1), some (.int v2), some (.int v3), some (.int v4), some (.int v5), some (.int v6), none]) (st1 := [(.int r3)]) (mem1 := m4) rfl rfl rfl rfl ?_
  refine it_V.sN it_cd80 it_m80 1 (pc1 := (if r3 = 0 then 65 else 66)) (ls1 := [some (.ref 9), some (.ref v1), some (.int v2), some (.int v3), some (.int v4), some (.int v5), some (.int v6), none]) (st1 := []) (mem1 := m4) rfl ?_
  refine it_V.ite (fun c5 => ?_) (fun c5 => ?_)
  · have h := h.1 c5
    exact it_V.ret it_cd80 it_m80 rfl rfl ⟨rfl, h⟩
  · have h := h.2 c5
    refine it_V.sN it_cd80 it_m80 1 (pc1 := 67) (ls1 := [some (.ref 9), some (.ref v1), some (.int v2), some (.int v3), some (.int v4), some (.int v5), some (.int v6), none]) (st1 := [(.ref v1)]) (mem1 := m4) rfl ?_
    refine it_V.getP it_cd80 it_m80 rfl (hv1).1 rfl ?_
    refine it_V.at (pc1 := 70) (ls1 := [some (.ref 9), some (.ref v1), some (.int v2), some (.int v3), some (.int v4), some (.int v5), some (.int v6), none]) (st1 := [(.int (m4 v1 9))]) (mem1 := m4) rfl rfl rfl rfl ?_
    refine it_V.sN it_cd80 it_m80 2 (pc1 := (if (m4 v1 9) = (2 : Int32) then 74 else 97)) (ls1 := [some (.ref 9), some (.ref v1), some (.int v2), some (.int v3), some (.int v4), some (.int v5), some (.int v6), none]) (st1 := []) (mem1 := m4) rfl ?_
    refine it_V.ite (fun c6 => ?_) (fun c6 => ?_)
    · have h := h.1 c6
      refine it_V.sN it_cd80 it_m80 7 (pc1 := 84) (ls1 := [some (.ref 9), some (.ref v1), some (.int v2), some (.int v3), some (.int v4), some (.int v5), some (.int v6), none]) (st1 := [(.int v6), (.int v5), (.int v4), (.int v3), (.int v2), (.ref v1), (.ref 9)]) (mem1 := m4) rfl ?_
      refine it_V.call it_cd80 it_m80 rfl it_m83 [(.ref 9), (.ref v1), (.int v2), (.int v3), (.int v4), (.int v5), (.int v6)] [] rfl rfl ⟨Nat.le_of_ble_eq_true rfl, Nat.le_of_ble_eq_true rfl, Nat.le_of_ble_eq_true rfl, Nat.le_of_ble_eq_true rfl, rfl⟩ (s_83 kc v1 v2 v3 v4 v5 v6 (hv1) m4 _ h) ?_
      rintro _ m7 ⟨rfl, h⟩
      refine it_V.at (pc1 := 87) (ls1 := [some (.ref 9), some (.ref v1), some (.int v2), some (.int v3), some (.int v4), some (.int v5), some (.int v6), none]) (st1 := []) (mem1 := m7) rfl rfl rfl rfl ?_
      refine it_V.sN it_cd80 it_m80 4 (pc1 := 91) (ls1 := [some (.ref 9), some (.ref v1), some (.int v2), some (.int v3), some (.int v4), some (.int v5), some (.int v6), none]) (st1 := [(.int v3), (.int v2), (.ref v1), (.ref 9)]) (mem1 := m7) rfl ?_
      refine it_V.call it_cd80 it_m80 rfl it_m84 [(.ref 9), (.ref v1), (.int v2), (.int v3)] [] rfl rfl ⟨Nat.le_of_ble_eq_true rfl, Nat.le_of_ble_eq_true rfl, Nat.le_of_ble_eq_true rfl, Nat.le_of_ble_eq_true rfl, rfl⟩ (s_84 kc v1 v2 v3 (hv1) m7 _ h) ?_
      rintro _ m8 ⟨rfl, h⟩
      refine it_V.at (pc1 := 94) (ls1 := [some (.ref 9), some (.ref v1), some (.int v2), some (.int v3), some (.int v4), some (.int v5), some (.int v6), none]) (st1 := []) (mem1 := m8) rfl rfl rfl rfl ?_
      refine it_V.sN it_cd80 it_m80 1 (pc1 := 168) (ls1 := [some (.ref 9), some (.ref v1), some (.int v2), some (.int v3), some (.int v4), some (.int v5), some (.int v6), none]) (st1 := []) (mem1 := m8) rfl ?_
      refine it_V.weak (l := [none, none, none, none, none, none, none, none]) trivial ?_
      exact s_80_168 kc Φ m8 h
    · have h := h.2 c6
      refine it_V.sN it_cd80 it_m80 1 (pc1 := 98) (ls1 := [some (.ref 9), some (.ref v1), some (.int v2), some (.int v3), some (.int v4), some (.int v5), some (.int v6), none]) (st1 := [(.ref v1)]) (mem1 := m4) rfl ?_
      refine it_V.getP it_cd80 it_m80 rfl (hv1).1 rfl ?_
      refine it_V.at (pc1 := 101) (ls1 := [some (.ref 9), some (.ref v1), some (.int v2), some (.int v3), some (.int v4), some (.int v5), some (.int v6), none]) (st1 := [(.int (m4 v1 14))]) (mem1 := m4) rfl rfl rfl rfl ?_
      refine it_V.sN it_cd80 it_m80 2 (pc1 := (if (10 : Int32) ≤ (m4 v1 14) then 121 else 106)) (ls1 := [some (.ref 9), some (.ref v1), some (.int v2), some (.int v3), some (.int v4), some (.int v5), some (.int v6), none]) (st1 := []) (mem1 := m4) rfl ?_
      refine it_V.ite (fun c9 => ?_) (fun c9 => ?_)
      · have h := h.1 c9
        refine it_V.sN it_cd80 it_m80 1 (pc1 := 122) (ls1 := [some (.ref 9), some (.ref v1), some (.int v2), some (.int v3), some (.int v4), some (.int v5), some (.int v6), none]) (st1 := [(.ref v1)]) (mem1 := m4) rfl ?_
        refine it_V.call it_cd80 it_m80 rfl it_m129 [(.ref v1)] [] rfl rfl ⟨Nat.le_of_ble_eq_true rfl, Nat.le_of_ble_eq_true rfl, Nat.le_of_ble_eq_true rfl, Nat.le_of_ble_eq_true rfl, (it_recvP (hv1).1)⟩ (s_129 kc v1 (hv1) m4 _ h) ?_
        rintro _ m11 ⟨r10, rfl, h⟩
        refine it_V.at (pc1 := 125) (ls1 := [some (.ref 9), some (.ref v1), some (.int v2), some (.int v3), some (.int v4), some (.int v5), some (.int v6), none]) (st1 := [(.int r10)]) (mem1 := m11) rfl rfl rfl rfl ?_
        refine it_V.sN it_cd80 it_m80 9 (pc1 := 142) (ls1 := [some (.ref 9), some (.ref v1), some (.int v2), some (.int v3), some (.int v4), some (.int v5), some (.int v6), some (.int (r10 + (40 : Int32)))]) (st1 := [(.int (r10 + (40 : Int32))), (.ref 1), (.int (r10 + (40 : Int32))), (.ref 1)]) (mem1 := m11) rfl ?_
        refine it_V.call it_cd80 it_m80 rfl it_m12 [(.ref 1), (.int (r10 + (40 : Int32)))] [(.int (r10 + (40 : Int32))), (.ref 1)] rfl rfl ⟨Nat.le_of_ble_eq_true rfl, Nat.le_of_ble_eq_true rfl, Nat.le_of_ble_eq_true rfl, Nat.le_of_ble_eq_true rfl, rfl⟩ (s_12 kc (r10 + (40 : Int32)) m11 _ h) ?_
        rintro _ m13 ⟨r12, rfl, h⟩
        refine it_V.at (pc1 := 145) (ls1 := [some (.ref 9), some (.ref v1), some (.int v2), some (.int v3), some (.int v4), some (.int v5), some (.int v6), some (.int (r10 + (40 : Int32)))]) (st1 := [(.int r12), (.int (r10 + (40 : Int32))), (.ref 1)]) (mem1 := m13) rfl rfl rfl rfl ?_
        refine it_V.sN it_cd80 it_m80 2 (pc1 := 147) (ls1 := [some (.ref 9), some (.ref v1), some (.int v2), some (.int v3), some (.int v4), some (.int v5), some (.int v6), some (.int (r10 + (40 : Int32)))]) (st1 := [(.int (r12 + (1 : Int32))), (.int (r10 + (40 : Int32))), (.ref 1)]) (mem1 := m13) rfl ?_
        refine it_V.call it_cd80 it_m80 rfl it_m13 [(.ref 1), (.int (r10 + (40 : Int32))), (.int (r12 + (1 : Int32)))] [] rfl rfl ⟨Nat.le_of_ble_eq_true rfl, Nat.le_of_ble_eq_true rfl, Nat.le_of_ble_eq_true rfl, Nat.le_of_ble_eq_true rfl, rfl⟩ (s_13 kc (r10 + (40 : Int32)) (r12 + (1 : Int32)) m13 _ h) ?_
        rintro _ m14 ⟨rfl, h⟩
        refine it_V.at (pc1 := 150) (ls1 := [some (.ref 9), some (.ref v1), some (.int v2), some (.int v3), some (.int v4), some (.int v5), some (.int v6), some (.int (r10 + (40 : Int32)))]) (st1 := []) (mem1 := m14) rfl rfl rfl rfl ?_
        refine it_V.sN it_cd80 it_m80 3 (pc1 := 155) (ls1 := [some (.ref 9), some (.ref v1), some (.int v2), some (.int v3), some (.int v4), some (.int v5), some (.int v6), some (.int (r10 + (40 : Int32)))]) (st1 := [(.ref v1), (.ref 4)]) (mem1 := m14) rfl ?_
        refine it_V.getP it_cd80 it_m80 rfl (hv1).1 rfl ?_
        refine it_V.at (pc1 := 158) (ls1 := [some (.ref 9), some (.ref v1), some (.int v2), some (.int v3), some (.int v4), some (.int v5), some (.int v6), some (.int (r10 + (40 : Int32)))]) (st1 := [(.int (m14 v1 0)), (.ref 4)]) (mem1 := m14) rfl rfl rfl rfl ?_
        refine it_V.sN it_cd80 it_m80 6 (pc1 := 165) (ls1 := [some (.ref 9), some (.ref v1), some (.int v2), some (.int v3), some (.int v4), some (.int v5), some (.int v6), some (.int (r10 + (40 : Int32)))]) (st1 := [(.int (((16 : Int32) * v2) + v3)), (.int (5 : Int32)), (.int (m14 v1 0)), (.ref 4)]) (mem1 := m14) rfl ?_
        refine it_V.call it_cd80 it_m80 rfl it_m69 [(.ref 4), (.int (m14 v1 0)), (.int (5 : Int32)), (.int (((16 : Int32) * v2) + v3))] [] rfl rfl ⟨Nat.le_of_ble_eq_true rfl, Nat.le_of_ble_eq_true rfl, Nat.le_of_ble_eq_true rfl, Nat.le_of_ble_eq_true rfl, rfl⟩ (s_69 kc (m14 v1 0) (5 : Int32) (((16 : Int32) * v2) + v3) m14 _ h) ?_
        rintro _ m15 ⟨rfl, h⟩
        refine it_V.at (pc1 := 168) (ls1 := [some (.ref 9), some (.ref v1), some (.int v2), some (.int v3), some (.int v4), some (.int v5), some (.int v6), some (.int (r10 + (40 : Int32)))]) (st1 := []) (mem1 := m15) rfl rfl rfl rfl ?_
        refine it_V.weak (l := [none, none, none, none, none, none, none, none]) trivial ?_
        exact s_80_168 kc Φ m15 h
      · have h := h.2 c9
        refine it_V.sN it_cd80 it_m80 6 (pc1 := 115) (ls1 := [some (.ref 9), some (.ref v1), some (.int v2), some (.int v3), some (.int v4), some (.int v5), some (.int v6), none]) (st1 := [(.int v6), (.int v5), (.int v4), (.int v3), (.int v2), (.ref v1)]) (mem1 := m4) rfl ?_
        refine it_V.call it_cd80 it_m80 rfl it_m141 [(.ref v1), (.int v2), (.int v3), (.int v4), (.int v5), (.int v6)] [] rfl rfl ⟨Nat.le_of_ble_eq_true rfl, Nat.le_of_ble_eq_true rfl, Nat.le_of_ble_eq_true rfl, Nat.le_of_ble_eq_true rfl, (it_recvP (hv1).1)⟩ (s_141 kc v1 v2 v3 v4 v5 v6 (hv1) m4 _ h) ?_
        rintro _ m16 ⟨rfl, h⟩
        refine it_V.at (pc1 := 118) (ls1 := [some (.ref 9), some (.ref v1), some (.int v2), some (.int v3), some (.int v4), some (.int v5), some (.int v6), none]) (st1 := []) (mem1 := m16) rfl rfl rfl rfl ?_
        refine it_V.sN it_cd80 it_m80 1 (pc1 := 168) (ls1 := [some (.ref 9), some (.ref v1), some (.int v2), some (.int v3), some (.int v4), some (.int v5), some (.int v6), none]) (st1 := []) (mem1 := m16) rfl ?_
        refine it_V.weak (l := [none, none, none, none, none, none, none, none]) trivial ?_
        exact s_80_168 kc Φ m16 h
set_option maxRecDepth 100000 in
set_option maxHeartbeats 4000000 in
theorem s_80 (kc : it_Kc) (x0 : Nat) (x1 : Int32) (x2 : Int32) (x3 : Int32) (x4 : Int32) (x5 : Int32) (hx0 : it_isP x0) (m : it_Me) (Φ : it_Me → Prop) (h : w_80 kc x0 x1 x2 x3 x4 x5 m Φ) : it_V kc it_sh0 80 0 (it_loc0 [(.ref 9), (.ref x0), (.int x1), (.int x2), (.int x3), (.int x4), (.int x5)] 8) [] m (it_Pv Φ) := by
  rw [w_80] at h
  refine it_V.at (pc1 := 0) (ls1 := [some (.ref 9), some (.ref x0), some (.int x1), some (.int x2), some (.int x3), some (.int x4), some (.int x5), none]) (st1 := []) (mem1 := m) rfl rfl rfl rfl ?_
  refine it_V.sN it_cd80 it_m80 1 (pc1 := 1) (ls1 := [some (.ref 9), some (.ref x0), some (.int x1), some (.int x2), some (.int x3), some (.int x4), some (.int x5), none]) (st1 := [(.ref x0)]) (mem1 := m) rfl ?_
  refine it_V.call it_cd80 it_m80 rfl it_m131 [(.ref x0)] [] rfl rfl ⟨Nat.le_of_ble_eq_true rfl, Nat.le_of_ble_eq_true rfl, Nat.le_of_ble_eq_true rfl, Nat.le_of_ble_eq_true rfl, (it_recvP (hx0).1)⟩ (s_131 kc x0 (hx0) m _ h) ?_
  rintro _ m2 ⟨r1, rfl, h⟩
  refine it_V.at (pc1 := 4) (ls1 := [some (.ref 9), some (.ref x0), some (.int x1), some (.int x2), some (.int x3), some (.int x4), some (.int x5), none]) (st1 := [(.int r1)]) (mem1 := m2) rfl rfl rfl rfl ?_
  refine it_V.sN it_cd80 it_m80 1 (pc1 := (if r1 = 0 then 8 else 7)) (ls1 := [some (.ref 9), some (.ref x0), some (.int x1), some (.int x2), some (.int x3), some (.int x4), some (.int x5), none]) (st1 := []) (mem1 := m2) rfl ?_
  refine it_V.ite (fun c3 => ?_) (fun c3 => ?_)
  · have h := h.1 c3
    refine it_V.sN it_cd80 it_m80 1 (pc1 := 9) (ls1 := [some (.ref 9), some (.ref x0), some (.int x1), some (.int x2), some (.int x3), some (.int x4), some (.int x5), none]) (st1 := [(.ref x0)]) (mem1 := m2) rfl ?_
    refine it_V.getP it_cd80 it_m80 rfl (hx0).1 rfl ?_
    refine it_V.at (pc1 := 12) (ls1 := [some (.ref 9), some (.ref x0), some (.int x1), some (.int x2), some (.int x3), some (.int x4), some (.int x5), none]) (st1 := [(.int (m2 x0 9))]) (mem1 := m2) rfl rfl rfl rfl ?_
    refine it_V.sN it_cd80 it_m80 2 (pc1 := (if (m2 x0 9) = (3 : Int32) then 16 else 48)) (ls1 := [some (.ref 9), some (.ref x0), some (.int x1), some (.int x2), some (.int x3), some (.int x4), some (.int x5), none]) (st1 := []) (mem1 := m2) rfl ?_
    refine it_V.ite (fun c4 => ?_) (fun c4 => ?_)
    · have h := h.1 c4
      refine it_V.sN it_cd80 it_m80 1 (pc1 := 17) (ls1 := [some (.ref 9), some (.ref x0), some (.int x1), some (.int x2), some (.int x3), some (.int x4), some (.int x5), none]) (st1 := [(.ref x0)]) (mem1 := m2) rfl ?_
      refine it_V.getP it_cd80 it_m80 rfl (hx0).1 rfl ?_
      refine it_V.at (pc1 := 20) (ls1 := [some (.ref 9), some (.ref x0), some (.int x1), some (.int x2), some (.int x3), some (.int x4), some (.int x5), none]) (st1 := [(.int (m2 x0 15))]) (mem1 := m2) rfl rfl rfl rfl ?_
      refine it_V.sN it_cd80 it_m80 2 (pc1 := (if (m2 x0 15) = x1 then 24 else 48)) (ls1 := [some (.ref 9), some (.ref x0), some (.int x1), some (.int x2), some (.int x3), some (.int x4), some (.int x5), none]) (st1 := []) (mem1 := m2) rfl ?_
      refine it_V.ite (fun c5 => ?_) (fun c5 => ?_)
      · have h := h.1 c5
        refine it_V.sN it_cd80 it_m80 1 (pc1 := 25) (ls1 := [some (.ref 9), some (.ref x0), some (.int x1), some (.int x2), some (.int x3), some (.int x4), some (.int x5), none]) (st1 := [(.ref x0)]) (mem1 := m2) rfl ?_
        refine it_V.getP it_cd80 it_m80 rfl (hx0).1 rfl ?_
        refine it_V.at (pc1 := 28) (ls1 := [some (.ref 9), some (.ref x0), some (.int x1), some (.int x2), some (.int x3), some (.int x4), some (.int x5), none]) (st1 := [(.int (m2 x0 16))]) (mem1 := m2) rfl rfl rfl rfl ?_
        refine it_V.sN it_cd80 it_m80 2 (pc1 := (if (m2 x0 16) = x2 then 32 else 48)) (ls1 := [some (.ref 9), some (.ref x0), some (.int x1), some (.int x2), some (.int x3), some (.int x4), some (.int x5), none]) (st1 := []) (mem1 := m2) rfl ?_
        refine it_V.ite (fun c6 => ?_) (fun c6 => ?_)
        · have h := h.1 c6
          refine it_V.sN it_cd80 it_m80 7 (pc1 := 42) (ls1 := [some (.ref 9), some (.ref x0), some (.int x1), some (.int x2), some (.int x3), some (.int x4), some (.int x5), none]) (st1 := [(.int x5), (.int x4), (.int x3), (.int x2), (.int x1), (.ref x0), (.ref 9)]) (mem1 := m2) rfl ?_
          refine it_V.call it_cd80 it_m80 rfl it_m83 [(.ref 9), (.ref x0), (.int x1), (.int x2), (.int x3), (.int x4), (.int x5)] [] rfl rfl ⟨Nat.le_of_ble_eq_true rfl, Nat.le_of_ble_eq_true rfl, Nat.le_of_ble_eq_true rfl, Nat.le_of_ble_eq_true rfl, rfl⟩ (s_83 kc x0 x1 x2 x3 x4 x5 (hx0) m2 _ h) ?_
          rintro _ m7 ⟨rfl, h⟩
          refine it_V.at (pc1 := 45) (ls1 := [some (.ref 9), some (.ref x0), some (.int x1), some (.int x2), some (.int x3), some (.int x4), some (.int x5), none]) (st1 := []) (mem1 := m7) rfl rfl rfl rfl ?_
          refine it_V.sN it_cd80 it_m80 1 (pc1 := 168) (ls1 := [some (.ref 9), some (.ref x0), some (.int x1), some (.int x2), some (.int x3), some (.int x4), some (.int x5), none]) (st1 := []) (mem1 := m7) rfl ?_
          refine it_V.weak (l := [none, none, none, none, none, none, none, none]) trivial ?_
          exact s_80_168 kc Φ m7 h
        · have h := h.2 c6
          exact s_80_48 kc Φ x0 x1 x2 x3 x4 x5 (hx0) m2 h
      · have h := h.2 c5
        exact s_80_48 kc Φ x0 x1 x2 x3 x4 x5 (hx0) m2 h
    · have h := h.2 c4
      exact s_80_48 kc Φ x0 x1 x2 x3 x4 x5 (hx0) m2 h
  · have h := h.2 c3
    exact it_V.ret it_cd80 it_m80 rfl rfl ⟨rfl, h⟩
set_option maxRecDepth 100000 in
set_option maxHeartbeats 4000000 in
theorem s_51 (kc : it_Kc) (x0 : Nat) (x1 : Int32) (x2 : Int32) (hx0 : it_isP x0) (m : it_Me) (Φ : it_Me → Prop) (h : w_51 kc x0 x1 x2 m Φ) : it_V kc it_sh0 51 0 (it_loc0 [(.ref 59), (.ref x0), (.int x1), (.int x2)] 5) [] m (it_Pv Φ) := by
  rw [w_51] at h
  refine it_V.at (pc1 := 0) (ls1 := [some (.ref 59), some (.ref x0), some (.int x1), some (.int x2), none]) (st1 := []) (mem1 := m) rfl rfl rfl rfl ?_
  refine it_V.sN it_cd51 it_m51 5 (pc1 := 7) (ls1 := [some (.ref 59), some (.ref x0), some (.int x1), some (.int x2), none]) (st1 := [(.int (x1 + (4 : Int32))), (.ref 1)]) (mem1 := m) rfl ?_
  refine it_V.call it_cd51 it_m51 rfl it_m12 [(.ref 1), (.int (x1 + (4 : Int32)))] [] rfl rfl ⟨Nat.le_of_ble_eq_true rfl, Nat.le_of_ble_eq_true rfl, Nat.le_of_ble_eq_true rfl, Nat.le_of_ble_eq_true rfl, rfl⟩ (s_12 kc (x1 + (4 : Int32)) m _ h) ?_
  rintro _ m2 ⟨r1, rfl, h⟩
  refine it_V.at (pc1 := 10) (ls1 := [some (.ref 59), some (.ref x0), some (.int x1), some (.int x2), none]) (st1 := [(.int r1)]) (mem1 := m2) rfl rfl rfl rfl ?_
  refine it_V.sN it_cd51 it_m51 5 (pc1 := 18) (ls1 := [some (.ref 59), some (.ref x0), some (.int x1), some (.int x2), some (.int r1)]) (st1 := [(.int (0 : Int32)), (.int x1), (.ref 1)]) (mem1 := m2) rfl ?_
  refine it_V.call it_cd51 it_m51 rfl it_m13 [(.ref 1), (.int x1), (.int (0 : Int32))] [] rfl rfl ⟨Nat.le_of_ble_eq_true rfl, Nat.le_of_ble_eq_true rfl, Nat.le_of_ble_eq_true rfl, Nat.le_of_ble_eq_true rfl, rfl⟩ (s_13 kc x1 (0 : Int32) m2 _ h) ?_
  rintro _ m3 ⟨rfl, h⟩
  refine it_V.at (pc1 := 21) (ls1 := [some (.ref 59), some (.ref x0), some (.int x1), some (.int x2), some (.int r1)]) (st1 := []) (mem1 := m3) rfl rfl rfl rfl ?_
  refine it_V.sN it_cd51 it_m51 6 (pc1 := 29) (ls1 := [some (.ref 59), some (.ref x0), some (.int x1), some (.int x2), some (.int r1)]) (st1 := [(.int (0 : Int32)), (.int (x1 + (4 : Int32))), (.ref 1)]) (mem1 := m3) rfl ?_
  refine it_V.call it_cd51 it_m51 rfl it_m13 [(.ref 1), (.int (x1 + (4 : Int32))), (.int (0 : Int32))] [] rfl rfl ⟨Nat.le_of_ble_eq_true rfl, Nat.le_of_ble_eq_true rfl, Nat.le_of_ble_eq_true rfl, Nat.le_of_ble_eq_true rfl, rfl⟩ (s_13 kc (x1 + (4 : Int32)) (0 : Int32) m3 _ h) ?_
  rintro _ m4 ⟨rfl, h⟩
  refine it_V.at (pc1 := 32) (ls1 := [some (.ref 59), some (.ref x0), some (.int x1), some (.int x2), some (.int r1)]) (st1 := []) (mem1 := m4) rfl rfl rfl rfl ?_
  refine it_V.sN it_cd51 it_m51 8 (pc1 := 43) (ls1 := [some (.ref 59), some (.ref x0), some (.int x1), some (.int x2), some (.int r1)]) (st1 := [(.int (0 : Int32)), (.int r1), (.int x2), (.int (2 : Int32)), (.int (1 : Int32)), (.ref x0), (.ref 9)]) (mem1 := m4) rfl ?_
  refine it_V.call it_cd51 it_m51 rfl it_m80 [(.ref 9), (.ref x0), (.int (1 : Int32)), (.int (2 : Int32)), (.int x2), (.int r1), (.int (0 : Int32))] [] rfl rfl ⟨Nat.le_of_ble_eq_true rfl, Nat.le_of_ble_eq_true rfl, Nat.le_of_ble_eq_true rfl, Nat.le_of_ble_eq_true rfl, rfl⟩ (s_80 kc x0 (1 : Int32) (2 : Int32) x2 r1 (0 : Int32) (hx0) m4 _ h) ?_
  rintro _ m5 ⟨rfl, h⟩
  refine it_V.at (pc1 := 46) (ls1 := [some (.ref 59), some (.ref x0), some (.int x1), some (.int x2), some (.int r1)]) (st1 := []) (mem1 := m5) rfl rfl rfl rfl ?_
  exact it_V.ret it_cd51 it_m51 rfl rfl ⟨rfl, h⟩
set_option maxRecDepth 100000 in
set_option maxHeartbeats 4000000 in
theorem s_88 (kc : it_Kc) (x0 : Nat) (x1 : Int32) (x2 : Int32) (hx0 : it_isP x0) (m : it_Me) (Φ : Int32 → it_Me → Prop) (h : w_88 kc x0 x1 x2 m Φ) : it_V kc it_sh0 88 0 (it_loc0 [(.ref 9), (.ref x0), (.int x1), (.int x2)] 4) [] m (it_Pi Φ) := by
  rw [w_88] at h
  refine it_V.at (pc1 := 0) (ls1 := [some (.ref 9), some (.ref x0), some (.int x1), some (.int x2)]) (st1 := []) (mem1 := m) rfl rfl rfl rfl ?_
  refine it_V.sN it_cd88 it_m88 1 (pc1 := 1) (ls1 := [some (.ref 9), some (.ref x0), some (.int x1), some (.int x2)]) (st1 := [(.ref x0)]) (mem1 := m) rfl ?_
  refine it_V.getP it_cd88 it_m88 rfl (hx0).1 rfl ?_
  refine it_V.at (pc1 := 4) (ls1 := [some (.ref 9), some (.ref x0), some (.int x1), some (.int x2)]) (st1 := [(.ref (x0 + 4))]) (mem1 := m) rfl rfl rfl rfl ?_
  refine it_V.sN it_cd88 it_m88 1 (pc1 := 5) (ls1 := [some (.ref 9), some (.ref x0), some (.int x1), some (.int x2)]) (st1 := [(.int x1), (.ref (x0 + 4))]) (mem1 := m) rfl ?_
  obtain ⟨g1, h⟩ := h
  refine it_V.iald it_cd88 it_m88 rfl ((hx0).2.2.2.2).2 ((hx0).2.2.2.2).1 g1 ?_
  refine it_V.at (pc1 := 6) (ls1 := [some (.ref 9), some (.ref x0), some (.int x1), some (.int x2)]) (st1 := [(.int (m (x0 + 4) (Int32.toNatClampNeg x1)))]) (mem1 := m) rfl rfl rfl rfl ?_
  refine it_V.sN it_cd88 it_m88 4 (pc1 := 13) (ls1 := [some (.ref 9), some (.ref x0), some (.int x1), some (.int x2)]) (st1 := [(.int x1), (.ref (it_K + 2)), (.int (1 : Int32)), (.int (8 : Int32)), (.int (m (x0 + 4) (Int32.toNatClampNeg x1)))]) (mem1 := m) rfl ?_
  obtain ⟨g2, h⟩ := h
  refine it_V.kald it_cd88 it_m88 rfl (by decide) g2 ?_
  refine it_V.at (pc1 := 14) (ls1 := [some (.ref 9), some (.ref x0), some (.int x1), some (.int x2)]) (st1 := [(.int ((kc 2).2 (Int32.toNatClampNeg x1))), (.int (1 : Int32)), (.int (8 : Int32)), (.int (m (x0 + 4) (Int32.toNatClampNeg x1)))]) (mem1 := m) rfl rfl rfl rfl ?_
  refine it_V.sN it_cd88 it_m88 5 (pc1 := 19) (ls1 := [some (.ref 9), some (.ref x0), some (.int x1), some (.int x2)]) (st1 := [(.int ((m (x0 + 4) (Int32.toNatClampNeg x1)) + ((8 : Int32) * (((1 : Int32) + ((kc 2).2 (Int32.toNatClampNeg x1))) + x2))))]) (mem1 := m) rfl ?_
  exact it_V.ret it_cd88 it_m88 rfl rfl ⟨_, rfl, h⟩
set_option maxRecDepth 100000 in
set_option maxHeartbeats 4000000 in
theorem s_89 (kc : it_Kc) (x0 : Nat) (x1 : Int32) (x2 : Int32) (hx0 : it_isP x0) (m : it_Me) (Φ : Int32 → it_Me → Prop) (h : w_89 kc x0 x1 x2 m Φ) : it_V kc it_sh0 89 0 (it_loc0 [(.ref 9), (.ref x0), (.int x1), (.int x2)] 4) [] m (it_Pi Φ) := by
  rw [w_89] at h
  refine it_V.at (pc1 := 0) (ls1 := [some (.ref 9), some (.ref x0), some (.int x1), some (.int x2)]) (st1 := []) (mem1 := m) rfl rfl rfl rfl ?_
  refine it_V.sN it_cd89 it_m89 1 (pc1 := 1) (ls1 := [some (.ref 9), some (.ref x0), some (.int x1), some (.int x2)]) (st1 := [(.ref x0)]) (mem1 := m) rfl ?_
  refine it_V.getP it_cd89 it_m89 rfl (hx0).1 rfl ?_
  refine it_V.at (pc1 := 4) (ls1 := [some (.ref 9), some (.ref x0), some (.int x1), some (.int x2)]) (st1 := [(.ref (x0 + 4))]) (mem1 := m) rfl rfl rfl rfl ?_
  refine it_V.sN it_cd89 it_m89 1 (pc1 := 5) (ls1 := [some (.ref 9), some (.ref x0), some (.int x1), some (.int x2)]) (st1 := [(.int x1), (.ref (x0 + 4))]) (mem1 := m) rfl ?_
  obtain ⟨g1, h⟩ := h
  refine it_V.iald it_cd89 it_m89 rfl ((hx0).2.2.2.2).2 ((hx0).2.2.2.2).1 g1 ?_
  refine it_V.at (pc1 := 6) (ls1 := [some (.ref 9), some (.ref x0), some (.int x1), some (.int x2)]) (st1 := [(.int (m (x0 + 4) (Int32.toNatClampNeg x1)))]) (mem1 := m) rfl rfl rfl rfl ?_
  refine it_V.sN it_cd89 it_m89 4 (pc1 := 13) (ls1 := [some (.ref 9), some (.ref x0), some (.int x1), some (.int x2)]) (st1 := [(.int x1), (.ref (it_K + 2)), (.int (1 : Int32)), (.int (8 : Int32)), (.int (m (x0 + 4) (Int32.toNatClampNeg x1)))]) (mem1 := m) rfl ?_
  obtain ⟨g2, h⟩ := h
  refine it_V.kald it_cd89 it_m89 rfl (by decide) g2 ?_
  refine it_V.at (pc1 := 14) (ls1 := [some (.ref 9), some (.ref x0), some (.int x1), some (.int x2)]) (st1 := [(.int ((kc 2).2 (Int32.toNatClampNeg x1))), (.int (1 : Int32)), (.int (8 : Int32)), (.int (m (x0 + 4) (Int32.toNatClampNeg x1)))]) (mem1 := m) rfl rfl rfl rfl ?_
  refine it_V.sN it_cd89 it_m89 3 (pc1 := 19) (ls1 := [some (.ref 9), some (.ref x0), some (.int x1), some (.int x2)]) (st1 := [(.int x1), (.ref (it_K + 3)), (.int ((1 : Int32) + ((kc 2).2 (Int32.toNatClampNeg x1)))), (.int (8 : Int32)), (.int (m (x0 + 4) (Int32.toNatClampNeg x1)))]) (mem1 := m) rfl ?_
  obtain ⟨g3, h⟩ := h
  refine it_V.kald it_cd89 it_m89 rfl (by decide) g3 ?_
  refine it_V.at (pc1 := 20) (ls1 := [some (.ref 9), some (.ref x0), some (.int x1), some (.int x2)]) (st1 := [(.int ((kc 3).2 (Int32.toNatClampNeg x1))), (.int ((1 : Int32) + ((kc 2).2 (Int32.toNatClampNeg x1)))), (.int (8 : Int32)), (.int (m (x0 + 4) (Int32.toNatClampNeg x1)))]) (mem1 := m) rfl rfl rfl rfl ?_
  refine it_V.sN it_cd89 it_m89 5 (pc1 := 25) (ls1 := [some (.ref 9), some (.ref x0), some (.int x1), some (.int x2)]) (st1 := [(.int ((m (x0 + 4) (Int32.toNatClampNeg x1)) + ((8 : Int32) * ((((1 : Int32) + ((kc 2).2 (Int32.toNatClampNeg x1))) + ((kc 3).2 (Int32.toNatClampNeg x1))) + x2))))]) (mem1 := m) rfl ?_
  exact it_V.ret it_cd89 it_m89 rfl rfl ⟨_, rfl, h⟩
set_option maxRecDepth 100000 in
set_option maxHeartbeats 4000000 in
theorem s_214_13 (kc : it_Kc) (Φ : Int32 → it_Me → Prop) (u0 : Int32) (m : it_Me) (h : w_214_13 kc Φ u0 m) : it_V kc it_sh0 214 13 [none, none] [(.int u0)] m (it_Pi Φ) := by
  rw [w_214_13] at h
  exact it_V.ret it_cd214 it_m214 rfl rfl ⟨_, rfl, h⟩
set_option maxRecDepth 100000 in
set_option maxHeartbeats 4000000 in
theorem s_214 (kc : it_Kc) (x0 : Int32) (x1 : Int32) (m : it_Me) (Φ : Int32 → it_Me → Prop) (h : w_214 kc x0 x1 m Φ) : it_V kc it_sh0 214 0 (it_loc0 [(.int x0), (.int x1)] 2) [] m (it_Pi Φ) := by
  rw [w_214] at h
  refine it_V.at (pc1 := 0) (ls1 := [some (.int x0), some (.int x1)]) (st1 := []) (mem1 := m) rfl rfl rfl rfl ?_
  refine it_V.sN it_cd214 it_m214 2 (pc1 := 2) (ls1 := [some (.int x0), some (.int x1)]) (st1 := [(.int x1), (.int x0)]) (mem1 := m) rfl ?_
  refine it_V.call it_cd214 it_m214 rfl it_m213 [(.int x0), (.int x1)] [] rfl rfl ⟨Nat.le_of_ble_eq_true rfl, Nat.le_of_ble_eq_true rfl, Nat.le_of_ble_eq_true rfl, Nat.le_of_ble_eq_true rfl, rfl⟩ (s_213 kc x0 x1 m _ h) ?_
  rintro _ m2 ⟨r1, rfl, h⟩
  refine it_V.at (pc1 := 5) (ls1 := [some (.int x0), some (.int x1)]) (st1 := [(.int r1)]) (mem1 := m2) rfl rfl rfl rfl ?_
  refine it_V.sN it_cd214 it_m214 1 (pc1 := (if r1 = 0 then 12 else 8)) (ls1 := [some (.int x0), some (.int x1)]) (st1 := []) (mem1 := m2) rfl ?_
  refine it_V.ite (fun c3 => ?_) (fun c3 => ?_)
  · have h := h.1 c3
    refine it_V.sN it_cd214 it_m214 1 (pc1 := 13) (ls1 := [some (.int x0), some (.int x1)]) (st1 := [(.int x1)]) (mem1 := m2) rfl ?_
    refine it_V.weak (l := [none, none]) trivial ?_
    exact s_214_13 kc Φ x1 m2 h
  · have h := h.2 c3
    refine it_V.sN it_cd214 it_m214 2 (pc1 := 13) (ls1 := [some (.int x0), some (.int x1)]) (st1 := [(.int x0)]) (mem1 := m2) rfl ?_
    refine it_V.weak (l := [none, none]) trivial ?_
    exact s_214_13 kc Φ x0 m2 h
set_option maxRecDepth 100000 in
set_option maxHeartbeats 4000000 in
theorem s_45_156 (kc : it_Kc) (Φ : it_Me → Prop) (m : it_Me) (h : w_45_156 kc Φ m) : it_V kc it_sh0 45 156 [none, none, none, none, none] [] m (it_Pv Φ) := by
  rw [w_45_156] at h
  exact it_V.ret it_cd45 it_m45 rfl rfl ⟨rfl, h⟩
set_option maxRecDepth 100000 in
set_option maxHeartbeats 4000000 in
theorem s_45 (kc : it_Kc) (x0 : Nat) (x1 : Int32) (x2 : Int32) (hx0 : it_isP x0) (m : it_Me) (Φ : it_Me → Prop) (h : w_45 kc x0 x1 x2 m Φ) : it_V kc it_sh0 45 0 (it_loc0 [(.ref 59), (.ref x0), (.int x1), (.int x2)] 5) [] m (it_Pv Φ) := by
  rw [w_45] at h
  refine it_V.at (pc1 := 0) (ls1 := [some (.ref 59), some (.ref x0), some (.int x1), some (.int x2), none]) (st1 := []) (mem1 := m) rfl rfl rfl rfl ?_
  refine it_V.sN it_cd45 it_m45 4 (pc1 := 6) (ls1 := [some (.ref 59), some (.ref x0), some (.int x1), some (.int x2), none]) (st1 := [(.int (1 : Int32)), (.ref x0), (.ref 9)]) (mem1 := m) rfl ?_
  refine it_V.call it_cd45 it_m45 rfl it_m90 [(.ref 9), (.ref x0), (.int (1 : Int32))] [] rfl rfl ⟨Nat.le_of_ble_eq_true rfl, Nat.le_of_ble_eq_true rfl, Nat.le_of_ble_eq_true rfl, Nat.le_of_ble_eq_true rfl, rfl⟩ (s_90 kc x0 (1 : Int32) (hx0) m _ h) ?_
  rintro _ m2 ⟨r1, rfl, h⟩
  refine it_V.at (pc1 := 9) (ls1 := [some (.ref 59), some (.ref x0), some (.int x1), some (.int x2), none]) (st1 := [(.int r1)]) (mem1 := m2) rfl rfl rfl rfl ?_
  refine it_V.sN it_cd45 it_m45 2 (pc1 := 12) (ls1 := [some (.ref 59), some (.ref x0), some (.int x1), some (.int x2), some (.int r1)]) (st1 := [(.int x1)]) (mem1 := m2) rfl ?_
  refine it_V.sN it_cd45 it_m45 1 (pc1 := (if x1 = (1 : Int32) then 40 else (if x1 = (2 : Int32) then 77 else 117))) (ls1 := [some (.ref 59), some (.ref x0), some (.int x1), some (.int x2), some (.int r1)]) (st1 := []) (mem1 := m2) rfl ?_
  refine it_V.ite (fun c3 => ?_) (fun c3 => ?_)
  · have h := h.1 c3
    refine it_V.sN it_cd45 it_m45 11 (pc1 := 56) (ls1 := [some (.ref 59), some (.ref x0), some (.int x1), some (.int x2), some (.int r1)]) (st1 := [(.int (1 : Int32)), (.int (1 : Int32)), (.ref x0), (.ref 9), (.ref 1), (.int x2), (.int r1), (.ref x0), (.ref 59)]) (mem1 := m2) rfl ?_
    refine it_V.call it_cd45 it_m45 rfl it_m88 [(.ref 9), (.ref x0), (.int (1 : Int32)), (.int (1 : Int32))] [(.ref 1), (.int x2), (.int r1), (.ref x0), (.ref 59)] rfl rfl ⟨Nat.le_of_ble_eq_true rfl, Nat.le_of_ble_eq_true rfl, Nat.le_of_ble_eq_true rfl, Nat.le_of_ble_eq_true rfl, rfl⟩ (s_88 kc x0 (1 : Int32) (1 : Int32) (hx0) m2 _ h) ?_
    rintro _ m5 ⟨r4, rfl, h⟩
    refine it_V.at (pc1 := 59) (ls1 := [some (.ref 59), some (.ref x0), some (.int x1), some (.int x2), some (.int r1)]) (st1 := [(.int r4), (.ref 1), (.int x2), (.int r1), (.ref x0), (.ref 59)]) (mem1 := m5) rfl rfl rfl rfl ?_
    refine it_V.sN it_cd45 it_m45 2 (pc1 := 61) (ls1 := [some (.ref 59), some (.ref x0), some (.int x1), some (.int x2), some (.int r1)]) (st1 := [(.int (r4 + (4 : Int32))), (.ref 1), (.int x2), (.int r1), (.ref x0), (.ref 59)]) (mem1 := m5) rfl ?_
    refine it_V.call it_cd45 it_m45 rfl it_m12 [(.ref 1), (.int (r4 + (4 : Int32)))] [(.int x2), (.int r1), (.ref x0), (.ref 59)] rfl rfl ⟨Nat.le_of_ble_eq_true rfl, Nat.le_of_ble_eq_true rfl, Nat.le_of_ble_eq_true rfl, Nat.le_of_ble_eq_true rfl, rfl⟩ (s_12 kc (r4 + (4 : Int32)) m5 _ h) ?_
    rintro _ m7 ⟨r6, rfl, h⟩
    refine it_V.at (pc1 := 64) (ls1 := [some (.ref 59), some (.ref x0), some (.int x1), some (.int x2), some (.int r1)]) (st1 := [(.int r6), (.int x2), (.int r1), (.ref x0), (.ref 59)]) (mem1 := m7) rfl rfl rfl rfl ?_
    refine it_V.call it_cd45 it_m45 rfl it_m214 [(.int x2), (.int r6)] [(.int r1), (.ref x0), (.ref 59)] rfl rfl ⟨Nat.le_of_ble_eq_true rfl, Nat.le_of_ble_eq_true rfl, Nat.le_of_ble_eq_true rfl, Nat.le_of_ble_eq_true rfl, rfl⟩ (s_214 kc x2 r6 m7 _ h) ?_
    rintro _ m9 ⟨r8, rfl, h⟩
    refine it_V.at (pc1 := 67) (ls1 := [some (.ref 59), some (.ref x0), some (.int x1), some (.int x2), some (.int r1)]) (st1 := [(.int r8), (.int r1), (.ref x0), (.ref 59)]) (mem1 := m9) rfl rfl rfl rfl ?_
    refine it_V.sN it_cd45 it_m45 2 (pc1 := 71) (ls1 := [some (.ref 59), some (.ref x0), some (.int x1), some (.int x2), some (.int r1)]) (st1 := [(.ref 62), (.int r8), (.int r1), (.ref x0), (.ref 59)]) (mem1 := m9) rfl ?_
    refine it_V.call it_cd45 it_m45 rfl it_m46 [(.ref 59), (.ref x0), (.int r1), (.int r8), (.ref 62)] [] rfl rfl ⟨Nat.le_of_ble_eq_true rfl, Nat.le_of_ble_eq_true rfl, Nat.le_of_ble_eq_true rfl, Nat.le_of_ble_eq_true rfl, rfl⟩ (s_46 kc x0 r1 r8 62 (hx0) ((⟨rfl, by decide⟩ : it_isR 62 8)) m9 _ h) ?_
    rintro _ m10 ⟨rfl, h⟩
    refine it_V.at (pc1 := 74) (ls1 := [some (.ref 59), some (.ref x0), some (.int x1), some (.int x2), some (.int r1)]) (st1 := []) (mem1 := m10) rfl rfl rfl rfl ?_
    refine it_V.sN it_cd45 it_m45 1 (pc1 := 156) (ls1 := [some (.ref 59), some (.ref x0), some (.int x1), some (.int x2), some (.int r1)]) (st1 := []) (mem1 := m10) rfl ?_
    refine it_V.weak (l := [none, none, none, none, none]) trivial ?_
    exact s_45_156 kc Φ m10 h
  · have h := h.2 c3
    refine it_V.ite (fun c11 => ?_) (fun c11 => ?_)
    · have h := h.1 c11
      refine it_V.sN it_cd45 it_m45 13 (pc1 := 96) (ls1 := [some (.ref 59), some (.ref x0), some (.int x1), some (.int x2), some (.int r1)]) (st1 := [(.int (1 : Int32)), (.int (1 : Int32)), (.ref x0), (.ref 9), (.ref 1), (.int x2), (.int (r1 + (8 : Int32))), (.ref x0), (.ref 59)]) (mem1 := m2) rfl ?_
      refine it_V.call it_cd45 it_m45 rfl it_m89 [(.ref 9), (.ref x0), (.int (1 : Int32)), (.int (1 : Int32))] [(.ref 1), (.int x2), (.int (r1 + (8 : Int32))), (.ref x0), (.ref 59)] rfl rfl ⟨Nat.le_of_ble_eq_true rfl, Nat.le_of_ble_eq_true rfl, Nat.le_of_ble_eq_true rfl, Nat.le_of_ble_eq_true rfl, rfl⟩ (s_89 kc x0 (1 : Int32) (1 : Int32) (hx0) m2 _ h) ?_
      rintro _ m13 ⟨r12, rfl, h⟩
      refine it_V.at (pc1 := 99) (ls1 := [some (.ref 59), some (.ref x0), some (.int x1), some (.int x2), some (.int r1)]) (st1 := [(.int r12), (.ref 1), (.int x2), (.int (r1 + (8 : Int32))), (.ref x0), (.ref 59)]) (mem1 := m13) rfl rfl rfl rfl ?_
      refine it_V.sN it_cd45 it_m45 2 (pc1 := 101) (ls1 := [some (.ref 59), some (.ref x0), some (.int x1), some (.int x2), some (.int r1)]) (st1 := [(.int (r12 + (4 : Int32))), (.ref 1), (.int x2), (.int (r1 + (8 : Int32))), (.ref x0), (.ref 59)]) (mem1 := m13) rfl ?_
      refine it_V.call it_cd45 it_m45 rfl it_m12 [(.ref 1), (.int (r12 + (4 : Int32)))] [(.int x2), (.int (r1 + (8 : Int32))), (.ref x0), (.ref 59)] rfl rfl ⟨Nat.le_of_ble_eq_true rfl, Nat.le_of_ble_eq_true rfl, Nat.le_of_ble_eq_true rfl, Nat.le_of_ble_eq_true rfl, rfl⟩ (s_12 kc (r12 + (4 : Int32)) m13 _ h) ?_
      rintro _ m15 ⟨r14, rfl, h⟩
      refine it_V.at (pc1 := 104) (ls1 := [some (.ref 59), some (.ref x0), some (.int x1), some (.int x2), some (.int r1)]) (st1 := [(.int r14), (.int x2), (.int (r1 + (8 : Int32))), (.ref x0), (.ref 59)]) (mem1 := m15) rfl rfl rfl rfl ?_
      refine it_V.call it_cd45 it_m45 rfl it_m214 [(.int x2), (.int r14)] [(.int (r1 + (8 : Int32))), (.ref x0), (.ref 59)] rfl rfl ⟨Nat.le_of_ble_eq_true rfl, Nat.le_of_ble_eq_true rfl, Nat.le_of_ble_eq_true rfl, Nat.le_of_ble_eq_true rfl, rfl⟩ (s_214 kc x2 r14 m15 _ h) ?_
      rintro _ m17 ⟨r16, rfl, h⟩
      refine it_V.at (pc1 := 107) (ls1 := [some (.ref 59), some (.ref x0), some (.int x1), some (.int x2), some (.int r1)]) (st1 := [(.int r16), (.int (r1 + (8 : Int32))), (.ref x0), (.ref 59)]) (mem1 := m17) rfl rfl rfl rfl ?_
      refine it_V.sN it_cd45 it_m45 2 (pc1 := 111) (ls1 := [some (.ref 59), some (.ref x0), some (.int x1), some (.int x2), some (.int r1)]) (st1 := [(.ref 63), (.int r16), (.int (r1 + (8 : Int32))), (.ref x0), (.ref 59)]) (mem1 := m17) rfl ?_
      refine it_V.call it_cd45 it_m45 rfl it_m46 [(.ref 59), (.ref x0), (.int (r1 + (8 : Int32))), (.int r16), (.ref 63)] [] rfl rfl ⟨Nat.le_of_ble_eq_true rfl, Nat.le_of_ble_eq_true rfl, Nat.le_of_ble_eq_true rfl, Nat.le_of_ble_eq_true rfl, rfl⟩ (s_46 kc x0 (r1 + (8 : Int32)) r16 63 (hx0) ((⟨rfl, by decide⟩ : it_isR 63 8)) m17 _ h) ?_
      rintro _ m18 ⟨rfl, h⟩
      refine it_V.at (pc1 := 114) (ls1 := [some (.ref 59), some (.ref x0), some (.int x1), some (.int x2), some (.int r1)]) (st1 := []) (mem1 := m18) rfl rfl rfl rfl ?_
      refine it_V.sN it_cd45 it_m45 1 (pc1 := 156) (ls1 := [some (.ref 59), some (.ref x0), some (.int x1), some (.int x2), some (.int r1)]) (st1 := []) (mem1 := m18) rfl ?_
      refine it_V.weak (l := [none, none, none, none, none]) trivial ?_
      exact s_45_156 kc Φ m18 h
    · have h := h.2 c11
      refine it_V.sN it_cd45 it_m45 5 (pc1 := 126) (ls1 := [some (.ref 59), some (.ref x0), some (.int x1), some (.int x2), some (.int r1)]) (st1 := [(.int (r1 + (8 : Int32))), (.ref 1)]) (mem1 := m2) rfl ?_
      refine it_V.call it_cd45 it_m45 rfl it_m12 [(.ref 1), (.int (r1 + (8 : Int32)))] [] rfl rfl ⟨Nat.le_of_ble_eq_true rfl, Nat.le_of_ble_eq_true rfl, Nat.le_of_ble_eq_true rfl, Nat.le_of_ble_eq_true rfl, rfl⟩ (s_12 kc (r1 + (8 : Int32)) m2 _ h) ?_
      rintro _ m20 ⟨r19, rfl, h⟩
      refine it_V.at (pc1 := 129) (ls1 := [some (.ref 59), some (.ref x0), some (.int x1), some (.int x2), some (.int r1)]) (st1 := [(.int r19)]) (mem1 := m20) rfl rfl rfl rfl ?_
      refine it_V.sN it_cd45 it_m45 1 (pc1 := (if r19 = 0 then 132 else 140)) (ls1 := [some (.ref 59), some (.ref x0), some (.int x1), some (.int x2), some (.int r1)]) (st1 := []) (mem1 := m20) rfl ?_
      refine it_V.ite (fun c21 => ?_) (fun c21 => ?_)
      · have h := h.1 c21
        refine it_V.sN it_cd45 it_m45 2 (pc1 := 134) (ls1 := [some (.ref 59), some (.ref x0), some (.int x1), some (.int x2), some (.int r1)]) (st1 := [(.int (3 : Int32)), (.ref x0)]) (mem1 := m20) rfl ?_
        refine it_V.call it_cd45 it_m45 rfl it_m136 [(.ref x0), (.int (3 : Int32))] [] rfl rfl ⟨Nat.le_of_ble_eq_true rfl, Nat.le_of_ble_eq_true rfl, Nat.le_of_ble_eq_true rfl, Nat.le_of_ble_eq_true rfl, (it_recvP (hx0).1)⟩ (s_136 kc x0 (3 : Int32) (hx0) m20 _ h) ?_
        rintro _ m22 ⟨rfl, h⟩
        refine it_V.at (pc1 := 137) (ls1 := [some (.ref 59), some (.ref x0), some (.int x1), some (.int x2), some (.int r1)]) (st1 := []) (mem1 := m22) rfl rfl rfl rfl ?_
        refine it_V.sN it_cd45 it_m45 1 (pc1 := 156) (ls1 := [some (.ref 59), some (.ref x0), some (.int x1), some (.int x2), some (.int r1)]) (st1 := []) (mem1 := m22) rfl ?_
        refine it_V.weak (l := [none, none, none, none, none]) trivial ?_
        exact s_45_156 kc Φ m22 h
      · have h := h.2 c21
        refine it_V.sN it_cd45 it_m45 6 (pc1 := 149) (ls1 := [some (.ref 59), some (.ref x0), some (.int x1), some (.int x2), some (.int r1)]) (st1 := [(.int (8 : Int32)), (.int (r1 + (8 : Int32))), (.ref x0), (.ref 59)]) (mem1 := m20) rfl ?_
        refine it_V.call it_cd45 it_m45 rfl it_m51 [(.ref 59), (.ref x0), (.int (r1 + (8 : Int32))), (.int (8 : Int32))] [] rfl rfl ⟨Nat.le_of_ble_eq_true rfl, Nat.le_of_ble_eq_true rfl, Nat.le_of_ble_eq_true rfl, Nat.le_of_ble_eq_true rfl, rfl⟩ (s_51 kc x0 (r1 + (8 : Int32)) (8 : Int32) (hx0) m20 _ h) ?_
        rintro _ m23 ⟨rfl, h⟩
        refine it_V.at (pc1 := 152) (ls1 := [some (.ref 59), some (.ref x0), some (.int x1), some (.int x2), some (.int r1)]) (st1 := []) (mem1 := m23) rfl rfl rfl rfl ?_
        refine it_V.sN it_cd45 it_m45 1 (pc1 := 153) (ls1 := [some (.ref 59), some (.ref x0), some (.int x1), some (.int x2), some (.int r1)]) (st1 := [(.ref x0)]) (mem1 := m23) rfl ?_
        refine it_V.call it_cd45 it_m45 rfl it_m138 [(.ref x0)] [] rfl rfl ⟨Nat.le_of_ble_eq_true rfl, Nat.le_of_ble_eq_true rfl, Nat.le_of_ble_eq_true rfl, Nat.le_of_ble_eq_true rfl, (it_recvP (hx0).1)⟩ (s_138 kc x0 (hx0) m23 _ h) ?_
        rintro _ m24 ⟨rfl, h⟩
        refine it_V.at (pc1 := 156) (ls1 := [some (.ref 59), some (.ref x0), some (.int x1), some (.int x2), some (.int r1)]) (st1 := []) (mem1 := m24) rfl rfl rfl rfl ?_
        refine it_V.weak (l := [none, none, none, none, none]) trivial ?_
        exact s_45_156 kc Φ m24 h
set_option maxRecDepth 100000 in
set_option maxHeartbeats 4000000 in
theorem s_52_9 (kc : it_Kc) (Φ : it_Me → Prop) (v1 : Nat) (hv1 : it_isP v1) (m : it_Me) (h : w_52_9 kc Φ v1 m) : it_V kc it_sh0 52 9 [none, some (.ref v1), none, none, none] [] m (it_Pv Φ) := by
  rw [w_52_9] at h
  refine it_V.sN it_cd52 it_m52 2 (pc1 := 12) (ls1 := [none, some (.ref v1), none, none, none]) (st1 := [(.int (6 : Int32)), (.ref v1)]) (mem1 := m) rfl ?_
  refine it_V.call it_cd52 it_m52 rfl it_m136 [(.ref v1), (.int (6 : Int32))] [] rfl rfl ⟨Nat.le_of_ble_eq_true rfl, Nat.le_of_ble_eq_true rfl, Nat.le_of_ble_eq_true rfl, Nat.le_of_ble_eq_true rfl, (it_recvP (hv1).1)⟩ (s_136 kc v1 (6 : Int32) (hv1) m _ h) ?_
  rintro _ m1 ⟨rfl, h⟩
  refine it_V.at (pc1 := 15) (ls1 := [none, some (.ref v1), none, none, none]) (st1 := []) (mem1 := m1) rfl rfl rfl rfl ?_
  exact it_V.ret it_cd52 it_m52 rfl rfl ⟨rfl, h⟩
set_option maxRecDepth 100000 in
set_option maxHeartbeats 4000000 in
theorem s_52_72 (kc : it_Kc) (Φ : it_Me → Prop) (v1 : Nat) (hv1 : it_isP v1) (m : it_Me) (h : w_52_72 kc Φ v1 m) : it_V kc it_sh0 52 72 [none, some (.ref v1), none, none, none] [] m (it_Pv Φ) := by
  rw [w_52_72] at h
  refine it_V.sN it_cd52 it_m52 1 (pc1 := 73) (ls1 := [none, some (.ref v1), none, none, none]) (st1 := [(.ref v1)]) (mem1 := m) rfl ?_
  refine it_V.call it_cd52 it_m52 rfl it_m138 [(.ref v1)] [] rfl rfl ⟨Nat.le_of_ble_eq_true rfl, Nat.le_of_ble_eq_true rfl, Nat.le_of_ble_eq_true rfl, Nat.le_of_ble_eq_true rfl, (it_recvP (hv1).1)⟩ (s_138 kc v1 (hv1) m _ h) ?_
  rintro _ m1 ⟨rfl, h⟩
  refine it_V.at (pc1 := 76) (ls1 := [none, some (.ref v1), none, none, none]) (st1 := []) (mem1 := m1) rfl rfl rfl rfl ?_
  exact it_V.ret it_cd52 it_m52 rfl rfl ⟨rfl, h⟩
set_option maxRecDepth 100000 in
set_option maxHeartbeats 4000000 in
theorem s_52 (kc : it_Kc) (x0 : Nat) (x1 : Int32) (x2 : Int32) (hx0 : it_isP x0) (m : it_Me) (Φ : it_Me → Prop) (h : w_52 kc x0 x1 x2 m Φ) : it_V kc it_sh0 52 0 (it_loc0 [(.ref 59), (.ref x0), (.int x1), (.int x2)] 5) [] m (it_Pv Φ) := by
  rw [w_52] at h
  refine it_V.at (pc1 := 0) (ls1 := [some (.ref 59), some (.ref x0), some (.int x1), some (.int x2), none]) (st1 := []) (mem1 := m) rfl rfl rfl rfl ?_
  refine it_V.sN it_cd52 it_m52 2 (pc1 := (if x2 < 0 then 9 else 4)) (ls1 := [some (.ref 59), some (.ref x0), some (.int x1), some (.int x2), none]) (st1 := []) (mem1 := m) rfl ?_
  refine it_V.ite (fun c1 => ?_) (fun c1 => ?_)
  · have h := h.1 c1
    refine it_V.weak (l := [none, some (.ref x0), none, none, none]) ⟨rfl, trivial⟩ ?_
    exact s_52_9 kc Φ x0 (hx0) m h
  · have h := h.2 c1
    refine it_V.sN it_cd52 it_m52 3 (pc1 := (if x2 ≤ (3 : Int32) then 16 else 9)) (ls1 := [some (.ref 59), some (.ref x0), some (.int x1), some (.int x2), none]) (st1 := []) (mem1 := m) rfl ?_
    refine it_V.ite (fun c2 => ?_) (fun c2 => ?_)
    · have h := h.1 c2
      refine it_V.sN it_cd52 it_m52 7 (pc1 := (if x1 = (1 : Int32) then 26 else 40)) (ls1 := [some (.ref 59), some (.ref x0), some (.int x1), some (.int x2), some (.int (it_shl (1 : Int32) x2))]) (st1 := []) (mem1 := m) rfl ?_
      refine it_V.ite (fun c3 => ?_) (fun c3 => ?_)
      · have h := h.1 c3
        refine it_V.sN it_cd52 it_m52 7 (pc1 := 72) (ls1 := [some (.ref 59), some (.ref x0), some (.int x1), some (.int x2), some (.int (it_shl (1 : Int32) x2))]) (st1 := []) (mem1 := (it_sv m 59 4 ((m 59 4) ||| (it_shl (1 : Int32) x2)))) rfl ?_
        refine it_V.weak (l := [none, some (.ref x0), none, none, none]) ⟨rfl, trivial⟩ ?_
        exact s_52_72 kc Φ x0 (hx0) (it_sv m 59 4 ((m 59 4) ||| (it_shl (1 : Int32) x2))) h
      · have h := h.2 c3
        refine it_V.sN it_cd52 it_m52 3 (pc1 := (if x1 = (2 : Int32) then 45 else 61)) (ls1 := [some (.ref 59), some (.ref x0), some (.int x1), some (.int x2), some (.int (it_shl (1 : Int32) x2))]) (st1 := []) (mem1 := m) rfl ?_
        refine it_V.ite (fun c4 => ?_) (fun c4 => ?_)
        · have h := h.1 c4
          refine it_V.sN it_cd52 it_m52 9 (pc1 := 72) (ls1 := [some (.ref 59), some (.ref x0), some (.int x1), some (.int x2), some (.int (it_shl (1 : Int32) x2))]) (st1 := []) (mem1 := (it_sv m 59 4 ((m 59 4) &&& ((it_shl (1 : Int32) x2) ^^^ (-1 : Int32))))) rfl ?_
          refine it_V.weak (l := [none, some (.ref x0), none, none, none]) ⟨rfl, trivial⟩ ?_
          exact s_52_72 kc Φ x0 (hx0) (it_sv m 59 4 ((m 59 4) &&& ((it_shl (1 : Int32) x2) ^^^ (-1 : Int32)))) h
        · have h := h.2 c4
          refine it_V.sN it_cd52 it_m52 6 (pc1 := 72) (ls1 := [some (.ref 59), some (.ref x0), some (.int x1), some (.int x2), some (.int (it_shl (1 : Int32) x2))]) (st1 := []) (mem1 := (it_sv m 59 4 ((m 59 4) ^^^ (it_shl (1 : Int32) x2)))) rfl ?_
          refine it_V.weak (l := [none, some (.ref x0), none, none, none]) ⟨rfl, trivial⟩ ?_
          exact s_52_72 kc Φ x0 (hx0) (it_sv m 59 4 ((m 59 4) ^^^ (it_shl (1 : Int32) x2))) h
    · have h := h.2 c2
      refine it_V.weak (l := [none, some (.ref x0), none, none, none]) ⟨rfl, trivial⟩ ?_
      exact s_52_9 kc Φ x0 (hx0) m h
set_option maxRecDepth 100000 in
set_option maxHeartbeats 4000000 in
theorem s_53_9 (kc : it_Kc) (Φ : it_Me → Prop) (v1 : Nat) (hv1 : it_isP v1) (m : it_Me) (h : w_53_9 kc Φ v1 m) : it_V kc it_sh0 53 9 [none, some (.ref v1), none, none, none, none, none] [] m (it_Pv Φ) := by
  rw [w_53_9] at h
  refine it_V.sN it_cd53 it_m53 2 (pc1 := 12) (ls1 := [none, some (.ref v1), none, none, none, none, none]) (st1 := [(.int (6 : Int32)), (.ref v1)]) (mem1 := m) rfl ?_
  refine it_V.call it_cd53 it_m53 rfl it_m136 [(.ref v1), (.int (6 : Int32))] [] rfl rfl ⟨Nat.le_of_ble_eq_true rfl, Nat.le_of_ble_eq_true rfl, Nat.le_of_ble_eq_true rfl, Nat.le_of_ble_eq_true rfl, (it_recvP (hv1).1)⟩ (s_136 kc v1 (6 : Int32) (hv1) m _ h) ?_
  rintro _ m1 ⟨rfl, h⟩
  refine it_V.at (pc1 := 15) (ls1 := [none, some (.ref v1), none, none, none, none, none]) (st1 := []) (mem1 := m1) rfl rfl rfl rfl ?_
  exact it_V.ret it_cd53 it_m53 rfl rfl ⟨rfl, h⟩
set_option maxRecDepth 100000 in
set_option maxHeartbeats 4000000 in
theorem s_53_96 (kc : it_Kc) (Φ : it_Me → Prop) (m : it_Me) (h : w_53_96 kc Φ m) : it_V kc it_sh0 53 96 [none, none, none, none, none, none, none] [] m (it_Pv Φ) := by
  rw [w_53_96] at h
  exact it_V.ret it_cd53 it_m53 rfl rfl ⟨rfl, h⟩
set_option maxRecDepth 100000 in
set_option maxHeartbeats 4000000 in
theorem s_53_89 (kc : it_Kc) (Φ : it_Me → Prop) (v1 : Nat) (u1 : Int32) (u2 : Int32) (hv1 : it_isP v1) (m : it_Me) (h : w_53_89 kc Φ v1 u1 u2 m) : it_V kc it_sh0 53 89 [none, some (.ref v1), none, none, none, none, none] [(.int u2), (.int u1), (.ref 1)] m (it_Pv Φ) := by
  rw [w_53_89] at h
  refine it_V.call it_cd53 it_m53 rfl it_m13 [(.ref 1), (.int u1), (.int u2)] [] rfl rfl ⟨Nat.le_of_ble_eq_true rfl, Nat.le_of_ble_eq_true rfl, Nat.le_of_ble_eq_true rfl, Nat.le_of_ble_eq_true rfl, rfl⟩ (s_13 kc u1 u2 m _ h) ?_
  rintro _ m1 ⟨rfl, h⟩
  refine it_V.at (pc1 := 92) (ls1 := [none, some (.ref v1), none, none, none, none, none]) (st1 := []) (mem1 := m1) rfl rfl rfl rfl ?_
  refine it_V.sN it_cd53 it_m53 1 (pc1 := 93) (ls1 := [none, some (.ref v1), none, none, none, none, none]) (st1 := [(.ref v1)]) (mem1 := m1) rfl ?_
  refine it_V.call it_cd53 it_m53 rfl it_m138 [(.ref v1)] [] rfl rfl ⟨Nat.le_of_ble_eq_true rfl, Nat.le_of_ble_eq_true rfl, Nat.le_of_ble_eq_true rfl, Nat.le_of_ble_eq_true rfl, (it_recvP (hv1).1)⟩ (s_138 kc v1 (hv1) m1 _ h) ?_
  rintro _ m2 ⟨rfl, h⟩
  refine it_V.at (pc1 := 96) (ls1 := [none, some (.ref v1), none, none, none, none, none]) (st1 := []) (mem1 := m2) rfl rfl rfl rfl ?_
  refine it_V.weak (l := [none, none, none, none, none, none, none]) trivial ?_
  exact s_53_96 kc Φ m2 h
set_option maxRecDepth 100000 in
set_option maxHeartbeats 4000000 in
theorem s_53 (kc : it_Kc) (x0 : Nat) (x1 : Int32) (x2 : Int32) (hx0 : it_isP x0) (m : it_Me) (Φ : it_Me → Prop) (h : w_53 kc x0 x1 x2 m Φ) : it_V kc it_sh0 53 0 (it_loc0 [(.ref 59), (.ref x0), (.int x1), (.int x2)] 7) [] m (it_Pv Φ) := by
  rw [w_53] at h
  refine it_V.at (pc1 := 0) (ls1 := [some (.ref 59), some (.ref x0), some (.int x1), some (.int x2), none, none, none]) (st1 := []) (mem1 := m) rfl rfl rfl rfl ?_
  refine it_V.sN it_cd53 it_m53 2 (pc1 := (if x2 < 0 then 9 else 4)) (ls1 := [some (.ref 59), some (.ref x0), some (.int x1), some (.int x2), none, none, none]) (st1 := []) (mem1 := m) rfl ?_
  refine it_V.ite (fun c1 => ?_) (fun c1 => ?_)
  · have h := h.1 c1
    refine it_V.weak (l := [none, some (.ref x0), none, none, none, none, none]) ⟨rfl, trivial⟩ ?_
    exact s_53_9 kc Φ x0 (hx0) m h
  · have h := h.2 c1
    refine it_V.sN it_cd53 it_m53 3 (pc1 := (if x2 ≤ (3 : Int32) then 16 else 9)) (ls1 := [some (.ref 59), some (.ref x0), some (.int x1), some (.int x2), none, none, none]) (st1 := []) (mem1 := m) rfl ?_
    refine it_V.ite (fun c2 => ?_) (fun c2 => ?_)
    · have h := h.1 c2
      refine it_V.sN it_cd53 it_m53 4 (pc1 := 22) (ls1 := [some (.ref 59), some (.ref x0), some (.int x1), some (.int x2), none, none, none]) (st1 := [(.int (3 : Int32)), (.ref x0), (.ref 9)]) (mem1 := m) rfl ?_
      refine it_V.call it_cd53 it_m53 rfl it_m90 [(.ref 9), (.ref x0), (.int (3 : Int32))] [] rfl rfl ⟨Nat.le_of_ble_eq_true rfl, Nat.le_of_ble_eq_true rfl, Nat.le_of_ble_eq_true rfl, Nat.le_of_ble_eq_true rfl, rfl⟩ (s_90 kc x0 (3 : Int32) (hx0) m _ h) ?_
      rintro _ m4 ⟨r3, rfl, h⟩
      refine it_V.at (pc1 := 25) (ls1 := [some (.ref 59), some (.ref x0), some (.int x1), some (.int x2), none, none, none]) (st1 := [(.int r3)]) (mem1 := m4) rfl rfl rfl rfl ?_
      refine it_V.sN it_cd53 it_m53 8 (pc1 := (if x1 = (3 : Int32) then 37 else 52)) (ls1 := [some (.ref 59), some (.ref x0), some (.int x1), some (.int x2), some (.int r3), some (.int (it_shl (1 : Int32) x2)), none]) (st1 := []) (mem1 := m4) rfl ?_
      refine it_V.ite (fun c5 => ?_) (fun c5 => ?_)
      · have h := h.1 c5
        refine it_V.sN it_cd53 it_m53 7 (pc1 := 46) (ls1 := [some (.ref 59), some (.ref x0), some (.int x1), some (.int x2), some (.int r3), some (.int (it_shl (1 : Int32) x2)), none]) (st1 := [(.int ((it_us (m4 59 5) x2) &&& (1 : Int32))), (.ref x0)]) (mem1 := m4) rfl ?_
        refine it_V.call it_cd53 it_m53 rfl it_m139 [(.ref x0), (.int ((it_us (m4 59 5) x2) &&& (1 : Int32)))] [] rfl rfl ⟨Nat.le_of_ble_eq_true rfl, Nat.le_of_ble_eq_true rfl, Nat.le_of_ble_eq_true rfl, Nat.le_of_ble_eq_true rfl, (it_recvP (hx0).1)⟩ (s_139 kc x0 ((it_us (m4 59 5) x2) &&& (1 : Int32)) (hx0) m4 _ h) ?_
        rintro _ m6 ⟨rfl, h⟩
        refine it_V.at (pc1 := 49) (ls1 := [some (.ref 59), some (.ref x0), some (.int x1), some (.int x2), some (.int r3), some (.int (it_shl (1 : Int32) x2)), none]) (st1 := []) (mem1 := m6) rfl rfl rfl rfl ?_
        refine it_V.sN it_cd53 it_m53 1 (pc1 := 96) (ls1 := [some (.ref 59), some (.ref x0), some (.int x1), some (.int x2), some (.int r3), some (.int (it_shl (1 : Int32) x2)), none]) (st1 := []) (mem1 := m6) rfl ?_
        refine it_V.weak (l := [none, none, none, none, none, none, none]) trivial ?_
        exact s_53_96 kc Φ m6 h
      · have h := h.2 c5
        refine it_V.sN it_cd53 it_m53 3 (pc1 := 58) (ls1 := [some (.ref 59), some (.ref x0), some (.int x1), some (.int x2), some (.int r3), some (.int (it_shl (1 : Int32) x2)), none]) (st1 := [(.int r3), (.ref 1)]) (mem1 := m4) rfl ?_
        refine it_V.call it_cd53 it_m53 rfl it_m12 [(.ref 1), (.int r3)] [] rfl rfl ⟨Nat.le_of_ble_eq_true rfl, Nat.le_of_ble_eq_true rfl, Nat.le_of_ble_eq_true rfl, Nat.le_of_ble_eq_true rfl, rfl⟩ (s_12 kc r3 m4 _ h) ?_
        rintro _ m8 ⟨r7, rfl, h⟩
        refine it_V.at (pc1 := 61) (ls1 := [some (.ref 59), some (.ref x0), some (.int x1), some (.int x2), some (.int r3), some (.int (it_shl (1 : Int32) x2)), none]) (st1 := [(.int r7)]) (mem1 := m8) rfl rfl rfl rfl ?_
        refine it_V.sN it_cd53 it_m53 7 (pc1 := (if x1 = (1 : Int32) then 74 else 82)) (ls1 := [some (.ref 59), some (.ref x0), some (.int x1), some (.int x2), some (.int r3), some (.int (it_shl (1 : Int32) x2)), some (.int r7)]) (st1 := [(.int r3), (.ref 1)]) (mem1 := m8) rfl ?_
        refine it_V.ite (fun c9 => ?_) (fun c9 => ?_)
        · have h := h.1 c9
          refine it_V.sN it_cd53 it_m53 4 (pc1 := 89) (ls1 := [some (.ref 59), some (.ref x0), some (.int x1), some (.int x2), some (.int r3), some (.int (it_shl (1 : Int32) x2)), some (.int r7)]) (st1 := [(.int (r7 ||| (it_shl (1 : Int32) x2))), (.int r3), (.ref 1)]) (mem1 := m8) rfl ?_
          refine it_V.weak (l := [none, some (.ref x0), none, none, none, none, none]) ⟨rfl, trivial⟩ ?_
          exact s_53_89 kc Φ x0 r3 (r7 ||| (it_shl (1 : Int32) x2)) (hx0) m8 h
        · have h := h.2 c9
          refine it_V.sN it_cd53 it_m53 5 (pc1 := 89) (ls1 := [some (.ref 59), some (.ref x0), some (.int x1), some (.int x2), some (.int r3), some (.int (it_shl (1 : Int32) x2)), some (.int r7)]) (st1 := [(.int (r7 &&& ((it_shl (1 : Int32) x2) ^^^ (-1 : Int32)))), (.int r3), (.ref 1)]) (mem1 := m8) rfl ?_
          refine it_V.weak (l := [none, some (.ref x0), none, none, none, none, none]) ⟨rfl, trivial⟩ ?_
          exact s_53_89 kc Φ x0 r3 (r7 &&& ((it_shl (1 : Int32) x2) ^^^ (-1 : Int32))) (hx0) m8 h
    · have h := h.2 c2
      refine it_V.weak (l := [none, some (.ref x0), none, none, none, none, none]) ⟨rfl, trivial⟩ ?_
      exact s_53_9 kc Φ x0 (hx0) m h
set_option maxRecDepth 100000 in
set_option maxHeartbeats 4000000 in
theorem s_55_40 (kc : it_Kc) (Φ : it_Me → Prop) (K86 : Nat → Int32 → it_Me → Prop) (hK86 : ∀ (v1 : Nat) (v5 : Int32) (_ : it_isP v1) (m : it_Me), K86 v1 v5 m → it_V kc it_sh0 55 86 [some (.ref 59), some (.ref v1), none, none, none, some (.int v5), none] [] m (it_Pv Φ)) : ∀ (n : Nat) (v1 : Nat) (v4 : Int32) (v5 : Int32) (v6 : Int32) (hv1 : it_isP v1) (m : it_Me) (h : w_55_40 kc Φ K86 n v1 v4 v5 v6 m), it_V kc it_sh0 55 40 [some (.ref 59), some (.ref v1), none, none, some (.int v4), some (.int v5), some (.int v6)] [] m (it_Pv Φ) := by
  intro n
  induction n with
  | zero => intro v1 v4 v5 v6 hv1 m h; exact absurd h id
  | succ n ih =>
    intro v1 v4 v5 v6 hv1 m h
    rw [w_55_40] at h
    refine it_V.sN it_cd55 it_m55 3 (pc1 := (if v5 ≤ v6 then 86 else 47)) (ls1 := [some (.ref 59), some (.ref v1), none, none, some (.int v4), some (.int v5), some (.int v6)]) (st1 := []) (mem1 := m) rfl ?_
    refine it_V.ite (fun c1 => ?_) (fun c1 => ?_)
    · have h := h.1 c1
      refine it_V.weak (l := [some (.ref 59), some (.ref v1), none, none, none, some (.int v5), none]) ⟨rfl, ⟨rfl, ⟨rfl, trivial⟩⟩⟩ ?_
      exact hK86 v1 v5 (hv1) m h
    · have h := h.2 c1
      refine it_V.sN it_cd55 it_m55 17 (pc1 := 77) (ls1 := [some (.ref 59), some (.ref v1), none, none, some (.int v4), some (.int v5), some (.int v6)]) (st1 := [(.int (it_us ((it_sv m 59 7 (((m 59 7) * (1664525 : Int32)) + (1013904223 : Int32))) 59 7) (24 : Int32))), (.int (v4 + v6)), (.ref 1)]) (mem1 := (it_sv m 59 7 (((m 59 7) * (1664525 : Int32)) + (1013904223 : Int32)))) rfl ?_
      refine it_V.call it_cd55 it_m55 rfl it_m17 [(.ref 1), (.int (v4 + v6)), (.int (it_us ((it_sv m 59 7 (((m 59 7) * (1664525 : Int32)) + (1013904223 : Int32))) 59 7) (24 : Int32)))] [] rfl rfl ⟨Nat.le_of_ble_eq_true rfl, Nat.le_of_ble_eq_true rfl, Nat.le_of_ble_eq_true rfl, Nat.le_of_ble_eq_true rfl, rfl⟩ (s_17 kc (v4 + v6) (it_us ((it_sv m 59 7 (((m 59 7) * (1664525 : Int32)) + (1013904223 : Int32))) 59 7) (24 : Int32)) (it_sv m 59 7 (((m 59 7) * (1664525 : Int32)) + (1013904223 : Int32))) _ h) ?_
      rintro _ m2 ⟨rfl, h⟩
      refine it_V.at (pc1 := 80) (ls1 := [some (.ref 59), some (.ref v1), none, none, some (.int v4), some (.int v5), some (.int v6)]) (st1 := []) (mem1 := m2) rfl rfl rfl rfl ?_
      refine it_V.sN it_cd55 it_m55 2 (pc1 := 40) (ls1 := [some (.ref 59), some (.ref v1), none, none, some (.int v4), some (.int v5), some (.int (v6 + (1 : Int32)))]) (st1 := []) (mem1 := m2) rfl ?_
      refine it_V.weak (l := [some (.ref 59), some (.ref v1), none, none, some (.int v4), some (.int v5), some (.int (v6 + (1 : Int32)))]) ⟨rfl, ⟨rfl, ⟨rfl, ⟨rfl, ⟨rfl, trivial⟩⟩⟩⟩⟩ ?_
      exact ih v1 v4 v5 (v6 + (1 : Int32)) (hv1) m2 h
set_option maxRecDepth 100000 in
set_option maxHeartbeats 4000000 in
theorem s_55_86 (kc : it_Kc) (Φ : it_Me → Prop) (v1 : Nat) (v5 : Int32) (hv1 : it_isP v1) (m : it_Me) (h : w_55_86 kc Φ v1 v5 m) : it_V kc it_sh0 55 86 [some (.ref 59), some (.ref v1), none, none, none, some (.int v5), none] [] m (it_Pv Φ) := by
  rw [w_55_86] at h
  refine it_V.sN it_cd55 it_m55 1 (pc1 := 87) (ls1 := [some (.ref 59), some (.ref v1), none, none, none, some (.int v5), none]) (st1 := [(.ref v1)]) (mem1 := m) rfl ?_
  refine it_V.call it_cd55 it_m55 rfl it_m138 [(.ref v1)] [] rfl rfl ⟨Nat.le_of_ble_eq_true rfl, Nat.le_of_ble_eq_true rfl, Nat.le_of_ble_eq_true rfl, Nat.le_of_ble_eq_true rfl, (it_recvP (hv1).1)⟩ (s_138 kc v1 (hv1) m _ h) ?_
  rintro _ m1 ⟨rfl, h⟩
  refine it_V.at (pc1 := 90) (ls1 := [some (.ref 59), some (.ref v1), none, none, none, some (.int v5), none]) (st1 := []) (mem1 := m1) rfl rfl rfl rfl ?_
  refine it_V.sN it_cd55 it_m55 8 (pc1 := 101) (ls1 := [some (.ref 59), some (.ref v1), none, none, none, some (.int v5), none]) (st1 := [(.int (0 : Int32)), (.int v5), (.int (0 : Int32)), (.int (0 : Int32)), (.int (4 : Int32)), (.ref v1), (.ref 9)]) (mem1 := m1) rfl ?_
  refine it_V.call it_cd55 it_m55 rfl it_m80 [(.ref 9), (.ref v1), (.int (4 : Int32)), (.int (0 : Int32)), (.int (0 : Int32)), (.int v5), (.int (0 : Int32))] [] rfl rfl ⟨Nat.le_of_ble_eq_true rfl, Nat.le_of_ble_eq_true rfl, Nat.le_of_ble_eq_true rfl, Nat.le_of_ble_eq_true rfl, rfl⟩ (s_80 kc v1 (4 : Int32) (0 : Int32) (0 : Int32) v5 (0 : Int32) (hv1) m1 _ h) ?_
  rintro _ m2 ⟨rfl, h⟩
  refine it_V.at (pc1 := 104) (ls1 := [some (.ref 59), some (.ref v1), none, none, none, some (.int v5), none]) (st1 := []) (mem1 := m2) rfl rfl rfl rfl ?_
  exact it_V.ret it_cd55 it_m55 rfl rfl ⟨rfl, h⟩
set_option maxRecDepth 100000 in
set_option maxHeartbeats 4000000 in
theorem s_55 (kc : it_Kc) (x0 : Nat) (x1 : Int32) (hx0 : it_isP x0) (m : it_Me) (Φ : it_Me → Prop) (h : w_55 kc x0 x1 m Φ) : it_V kc it_sh0 55 0 (it_loc0 [(.ref 59), (.ref x0), (.int x1)] 7) [] m (it_Pv Φ) := by
  rw [w_55] at h
  refine it_V.at (pc1 := 0) (ls1 := [some (.ref 59), some (.ref x0), some (.int x1), none, none, none, none]) (st1 := []) (mem1 := m) rfl rfl rfl rfl ?_
  refine it_V.sN it_cd55 it_m55 5 (pc1 := 7) (ls1 := [some (.ref 59), some (.ref x0), some (.int x1), none, none, none, none]) (st1 := [(.int (0 : Int32)), (.int (4 : Int32)), (.ref x0), (.ref 9)]) (mem1 := m) rfl ?_
  refine it_V.call it_cd55 it_m55 rfl it_m89 [(.ref 9), (.ref x0), (.int (4 : Int32)), (.int (0 : Int32))] [] rfl rfl ⟨Nat.le_of_ble_eq_true rfl, Nat.le_of_ble_eq_true rfl, Nat.le_of_ble_eq_true rfl, Nat.le_of_ble_eq_true rfl, rfl⟩ (s_89 kc x0 (4 : Int32) (0 : Int32) (hx0) m _ h) ?_
  rintro _ m2 ⟨r1, rfl, h⟩
  refine it_V.at (pc1 := 10) (ls1 := [some (.ref 59), some (.ref x0), some (.int x1), none, none, none, none]) (st1 := [(.int r1)]) (mem1 := m2) rfl rfl rfl rfl ?_
  refine it_V.sN it_cd55 it_m55 4 (pc1 := 16) (ls1 := [some (.ref 59), some (.ref x0), some (.int x1), some (.int r1), none, none, none]) (st1 := [(.int r1), (.ref 1)]) (mem1 := m2) rfl ?_
  refine it_V.call it_cd55 it_m55 rfl it_m12 [(.ref 1), (.int r1)] [] rfl rfl ⟨Nat.le_of_ble_eq_true rfl, Nat.le_of_ble_eq_true rfl, Nat.le_of_ble_eq_true rfl, Nat.le_of_ble_eq_true rfl, rfl⟩ (s_12 kc r1 m2 _ h) ?_
  rintro _ m4 ⟨r3, rfl, h⟩
  refine it_V.at (pc1 := 19) (ls1 := [some (.ref 59), some (.ref x0), some (.int x1), some (.int r1), none, none, none]) (st1 := [(.int r3)]) (mem1 := m4) rfl rfl rfl rfl ?_
  refine it_V.sN it_cd55 it_m55 7 (pc1 := 29) (ls1 := [some (.ref 59), some (.ref x0), some (.int x1), some (.int r1), some (.int r3), none, none]) (st1 := [(.int (r1 + (4 : Int32))), (.ref 1), (.int x1)]) (mem1 := m4) rfl ?_
  refine it_V.call it_cd55 it_m55 rfl it_m12 [(.ref 1), (.int (r1 + (4 : Int32)))] [(.int x1)] rfl rfl ⟨Nat.le_of_ble_eq_true rfl, Nat.le_of_ble_eq_true rfl, Nat.le_of_ble_eq_true rfl, Nat.le_of_ble_eq_true rfl, rfl⟩ (s_12 kc (r1 + (4 : Int32)) m4 _ h) ?_
  rintro _ m6 ⟨r5, rfl, h⟩
  refine it_V.at (pc1 := 32) (ls1 := [some (.ref 59), some (.ref x0), some (.int x1), some (.int r1), some (.int r3), none, none]) (st1 := [(.int r5), (.int x1)]) (mem1 := m6) rfl rfl rfl rfl ?_
  refine it_V.call it_cd55 it_m55 rfl it_m214 [(.int x1), (.int r5)] [] rfl rfl ⟨Nat.le_of_ble_eq_true rfl, Nat.le_of_ble_eq_true rfl, Nat.le_of_ble_eq_true rfl, Nat.le_of_ble_eq_true rfl, rfl⟩ (s_214 kc x1 r5 m6 _ h) ?_
  rintro _ m8 ⟨r7, rfl, h⟩
  refine it_V.at (pc1 := 35) (ls1 := [some (.ref 59), some (.ref x0), some (.int x1), some (.int r1), some (.int r3), none, none]) (st1 := [(.int r7)]) (mem1 := m8) rfl rfl rfl rfl ?_
  refine it_V.sN it_cd55 it_m55 3 (pc1 := 40) (ls1 := [some (.ref 59), some (.ref x0), some (.int x1), some (.int r1), some (.int r3), some (.int r7), some (.int (0 : Int32))]) (st1 := []) (mem1 := m8) rfl ?_
  refine it_V.weak (l := [some (.ref 59), some (.ref x0), none, none, some (.int r3), some (.int r7), some (.int (0 : Int32))]) ⟨rfl, ⟨rfl, ⟨rfl, ⟨rfl, ⟨rfl, trivial⟩⟩⟩⟩⟩ ?_
  obtain ⟨n, h⟩ := h
  exact s_55_40 kc Φ _ (fun v1 v5 hv1 m h => s_55_86 kc Φ v1 v5 hv1 m h) n x0 r3 r7 (0 : Int32) (hx0) m8 h
set_option maxRecDepth 100000 in
set_option maxHeartbeats 4000000 in
theorem s_162_19 (kc : it_Kc) (Φ : Int32 → it_Me → Prop) (u0 : Int32) (u1 : Int32) (m : it_Me) (h : w_162_19 kc Φ u0 u1 m) : it_V kc it_sh0 162 19 [none] [(.int u1), (.int u0)] m (it_Pi Φ) := by
  rw [w_162_19] at h
  refine it_V.sN it_cd162 it_m162 1 (pc1 := 20) (ls1 := [none]) (st1 := [(.int (u0 + u1))]) (mem1 := m) rfl ?_
  exact it_V.ret it_cd162 it_m162 rfl rfl ⟨_, rfl, h⟩
set_option maxRecDepth 100000 in
set_option maxHeartbeats 4000000 in
theorem s_162 (kc : it_Kc) (x0 : Int32) (m : it_Me) (Φ : Int32 → it_Me → Prop) (h : w_162 kc x0 m Φ) : it_V kc it_sh0 162 0 (it_loc0 [(.int x0)] 1) [] m (it_Pi Φ) := by
  rw [w_162] at h
  refine it_V.at (pc1 := 0) (ls1 := [some (.int x0)]) (st1 := []) (mem1 := m) rfl rfl rfl rfl ?_
  refine it_V.sN it_cd162 it_m162 4 (pc1 := (if x0 = (255 : Int32) then 9 else 13)) (ls1 := [some (.int x0)]) (st1 := [(.int (16 : Int32))]) (mem1 := m) rfl ?_
  refine it_V.ite (fun c1 => ?_) (fun c1 => ?_)
  · have h := h.1 c1
    refine it_V.sN it_cd162 it_m162 2 (pc1 := 19) (ls1 := [some (.int x0)]) (st1 := [(.int (0 : Int32)), (.int (16 : Int32))]) (mem1 := m) rfl ?_
    refine it_V.weak (l := [none]) trivial ?_
    exact s_162_19 kc Φ (16 : Int32) (0 : Int32) m h
  · have h := h.2 c1
    refine it_V.sN it_cd162 it_m162 5 (pc1 := 19) (ls1 := [some (.int x0)]) (st1 := [(.int ((x0 + (3 : Int32)) &&& (-4 : Int32))), (.int (16 : Int32))]) (mem1 := m) rfl ?_
    refine it_V.weak (l := [none]) trivial ?_
    exact s_162_19 kc Φ (16 : Int32) ((x0 + (3 : Int32)) &&& (-4 : Int32)) m h
set_option maxRecDepth 100000 in
set_option maxHeartbeats 4000000 in
theorem s_164_83 (kc : it_Kc) (Φ : Int32 → it_Me → Prop) (K114 : Int32 → Int32 → Int32 → it_Me → Prop) (hK114 : ∀ (v1 : Int32) (v4 : Int32) (v5 : Int32) (m : it_Me), K114 v1 v4 v5 m → it_V kc it_sh0 164 114 [some (.ref 7), some (.int v1), none, none, some (.int v4), some (.int v5), none] [] m (it_Pi Φ)) : ∀ (n : Nat) (v1 : Int32) (v4 : Int32) (v5 : Int32) (v6 : Int32) (m : it_Me) (h : w_164_83 kc Φ K114 n v1 v4 v5 v6 m), it_V kc it_sh0 164 83 [some (.ref 7), some (.int v1), none, none, some (.int v4), some (.int v5), some (.int v6)] [] m (it_Pi Φ) := by
  intro n
  induction n with
  | zero => intro v1 v4 v5 v6 m h; exact absurd h id
  | succ n ih =>
    intro v1 v4 v5 v6 m h
    rw [w_164_83] at h
    refine it_V.sN it_cd164 it_m164 5 (pc1 := (if (v4 - (4 : Int32)) ≤ v6 then 114 else 92)) (ls1 := [some (.ref 7), some (.int v1), none, none, some (.int v4), some (.int v5), some (.int v6)]) (st1 := []) (mem1 := m) rfl ?_
    refine it_V.ite (fun c1 => ?_) (fun c1 => ?_)
    · have h := h.1 c1
      refine it_V.weak (l := [some (.ref 7), some (.int v1), none, none, some (.int v4), some (.int v5), none]) ⟨rfl, ⟨rfl, ⟨rfl, ⟨rfl, trivial⟩⟩⟩⟩ ?_
      exact hK114 v1 v4 v5 m h
    · have h := h.2 c1
      refine it_V.sN it_cd164 it_m164 6 (pc1 := 102) (ls1 := [some (.ref 7), some (.int v1), none, none, some (.int v4), some (.int v5), some (.int v6)]) (st1 := [(.int (v1 + v6)), (.ref 1), (.int v5)]) (mem1 := m) rfl ?_
      refine it_V.call it_cd164 it_m164 rfl it_m12 [(.ref 1), (.int (v1 + v6))] [(.int v5)] rfl rfl ⟨Nat.le_of_ble_eq_true rfl, Nat.le_of_ble_eq_true rfl, Nat.le_of_ble_eq_true rfl, Nat.le_of_ble_eq_true rfl, rfl⟩ (s_12 kc (v1 + v6) m _ h) ?_
      rintro _ m3 ⟨r2, rfl, h⟩
      refine it_V.at (pc1 := 105) (ls1 := [some (.ref 7), some (.int v1), none, none, some (.int v4), some (.int v5), some (.int v6)]) (st1 := [(.int r2), (.int v5)]) (mem1 := m3) rfl rfl rfl rfl ?_
      refine it_V.sN it_cd164 it_m164 4 (pc1 := 83) (ls1 := [some (.ref 7), some (.int v1), none, none, some (.int v4), some (.int (v5 ^^^ r2)), some (.int (v6 + (4 : Int32)))]) (st1 := []) (mem1 := m3) rfl ?_
      refine it_V.weak (l := [some (.ref 7), some (.int v1), none, none, some (.int v4), some (.int (v5 ^^^ r2)), some (.int (v6 + (4 : Int32)))]) ⟨rfl, ⟨rfl, ⟨rfl, ⟨rfl, ⟨rfl, trivial⟩⟩⟩⟩⟩ ?_
      exact ih v1 v4 (v5 ^^^ r2) (v6 + (4 : Int32)) m3 h
set_option maxRecDepth 100000 in
set_option maxHeartbeats 4000000 in
theorem s_164_29 (kc : it_Kc) (Φ : Int32 → it_Me → Prop) (m : it_Me) (h : w_164_29 kc Φ m) : it_V kc it_sh0 164 29 [none, none, none, none, none, none, none] [] m (it_Pi Φ) := by
  rw [w_164_29] at h
  refine it_V.sN it_cd164 it_m164 1 (pc1 := 30) (ls1 := [none, none, none, none, none, none, none]) (st1 := [(.int (0 : Int32))]) (mem1 := m) rfl ?_
  exact it_V.ret it_cd164 it_m164 rfl rfl ⟨_, rfl, h⟩
set_option maxRecDepth 100000 in
set_option maxHeartbeats 4000000 in
theorem s_164_60 (kc : it_Kc) (Φ : Int32 → it_Me → Prop) (m : it_Me) (h : w_164_60 kc Φ m) : it_V kc it_sh0 164 60 [none, none, none, none, none, none, none] [] m (it_Pi Φ) := by
  rw [w_164_60] at h
  refine it_V.sN it_cd164 it_m164 1 (pc1 := 61) (ls1 := [none, none, none, none, none, none, none]) (st1 := [(.int (0 : Int32))]) (mem1 := m) rfl ?_
  exact it_V.ret it_cd164 it_m164 rfl rfl ⟨_, rfl, h⟩
set_option maxRecDepth 100000 in
set_option maxHeartbeats 4000000 in
theorem s_164_148 (kc : it_Kc) (Φ : Int32 → it_Me → Prop) (u0 : Int32) (m : it_Me) (h : w_164_148 kc Φ u0 m) : it_V kc it_sh0 164 148 [none, none, none, none, none, none, none] [(.int u0)] m (it_Pi Φ) := by
  rw [w_164_148] at h
  exact it_V.ret it_cd164 it_m164 rfl rfl ⟨_, rfl, h⟩
set_option maxRecDepth 100000 in
set_option maxHeartbeats 4000000 in
theorem s_164_139 (kc : it_Kc) (Φ : Int32 → it_Me → Prop) (v4 : Int32) (u0 : Int32) (u1 : Int32) (m : it_Me) (h : w_164_139 kc Φ v4 u0 u1 m) : it_V kc it_sh0 164 139 [none, none, none, none, some (.int v4), none, none] [(.int u1), (.int u0)] m (it_Pi Φ) := by
  rw [w_164_139] at h
  refine it_V.sN it_cd164 it_m164 1 (pc1 := (if u0 = u1 then 142 else 147)) (ls1 := [none, none, none, none, some (.int v4), none, none]) (st1 := []) (mem1 := m) rfl ?_
  refine it_V.ite (fun c1 => ?_) (fun c1 => ?_)
  · have h := h.1 c1
    refine it_V.sN it_cd164 it_m164 2 (pc1 := 148) (ls1 := [none, none, none, none, some (.int v4), none, none]) (st1 := [(.int v4)]) (mem1 := m) rfl ?_
    refine it_V.weak (l := [none, none, none, none, none, none, none]) trivial ?_
    exact s_164_148 kc Φ v4 m h
  · have h := h.2 c1
    refine it_V.sN it_cd164 it_m164 1 (pc1 := 148) (ls1 := [none, none, none, none, some (.int v4), none, none]) (st1 := [(.int (0 : Int32))]) (mem1 := m) rfl ?_
    refine it_V.weak (l := [none, none, none, none, none, none, none]) trivial ?_
    exact s_164_148 kc Φ (0 : Int32) m h
set_option maxRecDepth 100000 in
set_option maxHeartbeats 4000000 in
theorem s_164_114 (kc : it_Kc) (Φ : Int32 → it_Me → Prop) (v1 : Int32) (v4 : Int32) (v5 : Int32) (m : it_Me) (h : w_164_114 kc Φ v1 v4 v5 m) : it_V kc it_sh0 164 114 [some (.ref 7), some (.int v1), none, none, some (.int v4), some (.int v5), none] [] m (it_Pi Φ) := by
  rw [w_164_114] at h
  refine it_V.sN it_cd164 it_m164 7 (pc1 := 124) (ls1 := [some (.ref 7), some (.int v1), none, none, some (.int v4), some (.int v5), none]) (st1 := [(.int ((v1 + v4) - (4 : Int32))), (.ref 1)]) (mem1 := m) rfl ?_
  refine it_V.call it_cd164 it_m164 rfl it_m12 [(.ref 1), (.int ((v1 + v4) - (4 : Int32)))] [] rfl rfl ⟨Nat.le_of_ble_eq_true rfl, Nat.le_of_ble_eq_true rfl, Nat.le_of_ble_eq_true rfl, Nat.le_of_ble_eq_true rfl, rfl⟩ (s_12 kc ((v1 + v4) - (4 : Int32)) m _ h) ?_
  rintro _ m2 ⟨r1, rfl, h⟩
  refine it_V.at (pc1 := 127) (ls1 := [some (.ref 7), some (.int v1), none, none, some (.int v4), some (.int v5), none]) (st1 := [(.int r1)]) (mem1 := m2) rfl rfl rfl rfl ?_
  refine it_V.sN it_cd164 it_m164 3 (pc1 := (if v5 = (-1 : Int32) then 133 else 137)) (ls1 := [some (.ref 7), some (.int v1), none, none, some (.int v4), some (.int v5), none]) (st1 := [(.int r1)]) (mem1 := m2) rfl ?_
  refine it_V.ite (fun c3 => ?_) (fun c3 => ?_)
  · have h := h.1 c3
    refine it_V.sN it_cd164 it_m164 2 (pc1 := 139) (ls1 := [some (.ref 7), some (.int v1), none, none, some (.int v4), some (.int v5), none]) (st1 := [(.int (0 : Int32)), (.int r1)]) (mem1 := m2) rfl ?_
    refine it_V.weak (l := [none, none, none, none, some (.int v4), none, none]) ⟨rfl, trivial⟩ ?_
    exact s_164_139 kc Φ v4 r1 (0 : Int32) m2 h
  · have h := h.2 c3
    refine it_V.sN it_cd164 it_m164 1 (pc1 := 139) (ls1 := [some (.ref 7), some (.int v1), none, none, some (.int v4), some (.int v5), none]) (st1 := [(.int v5), (.int r1)]) (mem1 := m2) rfl ?_
    refine it_V.weak (l := [none, none, none, none, some (.int v4), none, none]) ⟨rfl, trivial⟩ ?_
    exact s_164_139 kc Φ v4 r1 v5 m2 h
set_option maxRecDepth 100000 in
set_option maxHeartbeats 4000000 in
theorem s_164_62 (kc : it_Kc) (Φ : Int32 → it_Me → Prop) (v1 : Int32) (v2 : Int32) (v3 : Int32) (m : it_Me) (h : w_164_62 kc Φ v1 v2 v3 m) : it_V kc it_sh0 164 62 [some (.ref 7), some (.int v1), some (.int v2), some (.int v3), none, none, none] [] m (it_Pi Φ) := by
  rw [w_164_62] at h
  refine it_V.sN it_cd164 it_m164 1 (pc1 := 63) (ls1 := [some (.ref 7), some (.int v1), some (.int v2), some (.int v3), none, none, none]) (st1 := [(.int v3)]) (mem1 := m) rfl ?_
  refine it_V.call it_cd164 it_m164 rfl it_m162 [(.int v3)] [] rfl rfl ⟨Nat.le_of_ble_eq_true rfl, Nat.le_of_ble_eq_true rfl, Nat.le_of_ble_eq_true rfl, Nat.le_of_ble_eq_true rfl, rfl⟩ (s_162 kc v3 m _ h) ?_
  rintro _ m2 ⟨r1, rfl, h⟩
  refine it_V.at (pc1 := 66) (ls1 := [some (.ref 7), some (.int v1), some (.int v2), some (.int v3), none, none, none]) (st1 := [(.int r1)]) (mem1 := m2) rfl rfl rfl rfl ?_
  refine it_V.sN it_cd164 it_m164 4 (pc1 := (if r1 ≤ v2 then 76 else 74)) (ls1 := [some (.ref 7), some (.int v1), some (.int v2), some (.int v3), some (.int r1), none, none]) (st1 := []) (mem1 := m2) rfl ?_
  refine it_V.ite (fun c3 => ?_) (fun c3 => ?_)
  · have h := h.1 c3
    refine it_V.sN it_cd164 it_m164 4 (pc1 := 83) (ls1 := [some (.ref 7), some (.int v1), some (.int v2), some (.int v3), some (.int r1), some (.int (1515870810 : Int32)), some (.int (0 : Int32))]) (st1 := []) (mem1 := m2) rfl ?_
    refine it_V.weak (l := [some (.ref 7), some (.int v1), none, none, some (.int r1), some (.int (1515870810 : Int32)), some (.int (0 : Int32))]) ⟨rfl, ⟨rfl, ⟨rfl, ⟨rfl, ⟨rfl, trivial⟩⟩⟩⟩⟩ ?_
    obtain ⟨n, h⟩ := h
    exact s_164_83 kc Φ _ (fun v1 v4 v5 m h => s_164_114 kc Φ v1 v4 v5 m h) n v1 r1 (1515870810 : Int32) (0 : Int32) m2 h
  · have h := h.2 c3
    refine it_V.sN it_cd164 it_m164 1 (pc1 := 75) (ls1 := [some (.ref 7), some (.int v1), some (.int v2), some (.int v3), some (.int r1), none, none]) (st1 := [(.int (0 : Int32))]) (mem1 := m2) rfl ?_
    exact it_V.ret it_cd164 it_m164 rfl rfl ⟨_, rfl, h⟩
set_option maxRecDepth 100000 in
set_option maxHeartbeats 4000000 in
theorem s_164 (kc : it_Kc) (x0 : Int32) (m : it_Me) (Φ : Int32 → it_Me → Prop) (h : w_164 kc x0 m Φ) : it_V kc it_sh0 164 0 (it_loc0 [(.ref 7), (.int x0)] 7) [] m (it_Pi Φ) := by
  rw [w_164] at h
  refine it_V.at (pc1 := 0) (ls1 := [some (.ref 7), some (.int x0), none, none, none, none, none]) (st1 := []) (mem1 := m) rfl rfl rfl rfl ?_
  refine it_V.sN it_cd164 it_m164 10 (pc1 := (if (((m 7 2) + (2048 : Int32)) - x0) < (16 : Int32) then 29 else 17)) (ls1 := [some (.ref 7), some (.int x0), some (.int (((m 7 2) + (2048 : Int32)) - x0)), none, none, none, none]) (st1 := []) (mem1 := m) rfl ?_
  refine it_V.ite (fun c1 => ?_) (fun c1 => ?_)
  · have h := h.1 c1
    refine it_V.weak (l := [none, none, none, none, none, none, none]) trivial ?_
    exact s_164_29 kc Φ m h
  · have h := h.2 c1
    refine it_V.sN it_cd164 it_m164 3 (pc1 := 22) (ls1 := [some (.ref 7), some (.int x0), some (.int (((m 7 2) + (2048 : Int32)) - x0)), none, none, none, none]) (st1 := [(.int x0), (.ref 1)]) (mem1 := m) rfl ?_
    refine it_V.call it_cd164 it_m164 rfl it_m12 [(.ref 1), (.int x0)] [] rfl rfl ⟨Nat.le_of_ble_eq_true rfl, Nat.le_of_ble_eq_true rfl, Nat.le_of_ble_eq_true rfl, Nat.le_of_ble_eq_true rfl, rfl⟩ (s_12 kc x0 m _ h) ?_
    rintro _ m3 ⟨r2, rfl, h⟩
    refine it_V.at (pc1 := 25) (ls1 := [some (.ref 7), some (.int x0), some (.int (((m 7 2) + (2048 : Int32)) - x0)), none, none, none, none]) (st1 := [(.int r2)]) (mem1 := m3) rfl rfl rfl rfl ?_
    refine it_V.sN it_cd164 it_m164 2 (pc1 := (if r2 = (-1 : Int32) then 29 else 31)) (ls1 := [some (.ref 7), some (.int x0), some (.int (((m 7 2) + (2048 : Int32)) - x0)), none, none, none, none]) (st1 := []) (mem1 := m3) rfl ?_
    refine it_V.ite (fun c4 => ?_) (fun c4 => ?_)
    · have h := h.1 c4
      refine it_V.weak (l := [none, none, none, none, none, none, none]) trivial ?_
      exact s_164_29 kc Φ m3 h
    · have h := h.2 c4
      refine it_V.sN it_cd164 it_m164 5 (pc1 := 39) (ls1 := [some (.ref 7), some (.int x0), some (.int (((m 7 2) + (2048 : Int32)) - x0)), none, none, none, none]) (st1 := [(.int (x0 + (8 : Int32))), (.ref 1)]) (mem1 := m3) rfl ?_
      refine it_V.call it_cd164 it_m164 rfl it_m12 [(.ref 1), (.int (x0 + (8 : Int32)))] [] rfl rfl ⟨Nat.le_of_ble_eq_true rfl, Nat.le_of_ble_eq_true rfl, Nat.le_of_ble_eq_true rfl, Nat.le_of_ble_eq_true rfl, rfl⟩ (s_12 kc (x0 + (8 : Int32)) m3 _ h) ?_
      rintro _ m6 ⟨r5, rfl, h⟩
      refine it_V.at (pc1 := 42) (ls1 := [some (.ref 7), some (.int x0), some (.int (((m 7 2) + (2048 : Int32)) - x0)), none, none, none, none]) (st1 := [(.int r5)]) (mem1 := m6) rfl rfl rfl rfl ?_
      refine it_V.sN it_cd164 it_m164 4 (pc1 := (if r5 = (255 : Int32) then 62 else 50)) (ls1 := [some (.ref 7), some (.int x0), some (.int (((m 7 2) + (2048 : Int32)) - x0)), some (.int r5), none, none, none]) (st1 := []) (mem1 := m6) rfl ?_
      refine it_V.ite (fun c7 => ?_) (fun c7 => ?_)
      · have h := h.1 c7
        exact s_164_62 kc Φ x0 (((m 7 2) + (2048 : Int32)) - x0) r5 m6 h
      · have h := h.2 c7
        refine it_V.sN it_cd164 it_m164 2 (pc1 := (if r5 < 0 then 60 else 54)) (ls1 := [some (.ref 7), some (.int x0), some (.int (((m 7 2) + (2048 : Int32)) - x0)), some (.int r5), none, none, none]) (st1 := []) (mem1 := m6) rfl ?_
        refine it_V.ite (fun c8 => ?_) (fun c8 => ?_)
        · have h := h.1 c8
          refine it_V.weak (l := [none, none, none, none, none, none, none]) trivial ?_
          exact s_164_60 kc Φ m6 h
        · have h := h.2 c8
          refine it_V.sN it_cd164 it_m164 3 (pc1 := (if r5 ≤ (32 : Int32) then 62 else 60)) (ls1 := [some (.ref 7), some (.int x0), some (.int (((m 7 2) + (2048 : Int32)) - x0)), some (.int r5), none, none, none]) (st1 := []) (mem1 := m6) rfl ?_
          refine it_V.ite (fun c9 => ?_) (fun c9 => ?_)
          · have h := h.1 c9
            exact s_164_62 kc Φ x0 (((m 7 2) + (2048 : Int32)) - x0) r5 m6 h
          · have h := h.2 c9
            refine it_V.weak (l := [none, none, none, none, none, none, none]) trivial ?_
            exact s_164_60 kc Φ m6 h
set_option maxRecDepth 100000 in
set_option maxHeartbeats 4000000 in
theorem s_163_25 (kc : it_Kc) (Φ : it_Me → Prop) (K47 : it_Me → Prop) (K81 : it_Me → Prop) (hK47 : ∀ (m : it_Me), K47 m → it_V kc it_sh0 163 47 [none, none, none] [] m (it_Pv Φ)) (hK81 : ∀ (m : it_Me), K81 m → it_V kc it_sh0 163 81 [none, none, none] [] m (it_Pv Φ)) : ∀ (n : Nat) (v1 : Int32) (m : it_Me) (h : w_163_25 kc Φ K47 K81 n v1 m), it_V kc it_sh0 163 25 [some (.ref 7), some (.int v1), none] [] m (it_Pv Φ) := by
  intro n
  induction n with
  | zero => intro v1 m h; exact absurd h id
  | succ n ih =>
    intro v1 m h
    rw [w_163_25] at h
    refine it_V.sN it_cd163 it_m163 5 (pc1 := (if (128 : Int32) ≤ v1 then 81 else 34)) (ls1 := [some (.ref 7), some (.int v1), none]) (st1 := []) (mem1 := m) rfl ?_
    refine it_V.ite (fun c1 => ?_) (fun c1 => ?_)
    · have h := h.1 c1
      refine it_V.weak (l := [none, none, none]) trivial ?_
      exact hK81 m h
    · have h := h.2 c1
      refine it_V.sN it_cd163 it_m163 3 (pc1 := 39) (ls1 := [some (.ref 7), some (.int v1), none]) (st1 := [(.int (m 7 7)), (.ref 7)]) (mem1 := m) rfl ?_
      refine it_V.call it_cd163 it_m163 rfl it_m164 [(.ref 7), (.int (m 7 7))] [] rfl rfl ⟨Nat.le_of_ble_eq_true rfl, Nat.le_of_ble_eq_true rfl, Nat.le_of_ble_eq_true rfl, Nat.le_of_ble_eq_true rfl, rfl⟩ (s_164 kc (m 7 7) m _ h) ?_
      rintro _ m3 ⟨r2, rfl, h⟩
      refine it_V.at (pc1 := 42) (ls1 := [some (.ref 7), some (.int v1), none]) (st1 := [(.int r2)]) (mem1 := m3) rfl rfl rfl rfl ?_
      refine it_V.sN it_cd163 it_m163 3 (pc1 := (if r2 = 0 then 47 else 48)) (ls1 := [some (.ref 7), some (.int v1), some (.int r2)]) (st1 := []) (mem1 := m3) rfl ?_
      refine it_V.ite (fun c4 => ?_) (fun c4 => ?_)
      · have h := h.1 c4
        refine it_V.weak (l := [none, none, none]) trivial ?_
        exact hK47 m3 h
      · have h := h.2 c4
        refine it_V.sN it_cd163 it_m163 5 (pc1 := 57) (ls1 := [some (.ref 7), some (.int v1), some (.int r2)]) (st1 := [(.int (m3 7 7)), (.int v1), (.ref 8)]) (mem1 := m3) rfl ?_
        obtain ⟨g5, h⟩ := h
        refine it_V.iast it_cd163 it_m163 rfl ((⟨rfl, by decide⟩ : it_isR 8 128)).1 g5 ?_
        refine it_V.at (pc1 := 58) (ls1 := [some (.ref 7), some (.int v1), some (.int r2)]) (st1 := []) (mem1 := (it_sv m3 8 (Int32.toNatClampNeg v1) (m3 7 7))) rfl rfl rfl rfl ?_
        refine it_V.sN it_cd163 it_m163 13 (pc1 := 25) (ls1 := [some (.ref 7), some (.int (v1 + (1 : Int32))), some (.int r2)]) (st1 := []) (mem1 := (it_sv (it_sv (it_sv m3 8 (Int32.toNatClampNeg v1) (m3 7 7)) 7 6 (v1 + (1 : Int32))) 7 7 (((it_sv (it_sv m3 8 (Int32.toNatClampNeg v1) (m3 7 7)) 7 6 (v1 + (1 : Int32))) 7 7) + r2))) rfl ?_
        refine it_V.weak (l := [some (.ref 7), some (.int (v1 + (1 : Int32))), none]) ⟨rfl, ⟨rfl, trivial⟩⟩ ?_
        exact ih (v1 + (1 : Int32)) (it_sv (it_sv (it_sv m3 8 (Int32.toNatClampNeg v1) (m3 7 7)) 7 6 (v1 + (1 : Int32))) 7 7 (((it_sv (it_sv m3 8 (Int32.toNatClampNeg v1) (m3 7 7)) 7 6 (v1 + (1 : Int32))) 7 7) + r2)) h
set_option maxRecDepth 100000 in
set_option maxHeartbeats 4000000 in
theorem s_163_47 (kc : it_Kc) (Φ : it_Me → Prop) (m : it_Me) (h : w_163_47 kc Φ m) : it_V kc it_sh0 163 47 [none, none, none] [] m (it_Pv Φ) := by
  rw [w_163_47] at h
  exact it_V.ret it_cd163 it_m163 rfl rfl ⟨rfl, h⟩
set_option maxRecDepth 100000 in
set_option maxHeartbeats 4000000 in
theorem s_163_81 (kc : it_Kc) (Φ : it_Me → Prop) (m : it_Me) (h : w_163_81 kc Φ m) : it_V kc it_sh0 163 81 [none, none, none] [] m (it_Pv Φ) := by
  rw [w_163_81] at h
  exact it_V.ret it_cd163 it_m163 rfl rfl ⟨rfl, h⟩
set_option maxRecDepth 100000 in
set_option maxHeartbeats 4000000 in
theorem s_163 (kc : it_Kc) (m : it_Me) (Φ : it_Me → Prop) (h : w_163 kc m Φ) : it_V kc it_sh0 163 0 (it_loc0 [(.ref 7)] 3) [] m (it_Pv Φ) := by
  rw [w_163] at h
  refine it_V.at (pc1 := 0) (ls1 := [some (.ref 7), none, none]) (st1 := []) (mem1 := m) rfl rfl rfl rfl ?_
  refine it_V.sN it_cd163 it_m163 12 (pc1 := (if ((it_sv (it_sv m 7 6 (0 : Int32)) 7 7 (((it_sv m 7 6 (0 : Int32)) 7 2) + (4 : Int32))) 7 2) = 0 then 22 else 23)) (ls1 := [some (.ref 7), none, none]) (st1 := []) (mem1 := (it_sv (it_sv m 7 6 (0 : Int32)) 7 7 (((it_sv m 7 6 (0 : Int32)) 7 2) + (4 : Int32)))) rfl ?_
  refine it_V.ite (fun c1 => ?_) (fun c1 => ?_)
  · have h := h.1 c1
    exact it_V.ret it_cd163 it_m163 rfl rfl ⟨rfl, h⟩
  · have h := h.2 c1
    refine it_V.sN it_cd163 it_m163 2 (pc1 := 25) (ls1 := [some (.ref 7), some (.int (0 : Int32)), none]) (st1 := []) (mem1 := (it_sv (it_sv m 7 6 (0 : Int32)) 7 7 (((it_sv m 7 6 (0 : Int32)) 7 2) + (4 : Int32)))) rfl ?_
    obtain ⟨n, h⟩ := h
    exact s_163_25 kc Φ _ _ (fun m h => s_163_47 kc Φ m h) (fun m h => s_163_81 kc Φ m h) n (0 : Int32) (it_sv (it_sv m 7 6 (0 : Int32)) 7 7 (((it_sv m 7 6 (0 : Int32)) 7 2) + (4 : Int32))) h
set_option maxRecDepth 100000 in
set_option maxHeartbeats 4000000 in
theorem s_159_76 (kc : it_Kc) (Φ : Int32 → it_Me → Prop) (K11 : Int32 → Int32 → Int32 → it_Me → Prop) (K51 : Int32 → it_Me → Prop) (K82 : it_Me → Prop) (hK11 : ∀ (v1 : Int32) (v2 : Int32) (v3 : Int32) (m : it_Me), K11 v1 v2 v3 m → it_V kc it_sh0 159 11 [some (.ref 7), some (.int v1), some (.int v2), some (.int v3), none] [] m (it_Pi Φ)) (hK51 : ∀ (v4 : Int32) (m : it_Me), K51 v4 m → it_V kc it_sh0 159 51 [some (.ref 7), none, none, none, some (.int v4)] [] m (it_Pi Φ)) (hK82 : ∀ (m : it_Me), K82 m → it_V kc it_sh0 159 82 [none, none, none, none, none] [] m (it_Pi Φ)) (v1 : Int32) (v2 : Int32) (v3 : Int32) (m : it_Me) (h : w_159_76 kc Φ K11 K51 K82 v1 v2 v3 m) : it_V kc it_sh0 159 76 [some (.ref 7), some (.int v1), some (.int v2), some (.int v3), none] [] m (it_Pi Φ) := by
  rw [w_159_76] at h
  refine it_V.sN it_cd159 it_m159 2 (pc1 := 11) (ls1 := [some (.ref 7), some (.int v1), some (.int v2), some (.int (v3 + (-1 : Int32))), none]) (st1 := []) (mem1 := m) rfl ?_
  refine it_V.weak (l := [some (.ref 7), some (.int v1), some (.int v2), some (.int (v3 + (-1 : Int32))), none]) ⟨rfl, ⟨rfl, ⟨rfl, ⟨rfl, trivial⟩⟩⟩⟩ ?_
  exact hK11 v1 v2 (v3 + (-1 : Int32)) m h
set_option maxRecDepth 100000 in
set_option maxHeartbeats 4000000 in
theorem s_159_11 (kc : it_Kc) (Φ : Int32 → it_Me → Prop) (K51 : Int32 → it_Me → Prop) (K82 : it_Me → Prop) (hK51 : ∀ (v4 : Int32) (m : it_Me), K51 v4 m → it_V kc it_sh0 159 51 [some (.ref 7), none, none, none, some (.int v4)] [] m (it_Pi Φ)) (hK82 : ∀ (m : it_Me), K82 m → it_V kc it_sh0 159 82 [none, none, none, none, none] [] m (it_Pi Φ)) : ∀ (n : Nat) (v1 : Int32) (v2 : Int32) (v3 : Int32) (m : it_Me) (h : w_159_11 kc Φ K51 K82 n v1 v2 v3 m), it_V kc it_sh0 159 11 [some (.ref 7), some (.int v1), some (.int v2), some (.int v3), none] [] m (it_Pi Φ) := by
  intro n
  induction n with
  | zero => intro v1 v2 v3 m h; exact absurd h id
  | succ n ih =>
    intro v1 v2 v3 m h
    rw [w_159_11] at h
    refine it_V.sN it_cd159 it_m159 2 (pc1 := (if v3 < 0 then 82 else 15)) (ls1 := [some (.ref 7), some (.int v1), some (.int v2), some (.int v3), none]) (st1 := []) (mem1 := m) rfl ?_
    refine it_V.ite (fun c1 => ?_) (fun c1 => ?_)
    · have h := h.1 c1
      refine it_V.weak (l := [none, none, none, none, none]) trivial ?_
      exact hK82 m h
    · have h := h.2 c1
      refine it_V.sN it_cd159 it_m159 3 (pc1 := 20) (ls1 := [some (.ref 7), some (.int v1), some (.int v2), some (.int v3), none]) (st1 := [(.int v3), (.ref 8)]) (mem1 := m) rfl ?_
      obtain ⟨g2, h⟩ := h
      refine it_V.iald it_cd159 it_m159 rfl ((⟨rfl, by decide⟩ : it_isR 8 128)).2 ((⟨rfl, by decide⟩ : it_isR 8 128)).1 g2 ?_
      refine it_V.at (pc1 := 21) (ls1 := [some (.ref 7), some (.int v1), some (.int v2), some (.int v3), none]) (st1 := [(.int (m 8 (Int32.toNatClampNeg v3)))]) (mem1 := m) rfl rfl rfl rfl ?_
      refine it_V.sN it_cd159 it_m159 4 (pc1 := 29) (ls1 := [some (.ref 7), some (.int v1), some (.int v2), some (.int v3), some (.int (m 8 (Int32.toNatClampNeg v3)))]) (st1 := [(.int (m 8 (Int32.toNatClampNeg v3))), (.ref 1)]) (mem1 := m) rfl ?_
      refine it_V.call it_cd159 it_m159 rfl it_m12 [(.ref 1), (.int (m 8 (Int32.toNatClampNeg v3)))] [] rfl rfl ⟨Nat.le_of_ble_eq_true rfl, Nat.le_of_ble_eq_true rfl, Nat.le_of_ble_eq_true rfl, Nat.le_of_ble_eq_true rfl, rfl⟩ (s_12 kc (m 8 (Int32.toNatClampNeg v3)) m _ h) ?_
      rintro _ m4 ⟨r3, rfl, h⟩
      refine it_V.at (pc1 := 32) (ls1 := [some (.ref 7), some (.int v1), some (.int v2), some (.int v3), some (.int (m 8 (Int32.toNatClampNeg v3)))]) (st1 := [(.int r3)]) (mem1 := m4) rfl rfl rfl rfl ?_
      refine it_V.sN it_cd159 it_m159 2 (pc1 := (if r3 = v1 then 36 else 76)) (ls1 := [some (.ref 7), some (.int v1), some (.int v2), some (.int v3), some (.int (m 8 (Int32.toNatClampNeg v3)))]) (st1 := []) (mem1 := m4) rfl ?_
      refine it_V.ite (fun c5 => ?_) (fun c5 => ?_)
      · have h := h.1 c5
        refine it_V.sN it_cd159 it_m159 5 (pc1 := 44) (ls1 := [some (.ref 7), some (.int v1), some (.int v2), some (.int v3), some (.int (m 8 (Int32.toNatClampNeg v3)))]) (st1 := [(.int ((m 8 (Int32.toNatClampNeg v3)) + (4 : Int32))), (.ref 1)]) (mem1 := m4) rfl ?_
        refine it_V.call it_cd159 it_m159 rfl it_m12 [(.ref 1), (.int ((m 8 (Int32.toNatClampNeg v3)) + (4 : Int32)))] [] rfl rfl ⟨Nat.le_of_ble_eq_true rfl, Nat.le_of_ble_eq_true rfl, Nat.le_of_ble_eq_true rfl, Nat.le_of_ble_eq_true rfl, rfl⟩ (s_12 kc ((m 8 (Int32.toNatClampNeg v3)) + (4 : Int32)) m4 _ h) ?_
        rintro _ m7 ⟨r6, rfl, h⟩
        refine it_V.at (pc1 := 47) (ls1 := [some (.ref 7), some (.int v1), some (.int v2), some (.int v3), some (.int (m 8 (Int32.toNatClampNeg v3)))]) (st1 := [(.int r6)]) (mem1 := m7) rfl rfl rfl rfl ?_
        refine it_V.sN it_cd159 it_m159 2 (pc1 := (if r6 = v2 then 51 else 76)) (ls1 := [some (.ref 7), some (.int v1), some (.int v2), some (.int v3), some (.int (m 8 (Int32.toNatClampNeg v3)))]) (st1 := []) (mem1 := m7) rfl ?_
        refine it_V.ite (fun c8 => ?_) (fun c8 => ?_)
        · have h := h.1 c8
          refine it_V.weak (l := [some (.ref 7), none, none, none, some (.int (m 8 (Int32.toNatClampNeg v3)))]) ⟨rfl, ⟨rfl, trivial⟩⟩ ?_
          exact hK51 (m 8 (Int32.toNatClampNeg v3)) m7 h
        · have h := h.2 c8
          refine it_V.weak (l := [some (.ref 7), some (.int v1), some (.int v2), some (.int v3), none]) ⟨rfl, ⟨rfl, ⟨rfl, ⟨rfl, trivial⟩⟩⟩⟩ ?_
          exact s_159_76 kc Φ _ _ _ ih hK51 hK82 v1 v2 v3 m7 h
      · have h := h.2 c5
        refine it_V.weak (l := [some (.ref 7), some (.int v1), some (.int v2), some (.int v3), none]) ⟨rfl, ⟨rfl, ⟨rfl, ⟨rfl, trivial⟩⟩⟩⟩ ?_
        exact s_159_76 kc Φ _ _ _ ih hK51 hK82 v1 v2 v3 m4 h
set_option maxRecDepth 100000 in
set_option maxHeartbeats 4000000 in
theorem s_159_75 (kc : it_Kc) (Φ : Int32 → it_Me → Prop) (u0 : Int32) (m : it_Me) (h : w_159_75 kc Φ u0 m) : it_V kc it_sh0 159 75 [none, none, none, none, none] [(.int u0)] m (it_Pi Φ) := by
  rw [w_159_75] at h
  exact it_V.ret it_cd159 it_m159 rfl rfl ⟨_, rfl, h⟩
set_option maxRecDepth 100000 in
set_option maxHeartbeats 4000000 in
theorem s_159_51 (kc : it_Kc) (Φ : Int32 → it_Me → Prop) (v4 : Int32) (m : it_Me) (h : w_159_51 kc Φ v4 m) : it_V kc it_sh0 159 51 [some (.ref 7), none, none, none, some (.int v4)] [] m (it_Pi Φ) := by
  rw [w_159_51] at h
  refine it_V.sN it_cd159 it_m159 5 (pc1 := 60) (ls1 := [some (.ref 7), none, none, none, some (.int v4)]) (st1 := [(.int (v4 + (8 : Int32))), (.ref 1)]) (mem1 := m) rfl ?_
  refine it_V.call it_cd159 it_m159 rfl it_m12 [(.ref 1), (.int (v4 + (8 : Int32)))] [] rfl rfl ⟨Nat.le_of_ble_eq_true rfl, Nat.le_of_ble_eq_true rfl, Nat.le_of_ble_eq_true rfl, Nat.le_of_ble_eq_true rfl, rfl⟩ (s_12 kc (v4 + (8 : Int32)) m _ h) ?_
  rintro _ m2 ⟨r1, rfl, h⟩
  refine it_V.at (pc1 := 63) (ls1 := [some (.ref 7), none, none, none, some (.int v4)]) (st1 := [(.int r1)]) (mem1 := m2) rfl rfl rfl rfl ?_
  refine it_V.sN it_cd159 it_m159 2 (pc1 := (if r1 = (255 : Int32) then 69 else 73)) (ls1 := [some (.ref 7), none, none, none, some (.int v4)]) (st1 := []) (mem1 := m2) rfl ?_
  refine it_V.ite (fun c3 => ?_) (fun c3 => ?_)
  · have h := h.1 c3
    refine it_V.sN it_cd159 it_m159 2 (pc1 := 75) (ls1 := [some (.ref 7), none, none, none, some (.int v4)]) (st1 := [(.int (0 : Int32))]) (mem1 := m2) rfl ?_
    refine it_V.weak (l := [none, none, none, none, none]) trivial ?_
    exact s_159_75 kc Φ (0 : Int32) m2 h
  · have h := h.2 c3
    refine it_V.sN it_cd159 it_m159 1 (pc1 := 75) (ls1 := [some (.ref 7), none, none, none, some (.int v4)]) (st1 := [(.int v4)]) (mem1 := m2) rfl ?_
    refine it_V.weak (l := [none, none, none, none, none]) trivial ?_
    exact s_159_75 kc Φ v4 m2 h
set_option maxRecDepth 100000 in
set_option maxHeartbeats 4000000 in
theorem s_159_82 (kc : it_Kc) (Φ : Int32 → it_Me → Prop) (m : it_Me) (h : w_159_82 kc Φ m) : it_V kc it_sh0 159 82 [none, none, none, none, none] [] m (it_Pi Φ) := by
  rw [w_159_82] at h
  refine it_V.sN it_cd159 it_m159 1 (pc1 := 83) (ls1 := [none, none, none, none, none]) (st1 := [(.int (0 : Int32))]) (mem1 := m) rfl ?_
  exact it_V.ret it_cd159 it_m159 rfl rfl ⟨_, rfl, h⟩
set_option maxRecDepth 100000 in
set_option maxHeartbeats 4000000 in
theorem s_159 (kc : it_Kc) (x0 : Int32) (x1 : Int32) (m : it_Me) (Φ : Int32 → it_Me → Prop) (h : w_159 kc x0 x1 m Φ) : it_V kc it_sh0 159 0 (it_loc0 [(.ref 7), (.int x0), (.int x1)] 5) [] m (it_Pi Φ) := by
  rw [w_159] at h
  refine it_V.at (pc1 := 0) (ls1 := [some (.ref 7), some (.int x0), some (.int x1), none, none]) (st1 := []) (mem1 := m) rfl rfl rfl rfl ?_
  refine it_V.sN it_cd159 it_m159 1 (pc1 := 1) (ls1 := [some (.ref 7), some (.int x0), some (.int x1), none, none]) (st1 := [(.ref 7)]) (mem1 := m) rfl ?_
  refine it_V.call it_cd159 it_m159 rfl it_m163 [(.ref 7)] [] rfl rfl ⟨Nat.le_of_ble_eq_true rfl, Nat.le_of_ble_eq_true rfl, Nat.le_of_ble_eq_true rfl, Nat.le_of_ble_eq_true rfl, rfl⟩ (s_163 kc m _ h) ?_
  rintro _ m1 ⟨rfl, h⟩
  refine it_V.at (pc1 := 4) (ls1 := [some (.ref 7), some (.int x0), some (.int x1), none, none]) (st1 := []) (mem1 := m1) rfl rfl rfl rfl ?_
  refine it_V.sN it_cd159 it_m159 5 (pc1 := 11) (ls1 := [some (.ref 7), some (.int x0), some (.int x1), some (.int ((m1 7 6) - (1 : Int32))), none]) (st1 := []) (mem1 := m1) rfl ?_
  obtain ⟨n, h⟩ := h
  exact s_159_11 kc Φ _ _ (fun v4 m h => s_159_51 kc Φ v4 m h) (fun m h => s_159_82 kc Φ m h) n x0 x1 ((m1 7 6) - (1 : Int32)) m1 h
set_option maxRecDepth 100000 in
set_option maxHeartbeats 4000000 in
theorem s_57_104 (kc : it_Kc) (Φ : it_Me → Prop) (v3 : Int32) (v5 : Int32) (u1 : Nat) (u2 : Int32) (u3 : Int32) (u4 : Int32) (hu1 : it_isP u1) (m : it_Me) (h : w_57_104 kc Φ v3 v5 u1 u2 u3 u4 m) : it_V kc it_sh0 57 104 [none, none, none, some (.int v3), none, some (.int v5), none] [(.int u4), (.int u3), (.int u2), (.ref u1), (.ref 9)] m (it_Pv Φ) := by
  rw [w_57_104] at h
  refine it_V.sN it_cd57 it_m57 2 (pc1 := 107) (ls1 := [none, none, none, some (.int v3), none, some (.int v5), none]) (st1 := [(.int v3), (.int v5), (.int u4), (.int u3), (.int u2), (.ref u1), (.ref 9)]) (mem1 := m) rfl ?_
  refine it_V.call it_cd57 it_m57 rfl it_m80 [(.ref 9), (.ref u1), (.int u2), (.int u3), (.int u4), (.int v5), (.int v3)] [] rfl rfl ⟨Nat.le_of_ble_eq_true rfl, Nat.le_of_ble_eq_true rfl, Nat.le_of_ble_eq_true rfl, Nat.le_of_ble_eq_true rfl, rfl⟩ (s_80 kc u1 u2 u3 u4 v5 v3 (hu1) m _ h) ?_
  rintro _ m1 ⟨rfl, h⟩
  refine it_V.at (pc1 := 110) (ls1 := [none, none, none, some (.int v3), none, some (.int v5), none]) (st1 := []) (mem1 := m1) rfl rfl rfl rfl ?_
  exact it_V.ret it_cd57 it_m57 rfl rfl ⟨rfl, h⟩
set_option maxRecDepth 100000 in
set_option maxHeartbeats 4000000 in
theorem s_57_82 (kc : it_Kc) (Φ : it_Me → Prop) (v1 : Nat) (v3 : Int32) (v4 : Int32) (v5 : Int32) (hv1 : it_isP v1) (m : it_Me) (h : w_57_82 kc Φ v1 v3 v4 v5 m) : it_V kc it_sh0 57 82 [some (.ref 59), some (.ref v1), none, some (.int v3), some (.int v4), some (.int v5), none] [] m (it_Pv Φ) := by
  rw [w_57_82] at h
  refine it_V.sN it_cd57 it_m57 1 (pc1 := 83) (ls1 := [some (.ref 59), some (.ref v1), none, some (.int v3), some (.int v4), some (.int v5), none]) (st1 := [(.ref v1)]) (mem1 := m) rfl ?_
  refine it_V.call it_cd57 it_m57 rfl it_m138 [(.ref v1)] [] rfl rfl ⟨Nat.le_of_ble_eq_true rfl, Nat.le_of_ble_eq_true rfl, Nat.le_of_ble_eq_true rfl, Nat.le_of_ble_eq_true rfl, (it_recvP (hv1).1)⟩ (s_138 kc v1 (hv1) m _ h) ?_
  rintro _ m1 ⟨rfl, h⟩
  refine it_V.at (pc1 := 86) (ls1 := [some (.ref 59), some (.ref v1), none, some (.int v3), some (.int v4), some (.int v5), none]) (st1 := []) (mem1 := m1) rfl rfl rfl rfl ?_
  refine it_V.sN it_cd57 it_m57 7 (pc1 := (if v4 = 0 then 102 else 98)) (ls1 := [some (.ref 59), some (.ref v1), none, some (.int v3), some (.int v4), some (.int v5), none]) (st1 := [(.int (0 : Int32)), (.int (5 : Int32)), (.ref v1), (.ref 9)]) (mem1 := m1) rfl ?_
  refine it_V.ite (fun c2 => ?_) (fun c2 => ?_)
  · have h := h.1 c2
    refine it_V.sN it_cd57 it_m57 1 (pc1 := 104) (ls1 := [some (.ref 59), some (.ref v1), none, some (.int v3), some (.int v4), some (.int v5), none]) (st1 := [(.int (10 : Int32)), (.int (0 : Int32)), (.int (5 : Int32)), (.ref v1), (.ref 9)]) (mem1 := m1) rfl ?_
    refine it_V.weak (l := [none, none, none, some (.int v3), none, some (.int v5), none]) ⟨rfl, ⟨rfl, trivial⟩⟩ ?_
    exact s_57_104 kc Φ v3 v5 v1 (5 : Int32) (0 : Int32) (10 : Int32) (hv1) m1 h
  · have h := h.2 c2
    refine it_V.sN it_cd57 it_m57 2 (pc1 := 104) (ls1 := [some (.ref 59), some (.ref v1), none, some (.int v3), some (.int v4), some (.int v5), none]) (st1 := [(.int (0 : Int32)), (.int (0 : Int32)), (.int (5 : Int32)), (.ref v1), (.ref 9)]) (mem1 := m1) rfl ?_
    refine it_V.weak (l := [none, none, none, some (.int v3), none, some (.int v5), none]) ⟨rfl, ⟨rfl, trivial⟩⟩ ?_
    exact s_57_104 kc Φ v3 v5 v1 (5 : Int32) (0 : Int32) (0 : Int32) (hv1) m1 h
set_option maxRecDepth 100000 in
set_option maxHeartbeats 4000000 in
theorem s_57 (kc : it_Kc) (x0 : Nat) (x1 : Int32) (x2 : Int32) (hx0 : it_isP x0) (m : it_Me) (Φ : it_Me → Prop) (h : w_57 kc x0 x1 x2 m Φ) : it_V kc it_sh0 57 0 (it_loc0 [(.ref 59), (.ref x0), (.int x1), (.int x2)] 7) [] m (it_Pv Φ) := by
  rw [w_57] at h
  refine it_V.at (pc1 := 0) (ls1 := [some (.ref 59), some (.ref x0), some (.int x1), some (.int x2), none, none, none]) (st1 := []) (mem1 := m) rfl rfl rfl rfl ?_
  refine it_V.sN it_cd57 it_m57 4 (pc1 := 6) (ls1 := [some (.ref 59), some (.ref x0), some (.int x1), some (.int x2), none, none, none]) (st1 := [(.int x2), (.int x1), (.ref 7)]) (mem1 := m) rfl ?_
  refine it_V.call it_cd57 it_m57 rfl it_m159 [(.ref 7), (.int x1), (.int x2)] [] rfl rfl ⟨Nat.le_of_ble_eq_true rfl, Nat.le_of_ble_eq_true rfl, Nat.le_of_ble_eq_true rfl, Nat.le_of_ble_eq_true rfl, rfl⟩ (s_159 kc x1 x2 m _ h) ?_
  rintro _ m2 ⟨r1, rfl, h⟩
  refine it_V.at (pc1 := 9) (ls1 := [some (.ref 59), some (.ref x0), some (.int x1), some (.int x2), none, none, none]) (st1 := [(.int r1)]) (mem1 := m2) rfl rfl rfl rfl ?_
  refine it_V.sN it_cd57 it_m57 5 (pc1 := (if r1 = 0 then 82 else 19)) (ls1 := [some (.ref 59), some (.ref x0), some (.int x1), some (.int x2), some (.int r1), some (.int (0 : Int32)), none]) (st1 := []) (mem1 := m2) rfl ?_
  refine it_V.ite (fun c3 => ?_) (fun c3 => ?_)
  · have h := h.1 c3
    refine it_V.weak (l := [some (.ref 59), some (.ref x0), none, some (.int x2), some (.int r1), some (.int (0 : Int32)), none]) ⟨rfl, ⟨rfl, ⟨rfl, ⟨rfl, ⟨rfl, trivial⟩⟩⟩⟩⟩ ?_
    exact s_57_82 kc Φ x0 x2 r1 (0 : Int32) (hx0) m2 h
  · have h := h.2 c3
    refine it_V.sN it_cd57 it_m57 5 (pc1 := 28) (ls1 := [some (.ref 59), some (.ref x0), some (.int x1), some (.int x2), some (.int r1), some (.int (0 : Int32)), none]) (st1 := [(.int (r1 + (8 : Int32))), (.ref 1)]) (mem1 := m2) rfl ?_
    refine it_V.call it_cd57 it_m57 rfl it_m12 [(.ref 1), (.int (r1 + (8 : Int32)))] [] rfl rfl ⟨Nat.le_of_ble_eq_true rfl, Nat.le_of_ble_eq_true rfl, Nat.le_of_ble_eq_true rfl, Nat.le_of_ble_eq_true rfl, rfl⟩ (s_12 kc (r1 + (8 : Int32)) m2 _ h) ?_
    rintro _ m5 ⟨r4, rfl, h⟩
    refine it_V.at (pc1 := 31) (ls1 := [some (.ref 59), some (.ref x0), some (.int x1), some (.int x2), some (.int r1), some (.int (0 : Int32)), none]) (st1 := [(.int r4)]) (mem1 := m5) rfl rfl rfl rfl ?_
    refine it_V.sN it_cd57 it_m57 6 (pc1 := 40) (ls1 := [some (.ref 59), some (.ref x0), some (.int x1), some (.int x2), some (.int r1), some (.int r4), none]) (st1 := [(.int (0 : Int32)), (.int (5 : Int32)), (.ref x0), (.ref 9)]) (mem1 := m5) rfl ?_
    refine it_V.call it_cd57 it_m57 rfl it_m89 [(.ref 9), (.ref x0), (.int (5 : Int32)), (.int (0 : Int32))] [] rfl rfl ⟨Nat.le_of_ble_eq_true rfl, Nat.le_of_ble_eq_true rfl, Nat.le_of_ble_eq_true rfl, Nat.le_of_ble_eq_true rfl, rfl⟩ (s_89 kc x0 (5 : Int32) (0 : Int32) (hx0) m5 _ h) ?_
    rintro _ m7 ⟨r6, rfl, h⟩
    refine it_V.at (pc1 := 43) (ls1 := [some (.ref 59), some (.ref x0), some (.int x1), some (.int x2), some (.int r1), some (.int r4), none]) (st1 := [(.int r6)]) (mem1 := m7) rfl rfl rfl rfl ?_
    refine it_V.sN it_cd57 it_m57 9 (pc1 := 60) (ls1 := [some (.ref 59), some (.ref x0), some (.int x1), some (.int x2), some (.int r1), some (.int r4), some (.int r6)]) (st1 := [(.int r6), (.ref 1), (.int (r1 + (12 : Int32))), (.ref 1)]) (mem1 := m7) rfl ?_
    refine it_V.call it_cd57 it_m57 rfl it_m12 [(.ref 1), (.int r6)] [(.int (r1 + (12 : Int32))), (.ref 1)] rfl rfl ⟨Nat.le_of_ble_eq_true rfl, Nat.le_of_ble_eq_true rfl, Nat.le_of_ble_eq_true rfl, Nat.le_of_ble_eq_true rfl, rfl⟩ (s_12 kc r6 m7 _ h) ?_
    rintro _ m9 ⟨r8, rfl, h⟩
    refine it_V.at (pc1 := 63) (ls1 := [some (.ref 59), some (.ref x0), some (.int x1), some (.int x2), some (.int r1), some (.int r4), some (.int r6)]) (st1 := [(.int r8), (.int (r1 + (12 : Int32))), (.ref 1)]) (mem1 := m9) rfl rfl rfl rfl ?_
    refine it_V.sN it_cd57 it_m57 6 (pc1 := 73) (ls1 := [some (.ref 59), some (.ref x0), some (.int x1), some (.int x2), some (.int r1), some (.int r4), some (.int r6)]) (st1 := [(.int (r6 + (4 : Int32))), (.ref 1), (.int r4), (.int r8), (.int (r1 + (12 : Int32))), (.ref 1)]) (mem1 := m9) rfl ?_
    refine it_V.call it_cd57 it_m57 rfl it_m12 [(.ref 1), (.int (r6 + (4 : Int32)))] [(.int r4), (.int r8), (.int (r1 + (12 : Int32))), (.ref 1)] rfl rfl ⟨Nat.le_of_ble_eq_true rfl, Nat.le_of_ble_eq_true rfl, Nat.le_of_ble_eq_true rfl, Nat.le_of_ble_eq_true rfl, rfl⟩ (s_12 kc (r6 + (4 : Int32)) m9 _ h) ?_
    rintro _ m11 ⟨r10, rfl, h⟩
    refine it_V.at (pc1 := 76) (ls1 := [some (.ref 59), some (.ref x0), some (.int x1), some (.int x2), some (.int r1), some (.int r4), some (.int r6)]) (st1 := [(.int r10), (.int r4), (.int r8), (.int (r1 + (12 : Int32))), (.ref 1)]) (mem1 := m11) rfl rfl rfl rfl ?_
    refine it_V.call it_cd57 it_m57 rfl it_m214 [(.int r4), (.int r10)] [(.int r8), (.int (r1 + (12 : Int32))), (.ref 1)] rfl rfl ⟨Nat.le_of_ble_eq_true rfl, Nat.le_of_ble_eq_true rfl, Nat.le_of_ble_eq_true rfl, Nat.le_of_ble_eq_true rfl, rfl⟩ (s_214 kc r4 r10 m11 _ h) ?_
    rintro _ m13 ⟨r12, rfl, h⟩
    refine it_V.at (pc1 := 79) (ls1 := [some (.ref 59), some (.ref x0), some (.int x1), some (.int x2), some (.int r1), some (.int r4), some (.int r6)]) (st1 := [(.int r12), (.int r8), (.int (r1 + (12 : Int32))), (.ref 1)]) (mem1 := m13) rfl rfl rfl rfl ?_
    refine it_V.call it_cd57 it_m57 rfl it_m19 [(.ref 1), (.int (r1 + (12 : Int32))), (.int r8), (.int r12)] [] rfl rfl ⟨Nat.le_of_ble_eq_true rfl, Nat.le_of_ble_eq_true rfl, Nat.le_of_ble_eq_true rfl, Nat.le_of_ble_eq_true rfl, rfl⟩ (s_19 kc (r1 + (12 : Int32)) r8 r12 m13 _ h) ?_
    rintro _ m14 ⟨rfl, h⟩
    refine it_V.at (pc1 := 82) (ls1 := [some (.ref 59), some (.ref x0), some (.int x1), some (.int x2), some (.int r1), some (.int r4), some (.int r6)]) (st1 := []) (mem1 := m14) rfl rfl rfl rfl ?_
    refine it_V.weak (l := [some (.ref 59), some (.ref x0), none, some (.int x2), some (.int r1), some (.int r4), none]) ⟨rfl, ⟨rfl, ⟨rfl, ⟨rfl, ⟨rfl, trivial⟩⟩⟩⟩⟩ ?_
    exact s_57_82 kc Φ x0 x2 r1 r4 (hx0) m14 h
set_option maxRecDepth 100000 in
set_option maxHeartbeats 4000000 in
theorem s_60_28 (kc : it_Kc) (Φ : it_Me → Prop) (m : it_Me) (h : w_60_28 kc Φ m) : it_V kc it_sh0 60 28 [none, none, none, none, none] [] m (it_Pv Φ) := by
  rw [w_60_28] at h
  exact it_V.ret it_cd60 it_m60 rfl rfl ⟨rfl, h⟩
set_option maxRecDepth 100000 in
set_option maxHeartbeats 4000000 in
theorem s_60 (kc : it_Kc) (x0 : Nat) (x1 : Int32) (x2 : Int32) (x3 : Int32) (hx0 : it_isP x0) (m : it_Me) (Φ : it_Me → Prop) (h : w_60 kc x0 x1 x2 x3 m Φ) : it_V kc it_sh0 60 0 (it_loc0 [(.ref 59), (.ref x0), (.int x1), (.int x2), (.int x3)] 5) [] m (it_Pv Φ) := by
  rw [w_60] at h
  refine it_V.at (pc1 := 0) (ls1 := [some (.ref 59), some (.ref x0), some (.int x1), some (.int x2), some (.int x3)]) (st1 := []) (mem1 := m) rfl rfl rfl rfl ?_
  refine it_V.sN it_cd60 it_m60 4 (pc1 := (if (m 7 4) = 0 then 10 else 28)) (ls1 := [some (.ref 59), some (.ref x0), some (.int x1), some (.int x2), some (.int x3)]) (st1 := []) (mem1 := m) rfl ?_
  refine it_V.ite (fun c1 => ?_) (fun c1 => ?_)
  · have h := h.1 c1
    refine it_V.sN it_cd60 it_m60 1 (pc1 := 11) (ls1 := [some (.ref 59), some (.ref x0), some (.int x1), some (.int x2), some (.int x3)]) (st1 := [(.ref x0)]) (mem1 := m) rfl ?_
    refine it_V.call it_cd60 it_m60 rfl it_m138 [(.ref x0)] [] rfl rfl ⟨Nat.le_of_ble_eq_true rfl, Nat.le_of_ble_eq_true rfl, Nat.le_of_ble_eq_true rfl, Nat.le_of_ble_eq_true rfl, (it_recvP (hx0).1)⟩ (s_138 kc x0 (hx0) m _ h) ?_
    rintro _ m2 ⟨rfl, h⟩
    refine it_V.at (pc1 := 14) (ls1 := [some (.ref 59), some (.ref x0), some (.int x1), some (.int x2), some (.int x3)]) (st1 := []) (mem1 := m2) rfl rfl rfl rfl ?_
    refine it_V.sN it_cd60 it_m60 8 (pc1 := 25) (ls1 := [some (.ref 59), some (.ref x0), some (.int x1), some (.int x2), some (.int x3)]) (st1 := [(.int x3), (.int x2), (.int x1), (.int (0 : Int32)), (.int (5 : Int32)), (.ref x0), (.ref 9)]) (mem1 := m2) rfl ?_
    refine it_V.call it_cd60 it_m60 rfl it_m80 [(.ref 9), (.ref x0), (.int (5 : Int32)), (.int (0 : Int32)), (.int x1), (.int x2), (.int x3)] [] rfl rfl ⟨Nat.le_of_ble_eq_true rfl, Nat.le_of_ble_eq_true rfl, Nat.le_of_ble_eq_true rfl, Nat.le_of_ble_eq_true rfl, rfl⟩ (s_80 kc x0 (5 : Int32) (0 : Int32) x1 x2 x3 (hx0) m2 _ h) ?_
    rintro _ m3 ⟨rfl, h⟩
    refine it_V.at (pc1 := 28) (ls1 := [some (.ref 59), some (.ref x0), some (.int x1), some (.int x2), some (.int x3)]) (st1 := []) (mem1 := m3) rfl rfl rfl rfl ?_
    refine it_V.weak (l := [none, none, none, none, none]) trivial ?_
    exact s_60_28 kc Φ m3 h
  · have h := h.2 c1
    refine it_V.weak (l := [none, none, none, none, none]) trivial ?_
    exact s_60_28 kc Φ m h
set_option maxRecDepth 100000 in
set_option maxHeartbeats 4000000 in
theorem s_161_5 (kc : it_Kc) (Φ : Int32 → it_Me → Prop) (K42 : Int32 → it_Me → Prop) (hK42 : ∀ (v3 : Int32) (m : it_Me), K42 v3 m → it_V kc it_sh0 161 42 [none, none, none, some (.int v3), none] [] m (it_Pi Φ)) : ∀ (n : Nat) (v1 : Int32) (v2 : Int32) (v3 : Int32) (v4 : Int32) (m : it_Me) (h : w_161_5 kc Φ K42 n v1 v2 v3 v4 m), it_V kc it_sh0 161 5 [some (.ref 7), some (.int v1), some (.int v2), some (.int v3), some (.int v4)] [] m (it_Pi Φ) := by
  intro n
  induction n with
  | zero => intro v1 v2 v3 v4 m h; exact absurd h id
  | succ n ih =>
    intro v1 v2 v3 v4 m h
    rw [w_161_5] at h
    refine it_V.sN it_cd161 it_m161 3 (pc1 := (if (4 : Int32) ≤ v4 then 42 else 11)) (ls1 := [some (.ref 7), some (.int v1), some (.int v2), some (.int v3), some (.int v4)]) (st1 := []) (mem1 := m) rfl ?_
    refine it_V.ite (fun c1 => ?_) (fun c1 => ?_)
    · have h := h.1 c1
      refine it_V.weak (l := [none, none, none, some (.int v3), none]) ⟨rfl, trivial⟩ ?_
      exact hK42 v3 m h
    · have h := h.2 c1
      refine it_V.sN it_cd161 it_m161 3 (pc1 := (if v2 ≤ v4 then 42 else 17)) (ls1 := [some (.ref 7), some (.int v1), some (.int v2), some (.int v3), some (.int v4)]) (st1 := []) (mem1 := m) rfl ?_
      refine it_V.ite (fun c2 => ?_) (fun c2 => ?_)
      · have h := h.1 c2
        refine it_V.weak (l := [none, none, none, some (.int v3), none]) ⟨rfl, trivial⟩ ?_
        exact hK42 v3 m h
      · have h := h.2 c2
        refine it_V.sN it_cd161 it_m161 6 (pc1 := 26) (ls1 := [some (.ref 7), some (.int v1), some (.int v2), some (.int v3), some (.int v4)]) (st1 := [(.int (v1 + v4)), (.ref 1), (.int v3)]) (mem1 := m) rfl ?_
        refine it_V.call it_cd161 it_m161 rfl it_m16 [(.ref 1), (.int (v1 + v4))] [(.int v3)] rfl rfl ⟨Nat.le_of_ble_eq_true rfl, Nat.le_of_ble_eq_true rfl, Nat.le_of_ble_eq_true rfl, Nat.le_of_ble_eq_true rfl, rfl⟩ (s_16 kc (v1 + v4) m _ h) ?_
        rintro _ m4 ⟨r3, rfl, h⟩
        refine it_V.at (pc1 := 29) (ls1 := [some (.ref 7), some (.int v1), some (.int v2), some (.int v3), some (.int v4)]) (st1 := [(.int r3), (.int v3)]) (mem1 := m4) rfl rfl rfl rfl ?_
        refine it_V.sN it_cd161 it_m161 8 (pc1 := 5) (ls1 := [some (.ref 7), some (.int v1), some (.int v2), some (.int (v3 ||| (it_shl r3 (it_shl v4 (3 : Int32))))), some (.int (v4 + (1 : Int32)))]) (st1 := []) (mem1 := m4) rfl ?_
        exact ih v1 v2 (v3 ||| (it_shl r3 (it_shl v4 (3 : Int32)))) (v4 + (1 : Int32)) m4 h
set_option maxRecDepth 100000 in
set_option maxHeartbeats 4000000 in
theorem s_161_42 (kc : it_Kc) (Φ : Int32 → it_Me → Prop) (v3 : Int32) (m : it_Me) (h : w_161_42 kc Φ v3 m) : it_V kc it_sh0 161 42 [none, none, none, some (.int v3), none] [] m (it_Pi Φ) := by
  rw [w_161_42] at h
  refine it_V.sN it_cd161 it_m161 1 (pc1 := 43) (ls1 := [none, none, none, some (.int v3), none]) (st1 := [(.int v3)]) (mem1 := m) rfl ?_
  exact it_V.ret it_cd161 it_m161 rfl rfl ⟨_, rfl, h⟩
set_option maxRecDepth 100000 in
set_option maxHeartbeats 4000000 in
theorem s_161 (kc : it_Kc) (x0 : Int32) (x1 : Int32) (m : it_Me) (Φ : Int32 → it_Me → Prop) (h : w_161 kc x0 x1 m Φ) : it_V kc it_sh0 161 0 (it_loc0 [(.ref 7), (.int x0), (.int x1)] 5) [] m (it_Pi Φ) := by
  rw [w_161] at h
  refine it_V.at (pc1 := 0) (ls1 := [some (.ref 7), some (.int x0), some (.int x1), none, none]) (st1 := []) (mem1 := m) rfl rfl rfl rfl ?_
  refine it_V.sN it_cd161 it_m161 4 (pc1 := 5) (ls1 := [some (.ref 7), some (.int x0), some (.int x1), some (.int (0 : Int32)), some (.int (0 : Int32))]) (st1 := []) (mem1 := m) rfl ?_
  obtain ⟨n, h⟩ := h
  exact s_161_5 kc Φ _ (fun v3 m h => s_161_42 kc Φ v3 m h) n x0 x1 (0 : Int32) (0 : Int32) m h
set_option maxRecDepth 100000 in
set_option maxHeartbeats 4000000 in
theorem s_167_84 (kc : it_Kc) (Φ : Int32 → it_Me → Prop) (K35 : Int32 → Int32 → Int32 → it_Me → Prop) (K82 : it_Me → Prop) (K90 : it_Me → Prop) (hK35 : ∀ (v2 : Int32) (v3 : Int32) (v4 : Int32) (m : it_Me), K35 v2 v3 v4 m → it_V kc it_sh0 167 35 [some (.ref 7), none, some (.int v2), some (.int v3), some (.int v4)] [] m (it_Pi Φ)) (hK82 : ∀ (m : it_Me), K82 m → it_V kc it_sh0 167 82 [none, none, none, none, none] [] m (it_Pi Φ)) (hK90 : ∀ (m : it_Me), K90 m → it_V kc it_sh0 167 90 [none, none, none, none, none] [] m (it_Pi Φ)) (v2 : Int32) (v3 : Int32) (v4 : Int32) (m : it_Me) (h : w_167_84 kc Φ K35 K82 K90 v2 v3 v4 m) : it_V kc it_sh0 167 84 [some (.ref 7), none, some (.int v2), some (.int v3), some (.int v4)] [] m (it_Pi Φ) := by
  rw [w_167_84] at h
  refine it_V.sN it_cd167 it_m167 2 (pc1 := 35) (ls1 := [some (.ref 7), none, some (.int v2), some (.int v3), some (.int (v4 + (1 : Int32)))]) (st1 := []) (mem1 := m) rfl ?_
  refine it_V.weak (l := [some (.ref 7), none, some (.int v2), some (.int v3), some (.int (v4 + (1 : Int32)))]) ⟨rfl, ⟨rfl, ⟨rfl, ⟨rfl, trivial⟩⟩⟩⟩ ?_
  exact hK35 v2 v3 (v4 + (1 : Int32)) m h
set_option maxRecDepth 100000 in
set_option maxHeartbeats 4000000 in
theorem s_167_35 (kc : it_Kc) (Φ : Int32 → it_Me → Prop) (K82 : it_Me → Prop) (K90 : it_Me → Prop) (hK82 : ∀ (m : it_Me), K82 m → it_V kc it_sh0 167 82 [none, none, none, none, none] [] m (it_Pi Φ)) (hK90 : ∀ (m : it_Me), K90 m → it_V kc it_sh0 167 90 [none, none, none, none, none] [] m (it_Pi Φ)) : ∀ (n : Nat) (v2 : Int32) (v3 : Int32) (v4 : Int32) (m : it_Me) (h : w_167_35 kc Φ K82 K90 n v2 v3 v4 m), it_V kc it_sh0 167 35 [some (.ref 7), none, some (.int v2), some (.int v3), some (.int v4)] [] m (it_Pi Φ) := by
  intro n
  induction n with
  | zero => intro v2 v3 v4 m h; exact absurd h id
  | succ n ih =>
    intro v2 v3 v4 m h
    rw [w_167_35] at h
    refine it_V.sN it_cd167 it_m167 4 (pc1 := (if (m 7 6) ≤ v4 then 90 else 44)) (ls1 := [some (.ref 7), none, some (.int v2), some (.int v3), some (.int v4)]) (st1 := []) (mem1 := m) rfl ?_
    refine it_V.ite (fun c1 => ?_) (fun c1 => ?_)
    · have h := h.1 c1
      refine it_V.weak (l := [none, none, none, none, none]) trivial ?_
      exact hK90 m h
    · have h := h.2 c1
      refine it_V.sN it_cd167 it_m167 5 (pc1 := 54) (ls1 := [some (.ref 7), none, some (.int v2), some (.int v3), some (.int v4)]) (st1 := [(.int v4), (.ref 8), (.ref 1)]) (mem1 := m) rfl ?_
      obtain ⟨g2, h⟩ := h
      refine it_V.iald it_cd167 it_m167 rfl ((⟨rfl, by decide⟩ : it_isR 8 128)).2 ((⟨rfl, by decide⟩ : it_isR 8 128)).1 g2 ?_
      refine it_V.at (pc1 := 55) (ls1 := [some (.ref 7), none, some (.int v2), some (.int v3), some (.int v4)]) (st1 := [(.int (m 8 (Int32.toNatClampNeg v4))), (.ref 1)]) (mem1 := m) rfl rfl rfl rfl ?_
      refine it_V.call it_cd167 it_m167 rfl it_m12 [(.ref 1), (.int (m 8 (Int32.toNatClampNeg v4)))] [] rfl rfl ⟨Nat.le_of_ble_eq_true rfl, Nat.le_of_ble_eq_true rfl, Nat.le_of_ble_eq_true rfl, Nat.le_of_ble_eq_true rfl, rfl⟩ (s_12 kc (m 8 (Int32.toNatClampNeg v4)) m _ h) ?_
      rintro _ m4 ⟨r3, rfl, h⟩
      refine it_V.at (pc1 := 58) (ls1 := [some (.ref 7), none, some (.int v2), some (.int v3), some (.int v4)]) (st1 := [(.int r3)]) (mem1 := m4) rfl rfl rfl rfl ?_
      refine it_V.sN it_cd167 it_m167 2 (pc1 := (if r3 = v2 then 62 else 84)) (ls1 := [some (.ref 7), none, some (.int v2), some (.int v3), some (.int v4)]) (st1 := []) (mem1 := m4) rfl ?_
      refine it_V.ite (fun c5 => ?_) (fun c5 => ?_)
      · have h := h.1 c5
        refine it_V.sN it_cd167 it_m167 5 (pc1 := 72) (ls1 := [some (.ref 7), none, some (.int v2), some (.int v3), some (.int v4)]) (st1 := [(.int v4), (.ref 8), (.ref 1)]) (mem1 := m4) rfl ?_
        obtain ⟨g6, h⟩ := h
        refine it_V.iald it_cd167 it_m167 rfl ((⟨rfl, by decide⟩ : it_isR 8 128)).2 ((⟨rfl, by decide⟩ : it_isR 8 128)).1 g6 ?_
        refine it_V.at (pc1 := 73) (ls1 := [some (.ref 7), none, some (.int v2), some (.int v3), some (.int v4)]) (st1 := [(.int (m4 8 (Int32.toNatClampNeg v4))), (.ref 1)]) (mem1 := m4) rfl rfl rfl rfl ?_
        refine it_V.sN it_cd167 it_m167 2 (pc1 := 75) (ls1 := [some (.ref 7), none, some (.int v2), some (.int v3), some (.int v4)]) (st1 := [(.int ((m4 8 (Int32.toNatClampNeg v4)) + (4 : Int32))), (.ref 1)]) (mem1 := m4) rfl ?_
        refine it_V.call it_cd167 it_m167 rfl it_m12 [(.ref 1), (.int ((m4 8 (Int32.toNatClampNeg v4)) + (4 : Int32)))] [] rfl rfl ⟨Nat.le_of_ble_eq_true rfl, Nat.le_of_ble_eq_true rfl, Nat.le_of_ble_eq_true rfl, Nat.le_of_ble_eq_true rfl, rfl⟩ (s_12 kc ((m4 8 (Int32.toNatClampNeg v4)) + (4 : Int32)) m4 _ h) ?_
        rintro _ m8 ⟨r7, rfl, h⟩
        refine it_V.at (pc1 := 78) (ls1 := [some (.ref 7), none, some (.int v2), some (.int v3), some (.int v4)]) (st1 := [(.int r7)]) (mem1 := m8) rfl rfl rfl rfl ?_
        refine it_V.sN it_cd167 it_m167 2 (pc1 := (if r7 = v3 then 82 else 84)) (ls1 := [some (.ref 7), none, some (.int v2), some (.int v3), some (.int v4)]) (st1 := []) (mem1 := m8) rfl ?_
        refine it_V.ite (fun c9 => ?_) (fun c9 => ?_)
        · have h := h.1 c9
          refine it_V.weak (l := [none, none, none, none, none]) trivial ?_
          exact hK82 m8 h
        · have h := h.2 c9
          refine it_V.weak (l := [some (.ref 7), none, some (.int v2), some (.int v3), some (.int v4)]) ⟨rfl, ⟨rfl, ⟨rfl, ⟨rfl, trivial⟩⟩⟩⟩ ?_
          exact s_167_84 kc Φ _ _ _ ih hK82 hK90 v2 v3 v4 m8 h
      · have h := h.2 c5
        refine it_V.weak (l := [some (.ref 7), none, some (.int v2), some (.int v3), some (.int v4)]) ⟨rfl, ⟨rfl, ⟨rfl, ⟨rfl, trivial⟩⟩⟩⟩ ?_
        exact s_167_84 kc Φ _ _ _ ih hK82 hK90 v2 v3 v4 m4 h
set_option maxRecDepth 100000 in
set_option maxHeartbeats 4000000 in
theorem s_167_82 (kc : it_Kc) (Φ : Int32 → it_Me → Prop) (m : it_Me) (h : w_167_82 kc Φ m) : it_V kc it_sh0 167 82 [none, none, none, none, none] [] m (it_Pi Φ) := by
  rw [w_167_82] at h
  refine it_V.sN it_cd167 it_m167 1 (pc1 := 83) (ls1 := [none, none, none, none, none]) (st1 := [(.int (0 : Int32))]) (mem1 := m) rfl ?_
  exact it_V.ret it_cd167 it_m167 rfl rfl ⟨_, rfl, h⟩
set_option maxRecDepth 100000 in
set_option maxHeartbeats 4000000 in
theorem s_167_90 (kc : it_Kc) (Φ : Int32 → it_Me → Prop) (m : it_Me) (h : w_167_90 kc Φ m) : it_V kc it_sh0 167 90 [none, none, none, none, none] [] m (it_Pi Φ) := by
  rw [w_167_90] at h
  refine it_V.sN it_cd167 it_m167 1 (pc1 := 91) (ls1 := [none, none, none, none, none]) (st1 := [(.int (1 : Int32))]) (mem1 := m) rfl ?_
  exact it_V.ret it_cd167 it_m167 rfl rfl ⟨_, rfl, h⟩
set_option maxRecDepth 100000 in
set_option maxHeartbeats 4000000 in
theorem s_167 (kc : it_Kc) (x0 : Int32) (m : it_Me) (Φ : Int32 → it_Me → Prop) (h : w_167 kc x0 m Φ) : it_V kc it_sh0 167 0 (it_loc0 [(.ref 7), (.int x0)] 5) [] m (it_Pi Φ) := by
  rw [w_167] at h
  refine it_V.at (pc1 := 0) (ls1 := [some (.ref 7), some (.int x0), none, none, none]) (st1 := []) (mem1 := m) rfl rfl rfl rfl ?_
  refine it_V.sN it_cd167 it_m167 5 (pc1 := 9) (ls1 := [some (.ref 7), some (.int x0), none, none, none]) (st1 := [(.int x0), (.ref 8), (.ref 1)]) (mem1 := m) rfl ?_
  obtain ⟨g1, h⟩ := h
  refine it_V.iald it_cd167 it_m167 rfl ((⟨rfl, by decide⟩ : it_isR 8 128)).2 ((⟨rfl, by decide⟩ : it_isR 8 128)).1 g1 ?_
  refine it_V.at (pc1 := 10) (ls1 := [some (.ref 7), some (.int x0), none, none, none]) (st1 := [(.int (m 8 (Int32.toNatClampNeg x0))), (.ref 1)]) (mem1 := m) rfl rfl rfl rfl ?_
  refine it_V.call it_cd167 it_m167 rfl it_m12 [(.ref 1), (.int (m 8 (Int32.toNatClampNeg x0)))] [] rfl rfl ⟨Nat.le_of_ble_eq_true rfl, Nat.le_of_ble_eq_true rfl, Nat.le_of_ble_eq_true rfl, Nat.le_of_ble_eq_true rfl, rfl⟩ (s_12 kc (m 8 (Int32.toNatClampNeg x0)) m _ h) ?_
  rintro _ m3 ⟨r2, rfl, h⟩
  refine it_V.at (pc1 := 13) (ls1 := [some (.ref 7), some (.int x0), none, none, none]) (st1 := [(.int r2)]) (mem1 := m3) rfl rfl rfl rfl ?_
  refine it_V.sN it_cd167 it_m167 6 (pc1 := 23) (ls1 := [some (.ref 7), some (.int x0), some (.int r2), none, none]) (st1 := [(.int x0), (.ref 8), (.ref 1)]) (mem1 := m3) rfl ?_
  obtain ⟨g4, h⟩ := h
  refine it_V.iald it_cd167 it_m167 rfl ((⟨rfl, by decide⟩ : it_isR 8 128)).2 ((⟨rfl, by decide⟩ : it_isR 8 128)).1 g4 ?_
  refine it_V.at (pc1 := 24) (ls1 := [some (.ref 7), some (.int x0), some (.int r2), none, none]) (st1 := [(.int (m3 8 (Int32.toNatClampNeg x0))), (.ref 1)]) (mem1 := m3) rfl rfl rfl rfl ?_
  refine it_V.sN it_cd167 it_m167 2 (pc1 := 26) (ls1 := [some (.ref 7), some (.int x0), some (.int r2), none, none]) (st1 := [(.int ((m3 8 (Int32.toNatClampNeg x0)) + (4 : Int32))), (.ref 1)]) (mem1 := m3) rfl ?_
  refine it_V.call it_cd167 it_m167 rfl it_m12 [(.ref 1), (.int ((m3 8 (Int32.toNatClampNeg x0)) + (4 : Int32)))] [] rfl rfl ⟨Nat.le_of_ble_eq_true rfl, Nat.le_of_ble_eq_true rfl, Nat.le_of_ble_eq_true rfl, Nat.le_of_ble_eq_true rfl, rfl⟩ (s_12 kc ((m3 8 (Int32.toNatClampNeg x0)) + (4 : Int32)) m3 _ h) ?_
  rintro _ m6 ⟨r5, rfl, h⟩
  refine it_V.at (pc1 := 29) (ls1 := [some (.ref 7), some (.int x0), some (.int r2), none, none]) (st1 := [(.int r5)]) (mem1 := m6) rfl rfl rfl rfl ?_
  refine it_V.sN it_cd167 it_m167 5 (pc1 := 35) (ls1 := [some (.ref 7), some (.int x0), some (.int r2), some (.int r5), some (.int (x0 + (1 : Int32)))]) (st1 := []) (mem1 := m6) rfl ?_
  refine it_V.weak (l := [some (.ref 7), none, some (.int r2), some (.int r5), some (.int (x0 + (1 : Int32)))]) ⟨rfl, ⟨rfl, ⟨rfl, ⟨rfl, trivial⟩⟩⟩⟩ ?_
  obtain ⟨n, h⟩ := h
  exact s_167_35 kc Φ _ _ (fun m h => s_167_82 kc Φ m h) (fun m h => s_167_90 kc Φ m h) n r2 r5 (x0 + (1 : Int32)) m6 h
set_option maxRecDepth 100000 in
set_option maxHeartbeats 4000000 in
theorem s_170_36 (kc : it_Kc) (Φ : Int32 → it_Me → Prop) (m : it_Me) (h : w_170_36 kc Φ m) : it_V kc it_sh0 170 36 [some (.ref 7)] [] m (it_Pi Φ) := by
  rw [w_170_36] at h
  refine it_V.sN it_cd170 it_m170 5 (pc1 := 45) (ls1 := [some (.ref 7)]) (st1 := [(.int (4 : Int32)), (.ref 5), (.int (4 : Int32)), (.ref 5)]) (mem1 := m) rfl ?_
  obtain ⟨g1, h⟩ := h
  refine it_V.iald it_cd170 it_m170 rfl ((⟨rfl, by decide⟩ : it_isR 5 12)).2 ((⟨rfl, by decide⟩ : it_isR 5 12)).1 g1 ?_
  refine it_V.at (pc1 := 46) (ls1 := [some (.ref 7)]) (st1 := [(.int (m 5 (Int32.toNatClampNeg (4 : Int32)))), (.int (4 : Int32)), (.ref 5)]) (mem1 := m) rfl rfl rfl rfl ?_
  refine it_V.sN it_cd170 it_m170 2 (pc1 := 48) (ls1 := [some (.ref 7)]) (st1 := [(.int ((m 5 (Int32.toNatClampNeg (4 : Int32))) + (1 : Int32))), (.int (4 : Int32)), (.ref 5)]) (mem1 := m) rfl ?_
  obtain ⟨g2, h⟩ := h
  refine it_V.iast it_cd170 it_m170 rfl ((⟨rfl, by decide⟩ : it_isR 5 12)).1 g2 ?_
  refine it_V.at (pc1 := 49) (ls1 := [some (.ref 7)]) (st1 := []) (mem1 := (it_sv m 5 (Int32.toNatClampNeg (4 : Int32)) ((m 5 (Int32.toNatClampNeg (4 : Int32))) + (1 : Int32)))) rfl rfl rfl rfl ?_
  refine it_V.sN it_cd170 it_m170 1 (pc1 := 50) (ls1 := [some (.ref 7)]) (st1 := [(.int (1 : Int32))]) (mem1 := (it_sv m 5 (Int32.toNatClampNeg (4 : Int32)) ((m 5 (Int32.toNatClampNeg (4 : Int32))) + (1 : Int32)))) rfl ?_
  exact it_V.ret it_cd170 it_m170 rfl rfl ⟨_, rfl, h⟩
set_option maxRecDepth 100000 in
set_option maxHeartbeats 4000000 in
theorem s_170 (kc : it_Kc) (m : it_Me) (Φ : Int32 → it_Me → Prop) (h : w_170 kc m Φ) : it_V kc it_sh0 170 0 (it_loc0 [(.ref 7)] 1) [] m (it_Pi Φ) := by
  rw [w_170] at h
  refine it_V.at (pc1 := 0) (ls1 := [some (.ref 7)]) (st1 := []) (mem1 := m) rfl rfl rfl rfl ?_
  refine it_V.sN it_cd170 it_m170 3 (pc1 := (if (m 7 3) = 0 then 7 else 19)) (ls1 := [some (.ref 7)]) (st1 := []) (mem1 := m) rfl ?_
  refine it_V.ite (fun c1 => ?_) (fun c1 => ?_)
  · have h := h.1 c1
    refine it_V.sN it_cd170 it_m170 7 (pc1 := 18) (ls1 := [some (.ref 7)]) (st1 := [(.int (0 : Int32))]) (mem1 := (it_sv (it_sv m 7 3 (-1 : Int32)) 7 4 (1 : Int32))) rfl ?_
    exact it_V.ret it_cd170 it_m170 rfl rfl ⟨_, rfl, h⟩
  · have h := h.2 c1
    refine it_V.sN it_cd170 it_m170 3 (pc1 := (if (m 7 3) ≤ 0 then 36 else 26)) (ls1 := [some (.ref 7)]) (st1 := []) (mem1 := m) rfl ?_
    refine it_V.ite (fun c2 => ?_) (fun c2 => ?_)
    · have h := h.1 c2
      exact s_170_36 kc Φ m h
    · have h := h.2 c2
      refine it_V.sN it_cd170 it_m170 6 (pc1 := 36) (ls1 := [some (.ref 7)]) (st1 := []) (mem1 := (it_sv m 7 3 ((m 7 3) - (1 : Int32)))) rfl ?_
      exact s_170_36 kc Φ (it_sv m 7 3 ((m 7 3) - (1 : Int32))) h
set_option maxRecDepth 100000 in
set_option maxHeartbeats 4000000 in
theorem s_168_23 (kc : it_Kc) (Φ : it_Me → Prop) (m : it_Me) (h : w_168_23 kc Φ m) : it_V kc it_sh0 168 23 [none, none, none] [] m (it_Pv Φ) := by
  rw [w_168_23] at h
  exact it_V.ret it_cd168 it_m168 rfl rfl ⟨rfl, h⟩
set_option maxRecDepth 100000 in
set_option maxHeartbeats 4000000 in
theorem s_168 (kc : it_Kc) (x0 : Int32) (x1 : Int32) (m : it_Me) (Φ : it_Me → Prop) (h : w_168 kc x0 x1 m Φ) : it_V kc it_sh0 168 0 (it_loc0 [(.ref 7), (.int x0), (.int x1)] 3) [] m (it_Pv Φ) := by
  rw [w_168] at h
  refine it_V.at (pc1 := 0) (ls1 := [some (.ref 7), some (.int x0), some (.int x1)]) (st1 := []) (mem1 := m) rfl rfl rfl rfl ?_
  refine it_V.sN it_cd168 it_m168 3 (pc1 := (if (m 7 4) = 0 then 7 else 23)) (ls1 := [some (.ref 7), some (.int x0), some (.int x1)]) (st1 := []) (mem1 := m) rfl ?_
  refine it_V.ite (fun c1 => ?_) (fun c1 => ?_)
  · have h := h.1 c1
    refine it_V.sN it_cd168 it_m168 1 (pc1 := 8) (ls1 := [some (.ref 7), some (.int x0), some (.int x1)]) (st1 := [(.ref 7)]) (mem1 := m) rfl ?_
    refine it_V.call it_cd168 it_m168 rfl it_m170 [(.ref 7)] [] rfl rfl ⟨Nat.le_of_ble_eq_true rfl, Nat.le_of_ble_eq_true rfl, Nat.le_of_ble_eq_true rfl, Nat.le_of_ble_eq_true rfl, rfl⟩ (s_170 kc m _ h) ?_
    rintro _ m3 ⟨r2, rfl, h⟩
    refine it_V.at (pc1 := 11) (ls1 := [some (.ref 7), some (.int x0), some (.int x1)]) (st1 := [(.int r2)]) (mem1 := m3) rfl rfl rfl rfl ?_
    refine it_V.sN it_cd168 it_m168 1 (pc1 := (if r2 = 0 then 23 else 14)) (ls1 := [some (.ref 7), some (.int x0), some (.int x1)]) (st1 := []) (mem1 := m3) rfl ?_
    refine it_V.ite (fun c4 => ?_) (fun c4 => ?_)
    · have h := h.1 c4
      refine it_V.weak (l := [none, none, none]) trivial ?_
      exact s_168_23 kc Φ m3 h
    · have h := h.2 c4
      refine it_V.sN it_cd168 it_m168 4 (pc1 := 20) (ls1 := [some (.ref 7), some (.int x0), some (.int x1)]) (st1 := [(.int x1), (.int x0), (.ref 1)]) (mem1 := m3) rfl ?_
      refine it_V.call it_cd168 it_m168 rfl it_m13 [(.ref 1), (.int x0), (.int x1)] [] rfl rfl ⟨Nat.le_of_ble_eq_true rfl, Nat.le_of_ble_eq_true rfl, Nat.le_of_ble_eq_true rfl, Nat.le_of_ble_eq_true rfl, rfl⟩ (s_13 kc x0 x1 m3 _ h) ?_
      rintro _ m5 ⟨rfl, h⟩
      refine it_V.at (pc1 := 23) (ls1 := [some (.ref 7), some (.int x0), some (.int x1)]) (st1 := []) (mem1 := m5) rfl rfl rfl rfl ?_
      refine it_V.weak (l := [none, none, none]) trivial ?_
      exact s_168_23 kc Φ m5 h
  · have h := h.2 c1
    refine it_V.weak (l := [none, none, none]) trivial ?_
    exact s_168_23 kc Φ m h
set_option maxRecDepth 100000 in
set_option maxHeartbeats 4000000 in
theorem s_169_26 (kc : it_Kc) (Φ : it_Me → Prop) (K48 : it_Me → Prop) (hK48 : ∀ (m : it_Me), K48 m → it_V kc it_sh0 169 48 [none, none, none, none] [] m (it_Pv Φ)) : ∀ (n : Nat) (v1 : Int32) (v2 : Int32) (v3 : Int32) (m : it_Me) (h : w_169_26 kc Φ K48 n v1 v2 v3 m), it_V kc it_sh0 169 26 [some (.ref 7), some (.int v1), some (.int v2), some (.int v3)] [] m (it_Pv Φ) := by
  intro n
  induction n with
  | zero => intro v1 v2 v3 m h; exact absurd h id
  | succ n ih =>
    intro v1 v2 v3 m h
    rw [w_169_26] at h
    refine it_V.sN it_cd169 it_m169 3 (pc1 := (if v2 ≤ v3 then 48 else 31)) (ls1 := [some (.ref 7), some (.int v1), some (.int v2), some (.int v3)]) (st1 := []) (mem1 := m) rfl ?_
    refine it_V.ite (fun c1 => ?_) (fun c1 => ?_)
    · have h := h.1 c1
      refine it_V.weak (l := [none, none, none, none]) trivial ?_
      exact hK48 m h
    · have h := h.2 c1
      refine it_V.sN it_cd169 it_m169 6 (pc1 := 39) (ls1 := [some (.ref 7), some (.int v1), some (.int v2), some (.int v3)]) (st1 := [(.int (-1 : Int32)), (.int (v1 + v3)), (.ref 1)]) (mem1 := m) rfl ?_
      refine it_V.call it_cd169 it_m169 rfl it_m13 [(.ref 1), (.int (v1 + v3)), (.int (-1 : Int32))] [] rfl rfl ⟨Nat.le_of_ble_eq_true rfl, Nat.le_of_ble_eq_true rfl, Nat.le_of_ble_eq_true rfl, Nat.le_of_ble_eq_true rfl, rfl⟩ (s_13 kc (v1 + v3) (-1 : Int32) m _ h) ?_
      rintro _ m2 ⟨rfl, h⟩
      refine it_V.at (pc1 := 42) (ls1 := [some (.ref 7), some (.int v1), some (.int v2), some (.int v3)]) (st1 := []) (mem1 := m2) rfl rfl rfl rfl ?_
      refine it_V.sN it_cd169 it_m169 2 (pc1 := 26) (ls1 := [some (.ref 7), some (.int v1), some (.int v2), some (.int (v3 + (4 : Int32)))]) (st1 := []) (mem1 := m2) rfl ?_
      exact ih v1 v2 (v3 + (4 : Int32)) m2 h
set_option maxRecDepth 100000 in
set_option maxHeartbeats 4000000 in
theorem s_169_48 (kc : it_Kc) (Φ : it_Me → Prop) (m : it_Me) (h : w_169_48 kc Φ m) : it_V kc it_sh0 169 48 [none, none, none, none] [] m (it_Pv Φ) := by
  rw [w_169_48] at h
  exact it_V.ret it_cd169 it_m169 rfl rfl ⟨rfl, h⟩
set_option maxRecDepth 100000 in
set_option maxHeartbeats 4000000 in
theorem s_169_23 (kc : it_Kc) (Φ : it_Me → Prop) (v1 : Int32) (u0 : Int32) (m : it_Me) (h : w_169_23 kc Φ v1 u0 m) : it_V kc it_sh0 169 23 [some (.ref 7), some (.int v1), none, none] [(.int u0)] m (it_Pv Φ) := by
  rw [w_169_23] at h
  refine it_V.sN it_cd169 it_m169 3 (pc1 := 26) (ls1 := [some (.ref 7), some (.int v1), some (.int u0), some (.int (0 : Int32))]) (st1 := []) (mem1 := m) rfl ?_
  obtain ⟨n, h⟩ := h
  exact s_169_26 kc Φ _ (fun m h => s_169_48 kc Φ m h) n v1 u0 (0 : Int32) m h
set_option maxRecDepth 100000 in
set_option maxHeartbeats 4000000 in
theorem s_169 (kc : it_Kc) (x0 : Int32) (m : it_Me) (Φ : it_Me → Prop) (h : w_169 kc x0 m Φ) : it_V kc it_sh0 169 0 (it_loc0 [(.ref 7), (.int x0)] 4) [] m (it_Pv Φ) := by
  rw [w_169] at h
  refine it_V.at (pc1 := 0) (ls1 := [some (.ref 7), some (.int x0), none, none]) (st1 := []) (mem1 := m) rfl rfl rfl rfl ?_
  refine it_V.sN it_cd169 it_m169 3 (pc1 := (if (m 7 4) = 0 then 7 else 48)) (ls1 := [some (.ref 7), some (.int x0), none, none]) (st1 := []) (mem1 := m) rfl ?_
  refine it_V.ite (fun c1 => ?_) (fun c1 => ?_)
  · have h := h.1 c1
    refine it_V.sN it_cd169 it_m169 1 (pc1 := 8) (ls1 := [some (.ref 7), some (.int x0), none, none]) (st1 := [(.ref 7)]) (mem1 := m) rfl ?_
    refine it_V.call it_cd169 it_m169 rfl it_m170 [(.ref 7)] [] rfl rfl ⟨Nat.le_of_ble_eq_true rfl, Nat.le_of_ble_eq_true rfl, Nat.le_of_ble_eq_true rfl, Nat.le_of_ble_eq_true rfl, rfl⟩ (s_170 kc m _ h) ?_
    rintro _ m3 ⟨r2, rfl, h⟩
    refine it_V.at (pc1 := 11) (ls1 := [some (.ref 7), some (.int x0), none, none]) (st1 := [(.int r2)]) (mem1 := m3) rfl rfl rfl rfl ?_
    refine it_V.sN it_cd169 it_m169 1 (pc1 := (if r2 = 0 then 20 else 14)) (ls1 := [some (.ref 7), some (.int x0), none, none]) (st1 := []) (mem1 := m3) rfl ?_
    refine it_V.ite (fun c4 => ?_) (fun c4 => ?_)
    · have h := h.1 c4
      refine it_V.sN it_cd169 it_m169 1 (pc1 := 23) (ls1 := [some (.ref 7), some (.int x0), none, none]) (st1 := [(.int (1024 : Int32))]) (mem1 := m3) rfl ?_
      exact s_169_23 kc Φ x0 (1024 : Int32) m3 h
    · have h := h.2 c4
      refine it_V.sN it_cd169 it_m169 2 (pc1 := 23) (ls1 := [some (.ref 7), some (.int x0), none, none]) (st1 := [(.int (2048 : Int32))]) (mem1 := m3) rfl ?_
      exact s_169_23 kc Φ x0 (2048 : Int32) m3 h
  · have h := h.2 c1
    refine it_V.weak (l := [none, none, none, none]) trivial ?_
    exact s_169_48 kc Φ m h
set_option maxRecDepth 100000 in
set_option maxHeartbeats 4000000 in
theorem s_166_84 (kc : it_Kc) (Φ : it_Me → Prop) (K117 : Int32 → Int32 → Int32 → Int32 → it_Me → Prop) (hK117 : ∀ (v1 : Int32) (v2 : Int32) (v3 : Int32) (v6 : Int32) (m : it_Me), K117 v1 v2 v3 v6 m → it_V kc it_sh0 166 117 [some (.ref 7), some (.int v1), some (.int v2), some (.int v3), none, none, some (.int v6), none] [] m (it_Pv Φ)) : ∀ (n : Nat) (v1 : Int32) (v2 : Int32) (v3 : Int32) (v4 : Int32) (v6 : Int32) (v7 : Int32) (m : it_Me) (h : w_166_84 kc Φ K117 n v1 v2 v3 v4 v6 v7 m), it_V kc it_sh0 166 84 [some (.ref 7), some (.int v1), some (.int v2), some (.int v3), some (.int v4), none, some (.int v6), some (.int v7)] [] m (it_Pv Φ) := by
  intro n
  induction n with
  | zero => intro v1 v2 v3 v4 v6 v7 m h; exact absurd h id
  | succ n ih =>
    intro v1 v2 v3 v4 v6 v7 m h
    rw [w_166_84] at h
    refine it_V.sN it_cd166 it_m166 3 (pc1 := (if v6 ≤ v7 then 117 else 91)) (ls1 := [some (.ref 7), some (.int v1), some (.int v2), some (.int v3), some (.int v4), none, some (.int v6), some (.int v7)]) (st1 := []) (mem1 := m) rfl ?_
    refine it_V.ite (fun c1 => ?_) (fun c1 => ?_)
    · have h := h.1 c1
      refine it_V.weak (l := [some (.ref 7), some (.int v1), some (.int v2), some (.int v3), none, none, some (.int v6), none]) ⟨rfl, ⟨rfl, ⟨rfl, ⟨rfl, ⟨rfl, trivial⟩⟩⟩⟩⟩ ?_
      exact hK117 v1 v2 v3 v6 m h
    · have h := h.2 c1
      refine it_V.sN it_cd166 it_m166 9 (pc1 := 105) (ls1 := [some (.ref 7), some (.int v1), some (.int v2), some (.int v3), some (.int v4), none, some (.int v6), some (.int v7)]) (st1 := [(.int (v4 + v7)), (.ref 1), (.int (v2 + v7)), (.ref 7)]) (mem1 := m) rfl ?_
      refine it_V.call it_cd166 it_m166 rfl it_m12 [(.ref 1), (.int (v4 + v7))] [(.int (v2 + v7)), (.ref 7)] rfl rfl ⟨Nat.le_of_ble_eq_true rfl, Nat.le_of_ble_eq_true rfl, Nat.le_of_ble_eq_true rfl, Nat.le_of_ble_eq_true rfl, rfl⟩ (s_12 kc (v4 + v7) m _ h) ?_
      rintro _ m3 ⟨r2, rfl, h⟩
      refine it_V.at (pc1 := 108) (ls1 := [some (.ref 7), some (.int v1), some (.int v2), some (.int v3), some (.int v4), none, some (.int v6), some (.int v7)]) (st1 := [(.int r2), (.int (v2 + v7)), (.ref 7)]) (mem1 := m3) rfl rfl rfl rfl ?_
      refine it_V.call it_cd166 it_m166 rfl it_m168 [(.ref 7), (.int (v2 + v7)), (.int r2)] [] rfl rfl ⟨Nat.le_of_ble_eq_true rfl, Nat.le_of_ble_eq_true rfl, Nat.le_of_ble_eq_true rfl, Nat.le_of_ble_eq_true rfl, rfl⟩ (s_168 kc (v2 + v7) r2 m3 _ h) ?_
      rintro _ m4 ⟨rfl, h⟩
      refine it_V.at (pc1 := 111) (ls1 := [some (.ref 7), some (.int v1), some (.int v2), some (.int v3), some (.int v4), none, some (.int v6), some (.int v7)]) (st1 := []) (mem1 := m4) rfl rfl rfl rfl ?_
      refine it_V.sN it_cd166 it_m166 2 (pc1 := 84) (ls1 := [some (.ref 7), some (.int v1), some (.int v2), some (.int v3), some (.int v4), none, some (.int v6), some (.int (v7 + (4 : Int32)))]) (st1 := []) (mem1 := m4) rfl ?_
      refine it_V.weak (l := [some (.ref 7), some (.int v1), some (.int v2), some (.int v3), some (.int v4), none, some (.int v6), some (.int (v7 + (4 : Int32)))]) ⟨rfl, ⟨rfl, ⟨rfl, ⟨rfl, ⟨rfl, ⟨rfl, ⟨rfl, trivial⟩⟩⟩⟩⟩⟩⟩ ?_
      exact ih v1 v2 v3 v4 v6 (v7 + (4 : Int32)) m4 h
set_option maxRecDepth 100000 in
set_option maxHeartbeats 4000000 in
theorem s_166_122 (kc : it_Kc) (Φ : it_Me → Prop) (K28 : Int32 → Int32 → Int32 → it_Me → Prop) (K128 : Int32 → it_Me → Prop) (hK28 : ∀ (v1 : Int32) (v2 : Int32) (v3 : Int32) (m : it_Me), K28 v1 v2 v3 m → it_V kc it_sh0 166 28 [some (.ref 7), some (.int v1), some (.int v2), some (.int v3), none, none, none, none] [] m (it_Pv Φ)) (hK128 : ∀ (v1 : Int32) (m : it_Me), K128 v1 m → it_V kc it_sh0 166 128 [some (.ref 7), some (.int v1), none, none, none, none, none, none] [] m (it_Pv Φ)) (v1 : Int32) (v2 : Int32) (v3 : Int32) (m : it_Me) (h : w_166_122 kc Φ K28 K128 v1 v2 v3 m) : it_V kc it_sh0 166 122 [some (.ref 7), some (.int v1), some (.int v2), some (.int v3), none, none, none, none] [] m (it_Pv Φ) := by
  rw [w_166_122] at h
  refine it_V.sN it_cd166 it_m166 2 (pc1 := 28) (ls1 := [some (.ref 7), some (.int v1), some (.int v2), some (.int (v3 + (1 : Int32))), none, none, none, none]) (st1 := []) (mem1 := m) rfl ?_
  refine it_V.weak (l := [some (.ref 7), some (.int v1), some (.int v2), some (.int (v3 + (1 : Int32))), none, none, none, none]) ⟨rfl, ⟨rfl, ⟨rfl, ⟨rfl, trivial⟩⟩⟩⟩ ?_
  exact hK28 v1 v2 (v3 + (1 : Int32)) m h
set_option maxRecDepth 100000 in
set_option maxHeartbeats 4000000 in
theorem s_166_117 (kc : it_Kc) (Φ : it_Me → Prop) (K28 : Int32 → Int32 → Int32 → it_Me → Prop) (K128 : Int32 → it_Me → Prop) (hK28 : ∀ (v1 : Int32) (v2 : Int32) (v3 : Int32) (m : it_Me), K28 v1 v2 v3 m → it_V kc it_sh0 166 28 [some (.ref 7), some (.int v1), some (.int v2), some (.int v3), none, none, none, none] [] m (it_Pv Φ)) (hK128 : ∀ (v1 : Int32) (m : it_Me), K128 v1 m → it_V kc it_sh0 166 128 [some (.ref 7), some (.int v1), none, none, none, none, none, none] [] m (it_Pv Φ)) (v1 : Int32) (v2 : Int32) (v3 : Int32) (v6 : Int32) (m : it_Me) (h : w_166_117 kc Φ K28 K128 v1 v2 v3 v6 m) : it_V kc it_sh0 166 117 [some (.ref 7), some (.int v1), some (.int v2), some (.int v3), none, none, some (.int v6), none] [] m (it_Pv Φ) := by
  rw [w_166_117] at h
  refine it_V.sN it_cd166 it_m166 4 (pc1 := 122) (ls1 := [some (.ref 7), some (.int v1), some (.int (v2 + v6)), some (.int v3), none, none, some (.int v6), none]) (st1 := []) (mem1 := m) rfl ?_
  refine it_V.weak (l := [some (.ref 7), some (.int v1), some (.int (v2 + v6)), some (.int v3), none, none, none, none]) ⟨rfl, ⟨rfl, ⟨rfl, ⟨rfl, trivial⟩⟩⟩⟩ ?_
  exact s_166_122 kc Φ _ _ hK28 hK128 v1 (v2 + v6) v3 m h
set_option maxRecDepth 100000 in
set_option maxHeartbeats 4000000 in
theorem s_166_28 (kc : it_Kc) (Φ : it_Me → Prop) (K128 : Int32 → it_Me → Prop) (hK128 : ∀ (v1 : Int32) (m : it_Me), K128 v1 m → it_V kc it_sh0 166 128 [some (.ref 7), some (.int v1), none, none, none, none, none, none] [] m (it_Pv Φ)) : ∀ (n : Nat) (v1 : Int32) (v2 : Int32) (v3 : Int32) (m : it_Me) (h : w_166_28 kc Φ K128 n v1 v2 v3 m), it_V kc it_sh0 166 28 [some (.ref 7), some (.int v1), some (.int v2), some (.int v3), none, none, none, none] [] m (it_Pv Φ) := by
  intro n
  induction n with
  | zero => intro v1 v2 v3 m h; exact absurd h id
  | succ n ih =>
    intro v1 v2 v3 m h
    rw [w_166_28] at h
    refine it_V.sN it_cd166 it_m166 4 (pc1 := (if (m 7 6) ≤ v3 then 128 else 36)) (ls1 := [some (.ref 7), some (.int v1), some (.int v2), some (.int v3), none, none, none, none]) (st1 := []) (mem1 := m) rfl ?_
    refine it_V.ite (fun c1 => ?_) (fun c1 => ?_)
    · have h := h.1 c1
      refine it_V.weak (l := [some (.ref 7), some (.int v1), none, none, none, none, none, none]) ⟨rfl, ⟨rfl, trivial⟩⟩ ?_
      exact hK128 v1 m h
    · have h := h.2 c1
      refine it_V.sN it_cd166 it_m166 3 (pc1 := 41) (ls1 := [some (.ref 7), some (.int v1), some (.int v2), some (.int v3), none, none, none, none]) (st1 := [(.int v3), (.ref 8)]) (mem1 := m) rfl ?_
      obtain ⟨g2, h⟩ := h
      refine it_V.iald it_cd166 it_m166 rfl ((⟨rfl, by decide⟩ : it_isR 8 128)).2 ((⟨rfl, by decide⟩ : it_isR 8 128)).1 g2 ?_
      refine it_V.at (pc1 := 42) (ls1 := [some (.ref 7), some (.int v1), some (.int v2), some (.int v3), none, none, none, none]) (st1 := [(.int (m 8 (Int32.toNatClampNeg v3)))]) (mem1 := m) rfl rfl rfl rfl ?_
      refine it_V.sN it_cd166 it_m166 6 (pc1 := 53) (ls1 := [some (.ref 7), some (.int v1), some (.int v2), some (.int v3), some (.int (m 8 (Int32.toNatClampNeg v3))), none, none, none]) (st1 := [(.int ((m 8 (Int32.toNatClampNeg v3)) + (8 : Int32))), (.ref 1)]) (mem1 := m) rfl ?_
      refine it_V.call it_cd166 it_m166 rfl it_m12 [(.ref 1), (.int ((m 8 (Int32.toNatClampNeg v3)) + (8 : Int32)))] [] rfl rfl ⟨Nat.le_of_ble_eq_true rfl, Nat.le_of_ble_eq_true rfl, Nat.le_of_ble_eq_true rfl, Nat.le_of_ble_eq_true rfl, rfl⟩ (s_12 kc ((m 8 (Int32.toNatClampNeg v3)) + (8 : Int32)) m _ h) ?_
      rintro _ m4 ⟨r3, rfl, h⟩
      refine it_V.at (pc1 := 56) (ls1 := [some (.ref 7), some (.int v1), some (.int v2), some (.int v3), some (.int (m 8 (Int32.toNatClampNeg v3))), none, none, none]) (st1 := [(.int r3)]) (mem1 := m4) rfl rfl rfl rfl ?_
      refine it_V.sN it_cd166 it_m166 4 (pc1 := (if r3 = (255 : Int32) then 122 else 66)) (ls1 := [some (.ref 7), some (.int v1), some (.int v2), some (.int v3), some (.int (m 8 (Int32.toNatClampNeg v3))), some (.int r3), none, none]) (st1 := []) (mem1 := m4) rfl ?_
      refine it_V.ite (fun c5 => ?_) (fun c5 => ?_)
      · have h := h.1 c5
        refine it_V.weak (l := [some (.ref 7), some (.int v1), some (.int v2), some (.int v3), none, none, none, none]) ⟨rfl, ⟨rfl, ⟨rfl, ⟨rfl, trivial⟩⟩⟩⟩ ?_
        exact s_166_122 kc Φ _ _ ih hK128 v1 v2 v3 m4 h
      · have h := h.2 c5
        refine it_V.sN it_cd166 it_m166 2 (pc1 := 68) (ls1 := [some (.ref 7), some (.int v1), some (.int v2), some (.int v3), some (.int (m 8 (Int32.toNatClampNeg v3))), some (.int r3), none, none]) (st1 := [(.int v3), (.ref 7)]) (mem1 := m4) rfl ?_
        refine it_V.call it_cd166 it_m166 rfl it_m167 [(.ref 7), (.int v3)] [] rfl rfl ⟨Nat.le_of_ble_eq_true rfl, Nat.le_of_ble_eq_true rfl, Nat.le_of_ble_eq_true rfl, Nat.le_of_ble_eq_true rfl, rfl⟩ (s_167 kc v3 m4 _ h) ?_
        rintro _ m7 ⟨r6, rfl, h⟩
        refine it_V.at (pc1 := 71) (ls1 := [some (.ref 7), some (.int v1), some (.int v2), some (.int v3), some (.int (m 8 (Int32.toNatClampNeg v3))), some (.int r3), none, none]) (st1 := [(.int r6)]) (mem1 := m7) rfl rfl rfl rfl ?_
        refine it_V.sN it_cd166 it_m166 1 (pc1 := (if r6 = 0 then 122 else 74)) (ls1 := [some (.ref 7), some (.int v1), some (.int v2), some (.int v3), some (.int (m 8 (Int32.toNatClampNeg v3))), some (.int r3), none, none]) (st1 := []) (mem1 := m7) rfl ?_
        refine it_V.ite (fun c8 => ?_) (fun c8 => ?_)
        · have h := h.1 c8
          refine it_V.weak (l := [some (.ref 7), some (.int v1), some (.int v2), some (.int v3), none, none, none, none]) ⟨rfl, ⟨rfl, ⟨rfl, ⟨rfl, trivial⟩⟩⟩⟩ ?_
          exact s_166_122 kc Φ _ _ ih hK128 v1 v2 v3 m7 h
        · have h := h.2 c8
          refine it_V.sN it_cd166 it_m166 1 (pc1 := 76) (ls1 := [some (.ref 7), some (.int v1), some (.int v2), some (.int v3), some (.int (m 8 (Int32.toNatClampNeg v3))), some (.int r3), none, none]) (st1 := [(.int r3)]) (mem1 := m7) rfl ?_
          refine it_V.call it_cd166 it_m166 rfl it_m162 [(.int r3)] [] rfl rfl ⟨Nat.le_of_ble_eq_true rfl, Nat.le_of_ble_eq_true rfl, Nat.le_of_ble_eq_true rfl, Nat.le_of_ble_eq_true rfl, rfl⟩ (s_162 kc r3 m7 _ h) ?_
          rintro _ m10 ⟨r9, rfl, h⟩
          refine it_V.at (pc1 := 79) (ls1 := [some (.ref 7), some (.int v1), some (.int v2), some (.int v3), some (.int (m 8 (Int32.toNatClampNeg v3))), some (.int r3), none, none]) (st1 := [(.int r9)]) (mem1 := m10) rfl rfl rfl rfl ?_
          refine it_V.sN it_cd166 it_m166 3 (pc1 := 84) (ls1 := [some (.ref 7), some (.int v1), some (.int v2), some (.int v3), some (.int (m 8 (Int32.toNatClampNeg v3))), some (.int r3), some (.int r9), some (.int (0 : Int32))]) (st1 := []) (mem1 := m10) rfl ?_
          refine it_V.weak (l := [some (.ref 7), some (.int v1), some (.int v2), some (.int v3), some (.int (m 8 (Int32.toNatClampNeg v3))), none, some (.int r9), some (.int (0 : Int32))]) ⟨rfl, ⟨rfl, ⟨rfl, ⟨rfl, ⟨rfl, ⟨rfl, ⟨rfl, trivial⟩⟩⟩⟩⟩⟩⟩ ?_
          obtain ⟨n, h⟩ := h
          exact s_166_84 kc Φ _ (fun v1 v2 v3 v6 m h => s_166_117 kc Φ _ _ ih hK128 v1 v2 v3 v6 m h) n v1 v2 v3 (m 8 (Int32.toNatClampNeg v3)) r9 (0 : Int32) m10 h
set_option maxRecDepth 100000 in
set_option maxHeartbeats 4000000 in
theorem s_166_164 (kc : it_Kc) (Φ : it_Me → Prop) (m : it_Me) (h : w_166_164 kc Φ m) : it_V kc it_sh0 166 164 [none, none, none, none, none, none, none, none] [] m (it_Pv Φ) := by
  rw [w_166_164] at h
  exact it_V.ret it_cd166 it_m166 rfl rfl ⟨rfl, h⟩
set_option maxRecDepth 100000 in
set_option maxHeartbeats 4000000 in
theorem s_166_128 (kc : it_Kc) (Φ : it_Me → Prop) (v1 : Int32) (m : it_Me) (h : w_166_128 kc Φ v1 m) : it_V kc it_sh0 166 128 [some (.ref 7), some (.int v1), none, none, none, none, none, none] [] m (it_Pv Φ) := by
  rw [w_166_128] at h
  refine it_V.sN it_cd166 it_m166 7 (pc1 := 140) (ls1 := [some (.ref 7), some (.int v1), none, none, none, none, none, none]) (st1 := [(.int (m 7 2)), (.ref 1), (.int (1263927296 : Int32)), (.int v1), (.ref 7)]) (mem1 := m) rfl ?_
  refine it_V.call it_cd166 it_m166 rfl it_m12 [(.ref 1), (.int (m 7 2))] [(.int (1263927296 : Int32)), (.int v1), (.ref 7)] rfl rfl ⟨Nat.le_of_ble_eq_true rfl, Nat.le_of_ble_eq_true rfl, Nat.le_of_ble_eq_true rfl, Nat.le_of_ble_eq_true rfl, rfl⟩ (s_12 kc (m 7 2) m _ h) ?_
  rintro _ m2 ⟨r1, rfl, h⟩
  refine it_V.at (pc1 := 143) (ls1 := [some (.ref 7), some (.int v1), none, none, none, none, none, none]) (st1 := [(.int r1), (.int (1263927296 : Int32)), (.int v1), (.ref 7)]) (mem1 := m2) rfl rfl rfl rfl ?_
  refine it_V.sN it_cd166 it_m166 5 (pc1 := 149) (ls1 := [some (.ref 7), some (.int v1), none, none, none, none, none, none]) (st1 := [(.int ((1263927296 : Int32) ||| ((r1 + (1 : Int32)) &&& (65535 : Int32)))), (.int v1), (.ref 7)]) (mem1 := m2) rfl ?_
  refine it_V.call it_cd166 it_m166 rfl it_m168 [(.ref 7), (.int v1), (.int ((1263927296 : Int32) ||| ((r1 + (1 : Int32)) &&& (65535 : Int32))))] [] rfl rfl ⟨Nat.le_of_ble_eq_true rfl, Nat.le_of_ble_eq_true rfl, Nat.le_of_ble_eq_true rfl, Nat.le_of_ble_eq_true rfl, rfl⟩ (s_168 kc v1 ((1263927296 : Int32) ||| ((r1 + (1 : Int32)) &&& (65535 : Int32))) m2 _ h) ?_
  rintro _ m3 ⟨rfl, h⟩
  refine it_V.at (pc1 := 152) (ls1 := [some (.ref 7), some (.int v1), none, none, none, none, none, none]) (st1 := []) (mem1 := m3) rfl rfl rfl rfl ?_
  refine it_V.sN it_cd166 it_m166 3 (pc1 := (if (m3 7 4) = 0 then 159 else 164)) (ls1 := [some (.ref 7), some (.int v1), none, none, none, none, none, none]) (st1 := []) (mem1 := m3) rfl ?_
  refine it_V.ite (fun c4 => ?_) (fun c4 => ?_)
  · have h := h.1 c4
    refine it_V.sN it_cd166 it_m166 3 (pc1 := 164) (ls1 := [some (.ref 7), some (.int v1), none, none, none, none, none, none]) (st1 := []) (mem1 := (it_sv m3 7 2 v1)) rfl ?_
    refine it_V.weak (l := [none, none, none, none, none, none, none, none]) trivial ?_
    exact s_166_164 kc Φ (it_sv m3 7 2 v1) h
  · have h := h.2 c4
    refine it_V.weak (l := [none, none, none, none, none, none, none, none]) trivial ?_
    exact s_166_164 kc Φ m3 h
set_option maxRecDepth 100000 in
set_option maxHeartbeats 4000000 in
theorem s_166_16 (kc : it_Kc) (Φ : it_Me → Prop) (u0 : Int32) (m : it_Me) (h : w_166_16 kc Φ u0 m) : it_V kc it_sh0 166 16 [some (.ref 7), none, none, none, none, none, none, none] [(.int u0)] m (it_Pv Φ) := by
  rw [w_166_16] at h
  refine it_V.sN it_cd166 it_m166 3 (pc1 := 19) (ls1 := [some (.ref 7), some (.int u0), none, none, none, none, none, none]) (st1 := [(.int u0), (.ref 7)]) (mem1 := m) rfl ?_
  refine it_V.call it_cd166 it_m166 rfl it_m169 [(.ref 7), (.int u0)] [] rfl rfl ⟨Nat.le_of_ble_eq_true rfl, Nat.le_of_ble_eq_true rfl, Nat.le_of_ble_eq_true rfl, Nat.le_of_ble_eq_true rfl, rfl⟩ (s_169 kc u0 m _ h) ?_
  rintro _ m1 ⟨rfl, h⟩
  refine it_V.at (pc1 := 22) (ls1 := [some (.ref 7), some (.int u0), none, none, none, none, none, none]) (st1 := []) (mem1 := m1) rfl rfl rfl rfl ?_
  refine it_V.sN it_cd166 it_m166 6 (pc1 := 28) (ls1 := [some (.ref 7), some (.int u0), some (.int (u0 + (4 : Int32))), some (.int (0 : Int32)), none, none, none, none]) (st1 := []) (mem1 := m1) rfl ?_
  refine it_V.weak (l := [some (.ref 7), some (.int u0), some (.int (u0 + (4 : Int32))), some (.int (0 : Int32)), none, none, none, none]) ⟨rfl, ⟨rfl, ⟨rfl, ⟨rfl, trivial⟩⟩⟩⟩ ?_
  obtain ⟨n, h⟩ := h
  exact s_166_28 kc Φ _ (fun v1 m h => s_166_128 kc Φ v1 m h) n u0 (u0 + (4 : Int32)) (0 : Int32) m1 h
set_option maxRecDepth 100000 in
set_option maxHeartbeats 4000000 in
theorem s_166 (kc : it_Kc) (m : it_Me) (Φ : it_Me → Prop) (h : w_166 kc m Φ) : it_V kc it_sh0 166 0 (it_loc0 [(.ref 7)] 8) [] m (it_Pv Φ) := by
  rw [w_166] at h
  refine it_V.at (pc1 := 0) (ls1 := [some (.ref 7), none, none, none, none, none, none, none]) (st1 := []) (mem1 := m) rfl rfl rfl rfl ?_
  refine it_V.sN it_cd166 it_m166 4 (pc1 := (if (m 7 2) = (126976 : Int32) then 9 else 14)) (ls1 := [some (.ref 7), none, none, none, none, none, none, none]) (st1 := []) (mem1 := m) rfl ?_
  refine it_V.ite (fun c1 => ?_) (fun c1 => ?_)
  · have h := h.1 c1
    refine it_V.sN it_cd166 it_m166 2 (pc1 := 16) (ls1 := [some (.ref 7), none, none, none, none, none, none, none]) (st1 := [(.int (129024 : Int32))]) (mem1 := m) rfl ?_
    exact s_166_16 kc Φ (129024 : Int32) m h
  · have h := h.2 c1
    refine it_V.sN it_cd166 it_m166 1 (pc1 := 16) (ls1 := [some (.ref 7), none, none, none, none, none, none, none]) (st1 := [(.int (126976 : Int32))]) (mem1 := m) rfl ?_
    exact s_166_16 kc Φ (126976 : Int32) m h
set_option maxRecDepth 100000 in
set_option maxHeartbeats 4000000 in
theorem s_160_108 (kc : it_Kc) (Φ : Int32 → it_Me → Prop) (K160 : Int32 → Int32 → Int32 → it_Me → Prop) (hK160 : ∀ (v5 : Int32) (v6 : Int32) (v7 : Int32) (m : it_Me), K160 v5 v6 v7 m → it_V kc it_sh0 160 160 [some (.ref 7), none, none, none, none, some (.int v5), some (.int v6), some (.int v7), none, none] [] m (it_Pi Φ)) : ∀ (n : Nat) (v3 : Int32) (v4 : Int32) (v5 : Int32) (v6 : Int32) (v7 : Int32) (v8 : Int32) (m : it_Me) (h : w_160_108 kc Φ K160 n v3 v4 v5 v6 v7 v8 m), it_V kc it_sh0 160 108 [some (.ref 7), none, none, some (.int v3), some (.int v4), some (.int v5), some (.int v6), some (.int v7), some (.int v8), none] [] m (it_Pi Φ) := by
  intro n
  induction n with
  | zero => intro v3 v4 v5 v6 v7 v8 m h; exact absurd h id
  | succ n ih =>
    intro v3 v4 v5 v6 v7 v8 m h
    rw [w_160_108] at h
    refine it_V.sN it_cd160 it_m160 5 (pc1 := (if (v5 - (16 : Int32)) ≤ v8 then 160 else 118)) (ls1 := [some (.ref 7), none, none, some (.int v3), some (.int v4), some (.int v5), some (.int v6), some (.int v7), some (.int v8), none]) (st1 := []) (mem1 := m) rfl ?_
    refine it_V.ite (fun c1 => ?_) (fun c1 => ?_)
    · have h := h.1 c1
      refine it_V.weak (l := [some (.ref 7), none, none, none, none, some (.int v5), some (.int v6), some (.int v7), none, none]) ⟨rfl, ⟨rfl, ⟨rfl, ⟨rfl, trivial⟩⟩⟩⟩ ?_
      exact hK160 v5 v6 v7 m h
    · have h := h.2 c1
      refine it_V.sN it_cd160 it_m160 7 (pc1 := 128) (ls1 := [some (.ref 7), none, none, some (.int v3), some (.int v4), some (.int v5), some (.int v6), some (.int v7), some (.int v8), none]) (st1 := [(.int (v3 - v8)), (.int (v4 + v8)), (.ref 7)]) (mem1 := m) rfl ?_
      refine it_V.call it_cd160 it_m160 rfl it_m161 [(.ref 7), (.int (v4 + v8)), (.int (v3 - v8))] [] rfl rfl ⟨Nat.le_of_ble_eq_true rfl, Nat.le_of_ble_eq_true rfl, Nat.le_of_ble_eq_true rfl, Nat.le_of_ble_eq_true rfl, rfl⟩ (s_161 kc (v4 + v8) (v3 - v8) m _ h) ?_
      rintro _ m3 ⟨r2, rfl, h⟩
      refine it_V.at (pc1 := 131) (ls1 := [some (.ref 7), none, none, some (.int v3), some (.int v4), some (.int v5), some (.int v6), some (.int v7), some (.int v8), none]) (st1 := [(.int r2)]) (mem1 := m3) rfl rfl rfl rfl ?_
      refine it_V.sN it_cd160 it_m160 12 (pc1 := 151) (ls1 := [some (.ref 7), none, none, some (.int v3), some (.int v4), some (.int v5), some (.int v6), some (.int (v7 ^^^ r2)), some (.int v8), some (.int r2)]) (st1 := [(.int r2), (.int ((v6 + (12 : Int32)) + v8)), (.ref 7)]) (mem1 := m3) rfl ?_
      refine it_V.call it_cd160 it_m160 rfl it_m168 [(.ref 7), (.int ((v6 + (12 : Int32)) + v8)), (.int r2)] [] rfl rfl ⟨Nat.le_of_ble_eq_true rfl, Nat.le_of_ble_eq_true rfl, Nat.le_of_ble_eq_true rfl, Nat.le_of_ble_eq_true rfl, rfl⟩ (s_168 kc ((v6 + (12 : Int32)) + v8) r2 m3 _ h) ?_
      rintro _ m4 ⟨rfl, h⟩
      refine it_V.at (pc1 := 154) (ls1 := [some (.ref 7), none, none, some (.int v3), some (.int v4), some (.int v5), some (.int v6), some (.int (v7 ^^^ r2)), some (.int v8), some (.int r2)]) (st1 := []) (mem1 := m4) rfl rfl rfl rfl ?_
      refine it_V.sN it_cd160 it_m160 2 (pc1 := 108) (ls1 := [some (.ref 7), none, none, some (.int v3), some (.int v4), some (.int v5), some (.int v6), some (.int (v7 ^^^ r2)), some (.int (v8 + (4 : Int32))), some (.int r2)]) (st1 := []) (mem1 := m4) rfl ?_
      refine it_V.weak (l := [some (.ref 7), none, none, some (.int v3), some (.int v4), some (.int v5), some (.int v6), some (.int (v7 ^^^ r2)), some (.int (v8 + (4 : Int32))), none]) ⟨rfl, ⟨rfl, ⟨rfl, ⟨rfl, ⟨rfl, ⟨rfl, ⟨rfl, trivial⟩⟩⟩⟩⟩⟩⟩ ?_
      exact ih v3 v4 v5 v6 (v7 ^^^ r2) (v8 + (4 : Int32)) m4 h
set_option maxRecDepth 100000 in
set_option maxHeartbeats 4000000 in
theorem s_160_180 (kc : it_Kc) (Φ : Int32 → it_Me → Prop) (u1 : Int32) (u2 : Int32) (m : it_Me) (h : w_160_180 kc Φ u1 u2 m) : it_V kc it_sh0 160 180 [none, none, none, none, none, none, none, none, none, none] [(.int u2), (.int u1), (.ref 7)] m (it_Pi Φ) := by
  rw [w_160_180] at h
  refine it_V.call it_cd160 it_m160 rfl it_m168 [(.ref 7), (.int u1), (.int u2)] [] rfl rfl ⟨Nat.le_of_ble_eq_true rfl, Nat.le_of_ble_eq_true rfl, Nat.le_of_ble_eq_true rfl, Nat.le_of_ble_eq_true rfl, rfl⟩ (s_168 kc u1 u2 m _ h) ?_
  rintro _ m1 ⟨rfl, h⟩
  refine it_V.at (pc1 := 183) (ls1 := [none, none, none, none, none, none, none, none, none, none]) (st1 := []) (mem1 := m1) rfl rfl rfl rfl ?_
  refine it_V.sN it_cd160 it_m160 1 (pc1 := 184) (ls1 := [none, none, none, none, none, none, none, none, none, none]) (st1 := [(.int (1 : Int32))]) (mem1 := m1) rfl ?_
  exact it_V.ret it_cd160 it_m160 rfl rfl ⟨_, rfl, h⟩
set_option maxRecDepth 100000 in
set_option maxHeartbeats 4000000 in
theorem s_160_160 (kc : it_Kc) (Φ : Int32 → it_Me → Prop) (v5 : Int32) (v6 : Int32) (v7 : Int32) (m : it_Me) (h : w_160_160 kc Φ v5 v6 v7 m) : it_V kc it_sh0 160 160 [some (.ref 7), none, none, none, none, some (.int v5), some (.int v6), some (.int v7), none, none] [] m (it_Pi Φ) := by
  rw [w_160_160] at h
  refine it_V.sN it_cd160 it_m160 9 (pc1 := (if v7 = (-1 : Int32) then 174 else 178)) (ls1 := [some (.ref 7), none, none, none, none, some (.int v5), some (.int v6), some (.int v7), none, none]) (st1 := [(.int ((v6 + v5) - (4 : Int32))), (.ref 7)]) (mem1 := m) rfl ?_
  refine it_V.ite (fun c1 => ?_) (fun c1 => ?_)
  · have h := h.1 c1
    refine it_V.sN it_cd160 it_m160 2 (pc1 := 180) (ls1 := [some (.ref 7), none, none, none, none, some (.int v5), some (.int v6), some (.int v7), none, none]) (st1 := [(.int (0 : Int32)), (.int ((v6 + v5) - (4 : Int32))), (.ref 7)]) (mem1 := m) rfl ?_
    refine it_V.weak (l := [none, none, none, none, none, none, none, none, none, none]) trivial ?_
    exact s_160_180 kc Φ ((v6 + v5) - (4 : Int32)) (0 : Int32) m h
  · have h := h.2 c1
    refine it_V.sN it_cd160 it_m160 1 (pc1 := 180) (ls1 := [some (.ref 7), none, none, none, none, some (.int v5), some (.int v6), some (.int v7), none, none]) (st1 := [(.int v7), (.int ((v6 + v5) - (4 : Int32))), (.ref 7)]) (mem1 := m) rfl ?_
    refine it_V.weak (l := [none, none, none, none, none, none, none, none, none, none]) trivial ?_
    exact s_160_180 kc Φ ((v6 + v5) - (4 : Int32)) v7 m h
set_option maxRecDepth 100000 in
set_option maxHeartbeats 4000000 in
theorem s_160_63 (kc : it_Kc) (Φ : Int32 → it_Me → Prop) (v1 : Int32) (v2 : Int32) (v3 : Int32) (v4 : Int32) (v5 : Int32) (m : it_Me) (h : w_160_63 kc Φ v1 v2 v3 v4 v5 m) : it_V kc it_sh0 160 63 [some (.ref 7), some (.int v1), some (.int v2), some (.int v3), some (.int v4), some (.int v5), none, none, none, none] [] m (it_Pi Φ) := by
  rw [w_160_63] at h
  refine it_V.sN it_cd160 it_m160 14 (pc1 := 83) (ls1 := [some (.ref 7), some (.int v1), some (.int v2), some (.int v3), some (.int v4), some (.int v5), some (.int (m 7 7)), some (.int (((v1 ^^^ v2) ^^^ v3) ^^^ (1515870810 : Int32))), none, none]) (st1 := [(.int v1), (.int (m 7 7)), (.ref 7)]) (mem1 := m) rfl ?_
  refine it_V.call it_cd160 it_m160 rfl it_m168 [(.ref 7), (.int (m 7 7)), (.int v1)] [] rfl rfl ⟨Nat.le_of_ble_eq_true rfl, Nat.le_of_ble_eq_true rfl, Nat.le_of_ble_eq_true rfl, Nat.le_of_ble_eq_true rfl, rfl⟩ (s_168 kc (m 7 7) v1 m _ h) ?_
  rintro _ m1 ⟨rfl, h⟩
  refine it_V.at (pc1 := 86) (ls1 := [some (.ref 7), some (.int v1), some (.int v2), some (.int v3), some (.int v4), some (.int v5), some (.int (m 7 7)), some (.int (((v1 ^^^ v2) ^^^ v3) ^^^ (1515870810 : Int32))), none, none]) (st1 := []) (mem1 := m1) rfl rfl rfl rfl ?_
  refine it_V.sN it_cd160 it_m160 5 (pc1 := 92) (ls1 := [some (.ref 7), some (.int v1), some (.int v2), some (.int v3), some (.int v4), some (.int v5), some (.int (m 7 7)), some (.int (((v1 ^^^ v2) ^^^ v3) ^^^ (1515870810 : Int32))), none, none]) (st1 := [(.int v2), (.int ((m 7 7) + (4 : Int32))), (.ref 7)]) (mem1 := m1) rfl ?_
  refine it_V.call it_cd160 it_m160 rfl it_m168 [(.ref 7), (.int ((m 7 7) + (4 : Int32))), (.int v2)] [] rfl rfl ⟨Nat.le_of_ble_eq_true rfl, Nat.le_of_ble_eq_true rfl, Nat.le_of_ble_eq_true rfl, Nat.le_of_ble_eq_true rfl, rfl⟩ (s_168 kc ((m 7 7) + (4 : Int32)) v2 m1 _ h) ?_
  rintro _ m2 ⟨rfl, h⟩
  refine it_V.at (pc1 := 95) (ls1 := [some (.ref 7), some (.int v1), some (.int v2), some (.int v3), some (.int v4), some (.int v5), some (.int (m 7 7)), some (.int (((v1 ^^^ v2) ^^^ v3) ^^^ (1515870810 : Int32))), none, none]) (st1 := []) (mem1 := m2) rfl rfl rfl rfl ?_
  refine it_V.sN it_cd160 it_m160 5 (pc1 := 102) (ls1 := [some (.ref 7), some (.int v1), some (.int v2), some (.int v3), some (.int v4), some (.int v5), some (.int (m 7 7)), some (.int (((v1 ^^^ v2) ^^^ v3) ^^^ (1515870810 : Int32))), none, none]) (st1 := [(.int v3), (.int ((m 7 7) + (8 : Int32))), (.ref 7)]) (mem1 := m2) rfl ?_
  refine it_V.call it_cd160 it_m160 rfl it_m168 [(.ref 7), (.int ((m 7 7) + (8 : Int32))), (.int v3)] [] rfl rfl ⟨Nat.le_of_ble_eq_true rfl, Nat.le_of_ble_eq_true rfl, Nat.le_of_ble_eq_true rfl, Nat.le_of_ble_eq_true rfl, rfl⟩ (s_168 kc ((m 7 7) + (8 : Int32)) v3 m2 _ h) ?_
  rintro _ m3 ⟨rfl, h⟩
  refine it_V.at (pc1 := 105) (ls1 := [some (.ref 7), some (.int v1), some (.int v2), some (.int v3), some (.int v4), some (.int v5), some (.int (m 7 7)), some (.int (((v1 ^^^ v2) ^^^ v3) ^^^ (1515870810 : Int32))), none, none]) (st1 := []) (mem1 := m3) rfl rfl rfl rfl ?_
  refine it_V.sN it_cd160 it_m160 2 (pc1 := 108) (ls1 := [some (.ref 7), some (.int v1), some (.int v2), some (.int v3), some (.int v4), some (.int v5), some (.int (m 7 7)), some (.int (((v1 ^^^ v2) ^^^ v3) ^^^ (1515870810 : Int32))), some (.int (0 : Int32)), none]) (st1 := []) (mem1 := m3) rfl ?_
  refine it_V.weak (l := [some (.ref 7), none, none, some (.int v3), some (.int v4), some (.int v5), some (.int (m 7 7)), some (.int (((v1 ^^^ v2) ^^^ v3) ^^^ (1515870810 : Int32))), some (.int (0 : Int32)), none]) ⟨rfl, ⟨rfl, ⟨rfl, ⟨rfl, ⟨rfl, ⟨rfl, ⟨rfl, trivial⟩⟩⟩⟩⟩⟩⟩ ?_
  obtain ⟨n, h⟩ := h
  exact s_160_108 kc Φ _ (fun v5 v6 v7 m h => s_160_160 kc Φ v5 v6 v7 m h) n v3 v4 v5 (m 7 7) (((v1 ^^^ v2) ^^^ v3) ^^^ (1515870810 : Int32)) (0 : Int32) m3 h
set_option maxRecDepth 100000 in
set_option maxHeartbeats 4000000 in
theorem s_160 (kc : it_Kc) (x0 : Int32) (x1 : Int32) (x2 : Int32) (x3 : Int32) (m : it_Me) (Φ : Int32 → it_Me → Prop) (h : w_160 kc x0 x1 x2 x3 m Φ) : it_V kc it_sh0 160 0 (it_loc0 [(.ref 7), (.int x0), (.int x1), (.int x2), (.int x3)] 10) [] m (it_Pi Φ) := by
  rw [w_160] at h
  refine it_V.at (pc1 := 0) (ls1 := [some (.ref 7), some (.int x0), some (.int x1), some (.int x2), some (.int x3), none, none, none, none, none]) (st1 := []) (mem1 := m) rfl rfl rfl rfl ?_
  refine it_V.sN it_cd160 it_m160 3 (pc1 := (if x0 = (-1 : Int32) then 5 else 7)) (ls1 := [some (.ref 7), some (.int x0), some (.int x1), some (.int x2), some (.int x3), none, none, none, none, none]) (st1 := []) (mem1 := m) rfl ?_
  refine it_V.ite (fun c1 => ?_) (fun c1 => ?_)
  · have h := h.1 c1
    refine it_V.sN it_cd160 it_m160 1 (pc1 := 6) (ls1 := [some (.ref 7), some (.int x0), some (.int x1), some (.int x2), some (.int x3), none, none, none, none, none]) (st1 := [(.int (0 : Int32))]) (mem1 := m) rfl ?_
    exact it_V.ret it_cd160 it_m160 rfl rfl ⟨_, rfl, h⟩
  · have h := h.2 c1
    refine it_V.sN it_cd160 it_m160 1 (pc1 := 8) (ls1 := [some (.ref 7), some (.int x0), some (.int x1), some (.int x2), some (.int x3), none, none, none, none, none]) (st1 := [(.int x2)]) (mem1 := m) rfl ?_
    refine it_V.call it_cd160 it_m160 rfl it_m162 [(.int x2)] [] rfl rfl ⟨Nat.le_of_ble_eq_true rfl, Nat.le_of_ble_eq_true rfl, Nat.le_of_ble_eq_true rfl, Nat.le_of_ble_eq_true rfl, rfl⟩ (s_162 kc x2 m _ h) ?_
    rintro _ m3 ⟨r2, rfl, h⟩
    refine it_V.at (pc1 := 11) (ls1 := [some (.ref 7), some (.int x0), some (.int x1), some (.int x2), some (.int x3), none, none, none, none, none]) (st1 := [(.int r2)]) (mem1 := m3) rfl rfl rfl rfl ?_
    refine it_V.sN it_cd160 it_m160 2 (pc1 := 14) (ls1 := [some (.ref 7), some (.int x0), some (.int x1), some (.int x2), some (.int x3), some (.int r2), none, none, none, none]) (st1 := [(.ref 7)]) (mem1 := m3) rfl ?_
    refine it_V.call it_cd160 it_m160 rfl it_m163 [(.ref 7)] [] rfl rfl ⟨Nat.le_of_ble_eq_true rfl, Nat.le_of_ble_eq_true rfl, Nat.le_of_ble_eq_true rfl, Nat.le_of_ble_eq_true rfl, rfl⟩ (s_163 kc m3 _ h) ?_
    rintro _ m4 ⟨rfl, h⟩
    refine it_V.at (pc1 := 17) (ls1 := [some (.ref 7), some (.int x0), some (.int x1), some (.int x2), some (.int x3), some (.int r2), none, none, none, none]) (st1 := []) (mem1 := m4) rfl rfl rfl rfl ?_
    refine it_V.sN it_cd160 it_m160 9 (pc1 := (if r2 ≤ (((m4 7 2) + (2048 : Int32)) - (m4 7 7)) then 63 else 35)) (ls1 := [some (.ref 7), some (.int x0), some (.int x1), some (.int x2), some (.int x3), some (.int r2), none, none, none, none]) (st1 := []) (mem1 := m4) rfl ?_
    refine it_V.ite (fun c5 => ?_) (fun c5 => ?_)
    · have h := h.1 c5
      exact s_160_63 kc Φ x0 x1 x2 x3 r2 m4 h
    · have h := h.2 c5
      refine it_V.sN it_cd160 it_m160 1 (pc1 := 36) (ls1 := [some (.ref 7), some (.int x0), some (.int x1), some (.int x2), some (.int x3), some (.int r2), none, none, none, none]) (st1 := [(.ref 7)]) (mem1 := m4) rfl ?_
      refine it_V.call it_cd160 it_m160 rfl it_m166 [(.ref 7)] [] rfl rfl ⟨Nat.le_of_ble_eq_true rfl, Nat.le_of_ble_eq_true rfl, Nat.le_of_ble_eq_true rfl, Nat.le_of_ble_eq_true rfl, rfl⟩ (s_166 kc m4 _ h) ?_
      rintro _ m6 ⟨rfl, h⟩
      refine it_V.at (pc1 := 39) (ls1 := [some (.ref 7), some (.int x0), some (.int x1), some (.int x2), some (.int x3), some (.int r2), none, none, none, none]) (st1 := []) (mem1 := m6) rfl rfl rfl rfl ?_
      refine it_V.sN it_cd160 it_m160 1 (pc1 := 40) (ls1 := [some (.ref 7), some (.int x0), some (.int x1), some (.int x2), some (.int x3), some (.int r2), none, none, none, none]) (st1 := [(.ref 7)]) (mem1 := m6) rfl ?_
      refine it_V.call it_cd160 it_m160 rfl it_m163 [(.ref 7)] [] rfl rfl ⟨Nat.le_of_ble_eq_true rfl, Nat.le_of_ble_eq_true rfl, Nat.le_of_ble_eq_true rfl, Nat.le_of_ble_eq_true rfl, rfl⟩ (s_163 kc m6 _ h) ?_
      rintro _ m7 ⟨rfl, h⟩
      refine it_V.at (pc1 := 43) (ls1 := [some (.ref 7), some (.int x0), some (.int x1), some (.int x2), some (.int x3), some (.int r2), none, none, none, none]) (st1 := []) (mem1 := m7) rfl rfl rfl rfl ?_
      refine it_V.sN it_cd160 it_m160 9 (pc1 := (if r2 ≤ (((m7 7 2) + (2048 : Int32)) - (m7 7 7)) then 63 else 61)) (ls1 := [some (.ref 7), some (.int x0), some (.int x1), some (.int x2), some (.int x3), some (.int r2), none, none, none, none]) (st1 := []) (mem1 := m7) rfl ?_
      refine it_V.ite (fun c8 => ?_) (fun c8 => ?_)
      · have h := h.1 c8
        exact s_160_63 kc Φ x0 x1 x2 x3 r2 m7 h
      · have h := h.2 c8
        refine it_V.sN it_cd160 it_m160 1 (pc1 := 62) (ls1 := [some (.ref 7), some (.int x0), some (.int x1), some (.int x2), some (.int x3), some (.int r2), none, none, none, none]) (st1 := [(.int (0 : Int32))]) (mem1 := m7) rfl ?_
        exact it_V.ret it_cd160 it_m160 rfl rfl ⟨_, rfl, h⟩
set_option maxRecDepth 100000 in
set_option maxHeartbeats 4000000 in
theorem s_58_38 (kc : it_Kc) (Φ : it_Me → Prop) (v1 : Nat) (hv1 : it_isP v1) (m : it_Me) (h : w_58_38 kc Φ v1 m) : it_V kc it_sh0 58 38 [none, some (.ref v1), none, none, none, none, none] [] m (it_Pv Φ) := by
  rw [w_58_38] at h
  refine it_V.sN it_cd58 it_m58 2 (pc1 := 41) (ls1 := [none, some (.ref v1), none, none, none, none, none]) (st1 := [(.int (7 : Int32)), (.ref v1)]) (mem1 := m) rfl ?_
  refine it_V.call it_cd58 it_m58 rfl it_m136 [(.ref v1), (.int (7 : Int32))] [] rfl rfl ⟨Nat.le_of_ble_eq_true rfl, Nat.le_of_ble_eq_true rfl, Nat.le_of_ble_eq_true rfl, Nat.le_of_ble_eq_true rfl, (it_recvP (hv1).1)⟩ (s_136 kc v1 (7 : Int32) (hv1) m _ h) ?_
  rintro _ m1 ⟨rfl, h⟩
  refine it_V.at (pc1 := 44) (ls1 := [none, some (.ref v1), none, none, none, none, none]) (st1 := []) (mem1 := m1) rfl rfl rfl rfl ?_
  exact it_V.ret it_cd58 it_m58 rfl rfl ⟨rfl, h⟩
set_option maxRecDepth 100000 in
set_option maxHeartbeats 4000000 in
theorem s_58_80 (kc : it_Kc) (Φ : it_Me → Prop) (v3 : Int32) (v4 : Int32) (u1 : Nat) (u2 : Int32) (hu1 : it_isP u1) (m : it_Me) (h : w_58_80 kc Φ v3 v4 u1 u2 m) : it_V kc it_sh0 58 80 [none, none, none, some (.int v3), some (.int v4), none, none] [(.int u2), (.ref u1), (.ref 59)] m (it_Pv Φ) := by
  rw [w_58_80] at h
  refine it_V.sN it_cd58 it_m58 2 (pc1 := 83) (ls1 := [none, none, none, some (.int v3), some (.int v4), none, none]) (st1 := [(.int v3), (.int v4), (.int u2), (.ref u1), (.ref 59)]) (mem1 := m) rfl ?_
  refine it_V.call it_cd58 it_m58 rfl it_m60 [(.ref 59), (.ref u1), (.int u2), (.int v4), (.int v3)] [] rfl rfl ⟨Nat.le_of_ble_eq_true rfl, Nat.le_of_ble_eq_true rfl, Nat.le_of_ble_eq_true rfl, Nat.le_of_ble_eq_true rfl, rfl⟩ (s_60 kc u1 u2 v4 v3 (hu1) m _ h) ?_
  rintro _ m1 ⟨rfl, h⟩
  refine it_V.at (pc1 := 86) (ls1 := [none, none, none, some (.int v3), some (.int v4), none, none]) (st1 := []) (mem1 := m1) rfl rfl rfl rfl ?_
  exact it_V.ret it_cd58 it_m58 rfl rfl ⟨rfl, h⟩
set_option maxRecDepth 100000 in
set_option maxHeartbeats 4000000 in
theorem s_58 (kc : it_Kc) (x0 : Nat) (x1 : Int32) (x2 : Int32) (x3 : Int32) (hx0 : it_isP x0) (m : it_Me) (Φ : it_Me → Prop) (h : w_58 kc x0 x1 x2 x3 m Φ) : it_V kc it_sh0 58 0 (it_loc0 [(.ref 59), (.ref x0), (.int x1), (.int x2), (.int x3)] 7) [] m (it_Pv Φ) := by
  rw [w_58] at h
  refine it_V.at (pc1 := 0) (ls1 := [some (.ref 59), some (.ref x0), some (.int x1), some (.int x2), some (.int x3), none, none]) (st1 := []) (mem1 := m) rfl rfl rfl rfl ?_
  refine it_V.sN it_cd58 it_m58 5 (pc1 := 7) (ls1 := [some (.ref 59), some (.ref x0), some (.int x1), some (.int x2), some (.int x3), none, none]) (st1 := [(.int (0 : Int32)), (.int (5 : Int32)), (.ref x0), (.ref 9)]) (mem1 := m) rfl ?_
  refine it_V.call it_cd58 it_m58 rfl it_m88 [(.ref 9), (.ref x0), (.int (5 : Int32)), (.int (0 : Int32))] [] rfl rfl ⟨Nat.le_of_ble_eq_true rfl, Nat.le_of_ble_eq_true rfl, Nat.le_of_ble_eq_true rfl, Nat.le_of_ble_eq_true rfl, rfl⟩ (s_88 kc x0 (5 : Int32) (0 : Int32) (hx0) m _ h) ?_
  rintro _ m2 ⟨r1, rfl, h⟩
  refine it_V.at (pc1 := 10) (ls1 := [some (.ref 59), some (.ref x0), some (.int x1), some (.int x2), some (.int x3), none, none]) (st1 := [(.int r1)]) (mem1 := m2) rfl rfl rfl rfl ?_
  refine it_V.sN it_cd58 it_m58 3 (pc1 := 16) (ls1 := [some (.ref 59), some (.ref x0), some (.int x1), some (.int x2), some (.int x3), some (.int r1), none]) (st1 := [(.int x3), (.int (32 : Int32))]) (mem1 := m2) rfl ?_
  refine it_V.call it_cd58 it_m58 rfl it_m213 [(.int (32 : Int32)), (.int x3)] [] rfl rfl ⟨Nat.le_of_ble_eq_true rfl, Nat.le_of_ble_eq_true rfl, Nat.le_of_ble_eq_true rfl, Nat.le_of_ble_eq_true rfl, rfl⟩ (s_213 kc (32 : Int32) x3 m2 _ h) ?_
  rintro _ m4 ⟨r3, rfl, h⟩
  refine it_V.at (pc1 := 19) (ls1 := [some (.ref 59), some (.ref x0), some (.int x1), some (.int x2), some (.int x3), some (.int r1), none]) (st1 := [(.int r3)]) (mem1 := m4) rfl rfl rfl rfl ?_
  refine it_V.sN it_cd58 it_m58 1 (pc1 := (if r3 = 0 then 22 else 38)) (ls1 := [some (.ref 59), some (.ref x0), some (.int x1), some (.int x2), some (.int x3), some (.int r1), none]) (st1 := []) (mem1 := m4) rfl ?_
  refine it_V.ite (fun c5 => ?_) (fun c5 => ?_)
  · have h := h.1 c5
    refine it_V.sN it_cd58 it_m58 6 (pc1 := 32) (ls1 := [some (.ref 59), some (.ref x0), some (.int x1), some (.int x2), some (.int x3), some (.int r1), none]) (st1 := [(.int (r1 + (4 : Int32))), (.ref 1), (.int x3)]) (mem1 := m4) rfl ?_
    refine it_V.call it_cd58 it_m58 rfl it_m12 [(.ref 1), (.int (r1 + (4 : Int32)))] [(.int x3)] rfl rfl ⟨Nat.le_of_ble_eq_true rfl, Nat.le_of_ble_eq_true rfl, Nat.le_of_ble_eq_true rfl, Nat.le_of_ble_eq_true rfl, rfl⟩ (s_12 kc (r1 + (4 : Int32)) m4 _ h) ?_
    rintro _ m7 ⟨r6, rfl, h⟩
    refine it_V.at (pc1 := 35) (ls1 := [some (.ref 59), some (.ref x0), some (.int x1), some (.int x2), some (.int x3), some (.int r1), none]) (st1 := [(.int r6), (.int x3)]) (mem1 := m7) rfl rfl rfl rfl ?_
    refine it_V.sN it_cd58 it_m58 1 (pc1 := (if x3 ≤ r6 then 45 else 38)) (ls1 := [some (.ref 59), some (.ref x0), some (.int x1), some (.int x2), some (.int x3), some (.int r1), none]) (st1 := []) (mem1 := m7) rfl ?_
    refine it_V.ite (fun c8 => ?_) (fun c8 => ?_)
    · have h := h.1 c8
      refine it_V.sN it_cd58 it_m58 8 (pc1 := 59) (ls1 := [some (.ref 59), some (.ref x0), some (.int x1), some (.int x2), some (.int x3), some (.int r1), none]) (st1 := [(.int r1), (.ref 1), (.int x3), (.int x2), (.int x1), (.ref 7)]) (mem1 := m7) rfl ?_
      refine it_V.call it_cd58 it_m58 rfl it_m12 [(.ref 1), (.int r1)] [(.int x3), (.int x2), (.int x1), (.ref 7)] rfl rfl ⟨Nat.le_of_ble_eq_true rfl, Nat.le_of_ble_eq_true rfl, Nat.le_of_ble_eq_true rfl, Nat.le_of_ble_eq_true rfl, rfl⟩ (s_12 kc r1 m7 _ h) ?_
      rintro _ m10 ⟨r9, rfl, h⟩
      refine it_V.at (pc1 := 62) (ls1 := [some (.ref 59), some (.ref x0), some (.int x1), some (.int x2), some (.int x3), some (.int r1), none]) (st1 := [(.int r9), (.int x3), (.int x2), (.int x1), (.ref 7)]) (mem1 := m10) rfl rfl rfl rfl ?_
      refine it_V.call it_cd58 it_m58 rfl it_m160 [(.ref 7), (.int x1), (.int x2), (.int x3), (.int r9)] [] rfl rfl ⟨Nat.le_of_ble_eq_true rfl, Nat.le_of_ble_eq_true rfl, Nat.le_of_ble_eq_true rfl, Nat.le_of_ble_eq_true rfl, rfl⟩ (s_160 kc x1 x2 x3 r9 m10 _ h) ?_
      rintro _ m12 ⟨r11, rfl, h⟩
      refine it_V.at (pc1 := 65) (ls1 := [some (.ref 59), some (.ref x0), some (.int x1), some (.int x2), some (.int x3), some (.int r1), none]) (st1 := [(.int r11)]) (mem1 := m12) rfl rfl rfl rfl ?_
      refine it_V.sN it_cd58 it_m58 5 (pc1 := (if r11 = 0 then 78 else 74)) (ls1 := [some (.ref 59), some (.ref x0), some (.int x1), some (.int x2), some (.int x3), some (.int r1), some (.int r11)]) (st1 := [(.ref x0), (.ref 59)]) (mem1 := m12) rfl ?_
      refine it_V.ite (fun c13 => ?_) (fun c13 => ?_)
      · have h := h.1 c13
        refine it_V.sN it_cd58 it_m58 1 (pc1 := 80) (ls1 := [some (.ref 59), some (.ref x0), some (.int x1), some (.int x2), some (.int x3), some (.int r1), some (.int r11)]) (st1 := [(.int (9 : Int32)), (.ref x0), (.ref 59)]) (mem1 := m12) rfl ?_
        refine it_V.weak (l := [none, none, none, some (.int x2), some (.int x3), none, none]) ⟨rfl, ⟨rfl, trivial⟩⟩ ?_
        exact s_58_80 kc Φ x2 x3 x0 (9 : Int32) (hx0) m12 h
      · have h := h.2 c13
        refine it_V.sN it_cd58 it_m58 2 (pc1 := 80) (ls1 := [some (.ref 59), some (.ref x0), some (.int x1), some (.int x2), some (.int x3), some (.int r1), some (.int r11)]) (st1 := [(.int (0 : Int32)), (.ref x0), (.ref 59)]) (mem1 := m12) rfl ?_
        refine it_V.weak (l := [none, none, none, some (.int x2), some (.int x3), none, none]) ⟨rfl, ⟨rfl, trivial⟩⟩ ?_
        exact s_58_80 kc Φ x2 x3 x0 (0 : Int32) (hx0) m12 h
    · have h := h.2 c8
      refine it_V.weak (l := [none, some (.ref x0), none, none, none, none, none]) ⟨rfl, trivial⟩ ?_
      exact s_58_38 kc Φ x0 (hx0) m7 h
  · have h := h.2 c5
    refine it_V.weak (l := [none, some (.ref x0), none, none, none, none, none]) ⟨rfl, trivial⟩ ?_
    exact s_58_38 kc Φ x0 (hx0) m4 h
set_option maxRecDepth 100000 in
set_option maxHeartbeats 4000000 in
theorem s_59_50 (kc : it_Kc) (Φ : it_Me → Prop) (v3 : Int32) (u1 : Nat) (u2 : Int32) (hu1 : it_isP u1) (m : it_Me) (h : w_59_50 kc Φ v3 u1 u2 m) : it_V kc it_sh0 59 50 [none, none, none, some (.int v3), none] [(.int u2), (.ref u1), (.ref 59)] m (it_Pv Φ) := by
  rw [w_59_50] at h
  refine it_V.sN it_cd59 it_m59 2 (pc1 := 52) (ls1 := [none, none, none, some (.int v3), none]) (st1 := [(.int v3), (.int (0 : Int32)), (.int u2), (.ref u1), (.ref 59)]) (mem1 := m) rfl ?_
  refine it_V.call it_cd59 it_m59 rfl it_m60 [(.ref 59), (.ref u1), (.int u2), (.int (0 : Int32)), (.int v3)] [] rfl rfl ⟨Nat.le_of_ble_eq_true rfl, Nat.le_of_ble_eq_true rfl, Nat.le_of_ble_eq_true rfl, Nat.le_of_ble_eq_true rfl, rfl⟩ (s_60 kc u1 u2 (0 : Int32) v3 (hu1) m _ h) ?_
  rintro _ m1 ⟨rfl, h⟩
  refine it_V.at (pc1 := 55) (ls1 := [none, none, none, some (.int v3), none]) (st1 := []) (mem1 := m1) rfl rfl rfl rfl ?_
  exact it_V.ret it_cd59 it_m59 rfl rfl ⟨rfl, h⟩
set_option maxRecDepth 100000 in
set_option maxHeartbeats 4000000 in
theorem s_59 (kc : it_Kc) (x0 : Nat) (x1 : Int32) (x2 : Int32) (hx0 : it_isP x0) (m : it_Me) (Φ : it_Me → Prop) (h : w_59 kc x0 x1 x2 m Φ) : it_V kc it_sh0 59 0 (it_loc0 [(.ref 59), (.ref x0), (.int x1), (.int x2)] 5) [] m (it_Pv Φ) := by
  rw [w_59] at h
  refine it_V.at (pc1 := 0) (ls1 := [some (.ref 59), some (.ref x0), some (.int x1), some (.int x2), none]) (st1 := []) (mem1 := m) rfl rfl rfl rfl ?_
  refine it_V.sN it_cd59 it_m59 4 (pc1 := 6) (ls1 := [some (.ref 59), some (.ref x0), some (.int x1), some (.int x2), none]) (st1 := [(.int x2), (.int x1), (.ref 7)]) (mem1 := m) rfl ?_
  refine it_V.call it_cd59 it_m59 rfl it_m159 [(.ref 7), (.int x1), (.int x2)] [] rfl rfl ⟨Nat.le_of_ble_eq_true rfl, Nat.le_of_ble_eq_true rfl, Nat.le_of_ble_eq_true rfl, Nat.le_of_ble_eq_true rfl, rfl⟩ (s_159 kc x1 x2 m _ h) ?_
  rintro _ m2 ⟨r1, rfl, h⟩
  refine it_V.at (pc1 := 9) (ls1 := [some (.ref 59), some (.ref x0), some (.int x1), some (.int x2), none]) (st1 := [(.int r1)]) (mem1 := m2) rfl rfl rfl rfl ?_
  refine it_V.sN it_cd59 it_m59 1 (pc1 := (if r1 = 0 then 12 else 22)) (ls1 := [some (.ref 59), some (.ref x0), some (.int x1), some (.int x2), none]) (st1 := []) (mem1 := m2) rfl ?_
  refine it_V.ite (fun c3 => ?_) (fun c3 => ?_)
  · have h := h.1 c3
    refine it_V.sN it_cd59 it_m59 5 (pc1 := 18) (ls1 := [some (.ref 59), some (.ref x0), some (.int x1), some (.int x2), none]) (st1 := [(.int x2), (.int (0 : Int32)), (.int (10 : Int32)), (.ref x0), (.ref 59)]) (mem1 := m2) rfl ?_
    refine it_V.call it_cd59 it_m59 rfl it_m60 [(.ref 59), (.ref x0), (.int (10 : Int32)), (.int (0 : Int32)), (.int x2)] [] rfl rfl ⟨Nat.le_of_ble_eq_true rfl, Nat.le_of_ble_eq_true rfl, Nat.le_of_ble_eq_true rfl, Nat.le_of_ble_eq_true rfl, rfl⟩ (s_60 kc x0 (10 : Int32) (0 : Int32) x2 (hx0) m2 _ h) ?_
    rintro _ m4 ⟨rfl, h⟩
    refine it_V.at (pc1 := 21) (ls1 := [some (.ref 59), some (.ref x0), some (.int x1), some (.int x2), none]) (st1 := []) (mem1 := m4) rfl rfl rfl rfl ?_
    exact it_V.ret it_cd59 it_m59 rfl rfl ⟨rfl, h⟩
  · have h := h.2 c3
    refine it_V.sN it_cd59 it_m59 6 (pc1 := 32) (ls1 := [some (.ref 59), some (.ref x0), some (.int x1), some (.int x2), none]) (st1 := [(.int (0 : Int32)), (.int (255 : Int32)), (.int x2), (.int x1), (.ref 7)]) (mem1 := m2) rfl ?_
    refine it_V.call it_cd59 it_m59 rfl it_m160 [(.ref 7), (.int x1), (.int x2), (.int (255 : Int32)), (.int (0 : Int32))] [] rfl rfl ⟨Nat.le_of_ble_eq_true rfl, Nat.le_of_ble_eq_true rfl, Nat.le_of_ble_eq_true rfl, Nat.le_of_ble_eq_true rfl, rfl⟩ (s_160 kc x1 x2 (255 : Int32) (0 : Int32) m2 _ h) ?_
    rintro _ m6 ⟨r5, rfl, h⟩
    refine it_V.at (pc1 := 35) (ls1 := [some (.ref 59), some (.ref x0), some (.int x1), some (.int x2), none]) (st1 := [(.int r5)]) (mem1 := m6) rfl rfl rfl rfl ?_
    refine it_V.sN it_cd59 it_m59 5 (pc1 := (if r5 = 0 then 48 else 44)) (ls1 := [some (.ref 59), some (.ref x0), some (.int x1), some (.int x2), some (.int r5)]) (st1 := [(.ref x0), (.ref 59)]) (mem1 := m6) rfl ?_
    refine it_V.ite (fun c7 => ?_) (fun c7 => ?_)
    · have h := h.1 c7
      refine it_V.sN it_cd59 it_m59 1 (pc1 := 50) (ls1 := [some (.ref 59), some (.ref x0), some (.int x1), some (.int x2), some (.int r5)]) (st1 := [(.int (9 : Int32)), (.ref x0), (.ref 59)]) (mem1 := m6) rfl ?_
      refine it_V.weak (l := [none, none, none, some (.int x2), none]) ⟨rfl, trivial⟩ ?_
      exact s_59_50 kc Φ x2 x0 (9 : Int32) (hx0) m6 h
    · have h := h.2 c7
      refine it_V.sN it_cd59 it_m59 2 (pc1 := 50) (ls1 := [some (.ref 59), some (.ref x0), some (.int x1), some (.int x2), some (.int r5)]) (st1 := [(.int (0 : Int32)), (.ref x0), (.ref 59)]) (mem1 := m6) rfl ?_
      refine it_V.weak (l := [none, none, none, some (.int x2), none]) ⟨rfl, trivial⟩ ?_
      exact s_59_50 kc Φ x2 x0 (0 : Int32) (hx0) m6 h
set_option maxRecDepth 100000 in
set_option maxHeartbeats 4000000 in
theorem s_56_76 (kc : it_Kc) (Φ : it_Me → Prop) (m : it_Me) (h : w_56_76 kc Φ m) : it_V kc it_sh0 56 76 [none, none, none, none, none, none] [] m (it_Pv Φ) := by
  rw [w_56_76] at h
  exact it_V.ret it_cd56 it_m56 rfl rfl ⟨rfl, h⟩
set_option maxRecDepth 100000 in
set_option maxHeartbeats 4000000 in
theorem s_56 (kc : it_Kc) (x0 : Nat) (x1 : Int32) (x2 : Int32) (x3 : Int32) (hx0 : it_isP x0) (m : it_Me) (Φ : it_Me → Prop) (h : w_56 kc x0 x1 x2 x3 m Φ) : it_V kc it_sh0 56 0 (it_loc0 [(.ref 59), (.ref x0), (.int x1), (.int x2), (.int x3)] 6) [] m (it_Pv Φ) := by
  rw [w_56] at h
  refine it_V.at (pc1 := 0) (ls1 := [some (.ref 59), some (.ref x0), some (.int x1), some (.int x2), some (.int x3), none]) (st1 := []) (mem1 := m) rfl rfl rfl rfl ?_
  refine it_V.sN it_cd56 it_m56 3 (pc1 := 5) (ls1 := [some (.ref 59), some (.ref x0), some (.int x1), some (.int x2), some (.int x3), none]) (st1 := [(.ref x0), (.ref 1)]) (mem1 := m) rfl ?_
  refine it_V.getP it_cd56 it_m56 rfl (hx0).1 rfl ?_
  refine it_V.at (pc1 := 8) (ls1 := [some (.ref 59), some (.ref x0), some (.int x1), some (.int x2), some (.int x3), none]) (st1 := [(.ref (x0 + 1)), (.ref 1)]) (mem1 := m) rfl rfl rfl rfl ?_
  refine it_V.getP it_cd56 it_m56 rfl (hx0).2.1 rfl ?_
  refine it_V.at (pc1 := 11) (ls1 := [some (.ref 59), some (.ref x0), some (.int x1), some (.int x2), some (.int x3), none]) (st1 := [(.int (m (x0 + 1) 12)), (.ref 1)]) (mem1 := m) rfl rfl rfl rfl ?_
  refine it_V.call it_cd56 it_m56 rfl it_m12 [(.ref 1), (.int (m (x0 + 1) 12))] [] rfl rfl ⟨Nat.le_of_ble_eq_true rfl, Nat.le_of_ble_eq_true rfl, Nat.le_of_ble_eq_true rfl, Nat.le_of_ble_eq_true rfl, rfl⟩ (s_12 kc (m (x0 + 1) 12) m _ h) ?_
  rintro _ m2 ⟨r1, rfl, h⟩
  refine it_V.at (pc1 := 14) (ls1 := [some (.ref 59), some (.ref x0), some (.int x1), some (.int x2), some (.int x3), none]) (st1 := [(.int r1)]) (mem1 := m2) rfl rfl rfl rfl ?_
  refine it_V.sN it_cd56 it_m56 2 (pc1 := 17) (ls1 := [some (.ref 59), some (.ref x0), some (.int x1), some (.int x2), some (.int x3), some (.int r1)]) (st1 := [(.int x1)]) (mem1 := m2) rfl ?_
  refine it_V.sN it_cd56 it_m56 1 (pc1 := (if x1 = (1 : Int32) then 44 else (if x1 = (2 : Int32) then 55 else 68))) (ls1 := [some (.ref 59), some (.ref x0), some (.int x1), some (.int x2), some (.int x3), some (.int r1)]) (st1 := []) (mem1 := m2) rfl ?_
  refine it_V.ite (fun c3 => ?_) (fun c3 => ?_)
  · have h := h.1 c3
    refine it_V.sN it_cd56 it_m56 4 (pc1 := 49) (ls1 := [some (.ref 59), some (.ref x0), some (.int x1), some (.int x2), some (.int x3), some (.int r1)]) (st1 := [(.int x2), (.int r1), (.ref x0), (.ref 59)]) (mem1 := m2) rfl ?_
    refine it_V.call it_cd56 it_m56 rfl it_m57 [(.ref 59), (.ref x0), (.int r1), (.int x2)] [] rfl rfl ⟨Nat.le_of_ble_eq_true rfl, Nat.le_of_ble_eq_true rfl, Nat.le_of_ble_eq_true rfl, Nat.le_of_ble_eq_true rfl, rfl⟩ (s_57 kc x0 r1 x2 (hx0) m2 _ h) ?_
    rintro _ m4 ⟨rfl, h⟩
    refine it_V.at (pc1 := 52) (ls1 := [some (.ref 59), some (.ref x0), some (.int x1), some (.int x2), some (.int x3), some (.int r1)]) (st1 := []) (mem1 := m4) rfl rfl rfl rfl ?_
    refine it_V.sN it_cd56 it_m56 1 (pc1 := 76) (ls1 := [some (.ref 59), some (.ref x0), some (.int x1), some (.int x2), some (.int x3), some (.int r1)]) (st1 := []) (mem1 := m4) rfl ?_
    refine it_V.weak (l := [none, none, none, none, none, none]) trivial ?_
    exact s_56_76 kc Φ m4 h
  · have h := h.2 c3
    refine it_V.ite (fun c5 => ?_) (fun c5 => ?_)
    · have h := h.1 c5
      refine it_V.sN it_cd56 it_m56 5 (pc1 := 62) (ls1 := [some (.ref 59), some (.ref x0), some (.int x1), some (.int x2), some (.int x3), some (.int r1)]) (st1 := [(.int x3), (.int x2), (.int r1), (.ref x0), (.ref 59)]) (mem1 := m2) rfl ?_
      refine it_V.call it_cd56 it_m56 rfl it_m58 [(.ref 59), (.ref x0), (.int r1), (.int x2), (.int x3)] [] rfl rfl ⟨Nat.le_of_ble_eq_true rfl, Nat.le_of_ble_eq_true rfl, Nat.le_of_ble_eq_true rfl, Nat.le_of_ble_eq_true rfl, rfl⟩ (s_58 kc x0 r1 x2 x3 (hx0) m2 _ h) ?_
      rintro _ m6 ⟨rfl, h⟩
      refine it_V.at (pc1 := 65) (ls1 := [some (.ref 59), some (.ref x0), some (.int x1), some (.int x2), some (.int x3), some (.int r1)]) (st1 := []) (mem1 := m6) rfl rfl rfl rfl ?_
      refine it_V.sN it_cd56 it_m56 1 (pc1 := 76) (ls1 := [some (.ref 59), some (.ref x0), some (.int x1), some (.int x2), some (.int x3), some (.int r1)]) (st1 := []) (mem1 := m6) rfl ?_
      refine it_V.weak (l := [none, none, none, none, none, none]) trivial ?_
      exact s_56_76 kc Φ m6 h
    · have h := h.2 c5
      refine it_V.sN it_cd56 it_m56 4 (pc1 := 73) (ls1 := [some (.ref 59), some (.ref x0), some (.int x1), some (.int x2), some (.int x3), some (.int r1)]) (st1 := [(.int x2), (.int r1), (.ref x0), (.ref 59)]) (mem1 := m2) rfl ?_
      refine it_V.call it_cd56 it_m56 rfl it_m59 [(.ref 59), (.ref x0), (.int r1), (.int x2)] [] rfl rfl ⟨Nat.le_of_ble_eq_true rfl, Nat.le_of_ble_eq_true rfl, Nat.le_of_ble_eq_true rfl, Nat.le_of_ble_eq_true rfl, rfl⟩ (s_59 kc x0 r1 x2 (hx0) m2 _ h) ?_
      rintro _ m7 ⟨rfl, h⟩
      refine it_V.at (pc1 := 76) (ls1 := [some (.ref 59), some (.ref x0), some (.int x1), some (.int x2), some (.int x3), some (.int r1)]) (st1 := []) (mem1 := m7) rfl rfl rfl rfl ?_
      refine it_V.weak (l := [none, none, none, none, none, none]) trivial ?_
      exact s_56_76 kc Φ m7 h
set_option maxRecDepth 100000 in
set_option maxHeartbeats 4000000 in
theorem s_63_165 (kc : it_Kc) (Φ : it_Me → Prop) (m : it_Me) (h : w_63_165 kc Φ m) : it_V kc it_sh0 63 165 [none, none, none, none, none, none] [] m (it_Pv Φ) := by
  rw [w_63_165] at h
  exact it_V.ret it_cd63 it_m63 rfl rfl ⟨rfl, h⟩
set_option maxRecDepth 100000 in
set_option maxHeartbeats 4000000 in
theorem s_63_54 (kc : it_Kc) (Φ : it_Me → Prop) (v1 : Nat) (hv1 : it_isP v1) (m : it_Me) (h : w_63_54 kc Φ v1 m) : it_V kc it_sh0 63 54 [none, some (.ref v1), none, none, none, none] [] m (it_Pv Φ) := by
  rw [w_63_54] at h
  refine it_V.sN it_cd63 it_m63 2 (pc1 := 57) (ls1 := [none, some (.ref v1), none, none, none, none]) (st1 := [(.int (6 : Int32)), (.ref v1)]) (mem1 := m) rfl ?_
  refine it_V.call it_cd63 it_m63 rfl it_m136 [(.ref v1), (.int (6 : Int32))] [] rfl rfl ⟨Nat.le_of_ble_eq_true rfl, Nat.le_of_ble_eq_true rfl, Nat.le_of_ble_eq_true rfl, Nat.le_of_ble_eq_true rfl, (it_recvP (hv1).1)⟩ (s_136 kc v1 (6 : Int32) (hv1) m _ h) ?_
  rintro _ m1 ⟨rfl, h⟩
  refine it_V.at (pc1 := 60) (ls1 := [none, some (.ref v1), none, none, none, none]) (st1 := []) (mem1 := m1) rfl rfl rfl rfl ?_
  refine it_V.sN it_cd63 it_m63 1 (pc1 := 165) (ls1 := [none, some (.ref v1), none, none, none, none]) (st1 := []) (mem1 := m1) rfl ?_
  refine it_V.weak (l := [none, none, none, none, none, none]) trivial ?_
  exact s_63_165 kc Φ m1 h
set_option maxRecDepth 100000 in
set_option maxHeartbeats 4000000 in
theorem s_63_63 (kc : it_Kc) (Φ : it_Me → Prop) (v1 : Nat) (v2 : Int32) (v3 : Int32) (v4 : Int32) (v5 : Int32) (hv1 : it_isP v1) (m : it_Me) (h : w_63_63 kc Φ v1 v2 v3 v4 v5 m) : it_V kc it_sh0 63 63 [some (.ref 59), some (.ref v1), some (.int v2), some (.int v3), some (.int v4), some (.int v5)] [] m (it_Pv Φ) := by
  rw [w_63_63] at h
  refine it_V.sN it_cd63 it_m63 3 (pc1 := (if v2 = (1 : Int32) then 68 else 94)) (ls1 := [some (.ref 59), some (.ref v1), some (.int v2), some (.int v3), some (.int v4), some (.int v5)]) (st1 := []) (mem1 := m) rfl ?_
  refine it_V.ite (fun c1 => ?_) (fun c1 => ?_)
  · have h := h.1 c1
    refine it_V.sN it_cd63 it_m63 1 (pc1 := 69) (ls1 := [some (.ref 59), some (.ref v1), some (.int v2), some (.int v3), some (.int v4), some (.int v5)]) (st1 := [(.ref v1)]) (mem1 := m) rfl ?_
    refine it_V.call it_cd63 it_m63 rfl it_m138 [(.ref v1)] [] rfl rfl ⟨Nat.le_of_ble_eq_true rfl, Nat.le_of_ble_eq_true rfl, Nat.le_of_ble_eq_true rfl, Nat.le_of_ble_eq_true rfl, (it_recvP (hv1).1)⟩ (s_138 kc v1 (hv1) m _ h) ?_
    rintro _ m2 ⟨rfl, h⟩
    refine it_V.at (pc1 := 72) (ls1 := [some (.ref 59), some (.ref v1), some (.int v2), some (.int v3), some (.int v4), some (.int v5)]) (st1 := []) (mem1 := m2) rfl rfl rfl rfl ?_
    refine it_V.sN it_cd63 it_m63 9 (pc1 := 86) (ls1 := [some (.ref 59), some (.ref v1), some (.int v2), some (.int v3), some (.int v4), some (.int v5)]) (st1 := [(.int v3), (.ref 60), (.int v3), (.int (0 : Int32)), (.int (6 : Int32)), (.ref v1), (.ref 9)]) (mem1 := m2) rfl ?_
    obtain ⟨g3, h⟩ := h
    refine it_V.iald it_cd63 it_m63 rfl ((⟨rfl, by decide⟩ : it_isR 60 2)).2 ((⟨rfl, by decide⟩ : it_isR 60 2)).1 g3 ?_
    refine it_V.at (pc1 := 87) (ls1 := [some (.ref 59), some (.ref v1), some (.int v2), some (.int v3), some (.int v4), some (.int v5)]) (st1 := [(.int (m2 60 (Int32.toNatClampNeg v3))), (.int v3), (.int (0 : Int32)), (.int (6 : Int32)), (.ref v1), (.ref 9)]) (mem1 := m2) rfl rfl rfl rfl ?_
    refine it_V.sN it_cd63 it_m63 1 (pc1 := 88) (ls1 := [some (.ref 59), some (.ref v1), some (.int v2), some (.int v3), some (.int v4), some (.int v5)]) (st1 := [(.int (1 : Int32)), (.int (m2 60 (Int32.toNatClampNeg v3))), (.int v3), (.int (0 : Int32)), (.int (6 : Int32)), (.ref v1), (.ref 9)]) (mem1 := m2) rfl ?_
    refine it_V.call it_cd63 it_m63 rfl it_m80 [(.ref 9), (.ref v1), (.int (6 : Int32)), (.int (0 : Int32)), (.int v3), (.int (m2 60 (Int32.toNatClampNeg v3))), (.int (1 : Int32))] [] rfl rfl ⟨Nat.le_of_ble_eq_true rfl, Nat.le_of_ble_eq_true rfl, Nat.le_of_ble_eq_true rfl, Nat.le_of_ble_eq_true rfl, rfl⟩ (s_80 kc v1 (6 : Int32) (0 : Int32) v3 (m2 60 (Int32.toNatClampNeg v3)) (1 : Int32) (hv1) m2 _ h) ?_
    rintro _ m4 ⟨rfl, h⟩
    refine it_V.at (pc1 := 91) (ls1 := [some (.ref 59), some (.ref v1), some (.int v2), some (.int v3), some (.int v4), some (.int v5)]) (st1 := []) (mem1 := m4) rfl rfl rfl rfl ?_
    refine it_V.sN it_cd63 it_m63 1 (pc1 := 165) (ls1 := [some (.ref 59), some (.ref v1), some (.int v2), some (.int v3), some (.int v4), some (.int v5)]) (st1 := []) (mem1 := m4) rfl ?_
    refine it_V.weak (l := [none, none, none, none, none, none]) trivial ?_
    exact s_63_165 kc Φ m4 h
  · have h := h.2 c1
    refine it_V.sN it_cd63 it_m63 3 (pc1 := 100) (ls1 := [some (.ref 59), some (.ref v1), some (.int v2), some (.int v3), some (.int v4), some (.int v5)]) (st1 := [(.int v5), (.ref 1)]) (mem1 := m) rfl ?_
    refine it_V.call it_cd63 it_m63 rfl it_m12 [(.ref 1), (.int v5)] [] rfl rfl ⟨Nat.le_of_ble_eq_true rfl, Nat.le_of_ble_eq_true rfl, Nat.le_of_ble_eq_true rfl, Nat.le_of_ble_eq_true rfl, rfl⟩ (s_12 kc v5 m _ h) ?_
    rintro _ m6 ⟨r5, rfl, h⟩
    refine it_V.at (pc1 := 103) (ls1 := [some (.ref 59), some (.ref v1), some (.int v2), some (.int v3), some (.int v4), some (.int v5)]) (st1 := [(.int r5)]) (mem1 := m6) rfl rfl rfl rfl ?_
    refine it_V.sN it_cd63 it_m63 1 (pc1 := (if r5 = 0 then 114 else 106)) (ls1 := [some (.ref 59), some (.ref v1), some (.int v2), some (.int v3), some (.int v4), some (.int v5)]) (st1 := []) (mem1 := m6) rfl ?_
    refine it_V.ite (fun c7 => ?_) (fun c7 => ?_)
    · have h := h.1 c7
      refine it_V.sN it_cd63 it_m63 6 (pc1 := 123) (ls1 := [some (.ref 59), some (.ref v1), some (.int v2), some (.int v3), some (.int v4), some (.int v5)]) (st1 := [(.int ((1 : Int32) + v3)), (.int v5), (.ref 1)]) (mem1 := m6) rfl ?_
      refine it_V.call it_cd63 it_m63 rfl it_m13 [(.ref 1), (.int v5), (.int ((1 : Int32) + v3))] [] rfl rfl ⟨Nat.le_of_ble_eq_true rfl, Nat.le_of_ble_eq_true rfl, Nat.le_of_ble_eq_true rfl, Nat.le_of_ble_eq_true rfl, rfl⟩ (s_13 kc v5 ((1 : Int32) + v3) m6 _ h) ?_
      rintro _ m8 ⟨rfl, h⟩
      refine it_V.at (pc1 := 126) (ls1 := [some (.ref 59), some (.ref v1), some (.int v2), some (.int v3), some (.int v4), some (.int v5)]) (st1 := []) (mem1 := m8) rfl rfl rfl rfl ?_
      refine it_V.sN it_cd63 it_m63 6 (pc1 := 136) (ls1 := [some (.ref 59), some (.ref v1), some (.int v2), some (.int v3), some (.int v4), some (.int v5)]) (st1 := [(.int v4), (.int (v5 + (4 : Int32))), (.ref 1)]) (mem1 := m8) rfl ?_
      refine it_V.call it_cd63 it_m63 rfl it_m13 [(.ref 1), (.int (v5 + (4 : Int32))), (.int v4)] [] rfl rfl ⟨Nat.le_of_ble_eq_true rfl, Nat.le_of_ble_eq_true rfl, Nat.le_of_ble_eq_true rfl, Nat.le_of_ble_eq_true rfl, rfl⟩ (s_13 kc (v5 + (4 : Int32)) v4 m8 _ h) ?_
      rintro _ m9 ⟨rfl, h⟩
      refine it_V.at (pc1 := 139) (ls1 := [some (.ref 59), some (.ref v1), some (.int v2), some (.int v3), some (.int v4), some (.int v5)]) (st1 := []) (mem1 := m9) rfl rfl rfl rfl ?_
      refine it_V.sN it_cd63 it_m63 10 (pc1 := 158) (ls1 := [some (.ref 59), some (.ref v1), some (.int v2), some (.int v3), some (.int v4), some (.int v5)]) (st1 := [(.int ((m9 4 0) + v4)), (.int (v5 + (8 : Int32))), (.ref 1)]) (mem1 := m9) rfl ?_
      refine it_V.call it_cd63 it_m63 rfl it_m13 [(.ref 1), (.int (v5 + (8 : Int32))), (.int ((m9 4 0) + v4))] [] rfl rfl ⟨Nat.le_of_ble_eq_true rfl, Nat.le_of_ble_eq_true rfl, Nat.le_of_ble_eq_true rfl, Nat.le_of_ble_eq_true rfl, rfl⟩ (s_13 kc (v5 + (8 : Int32)) ((m9 4 0) + v4) m9 _ h) ?_
      rintro _ m10 ⟨rfl, h⟩
      refine it_V.at (pc1 := 161) (ls1 := [some (.ref 59), some (.ref v1), some (.int v2), some (.int v3), some (.int v4), some (.int v5)]) (st1 := []) (mem1 := m10) rfl rfl rfl rfl ?_
      refine it_V.sN it_cd63 it_m63 1 (pc1 := 162) (ls1 := [some (.ref 59), some (.ref v1), some (.int v2), some (.int v3), some (.int v4), some (.int v5)]) (st1 := [(.ref v1)]) (mem1 := m10) rfl ?_
      refine it_V.call it_cd63 it_m63 rfl it_m138 [(.ref v1)] [] rfl rfl ⟨Nat.le_of_ble_eq_true rfl, Nat.le_of_ble_eq_true rfl, Nat.le_of_ble_eq_true rfl, Nat.le_of_ble_eq_true rfl, (it_recvP (hv1).1)⟩ (s_138 kc v1 (hv1) m10 _ h) ?_
      rintro _ m11 ⟨rfl, h⟩
      refine it_V.at (pc1 := 165) (ls1 := [some (.ref 59), some (.ref v1), some (.int v2), some (.int v3), some (.int v4), some (.int v5)]) (st1 := []) (mem1 := m11) rfl rfl rfl rfl ?_
      refine it_V.weak (l := [none, none, none, none, none, none]) trivial ?_
      exact s_63_165 kc Φ m11 h
    · have h := h.2 c7
      refine it_V.sN it_cd63 it_m63 2 (pc1 := 108) (ls1 := [some (.ref 59), some (.ref v1), some (.int v2), some (.int v3), some (.int v4), some (.int v5)]) (st1 := [(.int (2 : Int32)), (.ref v1)]) (mem1 := m6) rfl ?_
      refine it_V.call it_cd63 it_m63 rfl it_m136 [(.ref v1), (.int (2 : Int32))] [] rfl rfl ⟨Nat.le_of_ble_eq_true rfl, Nat.le_of_ble_eq_true rfl, Nat.le_of_ble_eq_true rfl, Nat.le_of_ble_eq_true rfl, (it_recvP (hv1).1)⟩ (s_136 kc v1 (2 : Int32) (hv1) m6 _ h) ?_
      rintro _ m12 ⟨rfl, h⟩
      refine it_V.at (pc1 := 111) (ls1 := [some (.ref 59), some (.ref v1), some (.int v2), some (.int v3), some (.int v4), some (.int v5)]) (st1 := []) (mem1 := m12) rfl rfl rfl rfl ?_
      refine it_V.sN it_cd63 it_m63 1 (pc1 := 165) (ls1 := [some (.ref 59), some (.ref v1), some (.int v2), some (.int v3), some (.int v4), some (.int v5)]) (st1 := []) (mem1 := m12) rfl ?_
      refine it_V.weak (l := [none, none, none, none, none, none]) trivial ?_
      exact s_63_165 kc Φ m12 h
set_option maxRecDepth 100000 in
set_option maxHeartbeats 4000000 in
theorem s_63 (kc : it_Kc) (x0 : Nat) (x1 : Int32) (x2 : Int32) (x3 : Int32) (hx0 : it_isP x0) (m : it_Me) (Φ : it_Me → Prop) (h : w_63 kc x0 x1 x2 x3 m Φ) : it_V kc it_sh0 63 0 (it_loc0 [(.ref 59), (.ref x0), (.int x1), (.int x2), (.int x3)] 6) [] m (it_Pv Φ) := by
  rw [w_63] at h
  refine it_V.at (pc1 := 0) (ls1 := [some (.ref 59), some (.ref x0), some (.int x1), some (.int x2), some (.int x3), none]) (st1 := []) (mem1 := m) rfl rfl rfl rfl ?_
  refine it_V.sN it_cd63 it_m63 4 (pc1 := 7) (ls1 := [some (.ref 59), some (.ref x0), some (.int x1), some (.int x2), some (.int x3), none]) (st1 := [(.int (6 : Int32)), (.ref x0), (.ref 9)]) (mem1 := m) rfl ?_
  refine it_V.call it_cd63 it_m63 rfl it_m90 [(.ref 9), (.ref x0), (.int (6 : Int32))] [] rfl rfl ⟨Nat.le_of_ble_eq_true rfl, Nat.le_of_ble_eq_true rfl, Nat.le_of_ble_eq_true rfl, Nat.le_of_ble_eq_true rfl, rfl⟩ (s_90 kc x0 (6 : Int32) (hx0) m _ h) ?_
  rintro _ m2 ⟨r1, rfl, h⟩
  refine it_V.at (pc1 := 10) (ls1 := [some (.ref 59), some (.ref x0), some (.int x1), some (.int x2), some (.int x3), none]) (st1 := [(.int r1)]) (mem1 := m2) rfl rfl rfl rfl ?_
  refine it_V.sN it_cd63 it_m63 4 (pc1 := (if x1 = (3 : Int32) then 17 else 27)) (ls1 := [some (.ref 59), some (.ref x0), some (.int x1), some (.int x2), some (.int x3), some (.int r1)]) (st1 := []) (mem1 := m2) rfl ?_
  refine it_V.ite (fun c3 => ?_) (fun c3 => ?_)
  · have h := h.1 c3
    refine it_V.sN it_cd63 it_m63 3 (pc1 := 21) (ls1 := [some (.ref 59), some (.ref x0), some (.int x1), some (.int x2), some (.int x3), some (.int r1)]) (st1 := [(.int r1), (.ref x0), (.ref 59)]) (mem1 := m2) rfl ?_
    refine it_V.call it_cd63 it_m63 rfl it_m44 [(.ref 59), (.ref x0), (.int r1)] [] rfl rfl ⟨Nat.le_of_ble_eq_true rfl, Nat.le_of_ble_eq_true rfl, Nat.le_of_ble_eq_true rfl, Nat.le_of_ble_eq_true rfl, rfl⟩ (s_44 kc x0 r1 (hx0) m2 _ h) ?_
    rintro _ m4 ⟨rfl, h⟩
    refine it_V.at (pc1 := 24) (ls1 := [some (.ref 59), some (.ref x0), some (.int x1), some (.int x2), some (.int x3), some (.int r1)]) (st1 := []) (mem1 := m4) rfl rfl rfl rfl ?_
    refine it_V.sN it_cd63 it_m63 1 (pc1 := 165) (ls1 := [some (.ref 59), some (.ref x0), some (.int x1), some (.int x2), some (.int x3), some (.int r1)]) (st1 := []) (mem1 := m4) rfl ?_
    refine it_V.weak (l := [none, none, none, none, none, none]) trivial ?_
    exact s_63_165 kc Φ m4 h
  · have h := h.2 c3
    refine it_V.sN it_cd63 it_m63 2 (pc1 := (if x2 < 0 then 54 else 31)) (ls1 := [some (.ref 59), some (.ref x0), some (.int x1), some (.int x2), some (.int x3), some (.int r1)]) (st1 := []) (mem1 := m2) rfl ?_
    refine it_V.ite (fun c5 => ?_) (fun c5 => ?_)
    · have h := h.1 c5
      refine it_V.weak (l := [none, some (.ref x0), none, none, none, none]) ⟨rfl, trivial⟩ ?_
      exact s_63_54 kc Φ x0 (hx0) m2 h
    · have h := h.2 c5
      refine it_V.sN it_cd63 it_m63 3 (pc1 := (if (1 : Int32) < x2 then 54 else 36)) (ls1 := [some (.ref 59), some (.ref x0), some (.int x1), some (.int x2), some (.int x3), some (.int r1)]) (st1 := []) (mem1 := m2) rfl ?_
      refine it_V.ite (fun c6 => ?_) (fun c6 => ?_)
      · have h := h.1 c6
        refine it_V.weak (l := [none, some (.ref x0), none, none, none, none]) ⟨rfl, trivial⟩ ?_
        exact s_63_54 kc Φ x0 (hx0) m2 h
      · have h := h.2 c6
        refine it_V.sN it_cd63 it_m63 3 (pc1 := (if x1 = (2 : Int32) then 41 else 63)) (ls1 := [some (.ref 59), some (.ref x0), some (.int x1), some (.int x2), some (.int x3), some (.int r1)]) (st1 := []) (mem1 := m2) rfl ?_
        refine it_V.ite (fun c7 => ?_) (fun c7 => ?_)
        · have h := h.1 c7
          refine it_V.sN it_cd63 it_m63 3 (pc1 := (if x3 < (1 : Int32) then 54 else 47)) (ls1 := [some (.ref 59), some (.ref x0), some (.int x1), some (.int x2), some (.int x3), some (.int r1)]) (st1 := []) (mem1 := m2) rfl ?_
          refine it_V.ite (fun c8 => ?_) (fun c8 => ?_)
          · have h := h.1 c8
            refine it_V.weak (l := [none, some (.ref x0), none, none, none, none]) ⟨rfl, trivial⟩ ?_
            exact s_63_54 kc Φ x0 (hx0) m2 h
          · have h := h.2 c8
            refine it_V.sN it_cd63 it_m63 3 (pc1 := (if x3 ≤ (100000 : Int32) then 63 else 54)) (ls1 := [some (.ref 59), some (.ref x0), some (.int x1), some (.int x2), some (.int x3), some (.int r1)]) (st1 := []) (mem1 := m2) rfl ?_
            refine it_V.ite (fun c9 => ?_) (fun c9 => ?_)
            · have h := h.1 c9
              exact s_63_63 kc Φ x0 x1 x2 x3 r1 (hx0) m2 h
            · have h := h.2 c9
              refine it_V.weak (l := [none, some (.ref x0), none, none, none, none]) ⟨rfl, trivial⟩ ?_
              exact s_63_54 kc Φ x0 (hx0) m2 h
        · have h := h.2 c7
          exact s_63_63 kc Φ x0 x1 x2 x3 r1 (hx0) m2 h
set_option maxRecDepth 100000 in
set_option maxHeartbeats 4000000 in
theorem s_72_22 (kc : it_Kc) (Φ : Option Nat → it_Me → Prop) (u0 : Option Nat) (hu0 : ∀ q, u0 = some q → it_isP q) (m : it_Me) (h : w_72_22 kc Φ u0 m) : it_V kc it_sh0 72 22 [none, none] [(va_rf u0)] m (it_Pr Φ) := by
  rw [w_72_22] at h
  rcases u0 with _ | q1
  · skip
    exact it_V.ret it_cd72 it_m72 rfl rfl ⟨none, rfl, (fun q hq => by cases hq), h⟩
  · skip
    exact it_V.ret it_cd72 it_m72 rfl rfl ⟨some q1, rfl, (fun q hq => by cases hq; exact hu0 q1 rfl), h⟩
set_option maxRecDepth 100000 in
set_option maxHeartbeats 4000000 in
theorem s_72_12 (kc : it_Kc) (Φ : Option Nat → it_Me → Prop) (m : it_Me) (h : w_72_12 kc Φ m) : it_V kc it_sh0 72 12 [none, none] [] m (it_Pr Φ) := by
  rw [w_72_12] at h
  refine it_V.sN it_cd72 it_m72 2 (pc1 := 22) (ls1 := [none, none]) (st1 := [.null]) (mem1 := m) rfl ?_
  refine it_V.weak (l := [none, none]) trivial ?_
  exact s_72_22 kc Φ none (fun q hq => by cases hq) m h
set_option maxRecDepth 100000 in
set_option maxHeartbeats 4000000 in
theorem s_72 (kc : it_Kc) (x0 : Int32) (m : it_Me) (Φ : Option Nat → it_Me → Prop) (h : w_72 kc x0 m Φ) : it_V kc it_sh0 72 0 (it_loc0 [(.ref 9), (.int x0)] 2) [] m (it_Pr Φ) := by
  rw [w_72] at h
  refine it_V.at (pc1 := 0) (ls1 := [some (.ref 9), some (.int x0)]) (st1 := []) (mem1 := m) rfl rfl rfl rfl ?_
  refine it_V.sN it_cd72 it_m72 2 (pc1 := (if x0 < 0 then 12 else 4)) (ls1 := [some (.ref 9), some (.int x0)]) (st1 := []) (mem1 := m) rfl ?_
  refine it_V.ite (fun c1 => ?_) (fun c1 => ?_)
  · have h := h.1 c1
    refine it_V.weak (l := [none, none]) trivial ?_
    exact s_72_12 kc Φ m h
  · have h := h.2 c1
    refine it_V.sN it_cd72 it_m72 4 (pc1 := (if x0 < (m 9 7) then 16 else 12)) (ls1 := [some (.ref 9), some (.int x0)]) (st1 := []) (mem1 := m) rfl ?_
    refine it_V.ite (fun c2 => ?_) (fun c2 => ?_)
    · have h := h.1 c2
      refine it_V.sN it_cd72 it_m72 3 (pc1 := 21) (ls1 := [some (.ref 9), some (.int x0)]) (st1 := [(.int x0), (.ref 10)]) (mem1 := m) rfl ?_
      obtain ⟨g3, h⟩ := h
      refine it_V.aald it_cd72 it_m72 rfl g3 ?_
      refine it_V.at (pc1 := 22) (ls1 := [some (.ref 9), some (.int x0)]) (st1 := [(.ref (14 + 5 * Int32.toNatClampNeg x0))]) (mem1 := m) rfl rfl rfl rfl ?_
      refine it_V.weak (l := [none, none]) trivial ?_
      exact s_72_22 kc Φ (some (14 + 5 * Int32.toNatClampNeg x0)) (fun q hq => by cases hq; exact it_isP_of g3) m h
    · have h := h.2 c2
      refine it_V.weak (l := [none, none]) trivial ?_
      exact s_72_12 kc Φ m h
set_option maxRecDepth 100000 in
set_option maxHeartbeats 4000000 in
theorem s_65_58 (kc : it_Kc) (Φ : it_Me → Prop) (v1 : Nat) (hv1 : it_isP v1) (m : it_Me) (h : w_65_58 kc Φ v1 m) : it_V kc it_sh0 65 58 [none, some (.ref v1), none, none, none, none, none, none, none] [] m (it_Pv Φ) := by
  rw [w_65_58] at h
  refine it_V.sN it_cd65 it_m65 2 (pc1 := 61) (ls1 := [none, some (.ref v1), none, none, none, none, none, none, none]) (st1 := [(.int (11 : Int32)), (.ref v1)]) (mem1 := m) rfl ?_
  refine it_V.call it_cd65 it_m65 rfl it_m136 [(.ref v1), (.int (11 : Int32))] [] rfl rfl ⟨Nat.le_of_ble_eq_true rfl, Nat.le_of_ble_eq_true rfl, Nat.le_of_ble_eq_true rfl, Nat.le_of_ble_eq_true rfl, (it_recvP (hv1).1)⟩ (s_136 kc v1 (11 : Int32) (hv1) m _ h) ?_
  rintro _ m1 ⟨rfl, h⟩
  refine it_V.at (pc1 := 64) (ls1 := [none, some (.ref v1), none, none, none, none, none, none, none]) (st1 := []) (mem1 := m1) rfl rfl rfl rfl ?_
  exact it_V.ret it_cd65 it_m65 rfl rfl ⟨rfl, h⟩
set_option maxRecDepth 100000 in
set_option maxHeartbeats 4000000 in
theorem s_65_233 (kc : it_Kc) (Φ : it_Me → Prop) (m : it_Me) (h : w_65_233 kc Φ m) : it_V kc it_sh0 65 233 [none, none, none, none, none, none, none, none, none] [] m (it_Pv Φ) := by
  rw [w_65_233] at h
  exact it_V.ret it_cd65 it_m65 rfl rfl ⟨rfl, h⟩
set_option maxRecDepth 100000 in
set_option maxHeartbeats 4000000 in
theorem s_65 (kc : it_Kc) (x0 : Nat) (x1 : Int32) (x2 : Int32) (hx0 : it_isP x0) (m : it_Me) (Φ : it_Me → Prop) (h : w_65 kc x0 x1 x2 m Φ) : it_V kc it_sh0 65 0 (it_loc0 [(.ref 59), (.ref x0), (.int x1), (.int x2)] 9) [] m (it_Pv Φ) := by
  rw [w_65] at h
  refine it_V.at (pc1 := 0) (ls1 := [some (.ref 59), some (.ref x0), some (.int x1), some (.int x2), none, none, none, none, none]) (st1 := []) (mem1 := m) rfl rfl rfl rfl ?_
  refine it_V.sN it_cd65 it_m65 3 (pc1 := 5) (ls1 := [some (.ref 59), some (.ref x0), some (.int x1), some (.int x2), none, none, none, none, none]) (st1 := [(.int x1), (.ref 9)]) (mem1 := m) rfl ?_
  refine it_V.call it_cd65 it_m65 rfl it_m72 [(.ref 9), (.int x1)] [] rfl rfl ⟨Nat.le_of_ble_eq_true rfl, Nat.le_of_ble_eq_true rfl, Nat.le_of_ble_eq_true rfl, Nat.le_of_ble_eq_true rfl, rfl⟩ (s_72 kc x1 m _ h) ?_
  rintro _ m2 ⟨r1, rfl, hr1, h⟩
  rcases r1 with _ | q3
  · skip
    refine it_V.at (pc1 := 8) (ls1 := [some (.ref 59), some (.ref x0), some (.int x1), some (.int x2), none, none, none, none, none]) (st1 := [.null]) (mem1 := m2) rfl rfl rfl rfl ?_
    have h := h.1 rfl
    refine it_V.sN it_cd65 it_m65 3 (pc1 := 58) (ls1 := [some (.ref 59), some (.ref x0), some (.int x1), some (.int x2), some .null, none, none, none, none]) (st1 := []) (mem1 := m2) rfl ?_
    refine it_V.weak (l := [none, some (.ref x0), none, none, none, none, none, none, none]) ⟨rfl, trivial⟩ ?_
    exact s_65_58 kc Φ x0 (hx0) m2 h
  · skip
    refine it_V.at (pc1 := 8) (ls1 := [some (.ref 59), some (.ref x0), some (.int x1), some (.int x2), none, none, none, none, none]) (st1 := [(.ref q3)]) (mem1 := m2) rfl rfl rfl rfl ?_
    have h := h.2 q3 rfl
    refine it_V.sN it_cd65 it_m65 4 (pc1 := 17) (ls1 := [some (.ref 59), some (.ref x0), some (.int x1), some (.int x2), some (.ref q3), none, none, none, none]) (st1 := [(.ref q3)]) (mem1 := m2) rfl ?_
    refine it_V.call it_cd65 it_m65 rfl it_m131 [(.ref q3)] [] rfl rfl ⟨Nat.le_of_ble_eq_true rfl, Nat.le_of_ble_eq_true rfl, Nat.le_of_ble_eq_true rfl, Nat.le_of_ble_eq_true rfl, (it_recvP (hr1 q3 rfl).1)⟩ (s_131 kc q3 (hr1 q3 rfl) m2 _ h) ?_
    rintro _ m5 ⟨r4, rfl, h⟩
    refine it_V.at (pc1 := 20) (ls1 := [some (.ref 59), some (.ref x0), some (.int x1), some (.int x2), some (.ref q3), none, none, none, none]) (st1 := [(.int r4)]) (mem1 := m5) rfl rfl rfl rfl ?_
    refine it_V.sN it_cd65 it_m65 1 (pc1 := (if r4 = 0 then 23 else 58)) (ls1 := [some (.ref 59), some (.ref x0), some (.int x1), some (.int x2), some (.ref q3), none, none, none, none]) (st1 := []) (mem1 := m5) rfl ?_
    refine it_V.ite (fun c6 => ?_) (fun c6 => ?_)
    · have h := h.1 c6
      refine it_V.sN it_cd65 it_m65 1 (pc1 := 25) (ls1 := [some (.ref 59), some (.ref x0), some (.int x1), some (.int x2), some (.ref q3), none, none, none, none]) (st1 := [(.ref q3)]) (mem1 := m5) rfl ?_
      refine it_V.getP it_cd65 it_m65 rfl (hr1 q3 rfl).1 rfl ?_
      refine it_V.at (pc1 := 28) (ls1 := [some (.ref 59), some (.ref x0), some (.int x1), some (.int x2), some (.ref q3), none, none, none, none]) (st1 := [(.ref (q3 + 4))]) (mem1 := m5) rfl rfl rfl rfl ?_
      refine it_V.sN it_cd65 it_m65 1 (pc1 := 30) (ls1 := [some (.ref 59), some (.ref x0), some (.int x1), some (.int x2), some (.ref q3), none, none, none, none]) (st1 := [(.int (7 : Int32)), (.ref (q3 + 4))]) (mem1 := m5) rfl ?_
      obtain ⟨g7, h⟩ := h
      refine it_V.iald it_cd65 it_m65 rfl ((hr1 q3 rfl).2.2.2.2).2 ((hr1 q3 rfl).2.2.2.2).1 g7 ?_
      refine it_V.at (pc1 := 31) (ls1 := [some (.ref 59), some (.ref x0), some (.int x1), some (.int x2), some (.ref q3), none, none, none, none]) (st1 := [(.int (m5 (q3 + 4) (Int32.toNatClampNeg (7 : Int32))))]) (mem1 := m5) rfl rfl rfl rfl ?_
      refine it_V.sN it_cd65 it_m65 1 (pc1 := (if (m5 (q3 + 4) (Int32.toNatClampNeg (7 : Int32))) = 0 then 58 else 34)) (ls1 := [some (.ref 59), some (.ref x0), some (.int x1), some (.int x2), some (.ref q3), none, none, none, none]) (st1 := []) (mem1 := m5) rfl ?_
      refine it_V.ite (fun c8 => ?_) (fun c8 => ?_)
      · have h := h.1 c8
        refine it_V.weak (l := [none, some (.ref x0), none, none, none, none, none, none, none]) ⟨rfl, trivial⟩ ?_
        exact s_65_58 kc Φ x0 (hx0) m5 h
      · have h := h.2 c8
        refine it_V.sN it_cd65 it_m65 7 (pc1 := 47) (ls1 := [some (.ref 59), some (.ref x0), some (.int x1), some (.int x2), some (.ref q3), none, none, none, none]) (st1 := [(.int (0 : Int32)), (.int (7 : Int32)), (.ref q3), (.ref 9), (.ref 1)]) (mem1 := m5) rfl ?_
        refine it_V.call it_cd65 it_m65 rfl it_m89 [(.ref 9), (.ref q3), (.int (7 : Int32)), (.int (0 : Int32))] [(.ref 1)] rfl rfl ⟨Nat.le_of_ble_eq_true rfl, Nat.le_of_ble_eq_true rfl, Nat.le_of_ble_eq_true rfl, Nat.le_of_ble_eq_true rfl, rfl⟩ (s_89 kc q3 (7 : Int32) (0 : Int32) (hr1 q3 rfl) m5 _ h) ?_
        rintro _ m10 ⟨r9, rfl, h⟩
        refine it_V.at (pc1 := 50) (ls1 := [some (.ref 59), some (.ref x0), some (.int x1), some (.int x2), some (.ref q3), none, none, none, none]) (st1 := [(.int r9), (.ref 1)]) (mem1 := m10) rfl rfl rfl rfl ?_
        refine it_V.sN it_cd65 it_m65 2 (pc1 := 52) (ls1 := [some (.ref 59), some (.ref x0), some (.int x1), some (.int x2), some (.ref q3), none, none, none, none]) (st1 := [(.int (r9 + (4 : Int32))), (.ref 1)]) (mem1 := m10) rfl ?_
        refine it_V.call it_cd65 it_m65 rfl it_m12 [(.ref 1), (.int (r9 + (4 : Int32)))] [] rfl rfl ⟨Nat.le_of_ble_eq_true rfl, Nat.le_of_ble_eq_true rfl, Nat.le_of_ble_eq_true rfl, Nat.le_of_ble_eq_true rfl, rfl⟩ (s_12 kc (r9 + (4 : Int32)) m10 _ h) ?_
        rintro _ m12 ⟨r11, rfl, h⟩
        refine it_V.at (pc1 := 55) (ls1 := [some (.ref 59), some (.ref x0), some (.int x1), some (.int x2), some (.ref q3), none, none, none, none]) (st1 := [(.int r11)]) (mem1 := m12) rfl rfl rfl rfl ?_
        refine it_V.sN it_cd65 it_m65 1 (pc1 := (if r11 = 0 then 58 else 65)) (ls1 := [some (.ref 59), some (.ref x0), some (.int x1), some (.int x2), some (.ref q3), none, none, none, none]) (st1 := []) (mem1 := m12) rfl ?_
        refine it_V.ite (fun c13 => ?_) (fun c13 => ?_)
        · have h := h.1 c13
          refine it_V.weak (l := [none, some (.ref x0), none, none, none, none, none, none, none]) ⟨rfl, trivial⟩ ?_
          exact s_65_58 kc Φ x0 (hx0) m12 h
        · have h := h.2 c13
          refine it_V.sN it_cd65 it_m65 4 (pc1 := 73) (ls1 := [some (.ref 59), some (.ref x0), some (.int x1), some (.int x2), some (.ref q3), none, none, none, none]) (st1 := [(.int (7 : Int32)), (.ref q3), (.ref 9)]) (mem1 := m12) rfl ?_
          refine it_V.call it_cd65 it_m65 rfl it_m90 [(.ref 9), (.ref q3), (.int (7 : Int32))] [] rfl rfl ⟨Nat.le_of_ble_eq_true rfl, Nat.le_of_ble_eq_true rfl, Nat.le_of_ble_eq_true rfl, Nat.le_of_ble_eq_true rfl, rfl⟩ (s_90 kc q3 (7 : Int32) (hr1 q3 rfl) m12 _ h) ?_
          rintro _ m15 ⟨r14, rfl, h⟩
          refine it_V.at (pc1 := 76) (ls1 := [some (.ref 59), some (.ref x0), some (.int x1), some (.int x2), some (.ref q3), none, none, none, none]) (st1 := [(.int r14)]) (mem1 := m15) rfl rfl rfl rfl ?_
          refine it_V.sN it_cd65 it_m65 3 (pc1 := 81) (ls1 := [some (.ref 59), some (.ref x0), some (.int x1), some (.int x2), some (.ref q3), some (.int r14), none, none, none]) (st1 := [(.ref x0), (.ref q3)]) (mem1 := m15) rfl ?_
          refine it_V.acmp it_cd65 it_m65 rfl (hr1 q3 rfl) (hx0) ?_
          refine it_V.at (pc1 := (if q3 = x0 then 84 else 93)) (ls1 := [some (.ref 59), some (.ref x0), some (.int x1), some (.int x2), some (.ref q3), some (.int r14), none, none, none]) (st1 := []) (mem1 := m15) rfl rfl rfl rfl ?_
          refine it_V.ite (fun c16 => ?_) (fun c16 => ?_)
          · have h := h.1 c16
            refine it_V.sN it_cd65 it_m65 2 (pc1 := 87) (ls1 := [some (.ref 59), some (.ref x0), some (.int x1), some (.int x2), some (.ref q3), some (.int r14), none, none, none]) (st1 := [(.int (6 : Int32)), (.ref x0)]) (mem1 := m15) rfl ?_
            refine it_V.call it_cd65 it_m65 rfl it_m136 [(.ref x0), (.int (6 : Int32))] [] rfl rfl ⟨Nat.le_of_ble_eq_true rfl, Nat.le_of_ble_eq_true rfl, Nat.le_of_ble_eq_true rfl, Nat.le_of_ble_eq_true rfl, (it_recvP (hx0).1)⟩ (s_136 kc x0 (6 : Int32) (hx0) m15 _ h) ?_
            rintro _ m17 ⟨rfl, h⟩
            refine it_V.at (pc1 := 90) (ls1 := [some (.ref 59), some (.ref x0), some (.int x1), some (.int x2), some (.ref q3), some (.int r14), none, none, none]) (st1 := []) (mem1 := m17) rfl rfl rfl rfl ?_
            refine it_V.sN it_cd65 it_m65 1 (pc1 := 233) (ls1 := [some (.ref 59), some (.ref x0), some (.int x1), some (.int x2), some (.ref q3), some (.int r14), none, none, none]) (st1 := []) (mem1 := m17) rfl ?_
            refine it_V.weak (l := [none, none, none, none, none, none, none, none, none]) trivial ?_
            exact s_65_233 kc Φ m17 h
          · have h := h.2 c16
            refine it_V.sN it_cd65 it_m65 3 (pc1 := 99) (ls1 := [some (.ref 59), some (.ref x0), some (.int x1), some (.int x2), some (.ref q3), some (.int r14), none, none, none]) (st1 := [(.int r14), (.ref 1)]) (mem1 := m15) rfl ?_
            refine it_V.call it_cd65 it_m65 rfl it_m12 [(.ref 1), (.int r14)] [] rfl rfl ⟨Nat.le_of_ble_eq_true rfl, Nat.le_of_ble_eq_true rfl, Nat.le_of_ble_eq_true rfl, Nat.le_of_ble_eq_true rfl, rfl⟩ (s_12 kc r14 m15 _ h) ?_
            rintro _ m19 ⟨r18, rfl, h⟩
            refine it_V.at (pc1 := 102) (ls1 := [some (.ref 59), some (.ref x0), some (.int x1), some (.int x2), some (.ref q3), some (.int r14), none, none, none]) (st1 := [(.int r18)]) (mem1 := m19) rfl rfl rfl rfl ?_
            refine it_V.sN it_cd65 it_m65 1 (pc1 := (if r18 = 0 then 113 else 105)) (ls1 := [some (.ref 59), some (.ref x0), some (.int x1), some (.int x2), some (.ref q3), some (.int r14), none, none, none]) (st1 := []) (mem1 := m19) rfl ?_
            refine it_V.ite (fun c20 => ?_) (fun c20 => ?_)
            · have h := h.1 c20
              refine it_V.sN it_cd65 it_m65 5 (pc1 := 121) (ls1 := [some (.ref 59), some (.ref x0), some (.int x1), some (.int x2), some (.ref q3), some (.int r14), none, none, none]) (st1 := [(.int (0 : Int32)), (.int (7 : Int32)), (.ref x0), (.ref 9)]) (mem1 := m19) rfl ?_
              refine it_V.call it_cd65 it_m65 rfl it_m88 [(.ref 9), (.ref x0), (.int (7 : Int32)), (.int (0 : Int32))] [] rfl rfl ⟨Nat.le_of_ble_eq_true rfl, Nat.le_of_ble_eq_true rfl, Nat.le_of_ble_eq_true rfl, Nat.le_of_ble_eq_true rfl, rfl⟩ (s_88 kc x0 (7 : Int32) (0 : Int32) (hx0) m19 _ h) ?_
              rintro _ m22 ⟨r21, rfl, h⟩
              refine it_V.at (pc1 := 124) (ls1 := [some (.ref 59), some (.ref x0), some (.int x1), some (.int x2), some (.ref q3), some (.int r14), none, none, none]) (st1 := [(.int r21)]) (mem1 := m22) rfl rfl rfl rfl ?_
              refine it_V.sN it_cd65 it_m65 6 (pc1 := 135) (ls1 := [some (.ref 59), some (.ref x0), some (.int x1), some (.int x2), some (.ref q3), some (.int r14), some (.int r21), none, none]) (st1 := [(.int (0 : Int32)), (.int (7 : Int32)), (.ref q3), (.ref 9)]) (mem1 := m22) rfl ?_
              refine it_V.call it_cd65 it_m65 rfl it_m89 [(.ref 9), (.ref q3), (.int (7 : Int32)), (.int (0 : Int32))] [] rfl rfl ⟨Nat.le_of_ble_eq_true rfl, Nat.le_of_ble_eq_true rfl, Nat.le_of_ble_eq_true rfl, Nat.le_of_ble_eq_true rfl, rfl⟩ (s_89 kc q3 (7 : Int32) (0 : Int32) (hr1 q3 rfl) m22 _ h) ?_
              rintro _ m24 ⟨r23, rfl, h⟩
              refine it_V.at (pc1 := 138) (ls1 := [some (.ref 59), some (.ref x0), some (.int x1), some (.int x2), some (.ref q3), some (.int r14), some (.int r21), none, none]) (st1 := [(.int r23)]) (mem1 := m24) rfl rfl rfl rfl ?_
              refine it_V.sN it_cd65 it_m65 7 (pc1 := 149) (ls1 := [some (.ref 59), some (.ref x0), some (.int x1), some (.int x2), some (.ref q3), some (.int r14), some (.int r21), some (.int r23), none]) (st1 := [(.int (r21 + (4 : Int32))), (.ref 1), (.int x2)]) (mem1 := m24) rfl ?_
              refine it_V.call it_cd65 it_m65 rfl it_m12 [(.ref 1), (.int (r21 + (4 : Int32)))] [(.int x2)] rfl rfl ⟨Nat.le_of_ble_eq_true rfl, Nat.le_of_ble_eq_true rfl, Nat.le_of_ble_eq_true rfl, Nat.le_of_ble_eq_true rfl, rfl⟩ (s_12 kc (r21 + (4 : Int32)) m24 _ h) ?_
              rintro _ m26 ⟨r25, rfl, h⟩
              refine it_V.at (pc1 := 152) (ls1 := [some (.ref 59), some (.ref x0), some (.int x1), some (.int x2), some (.ref q3), some (.int r14), some (.int r21), some (.int r23), none]) (st1 := [(.int r25), (.int x2)]) (mem1 := m26) rfl rfl rfl rfl ?_
              refine it_V.call it_cd65 it_m65 rfl it_m214 [(.int x2), (.int r25)] [] rfl rfl ⟨Nat.le_of_ble_eq_true rfl, Nat.le_of_ble_eq_true rfl, Nat.le_of_ble_eq_true rfl, Nat.le_of_ble_eq_true rfl, rfl⟩ (s_214 kc x2 r25 m26 _ h) ?_
              rintro _ m28 ⟨r27, rfl, h⟩
              refine it_V.at (pc1 := 155) (ls1 := [some (.ref 59), some (.ref x0), some (.int x1), some (.int x2), some (.ref q3), some (.int r14), some (.int r21), some (.int r23), none]) (st1 := [(.int r27)]) (mem1 := m28) rfl rfl rfl rfl ?_
              refine it_V.sN it_cd65 it_m65 5 (pc1 := 163) (ls1 := [some (.ref 59), some (.ref x0), some (.int x1), some (.int x2), some (.ref q3), some (.int r14), some (.int r21), some (.int r23), none]) (st1 := [(.int (r23 + (4 : Int32))), (.ref 1), (.int r27)]) (mem1 := m28) rfl ?_
              refine it_V.call it_cd65 it_m65 rfl it_m12 [(.ref 1), (.int (r23 + (4 : Int32)))] [(.int r27)] rfl rfl ⟨Nat.le_of_ble_eq_true rfl, Nat.le_of_ble_eq_true rfl, Nat.le_of_ble_eq_true rfl, Nat.le_of_ble_eq_true rfl, rfl⟩ (s_12 kc (r23 + (4 : Int32)) m28 _ h) ?_
              rintro _ m30 ⟨r29, rfl, h⟩
              refine it_V.at (pc1 := 166) (ls1 := [some (.ref 59), some (.ref x0), some (.int x1), some (.int x2), some (.ref q3), some (.int r14), some (.int r21), some (.int r23), none]) (st1 := [(.int r29), (.int r27)]) (mem1 := m30) rfl rfl rfl rfl ?_
              refine it_V.call it_cd65 it_m65 rfl it_m214 [(.int r27), (.int r29)] [] rfl rfl ⟨Nat.le_of_ble_eq_true rfl, Nat.le_of_ble_eq_true rfl, Nat.le_of_ble_eq_true rfl, Nat.le_of_ble_eq_true rfl, rfl⟩ (s_214 kc r27 r29 m30 _ h) ?_
              rintro _ m32 ⟨r31, rfl, h⟩
              refine it_V.at (pc1 := 169) (ls1 := [some (.ref 59), some (.ref x0), some (.int x1), some (.int x2), some (.ref q3), some (.int r14), some (.int r21), some (.int r23), none]) (st1 := [(.int r31)]) (mem1 := m32) rfl rfl rfl rfl ?_
              refine it_V.sN it_cd65 it_m65 6 (pc1 := 181) (ls1 := [some (.ref 59), some (.ref x0), some (.int x1), some (.int x2), some (.ref q3), some (.int r14), some (.int r21), some (.int r23), some (.int r31)]) (st1 := [(.int r21), (.ref 1), (.ref 1)]) (mem1 := m32) rfl ?_
              refine it_V.call it_cd65 it_m65 rfl it_m12 [(.ref 1), (.int r21)] [(.ref 1)] rfl rfl ⟨Nat.le_of_ble_eq_true rfl, Nat.le_of_ble_eq_true rfl, Nat.le_of_ble_eq_true rfl, Nat.le_of_ble_eq_true rfl, rfl⟩ (s_12 kc r21 m32 _ h) ?_
              rintro _ m34 ⟨r33, rfl, h⟩
              refine it_V.at (pc1 := 184) (ls1 := [some (.ref 59), some (.ref x0), some (.int x1), some (.int x2), some (.ref q3), some (.int r14), some (.int r21), some (.int r23), some (.int r31)]) (st1 := [(.int r33), (.ref 1)]) (mem1 := m34) rfl rfl rfl rfl ?_
              refine it_V.sN it_cd65 it_m65 3 (pc1 := 190) (ls1 := [some (.ref 59), some (.ref x0), some (.int x1), some (.int x2), some (.ref q3), some (.int r14), some (.int r21), some (.int r23), some (.int r31)]) (st1 := [(.int r23), (.ref 1), (.int r33), (.ref 1)]) (mem1 := m34) rfl ?_
              refine it_V.call it_cd65 it_m65 rfl it_m12 [(.ref 1), (.int r23)] [(.int r33), (.ref 1)] rfl rfl ⟨Nat.le_of_ble_eq_true rfl, Nat.le_of_ble_eq_true rfl, Nat.le_of_ble_eq_true rfl, Nat.le_of_ble_eq_true rfl, rfl⟩ (s_12 kc r23 m34 _ h) ?_
              rintro _ m36 ⟨r35, rfl, h⟩
              refine it_V.at (pc1 := 193) (ls1 := [some (.ref 59), some (.ref x0), some (.int x1), some (.int x2), some (.ref q3), some (.int r14), some (.int r21), some (.int r23), some (.int r31)]) (st1 := [(.int r35), (.int r33), (.ref 1)]) (mem1 := m36) rfl rfl rfl rfl ?_
              refine it_V.sN it_cd65 it_m65 1 (pc1 := 195) (ls1 := [some (.ref 59), some (.ref x0), some (.int x1), some (.int x2), some (.ref q3), some (.int r14), some (.int r21), some (.int r23), some (.int r31)]) (st1 := [(.int r31), (.int r35), (.int r33), (.ref 1)]) (mem1 := m36) rfl ?_
              refine it_V.call it_cd65 it_m65 rfl it_m19 [(.ref 1), (.int r33), (.int r35), (.int r31)] [] rfl rfl ⟨Nat.le_of_ble_eq_true rfl, Nat.le_of_ble_eq_true rfl, Nat.le_of_ble_eq_true rfl, Nat.le_of_ble_eq_true rfl, rfl⟩ (s_19 kc r33 r35 r31 m36 _ h) ?_
              rintro _ m37 ⟨rfl, h⟩
              refine it_V.at (pc1 := 198) (ls1 := [some (.ref 59), some (.ref x0), some (.int x1), some (.int x2), some (.ref q3), some (.int r14), some (.int r21), some (.int r23), some (.int r31)]) (st1 := []) (mem1 := m37) rfl rfl rfl rfl ?_
              refine it_V.sN it_cd65 it_m65 4 (pc1 := 205) (ls1 := [some (.ref 59), some (.ref x0), some (.int x1), some (.int x2), some (.ref q3), some (.int r14), some (.int r21), some (.int r23), some (.int r31)]) (st1 := [(.int (1 : Int32)), (.int r14), (.ref 1)]) (mem1 := m37) rfl ?_
              refine it_V.call it_cd65 it_m65 rfl it_m13 [(.ref 1), (.int r14), (.int (1 : Int32))] [] rfl rfl ⟨Nat.le_of_ble_eq_true rfl, Nat.le_of_ble_eq_true rfl, Nat.le_of_ble_eq_true rfl, Nat.le_of_ble_eq_true rfl, rfl⟩ (s_13 kc r14 (1 : Int32) m37 _ h) ?_
              rintro _ m38 ⟨rfl, h⟩
              refine it_V.at (pc1 := 208) (ls1 := [some (.ref 59), some (.ref x0), some (.int x1), some (.int x2), some (.ref q3), some (.int r14), some (.int r21), some (.int r23), some (.int r31)]) (st1 := []) (mem1 := m38) rfl rfl rfl rfl ?_
              refine it_V.sN it_cd65 it_m65 2 (pc1 := 211) (ls1 := [some (.ref 59), some (.ref x0), some (.int x1), some (.int x2), some (.ref q3), some (.int r14), some (.int r21), some (.int r23), some (.int r31)]) (st1 := [(.int r31), (.ref x0)]) (mem1 := m38) rfl ?_
              refine it_V.call it_cd65 it_m65 rfl it_m139 [(.ref x0), (.int r31)] [] rfl rfl ⟨Nat.le_of_ble_eq_true rfl, Nat.le_of_ble_eq_true rfl, Nat.le_of_ble_eq_true rfl, Nat.le_of_ble_eq_true rfl, (it_recvP (hx0).1)⟩ (s_139 kc x0 r31 (hx0) m38 _ h) ?_
              rintro _ m39 ⟨rfl, h⟩
              refine it_V.at (pc1 := 214) (ls1 := [some (.ref 59), some (.ref x0), some (.int x1), some (.int x2), some (.ref q3), some (.int r14), some (.int r21), some (.int r23), some (.int r31)]) (st1 := []) (mem1 := m39) rfl rfl rfl rfl ?_
              refine it_V.sN it_cd65 it_m65 6 (pc1 := 224) (ls1 := [some (.ref 59), some (.ref x0), some (.int x1), some (.int x2), some (.ref q3), some (.int r14), some (.int r21), some (.int r23), some (.int r31)]) (st1 := [(.ref x0), (.int (0 : Int32)), (.int (7 : Int32)), (.ref q3), (.ref 9)]) (mem1 := m39) rfl ?_
              refine it_V.getP it_cd65 it_m65 rfl (hx0).1 rfl ?_
              refine it_V.at (pc1 := 227) (ls1 := [some (.ref 59), some (.ref x0), some (.int x1), some (.int x2), some (.ref q3), some (.int r14), some (.int r21), some (.int r23), some (.int r31)]) (st1 := [(.int (m39 x0 0)), (.int (0 : Int32)), (.int (7 : Int32)), (.ref q3), (.ref 9)]) (mem1 := m39) rfl rfl rfl rfl ?_
              refine it_V.sN it_cd65 it_m65 2 (pc1 := 230) (ls1 := [some (.ref 59), some (.ref x0), some (.int x1), some (.int x2), some (.ref q3), some (.int r14), some (.int r21), some (.int r23), some (.int r31)]) (st1 := [(.int (0 : Int32)), (.int r31), (.int (m39 x0 0)), (.int (0 : Int32)), (.int (7 : Int32)), (.ref q3), (.ref 9)]) (mem1 := m39) rfl ?_
              refine it_V.call it_cd65 it_m65 rfl it_m80 [(.ref 9), (.ref q3), (.int (7 : Int32)), (.int (0 : Int32)), (.int (m39 x0 0)), (.int r31), (.int (0 : Int32))] [] rfl rfl ⟨Nat.le_of_ble_eq_true rfl, Nat.le_of_ble_eq_true rfl, Nat.le_of_ble_eq_true rfl, Nat.le_of_ble_eq_true rfl, rfl⟩ (s_80 kc q3 (7 : Int32) (0 : Int32) (m39 x0 0) r31 (0 : Int32) (hr1 q3 rfl) m39 _ h) ?_
              rintro _ m40 ⟨rfl, h⟩
              refine it_V.at (pc1 := 233) (ls1 := [some (.ref 59), some (.ref x0), some (.int x1), some (.int x2), some (.ref q3), some (.int r14), some (.int r21), some (.int r23), some (.int r31)]) (st1 := []) (mem1 := m40) rfl rfl rfl rfl ?_
              refine it_V.weak (l := [none, none, none, none, none, none, none, none, none]) trivial ?_
              exact s_65_233 kc Φ m40 h
            · have h := h.2 c20
              refine it_V.sN it_cd65 it_m65 2 (pc1 := 107) (ls1 := [some (.ref 59), some (.ref x0), some (.int x1), some (.int x2), some (.ref q3), some (.int r14), none, none, none]) (st1 := [(.int (2 : Int32)), (.ref x0)]) (mem1 := m19) rfl ?_
              refine it_V.call it_cd65 it_m65 rfl it_m136 [(.ref x0), (.int (2 : Int32))] [] rfl rfl ⟨Nat.le_of_ble_eq_true rfl, Nat.le_of_ble_eq_true rfl, Nat.le_of_ble_eq_true rfl, Nat.le_of_ble_eq_true rfl, (it_recvP (hx0).1)⟩ (s_136 kc x0 (2 : Int32) (hx0) m19 _ h) ?_
              rintro _ m41 ⟨rfl, h⟩
              refine it_V.at (pc1 := 110) (ls1 := [some (.ref 59), some (.ref x0), some (.int x1), some (.int x2), some (.ref q3), some (.int r14), none, none, none]) (st1 := []) (mem1 := m41) rfl rfl rfl rfl ?_
              refine it_V.sN it_cd65 it_m65 1 (pc1 := 233) (ls1 := [some (.ref 59), some (.ref x0), some (.int x1), some (.int x2), some (.ref q3), some (.int r14), none, none, none]) (st1 := []) (mem1 := m41) rfl ?_
              refine it_V.weak (l := [none, none, none, none, none, none, none, none, none]) trivial ?_
              exact s_65_233 kc Φ m41 h
    · have h := h.2 c6
      refine it_V.weak (l := [none, some (.ref x0), none, none, none, none, none, none, none]) ⟨rfl, trivial⟩ ?_
      exact s_65_58 kc Φ x0 (hx0) m5 h
set_option maxRecDepth 100000 in
set_option maxHeartbeats 4000000 in
theorem s_66_57 (kc : it_Kc) (Φ : it_Me → Prop) (K91 : Nat → Int32 → it_Me → Prop) (K104 : Nat → it_Me → Prop) (hK91 : ∀ (v1 : Nat) (v5 : Int32) (_ : it_isP v1) (m : it_Me), K91 v1 v5 m → it_V kc it_sh0 66 91 [none, some (.ref v1), none, none, none, some (.int v5)] [] m (it_Pv Φ)) (hK104 : ∀ (v1 : Nat) (_ : it_isP v1) (m : it_Me), K104 v1 m → it_V kc it_sh0 66 104 [none, some (.ref v1), none, none, none, none] [] m (it_Pv Φ)) : ∀ (n : Nat) (v1 : Nat) (v2 : Int32) (v4 : Int32) (v5 : Int32) (hv1 : it_isP v1) (m : it_Me) (h : w_66_57 kc Φ K91 K104 n v1 v2 v4 v5 m), it_V kc it_sh0 66 57 [some (.ref 59), some (.ref v1), some (.int v2), none, some (.int v4), some (.int v5)] [] m (it_Pv Φ) := by
  intro n
  induction n with
  | zero => intro v1 v2 v4 v5 hv1 m h; exact absurd h id
  | succ n ih =>
    intro v1 v2 v4 v5 hv1 m h
    rw [w_66_57] at h
    refine it_V.sN it_cd66 it_m66 5 (pc1 := (if (m 9 7) ≤ v5 then 104 else 69)) (ls1 := [some (.ref 59), some (.ref v1), some (.int v2), none, some (.int v4), some (.int v5)]) (st1 := []) (mem1 := m) rfl ?_
    refine it_V.ite (fun c1 => ?_) (fun c1 => ?_)
    · have h := h.1 c1
      refine it_V.weak (l := [none, some (.ref v1), none, none, none, none]) ⟨rfl, trivial⟩ ?_
      exact hK104 v1 (hv1) m h
    · have h := h.2 c1
      refine it_V.sN it_cd66 it_m66 4 (pc1 := 78) (ls1 := [some (.ref 59), some (.ref v1), some (.int v2), none, some (.int v4), some (.int v5)]) (st1 := [(.int v5), (.ref 10)]) (mem1 := m) rfl ?_
      obtain ⟨g2, h⟩ := h
      refine it_V.aald it_cd66 it_m66 rfl g2 ?_
      refine it_V.at (pc1 := 79) (ls1 := [some (.ref 59), some (.ref v1), some (.int v2), none, some (.int v4), some (.int v5)]) (st1 := [(.ref (14 + 5 * Int32.toNatClampNeg v5))]) (mem1 := m) rfl rfl rfl rfl ?_
      refine it_V.getP it_cd66 it_m66 rfl (it_isP_of g2).1 rfl ?_
      refine it_V.at (pc1 := 82) (ls1 := [some (.ref 59), some (.ref v1), some (.int v2), none, some (.int v4), some (.int v5)]) (st1 := [(.ref ((14 + 5 * Int32.toNatClampNeg v5) + 1))]) (mem1 := m) rfl rfl rfl rfl ?_
      refine it_V.sN it_cd66 it_m66 2 (pc1 := 85) (ls1 := [some (.ref 59), some (.ref v1), some (.int v2), none, some (.int v4), some (.int v5)]) (st1 := [(.int v2), (.int v4), (.ref ((14 + 5 * Int32.toNatClampNeg v5) + 1))]) (mem1 := m) rfl ?_
      refine it_V.call it_cd66 it_m66 rfl it_m7 [(.ref ((14 + 5 * Int32.toNatClampNeg v5) + 1)), (.int v4), (.int v2)] [] rfl rfl ⟨Nat.le_of_ble_eq_true rfl, Nat.le_of_ble_eq_true rfl, Nat.le_of_ble_eq_true rfl, Nat.le_of_ble_eq_true rfl, (it_recvP ((it_isP_of g2).2.1))⟩ (s_7 kc ((14 + 5 * Int32.toNatClampNeg v5) + 1) v4 v2 ((it_isP_of g2).2.1) m _ h) ?_
      rintro _ m4 ⟨r3, rfl, h⟩
      refine it_V.at (pc1 := 88) (ls1 := [some (.ref 59), some (.ref v1), some (.int v2), none, some (.int v4), some (.int v5)]) (st1 := [(.int r3)]) (mem1 := m4) rfl rfl rfl rfl ?_
      refine it_V.sN it_cd66 it_m66 1 (pc1 := (if r3 = 0 then 98 else 91)) (ls1 := [some (.ref 59), some (.ref v1), some (.int v2), none, some (.int v4), some (.int v5)]) (st1 := []) (mem1 := m4) rfl ?_
      refine it_V.ite (fun c5 => ?_) (fun c5 => ?_)
      · have h := h.1 c5
        refine it_V.sN it_cd66 it_m66 2 (pc1 := 57) (ls1 := [some (.ref 59), some (.ref v1), some (.int v2), none, some (.int v4), some (.int (v5 + (1 : Int32)))]) (st1 := []) (mem1 := m4) rfl ?_
        refine it_V.weak (l := [some (.ref 59), some (.ref v1), some (.int v2), none, some (.int v4), some (.int (v5 + (1 : Int32)))]) ⟨rfl, ⟨rfl, ⟨rfl, ⟨rfl, ⟨rfl, trivial⟩⟩⟩⟩⟩ ?_
        exact ih v1 v2 v4 (v5 + (1 : Int32)) (hv1) m4 h
      · have h := h.2 c5
        refine it_V.weak (l := [none, some (.ref v1), none, none, none, some (.int v5)]) ⟨rfl, ⟨rfl, trivial⟩⟩ ?_
        exact hK91 v1 v5 (hv1) m4 h
set_option maxRecDepth 100000 in
set_option maxHeartbeats 4000000 in
theorem s_66_37 (kc : it_Kc) (Φ : it_Me → Prop) (v1 : Nat) (hv1 : it_isP v1) (m : it_Me) (h : w_66_37 kc Φ v1 m) : it_V kc it_sh0 66 37 [none, some (.ref v1), none, none, none, none] [] m (it_Pv Φ) := by
  rw [w_66_37] at h
  refine it_V.sN it_cd66 it_m66 2 (pc1 := 40) (ls1 := [none, some (.ref v1), none, none, none, none]) (st1 := [(.int (7 : Int32)), (.ref v1)]) (mem1 := m) rfl ?_
  refine it_V.call it_cd66 it_m66 rfl it_m136 [(.ref v1), (.int (7 : Int32))] [] rfl rfl ⟨Nat.le_of_ble_eq_true rfl, Nat.le_of_ble_eq_true rfl, Nat.le_of_ble_eq_true rfl, Nat.le_of_ble_eq_true rfl, (it_recvP (hv1).1)⟩ (s_136 kc v1 (7 : Int32) (hv1) m _ h) ?_
  rintro _ m1 ⟨rfl, h⟩
  refine it_V.at (pc1 := 43) (ls1 := [none, some (.ref v1), none, none, none, none]) (st1 := []) (mem1 := m1) rfl rfl rfl rfl ?_
  exact it_V.ret it_cd66 it_m66 rfl rfl ⟨rfl, h⟩
set_option maxRecDepth 100000 in
set_option maxHeartbeats 4000000 in
theorem s_66_91 (kc : it_Kc) (Φ : it_Me → Prop) (v1 : Nat) (v5 : Int32) (hv1 : it_isP v1) (m : it_Me) (h : w_66_91 kc Φ v1 v5 m) : it_V kc it_sh0 66 91 [none, some (.ref v1), none, none, none, some (.int v5)] [] m (it_Pv Φ) := by
  rw [w_66_91] at h
  refine it_V.sN it_cd66 it_m66 2 (pc1 := 94) (ls1 := [none, some (.ref v1), none, none, none, some (.int v5)]) (st1 := [(.int v5), (.ref v1)]) (mem1 := m) rfl ?_
  refine it_V.call it_cd66 it_m66 rfl it_m139 [(.ref v1), (.int v5)] [] rfl rfl ⟨Nat.le_of_ble_eq_true rfl, Nat.le_of_ble_eq_true rfl, Nat.le_of_ble_eq_true rfl, Nat.le_of_ble_eq_true rfl, (it_recvP (hv1).1)⟩ (s_139 kc v1 v5 (hv1) m _ h) ?_
  rintro _ m1 ⟨rfl, h⟩
  refine it_V.at (pc1 := 97) (ls1 := [none, some (.ref v1), none, none, none, some (.int v5)]) (st1 := []) (mem1 := m1) rfl rfl rfl rfl ?_
  exact it_V.ret it_cd66 it_m66 rfl rfl ⟨rfl, h⟩
set_option maxRecDepth 100000 in
set_option maxHeartbeats 4000000 in
theorem s_66_104 (kc : it_Kc) (Φ : it_Me → Prop) (v1 : Nat) (hv1 : it_isP v1) (m : it_Me) (h : w_66_104 kc Φ v1 m) : it_V kc it_sh0 66 104 [none, some (.ref v1), none, none, none, none] [] m (it_Pv Φ) := by
  rw [w_66_104] at h
  refine it_V.sN it_cd66 it_m66 2 (pc1 := 107) (ls1 := [none, some (.ref v1), none, none, none, none]) (st1 := [(.int (11 : Int32)), (.ref v1)]) (mem1 := m) rfl ?_
  refine it_V.call it_cd66 it_m66 rfl it_m136 [(.ref v1), (.int (11 : Int32))] [] rfl rfl ⟨Nat.le_of_ble_eq_true rfl, Nat.le_of_ble_eq_true rfl, Nat.le_of_ble_eq_true rfl, Nat.le_of_ble_eq_true rfl, (it_recvP (hv1).1)⟩ (s_136 kc v1 (11 : Int32) (hv1) m _ h) ?_
  rintro _ m1 ⟨rfl, h⟩
  refine it_V.at (pc1 := 110) (ls1 := [none, some (.ref v1), none, none, none, none]) (st1 := []) (mem1 := m1) rfl rfl rfl rfl ?_
  exact it_V.ret it_cd66 it_m66 rfl rfl ⟨rfl, h⟩
set_option maxRecDepth 100000 in
set_option maxHeartbeats 4000000 in
theorem s_66 (kc : it_Kc) (x0 : Nat) (x1 : Int32) (hx0 : it_isP x0) (m : it_Me) (Φ : it_Me → Prop) (h : w_66 kc x0 x1 m Φ) : it_V kc it_sh0 66 0 (it_loc0 [(.ref 59), (.ref x0), (.int x1)] 6) [] m (it_Pv Φ) := by
  rw [w_66] at h
  refine it_V.at (pc1 := 0) (ls1 := [some (.ref 59), some (.ref x0), some (.int x1), none, none, none]) (st1 := []) (mem1 := m) rfl rfl rfl rfl ?_
  refine it_V.sN it_cd66 it_m66 5 (pc1 := 8) (ls1 := [some (.ref 59), some (.ref x0), some (.int x1), none, none, none]) (st1 := [(.int (0 : Int32)), (.int (7 : Int32)), (.ref x0), (.ref 9)]) (mem1 := m) rfl ?_
  refine it_V.call it_cd66 it_m66 rfl it_m88 [(.ref 9), (.ref x0), (.int (7 : Int32)), (.int (0 : Int32))] [] rfl rfl ⟨Nat.le_of_ble_eq_true rfl, Nat.le_of_ble_eq_true rfl, Nat.le_of_ble_eq_true rfl, Nat.le_of_ble_eq_true rfl, rfl⟩ (s_88 kc x0 (7 : Int32) (0 : Int32) (hx0) m _ h) ?_
  rintro _ m2 ⟨r1, rfl, h⟩
  refine it_V.at (pc1 := 11) (ls1 := [some (.ref 59), some (.ref x0), some (.int x1), none, none, none]) (st1 := [(.int r1)]) (mem1 := m2) rfl rfl rfl rfl ?_
  refine it_V.sN it_cd66 it_m66 4 (pc1 := (if x1 < (1 : Int32) then 37 else 17)) (ls1 := [some (.ref 59), some (.ref x0), some (.int x1), some (.int r1), none, none]) (st1 := []) (mem1 := m2) rfl ?_
  refine it_V.ite (fun c3 => ?_) (fun c3 => ?_)
  · have h := h.1 c3
    refine it_V.weak (l := [none, some (.ref x0), none, none, none, none]) ⟨rfl, trivial⟩ ?_
    exact s_66_37 kc Φ x0 (hx0) m2 h
  · have h := h.2 c3
    refine it_V.sN it_cd66 it_m66 3 (pc1 := (if (16 : Int32) < x1 then 37 else 23)) (ls1 := [some (.ref 59), some (.ref x0), some (.int x1), some (.int r1), none, none]) (st1 := []) (mem1 := m2) rfl ?_
    refine it_V.ite (fun c4 => ?_) (fun c4 => ?_)
    · have h := h.1 c4
      refine it_V.weak (l := [none, some (.ref x0), none, none, none, none]) ⟨rfl, trivial⟩ ?_
      exact s_66_37 kc Φ x0 (hx0) m2 h
    · have h := h.2 c4
      refine it_V.sN it_cd66 it_m66 6 (pc1 := 31) (ls1 := [some (.ref 59), some (.ref x0), some (.int x1), some (.int r1), none, none]) (st1 := [(.int (r1 + (4 : Int32))), (.ref 1), (.int x1)]) (mem1 := m2) rfl ?_
      refine it_V.call it_cd66 it_m66 rfl it_m12 [(.ref 1), (.int (r1 + (4 : Int32)))] [(.int x1)] rfl rfl ⟨Nat.le_of_ble_eq_true rfl, Nat.le_of_ble_eq_true rfl, Nat.le_of_ble_eq_true rfl, Nat.le_of_ble_eq_true rfl, rfl⟩ (s_12 kc (r1 + (4 : Int32)) m2 _ h) ?_
      rintro _ m6 ⟨r5, rfl, h⟩
      refine it_V.at (pc1 := 34) (ls1 := [some (.ref 59), some (.ref x0), some (.int x1), some (.int r1), none, none]) (st1 := [(.int r5), (.int x1)]) (mem1 := m6) rfl rfl rfl rfl ?_
      refine it_V.sN it_cd66 it_m66 1 (pc1 := (if x1 ≤ r5 then 44 else 37)) (ls1 := [some (.ref 59), some (.ref x0), some (.int x1), some (.int r1), none, none]) (st1 := []) (mem1 := m6) rfl ?_
      refine it_V.ite (fun c7 => ?_) (fun c7 => ?_)
      · have h := h.1 c7
        refine it_V.sN it_cd66 it_m66 3 (pc1 := 49) (ls1 := [some (.ref 59), some (.ref x0), some (.int x1), some (.int r1), none, none]) (st1 := [(.int r1), (.ref 1)]) (mem1 := m6) rfl ?_
        refine it_V.call it_cd66 it_m66 rfl it_m12 [(.ref 1), (.int r1)] [] rfl rfl ⟨Nat.le_of_ble_eq_true rfl, Nat.le_of_ble_eq_true rfl, Nat.le_of_ble_eq_true rfl, Nat.le_of_ble_eq_true rfl, rfl⟩ (s_12 kc r1 m6 _ h) ?_
        rintro _ m9 ⟨r8, rfl, h⟩
        refine it_V.at (pc1 := 52) (ls1 := [some (.ref 59), some (.ref x0), some (.int x1), some (.int r1), none, none]) (st1 := [(.int r8)]) (mem1 := m9) rfl rfl rfl rfl ?_
        refine it_V.sN it_cd66 it_m66 3 (pc1 := 57) (ls1 := [some (.ref 59), some (.ref x0), some (.int x1), some (.int r1), some (.int r8), some (.int (0 : Int32))]) (st1 := []) (mem1 := m9) rfl ?_
        refine it_V.weak (l := [some (.ref 59), some (.ref x0), some (.int x1), none, some (.int r8), some (.int (0 : Int32))]) ⟨rfl, ⟨rfl, ⟨rfl, ⟨rfl, ⟨rfl, trivial⟩⟩⟩⟩⟩ ?_
        obtain ⟨n, h⟩ := h
        exact s_66_57 kc Φ _ _ (fun v1 v5 hv1 m h => s_66_91 kc Φ v1 v5 hv1 m h) (fun v1 hv1 m h => s_66_104 kc Φ v1 hv1 m h) n x0 x1 r8 (0 : Int32) (hx0) m9 h
      · have h := h.2 c7
        refine it_V.weak (l := [none, some (.ref x0), none, none, none, none]) ⟨rfl, trivial⟩ ?_
        exact s_66_37 kc Φ x0 (hx0) m6 h
set_option maxRecDepth 100000 in
set_option maxHeartbeats 4000000 in
theorem s_64_63 (kc : it_Kc) (Φ : it_Me → Prop) (m : it_Me) (h : w_64_63 kc Φ m) : it_V kc it_sh0 64 63 [none, none, none, none, none] [] m (it_Pv Φ) := by
  rw [w_64_63] at h
  exact it_V.ret it_cd64 it_m64 rfl rfl ⟨rfl, h⟩
set_option maxRecDepth 100000 in
set_option maxHeartbeats 4000000 in
theorem s_64 (kc : it_Kc) (x0 : Nat) (x1 : Int32) (x2 : Int32) (x3 : Int32) (hx0 : it_isP x0) (m : it_Me) (Φ : it_Me → Prop) (h : w_64 kc x0 x1 x2 x3 m Φ) : it_V kc it_sh0 64 0 (it_loc0 [(.ref 59), (.ref x0), (.int x1), (.int x2), (.int x3)] 5) [] m (it_Pv Φ) := by
  rw [w_64] at h
  refine it_V.at (pc1 := 0) (ls1 := [some (.ref 59), some (.ref x0), some (.int x1), some (.int x2), some (.int x3)]) (st1 := []) (mem1 := m) rfl rfl rfl rfl ?_
  refine it_V.sN it_cd64 it_m64 1 (pc1 := 1) (ls1 := [some (.ref 59), some (.ref x0), some (.int x1), some (.int x2), some (.int x3)]) (st1 := [(.int x1)]) (mem1 := m) rfl ?_
  refine it_V.sN it_cd64 it_m64 1 (pc1 := (if x1 = (1 : Int32) then 28 else (if x1 = (2 : Int32) then 39 else 57))) (ls1 := [some (.ref 59), some (.ref x0), some (.int x1), some (.int x2), some (.int x3)]) (st1 := []) (mem1 := m) rfl ?_
  refine it_V.ite (fun c1 => ?_) (fun c1 => ?_)
  · have h := h.1 c1
    refine it_V.sN it_cd64 it_m64 4 (pc1 := 33) (ls1 := [some (.ref 59), some (.ref x0), some (.int x1), some (.int x2), some (.int x3)]) (st1 := [(.int x3), (.int x2), (.ref x0), (.ref 59)]) (mem1 := m) rfl ?_
    refine it_V.call it_cd64 it_m64 rfl it_m65 [(.ref 59), (.ref x0), (.int x2), (.int x3)] [] rfl rfl ⟨Nat.le_of_ble_eq_true rfl, Nat.le_of_ble_eq_true rfl, Nat.le_of_ble_eq_true rfl, Nat.le_of_ble_eq_true rfl, rfl⟩ (s_65 kc x0 x2 x3 (hx0) m _ h) ?_
    rintro _ m2 ⟨rfl, h⟩
    refine it_V.at (pc1 := 36) (ls1 := [some (.ref 59), some (.ref x0), some (.int x1), some (.int x2), some (.int x3)]) (st1 := []) (mem1 := m2) rfl rfl rfl rfl ?_
    refine it_V.sN it_cd64 it_m64 1 (pc1 := 63) (ls1 := [some (.ref 59), some (.ref x0), some (.int x1), some (.int x2), some (.int x3)]) (st1 := []) (mem1 := m2) rfl ?_
    refine it_V.weak (l := [none, none, none, none, none]) trivial ?_
    exact s_64_63 kc Φ m2 h
  · have h := h.2 c1
    refine it_V.ite (fun c3 => ?_) (fun c3 => ?_)
    · have h := h.1 c3
      refine it_V.sN it_cd64 it_m64 6 (pc1 := 48) (ls1 := [some (.ref 59), some (.ref x0), some (.int x1), some (.int x2), some (.int x3)]) (st1 := [(.int (7 : Int32)), (.ref x0), (.ref 9), (.ref x0), (.ref 59)]) (mem1 := m) rfl ?_
      refine it_V.call it_cd64 it_m64 rfl it_m90 [(.ref 9), (.ref x0), (.int (7 : Int32))] [(.ref x0), (.ref 59)] rfl rfl ⟨Nat.le_of_ble_eq_true rfl, Nat.le_of_ble_eq_true rfl, Nat.le_of_ble_eq_true rfl, Nat.le_of_ble_eq_true rfl, rfl⟩ (s_90 kc x0 (7 : Int32) (hx0) m _ h) ?_
      rintro _ m5 ⟨r4, rfl, h⟩
      refine it_V.at (pc1 := 51) (ls1 := [some (.ref 59), some (.ref x0), some (.int x1), some (.int x2), some (.int x3)]) (st1 := [(.int r4), (.ref x0), (.ref 59)]) (mem1 := m5) rfl rfl rfl rfl ?_
      refine it_V.call it_cd64 it_m64 rfl it_m44 [(.ref 59), (.ref x0), (.int r4)] [] rfl rfl ⟨Nat.le_of_ble_eq_true rfl, Nat.le_of_ble_eq_true rfl, Nat.le_of_ble_eq_true rfl, Nat.le_of_ble_eq_true rfl, rfl⟩ (s_44 kc x0 r4 (hx0) m5 _ h) ?_
      rintro _ m6 ⟨rfl, h⟩
      refine it_V.at (pc1 := 54) (ls1 := [some (.ref 59), some (.ref x0), some (.int x1), some (.int x2), some (.int x3)]) (st1 := []) (mem1 := m6) rfl rfl rfl rfl ?_
      refine it_V.sN it_cd64 it_m64 1 (pc1 := 63) (ls1 := [some (.ref 59), some (.ref x0), some (.int x1), some (.int x2), some (.int x3)]) (st1 := []) (mem1 := m6) rfl ?_
      refine it_V.weak (l := [none, none, none, none, none]) trivial ?_
      exact s_64_63 kc Φ m6 h
    · have h := h.2 c3
      refine it_V.sN it_cd64 it_m64 3 (pc1 := 60) (ls1 := [some (.ref 59), some (.ref x0), some (.int x1), some (.int x2), some (.int x3)]) (st1 := [(.int x2), (.ref x0), (.ref 59)]) (mem1 := m) rfl ?_
      refine it_V.call it_cd64 it_m64 rfl it_m66 [(.ref 59), (.ref x0), (.int x2)] [] rfl rfl ⟨Nat.le_of_ble_eq_true rfl, Nat.le_of_ble_eq_true rfl, Nat.le_of_ble_eq_true rfl, Nat.le_of_ble_eq_true rfl, rfl⟩ (s_66 kc x0 x2 (hx0) m _ h) ?_
      rintro _ m7 ⟨rfl, h⟩
      refine it_V.at (pc1 := 63) (ls1 := [some (.ref 59), some (.ref x0), some (.int x1), some (.int x2), some (.int x3)]) (st1 := []) (mem1 := m7) rfl rfl rfl rfl ?_
      refine it_V.weak (l := [none, none, none, none, none]) trivial ?_
      exact s_64_63 kc Φ m7 h
set_option maxRecDepth 100000 in
set_option maxHeartbeats 4000000 in
theorem s_67 (kc : it_Kc) (x0 : Nat) (x1 : Int32) (hx0 : it_isP x0) (m : it_Me) (Φ : it_Me → Prop) (h : w_67 kc x0 x1 m Φ) : it_V kc it_sh0 67 0 (it_loc0 [(.ref 59), (.ref x0), (.int x1)] 4) [] m (it_Pv Φ) := by
  rw [w_67] at h
  refine it_V.at (pc1 := 0) (ls1 := [some (.ref 59), some (.ref x0), some (.int x1), none]) (st1 := []) (mem1 := m) rfl rfl rfl rfl ?_
  refine it_V.sN it_cd67 it_m67 5 (pc1 := 8) (ls1 := [some (.ref 59), some (.ref x0), some (.int x1), none]) (st1 := [(.int (0 : Int32)), (.int (8 : Int32)), (.ref x0), (.ref 9)]) (mem1 := m) rfl ?_
  refine it_V.call it_cd67 it_m67 rfl it_m88 [(.ref 9), (.ref x0), (.int (8 : Int32)), (.int (0 : Int32))] [] rfl rfl ⟨Nat.le_of_ble_eq_true rfl, Nat.le_of_ble_eq_true rfl, Nat.le_of_ble_eq_true rfl, Nat.le_of_ble_eq_true rfl, rfl⟩ (s_88 kc x0 (8 : Int32) (0 : Int32) (hx0) m _ h) ?_
  rintro _ m2 ⟨r1, rfl, h⟩
  refine it_V.at (pc1 := 11) (ls1 := [some (.ref 59), some (.ref x0), some (.int x1), none]) (st1 := [(.int r1)]) (mem1 := m2) rfl rfl rfl rfl ?_
  refine it_V.sN it_cd67 it_m67 7 (pc1 := 22) (ls1 := [some (.ref 59), some (.ref x0), some (.int x1), some (.int r1)]) (st1 := [(.int r1), (.ref 1), (.ref 1), (.ref x0)]) (mem1 := m2) rfl ?_
  refine it_V.call it_cd67 it_m67 rfl it_m12 [(.ref 1), (.int r1)] [(.ref 1), (.ref x0)] rfl rfl ⟨Nat.le_of_ble_eq_true rfl, Nat.le_of_ble_eq_true rfl, Nat.le_of_ble_eq_true rfl, Nat.le_of_ble_eq_true rfl, rfl⟩ (s_12 kc r1 m2 _ h) ?_
  rintro _ m4 ⟨r3, rfl, h⟩
  refine it_V.at (pc1 := 25) (ls1 := [some (.ref 59), some (.ref x0), some (.int x1), some (.int r1)]) (st1 := [(.int r3), (.ref 1), (.ref x0)]) (mem1 := m4) rfl rfl rfl rfl ?_
  refine it_V.sN it_cd67 it_m67 6 (pc1 := 33) (ls1 := [some (.ref 59), some (.ref x0), some (.int x1), some (.int r1)]) (st1 := [(.int (r1 + (4 : Int32))), (.ref 1), (.int x1), (.int r3), (.ref 1), (.ref x0)]) (mem1 := m4) rfl ?_
  refine it_V.call it_cd67 it_m67 rfl it_m12 [(.ref 1), (.int (r1 + (4 : Int32)))] [(.int x1), (.int r3), (.ref 1), (.ref x0)] rfl rfl ⟨Nat.le_of_ble_eq_true rfl, Nat.le_of_ble_eq_true rfl, Nat.le_of_ble_eq_true rfl, Nat.le_of_ble_eq_true rfl, rfl⟩ (s_12 kc (r1 + (4 : Int32)) m4 _ h) ?_
  rintro _ m6 ⟨r5, rfl, h⟩
  refine it_V.at (pc1 := 36) (ls1 := [some (.ref 59), some (.ref x0), some (.int x1), some (.int r1)]) (st1 := [(.int r5), (.int x1), (.int r3), (.ref 1), (.ref x0)]) (mem1 := m6) rfl rfl rfl rfl ?_
  refine it_V.call it_cd67 it_m67 rfl it_m214 [(.int x1), (.int r5)] [(.int r3), (.ref 1), (.ref x0)] rfl rfl ⟨Nat.le_of_ble_eq_true rfl, Nat.le_of_ble_eq_true rfl, Nat.le_of_ble_eq_true rfl, Nat.le_of_ble_eq_true rfl, rfl⟩ (s_214 kc x1 r5 m6 _ h) ?_
  rintro _ m8 ⟨r7, rfl, h⟩
  refine it_V.at (pc1 := 39) (ls1 := [some (.ref 59), some (.ref x0), some (.int x1), some (.int r1)]) (st1 := [(.int r7), (.int r3), (.ref 1), (.ref x0)]) (mem1 := m8) rfl rfl rfl rfl ?_
  refine it_V.call it_cd67 it_m67 rfl it_m21 [(.ref 1), (.int r3), (.int r7)] [(.ref x0)] rfl rfl ⟨Nat.le_of_ble_eq_true rfl, Nat.le_of_ble_eq_true rfl, Nat.le_of_ble_eq_true rfl, Nat.le_of_ble_eq_true rfl, rfl⟩ (s_21 kc r3 r7 m8 _ h) ?_
  rintro _ m10 ⟨r9, rfl, h⟩
  refine it_V.at (pc1 := 42) (ls1 := [some (.ref 59), some (.ref x0), some (.int x1), some (.int r1)]) (st1 := [(.int r9), (.ref x0)]) (mem1 := m10) rfl rfl rfl rfl ?_
  refine it_V.call it_cd67 it_m67 rfl it_m139 [(.ref x0), (.int r9)] [] rfl rfl ⟨Nat.le_of_ble_eq_true rfl, Nat.le_of_ble_eq_true rfl, Nat.le_of_ble_eq_true rfl, Nat.le_of_ble_eq_true rfl, (it_recvP (hx0).1)⟩ (s_139 kc x0 r9 (hx0) m10 _ h) ?_
  rintro _ m11 ⟨rfl, h⟩
  refine it_V.at (pc1 := 45) (ls1 := [some (.ref 59), some (.ref x0), some (.int x1), some (.int r1)]) (st1 := []) (mem1 := m11) rfl rfl rfl rfl ?_
  exact it_V.ret it_cd67 it_m67 rfl rfl ⟨rfl, h⟩
set_option maxRecDepth 100000 in
set_option maxHeartbeats 4000000 in
theorem s_37_174 (kc : it_Kc) (Φ : it_Me → Prop) (m : it_Me) (h : w_37_174 kc Φ m) : it_V kc it_sh0 37 174 [none, none, none, none, none, none] [] m (it_Pv Φ) := by
  rw [w_37_174] at h
  exact it_V.ret it_cd37 it_m37 rfl rfl ⟨rfl, h⟩
set_option maxRecDepth 100000 in
set_option maxHeartbeats 4000000 in
theorem s_37 (kc : it_Kc) (x0 : Nat) (x1 : Int32) (hx0 : it_isP x0) (m : it_Me) (Φ : it_Me → Prop) (h : w_37 kc x0 x1 m Φ) : it_V kc it_sh0 37 0 (it_loc0 [(.ref 59), (.ref x0), (.int x1)] 6) [] m (it_Pv Φ) := by
  rw [w_37] at h
  refine it_V.at (pc1 := 0) (ls1 := [some (.ref 59), some (.ref x0), some (.int x1), none, none, none]) (st1 := []) (mem1 := m) rfl rfl rfl rfl ?_
  refine it_V.sN it_cd37 it_m37 1 (pc1 := 1) (ls1 := [some (.ref 59), some (.ref x0), some (.int x1), none, none, none]) (st1 := [(.ref x0)]) (mem1 := m) rfl ?_
  refine it_V.getP it_cd37 it_m37 rfl (hx0).1 rfl ?_
  refine it_V.at (pc1 := 4) (ls1 := [some (.ref 59), some (.ref x0), some (.int x1), none, none, none]) (st1 := [(.ref (x0 + 2))]) (mem1 := m) rfl rfl rfl rfl ?_
  refine it_V.sN it_cd37 it_m37 1 (pc1 := 6) (ls1 := [some (.ref 59), some (.ref x0), some (.int x1), none, none, none]) (st1 := [(.int (11 : Int32)), (.ref (x0 + 2))]) (mem1 := m) rfl ?_
  obtain ⟨g1, h⟩ := h
  refine it_V.iald it_cd37 it_m37 rfl ((hx0).2.2.1).2 ((hx0).2.2.1).1 g1 ?_
  refine it_V.at (pc1 := 7) (ls1 := [some (.ref 59), some (.ref x0), some (.int x1), none, none, none]) (st1 := [(.int (m (x0 + 2) (Int32.toNatClampNeg (11 : Int32))))]) (mem1 := m) rfl rfl rfl rfl ?_
  refine it_V.sN it_cd37 it_m37 2 (pc1 := 9) (ls1 := [some (.ref 59), some (.ref x0), some (.int x1), some (.int (m (x0 + 2) (Int32.toNatClampNeg (11 : Int32)))), none, none]) (st1 := [(.ref x0)]) (mem1 := m) rfl ?_
  refine it_V.getP it_cd37 it_m37 rfl (hx0).1 rfl ?_
  refine it_V.at (pc1 := 12) (ls1 := [some (.ref 59), some (.ref x0), some (.int x1), some (.int (m (x0 + 2) (Int32.toNatClampNeg (11 : Int32)))), none, none]) (st1 := [(.ref (x0 + 2))]) (mem1 := m) rfl rfl rfl rfl ?_
  refine it_V.sN it_cd37 it_m37 1 (pc1 := 14) (ls1 := [some (.ref 59), some (.ref x0), some (.int x1), some (.int (m (x0 + 2) (Int32.toNatClampNeg (11 : Int32)))), none, none]) (st1 := [(.int (12 : Int32)), (.ref (x0 + 2))]) (mem1 := m) rfl ?_
  obtain ⟨g2, h⟩ := h
  refine it_V.iald it_cd37 it_m37 rfl ((hx0).2.2.1).2 ((hx0).2.2.1).1 g2 ?_
  refine it_V.at (pc1 := 15) (ls1 := [some (.ref 59), some (.ref x0), some (.int x1), some (.int (m (x0 + 2) (Int32.toNatClampNeg (11 : Int32)))), none, none]) (st1 := [(.int (m (x0 + 2) (Int32.toNatClampNeg (12 : Int32))))]) (mem1 := m) rfl rfl rfl rfl ?_
  refine it_V.sN it_cd37 it_m37 2 (pc1 := 18) (ls1 := [some (.ref 59), some (.ref x0), some (.int x1), some (.int (m (x0 + 2) (Int32.toNatClampNeg (11 : Int32)))), some (.int (m (x0 + 2) (Int32.toNatClampNeg (12 : Int32)))), none]) (st1 := [(.ref x0)]) (mem1 := m) rfl ?_
  refine it_V.getP it_cd37 it_m37 rfl (hx0).1 rfl ?_
  refine it_V.at (pc1 := 21) (ls1 := [some (.ref 59), some (.ref x0), some (.int x1), some (.int (m (x0 + 2) (Int32.toNatClampNeg (11 : Int32)))), some (.int (m (x0 + 2) (Int32.toNatClampNeg (12 : Int32)))), none]) (st1 := [(.ref (x0 + 2))]) (mem1 := m) rfl rfl rfl rfl ?_
  refine it_V.sN it_cd37 it_m37 1 (pc1 := 23) (ls1 := [some (.ref 59), some (.ref x0), some (.int x1), some (.int (m (x0 + 2) (Int32.toNatClampNeg (11 : Int32)))), some (.int (m (x0 + 2) (Int32.toNatClampNeg (12 : Int32)))), none]) (st1 := [(.int (13 : Int32)), (.ref (x0 + 2))]) (mem1 := m) rfl ?_
  obtain ⟨g3, h⟩ := h
  refine it_V.iald it_cd37 it_m37 rfl ((hx0).2.2.1).2 ((hx0).2.2.1).1 g3 ?_
  refine it_V.at (pc1 := 24) (ls1 := [some (.ref 59), some (.ref x0), some (.int x1), some (.int (m (x0 + 2) (Int32.toNatClampNeg (11 : Int32)))), some (.int (m (x0 + 2) (Int32.toNatClampNeg (12 : Int32)))), none]) (st1 := [(.int (m (x0 + 2) (Int32.toNatClampNeg (13 : Int32))))]) (mem1 := m) rfl rfl rfl rfl ?_
  refine it_V.sN it_cd37 it_m37 2 (pc1 := 27) (ls1 := [some (.ref 59), some (.ref x0), some (.int x1), some (.int (m (x0 + 2) (Int32.toNatClampNeg (11 : Int32)))), some (.int (m (x0 + 2) (Int32.toNatClampNeg (12 : Int32)))), some (.int (m (x0 + 2) (Int32.toNatClampNeg (13 : Int32))))]) (st1 := [(.int x1)]) (mem1 := m) rfl ?_
  refine it_V.sN it_cd37 it_m37 1 (pc1 := (if x1 = (0 : Int32) then 72 else (if x1 = (1 : Int32) then 85 else (if x1 = (2 : Int32) then 96 else (if x1 = (3 : Int32) then 107 else (if x1 = (4 : Int32) then 118 else (if x1 = (5 : Int32) then 128 else (if x1 = (6 : Int32) then 141 else (if x1 = (7 : Int32) then 154 else 167))))))))) (ls1 := [some (.ref 59), some (.ref x0), some (.int x1), some (.int (m (x0 + 2) (Int32.toNatClampNeg (11 : Int32)))), some (.int (m (x0 + 2) (Int32.toNatClampNeg (12 : Int32)))), some (.int (m (x0 + 2) (Int32.toNatClampNeg (13 : Int32))))]) (st1 := []) (mem1 := m) rfl ?_
  refine it_V.ite (fun c4 => ?_) (fun c4 => ?_)
  · have h := h.1 c4
    refine it_V.sN it_cd37 it_m37 5 (pc1 := 79) (ls1 := [some (.ref 59), some (.ref x0), some (.int x1), some (.int (m (x0 + 2) (Int32.toNatClampNeg (11 : Int32)))), some (.int (m (x0 + 2) (Int32.toNatClampNeg (12 : Int32)))), some (.int (m (x0 + 2) (Int32.toNatClampNeg (13 : Int32))))]) (st1 := [(.int (m (x0 + 2) (Int32.toNatClampNeg (13 : Int32)))), (.int (m (x0 + 2) (Int32.toNatClampNeg (12 : Int32)))), (.int (m (x0 + 2) (Int32.toNatClampNeg (11 : Int32)))), (.ref x0), (.ref 59)]) (mem1 := m) rfl ?_
    refine it_V.call it_cd37 it_m37 rfl it_m42 [(.ref 59), (.ref x0), (.int (m (x0 + 2) (Int32.toNatClampNeg (11 : Int32)))), (.int (m (x0 + 2) (Int32.toNatClampNeg (12 : Int32)))), (.int (m (x0 + 2) (Int32.toNatClampNeg (13 : Int32))))] [] rfl rfl ⟨Nat.le_of_ble_eq_true rfl, Nat.le_of_ble_eq_true rfl, Nat.le_of_ble_eq_true rfl, Nat.le_of_ble_eq_true rfl, rfl⟩ (s_42 kc x0 (m (x0 + 2) (Int32.toNatClampNeg (11 : Int32))) (m (x0 + 2) (Int32.toNatClampNeg (12 : Int32))) (m (x0 + 2) (Int32.toNatClampNeg (13 : Int32))) (hx0) m _ h) ?_
    rintro _ m5 ⟨rfl, h⟩
    refine it_V.at (pc1 := 82) (ls1 := [some (.ref 59), some (.ref x0), some (.int x1), some (.int (m (x0 + 2) (Int32.toNatClampNeg (11 : Int32)))), some (.int (m (x0 + 2) (Int32.toNatClampNeg (12 : Int32)))), some (.int (m (x0 + 2) (Int32.toNatClampNeg (13 : Int32))))]) (st1 := []) (mem1 := m5) rfl rfl rfl rfl ?_
    refine it_V.sN it_cd37 it_m37 1 (pc1 := 174) (ls1 := [some (.ref 59), some (.ref x0), some (.int x1), some (.int (m (x0 + 2) (Int32.toNatClampNeg (11 : Int32)))), some (.int (m (x0 + 2) (Int32.toNatClampNeg (12 : Int32)))), some (.int (m (x0 + 2) (Int32.toNatClampNeg (13 : Int32))))]) (st1 := []) (mem1 := m5) rfl ?_
    refine it_V.weak (l := [none, none, none, none, none, none]) trivial ?_
    exact s_37_174 kc Φ m5 h
  · have h := h.2 c4
    refine it_V.ite (fun c6 => ?_) (fun c6 => ?_)
    · have h := h.1 c6
      refine it_V.sN it_cd37 it_m37 4 (pc1 := 90) (ls1 := [some (.ref 59), some (.ref x0), some (.int x1), some (.int (m (x0 + 2) (Int32.toNatClampNeg (11 : Int32)))), some (.int (m (x0 + 2) (Int32.toNatClampNeg (12 : Int32)))), some (.int (m (x0 + 2) (Int32.toNatClampNeg (13 : Int32))))]) (st1 := [(.int (m (x0 + 2) (Int32.toNatClampNeg (12 : Int32)))), (.int (m (x0 + 2) (Int32.toNatClampNeg (11 : Int32)))), (.ref x0), (.ref 59)]) (mem1 := m) rfl ?_
      refine it_V.call it_cd37 it_m37 rfl it_m45 [(.ref 59), (.ref x0), (.int (m (x0 + 2) (Int32.toNatClampNeg (11 : Int32)))), (.int (m (x0 + 2) (Int32.toNatClampNeg (12 : Int32))))] [] rfl rfl ⟨Nat.le_of_ble_eq_true rfl, Nat.le_of_ble_eq_true rfl, Nat.le_of_ble_eq_true rfl, Nat.le_of_ble_eq_true rfl, rfl⟩ (s_45 kc x0 (m (x0 + 2) (Int32.toNatClampNeg (11 : Int32))) (m (x0 + 2) (Int32.toNatClampNeg (12 : Int32))) (hx0) m _ h) ?_
      rintro _ m7 ⟨rfl, h⟩
      refine it_V.at (pc1 := 93) (ls1 := [some (.ref 59), some (.ref x0), some (.int x1), some (.int (m (x0 + 2) (Int32.toNatClampNeg (11 : Int32)))), some (.int (m (x0 + 2) (Int32.toNatClampNeg (12 : Int32)))), some (.int (m (x0 + 2) (Int32.toNatClampNeg (13 : Int32))))]) (st1 := []) (mem1 := m7) rfl rfl rfl rfl ?_
      refine it_V.sN it_cd37 it_m37 1 (pc1 := 174) (ls1 := [some (.ref 59), some (.ref x0), some (.int x1), some (.int (m (x0 + 2) (Int32.toNatClampNeg (11 : Int32)))), some (.int (m (x0 + 2) (Int32.toNatClampNeg (12 : Int32)))), some (.int (m (x0 + 2) (Int32.toNatClampNeg (13 : Int32))))]) (st1 := []) (mem1 := m7) rfl ?_
      refine it_V.weak (l := [none, none, none, none, none, none]) trivial ?_
      exact s_37_174 kc Φ m7 h
    · have h := h.2 c6
      refine it_V.ite (fun c8 => ?_) (fun c8 => ?_)
      · have h := h.1 c8
        refine it_V.sN it_cd37 it_m37 4 (pc1 := 101) (ls1 := [some (.ref 59), some (.ref x0), some (.int x1), some (.int (m (x0 + 2) (Int32.toNatClampNeg (11 : Int32)))), some (.int (m (x0 + 2) (Int32.toNatClampNeg (12 : Int32)))), some (.int (m (x0 + 2) (Int32.toNatClampNeg (13 : Int32))))]) (st1 := [(.int (m (x0 + 2) (Int32.toNatClampNeg (12 : Int32)))), (.int (m (x0 + 2) (Int32.toNatClampNeg (11 : Int32)))), (.ref x0), (.ref 59)]) (mem1 := m) rfl ?_
        refine it_V.call it_cd37 it_m37 rfl it_m52 [(.ref 59), (.ref x0), (.int (m (x0 + 2) (Int32.toNatClampNeg (11 : Int32)))), (.int (m (x0 + 2) (Int32.toNatClampNeg (12 : Int32))))] [] rfl rfl ⟨Nat.le_of_ble_eq_true rfl, Nat.le_of_ble_eq_true rfl, Nat.le_of_ble_eq_true rfl, Nat.le_of_ble_eq_true rfl, rfl⟩ (s_52 kc x0 (m (x0 + 2) (Int32.toNatClampNeg (11 : Int32))) (m (x0 + 2) (Int32.toNatClampNeg (12 : Int32))) (hx0) m _ h) ?_
        rintro _ m9 ⟨rfl, h⟩
        refine it_V.at (pc1 := 104) (ls1 := [some (.ref 59), some (.ref x0), some (.int x1), some (.int (m (x0 + 2) (Int32.toNatClampNeg (11 : Int32)))), some (.int (m (x0 + 2) (Int32.toNatClampNeg (12 : Int32)))), some (.int (m (x0 + 2) (Int32.toNatClampNeg (13 : Int32))))]) (st1 := []) (mem1 := m9) rfl rfl rfl rfl ?_
        refine it_V.sN it_cd37 it_m37 1 (pc1 := 174) (ls1 := [some (.ref 59), some (.ref x0), some (.int x1), some (.int (m (x0 + 2) (Int32.toNatClampNeg (11 : Int32)))), some (.int (m (x0 + 2) (Int32.toNatClampNeg (12 : Int32)))), some (.int (m (x0 + 2) (Int32.toNatClampNeg (13 : Int32))))]) (st1 := []) (mem1 := m9) rfl ?_
        refine it_V.weak (l := [none, none, none, none, none, none]) trivial ?_
        exact s_37_174 kc Φ m9 h
      · have h := h.2 c8
        refine it_V.ite (fun c10 => ?_) (fun c10 => ?_)
        · have h := h.1 c10
          refine it_V.sN it_cd37 it_m37 4 (pc1 := 112) (ls1 := [some (.ref 59), some (.ref x0), some (.int x1), some (.int (m (x0 + 2) (Int32.toNatClampNeg (11 : Int32)))), some (.int (m (x0 + 2) (Int32.toNatClampNeg (12 : Int32)))), some (.int (m (x0 + 2) (Int32.toNatClampNeg (13 : Int32))))]) (st1 := [(.int (m (x0 + 2) (Int32.toNatClampNeg (12 : Int32)))), (.int (m (x0 + 2) (Int32.toNatClampNeg (11 : Int32)))), (.ref x0), (.ref 59)]) (mem1 := m) rfl ?_
          refine it_V.call it_cd37 it_m37 rfl it_m53 [(.ref 59), (.ref x0), (.int (m (x0 + 2) (Int32.toNatClampNeg (11 : Int32)))), (.int (m (x0 + 2) (Int32.toNatClampNeg (12 : Int32))))] [] rfl rfl ⟨Nat.le_of_ble_eq_true rfl, Nat.le_of_ble_eq_true rfl, Nat.le_of_ble_eq_true rfl, Nat.le_of_ble_eq_true rfl, rfl⟩ (s_53 kc x0 (m (x0 + 2) (Int32.toNatClampNeg (11 : Int32))) (m (x0 + 2) (Int32.toNatClampNeg (12 : Int32))) (hx0) m _ h) ?_
          rintro _ m11 ⟨rfl, h⟩
          refine it_V.at (pc1 := 115) (ls1 := [some (.ref 59), some (.ref x0), some (.int x1), some (.int (m (x0 + 2) (Int32.toNatClampNeg (11 : Int32)))), some (.int (m (x0 + 2) (Int32.toNatClampNeg (12 : Int32)))), some (.int (m (x0 + 2) (Int32.toNatClampNeg (13 : Int32))))]) (st1 := []) (mem1 := m11) rfl rfl rfl rfl ?_
          refine it_V.sN it_cd37 it_m37 1 (pc1 := 174) (ls1 := [some (.ref 59), some (.ref x0), some (.int x1), some (.int (m (x0 + 2) (Int32.toNatClampNeg (11 : Int32)))), some (.int (m (x0 + 2) (Int32.toNatClampNeg (12 : Int32)))), some (.int (m (x0 + 2) (Int32.toNatClampNeg (13 : Int32))))]) (st1 := []) (mem1 := m11) rfl ?_
          refine it_V.weak (l := [none, none, none, none, none, none]) trivial ?_
          exact s_37_174 kc Φ m11 h
        · have h := h.2 c10
          refine it_V.ite (fun c12 => ?_) (fun c12 => ?_)
          · have h := h.1 c12
            refine it_V.sN it_cd37 it_m37 3 (pc1 := 122) (ls1 := [some (.ref 59), some (.ref x0), some (.int x1), some (.int (m (x0 + 2) (Int32.toNatClampNeg (11 : Int32)))), some (.int (m (x0 + 2) (Int32.toNatClampNeg (12 : Int32)))), some (.int (m (x0 + 2) (Int32.toNatClampNeg (13 : Int32))))]) (st1 := [(.int (m (x0 + 2) (Int32.toNatClampNeg (12 : Int32)))), (.ref x0), (.ref 59)]) (mem1 := m) rfl ?_
            refine it_V.call it_cd37 it_m37 rfl it_m55 [(.ref 59), (.ref x0), (.int (m (x0 + 2) (Int32.toNatClampNeg (12 : Int32))))] [] rfl rfl ⟨Nat.le_of_ble_eq_true rfl, Nat.le_of_ble_eq_true rfl, Nat.le_of_ble_eq_true rfl, Nat.le_of_ble_eq_true rfl, rfl⟩ (s_55 kc x0 (m (x0 + 2) (Int32.toNatClampNeg (12 : Int32))) (hx0) m _ h) ?_
            rintro _ m13 ⟨rfl, h⟩
            refine it_V.at (pc1 := 125) (ls1 := [some (.ref 59), some (.ref x0), some (.int x1), some (.int (m (x0 + 2) (Int32.toNatClampNeg (11 : Int32)))), some (.int (m (x0 + 2) (Int32.toNatClampNeg (12 : Int32)))), some (.int (m (x0 + 2) (Int32.toNatClampNeg (13 : Int32))))]) (st1 := []) (mem1 := m13) rfl rfl rfl rfl ?_
            refine it_V.sN it_cd37 it_m37 1 (pc1 := 174) (ls1 := [some (.ref 59), some (.ref x0), some (.int x1), some (.int (m (x0 + 2) (Int32.toNatClampNeg (11 : Int32)))), some (.int (m (x0 + 2) (Int32.toNatClampNeg (12 : Int32)))), some (.int (m (x0 + 2) (Int32.toNatClampNeg (13 : Int32))))]) (st1 := []) (mem1 := m13) rfl ?_
            refine it_V.weak (l := [none, none, none, none, none, none]) trivial ?_
            exact s_37_174 kc Φ m13 h
          · have h := h.2 c12
            refine it_V.ite (fun c14 => ?_) (fun c14 => ?_)
            · have h := h.1 c14
              refine it_V.sN it_cd37 it_m37 5 (pc1 := 135) (ls1 := [some (.ref 59), some (.ref x0), some (.int x1), some (.int (m (x0 + 2) (Int32.toNatClampNeg (11 : Int32)))), some (.int (m (x0 + 2) (Int32.toNatClampNeg (12 : Int32)))), some (.int (m (x0 + 2) (Int32.toNatClampNeg (13 : Int32))))]) (st1 := [(.int (m (x0 + 2) (Int32.toNatClampNeg (13 : Int32)))), (.int (m (x0 + 2) (Int32.toNatClampNeg (12 : Int32)))), (.int (m (x0 + 2) (Int32.toNatClampNeg (11 : Int32)))), (.ref x0), (.ref 59)]) (mem1 := m) rfl ?_
              refine it_V.call it_cd37 it_m37 rfl it_m56 [(.ref 59), (.ref x0), (.int (m (x0 + 2) (Int32.toNatClampNeg (11 : Int32)))), (.int (m (x0 + 2) (Int32.toNatClampNeg (12 : Int32)))), (.int (m (x0 + 2) (Int32.toNatClampNeg (13 : Int32))))] [] rfl rfl ⟨Nat.le_of_ble_eq_true rfl, Nat.le_of_ble_eq_true rfl, Nat.le_of_ble_eq_true rfl, Nat.le_of_ble_eq_true rfl, rfl⟩ (s_56 kc x0 (m (x0 + 2) (Int32.toNatClampNeg (11 : Int32))) (m (x0 + 2) (Int32.toNatClampNeg (12 : Int32))) (m (x0 + 2) (Int32.toNatClampNeg (13 : Int32))) (hx0) m _ h) ?_
              rintro _ m15 ⟨rfl, h⟩
              refine it_V.at (pc1 := 138) (ls1 := [some (.ref 59), some (.ref x0), some (.int x1), some (.int (m (x0 + 2) (Int32.toNatClampNeg (11 : Int32)))), some (.int (m (x0 + 2) (Int32.toNatClampNeg (12 : Int32)))), some (.int (m (x0 + 2) (Int32.toNatClampNeg (13 : Int32))))]) (st1 := []) (mem1 := m15) rfl rfl rfl rfl ?_
              refine it_V.sN it_cd37 it_m37 1 (pc1 := 174) (ls1 := [some (.ref 59), some (.ref x0), some (.int x1), some (.int (m (x0 + 2) (Int32.toNatClampNeg (11 : Int32)))), some (.int (m (x0 + 2) (Int32.toNatClampNeg (12 : Int32)))), some (.int (m (x0 + 2) (Int32.toNatClampNeg (13 : Int32))))]) (st1 := []) (mem1 := m15) rfl ?_
              refine it_V.weak (l := [none, none, none, none, none, none]) trivial ?_
              exact s_37_174 kc Φ m15 h
            · have h := h.2 c14
              refine it_V.ite (fun c16 => ?_) (fun c16 => ?_)
              · have h := h.1 c16
                refine it_V.sN it_cd37 it_m37 5 (pc1 := 148) (ls1 := [some (.ref 59), some (.ref x0), some (.int x1), some (.int (m (x0 + 2) (Int32.toNatClampNeg (11 : Int32)))), some (.int (m (x0 + 2) (Int32.toNatClampNeg (12 : Int32)))), some (.int (m (x0 + 2) (Int32.toNatClampNeg (13 : Int32))))]) (st1 := [(.int (m (x0 + 2) (Int32.toNatClampNeg (13 : Int32)))), (.int (m (x0 + 2) (Int32.toNatClampNeg (12 : Int32)))), (.int (m (x0 + 2) (Int32.toNatClampNeg (11 : Int32)))), (.ref x0), (.ref 59)]) (mem1 := m) rfl ?_
                refine it_V.call it_cd37 it_m37 rfl it_m63 [(.ref 59), (.ref x0), (.int (m (x0 + 2) (Int32.toNatClampNeg (11 : Int32)))), (.int (m (x0 + 2) (Int32.toNatClampNeg (12 : Int32)))), (.int (m (x0 + 2) (Int32.toNatClampNeg (13 : Int32))))] [] rfl rfl ⟨Nat.le_of_ble_eq_true rfl, Nat.le_of_ble_eq_true rfl, Nat.le_of_ble_eq_true rfl, Nat.le_of_ble_eq_true rfl, rfl⟩ (s_63 kc x0 (m (x0 + 2) (Int32.toNatClampNeg (11 : Int32))) (m (x0 + 2) (Int32.toNatClampNeg (12 : Int32))) (m (x0 + 2) (Int32.toNatClampNeg (13 : Int32))) (hx0) m _ h) ?_
                rintro _ m17 ⟨rfl, h⟩
                refine it_V.at (pc1 := 151) (ls1 := [some (.ref 59), some (.ref x0), some (.int x1), some (.int (m (x0 + 2) (Int32.toNatClampNeg (11 : Int32)))), some (.int (m (x0 + 2) (Int32.toNatClampNeg (12 : Int32)))), some (.int (m (x0 + 2) (Int32.toNatClampNeg (13 : Int32))))]) (st1 := []) (mem1 := m17) rfl rfl rfl rfl ?_
                refine it_V.sN it_cd37 it_m37 1 (pc1 := 174) (ls1 := [some (.ref 59), some (.ref x0), some (.int x1), some (.int (m (x0 + 2) (Int32.toNatClampNeg (11 : Int32)))), some (.int (m (x0 + 2) (Int32.toNatClampNeg (12 : Int32)))), some (.int (m (x0 + 2) (Int32.toNatClampNeg (13 : Int32))))]) (st1 := []) (mem1 := m17) rfl ?_
                refine it_V.weak (l := [none, none, none, none, none, none]) trivial ?_
                exact s_37_174 kc Φ m17 h
              · have h := h.2 c16
                refine it_V.ite (fun c18 => ?_) (fun c18 => ?_)
                · have h := h.1 c18
                  refine it_V.sN it_cd37 it_m37 5 (pc1 := 161) (ls1 := [some (.ref 59), some (.ref x0), some (.int x1), some (.int (m (x0 + 2) (Int32.toNatClampNeg (11 : Int32)))), some (.int (m (x0 + 2) (Int32.toNatClampNeg (12 : Int32)))), some (.int (m (x0 + 2) (Int32.toNatClampNeg (13 : Int32))))]) (st1 := [(.int (m (x0 + 2) (Int32.toNatClampNeg (13 : Int32)))), (.int (m (x0 + 2) (Int32.toNatClampNeg (12 : Int32)))), (.int (m (x0 + 2) (Int32.toNatClampNeg (11 : Int32)))), (.ref x0), (.ref 59)]) (mem1 := m) rfl ?_
                  refine it_V.call it_cd37 it_m37 rfl it_m64 [(.ref 59), (.ref x0), (.int (m (x0 + 2) (Int32.toNatClampNeg (11 : Int32)))), (.int (m (x0 + 2) (Int32.toNatClampNeg (12 : Int32)))), (.int (m (x0 + 2) (Int32.toNatClampNeg (13 : Int32))))] [] rfl rfl ⟨Nat.le_of_ble_eq_true rfl, Nat.le_of_ble_eq_true rfl, Nat.le_of_ble_eq_true rfl, Nat.le_of_ble_eq_true rfl, rfl⟩ (s_64 kc x0 (m (x0 + 2) (Int32.toNatClampNeg (11 : Int32))) (m (x0 + 2) (Int32.toNatClampNeg (12 : Int32))) (m (x0 + 2) (Int32.toNatClampNeg (13 : Int32))) (hx0) m _ h) ?_
                  rintro _ m19 ⟨rfl, h⟩
                  refine it_V.at (pc1 := 164) (ls1 := [some (.ref 59), some (.ref x0), some (.int x1), some (.int (m (x0 + 2) (Int32.toNatClampNeg (11 : Int32)))), some (.int (m (x0 + 2) (Int32.toNatClampNeg (12 : Int32)))), some (.int (m (x0 + 2) (Int32.toNatClampNeg (13 : Int32))))]) (st1 := []) (mem1 := m19) rfl rfl rfl rfl ?_
                  refine it_V.sN it_cd37 it_m37 1 (pc1 := 174) (ls1 := [some (.ref 59), some (.ref x0), some (.int x1), some (.int (m (x0 + 2) (Int32.toNatClampNeg (11 : Int32)))), some (.int (m (x0 + 2) (Int32.toNatClampNeg (12 : Int32)))), some (.int (m (x0 + 2) (Int32.toNatClampNeg (13 : Int32))))]) (st1 := []) (mem1 := m19) rfl ?_
                  refine it_V.weak (l := [none, none, none, none, none, none]) trivial ?_
                  exact s_37_174 kc Φ m19 h
                · have h := h.2 c18
                  refine it_V.sN it_cd37 it_m37 3 (pc1 := 171) (ls1 := [some (.ref 59), some (.ref x0), some (.int x1), some (.int (m (x0 + 2) (Int32.toNatClampNeg (11 : Int32)))), some (.int (m (x0 + 2) (Int32.toNatClampNeg (12 : Int32)))), some (.int (m (x0 + 2) (Int32.toNatClampNeg (13 : Int32))))]) (st1 := [(.int (m (x0 + 2) (Int32.toNatClampNeg (12 : Int32)))), (.ref x0), (.ref 59)]) (mem1 := m) rfl ?_
                  refine it_V.call it_cd37 it_m37 rfl it_m67 [(.ref 59), (.ref x0), (.int (m (x0 + 2) (Int32.toNatClampNeg (12 : Int32))))] [] rfl rfl ⟨Nat.le_of_ble_eq_true rfl, Nat.le_of_ble_eq_true rfl, Nat.le_of_ble_eq_true rfl, Nat.le_of_ble_eq_true rfl, rfl⟩ (s_67 kc x0 (m (x0 + 2) (Int32.toNatClampNeg (12 : Int32))) (hx0) m _ h) ?_
                  rintro _ m20 ⟨rfl, h⟩
                  refine it_V.at (pc1 := 174) (ls1 := [some (.ref 59), some (.ref x0), some (.int x1), some (.int (m (x0 + 2) (Int32.toNatClampNeg (11 : Int32)))), some (.int (m (x0 + 2) (Int32.toNatClampNeg (12 : Int32)))), some (.int (m (x0 + 2) (Int32.toNatClampNeg (13 : Int32))))]) (st1 := []) (mem1 := m20) rfl rfl rfl rfl ?_
                  refine it_V.weak (l := [none, none, none, none, none, none]) trivial ?_
                  exact s_37_174 kc Φ m20 h
set_option maxRecDepth 100000 in
set_option maxHeartbeats 4000000 in
theorem s_38_26 (kc : it_Kc) (Φ : Int32 → it_Me → Prop) (u0 : Int32) (m : it_Me) (h : w_38_26 kc Φ u0 m) : it_V kc it_sh0 38 26 [none, none] [(.int u0)] m (it_Pi Φ) := by
  rw [w_38_26] at h
  exact it_V.ret it_cd38 it_m38 rfl rfl ⟨_, rfl, h⟩
set_option maxRecDepth 100000 in
set_option maxHeartbeats 4000000 in
theorem s_38_12 (kc : it_Kc) (Φ : Int32 → it_Me → Prop) (m : it_Me) (h : w_38_12 kc Φ m) : it_V kc it_sh0 38 12 [none, none] [] m (it_Pi Φ) := by
  rw [w_38_12] at h
  refine it_V.sN it_cd38 it_m38 2 (pc1 := 26) (ls1 := [none, none]) (st1 := [(.int (-1 : Int32))]) (mem1 := m) rfl ?_
  refine it_V.weak (l := [none, none]) trivial ?_
  exact s_38_26 kc Φ (-1 : Int32) m h
set_option maxRecDepth 100000 in
set_option maxHeartbeats 4000000 in
theorem s_38 (kc : it_Kc) (x0 : Int32) (m : it_Me) (Φ : Int32 → it_Me → Prop) (h : w_38 kc x0 m Φ) : it_V kc it_sh0 38 0 (it_loc0 [(.ref 59), (.int x0)] 2) [] m (it_Pi Φ) := by
  rw [w_38] at h
  refine it_V.at (pc1 := 0) (ls1 := [some (.ref 59), some (.int x0)]) (st1 := []) (mem1 := m) rfl rfl rfl rfl ?_
  refine it_V.sN it_cd38 it_m38 2 (pc1 := (if x0 < 0 then 12 else 4)) (ls1 := [some (.ref 59), some (.int x0)]) (st1 := []) (mem1 := m) rfl ?_
  refine it_V.ite (fun c1 => ?_) (fun c1 => ?_)
  · have h := h.1 c1
    refine it_V.weak (l := [none, none]) trivial ?_
    exact s_38_12 kc Φ m h
  · have h := h.2 c1
    refine it_V.sN it_cd38 it_m38 4 (pc1 := (if x0 < (m 59 9) then 16 else 12)) (ls1 := [some (.ref 59), some (.int x0)]) (st1 := []) (mem1 := m) rfl ?_
    refine it_V.ite (fun c2 => ?_) (fun c2 => ?_)
    · have h := h.1 c2
      refine it_V.sN it_cd38 it_m38 3 (pc1 := 21) (ls1 := [some (.ref 59), some (.int x0)]) (st1 := [(.int x0), (.ref 61)]) (mem1 := m) rfl ?_
      obtain ⟨g3, h⟩ := h
      refine it_V.bald (t := 1) (n := 4000) it_cd38 it_m38 rfl rfl (by decide) g3 ?_
      refine it_V.at (pc1 := 22) (ls1 := [some (.ref 59), some (.int x0)]) (st1 := [(.int (m 61 (Int32.toNatClampNeg x0)))]) (mem1 := m) rfl rfl rfl rfl ?_
      refine it_V.sN it_cd38 it_m38 2 (pc1 := 26) (ls1 := [some (.ref 59), some (.int x0)]) (st1 := [(.int ((m 61 (Int32.toNatClampNeg x0)) &&& (255 : Int32)))]) (mem1 := m) rfl ?_
      refine it_V.weak (l := [none, none]) trivial ?_
      exact s_38_26 kc Φ ((m 61 (Int32.toNatClampNeg x0)) &&& (255 : Int32)) m h
    · have h := h.2 c2
      refine it_V.weak (l := [none, none]) trivial ?_
      exact s_38_12 kc Φ m h
set_option maxRecDepth 100000 in
set_option maxHeartbeats 4000000 in
theorem s_41_84 (kc : it_Kc) (Φ : it_Me → Prop) (m : it_Me) (h : w_41_84 kc Φ m) : it_V kc it_sh0 41 84 [none, none, none, none, none] [] m (it_Pv Φ) := by
  rw [w_41_84] at h
  exact it_V.ret it_cd41 it_m41 rfl rfl ⟨rfl, h⟩
set_option maxRecDepth 100000 in
set_option maxHeartbeats 4000000 in
theorem s_41 (kc : it_Kc) (x0 : Nat) (x1 : Int32) (hx0 : it_isP x0) (m : it_Me) (Φ : it_Me → Prop) (h : w_41 kc x0 x1 m Φ) : it_V kc it_sh0 41 0 (it_loc0 [(.ref 59), (.ref x0), (.int x1)] 5) [] m (it_Pv Φ) := by
  rw [w_41] at h
  refine it_V.at (pc1 := 0) (ls1 := [some (.ref 59), some (.ref x0), some (.int x1), none, none]) (st1 := []) (mem1 := m) rfl rfl rfl rfl ?_
  refine it_V.sN it_cd41 it_m41 5 (pc1 := 7) (ls1 := [some (.ref 59), some (.ref x0), some (.int x1), none, none]) (st1 := [(.int (x1 + (4 : Int32))), (.ref 1)]) (mem1 := m) rfl ?_
  refine it_V.call it_cd41 it_m41 rfl it_m12 [(.ref 1), (.int (x1 + (4 : Int32)))] [] rfl rfl ⟨Nat.le_of_ble_eq_true rfl, Nat.le_of_ble_eq_true rfl, Nat.le_of_ble_eq_true rfl, Nat.le_of_ble_eq_true rfl, rfl⟩ (s_12 kc (x1 + (4 : Int32)) m _ h) ?_
  rintro _ m2 ⟨r1, rfl, h⟩
  refine it_V.at (pc1 := 10) (ls1 := [some (.ref 59), some (.ref x0), some (.int x1), none, none]) (st1 := [(.int r1)]) (mem1 := m2) rfl rfl rfl rfl ?_
  refine it_V.sN it_cd41 it_m41 6 (pc1 := 19) (ls1 := [some (.ref 59), some (.ref x0), some (.int x1), some (.int r1), none]) (st1 := [(.int (x1 + (8 : Int32))), (.ref 1)]) (mem1 := m2) rfl ?_
  refine it_V.call it_cd41 it_m41 rfl it_m12 [(.ref 1), (.int (x1 + (8 : Int32)))] [] rfl rfl ⟨Nat.le_of_ble_eq_true rfl, Nat.le_of_ble_eq_true rfl, Nat.le_of_ble_eq_true rfl, Nat.le_of_ble_eq_true rfl, rfl⟩ (s_12 kc (x1 + (8 : Int32)) m2 _ h) ?_
  rintro _ m4 ⟨r3, rfl, h⟩
  refine it_V.at (pc1 := 22) (ls1 := [some (.ref 59), some (.ref x0), some (.int x1), some (.int r1), none]) (st1 := [(.int r3)]) (mem1 := m4) rfl rfl rfl rfl ?_
  refine it_V.sN it_cd41 it_m41 4 (pc1 := 29) (ls1 := [some (.ref 59), some (.ref x0), some (.int x1), some (.int r1), some (.int r3)]) (st1 := [(.int x1), (.ref 1)]) (mem1 := m4) rfl ?_
  refine it_V.call it_cd41 it_m41 rfl it_m12 [(.ref 1), (.int x1)] [] rfl rfl ⟨Nat.le_of_ble_eq_true rfl, Nat.le_of_ble_eq_true rfl, Nat.le_of_ble_eq_true rfl, Nat.le_of_ble_eq_true rfl, rfl⟩ (s_12 kc x1 m4 _ h) ?_
  rintro _ m6 ⟨r5, rfl, h⟩
  refine it_V.at (pc1 := 32) (ls1 := [some (.ref 59), some (.ref x0), some (.int x1), some (.int r1), some (.int r3)]) (st1 := [(.int r5)]) (mem1 := m6) rfl rfl rfl rfl ?_
  refine it_V.sN it_cd41 it_m41 2 (pc1 := (if r5 = (1 : Int32) then 36 else 84)) (ls1 := [some (.ref 59), some (.ref x0), some (.int x1), some (.int r1), some (.int r3)]) (st1 := []) (mem1 := m6) rfl ?_
  refine it_V.ite (fun c7 => ?_) (fun c7 => ?_)
  · have h := h.1 c7
    refine it_V.sN it_cd41 it_m41 6 (pc1 := 47) (ls1 := [some (.ref 59), some (.ref x0), some (.int x1), some (.int r1), some (.int r3)]) (st1 := [(.int r3), (.int ((m6 4 0) - r1))]) (mem1 := m6) rfl ?_
    refine it_V.call it_cd41 it_m41 rfl it_m213 [(.int ((m6 4 0) - r1)), (.int r3)] [] rfl rfl ⟨Nat.le_of_ble_eq_true rfl, Nat.le_of_ble_eq_true rfl, Nat.le_of_ble_eq_true rfl, Nat.le_of_ble_eq_true rfl, rfl⟩ (s_213 kc ((m6 4 0) - r1) r3 m6 _ h) ?_
    rintro _ m9 ⟨r8, rfl, h⟩
    refine it_V.at (pc1 := 50) (ls1 := [some (.ref 59), some (.ref x0), some (.int x1), some (.int r1), some (.int r3)]) (st1 := [(.int r8)]) (mem1 := m9) rfl rfl rfl rfl ?_
    refine it_V.sN it_cd41 it_m41 1 (pc1 := (if r8 = 0 then 53 else 84)) (ls1 := [some (.ref 59), some (.ref x0), some (.int x1), some (.int r1), some (.int r3)]) (st1 := []) (mem1 := m9) rfl ?_
    refine it_V.ite (fun c10 => ?_) (fun c10 => ?_)
    · have h := h.1 c10
      refine it_V.sN it_cd41 it_m41 4 (pc1 := 59) (ls1 := [some (.ref 59), some (.ref x0), some (.int x1), some (.int r1), some (.int r3)]) (st1 := [(.int (0 : Int32)), (.int x1), (.ref 1)]) (mem1 := m9) rfl ?_
      refine it_V.call it_cd41 it_m41 rfl it_m13 [(.ref 1), (.int x1), (.int (0 : Int32))] [] rfl rfl ⟨Nat.le_of_ble_eq_true rfl, Nat.le_of_ble_eq_true rfl, Nat.le_of_ble_eq_true rfl, Nat.le_of_ble_eq_true rfl, rfl⟩ (s_13 kc x1 (0 : Int32) m9 _ h) ?_
      rintro _ m11 ⟨rfl, h⟩
      refine it_V.at (pc1 := 62) (ls1 := [some (.ref 59), some (.ref x0), some (.int x1), some (.int r1), some (.int r3)]) (st1 := []) (mem1 := m11) rfl rfl rfl rfl ?_
      refine it_V.sN it_cd41 it_m41 12 (pc1 := 81) (ls1 := [some (.ref 59), some (.ref x0), some (.int x1), some (.int r1), some (.int r3)]) (st1 := [(.int (0 : Int32)), (.int (r1 + r3)), (.int (m11 4 0)), (.int (0 : Int32)), (.int (0 : Int32)), (.ref x0), (.ref 9)]) (mem1 := m11) rfl ?_
      refine it_V.call it_cd41 it_m41 rfl it_m80 [(.ref 9), (.ref x0), (.int (0 : Int32)), (.int (0 : Int32)), (.int (m11 4 0)), (.int (r1 + r3)), (.int (0 : Int32))] [] rfl rfl ⟨Nat.le_of_ble_eq_true rfl, Nat.le_of_ble_eq_true rfl, Nat.le_of_ble_eq_true rfl, Nat.le_of_ble_eq_true rfl, rfl⟩ (s_80 kc x0 (0 : Int32) (0 : Int32) (m11 4 0) (r1 + r3) (0 : Int32) (hx0) m11 _ h) ?_
      rintro _ m12 ⟨rfl, h⟩
      refine it_V.at (pc1 := 84) (ls1 := [some (.ref 59), some (.ref x0), some (.int x1), some (.int r1), some (.int r3)]) (st1 := []) (mem1 := m12) rfl rfl rfl rfl ?_
      refine it_V.weak (l := [none, none, none, none, none]) trivial ?_
      exact s_41_84 kc Φ m12 h
    · have h := h.2 c10
      refine it_V.weak (l := [none, none, none, none, none]) trivial ?_
      exact s_41_84 kc Φ m9 h
  · have h := h.2 c7
    refine it_V.weak (l := [none, none, none, none, none]) trivial ?_
    exact s_41_84 kc Φ m6 h
set_option maxRecDepth 100000 in
set_option maxHeartbeats 4000000 in
theorem s_40_46 (kc : it_Kc) (Φ : it_Me → Prop) (K2 : Int32 → it_Me → Prop) (K52 : it_Me → Prop) (hK2 : ∀ (v1 : Int32) (m : it_Me), K2 v1 m → it_V kc it_sh0 40 2 [some (.ref 59), some (.int v1), none] [] m (it_Pv Φ)) (hK52 : ∀ (m : it_Me), K52 m → it_V kc it_sh0 40 52 [none, none, none] [] m (it_Pv Φ)) (v1 : Int32) (m : it_Me) (h : w_40_46 kc Φ K2 K52 v1 m) : it_V kc it_sh0 40 46 [some (.ref 59), some (.int v1), none] [] m (it_Pv Φ) := by
  rw [w_40_46] at h
  refine it_V.sN it_cd40 it_m40 2 (pc1 := 2) (ls1 := [some (.ref 59), some (.int (v1 + (1 : Int32))), none]) (st1 := []) (mem1 := m) rfl ?_
  refine it_V.weak (l := [some (.ref 59), some (.int (v1 + (1 : Int32))), none]) ⟨rfl, ⟨rfl, trivial⟩⟩ ?_
  exact hK2 (v1 + (1 : Int32)) m h
set_option maxRecDepth 100000 in
set_option maxHeartbeats 4000000 in
theorem s_40_2 (kc : it_Kc) (Φ : it_Me → Prop) (K52 : it_Me → Prop) (hK52 : ∀ (m : it_Me), K52 m → it_V kc it_sh0 40 52 [none, none, none] [] m (it_Pv Φ)) : ∀ (n : Nat) (v1 : Int32) (m : it_Me) (h : w_40_2 kc Φ K52 n v1 m), it_V kc it_sh0 40 2 [some (.ref 59), some (.int v1), none] [] m (it_Pv Φ) := by
  intro n
  induction n with
  | zero => intro v1 m h; exact absurd h id
  | succ n ih =>
    intro v1 m h
    rw [w_40_2] at h
    refine it_V.sN it_cd40 it_m40 5 (pc1 := (if (m 9 7) ≤ v1 then 52 else 13)) (ls1 := [some (.ref 59), some (.int v1), none]) (st1 := []) (mem1 := m) rfl ?_
    refine it_V.ite (fun c1 => ?_) (fun c1 => ?_)
    · have h := h.1 c1
      refine it_V.weak (l := [none, none, none]) trivial ?_
      exact hK52 m h
    · have h := h.2 c1
      refine it_V.sN it_cd40 it_m40 4 (pc1 := 21) (ls1 := [some (.ref 59), some (.int v1), none]) (st1 := [(.int v1), (.ref 10)]) (mem1 := m) rfl ?_
      obtain ⟨g2, h⟩ := h
      refine it_V.aald it_cd40 it_m40 rfl g2 ?_
      refine it_V.at (pc1 := 22) (ls1 := [some (.ref 59), some (.int v1), none]) (st1 := [(.ref (14 + 5 * Int32.toNatClampNeg v1))]) (mem1 := m) rfl rfl rfl rfl ?_
      refine it_V.sN it_cd40 it_m40 2 (pc1 := 24) (ls1 := [some (.ref 59), some (.int v1), some (.ref (14 + 5 * Int32.toNatClampNeg v1))]) (st1 := [(.ref (14 + 5 * Int32.toNatClampNeg v1))]) (mem1 := m) rfl ?_
      refine it_V.getP it_cd40 it_m40 rfl (it_isP_of g2).1 rfl ?_
      refine it_V.at (pc1 := 27) (ls1 := [some (.ref 59), some (.int v1), some (.ref (14 + 5 * Int32.toNatClampNeg v1))]) (st1 := [(.ref ((14 + 5 * Int32.toNatClampNeg v1) + 4))]) (mem1 := m) rfl rfl rfl rfl ?_
      refine it_V.sN it_cd40 it_m40 1 (pc1 := 28) (ls1 := [some (.ref 59), some (.int v1), some (.ref (14 + 5 * Int32.toNatClampNeg v1))]) (st1 := [(.int (0 : Int32)), (.ref ((14 + 5 * Int32.toNatClampNeg v1) + 4))]) (mem1 := m) rfl ?_
      obtain ⟨g3, h⟩ := h
      refine it_V.iald it_cd40 it_m40 rfl ((it_isP_of g2).2.2.2.2).2 ((it_isP_of g2).2.2.2.2).1 g3 ?_
      refine it_V.at (pc1 := 29) (ls1 := [some (.ref 59), some (.int v1), some (.ref (14 + 5 * Int32.toNatClampNeg v1))]) (st1 := [(.int (m ((14 + 5 * Int32.toNatClampNeg v1) + 4) (Int32.toNatClampNeg (0 : Int32))))]) (mem1 := m) rfl rfl rfl rfl ?_
      refine it_V.sN it_cd40 it_m40 1 (pc1 := (if (m ((14 + 5 * Int32.toNatClampNeg v1) + 4) (Int32.toNatClampNeg (0 : Int32))) = 0 then 46 else 32)) (ls1 := [some (.ref 59), some (.int v1), some (.ref (14 + 5 * Int32.toNatClampNeg v1))]) (st1 := []) (mem1 := m) rfl ?_
      refine it_V.ite (fun c4 => ?_) (fun c4 => ?_)
      · have h := h.1 c4
        refine it_V.weak (l := [some (.ref 59), some (.int v1), none]) ⟨rfl, ⟨rfl, trivial⟩⟩ ?_
        exact s_40_46 kc Φ _ _ ih hK52 v1 m h
      · have h := h.2 c4
        refine it_V.sN it_cd40 it_m40 6 (pc1 := 40) (ls1 := [some (.ref 59), some (.int v1), some (.ref (14 + 5 * Int32.toNatClampNeg v1))]) (st1 := [(.int (0 : Int32)), (.ref (14 + 5 * Int32.toNatClampNeg v1)), (.ref 9), (.ref (14 + 5 * Int32.toNatClampNeg v1)), (.ref 59)]) (mem1 := m) rfl ?_
        refine it_V.call it_cd40 it_m40 rfl it_m90 [(.ref 9), (.ref (14 + 5 * Int32.toNatClampNeg v1)), (.int (0 : Int32))] [(.ref (14 + 5 * Int32.toNatClampNeg v1)), (.ref 59)] rfl rfl ⟨Nat.le_of_ble_eq_true rfl, Nat.le_of_ble_eq_true rfl, Nat.le_of_ble_eq_true rfl, Nat.le_of_ble_eq_true rfl, rfl⟩ (s_90 kc (14 + 5 * Int32.toNatClampNeg v1) (0 : Int32) (it_isP_of g2) m _ h) ?_
        rintro _ m6 ⟨r5, rfl, h⟩
        refine it_V.at (pc1 := 43) (ls1 := [some (.ref 59), some (.int v1), some (.ref (14 + 5 * Int32.toNatClampNeg v1))]) (st1 := [(.int r5), (.ref (14 + 5 * Int32.toNatClampNeg v1)), (.ref 59)]) (mem1 := m6) rfl rfl rfl rfl ?_
        refine it_V.call it_cd40 it_m40 rfl it_m41 [(.ref 59), (.ref (14 + 5 * Int32.toNatClampNeg v1)), (.int r5)] [] rfl rfl ⟨Nat.le_of_ble_eq_true rfl, Nat.le_of_ble_eq_true rfl, Nat.le_of_ble_eq_true rfl, Nat.le_of_ble_eq_true rfl, rfl⟩ (s_41 kc (14 + 5 * Int32.toNatClampNeg v1) r5 (it_isP_of g2) m6 _ h) ?_
        rintro _ m7 ⟨rfl, h⟩
        refine it_V.at (pc1 := 46) (ls1 := [some (.ref 59), some (.int v1), some (.ref (14 + 5 * Int32.toNatClampNeg v1))]) (st1 := []) (mem1 := m7) rfl rfl rfl rfl ?_
        refine it_V.weak (l := [some (.ref 59), some (.int v1), none]) ⟨rfl, ⟨rfl, trivial⟩⟩ ?_
        exact s_40_46 kc Φ _ _ ih hK52 v1 m7 h
set_option maxRecDepth 100000 in
set_option maxHeartbeats 4000000 in
theorem s_40_52 (kc : it_Kc) (Φ : it_Me → Prop) (m : it_Me) (h : w_40_52 kc Φ m) : it_V kc it_sh0 40 52 [none, none, none] [] m (it_Pv Φ) := by
  rw [w_40_52] at h
  exact it_V.ret it_cd40 it_m40 rfl rfl ⟨rfl, h⟩
set_option maxRecDepth 100000 in
set_option maxHeartbeats 4000000 in
theorem s_40 (kc : it_Kc) (m : it_Me) (Φ : it_Me → Prop) (h : w_40 kc m Φ) : it_V kc it_sh0 40 0 (it_loc0 [(.ref 59)] 3) [] m (it_Pv Φ) := by
  rw [w_40] at h
  refine it_V.at (pc1 := 0) (ls1 := [some (.ref 59), none, none]) (st1 := []) (mem1 := m) rfl rfl rfl rfl ?_
  refine it_V.sN it_cd40 it_m40 2 (pc1 := 2) (ls1 := [some (.ref 59), some (.int (0 : Int32)), none]) (st1 := []) (mem1 := m) rfl ?_
  obtain ⟨n, h⟩ := h
  exact s_40_2 kc Φ _ (fun m h => s_40_52 kc Φ m h) n (0 : Int32) m h
