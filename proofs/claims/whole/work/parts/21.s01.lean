/-! The formulas are sound for the small machine. Written by wip/whole/gen_wp.py, split_wp.py -/
set_option maxRecDepth 100000 in
set_option maxHeartbeats 4000000 in
theorem s_12_12 (kc : it_Kc) (Φ : Int32 → it_Me → Prop) (m : it_Me) (h : w_12_12 kc Φ m) : it_V kc it_sh0 12 12 [none, none] [] m (it_Pi Φ) := by
  rw [w_12_12] at h
  refine it_V.sN it_cd12 it_m12 1 (pc1 := 13) (ls1 := [none, none]) (st1 := [(.int (0 : Int32))]) (mem1 := m) rfl ?_
  exact it_V.ret it_cd12 it_m12 rfl rfl ⟨_, rfl, h⟩
set_option maxRecDepth 100000 in
set_option maxHeartbeats 4000000 in
theorem s_12 (kc : it_Kc) (x0 : Int32) (m : it_Me) (Φ : Int32 → it_Me → Prop) (h : w_12 kc x0 m Φ) : it_V kc it_sh0 12 0 (it_loc0 [(.ref 1), (.int x0)] 2) [] m (it_Pi Φ) := by
  rw [w_12] at h
  refine it_V.at (pc1 := 0) (ls1 := [some (.ref 1), some (.int x0)]) (st1 := []) (mem1 := m) rfl rfl rfl rfl ?_
  refine it_V.sN it_cd12 it_m12 3 (pc1 := (if x0 < (65536 : Int32) then 12 else 6)) (ls1 := [some (.ref 1), some (.int x0)]) (st1 := []) (mem1 := m) rfl ?_
  refine it_V.ite (fun c1 => ?_) (fun c1 => ?_)
  · have h := h.1 c1
    refine it_V.weak (l := [none, none]) trivial ?_
    exact s_12_12 kc Φ m h
  · have h := h.2 c1
    refine it_V.sN it_cd12 it_m12 3 (pc1 := (if x0 < (196608 : Int32) then 14 else 12)) (ls1 := [some (.ref 1), some (.int x0)]) (st1 := []) (mem1 := m) rfl ?_
    refine it_V.ite (fun c2 => ?_) (fun c2 => ?_)
    · have h := h.1 c2
      refine it_V.sN it_cd12 it_m12 7 (pc1 := 24) (ls1 := [some (.ref 1), some (.int x0)]) (st1 := [(.int (it_shr (x0 - (65536 : Int32)) (2 : Int32))), (.ref 2)]) (mem1 := m) rfl ?_
      obtain ⟨g3, h⟩ := h
      refine it_V.iald it_cd12 it_m12 rfl ((⟨rfl, by decide⟩ : it_isR 2 32768)).2 ((⟨rfl, by decide⟩ : it_isR 2 32768)).1 g3 ?_
      refine it_V.at (pc1 := 25) (ls1 := [some (.ref 1), some (.int x0)]) (st1 := [(.int (m 2 (Int32.toNatClampNeg (it_shr (x0 - (65536 : Int32)) (2 : Int32)))))]) (mem1 := m) rfl rfl rfl rfl ?_
      exact it_V.ret it_cd12 it_m12 rfl rfl ⟨_, rfl, h⟩
    · have h := h.2 c2
      refine it_V.weak (l := [none, none]) trivial ?_
      exact s_12_12 kc Φ m h
set_option maxRecDepth 100000 in
set_option maxHeartbeats 4000000 in
theorem s_14_12 (kc : it_Kc) (Φ : Int32 → it_Me → Prop) (m : it_Me) (h : w_14_12 kc Φ m) : it_V kc it_sh0 14 12 [none, none] [] m (it_Pi Φ) := by
  rw [w_14_12] at h
  refine it_V.sN it_cd14 it_m14 1 (pc1 := 13) (ls1 := [none, none]) (st1 := [(.int (0 : Int32))]) (mem1 := m) rfl ?_
  exact it_V.ret it_cd14 it_m14 rfl rfl ⟨_, rfl, h⟩
set_option maxRecDepth 100000 in
set_option maxHeartbeats 4000000 in
theorem s_14 (kc : it_Kc) (x0 : Int32) (m : it_Me) (Φ : Int32 → it_Me → Prop) (h : w_14 kc x0 m Φ) : it_V kc it_sh0 14 0 (it_loc0 [(.ref 1), (.int x0)] 2) [] m (it_Pi Φ) := by
  rw [w_14] at h
  refine it_V.at (pc1 := 0) (ls1 := [some (.ref 1), some (.int x0)]) (st1 := []) (mem1 := m) rfl rfl rfl rfl ?_
  refine it_V.sN it_cd14 it_m14 3 (pc1 := (if x0 < (65536 : Int32) then 12 else 6)) (ls1 := [some (.ref 1), some (.int x0)]) (st1 := []) (mem1 := m) rfl ?_
  refine it_V.ite (fun c1 => ?_) (fun c1 => ?_)
  · have h := h.1 c1
    refine it_V.weak (l := [none, none]) trivial ?_
    exact s_14_12 kc Φ m h
  · have h := h.2 c1
    refine it_V.sN it_cd14 it_m14 3 (pc1 := (if x0 < (196608 : Int32) then 14 else 12)) (ls1 := [some (.ref 1), some (.int x0)]) (st1 := []) (mem1 := m) rfl ?_
    refine it_V.ite (fun c2 => ?_) (fun c2 => ?_)
    · have h := h.1 c2
      refine it_V.sN it_cd14 it_m14 7 (pc1 := 24) (ls1 := [some (.ref 1), some (.int x0)]) (st1 := [(.int (it_shr (x0 - (65536 : Int32)) (2 : Int32))), (.ref 2)]) (mem1 := m) rfl ?_
      obtain ⟨g3, h⟩ := h
      refine it_V.iald it_cd14 it_m14 rfl ((⟨rfl, by decide⟩ : it_isR 2 32768)).2 ((⟨rfl, by decide⟩ : it_isR 2 32768)).1 g3 ?_
      refine it_V.at (pc1 := 25) (ls1 := [some (.ref 1), some (.int x0)]) (st1 := [(.int (m 2 (Int32.toNatClampNeg (it_shr (x0 - (65536 : Int32)) (2 : Int32)))))]) (mem1 := m) rfl rfl rfl rfl ?_
      refine it_V.sN it_cd14 it_m14 8 (pc1 := 34) (ls1 := [some (.ref 1), some (.int x0)]) (st1 := [(.int ((it_us (m 2 (Int32.toNatClampNeg (it_shr (x0 - (65536 : Int32)) (2 : Int32)))) (it_shl (x0 &&& (2 : Int32)) (3 : Int32))) &&& (65535 : Int32)))]) (mem1 := m) rfl ?_
      exact it_V.ret it_cd14 it_m14 rfl rfl ⟨_, rfl, h⟩
    · have h := h.2 c2
      refine it_V.weak (l := [none, none]) trivial ?_
      exact s_14_12 kc Φ m h
set_option maxRecDepth 100000 in
set_option maxHeartbeats 4000000 in
theorem s_1_140 (kc : it_Kc) (Φ : Int32 → it_Me → Prop) (u0 : Int32) (m : it_Me) (h : w_1_140 kc Φ u0 m) : it_V kc it_sh0 1 140 [none, none, none, none] [(.int u0)] m (it_Pi Φ) := by
  rw [w_1_140] at h
  exact it_V.retZ it_cd1 it_m1 rfl rfl h.1 ⟨_, rfl, h.2⟩
set_option maxRecDepth 100000 in
set_option maxHeartbeats 4000000 in
theorem s_1_139 (kc : it_Kc) (Φ : Int32 → it_Me → Prop) (m : it_Me) (h : w_1_139 kc Φ m) : it_V kc it_sh0 1 139 [none, none, none, none] [] m (it_Pi Φ) := by
  rw [w_1_139] at h
  refine it_V.sN it_cd1 it_m1 1 (pc1 := 140) (ls1 := [none, none, none, none]) (st1 := [(.int (0 : Int32))]) (mem1 := m) rfl ?_
  refine it_V.weak (l := [none, none, none, none]) trivial ?_
  exact s_1_140 kc Φ (0 : Int32) m h
set_option maxRecDepth 100000 in
set_option maxHeartbeats 4000000 in
theorem s_1_114 (kc : it_Kc) (Φ : Int32 → it_Me → Prop) (v0 : Nat) (v1 : Int32) (v2 : Int32) (u0 : Int32) (hv0 : it_isH v0) (m : it_Me) (h : w_1_114 kc Φ v0 v1 v2 u0 m) : it_V kc it_sh0 1 114 [some (.ref v0), some (.int v1), some (.int v2), none] [(.int u0)] m (it_Pi Φ) := by
  rw [w_1_114] at h
  refine it_V.sN it_cd1 it_m1 2 (pc1 := 116) (ls1 := [some (.ref v0), some (.int v1), some (.int v2), some (.int u0)]) (st1 := [(.ref v0)]) (mem1 := m) rfl ?_
  refine it_V.getP it_cd1 it_m1 rfl hv0 rfl ?_
  refine it_V.at (pc1 := 119) (ls1 := [some (.ref v0), some (.int v1), some (.int v2), some (.int u0)]) (st1 := [(.ref 1)]) (mem1 := m) rfl rfl rfl rfl ?_
  refine it_V.sN it_cd1 it_m1 1 (pc1 := 120) (ls1 := [some (.ref v0), some (.int v1), some (.int v2), some (.int u0)]) (st1 := [(.int v1), (.ref 1)]) (mem1 := m) rfl ?_
  refine it_V.call it_cd1 it_m1 rfl it_m14 [(.ref 1), (.int v1)] [] rfl rfl ⟨Nat.le_of_ble_eq_true rfl, Nat.le_of_ble_eq_true rfl, Nat.le_of_ble_eq_true rfl, Nat.le_of_ble_eq_true rfl, rfl⟩ (s_14 kc v1 m _ h) ?_
  rintro _ m2 ⟨r1, rfl, h⟩
  refine it_V.at (pc1 := 123) (ls1 := [some (.ref v0), some (.int v1), some (.int v2), some (.int u0)]) (st1 := [(.int r1)]) (mem1 := m2) rfl rfl rfl rfl ?_
  refine it_V.sN it_cd1 it_m1 2 (pc1 := (if r1 = (2 : Int32) then 127 else 139)) (ls1 := [some (.ref v0), some (.int v1), some (.int v2), some (.int u0)]) (st1 := []) (mem1 := m2) rfl ?_
  refine it_V.ite (fun c3 => ?_) (fun c3 => ?_)
  · have h := h.1 c3
    refine it_V.sN it_cd1 it_m1 2 (pc1 := (if v2 = 0 then 139 else 131)) (ls1 := [some (.ref v0), some (.int v1), some (.int v2), some (.int u0)]) (st1 := []) (mem1 := m2) rfl ?_
    refine it_V.ite (fun c4 => ?_) (fun c4 => ?_)
    · have h := h.1 c4
      refine it_V.weak (l := [none, none, none, none]) trivial ?_
      exact s_1_139 kc Φ m2 h
    · have h := h.2 c4
      refine it_V.sN it_cd1 it_m1 2 (pc1 := (if u0 = 0 then 139 else 135)) (ls1 := [some (.ref v0), some (.int v1), some (.int v2), some (.int u0)]) (st1 := []) (mem1 := m2) rfl ?_
      refine it_V.ite (fun c5 => ?_) (fun c5 => ?_)
      · have h := h.1 c5
        refine it_V.weak (l := [none, none, none, none]) trivial ?_
        exact s_1_139 kc Φ m2 h
      · have h := h.2 c5
        refine it_V.sN it_cd1 it_m1 2 (pc1 := 140) (ls1 := [some (.ref v0), some (.int v1), some (.int v2), some (.int u0)]) (st1 := [(.int (1 : Int32))]) (mem1 := m2) rfl ?_
        refine it_V.weak (l := [none, none, none, none]) trivial ?_
        exact s_1_140 kc Φ (1 : Int32) m2 h
  · have h := h.2 c3
    refine it_V.weak (l := [none, none, none, none]) trivial ?_
    exact s_1_139 kc Φ m2 h
set_option maxRecDepth 100000 in
set_option maxHeartbeats 4000000 in
theorem s_1_113 (kc : it_Kc) (Φ : Int32 → it_Me → Prop) (v0 : Nat) (v1 : Int32) (v2 : Int32) (hv0 : it_isH v0) (m : it_Me) (h : w_1_113 kc Φ v0 v1 v2 m) : it_V kc it_sh0 1 113 [some (.ref v0), some (.int v1), some (.int v2), none] [] m (it_Pi Φ) := by
  rw [w_1_113] at h
  refine it_V.sN it_cd1 it_m1 1 (pc1 := 114) (ls1 := [some (.ref v0), some (.int v1), some (.int v2), none]) (st1 := [(.int (0 : Int32))]) (mem1 := m) rfl ?_
  refine it_V.weak (l := [some (.ref v0), some (.int v1), some (.int v2), none]) ⟨rfl, ⟨rfl, ⟨rfl, trivial⟩⟩⟩ ?_
  exact s_1_114 kc Φ v0 v1 v2 (0 : Int32) (hv0) m h
set_option maxRecDepth 100000 in
set_option maxHeartbeats 4000000 in
theorem s_1_77 (kc : it_Kc) (Φ : Int32 → it_Me → Prop) (v0 : Nat) (v1 : Int32) (u0 : Int32) (hv0 : it_isH v0) (m : it_Me) (h : w_1_77 kc Φ v0 v1 u0 m) : it_V kc it_sh0 1 77 [some (.ref v0), some (.int v1), none, none] [(.int u0)] m (it_Pi Φ) := by
  rw [w_1_77] at h
  refine it_V.sN it_cd1 it_m1 2 (pc1 := 79) (ls1 := [some (.ref v0), some (.int v1), some (.int u0), none]) (st1 := [(.ref v0)]) (mem1 := m) rfl ?_
  refine it_V.getP it_cd1 it_m1 rfl hv0 rfl ?_
  refine it_V.at (pc1 := 82) (ls1 := [some (.ref v0), some (.int v1), some (.int u0), none]) (st1 := [(.int (m v0 3))]) (mem1 := m) rfl rfl rfl rfl ?_
  refine it_V.sN it_cd1 it_m1 3 (pc1 := (if ((m v0 3) &&& (3 : Int32)) = 0 then 87 else 113)) (ls1 := [some (.ref v0), some (.int v1), some (.int u0), none]) (st1 := []) (mem1 := m) rfl ?_
  refine it_V.ite (fun c1 => ?_) (fun c1 => ?_)
  · have h := h.1 c1
    refine it_V.sN it_cd1 it_m1 1 (pc1 := 88) (ls1 := [some (.ref v0), some (.int v1), some (.int u0), none]) (st1 := [(.ref v0)]) (mem1 := m) rfl ?_
    refine it_V.getP it_cd1 it_m1 rfl hv0 rfl ?_
    refine it_V.at (pc1 := 91) (ls1 := [some (.ref v0), some (.int v1), some (.int u0), none]) (st1 := [(.int (m v0 3))]) (mem1 := m) rfl rfl rfl rfl ?_
    refine it_V.sN it_cd1 it_m1 1 (pc1 := 92) (ls1 := [some (.ref v0), some (.int v1), some (.int u0), none]) (st1 := [(.ref v0), (.int (m v0 3))]) (mem1 := m) rfl ?_
    refine it_V.getP it_cd1 it_m1 rfl hv0 rfl ?_
    refine it_V.at (pc1 := 95) (ls1 := [some (.ref v0), some (.int v1), some (.int u0), none]) (st1 := [(.int (m v0 2)), (.int (m v0 3))]) (mem1 := m) rfl rfl rfl rfl ?_
    refine it_V.sN it_cd1 it_m1 1 (pc1 := (if (m v0 3) < (m v0 2) then 113 else 98)) (ls1 := [some (.ref v0), some (.int v1), some (.int u0), none]) (st1 := []) (mem1 := m) rfl ?_
    refine it_V.ite (fun c2 => ?_) (fun c2 => ?_)
    · have h := h.1 c2
      refine it_V.weak (l := [some (.ref v0), some (.int v1), some (.int u0), none]) ⟨rfl, ⟨rfl, ⟨rfl, trivial⟩⟩⟩ ?_
      exact s_1_113 kc Φ v0 v1 u0 (hv0) m h
    · have h := h.2 c2
      refine it_V.sN it_cd1 it_m1 1 (pc1 := 99) (ls1 := [some (.ref v0), some (.int v1), some (.int u0), none]) (st1 := [(.ref v0)]) (mem1 := m) rfl ?_
      refine it_V.getP it_cd1 it_m1 rfl hv0 rfl ?_
      refine it_V.at (pc1 := 102) (ls1 := [some (.ref v0), some (.int v1), some (.int u0), none]) (st1 := [(.int (m v0 3))]) (mem1 := m) rfl rfl rfl rfl ?_
      refine it_V.sN it_cd1 it_m1 4 (pc1 := (if ((126976 : Int32) - v1) < (m v0 3) then 113 else 109)) (ls1 := [some (.ref v0), some (.int v1), some (.int u0), none]) (st1 := []) (mem1 := m) rfl ?_
      refine it_V.ite (fun c3 => ?_) (fun c3 => ?_)
      · have h := h.1 c3
        refine it_V.weak (l := [some (.ref v0), some (.int v1), some (.int u0), none]) ⟨rfl, ⟨rfl, ⟨rfl, trivial⟩⟩⟩ ?_
        exact s_1_113 kc Φ v0 v1 u0 (hv0) m h
      · have h := h.2 c3
        refine it_V.sN it_cd1 it_m1 2 (pc1 := 114) (ls1 := [some (.ref v0), some (.int v1), some (.int u0), none]) (st1 := [(.int (1 : Int32))]) (mem1 := m) rfl ?_
        refine it_V.weak (l := [some (.ref v0), some (.int v1), some (.int u0), none]) ⟨rfl, ⟨rfl, ⟨rfl, trivial⟩⟩⟩ ?_
        exact s_1_114 kc Φ v0 v1 u0 (1 : Int32) (hv0) m h
  · have h := h.2 c1
    refine it_V.weak (l := [some (.ref v0), some (.int v1), some (.int u0), none]) ⟨rfl, ⟨rfl, ⟨rfl, trivial⟩⟩⟩ ?_
    exact s_1_113 kc Φ v0 v1 u0 (hv0) m h
set_option maxRecDepth 100000 in
set_option maxHeartbeats 4000000 in
theorem s_1_76 (kc : it_Kc) (Φ : Int32 → it_Me → Prop) (v0 : Nat) (v1 : Int32) (hv0 : it_isH v0) (m : it_Me) (h : w_1_76 kc Φ v0 v1 m) : it_V kc it_sh0 1 76 [some (.ref v0), some (.int v1), none, none] [] m (it_Pi Φ) := by
  rw [w_1_76] at h
  refine it_V.sN it_cd1 it_m1 1 (pc1 := 77) (ls1 := [some (.ref v0), some (.int v1), none, none]) (st1 := [(.int (0 : Int32))]) (mem1 := m) rfl ?_
  refine it_V.weak (l := [some (.ref v0), some (.int v1), none, none]) ⟨rfl, ⟨rfl, trivial⟩⟩ ?_
  exact s_1_77 kc Φ v0 v1 (0 : Int32) (hv0) m h
set_option maxRecDepth 100000 in
set_option maxHeartbeats 4000000 in
theorem s_1 (kc : it_Kc) (k : Nat) (x0 : Int32) (hk : it_isH k) (m : it_Me) (Φ : Int32 → it_Me → Prop) (h : w_1 kc k x0 m Φ) : it_V kc it_sh0 1 0 (it_loc0 [(.ref k), (.int x0)] 4) [] m (it_Pi Φ) := by
  rw [w_1] at h
  refine it_V.at (pc1 := 0) (ls1 := [some (.ref k), some (.int x0), none, none]) (st1 := []) (mem1 := m) rfl rfl rfl rfl ?_
  refine it_V.sN it_cd1 it_m1 5 (pc1 := (if (16 : Int32) ≤ ((126976 : Int32) - x0) then 11 else 9)) (ls1 := [some (.ref k), some (.int x0), none, none]) (st1 := []) (mem1 := m) rfl ?_
  refine it_V.ite (fun c1 => ?_) (fun c1 => ?_)
  · have h := h.1 c1
    refine it_V.sN it_cd1 it_m1 2 (pc1 := 13) (ls1 := [some (.ref k), some (.int x0), none, none]) (st1 := [(.int x0), (.ref k)]) (mem1 := m) rfl ?_
    refine it_V.putP it_cd1 it_m1 rfl hk rfl rfl rfl (Or.inl rfl) ?_
    refine it_V.at (pc1 := 16) (ls1 := [some (.ref k), some (.int x0), none, none]) (st1 := []) (mem1 := (it_sv m k 1 x0)) rfl rfl rfl rfl ?_
    refine it_V.sN it_cd1 it_m1 2 (pc1 := 18) (ls1 := [some (.ref k), some (.int x0), none, none]) (st1 := [(.ref k), (.ref k)]) (mem1 := (it_sv m k 1 x0)) rfl ?_
    refine it_V.getP it_cd1 it_m1 rfl hk rfl ?_
    refine it_V.at (pc1 := 21) (ls1 := [some (.ref k), some (.int x0), none, none]) (st1 := [(.ref 1), (.ref k)]) (mem1 := (it_sv m k 1 x0)) rfl rfl rfl rfl ?_
    refine it_V.sN it_cd1 it_m1 3 (pc1 := 24) (ls1 := [some (.ref k), some (.int x0), none, none]) (st1 := [(.int (x0 + (2 : Int32))), (.ref 1), (.ref k)]) (mem1 := (it_sv m k 1 x0)) rfl ?_
    refine it_V.call it_cd1 it_m1 rfl it_m14 [(.ref 1), (.int (x0 + (2 : Int32)))] [(.ref k)] rfl rfl ⟨Nat.le_of_ble_eq_true rfl, Nat.le_of_ble_eq_true rfl, Nat.le_of_ble_eq_true rfl, Nat.le_of_ble_eq_true rfl, rfl⟩ (s_14 kc (x0 + (2 : Int32)) (it_sv m k 1 x0) _ h) ?_
    rintro _ m3 ⟨r2, rfl, h⟩
    refine it_V.at (pc1 := 27) (ls1 := [some (.ref k), some (.int x0), none, none]) (st1 := [(.int r2), (.ref k)]) (mem1 := m3) rfl rfl rfl rfl ?_
    refine it_V.putP it_cd1 it_m1 rfl hk rfl rfl rfl (Or.inl rfl) ?_
    refine it_V.at (pc1 := 30) (ls1 := [some (.ref k), some (.int x0), none, none]) (st1 := []) (mem1 := (it_sv m3 k 2 r2)) rfl rfl rfl rfl ?_
    refine it_V.sN it_cd1 it_m1 2 (pc1 := 32) (ls1 := [some (.ref k), some (.int x0), none, none]) (st1 := [(.ref k), (.ref k)]) (mem1 := (it_sv m3 k 2 r2)) rfl ?_
    refine it_V.getP it_cd1 it_m1 rfl hk rfl ?_
    refine it_V.at (pc1 := 35) (ls1 := [some (.ref k), some (.int x0), none, none]) (st1 := [(.ref 1), (.ref k)]) (mem1 := (it_sv m3 k 2 r2)) rfl rfl rfl rfl ?_
    refine it_V.sN it_cd1 it_m1 3 (pc1 := 38) (ls1 := [some (.ref k), some (.int x0), none, none]) (st1 := [(.int (x0 + (4 : Int32))), (.ref 1), (.ref k)]) (mem1 := (it_sv m3 k 2 r2)) rfl ?_
    refine it_V.call it_cd1 it_m1 rfl it_m12 [(.ref 1), (.int (x0 + (4 : Int32)))] [(.ref k)] rfl rfl ⟨Nat.le_of_ble_eq_true rfl, Nat.le_of_ble_eq_true rfl, Nat.le_of_ble_eq_true rfl, Nat.le_of_ble_eq_true rfl, rfl⟩ (s_12 kc (x0 + (4 : Int32)) (it_sv m3 k 2 r2) _ h) ?_
    rintro _ m5 ⟨r4, rfl, h⟩
    refine it_V.at (pc1 := 41) (ls1 := [some (.ref k), some (.int x0), none, none]) (st1 := [(.int r4), (.ref k)]) (mem1 := m5) rfl rfl rfl rfl ?_
    refine it_V.putP it_cd1 it_m1 rfl hk rfl rfl rfl (Or.inl rfl) ?_
    refine it_V.at (pc1 := 44) (ls1 := [some (.ref k), some (.int x0), none, none]) (st1 := []) (mem1 := (it_sv m5 k 3 r4)) rfl rfl rfl rfl ?_
    refine it_V.sN it_cd1 it_m1 1 (pc1 := 45) (ls1 := [some (.ref k), some (.int x0), none, none]) (st1 := [(.ref k)]) (mem1 := (it_sv m5 k 3 r4)) rfl ?_
    refine it_V.getP it_cd1 it_m1 rfl hk rfl ?_
    refine it_V.at (pc1 := 48) (ls1 := [some (.ref k), some (.int x0), none, none]) (st1 := [(.int ((it_sv m5 k 3 r4) k 2))]) (mem1 := (it_sv m5 k 3 r4)) rfl rfl rfl rfl ?_
    refine it_V.sN it_cd1 it_m1 2 (pc1 := (if ((it_sv m5 k 3 r4) k 2) < (16 : Int32) then 76 else 53)) (ls1 := [some (.ref k), some (.int x0), none, none]) (st1 := []) (mem1 := (it_sv m5 k 3 r4)) rfl ?_
    refine it_V.ite (fun c6 => ?_) (fun c6 => ?_)
    · have h := h.1 c6
      exact s_1_76 kc Φ k x0 (hk) (it_sv m5 k 3 r4) h
    · have h := h.2 c6
      refine it_V.sN it_cd1 it_m1 1 (pc1 := 54) (ls1 := [some (.ref k), some (.int x0), none, none]) (st1 := [(.ref k)]) (mem1 := (it_sv m5 k 3 r4)) rfl ?_
      refine it_V.getP it_cd1 it_m1 rfl hk rfl ?_
      refine it_V.at (pc1 := 57) (ls1 := [some (.ref k), some (.int x0), none, none]) (st1 := [(.int ((it_sv m5 k 3 r4) k 2))]) (mem1 := (it_sv m5 k 3 r4)) rfl rfl rfl rfl ?_
      refine it_V.sN it_cd1 it_m1 2 (pc1 := (if (512 : Int32) < ((it_sv m5 k 3 r4) k 2) then 76 else 63)) (ls1 := [some (.ref k), some (.int x0), none, none]) (st1 := []) (mem1 := (it_sv m5 k 3 r4)) rfl ?_
      refine it_V.ite (fun c7 => ?_) (fun c7 => ?_)
      · have h := h.1 c7
        exact s_1_76 kc Φ k x0 (hk) (it_sv m5 k 3 r4) h
      · have h := h.2 c7
        refine it_V.sN it_cd1 it_m1 1 (pc1 := 64) (ls1 := [some (.ref k), some (.int x0), none, none]) (st1 := [(.ref k)]) (mem1 := (it_sv m5 k 3 r4)) rfl ?_
        refine it_V.getP it_cd1 it_m1 rfl hk rfl ?_
        refine it_V.at (pc1 := 67) (ls1 := [some (.ref k), some (.int x0), none, none]) (st1 := [(.int ((it_sv m5 k 3 r4) k 2))]) (mem1 := (it_sv m5 k 3 r4)) rfl rfl rfl rfl ?_
        refine it_V.sN it_cd1 it_m1 3 (pc1 := (if (((it_sv m5 k 3 r4) k 2) &&& (3 : Int32)) = 0 then 72 else 76)) (ls1 := [some (.ref k), some (.int x0), none, none]) (st1 := []) (mem1 := (it_sv m5 k 3 r4)) rfl ?_
        refine it_V.ite (fun c8 => ?_) (fun c8 => ?_)
        · have h := h.1 c8
          refine it_V.sN it_cd1 it_m1 2 (pc1 := 77) (ls1 := [some (.ref k), some (.int x0), none, none]) (st1 := [(.int (1 : Int32))]) (mem1 := (it_sv m5 k 3 r4)) rfl ?_
          exact s_1_77 kc Φ k x0 (1 : Int32) (hk) (it_sv m5 k 3 r4) h
        · have h := h.2 c8
          exact s_1_76 kc Φ k x0 (hk) (it_sv m5 k 3 r4) h
  · have h := h.2 c1
    refine it_V.sN it_cd1 it_m1 1 (pc1 := 10) (ls1 := [some (.ref k), some (.int x0), none, none]) (st1 := [(.int (0 : Int32))]) (mem1 := m) rfl ?_
    exact it_V.ret it_cd1 it_m1 rfl rfl ⟨_, rfl, h⟩
set_option maxRecDepth 100000 in
set_option maxHeartbeats 4000000 in
theorem s_4_157 (kc : it_Kc) (Φ : it_Me → Prop) (m : it_Me) (h : w_4_157 kc Φ m) : it_V kc it_sh0 4 157 [none, none, none, none] [] m (it_Pv Φ) := by
  rw [w_4_157] at h
  exact it_V.ret it_cd4 it_m4 rfl rfl ⟨rfl, h⟩
set_option maxRecDepth 100000 in
set_option maxHeartbeats 4000000 in
theorem s_4_115 (kc : it_Kc) (Φ : it_Me → Prop) (v0 : Nat) (v1 : Int32) (v2 : Int32) (v3 : Int32) (hv0 : it_isH v0) (m : it_Me) (h : w_4_115 kc Φ v0 v1 v2 v3 m) : it_V kc it_sh0 4 115 [some (.ref v0), some (.int v1), some (.int v2), some (.int v3)] [] m (it_Pv Φ) := by
  rw [w_4_115] at h
  refine it_V.sN it_cd4 it_m4 3 (pc1 := (if v1 = (8 : Int32) then 121 else 157)) (ls1 := [some (.ref v0), some (.int v1), some (.int v2), some (.int v3)]) (st1 := []) (mem1 := m) rfl ?_
  refine it_V.ite (fun c1 => ?_) (fun c1 => ?_)
  · have h := h.1 c1
    refine it_V.sN it_cd4 it_m4 3 (pc1 := (if v2 < (8 : Int32) then 157 else 127)) (ls1 := [some (.ref v0), some (.int v1), some (.int v2), some (.int v3)]) (st1 := []) (mem1 := m) rfl ?_
    refine it_V.ite (fun c2 => ?_) (fun c2 => ?_)
    · have h := h.1 c2
      refine it_V.weak (l := [none, none, none, none]) trivial ?_
      exact s_4_157 kc Φ m h
    · have h := h.2 c2
      refine it_V.sN it_cd4 it_m4 3 (pc1 := (if (64 : Int32) < v2 then 157 else 133)) (ls1 := [some (.ref v0), some (.int v1), some (.int v2), some (.int v3)]) (st1 := []) (mem1 := m) rfl ?_
      refine it_V.ite (fun c3 => ?_) (fun c3 => ?_)
      · have h := h.1 c3
        refine it_V.weak (l := [none, none, none, none]) trivial ?_
        exact s_4_157 kc Φ m h
      · have h := h.2 c3
        refine it_V.sN it_cd4 it_m4 4 (pc1 := (if (v2 &&& (7 : Int32)) = 0 then 140 else 157)) (ls1 := [some (.ref v0), some (.int v1), some (.int v2), some (.int v3)]) (st1 := []) (mem1 := m) rfl ?_
        refine it_V.ite (fun c4 => ?_) (fun c4 => ?_)
        · have h := h.1 c4
          refine it_V.sN it_cd4 it_m4 1 (pc1 := 141) (ls1 := [some (.ref v0), some (.int v1), some (.int v2), some (.int v3)]) (st1 := [(.ref v0)]) (mem1 := m) rfl ?_
          refine it_V.getP it_cd4 it_m4 rfl hv0 rfl ?_
          refine it_V.at (pc1 := 144) (ls1 := [some (.ref v0), some (.int v1), some (.int v2), some (.int v3)]) (st1 := [(.int (m v0 13))]) (mem1 := m) rfl rfl rfl rfl ?_
          refine it_V.sN it_cd4 it_m4 1 (pc1 := (if (m v0 13) = 0 then 147 else 157)) (ls1 := [some (.ref v0), some (.int v1), some (.int v2), some (.int v3)]) (st1 := []) (mem1 := m) rfl ?_
          refine it_V.ite (fun c5 => ?_) (fun c5 => ?_)
          · have h := h.1 c5
            refine it_V.sN it_cd4 it_m4 2 (pc1 := 149) (ls1 := [some (.ref v0), some (.int v1), some (.int v2), some (.int v3)]) (st1 := [(.int v3), (.ref v0)]) (mem1 := m) rfl ?_
            refine it_V.putP it_cd4 it_m4 rfl hv0 rfl rfl rfl (Or.inl rfl) ?_
            refine it_V.at (pc1 := 152) (ls1 := [some (.ref v0), some (.int v1), some (.int v2), some (.int v3)]) (st1 := []) (mem1 := (it_sv m v0 13 v3)) rfl rfl rfl rfl ?_
            refine it_V.sN it_cd4 it_m4 2 (pc1 := 154) (ls1 := [some (.ref v0), some (.int v1), some (.int v2), some (.int v3)]) (st1 := [(.int v2), (.ref v0)]) (mem1 := (it_sv m v0 13 v3)) rfl ?_
            refine it_V.putP it_cd4 it_m4 rfl hv0 rfl rfl rfl (Or.inl rfl) ?_
            refine it_V.at (pc1 := 157) (ls1 := [some (.ref v0), some (.int v1), some (.int v2), some (.int v3)]) (st1 := []) (mem1 := (it_sv (it_sv m v0 13 v3) v0 14 v2)) rfl rfl rfl rfl ?_
            refine it_V.weak (l := [none, none, none, none]) trivial ?_
            exact s_4_157 kc Φ (it_sv (it_sv m v0 13 v3) v0 14 v2) h
          · have h := h.2 c5
            refine it_V.weak (l := [none, none, none, none]) trivial ?_
            exact s_4_157 kc Φ m h
        · have h := h.2 c4
          refine it_V.weak (l := [none, none, none, none]) trivial ?_
          exact s_4_157 kc Φ m h
  · have h := h.2 c1
    refine it_V.weak (l := [none, none, none, none]) trivial ?_
    exact s_4_157 kc Φ m h
set_option maxRecDepth 100000 in
set_option maxHeartbeats 4000000 in
theorem s_4_89 (kc : it_Kc) (Φ : it_Me → Prop) (v0 : Nat) (v1 : Int32) (v2 : Int32) (v3 : Int32) (hv0 : it_isH v0) (m : it_Me) (h : w_4_89 kc Φ v0 v1 v2 v3 m) : it_V kc it_sh0 4 89 [some (.ref v0), some (.int v1), some (.int v2), some (.int v3)] [] m (it_Pv Φ) := by
  rw [w_4_89] at h
  refine it_V.sN it_cd4 it_m4 3 (pc1 := (if v1 = (7 : Int32) then 95 else 115)) (ls1 := [some (.ref v0), some (.int v1), some (.int v2), some (.int v3)]) (st1 := []) (mem1 := m) rfl ?_
  refine it_V.ite (fun c1 => ?_) (fun c1 => ?_)
  · have h := h.1 c1
    refine it_V.sN it_cd4 it_m4 3 (pc1 := (if v2 = (4 : Int32) then 100 else 115)) (ls1 := [some (.ref v0), some (.int v1), some (.int v2), some (.int v3)]) (st1 := []) (mem1 := m) rfl ?_
    refine it_V.ite (fun c2 => ?_) (fun c2 => ?_)
    · have h := h.1 c2
      refine it_V.sN it_cd4 it_m4 1 (pc1 := 101) (ls1 := [some (.ref v0), some (.int v1), some (.int v2), some (.int v3)]) (st1 := [(.ref v0)]) (mem1 := m) rfl ?_
      refine it_V.getP it_cd4 it_m4 rfl hv0 rfl ?_
      refine it_V.at (pc1 := 104) (ls1 := [some (.ref v0), some (.int v1), some (.int v2), some (.int v3)]) (st1 := [(.int (m v0 12))]) (mem1 := m) rfl rfl rfl rfl ?_
      refine it_V.sN it_cd4 it_m4 1 (pc1 := (if (m v0 12) = 0 then 107 else 115)) (ls1 := [some (.ref v0), some (.int v1), some (.int v2), some (.int v3)]) (st1 := []) (mem1 := m) rfl ?_
      refine it_V.ite (fun c3 => ?_) (fun c3 => ?_)
      · have h := h.1 c3
        refine it_V.sN it_cd4 it_m4 2 (pc1 := 109) (ls1 := [some (.ref v0), some (.int v1), some (.int v2), some (.int v3)]) (st1 := [(.int v3), (.ref v0)]) (mem1 := m) rfl ?_
        refine it_V.putP it_cd4 it_m4 rfl hv0 rfl rfl rfl (Or.inl rfl) ?_
        refine it_V.at (pc1 := 112) (ls1 := [some (.ref v0), some (.int v1), some (.int v2), some (.int v3)]) (st1 := []) (mem1 := (it_sv m v0 12 v3)) rfl rfl rfl rfl ?_
        refine it_V.sN it_cd4 it_m4 1 (pc1 := 157) (ls1 := [some (.ref v0), some (.int v1), some (.int v2), some (.int v3)]) (st1 := []) (mem1 := (it_sv m v0 12 v3)) rfl ?_
        refine it_V.weak (l := [none, none, none, none]) trivial ?_
        exact s_4_157 kc Φ (it_sv m v0 12 v3) h
      · have h := h.2 c3
        exact s_4_115 kc Φ v0 v1 v2 v3 (hv0) m h
    · have h := h.2 c2
      exact s_4_115 kc Φ v0 v1 v2 v3 (hv0) m h
  · have h := h.2 c1
    exact s_4_115 kc Φ v0 v1 v2 v3 (hv0) m h
set_option maxRecDepth 100000 in
set_option maxHeartbeats 4000000 in
theorem s_4_53 (kc : it_Kc) (Φ : it_Me → Prop) (v0 : Nat) (v1 : Int32) (v2 : Int32) (v3 : Int32) (hv0 : it_isH v0) (m : it_Me) (h : w_4_53 kc Φ v0 v1 v2 v3 m) : it_V kc it_sh0 4 53 [some (.ref v0), some (.int v1), some (.int v2), some (.int v3)] [] m (it_Pv Φ) := by
  rw [w_4_53] at h
  refine it_V.sN it_cd4 it_m4 3 (pc1 := (if v1 = (3 : Int32) then 58 else 89)) (ls1 := [some (.ref v0), some (.int v1), some (.int v2), some (.int v3)]) (st1 := []) (mem1 := m) rfl ?_
  refine it_V.ite (fun c1 => ?_) (fun c1 => ?_)
  · have h := h.1 c1
    refine it_V.sN it_cd4 it_m4 3 (pc1 := (if v2 < (1 : Int32) then 89 else 63)) (ls1 := [some (.ref v0), some (.int v1), some (.int v2), some (.int v3)]) (st1 := []) (mem1 := m) rfl ?_
    refine it_V.ite (fun c2 => ?_) (fun c2 => ?_)
    · have h := h.1 c2
      exact s_4_89 kc Φ v0 v1 v2 v3 (hv0) m h
    · have h := h.2 c2
      refine it_V.sN it_cd4 it_m4 3 (pc1 := (if (16 : Int32) < v2 then 89 else 69)) (ls1 := [some (.ref v0), some (.int v1), some (.int v2), some (.int v3)]) (st1 := []) (mem1 := m) rfl ?_
      refine it_V.ite (fun c3 => ?_) (fun c3 => ?_)
      · have h := h.1 c3
        exact s_4_89 kc Φ v0 v1 v2 v3 (hv0) m h
      · have h := h.2 c3
        refine it_V.sN it_cd4 it_m4 1 (pc1 := 70) (ls1 := [some (.ref v0), some (.int v1), some (.int v2), some (.int v3)]) (st1 := [(.ref v0)]) (mem1 := m) rfl ?_
        refine it_V.getP it_cd4 it_m4 rfl hv0 rfl ?_
        refine it_V.at (pc1 := 73) (ls1 := [some (.ref v0), some (.int v1), some (.int v2), some (.int v3)]) (st1 := [(.int (m v0 10))]) (mem1 := m) rfl rfl rfl rfl ?_
        refine it_V.sN it_cd4 it_m4 1 (pc1 := (if (m v0 10) = 0 then 76 else 89)) (ls1 := [some (.ref v0), some (.int v1), some (.int v2), some (.int v3)]) (st1 := []) (mem1 := m) rfl ?_
        refine it_V.ite (fun c4 => ?_) (fun c4 => ?_)
        · have h := h.1 c4
          refine it_V.sN it_cd4 it_m4 2 (pc1 := 78) (ls1 := [some (.ref v0), some (.int v1), some (.int v2), some (.int v3)]) (st1 := [(.int v3), (.ref v0)]) (mem1 := m) rfl ?_
          refine it_V.putP it_cd4 it_m4 rfl hv0 rfl rfl rfl (Or.inl rfl) ?_
          refine it_V.at (pc1 := 81) (ls1 := [some (.ref v0), some (.int v1), some (.int v2), some (.int v3)]) (st1 := []) (mem1 := (it_sv m v0 10 v3)) rfl rfl rfl rfl ?_
          refine it_V.sN it_cd4 it_m4 2 (pc1 := 83) (ls1 := [some (.ref v0), some (.int v1), some (.int v2), some (.int v3)]) (st1 := [(.int v2), (.ref v0)]) (mem1 := (it_sv m v0 10 v3)) rfl ?_
          refine it_V.putP it_cd4 it_m4 rfl hv0 rfl rfl rfl (Or.inl rfl) ?_
          refine it_V.at (pc1 := 86) (ls1 := [some (.ref v0), some (.int v1), some (.int v2), some (.int v3)]) (st1 := []) (mem1 := (it_sv (it_sv m v0 10 v3) v0 11 v2)) rfl rfl rfl rfl ?_
          refine it_V.sN it_cd4 it_m4 1 (pc1 := 157) (ls1 := [some (.ref v0), some (.int v1), some (.int v2), some (.int v3)]) (st1 := []) (mem1 := (it_sv (it_sv m v0 10 v3) v0 11 v2)) rfl ?_
          refine it_V.weak (l := [none, none, none, none]) trivial ?_
          exact s_4_157 kc Φ (it_sv (it_sv m v0 10 v3) v0 11 v2) h
        · have h := h.2 c4
          exact s_4_89 kc Φ v0 v1 v2 v3 (hv0) m h
  · have h := h.2 c1
    exact s_4_89 kc Φ v0 v1 v2 v3 (hv0) m h
set_option maxRecDepth 100000 in
set_option maxHeartbeats 4000000 in
theorem s_4_26 (kc : it_Kc) (Φ : it_Me → Prop) (v0 : Nat) (v1 : Int32) (v2 : Int32) (v3 : Int32) (hv0 : it_isH v0) (m : it_Me) (h : w_4_26 kc Φ v0 v1 v2 v3 m) : it_V kc it_sh0 4 26 [some (.ref v0), some (.int v1), some (.int v2), some (.int v3)] [] m (it_Pv Φ) := by
  rw [w_4_26] at h
  refine it_V.sN it_cd4 it_m4 3 (pc1 := (if v1 = (9 : Int32) then 32 else 53)) (ls1 := [some (.ref v0), some (.int v1), some (.int v2), some (.int v3)]) (st1 := []) (mem1 := m) rfl ?_
  refine it_V.ite (fun c1 => ?_) (fun c1 => ?_)
  · have h := h.1 c1
    refine it_V.sN it_cd4 it_m4 3 (pc1 := (if v2 = (20 : Int32) then 38 else 53)) (ls1 := [some (.ref v0), some (.int v1), some (.int v2), some (.int v3)]) (st1 := []) (mem1 := m) rfl ?_
    refine it_V.ite (fun c2 => ?_) (fun c2 => ?_)
    · have h := h.1 c2
      refine it_V.sN it_cd4 it_m4 1 (pc1 := 39) (ls1 := [some (.ref v0), some (.int v1), some (.int v2), some (.int v3)]) (st1 := [(.ref v0)]) (mem1 := m) rfl ?_
      refine it_V.getP it_cd4 it_m4 rfl hv0 rfl ?_
      refine it_V.at (pc1 := 42) (ls1 := [some (.ref v0), some (.int v1), some (.int v2), some (.int v3)]) (st1 := [(.int (m v0 9))]) (mem1 := m) rfl rfl rfl rfl ?_
      refine it_V.sN it_cd4 it_m4 1 (pc1 := (if (m v0 9) = 0 then 45 else 53)) (ls1 := [some (.ref v0), some (.int v1), some (.int v2), some (.int v3)]) (st1 := []) (mem1 := m) rfl ?_
      refine it_V.ite (fun c3 => ?_) (fun c3 => ?_)
      · have h := h.1 c3
        refine it_V.sN it_cd4 it_m4 2 (pc1 := 47) (ls1 := [some (.ref v0), some (.int v1), some (.int v2), some (.int v3)]) (st1 := [(.int v3), (.ref v0)]) (mem1 := m) rfl ?_
        refine it_V.putP it_cd4 it_m4 rfl hv0 rfl rfl rfl (Or.inl rfl) ?_
        refine it_V.at (pc1 := 50) (ls1 := [some (.ref v0), some (.int v1), some (.int v2), some (.int v3)]) (st1 := []) (mem1 := (it_sv m v0 9 v3)) rfl rfl rfl rfl ?_
        refine it_V.sN it_cd4 it_m4 1 (pc1 := 157) (ls1 := [some (.ref v0), some (.int v1), some (.int v2), some (.int v3)]) (st1 := []) (mem1 := (it_sv m v0 9 v3)) rfl ?_
        refine it_V.weak (l := [none, none, none, none]) trivial ?_
        exact s_4_157 kc Φ (it_sv m v0 9 v3) h
      · have h := h.2 c3
        exact s_4_53 kc Φ v0 v1 v2 v3 (hv0) m h
    · have h := h.2 c2
      exact s_4_53 kc Φ v0 v1 v2 v3 (hv0) m h
  · have h := h.2 c1
    exact s_4_53 kc Φ v0 v1 v2 v3 (hv0) m h
set_option maxRecDepth 100000 in
set_option maxHeartbeats 4000000 in
theorem s_4 (kc : it_Kc) (k : Nat) (x0 : Int32) (x1 : Int32) (x2 : Int32) (hk : it_isH k) (m : it_Me) (Φ : it_Me → Prop) (h : w_4 kc k x0 x1 x2 m Φ) : it_V kc it_sh0 4 0 (it_loc0 [(.ref k), (.int x0), (.int x1), (.int x2)] 4) [] m (it_Pv Φ) := by
  rw [w_4] at h
  refine it_V.at (pc1 := 0) (ls1 := [some (.ref k), some (.int x0), some (.int x1), some (.int x2)]) (st1 := []) (mem1 := m) rfl rfl rfl rfl ?_
  refine it_V.sN it_cd4 it_m4 3 (pc1 := (if x0 = (1 : Int32) then 5 else 26)) (ls1 := [some (.ref k), some (.int x0), some (.int x1), some (.int x2)]) (st1 := []) (mem1 := m) rfl ?_
  refine it_V.ite (fun c1 => ?_) (fun c1 => ?_)
  · have h := h.1 c1
    refine it_V.sN it_cd4 it_m4 3 (pc1 := (if x1 = (12 : Int32) then 11 else 26)) (ls1 := [some (.ref k), some (.int x0), some (.int x1), some (.int x2)]) (st1 := []) (mem1 := m) rfl ?_
    refine it_V.ite (fun c2 => ?_) (fun c2 => ?_)
    · have h := h.1 c2
      refine it_V.sN it_cd4 it_m4 1 (pc1 := 12) (ls1 := [some (.ref k), some (.int x0), some (.int x1), some (.int x2)]) (st1 := [(.ref k)]) (mem1 := m) rfl ?_
      refine it_V.getP it_cd4 it_m4 rfl hk rfl ?_
      refine it_V.at (pc1 := 15) (ls1 := [some (.ref k), some (.int x0), some (.int x1), some (.int x2)]) (st1 := [(.int (m k 8))]) (mem1 := m) rfl rfl rfl rfl ?_
      refine it_V.sN it_cd4 it_m4 1 (pc1 := (if (m k 8) = 0 then 18 else 26)) (ls1 := [some (.ref k), some (.int x0), some (.int x1), some (.int x2)]) (st1 := []) (mem1 := m) rfl ?_
      refine it_V.ite (fun c3 => ?_) (fun c3 => ?_)
      · have h := h.1 c3
        refine it_V.sN it_cd4 it_m4 2 (pc1 := 20) (ls1 := [some (.ref k), some (.int x0), some (.int x1), some (.int x2)]) (st1 := [(.int x2), (.ref k)]) (mem1 := m) rfl ?_
        refine it_V.putP it_cd4 it_m4 rfl hk rfl rfl rfl (Or.inl rfl) ?_
        refine it_V.at (pc1 := 23) (ls1 := [some (.ref k), some (.int x0), some (.int x1), some (.int x2)]) (st1 := []) (mem1 := (it_sv m k 8 x2)) rfl rfl rfl rfl ?_
        refine it_V.sN it_cd4 it_m4 1 (pc1 := 157) (ls1 := [some (.ref k), some (.int x0), some (.int x1), some (.int x2)]) (st1 := []) (mem1 := (it_sv m k 8 x2)) rfl ?_
        refine it_V.weak (l := [none, none, none, none]) trivial ?_
        exact s_4_157 kc Φ (it_sv m k 8 x2) h
      · have h := h.2 c3
        exact s_4_26 kc Φ k x0 x1 x2 (hk) m h
    · have h := h.2 c2
      exact s_4_26 kc Φ k x0 x1 x2 (hk) m h
  · have h := h.2 c1
    exact s_4_26 kc Φ k x0 x1 x2 (hk) m h
set_option maxRecDepth 100000 in
set_option maxHeartbeats 4000000 in
theorem s_216 (kc : it_Kc) (x0 : Int32) (m : it_Me) (Φ : Int32 → it_Me → Prop) (h : w_216 kc x0 m Φ) : it_V kc it_sh0 216 0 (it_loc0 [(.int x0)] 1) [] m (it_Pi Φ) := by
  rw [w_216] at h
  refine it_V.at (pc1 := 0) (ls1 := [some (.int x0)]) (st1 := []) (mem1 := m) rfl rfl rfl rfl ?_
  refine it_V.sN it_cd216 it_m216 5 (pc1 := 6) (ls1 := [some (.int x0)]) (st1 := [(.int ((x0 + (3 : Int32)) &&& (-4 : Int32)))]) (mem1 := m) rfl ?_
  exact it_V.ret it_cd216 it_m216 rfl rfl ⟨_, rfl, h⟩
set_option maxRecDepth 100000 in
set_option maxHeartbeats 4000000 in
theorem s_3_30 (kc : it_Kc) (Φ : Int32 → it_Me → Prop) (K79 : it_Me → Prop) (K116 : it_Me → Prop) (hK79 : ∀ (m : it_Me), K79 m → it_V kc it_sh0 3 79 [none, none, none, none, none] [] m (it_Pi Φ)) (hK116 : ∀ (m : it_Me), K116 m → it_V kc it_sh0 3 116 [none, none, none, none, none] [] m (it_Pi Φ)) : ∀ (n : Nat) (v0 : Nat) (v1 : Int32) (v2 : Int32) (hv0 : it_isH v0) (m : it_Me) (h : w_3_30 kc Φ K79 K116 n v0 v1 v2 m), it_V kc it_sh0 3 30 [some (.ref v0), some (.int v1), some (.int v2), none, none] [] m (it_Pi Φ) := by
  intro n
  induction n with
  | zero => intro v0 v1 v2 hv0 m h; exact absurd h id
  | succ n ih =>
    intro v0 v1 v2 hv0 m h
    rw [w_3_30] at h
    refine it_V.sN it_cd3 it_m3 3 (pc1 := (if (124 : Int32) ≤ v2 then 116 else 36)) (ls1 := [some (.ref v0), some (.int v1), some (.int v2), none, none]) (st1 := []) (mem1 := m) rfl ?_
    refine it_V.ite (fun c1 => ?_) (fun c1 => ?_)
    · have h := h.1 c1
      refine it_V.weak (l := [none, none, none, none, none]) trivial ?_
      exact hK116 m h
    · have h := h.2 c1
      refine it_V.sN it_cd3 it_m3 2 (pc1 := 38) (ls1 := [some (.ref v0), some (.int v1), some (.int v2), none, none]) (st1 := [(.ref v0), (.int v1)]) (mem1 := m) rfl ?_
      refine it_V.getP it_cd3 it_m3 rfl hv0 rfl ?_
      refine it_V.at (pc1 := 41) (ls1 := [some (.ref v0), some (.int v1), some (.int v2), none, none]) (st1 := [(.int (m v0 2)), (.int v1)]) (mem1 := m) rfl rfl rfl rfl ?_
      refine it_V.sN it_cd3 it_m3 1 (pc1 := (if (m v0 2) ≤ v1 then 116 else 44)) (ls1 := [some (.ref v0), some (.int v1), some (.int v2), none, none]) (st1 := []) (mem1 := m) rfl ?_
      refine it_V.ite (fun c2 => ?_) (fun c2 => ?_)
      · have h := h.1 c2
        refine it_V.weak (l := [none, none, none, none, none]) trivial ?_
        exact hK116 m h
      · have h := h.2 c2
        refine it_V.sN it_cd3 it_m3 1 (pc1 := 45) (ls1 := [some (.ref v0), some (.int v1), some (.int v2), none, none]) (st1 := [(.ref v0)]) (mem1 := m) rfl ?_
        refine it_V.getP it_cd3 it_m3 rfl hv0 rfl ?_
        refine it_V.at (pc1 := 48) (ls1 := [some (.ref v0), some (.int v1), some (.int v2), none, none]) (st1 := [(.ref 1)]) (mem1 := m) rfl rfl rfl rfl ?_
        refine it_V.sN it_cd3 it_m3 1 (pc1 := 49) (ls1 := [some (.ref v0), some (.int v1), some (.int v2), none, none]) (st1 := [(.ref v0), (.ref 1)]) (mem1 := m) rfl ?_
        refine it_V.getP it_cd3 it_m3 rfl hv0 rfl ?_
        refine it_V.at (pc1 := 52) (ls1 := [some (.ref v0), some (.int v1), some (.int v2), none, none]) (st1 := [(.int (m v0 1)), (.ref 1)]) (mem1 := m) rfl rfl rfl rfl ?_
        refine it_V.sN it_cd3 it_m3 4 (pc1 := 56) (ls1 := [some (.ref v0), some (.int v1), some (.int v2), none, none]) (st1 := [(.int (((m v0 1) + v1) + (2 : Int32))), (.ref 1)]) (mem1 := m) rfl ?_
        refine it_V.call it_cd3 it_m3 rfl it_m14 [(.ref 1), (.int (((m v0 1) + v1) + (2 : Int32)))] [] rfl rfl ⟨Nat.le_of_ble_eq_true rfl, Nat.le_of_ble_eq_true rfl, Nat.le_of_ble_eq_true rfl, Nat.le_of_ble_eq_true rfl, rfl⟩ (s_14 kc (((m v0 1) + v1) + (2 : Int32)) m _ h) ?_
        rintro _ m4 ⟨r3, rfl, h⟩
        refine it_V.at (pc1 := 59) (ls1 := [some (.ref v0), some (.int v1), some (.int v2), none, none]) (st1 := [(.int r3)]) (mem1 := m4) rfl rfl rfl rfl ?_
        refine it_V.sN it_cd3 it_m3 5 (pc1 := 64) (ls1 := [some (.ref v0), some (.int v1), some (.int v2), some (.int r3), none]) (st1 := [(.int r3), (.int (v1 + (4 : Int32)))]) (mem1 := m4) rfl ?_
        refine it_V.call it_cd3 it_m3 rfl it_m216 [(.int r3)] [(.int (v1 + (4 : Int32)))] rfl rfl ⟨Nat.le_of_ble_eq_true rfl, Nat.le_of_ble_eq_true rfl, Nat.le_of_ble_eq_true rfl, Nat.le_of_ble_eq_true rfl, rfl⟩ (s_216 kc r3 m4 _ h) ?_
        rintro _ m6 ⟨r5, rfl, h⟩
        refine it_V.at (pc1 := 67) (ls1 := [some (.ref v0), some (.int v1), some (.int v2), some (.int r3), none]) (st1 := [(.int r5), (.int (v1 + (4 : Int32)))]) (mem1 := m6) rfl rfl rfl rfl ?_
        refine it_V.sN it_cd3 it_m3 4 (pc1 := 73) (ls1 := [some (.ref v0), some (.int v1), some (.int v2), some (.int r3), some (.int ((v1 + (4 : Int32)) + r5))]) (st1 := [(.ref v0), (.int ((v1 + (4 : Int32)) + r5))]) (mem1 := m6) rfl ?_
        refine it_V.getP it_cd3 it_m3 rfl hv0 rfl ?_
        refine it_V.at (pc1 := 76) (ls1 := [some (.ref v0), some (.int v1), some (.int v2), some (.int r3), some (.int ((v1 + (4 : Int32)) + r5))]) (st1 := [(.int (m6 v0 2)), (.int ((v1 + (4 : Int32)) + r5))]) (mem1 := m6) rfl rfl rfl rfl ?_
        refine it_V.sN it_cd3 it_m3 1 (pc1 := (if ((v1 + (4 : Int32)) + r5) ≤ (m6 v0 2) then 81 else 79)) (ls1 := [some (.ref v0), some (.int v1), some (.int v2), some (.int r3), some (.int ((v1 + (4 : Int32)) + r5))]) (st1 := []) (mem1 := m6) rfl ?_
        refine it_V.ite (fun c7 => ?_) (fun c7 => ?_)
        · have h := h.1 c7
          refine it_V.sN it_cd3 it_m3 2 (pc1 := 83) (ls1 := [some (.ref v0), some (.int v1), some (.int v2), some (.int r3), some (.int ((v1 + (4 : Int32)) + r5))]) (st1 := [(.ref v0), (.ref v0)]) (mem1 := m6) rfl ?_
          refine it_V.getP it_cd3 it_m3 rfl hv0 rfl ?_
          refine it_V.at (pc1 := 86) (ls1 := [some (.ref v0), some (.int v1), some (.int v2), some (.int r3), some (.int ((v1 + (4 : Int32)) + r5))]) (st1 := [(.ref 1), (.ref v0)]) (mem1 := m6) rfl rfl rfl rfl ?_
          refine it_V.sN it_cd3 it_m3 1 (pc1 := 87) (ls1 := [some (.ref v0), some (.int v1), some (.int v2), some (.int r3), some (.int ((v1 + (4 : Int32)) + r5))]) (st1 := [(.ref v0), (.ref 1), (.ref v0)]) (mem1 := m6) rfl ?_
          refine it_V.getP it_cd3 it_m3 rfl hv0 rfl ?_
          refine it_V.at (pc1 := 90) (ls1 := [some (.ref v0), some (.int v1), some (.int v2), some (.int r3), some (.int ((v1 + (4 : Int32)) + r5))]) (st1 := [(.int (m6 v0 1)), (.ref 1), (.ref v0)]) (mem1 := m6) rfl rfl rfl rfl ?_
          refine it_V.sN it_cd3 it_m3 2 (pc1 := 92) (ls1 := [some (.ref v0), some (.int v1), some (.int v2), some (.int r3), some (.int ((v1 + (4 : Int32)) + r5))]) (st1 := [(.int ((m6 v0 1) + v1)), (.ref 1), (.ref v0)]) (mem1 := m6) rfl ?_
          refine it_V.call it_cd3 it_m3 rfl it_m14 [(.ref 1), (.int ((m6 v0 1) + v1))] [(.ref v0)] rfl rfl ⟨Nat.le_of_ble_eq_true rfl, Nat.le_of_ble_eq_true rfl, Nat.le_of_ble_eq_true rfl, Nat.le_of_ble_eq_true rfl, rfl⟩ (s_14 kc ((m6 v0 1) + v1) m6 _ h) ?_
          rintro _ m9 ⟨r8, rfl, h⟩
          refine it_V.at (pc1 := 95) (ls1 := [some (.ref v0), some (.int v1), some (.int v2), some (.int r3), some (.int ((v1 + (4 : Int32)) + r5))]) (st1 := [(.int r8), (.ref v0)]) (mem1 := m9) rfl rfl rfl rfl ?_
          refine it_V.sN it_cd3 it_m3 2 (pc1 := 97) (ls1 := [some (.ref v0), some (.int v1), some (.int v2), some (.int r3), some (.int ((v1 + (4 : Int32)) + r5))]) (st1 := [(.ref v0), (.int r3), (.int r8), (.ref v0)]) (mem1 := m9) rfl ?_
          refine it_V.getP it_cd3 it_m3 rfl hv0 rfl ?_
          refine it_V.at (pc1 := 100) (ls1 := [some (.ref v0), some (.int v1), some (.int v2), some (.int r3), some (.int ((v1 + (4 : Int32)) + r5))]) (st1 := [(.int (m9 v0 1)), (.int r3), (.int r8), (.ref v0)]) (mem1 := m9) rfl rfl rfl rfl ?_
          refine it_V.sN it_cd3 it_m3 4 (pc1 := 104) (ls1 := [some (.ref v0), some (.int v1), some (.int v2), some (.int r3), some (.int ((v1 + (4 : Int32)) + r5))]) (st1 := [(.int (((m9 v0 1) + v1) + (4 : Int32))), (.int r3), (.int r8), (.ref v0)]) (mem1 := m9) rfl ?_
          refine it_V.call it_cd3 it_m3 rfl it_m4 [(.ref v0), (.int r8), (.int r3), (.int (((m9 v0 1) + v1) + (4 : Int32)))] [] rfl rfl ⟨Nat.le_of_ble_eq_true rfl, Nat.le_of_ble_eq_true rfl, Nat.le_of_ble_eq_true rfl, Nat.le_of_ble_eq_true rfl, (it_recvP (hv0))⟩ (s_4 kc v0 r8 r3 (((m9 v0 1) + v1) + (4 : Int32)) (hv0) m9 _ h) ?_
          rintro _ m10 ⟨rfl, h⟩
          refine it_V.at (pc1 := 107) (ls1 := [some (.ref v0), some (.int v1), some (.int v2), some (.int r3), some (.int ((v1 + (4 : Int32)) + r5))]) (st1 := []) (mem1 := m10) rfl rfl rfl rfl ?_
          refine it_V.sN it_cd3 it_m3 4 (pc1 := 30) (ls1 := [some (.ref v0), some (.int ((v1 + (4 : Int32)) + r5)), some (.int (v2 + (1 : Int32))), some (.int r3), some (.int ((v1 + (4 : Int32)) + r5))]) (st1 := []) (mem1 := m10) rfl ?_
          refine it_V.weak (l := [some (.ref v0), some (.int ((v1 + (4 : Int32)) + r5)), some (.int (v2 + (1 : Int32))), none, none]) ⟨rfl, ⟨rfl, ⟨rfl, trivial⟩⟩⟩ ?_
          exact ih v0 ((v1 + (4 : Int32)) + r5) (v2 + (1 : Int32)) (hv0) m10 h
        · have h := h.2 c7
          refine it_V.weak (l := [none, none, none, none, none]) trivial ?_
          exact hK79 m6 h
set_option maxRecDepth 100000 in
set_option maxHeartbeats 4000000 in
theorem s_3_79 (kc : it_Kc) (Φ : Int32 → it_Me → Prop) (m : it_Me) (h : w_3_79 kc Φ m) : it_V kc it_sh0 3 79 [none, none, none, none, none] [] m (it_Pi Φ) := by
  rw [w_3_79] at h
  refine it_V.sN it_cd3 it_m3 1 (pc1 := 80) (ls1 := [none, none, none, none, none]) (st1 := [(.int (0 : Int32))]) (mem1 := m) rfl ?_
  exact it_V.ret it_cd3 it_m3 rfl rfl ⟨_, rfl, h⟩
set_option maxRecDepth 100000 in
set_option maxHeartbeats 4000000 in
theorem s_3_116 (kc : it_Kc) (Φ : Int32 → it_Me → Prop) (m : it_Me) (h : w_3_116 kc Φ m) : it_V kc it_sh0 3 116 [none, none, none, none, none] [] m (it_Pi Φ) := by
  rw [w_3_116] at h
  refine it_V.sN it_cd3 it_m3 1 (pc1 := 117) (ls1 := [none, none, none, none, none]) (st1 := [(.int (1 : Int32))]) (mem1 := m) rfl ?_
  exact it_V.ret it_cd3 it_m3 rfl rfl ⟨_, rfl, h⟩
set_option maxRecDepth 100000 in
set_option maxHeartbeats 4000000 in
theorem s_3 (kc : it_Kc) (k : Nat) (hk : it_isH k) (m : it_Me) (Φ : Int32 → it_Me → Prop) (h : w_3 kc k m Φ) : it_V kc it_sh0 3 0 (it_loc0 [(.ref k)] 5) [] m (it_Pi Φ) := by
  rw [w_3] at h
  refine it_V.at (pc1 := 0) (ls1 := [some (.ref k), none, none, none, none]) (st1 := []) (mem1 := m) rfl rfl rfl rfl ?_
  refine it_V.sN it_cd3 it_m3 2 (pc1 := 2) (ls1 := [some (.ref k), none, none, none, none]) (st1 := [(.int (0 : Int32)), (.ref k)]) (mem1 := m) rfl ?_
  refine it_V.putP it_cd3 it_m3 rfl hk rfl rfl rfl (Or.inl rfl) ?_
  refine it_V.at (pc1 := 5) (ls1 := [some (.ref k), none, none, none, none]) (st1 := []) (mem1 := (it_sv m k 8 (0 : Int32))) rfl rfl rfl rfl ?_
  refine it_V.sN it_cd3 it_m3 2 (pc1 := 7) (ls1 := [some (.ref k), none, none, none, none]) (st1 := [(.int (0 : Int32)), (.ref k)]) (mem1 := (it_sv m k 8 (0 : Int32))) rfl ?_
  refine it_V.putP it_cd3 it_m3 rfl hk rfl rfl rfl (Or.inl rfl) ?_
  refine it_V.at (pc1 := 10) (ls1 := [some (.ref k), none, none, none, none]) (st1 := []) (mem1 := (it_sv (it_sv m k 8 (0 : Int32)) k 9 (0 : Int32))) rfl rfl rfl rfl ?_
  refine it_V.sN it_cd3 it_m3 2 (pc1 := 12) (ls1 := [some (.ref k), none, none, none, none]) (st1 := [(.int (0 : Int32)), (.ref k)]) (mem1 := (it_sv (it_sv m k 8 (0 : Int32)) k 9 (0 : Int32))) rfl ?_
  refine it_V.putP it_cd3 it_m3 rfl hk rfl rfl rfl (Or.inl rfl) ?_
  refine it_V.at (pc1 := 15) (ls1 := [some (.ref k), none, none, none, none]) (st1 := []) (mem1 := (it_sv (it_sv (it_sv m k 8 (0 : Int32)) k 9 (0 : Int32)) k 10 (0 : Int32))) rfl rfl rfl rfl ?_
  refine it_V.sN it_cd3 it_m3 2 (pc1 := 17) (ls1 := [some (.ref k), none, none, none, none]) (st1 := [(.int (0 : Int32)), (.ref k)]) (mem1 := (it_sv (it_sv (it_sv m k 8 (0 : Int32)) k 9 (0 : Int32)) k 10 (0 : Int32))) rfl ?_
  refine it_V.putP it_cd3 it_m3 rfl hk rfl rfl rfl (Or.inl rfl) ?_
  refine it_V.at (pc1 := 20) (ls1 := [some (.ref k), none, none, none, none]) (st1 := []) (mem1 := (it_sv (it_sv (it_sv (it_sv m k 8 (0 : Int32)) k 9 (0 : Int32)) k 10 (0 : Int32)) k 12 (0 : Int32))) rfl rfl rfl rfl ?_
  refine it_V.sN it_cd3 it_m3 2 (pc1 := 22) (ls1 := [some (.ref k), none, none, none, none]) (st1 := [(.int (0 : Int32)), (.ref k)]) (mem1 := (it_sv (it_sv (it_sv (it_sv m k 8 (0 : Int32)) k 9 (0 : Int32)) k 10 (0 : Int32)) k 12 (0 : Int32))) rfl ?_
  refine it_V.putP it_cd3 it_m3 rfl hk rfl rfl rfl (Or.inl rfl) ?_
  refine it_V.at (pc1 := 25) (ls1 := [some (.ref k), none, none, none, none]) (st1 := []) (mem1 := (it_sv (it_sv (it_sv (it_sv (it_sv m k 8 (0 : Int32)) k 9 (0 : Int32)) k 10 (0 : Int32)) k 12 (0 : Int32)) k 13 (0 : Int32))) rfl rfl rfl rfl ?_
  refine it_V.sN it_cd3 it_m3 4 (pc1 := 30) (ls1 := [some (.ref k), some (.int (16 : Int32)), some (.int (0 : Int32)), none, none]) (st1 := []) (mem1 := (it_sv (it_sv (it_sv (it_sv (it_sv m k 8 (0 : Int32)) k 9 (0 : Int32)) k 10 (0 : Int32)) k 12 (0 : Int32)) k 13 (0 : Int32))) rfl ?_
  obtain ⟨n, h⟩ := h
  exact s_3_30 kc Φ _ _ (fun m h => s_3_79 kc Φ m h) (fun m h => s_3_116 kc Φ m h) n k (16 : Int32) (0 : Int32) (hk) (it_sv (it_sv (it_sv (it_sv (it_sv m k 8 (0 : Int32)) k 9 (0 : Int32)) k 10 (0 : Int32)) k 12 (0 : Int32)) k 13 (0 : Int32)) h
set_option maxRecDepth 100000 in
set_option maxHeartbeats 4000000 in
theorem s_2_4 (kc : it_Kc) (Φ : Int32 → it_Me → Prop) (K34 : Nat → Int32 → it_Me → Prop) (hK34 : ∀ (v0 : Nat) (v1 : Int32) (_ : it_isH v0) (m : it_Me), K34 v0 v1 m → it_V kc it_sh0 2 34 [some (.ref v0), some (.int v1), none, none] [] m (it_Pi Φ)) : ∀ (n : Nat) (v0 : Nat) (v1 : Int32) (v2 : Int32) (hv0 : it_isH v0) (m : it_Me) (h : w_2_4 kc Φ K34 n v0 v1 v2 m), it_V kc it_sh0 2 4 [some (.ref v0), some (.int v1), some (.int v2), none] [] m (it_Pi Φ) := by
  intro n
  induction n with
  | zero => intro v0 v1 v2 hv0 m h; exact absurd h id
  | succ n ih =>
    intro v0 v1 v2 hv0 m h
    rw [w_2_4] at h
    refine it_V.sN it_cd2 it_m2 2 (pc1 := 6) (ls1 := [some (.ref v0), some (.int v1), some (.int v2), none]) (st1 := [(.ref v0), (.int v2)]) (mem1 := m) rfl ?_
    refine it_V.getP it_cd2 it_m2 rfl hv0 rfl ?_
    refine it_V.at (pc1 := 9) (ls1 := [some (.ref v0), some (.int v1), some (.int v2), none]) (st1 := [(.int (m v0 2)), (.int v2)]) (mem1 := m) rfl rfl rfl rfl ?_
    refine it_V.sN it_cd2 it_m2 1 (pc1 := (if (m v0 2) ≤ v2 then 34 else 12)) (ls1 := [some (.ref v0), some (.int v1), some (.int v2), none]) (st1 := []) (mem1 := m) rfl ?_
    refine it_V.ite (fun c1 => ?_) (fun c1 => ?_)
    · have h := h.1 c1
      refine it_V.weak (l := [some (.ref v0), some (.int v1), none, none]) ⟨rfl, ⟨rfl, trivial⟩⟩ ?_
      exact hK34 v0 v1 (hv0) m h
    · have h := h.2 c1
      refine it_V.sN it_cd2 it_m2 2 (pc1 := 14) (ls1 := [some (.ref v0), some (.int v1), some (.int v2), none]) (st1 := [(.ref v0), (.int v1)]) (mem1 := m) rfl ?_
      refine it_V.getP it_cd2 it_m2 rfl hv0 rfl ?_
      refine it_V.at (pc1 := 17) (ls1 := [some (.ref v0), some (.int v1), some (.int v2), none]) (st1 := [(.ref 1), (.int v1)]) (mem1 := m) rfl rfl rfl rfl ?_
      refine it_V.sN it_cd2 it_m2 1 (pc1 := 18) (ls1 := [some (.ref v0), some (.int v1), some (.int v2), none]) (st1 := [(.ref v0), (.ref 1), (.int v1)]) (mem1 := m) rfl ?_
      refine it_V.getP it_cd2 it_m2 rfl hv0 rfl ?_
      refine it_V.at (pc1 := 21) (ls1 := [some (.ref v0), some (.int v1), some (.int v2), none]) (st1 := [(.int (m v0 1)), (.ref 1), (.int v1)]) (mem1 := m) rfl rfl rfl rfl ?_
      refine it_V.sN it_cd2 it_m2 2 (pc1 := 23) (ls1 := [some (.ref v0), some (.int v1), some (.int v2), none]) (st1 := [(.int ((m v0 1) + v2)), (.ref 1), (.int v1)]) (mem1 := m) rfl ?_
      refine it_V.call it_cd2 it_m2 rfl it_m12 [(.ref 1), (.int ((m v0 1) + v2))] [(.int v1)] rfl rfl ⟨Nat.le_of_ble_eq_true rfl, Nat.le_of_ble_eq_true rfl, Nat.le_of_ble_eq_true rfl, Nat.le_of_ble_eq_true rfl, rfl⟩ (s_12 kc ((m v0 1) + v2) m _ h) ?_
      rintro _ m3 ⟨r2, rfl, h⟩
      refine it_V.at (pc1 := 26) (ls1 := [some (.ref v0), some (.int v1), some (.int v2), none]) (st1 := [(.int r2), (.int v1)]) (mem1 := m3) rfl rfl rfl rfl ?_
      refine it_V.sN it_cd2 it_m2 4 (pc1 := 4) (ls1 := [some (.ref v0), some (.int (v1 ^^^ r2)), some (.int (v2 + (4 : Int32))), none]) (st1 := []) (mem1 := m3) rfl ?_
      refine it_V.weak (l := [some (.ref v0), some (.int (v1 ^^^ r2)), some (.int (v2 + (4 : Int32))), none]) ⟨rfl, ⟨rfl, ⟨rfl, trivial⟩⟩⟩ ?_
      exact ih v0 (v1 ^^^ r2) (v2 + (4 : Int32)) (hv0) m3 h
set_option maxRecDepth 100000 in
set_option maxHeartbeats 4000000 in
theorem s_2_75 (kc : it_Kc) (Φ : Int32 → it_Me → Prop) (m : it_Me) (h : w_2_75 kc Φ m) : it_V kc it_sh0 2 75 [none, none, none, none] [] m (it_Pi Φ) := by
  rw [w_2_75] at h
  refine it_V.sN it_cd2 it_m2 1 (pc1 := 76) (ls1 := [none, none, none, none]) (st1 := [(.int (0 : Int32))]) (mem1 := m) rfl ?_
  exact it_V.ret it_cd2 it_m2 rfl rfl ⟨_, rfl, h⟩
set_option maxRecDepth 100000 in
set_option maxHeartbeats 4000000 in
theorem s_2_187 (kc : it_Kc) (Φ : Int32 → it_Me → Prop) (u0 : Int32) (m : it_Me) (h : w_2_187 kc Φ u0 m) : it_V kc it_sh0 2 187 [none, none, none, none] [(.int u0)] m (it_Pi Φ) := by
  rw [w_2_187] at h
  exact it_V.retZ it_cd2 it_m2 rfl rfl h.1 ⟨_, rfl, h.2⟩
set_option maxRecDepth 100000 in
set_option maxHeartbeats 4000000 in
theorem s_2_175 (kc : it_Kc) (Φ : Int32 → it_Me → Prop) (v3 : Int32) (u0 : Nat) (u1 : Int32) (hu0 : it_isH u0) (m : it_Me) (h : w_2_175 kc Φ v3 u0 u1 m) : it_V kc it_sh0 2 175 [none, none, none, some (.int v3)] [(.int u1), (.ref u0)] m (it_Pi Φ) := by
  rw [w_2_175] at h
  refine it_V.putP it_cd2 it_m2 rfl hu0 rfl rfl rfl (Or.inl rfl) ?_
  refine it_V.at (pc1 := 178) (ls1 := [none, none, none, some (.int v3)]) (st1 := []) (mem1 := (it_sv m u0 7 u1)) rfl rfl rfl rfl ?_
  refine it_V.sN it_cd2 it_m2 2 (pc1 := (if v3 = 0 then 186 else 182)) (ls1 := [none, none, none, some (.int v3)]) (st1 := []) (mem1 := (it_sv m u0 7 u1)) rfl ?_
  refine it_V.ite (fun c1 => ?_) (fun c1 => ?_)
  · have h := h.1 c1
    refine it_V.sN it_cd2 it_m2 1 (pc1 := 187) (ls1 := [none, none, none, some (.int v3)]) (st1 := [(.int (0 : Int32))]) (mem1 := (it_sv m u0 7 u1)) rfl ?_
    refine it_V.weak (l := [none, none, none, none]) trivial ?_
    exact s_2_187 kc Φ (0 : Int32) (it_sv m u0 7 u1) h
  · have h := h.2 c1
    refine it_V.sN it_cd2 it_m2 2 (pc1 := 187) (ls1 := [none, none, none, some (.int v3)]) (st1 := [(.int (1 : Int32))]) (mem1 := (it_sv m u0 7 u1)) rfl ?_
    refine it_V.weak (l := [none, none, none, none]) trivial ?_
    exact s_2_187 kc Φ (1 : Int32) (it_sv m u0 7 u1) h
set_option maxRecDepth 100000 in
set_option maxHeartbeats 4000000 in
theorem s_2_149 (kc : it_Kc) (Φ : Int32 → it_Me → Prop) (v0 : Nat) (v3 : Int32) (u0 : Nat) (u1 : Int32) (hv0 : it_isH v0) (hu0 : it_isH u0) (m : it_Me) (h : w_2_149 kc Φ v0 v3 u0 u1 m) : it_V kc it_sh0 2 149 [some (.ref v0), none, none, some (.int v3)] [(.int u1), (.ref u0)] m (it_Pi Φ) := by
  rw [w_2_149] at h
  refine it_V.putP it_cd2 it_m2 rfl hu0 rfl rfl rfl (Or.inl rfl) ?_
  refine it_V.at (pc1 := 152) (ls1 := [some (.ref v0), none, none, some (.int v3)]) (st1 := []) (mem1 := (it_sv m u0 6 u1)) rfl rfl rfl rfl ?_
  refine it_V.sN it_cd2 it_m2 2 (pc1 := 154) (ls1 := [some (.ref v0), none, none, some (.int v3)]) (st1 := [(.ref v0), (.ref v0)]) (mem1 := (it_sv m u0 6 u1)) rfl ?_
  refine it_V.getP it_cd2 it_m2 rfl hv0 rfl ?_
  refine it_V.at (pc1 := 157) (ls1 := [some (.ref v0), none, none, some (.int v3)]) (st1 := [(.int ((it_sv m u0 6 u1) v0 9)), (.ref v0)]) (mem1 := (it_sv m u0 6 u1)) rfl rfl rfl rfl ?_
  refine it_V.sN it_cd2 it_m2 1 (pc1 := (if ((it_sv m u0 6 u1) v0 9) = 0 then 174 else 160)) (ls1 := [some (.ref v0), none, none, some (.int v3)]) (st1 := [(.ref v0)]) (mem1 := (it_sv m u0 6 u1)) rfl ?_
  refine it_V.ite (fun c1 => ?_) (fun c1 => ?_)
  · have h := h.1 c1
    refine it_V.sN it_cd2 it_m2 1 (pc1 := 175) (ls1 := [some (.ref v0), none, none, some (.int v3)]) (st1 := [(.int (0 : Int32)), (.ref v0)]) (mem1 := (it_sv m u0 6 u1)) rfl ?_
    refine it_V.weak (l := [none, none, none, some (.int v3)]) ⟨rfl, trivial⟩ ?_
    exact s_2_175 kc Φ v3 v0 (0 : Int32) (hv0) (it_sv m u0 6 u1) h
  · have h := h.2 c1
    refine it_V.sN it_cd2 it_m2 1 (pc1 := 161) (ls1 := [some (.ref v0), none, none, some (.int v3)]) (st1 := [(.ref v0), (.ref v0)]) (mem1 := (it_sv m u0 6 u1)) rfl ?_
    refine it_V.getP it_cd2 it_m2 rfl hv0 rfl ?_
    refine it_V.at (pc1 := 164) (ls1 := [some (.ref v0), none, none, some (.int v3)]) (st1 := [(.ref 1), (.ref v0)]) (mem1 := (it_sv m u0 6 u1)) rfl rfl rfl rfl ?_
    refine it_V.sN it_cd2 it_m2 3 (pc1 := 168) (ls1 := [some (.ref v0), none, none, some (.int v3)]) (st1 := [(.int (v3 + (16 : Int32))), (.ref 1), (.ref v0)]) (mem1 := (it_sv m u0 6 u1)) rfl ?_
    refine it_V.call it_cd2 it_m2 rfl it_m12 [(.ref 1), (.int (v3 + (16 : Int32)))] [(.ref v0)] rfl rfl ⟨Nat.le_of_ble_eq_true rfl, Nat.le_of_ble_eq_true rfl, Nat.le_of_ble_eq_true rfl, Nat.le_of_ble_eq_true rfl, rfl⟩ (s_12 kc (v3 + (16 : Int32)) (it_sv m u0 6 u1) _ h) ?_
    rintro _ m3 ⟨r2, rfl, h⟩
    refine it_V.at (pc1 := 171) (ls1 := [some (.ref v0), none, none, some (.int v3)]) (st1 := [(.int r2), (.ref v0)]) (mem1 := m3) rfl rfl rfl rfl ?_
    refine it_V.sN it_cd2 it_m2 1 (pc1 := 175) (ls1 := [some (.ref v0), none, none, some (.int v3)]) (st1 := [(.int r2), (.ref v0)]) (mem1 := m3) rfl ?_
    refine it_V.weak (l := [none, none, none, some (.int v3)]) ⟨rfl, trivial⟩ ?_
    exact s_2_175 kc Φ v3 v0 r2 (hv0) m3 h
set_option maxRecDepth 100000 in
set_option maxHeartbeats 4000000 in
theorem s_2_95 (kc : it_Kc) (Φ : Int32 → it_Me → Prop) (v0 : Nat) (u0 : Int32) (hv0 : it_isH v0) (m : it_Me) (h : w_2_95 kc Φ v0 u0 m) : it_V kc it_sh0 2 95 [some (.ref v0), none, none, none] [(.int u0)] m (it_Pi Φ) := by
  rw [w_2_95] at h
  refine it_V.sN it_cd2 it_m2 3 (pc1 := 98) (ls1 := [some (.ref v0), none, none, some (.int u0)]) (st1 := [(.ref v0), (.ref v0)]) (mem1 := m) rfl ?_
  refine it_V.getP it_cd2 it_m2 rfl hv0 rfl ?_
  refine it_V.at (pc1 := 101) (ls1 := [some (.ref v0), none, none, some (.int u0)]) (st1 := [(.ref 1), (.ref v0)]) (mem1 := m) rfl rfl rfl rfl ?_
  refine it_V.sN it_cd2 it_m2 1 (pc1 := 102) (ls1 := [some (.ref v0), none, none, some (.int u0)]) (st1 := [(.int u0), (.ref 1), (.ref v0)]) (mem1 := m) rfl ?_
  refine it_V.call it_cd2 it_m2 rfl it_m12 [(.ref 1), (.int u0)] [(.ref v0)] rfl rfl ⟨Nat.le_of_ble_eq_true rfl, Nat.le_of_ble_eq_true rfl, Nat.le_of_ble_eq_true rfl, Nat.le_of_ble_eq_true rfl, rfl⟩ (s_12 kc u0 m _ h) ?_
  rintro _ m2 ⟨r1, rfl, h⟩
  refine it_V.at (pc1 := 105) (ls1 := [some (.ref v0), none, none, some (.int u0)]) (st1 := [(.int r1), (.ref v0)]) (mem1 := m2) rfl rfl rfl rfl ?_
  refine it_V.putP it_cd2 it_m2 rfl hv0 rfl rfl rfl (Or.inl rfl) ?_
  refine it_V.at (pc1 := 108) (ls1 := [some (.ref v0), none, none, some (.int u0)]) (st1 := []) (mem1 := (it_sv m2 v0 4 r1)) rfl rfl rfl rfl ?_
  refine it_V.sN it_cd2 it_m2 2 (pc1 := 110) (ls1 := [some (.ref v0), none, none, some (.int u0)]) (st1 := [(.ref v0), (.ref v0)]) (mem1 := (it_sv m2 v0 4 r1)) rfl ?_
  refine it_V.getP it_cd2 it_m2 rfl hv0 rfl ?_
  refine it_V.at (pc1 := 113) (ls1 := [some (.ref v0), none, none, some (.int u0)]) (st1 := [(.ref 1), (.ref v0)]) (mem1 := (it_sv m2 v0 4 r1)) rfl rfl rfl rfl ?_
  refine it_V.sN it_cd2 it_m2 3 (pc1 := 117) (ls1 := [some (.ref v0), none, none, some (.int u0)]) (st1 := [(.int (u0 + (8 : Int32))), (.ref 1), (.ref v0)]) (mem1 := (it_sv m2 v0 4 r1)) rfl ?_
  refine it_V.call it_cd2 it_m2 rfl it_m12 [(.ref 1), (.int (u0 + (8 : Int32)))] [(.ref v0)] rfl rfl ⟨Nat.le_of_ble_eq_true rfl, Nat.le_of_ble_eq_true rfl, Nat.le_of_ble_eq_true rfl, Nat.le_of_ble_eq_true rfl, rfl⟩ (s_12 kc (u0 + (8 : Int32)) (it_sv m2 v0 4 r1) _ h) ?_
  rintro _ m4 ⟨r3, rfl, h⟩
  refine it_V.at (pc1 := 120) (ls1 := [some (.ref v0), none, none, some (.int u0)]) (st1 := [(.int r3), (.ref v0)]) (mem1 := m4) rfl rfl rfl rfl ?_
  refine it_V.putP it_cd2 it_m2 rfl hv0 rfl rfl rfl (Or.inl rfl) ?_
  refine it_V.at (pc1 := 123) (ls1 := [some (.ref v0), none, none, some (.int u0)]) (st1 := []) (mem1 := (it_sv m4 v0 5 r3)) rfl rfl rfl rfl ?_
  refine it_V.sN it_cd2 it_m2 2 (pc1 := 125) (ls1 := [some (.ref v0), none, none, some (.int u0)]) (st1 := [(.ref v0), (.ref v0)]) (mem1 := (it_sv m4 v0 5 r3)) rfl ?_
  refine it_V.getP it_cd2 it_m2 rfl hv0 rfl ?_
  refine it_V.at (pc1 := 128) (ls1 := [some (.ref v0), none, none, some (.int u0)]) (st1 := [(.int ((it_sv m4 v0 5 r3) v0 9)), (.ref v0)]) (mem1 := (it_sv m4 v0 5 r3)) rfl rfl rfl rfl ?_
  refine it_V.sN it_cd2 it_m2 1 (pc1 := (if ((it_sv m4 v0 5 r3) v0 9) = 0 then 145 else 131)) (ls1 := [some (.ref v0), none, none, some (.int u0)]) (st1 := [(.ref v0)]) (mem1 := (it_sv m4 v0 5 r3)) rfl ?_
  refine it_V.ite (fun c5 => ?_) (fun c5 => ?_)
  · have h := h.1 c5
    refine it_V.sN it_cd2 it_m2 1 (pc1 := 146) (ls1 := [some (.ref v0), none, none, some (.int u0)]) (st1 := [(.ref v0), (.ref v0)]) (mem1 := (it_sv m4 v0 5 r3)) rfl ?_
    refine it_V.getP it_cd2 it_m2 rfl hv0 rfl ?_
    refine it_V.at (pc1 := 149) (ls1 := [some (.ref v0), none, none, some (.int u0)]) (st1 := [(.int ((it_sv m4 v0 5 r3) v0 3)), (.ref v0)]) (mem1 := (it_sv m4 v0 5 r3)) rfl rfl rfl rfl ?_
    refine it_V.weak (l := [some (.ref v0), none, none, some (.int u0)]) ⟨rfl, ⟨rfl, trivial⟩⟩ ?_
    exact s_2_149 kc Φ v0 u0 v0 ((it_sv m4 v0 5 r3) v0 3) (hv0) (hv0) (it_sv m4 v0 5 r3) h
  · have h := h.2 c5
    refine it_V.sN it_cd2 it_m2 1 (pc1 := 132) (ls1 := [some (.ref v0), none, none, some (.int u0)]) (st1 := [(.ref v0), (.ref v0)]) (mem1 := (it_sv m4 v0 5 r3)) rfl ?_
    refine it_V.getP it_cd2 it_m2 rfl hv0 rfl ?_
    refine it_V.at (pc1 := 135) (ls1 := [some (.ref v0), none, none, some (.int u0)]) (st1 := [(.ref 1), (.ref v0)]) (mem1 := (it_sv m4 v0 5 r3)) rfl rfl rfl rfl ?_
    refine it_V.sN it_cd2 it_m2 3 (pc1 := 139) (ls1 := [some (.ref v0), none, none, some (.int u0)]) (st1 := [(.int (u0 + (12 : Int32))), (.ref 1), (.ref v0)]) (mem1 := (it_sv m4 v0 5 r3)) rfl ?_
    refine it_V.call it_cd2 it_m2 rfl it_m12 [(.ref 1), (.int (u0 + (12 : Int32)))] [(.ref v0)] rfl rfl ⟨Nat.le_of_ble_eq_true rfl, Nat.le_of_ble_eq_true rfl, Nat.le_of_ble_eq_true rfl, Nat.le_of_ble_eq_true rfl, rfl⟩ (s_12 kc (u0 + (12 : Int32)) (it_sv m4 v0 5 r3) _ h) ?_
    rintro _ m7 ⟨r6, rfl, h⟩
    refine it_V.at (pc1 := 142) (ls1 := [some (.ref v0), none, none, some (.int u0)]) (st1 := [(.int r6), (.ref v0)]) (mem1 := m7) rfl rfl rfl rfl ?_
    refine it_V.sN it_cd2 it_m2 1 (pc1 := 149) (ls1 := [some (.ref v0), none, none, some (.int u0)]) (st1 := [(.int r6), (.ref v0)]) (mem1 := m7) rfl ?_
    refine it_V.weak (l := [some (.ref v0), none, none, some (.int u0)]) ⟨rfl, ⟨rfl, trivial⟩⟩ ?_
    exact s_2_149 kc Φ v0 u0 v0 r6 (hv0) (hv0) m7 h
set_option maxRecDepth 100000 in
set_option maxHeartbeats 4000000 in
theorem s_2_59 (kc : it_Kc) (Φ : Int32 → it_Me → Prop) (v0 : Nat) (v1 : Int32) (u0 : Int32) (hv0 : it_isH v0) (m : it_Me) (h : w_2_59 kc Φ v0 v1 u0 m) : it_V kc it_sh0 2 59 [some (.ref v0), some (.int v1), none, none] [(.int u0)] m (it_Pi Φ) := by
  rw [w_2_59] at h
  refine it_V.sN it_cd2 it_m2 3 (pc1 := (if v1 = 0 then 64 else 75)) (ls1 := [some (.ref v0), some (.int v1), some (.int u0), none]) (st1 := []) (mem1 := m) rfl ?_
  refine it_V.ite (fun c1 => ?_) (fun c1 => ?_)
  · have h := h.1 c1
    refine it_V.sN it_cd2 it_m2 2 (pc1 := (if u0 = 0 then 75 else 68)) (ls1 := [some (.ref v0), some (.int v1), some (.int u0), none]) (st1 := []) (mem1 := m) rfl ?_
    refine it_V.ite (fun c2 => ?_) (fun c2 => ?_)
    · have h := h.1 c2
      refine it_V.weak (l := [none, none, none, none]) trivial ?_
      exact s_2_75 kc Φ m h
    · have h := h.2 c2
      refine it_V.sN it_cd2 it_m2 1 (pc1 := 69) (ls1 := [some (.ref v0), some (.int v1), some (.int u0), none]) (st1 := [(.ref v0)]) (mem1 := m) rfl ?_
      refine it_V.call it_cd2 it_m2 rfl it_m3 [(.ref v0)] [] rfl rfl ⟨Nat.le_of_ble_eq_true rfl, Nat.le_of_ble_eq_true rfl, Nat.le_of_ble_eq_true rfl, Nat.le_of_ble_eq_true rfl, (it_recvP (hv0))⟩ (s_3 kc v0 (hv0) m _ h) ?_
      rintro _ m4 ⟨r3, rfl, h⟩
      refine it_V.at (pc1 := 72) (ls1 := [some (.ref v0), some (.int v1), some (.int u0), none]) (st1 := [(.int r3)]) (mem1 := m4) rfl rfl rfl rfl ?_
      refine it_V.sN it_cd2 it_m2 1 (pc1 := (if r3 = 0 then 75 else 77)) (ls1 := [some (.ref v0), some (.int v1), some (.int u0), none]) (st1 := []) (mem1 := m4) rfl ?_
      refine it_V.ite (fun c5 => ?_) (fun c5 => ?_)
      · have h := h.1 c5
        refine it_V.weak (l := [none, none, none, none]) trivial ?_
        exact s_2_75 kc Φ m4 h
      · have h := h.2 c5
        refine it_V.sN it_cd2 it_m2 1 (pc1 := 78) (ls1 := [some (.ref v0), some (.int v1), some (.int u0), none]) (st1 := [(.ref v0)]) (mem1 := m4) rfl ?_
        refine it_V.getP it_cd2 it_m2 rfl hv0 rfl ?_
        refine it_V.at (pc1 := 81) (ls1 := [some (.ref v0), some (.int v1), some (.int u0), none]) (st1 := [(.int (m4 v0 9))]) (mem1 := m4) rfl rfl rfl rfl ?_
        refine it_V.sN it_cd2 it_m2 1 (pc1 := (if (m4 v0 9) = 0 then 91 else 84)) (ls1 := [some (.ref v0), some (.int v1), some (.int u0), none]) (st1 := []) (mem1 := m4) rfl ?_
        refine it_V.ite (fun c6 => ?_) (fun c6 => ?_)
        · have h := h.1 c6
          refine it_V.sN it_cd2 it_m2 1 (pc1 := 92) (ls1 := [some (.ref v0), some (.int v1), some (.int u0), none]) (st1 := [(.ref v0)]) (mem1 := m4) rfl ?_
          refine it_V.getP it_cd2 it_m2 rfl hv0 rfl ?_
          refine it_V.at (pc1 := 95) (ls1 := [some (.ref v0), some (.int v1), some (.int u0), none]) (st1 := [(.int (m4 v0 8))]) (mem1 := m4) rfl rfl rfl rfl ?_
          refine it_V.weak (l := [some (.ref v0), none, none, none]) ⟨rfl, trivial⟩ ?_
          exact s_2_95 kc Φ v0 (m4 v0 8) (hv0) m4 h
        · have h := h.2 c6
          refine it_V.sN it_cd2 it_m2 1 (pc1 := 85) (ls1 := [some (.ref v0), some (.int v1), some (.int u0), none]) (st1 := [(.ref v0)]) (mem1 := m4) rfl ?_
          refine it_V.getP it_cd2 it_m2 rfl hv0 rfl ?_
          refine it_V.at (pc1 := 88) (ls1 := [some (.ref v0), some (.int v1), some (.int u0), none]) (st1 := [(.int (m4 v0 9))]) (mem1 := m4) rfl rfl rfl rfl ?_
          refine it_V.sN it_cd2 it_m2 1 (pc1 := 95) (ls1 := [some (.ref v0), some (.int v1), some (.int u0), none]) (st1 := [(.int (m4 v0 9))]) (mem1 := m4) rfl ?_
          refine it_V.weak (l := [some (.ref v0), none, none, none]) ⟨rfl, trivial⟩ ?_
          exact s_2_95 kc Φ v0 (m4 v0 9) (hv0) m4 h
  · have h := h.2 c1
    refine it_V.weak (l := [none, none, none, none]) trivial ?_
    exact s_2_75 kc Φ m h
set_option maxRecDepth 100000 in
set_option maxHeartbeats 4000000 in
theorem s_2_34 (kc : it_Kc) (Φ : Int32 → it_Me → Prop) (v0 : Nat) (v1 : Int32) (hv0 : it_isH v0) (m : it_Me) (h : w_2_34 kc Φ v0 v1 m) : it_V kc it_sh0 2 34 [some (.ref v0), some (.int v1), none, none] [] m (it_Pi Φ) := by
  rw [w_2_34] at h
  refine it_V.sN it_cd2 it_m2 1 (pc1 := 35) (ls1 := [some (.ref v0), some (.int v1), none, none]) (st1 := [(.ref v0)]) (mem1 := m) rfl ?_
  refine it_V.getP it_cd2 it_m2 rfl hv0 rfl ?_
  refine it_V.at (pc1 := 38) (ls1 := [some (.ref v0), some (.int v1), none, none]) (st1 := [(.ref 1)]) (mem1 := m) rfl rfl rfl rfl ?_
  refine it_V.sN it_cd2 it_m2 1 (pc1 := 39) (ls1 := [some (.ref v0), some (.int v1), none, none]) (st1 := [(.ref v0), (.ref 1)]) (mem1 := m) rfl ?_
  refine it_V.getP it_cd2 it_m2 rfl hv0 rfl ?_
  refine it_V.at (pc1 := 42) (ls1 := [some (.ref v0), some (.int v1), none, none]) (st1 := [(.int (m v0 1)), (.ref 1)]) (mem1 := m) rfl rfl rfl rfl ?_
  refine it_V.sN it_cd2 it_m2 2 (pc1 := 45) (ls1 := [some (.ref v0), some (.int v1), none, none]) (st1 := [(.int ((m v0 1) + (8 : Int32))), (.ref 1)]) (mem1 := m) rfl ?_
  refine it_V.call it_cd2 it_m2 rfl it_m12 [(.ref 1), (.int ((m v0 1) + (8 : Int32)))] [] rfl rfl ⟨Nat.le_of_ble_eq_true rfl, Nat.le_of_ble_eq_true rfl, Nat.le_of_ble_eq_true rfl, Nat.le_of_ble_eq_true rfl, rfl⟩ (s_12 kc ((m v0 1) + (8 : Int32)) m _ h) ?_
  rintro _ m2 ⟨r1, rfl, h⟩
  refine it_V.at (pc1 := 48) (ls1 := [some (.ref v0), some (.int v1), none, none]) (st1 := [(.int r1)]) (mem1 := m2) rfl rfl rfl rfl ?_
  refine it_V.sN it_cd2 it_m2 4 (pc1 := (if (r1 &&& (1 : Int32)) = (1 : Int32) then 54 else 58)) (ls1 := [some (.ref v0), some (.int v1), none, none]) (st1 := []) (mem1 := m2) rfl ?_
  refine it_V.ite (fun c3 => ?_) (fun c3 => ?_)
  · have h := h.1 c3
    refine it_V.sN it_cd2 it_m2 2 (pc1 := 59) (ls1 := [some (.ref v0), some (.int v1), none, none]) (st1 := [(.int (1 : Int32))]) (mem1 := m2) rfl ?_
    refine it_V.weak (l := [some (.ref v0), some (.int v1), none, none]) ⟨rfl, ⟨rfl, trivial⟩⟩ ?_
    exact s_2_59 kc Φ v0 v1 (1 : Int32) (hv0) m2 h
  · have h := h.2 c3
    refine it_V.sN it_cd2 it_m2 1 (pc1 := 59) (ls1 := [some (.ref v0), some (.int v1), none, none]) (st1 := [(.int (0 : Int32))]) (mem1 := m2) rfl ?_
    refine it_V.weak (l := [some (.ref v0), some (.int v1), none, none]) ⟨rfl, ⟨rfl, trivial⟩⟩ ?_
    exact s_2_59 kc Φ v0 v1 (0 : Int32) (hv0) m2 h
set_option maxRecDepth 100000 in
set_option maxHeartbeats 4000000 in
theorem s_2 (kc : it_Kc) (k : Nat) (hk : it_isH k) (m : it_Me) (Φ : Int32 → it_Me → Prop) (h : w_2 kc k m Φ) : it_V kc it_sh0 2 0 (it_loc0 [(.ref k)] 4) [] m (it_Pi Φ) := by
  rw [w_2] at h
  refine it_V.at (pc1 := 0) (ls1 := [some (.ref k), none, none, none]) (st1 := []) (mem1 := m) rfl rfl rfl rfl ?_
  refine it_V.sN it_cd2 it_m2 4 (pc1 := 4) (ls1 := [some (.ref k), some (.int (0 : Int32)), some (.int (0 : Int32)), none]) (st1 := []) (mem1 := m) rfl ?_
  obtain ⟨n, h⟩ := h
  exact s_2_4 kc Φ _ (fun v0 v1 hv0 m h => s_2_34 kc Φ v0 v1 hv0 m h) n k (0 : Int32) (0 : Int32) (hk) m h
set_option maxRecDepth 100000 in
set_option maxHeartbeats 4000000 in
theorem s_16_12 (kc : it_Kc) (Φ : Int32 → it_Me → Prop) (m : it_Me) (h : w_16_12 kc Φ m) : it_V kc it_sh0 16 12 [none, none] [] m (it_Pi Φ) := by
  rw [w_16_12] at h
  refine it_V.sN it_cd16 it_m16 1 (pc1 := 13) (ls1 := [none, none]) (st1 := [(.int (0 : Int32))]) (mem1 := m) rfl ?_
  exact it_V.ret it_cd16 it_m16 rfl rfl ⟨_, rfl, h⟩
set_option maxRecDepth 100000 in
set_option maxHeartbeats 4000000 in
theorem s_16 (kc : it_Kc) (x0 : Int32) (m : it_Me) (Φ : Int32 → it_Me → Prop) (h : w_16 kc x0 m Φ) : it_V kc it_sh0 16 0 (it_loc0 [(.ref 1), (.int x0)] 2) [] m (it_Pi Φ) := by
  rw [w_16] at h
  refine it_V.at (pc1 := 0) (ls1 := [some (.ref 1), some (.int x0)]) (st1 := []) (mem1 := m) rfl rfl rfl rfl ?_
  refine it_V.sN it_cd16 it_m16 3 (pc1 := (if x0 < (65536 : Int32) then 12 else 6)) (ls1 := [some (.ref 1), some (.int x0)]) (st1 := []) (mem1 := m) rfl ?_
  refine it_V.ite (fun c1 => ?_) (fun c1 => ?_)
  · have h := h.1 c1
    refine it_V.weak (l := [none, none]) trivial ?_
    exact s_16_12 kc Φ m h
  · have h := h.2 c1
    refine it_V.sN it_cd16 it_m16 3 (pc1 := (if x0 < (196608 : Int32) then 14 else 12)) (ls1 := [some (.ref 1), some (.int x0)]) (st1 := []) (mem1 := m) rfl ?_
    refine it_V.ite (fun c2 => ?_) (fun c2 => ?_)
    · have h := h.1 c2
      refine it_V.sN it_cd16 it_m16 7 (pc1 := 24) (ls1 := [some (.ref 1), some (.int x0)]) (st1 := [(.int (it_shr (x0 - (65536 : Int32)) (2 : Int32))), (.ref 2)]) (mem1 := m) rfl ?_
      obtain ⟨g3, h⟩ := h
      refine it_V.iald it_cd16 it_m16 rfl ((⟨rfl, by decide⟩ : it_isR 2 32768)).2 ((⟨rfl, by decide⟩ : it_isR 2 32768)).1 g3 ?_
      refine it_V.at (pc1 := 25) (ls1 := [some (.ref 1), some (.int x0)]) (st1 := [(.int (m 2 (Int32.toNatClampNeg (it_shr (x0 - (65536 : Int32)) (2 : Int32)))))]) (mem1 := m) rfl rfl rfl rfl ?_
      refine it_V.sN it_cd16 it_m16 8 (pc1 := 35) (ls1 := [some (.ref 1), some (.int x0)]) (st1 := [(.int ((it_us (m 2 (Int32.toNatClampNeg (it_shr (x0 - (65536 : Int32)) (2 : Int32)))) (it_shl (x0 &&& (3 : Int32)) (3 : Int32))) &&& (255 : Int32)))]) (mem1 := m) rfl ?_
      exact it_V.ret it_cd16 it_m16 rfl rfl ⟨_, rfl, h⟩
    · have h := h.2 c2
      refine it_V.weak (l := [none, none]) trivial ?_
      exact s_16_12 kc Φ m h
set_option maxRecDepth 100000 in
set_option maxHeartbeats 4000000 in
theorem s_21_5 (kc : it_Kc) (Φ : Int32 → it_Me → Prop) (K42 : Int32 → it_Me → Prop) (hK42 : ∀ (v3 : Int32) (m : it_Me), K42 v3 m → it_V kc it_sh0 21 42 [none, none, none, some (.int v3), none] [] m (it_Pi Φ)) : ∀ (n : Nat) (v1 : Int32) (v2 : Int32) (v3 : Int32) (v4 : Int32) (m : it_Me) (h : w_21_5 kc Φ K42 n v1 v2 v3 v4 m), it_V kc it_sh0 21 5 [some (.ref 1), some (.int v1), some (.int v2), some (.int v3), some (.int v4)] [] m (it_Pi Φ) := by
  intro n
  induction n with
  | zero => intro v1 v2 v3 v4 m h; exact absurd h id
  | succ n ih =>
    intro v1 v2 v3 v4 m h
    rw [w_21_5] at h
    refine it_V.sN it_cd21 it_m21 3 (pc1 := (if v2 ≤ v4 then 42 else 11)) (ls1 := [some (.ref 1), some (.int v1), some (.int v2), some (.int v3), some (.int v4)]) (st1 := []) (mem1 := m) rfl ?_
    refine it_V.ite (fun c1 => ?_) (fun c1 => ?_)
    · have h := h.1 c1
      refine it_V.weak (l := [none, none, none, some (.int v3), none]) ⟨rfl, trivial⟩ ?_
      exact hK42 v3 m h
    · have h := h.2 c1
      refine it_V.sN it_cd21 it_m21 10 (pc1 := 25) (ls1 := [some (.ref 1), some (.int v1), some (.int v2), some (.int v3), some (.int v4)]) (st1 := [(.int (v1 + v4)), (.ref 1), (.int v3), (.ref 3), (.int (it_us v3 (8 : Int32)))]) (mem1 := m) rfl ?_
      refine it_V.call it_cd21 it_m21 rfl it_m16 [(.ref 1), (.int (v1 + v4))] [(.int v3), (.ref 3), (.int (it_us v3 (8 : Int32)))] rfl rfl ⟨Nat.le_of_ble_eq_true rfl, Nat.le_of_ble_eq_true rfl, Nat.le_of_ble_eq_true rfl, Nat.le_of_ble_eq_true rfl, rfl⟩ (s_16 kc (v1 + v4) m _ h) ?_
      rintro _ m3 ⟨r2, rfl, h⟩
      refine it_V.at (pc1 := 28) (ls1 := [some (.ref 1), some (.int v1), some (.int v2), some (.int v3), some (.int v4)]) (st1 := [(.int r2), (.int v3), (.ref 3), (.int (it_us v3 (8 : Int32)))]) (mem1 := m3) rfl rfl rfl rfl ?_
      refine it_V.sN it_cd21 it_m21 3 (pc1 := 33) (ls1 := [some (.ref 1), some (.int v1), some (.int v2), some (.int v3), some (.int v4)]) (st1 := [(.int ((v3 ^^^ r2) &&& (255 : Int32))), (.ref 3), (.int (it_us v3 (8 : Int32)))]) (mem1 := m3) rfl ?_
      obtain ⟨g4, h⟩ := h
      refine it_V.iald it_cd21 it_m21 rfl ((⟨rfl, by decide⟩ : it_isR 3 256)).2 ((⟨rfl, by decide⟩ : it_isR 3 256)).1 g4 ?_
      refine it_V.at (pc1 := 34) (ls1 := [some (.ref 1), some (.int v1), some (.int v2), some (.int v3), some (.int v4)]) (st1 := [(.int (m3 3 (Int32.toNatClampNeg ((v3 ^^^ r2) &&& (255 : Int32))))), (.int (it_us v3 (8 : Int32)))]) (mem1 := m3) rfl rfl rfl rfl ?_
      refine it_V.sN it_cd21 it_m21 4 (pc1 := 5) (ls1 := [some (.ref 1), some (.int v1), some (.int v2), some (.int ((it_us v3 (8 : Int32)) ^^^ (m3 3 (Int32.toNatClampNeg ((v3 ^^^ r2) &&& (255 : Int32)))))), some (.int (v4 + (1 : Int32)))]) (st1 := []) (mem1 := m3) rfl ?_
      exact ih v1 v2 ((it_us v3 (8 : Int32)) ^^^ (m3 3 (Int32.toNatClampNeg ((v3 ^^^ r2) &&& (255 : Int32))))) (v4 + (1 : Int32)) m3 h
set_option maxRecDepth 100000 in
set_option maxHeartbeats 4000000 in
theorem s_21_42 (kc : it_Kc) (Φ : Int32 → it_Me → Prop) (v3 : Int32) (m : it_Me) (h : w_21_42 kc Φ v3 m) : it_V kc it_sh0 21 42 [none, none, none, some (.int v3), none] [] m (it_Pi Φ) := by
  rw [w_21_42] at h
  refine it_V.sN it_cd21 it_m21 3 (pc1 := 45) (ls1 := [none, none, none, some (.int v3), none]) (st1 := [(.int (v3 ^^^ (-1 : Int32)))]) (mem1 := m) rfl ?_
  exact it_V.ret it_cd21 it_m21 rfl rfl ⟨_, rfl, h⟩
set_option maxRecDepth 100000 in
set_option maxHeartbeats 4000000 in
theorem s_21 (kc : it_Kc) (x0 : Int32) (x1 : Int32) (m : it_Me) (Φ : Int32 → it_Me → Prop) (h : w_21 kc x0 x1 m Φ) : it_V kc it_sh0 21 0 (it_loc0 [(.ref 1), (.int x0), (.int x1)] 5) [] m (it_Pi Φ) := by
  rw [w_21] at h
  refine it_V.at (pc1 := 0) (ls1 := [some (.ref 1), some (.int x0), some (.int x1), none, none]) (st1 := []) (mem1 := m) rfl rfl rfl rfl ?_
  refine it_V.sN it_cd21 it_m21 4 (pc1 := 5) (ls1 := [some (.ref 1), some (.int x0), some (.int x1), some (.int (-1 : Int32)), some (.int (0 : Int32))]) (st1 := []) (mem1 := m) rfl ?_
  obtain ⟨n, h⟩ := h
  exact s_21_5 kc Φ _ (fun v3 m h => s_21_42 kc Φ v3 m h) n x0 x1 (-1 : Int32) (0 : Int32) m h
set_option maxRecDepth 100000 in
set_option maxHeartbeats 4000000 in
theorem s_5_34 (kc : it_Kc) (Φ : Int32 → it_Me → Prop) (m : it_Me) (h : w_5_34 kc Φ m) : it_V kc it_sh0 5 34 [none, none, none] [] m (it_Pi Φ) := by
  rw [w_5_34] at h
  refine it_V.sN it_cd5 it_m5 1 (pc1 := 35) (ls1 := [none, none, none]) (st1 := [(.int (0 : Int32))]) (mem1 := m) rfl ?_
  exact it_V.ret it_cd5 it_m5 rfl rfl ⟨_, rfl, h⟩
set_option maxRecDepth 100000 in
set_option maxHeartbeats 4000000 in
theorem s_5_133 (kc : it_Kc) (Φ : Int32 → it_Me → Prop) (u0 : Int32) (m : it_Me) (h : w_5_133 kc Φ u0 m) : it_V kc it_sh0 5 133 [none, none, none] [(.int u0)] m (it_Pi Φ) := by
  rw [w_5_133] at h
  exact it_V.retZ it_cd5 it_m5 rfl rfl h.1 ⟨_, rfl, h.2⟩
set_option maxRecDepth 100000 in
set_option maxHeartbeats 4000000 in
theorem s_5_132 (kc : it_Kc) (Φ : Int32 → it_Me → Prop) (m : it_Me) (h : w_5_132 kc Φ m) : it_V kc it_sh0 5 132 [none, none, none] [] m (it_Pi Φ) := by
  rw [w_5_132] at h
  refine it_V.sN it_cd5 it_m5 1 (pc1 := 133) (ls1 := [none, none, none]) (st1 := [(.int (0 : Int32))]) (mem1 := m) rfl ?_
  refine it_V.weak (l := [none, none, none]) trivial ?_
  exact s_5_133 kc Φ (0 : Int32) m h
set_option maxRecDepth 100000 in
set_option maxHeartbeats 4000000 in
theorem s_5_94 (kc : it_Kc) (Φ : Int32 → it_Me → Prop) (v0 : Nat) (v1 : Int32) (u0 : Int32) (hv0 : it_isH v0) (m : it_Me) (h : w_5_94 kc Φ v0 v1 u0 m) : it_V kc it_sh0 5 94 [some (.ref v0), some (.int v1), none] [(.int u0)] m (it_Pi Φ) := by
  rw [w_5_94] at h
  refine it_V.sN it_cd5 it_m5 3 (pc1 := (if u0 = 0 then 132 else 99)) (ls1 := [some (.ref v0), some (.int v1), some (.int u0)]) (st1 := []) (mem1 := m) rfl ?_
  refine it_V.ite (fun c1 => ?_) (fun c1 => ?_)
  · have h := h.1 c1
    refine it_V.weak (l := [none, none, none]) trivial ?_
    exact s_5_132 kc Φ m h
  · have h := h.2 c1
    refine it_V.sN it_cd5 it_m5 1 (pc1 := 100) (ls1 := [some (.ref v0), some (.int v1), some (.int u0)]) (st1 := [(.ref v0)]) (mem1 := m) rfl ?_
    refine it_V.getP it_cd5 it_m5 rfl hv0 rfl ?_
    refine it_V.at (pc1 := 103) (ls1 := [some (.ref v0), some (.int v1), some (.int u0)]) (st1 := [(.ref 1)]) (mem1 := m) rfl rfl rfl rfl ?_
    refine it_V.sN it_cd5 it_m5 3 (pc1 := 107) (ls1 := [some (.ref v0), some (.int v1), some (.int u0)]) (st1 := [(.int (v1 + (8 : Int32))), (.ref 1)]) (mem1 := m) rfl ?_
    refine it_V.call it_cd5 it_m5 rfl it_m12 [(.ref 1), (.int (v1 + (8 : Int32)))] [] rfl rfl ⟨Nat.le_of_ble_eq_true rfl, Nat.le_of_ble_eq_true rfl, Nat.le_of_ble_eq_true rfl, Nat.le_of_ble_eq_true rfl, rfl⟩ (s_12 kc (v1 + (8 : Int32)) m _ h) ?_
    rintro _ m3 ⟨r2, rfl, h⟩
    refine it_V.at (pc1 := 110) (ls1 := [some (.ref v0), some (.int v1), some (.int u0)]) (st1 := [(.int r2)]) (mem1 := m3) rfl rfl rfl rfl ?_
    refine it_V.sN it_cd5 it_m5 1 (pc1 := 111) (ls1 := [some (.ref v0), some (.int v1), some (.int u0)]) (st1 := [(.ref v0), (.int r2)]) (mem1 := m3) rfl ?_
    refine it_V.getP it_cd5 it_m5 rfl hv0 rfl ?_
    refine it_V.at (pc1 := 114) (ls1 := [some (.ref v0), some (.int v1), some (.int u0)]) (st1 := [(.ref 1), (.int r2)]) (mem1 := m3) rfl rfl rfl rfl ?_
    refine it_V.sN it_cd5 it_m5 1 (pc1 := 115) (ls1 := [some (.ref v0), some (.int v1), some (.int u0)]) (st1 := [(.ref v0), (.ref 1), (.int r2)]) (mem1 := m3) rfl ?_
    refine it_V.getP it_cd5 it_m5 rfl hv0 rfl ?_
    refine it_V.at (pc1 := 118) (ls1 := [some (.ref v0), some (.int v1), some (.int u0)]) (st1 := [(.int (m3 v0 1)), (.ref 1), (.int r2)]) (mem1 := m3) rfl rfl rfl rfl ?_
    refine it_V.sN it_cd5 it_m5 1 (pc1 := 119) (ls1 := [some (.ref v0), some (.int v1), some (.int u0)]) (st1 := [(.ref v0), (.int (m3 v0 1)), (.ref 1), (.int r2)]) (mem1 := m3) rfl ?_
    refine it_V.getP it_cd5 it_m5 rfl hv0 rfl ?_
    refine it_V.at (pc1 := 122) (ls1 := [some (.ref v0), some (.int v1), some (.int u0)]) (st1 := [(.int (m3 v0 6)), (.int (m3 v0 1)), (.ref 1), (.int r2)]) (mem1 := m3) rfl rfl rfl rfl ?_
    refine it_V.call it_cd5 it_m5 rfl it_m21 [(.ref 1), (.int (m3 v0 1)), (.int (m3 v0 6))] [(.int r2)] rfl rfl ⟨Nat.le_of_ble_eq_true rfl, Nat.le_of_ble_eq_true rfl, Nat.le_of_ble_eq_true rfl, Nat.le_of_ble_eq_true rfl, rfl⟩ (s_21 kc (m3 v0 1) (m3 v0 6) m3 _ h) ?_
    rintro _ m5 ⟨r4, rfl, h⟩
    refine it_V.at (pc1 := 125) (ls1 := [some (.ref v0), some (.int v1), some (.int u0)]) (st1 := [(.int r4), (.int r2)]) (mem1 := m5) rfl rfl rfl rfl ?_
    refine it_V.sN it_cd5 it_m5 1 (pc1 := (if r2 = r4 then 128 else 132)) (ls1 := [some (.ref v0), some (.int v1), some (.int u0)]) (st1 := []) (mem1 := m5) rfl ?_
    refine it_V.ite (fun c6 => ?_) (fun c6 => ?_)
    · have h := h.1 c6
      refine it_V.sN it_cd5 it_m5 2 (pc1 := 133) (ls1 := [some (.ref v0), some (.int v1), some (.int u0)]) (st1 := [(.int (1 : Int32))]) (mem1 := m5) rfl ?_
      refine it_V.weak (l := [none, none, none]) trivial ?_
      exact s_5_133 kc Φ (1 : Int32) m5 h
    · have h := h.2 c6
      refine it_V.weak (l := [none, none, none]) trivial ?_
      exact s_5_132 kc Φ m5 h
set_option maxRecDepth 100000 in
set_option maxHeartbeats 4000000 in
theorem s_5_93 (kc : it_Kc) (Φ : Int32 → it_Me → Prop) (v0 : Nat) (v1 : Int32) (hv0 : it_isH v0) (m : it_Me) (h : w_5_93 kc Φ v0 v1 m) : it_V kc it_sh0 5 93 [some (.ref v0), some (.int v1), none] [] m (it_Pi Φ) := by
  rw [w_5_93] at h
  refine it_V.sN it_cd5 it_m5 1 (pc1 := 94) (ls1 := [some (.ref v0), some (.int v1), none]) (st1 := [(.int (0 : Int32))]) (mem1 := m) rfl ?_
  refine it_V.weak (l := [some (.ref v0), some (.int v1), none]) ⟨rfl, ⟨rfl, trivial⟩⟩ ?_
  exact s_5_94 kc Φ v0 v1 (0 : Int32) (hv0) m h
set_option maxRecDepth 100000 in
set_option maxHeartbeats 4000000 in
theorem s_5 (kc : it_Kc) (k : Nat) (hk : it_isH k) (m : it_Me) (Φ : Int32 → it_Me → Prop) (h : w_5 kc k m Φ) : it_V kc it_sh0 5 0 (it_loc0 [(.ref k)] 3) [] m (it_Pi Φ) := by
  rw [w_5] at h
  refine it_V.at (pc1 := 0) (ls1 := [some (.ref k), none, none]) (st1 := []) (mem1 := m) rfl rfl rfl rfl ?_
  refine it_V.sN it_cd5 it_m5 1 (pc1 := 1) (ls1 := [some (.ref k), none, none]) (st1 := [(.ref k)]) (mem1 := m) rfl ?_
  refine it_V.getP it_cd5 it_m5 rfl hk rfl ?_
  refine it_V.at (pc1 := 4) (ls1 := [some (.ref k), none, none]) (st1 := [(.int (m k 6))]) (mem1 := m) rfl rfl rfl rfl ?_
  refine it_V.sN it_cd5 it_m5 3 (pc1 := (if ((m k 6) &&& (3 : Int32)) = 0 then 9 else 34)) (ls1 := [some (.ref k), none, none]) (st1 := []) (mem1 := m) rfl ?_
  refine it_V.ite (fun c1 => ?_) (fun c1 => ?_)
  · have h := h.1 c1
    refine it_V.sN it_cd5 it_m5 1 (pc1 := 10) (ls1 := [some (.ref k), none, none]) (st1 := [(.ref k)]) (mem1 := m) rfl ?_
    refine it_V.getP it_cd5 it_m5 rfl hk rfl ?_
    refine it_V.at (pc1 := 13) (ls1 := [some (.ref k), none, none]) (st1 := [(.int (m k 6))]) (mem1 := m) rfl rfl rfl rfl ?_
    refine it_V.sN it_cd5 it_m5 1 (pc1 := 14) (ls1 := [some (.ref k), none, none]) (st1 := [(.ref k), (.int (m k 6))]) (mem1 := m) rfl ?_
    refine it_V.getP it_cd5 it_m5 rfl hk rfl ?_
    refine it_V.at (pc1 := 17) (ls1 := [some (.ref k), none, none]) (st1 := [(.int (m k 2)), (.int (m k 6))]) (mem1 := m) rfl rfl rfl rfl ?_
    refine it_V.sN it_cd5 it_m5 1 (pc1 := (if (m k 6) < (m k 2) then 34 else 20)) (ls1 := [some (.ref k), none, none]) (st1 := []) (mem1 := m) rfl ?_
    refine it_V.ite (fun c2 => ?_) (fun c2 => ?_)
    · have h := h.1 c2
      refine it_V.weak (l := [none, none, none]) trivial ?_
      exact s_5_34 kc Φ m h
    · have h := h.2 c2
      refine it_V.sN it_cd5 it_m5 1 (pc1 := 21) (ls1 := [some (.ref k), none, none]) (st1 := [(.ref k)]) (mem1 := m) rfl ?_
      refine it_V.getP it_cd5 it_m5 rfl hk rfl ?_
      refine it_V.at (pc1 := 24) (ls1 := [some (.ref k), none, none]) (st1 := [(.int (m k 6))]) (mem1 := m) rfl rfl rfl rfl ?_
      refine it_V.sN it_cd5 it_m5 1 (pc1 := 25) (ls1 := [some (.ref k), none, none]) (st1 := [(.ref k), (.int (m k 6))]) (mem1 := m) rfl ?_
      refine it_V.getP it_cd5 it_m5 rfl hk rfl ?_
      refine it_V.at (pc1 := 28) (ls1 := [some (.ref k), none, none]) (st1 := [(.int (m k 3)), (.int (m k 6))]) (mem1 := m) rfl rfl rfl rfl ?_
      refine it_V.sN it_cd5 it_m5 3 (pc1 := (if (m k 6) ≤ ((m k 3) - (12 : Int32)) then 36 else 34)) (ls1 := [some (.ref k), none, none]) (st1 := []) (mem1 := m) rfl ?_
      refine it_V.ite (fun c3 => ?_) (fun c3 => ?_)
      · have h := h.1 c3
        refine it_V.sN it_cd5 it_m5 1 (pc1 := 37) (ls1 := [some (.ref k), none, none]) (st1 := [(.ref k)]) (mem1 := m) rfl ?_
        refine it_V.getP it_cd5 it_m5 rfl hk rfl ?_
        refine it_V.at (pc1 := 40) (ls1 := [some (.ref k), none, none]) (st1 := [(.int (m k 1))]) (mem1 := m) rfl rfl rfl rfl ?_
        refine it_V.sN it_cd5 it_m5 1 (pc1 := 41) (ls1 := [some (.ref k), none, none]) (st1 := [(.ref k), (.int (m k 1))]) (mem1 := m) rfl ?_
        refine it_V.getP it_cd5 it_m5 rfl hk rfl ?_
        refine it_V.at (pc1 := 44) (ls1 := [some (.ref k), none, none]) (st1 := [(.int (m k 6)), (.int (m k 1))]) (mem1 := m) rfl rfl rfl rfl ?_
        refine it_V.sN it_cd5 it_m5 3 (pc1 := 47) (ls1 := [some (.ref k), some (.int ((m k 1) + (m k 6))), none]) (st1 := [(.ref k)]) (mem1 := m) rfl ?_
        refine it_V.getP it_cd5 it_m5 rfl hk rfl ?_
        refine it_V.at (pc1 := 50) (ls1 := [some (.ref k), some (.int ((m k 1) + (m k 6))), none]) (st1 := [(.ref 1)]) (mem1 := m) rfl rfl rfl rfl ?_
        refine it_V.sN it_cd5 it_m5 1 (pc1 := 51) (ls1 := [some (.ref k), some (.int ((m k 1) + (m k 6))), none]) (st1 := [(.int ((m k 1) + (m k 6))), (.ref 1)]) (mem1 := m) rfl ?_
        refine it_V.call it_cd5 it_m5 rfl it_m14 [(.ref 1), (.int ((m k 1) + (m k 6)))] [] rfl rfl ⟨Nat.le_of_ble_eq_true rfl, Nat.le_of_ble_eq_true rfl, Nat.le_of_ble_eq_true rfl, Nat.le_of_ble_eq_true rfl, rfl⟩ (s_14 kc ((m k 1) + (m k 6)) m _ h) ?_
        rintro _ m5 ⟨r4, rfl, h⟩
        refine it_V.at (pc1 := 54) (ls1 := [some (.ref k), some (.int ((m k 1) + (m k 6))), none]) (st1 := [(.int r4)]) (mem1 := m5) rfl rfl rfl rfl ?_
        refine it_V.sN it_cd5 it_m5 2 (pc1 := (if r4 = (128 : Int32) then 60 else 93)) (ls1 := [some (.ref k), some (.int ((m k 1) + (m k 6))), none]) (st1 := []) (mem1 := m5) rfl ?_
        refine it_V.ite (fun c6 => ?_) (fun c6 => ?_)
        · have h := h.1 c6
          refine it_V.sN it_cd5 it_m5 1 (pc1 := 61) (ls1 := [some (.ref k), some (.int ((m k 1) + (m k 6))), none]) (st1 := [(.ref k)]) (mem1 := m5) rfl ?_
          refine it_V.getP it_cd5 it_m5 rfl hk rfl ?_
          refine it_V.at (pc1 := 64) (ls1 := [some (.ref k), some (.int ((m k 1) + (m k 6))), none]) (st1 := [(.ref 1)]) (mem1 := m5) rfl rfl rfl rfl ?_
          refine it_V.sN it_cd5 it_m5 3 (pc1 := 67) (ls1 := [some (.ref k), some (.int ((m k 1) + (m k 6))), none]) (st1 := [(.int (((m k 1) + (m k 6)) + (2 : Int32))), (.ref 1)]) (mem1 := m5) rfl ?_
          refine it_V.call it_cd5 it_m5 rfl it_m14 [(.ref 1), (.int (((m k 1) + (m k 6)) + (2 : Int32)))] [] rfl rfl ⟨Nat.le_of_ble_eq_true rfl, Nat.le_of_ble_eq_true rfl, Nat.le_of_ble_eq_true rfl, Nat.le_of_ble_eq_true rfl, rfl⟩ (s_14 kc (((m k 1) + (m k 6)) + (2 : Int32)) m5 _ h) ?_
          rintro _ m8 ⟨r7, rfl, h⟩
          refine it_V.at (pc1 := 70) (ls1 := [some (.ref k), some (.int ((m k 1) + (m k 6))), none]) (st1 := [(.int r7)]) (mem1 := m8) rfl rfl rfl rfl ?_
          refine it_V.sN it_cd5 it_m5 2 (pc1 := (if r7 = (8 : Int32) then 75 else 93)) (ls1 := [some (.ref k), some (.int ((m k 1) + (m k 6))), none]) (st1 := []) (mem1 := m8) rfl ?_
          refine it_V.ite (fun c9 => ?_) (fun c9 => ?_)
          · have h := h.1 c9
            refine it_V.sN it_cd5 it_m5 1 (pc1 := 76) (ls1 := [some (.ref k), some (.int ((m k 1) + (m k 6))), none]) (st1 := [(.ref k)]) (mem1 := m8) rfl ?_
            refine it_V.getP it_cd5 it_m5 rfl hk rfl ?_
            refine it_V.at (pc1 := 79) (ls1 := [some (.ref k), some (.int ((m k 1) + (m k 6))), none]) (st1 := [(.ref 1)]) (mem1 := m8) rfl rfl rfl rfl ?_
            refine it_V.sN it_cd5 it_m5 3 (pc1 := 82) (ls1 := [some (.ref k), some (.int ((m k 1) + (m k 6))), none]) (st1 := [(.int (((m k 1) + (m k 6)) + (4 : Int32))), (.ref 1)]) (mem1 := m8) rfl ?_
            refine it_V.call it_cd5 it_m5 rfl it_m12 [(.ref 1), (.int (((m k 1) + (m k 6)) + (4 : Int32)))] [] rfl rfl ⟨Nat.le_of_ble_eq_true rfl, Nat.le_of_ble_eq_true rfl, Nat.le_of_ble_eq_true rfl, Nat.le_of_ble_eq_true rfl, rfl⟩ (s_12 kc (((m k 1) + (m k 6)) + (4 : Int32)) m8 _ h) ?_
            rintro _ m11 ⟨r10, rfl, h⟩
            refine it_V.at (pc1 := 85) (ls1 := [some (.ref k), some (.int ((m k 1) + (m k 6))), none]) (st1 := [(.int r10)]) (mem1 := m11) rfl rfl rfl rfl ?_
            refine it_V.sN it_cd5 it_m5 2 (pc1 := (if r10 = (1 : Int32) then 89 else 93)) (ls1 := [some (.ref k), some (.int ((m k 1) + (m k 6))), none]) (st1 := []) (mem1 := m11) rfl ?_
            refine it_V.ite (fun c12 => ?_) (fun c12 => ?_)
            · have h := h.1 c12
              refine it_V.sN it_cd5 it_m5 2 (pc1 := 94) (ls1 := [some (.ref k), some (.int ((m k 1) + (m k 6))), none]) (st1 := [(.int (1 : Int32))]) (mem1 := m11) rfl ?_
              exact s_5_94 kc Φ k ((m k 1) + (m k 6)) (1 : Int32) (hk) m11 h
            · have h := h.2 c12
              exact s_5_93 kc Φ k ((m k 1) + (m k 6)) (hk) m11 h
          · have h := h.2 c9
            exact s_5_93 kc Φ k ((m k 1) + (m k 6)) (hk) m8 h
        · have h := h.2 c6
          exact s_5_93 kc Φ k ((m k 1) + (m k 6)) (hk) m5 h
      · have h := h.2 c3
        refine it_V.weak (l := [none, none, none]) trivial ?_
        exact s_5_34 kc Φ m h
  · have h := h.2 c1
    refine it_V.weak (l := [none, none, none]) trivial ?_
    exact s_5_34 kc Φ m h
set_option maxRecDepth 100000 in
set_option maxHeartbeats 4000000 in
theorem s_6_33 (kc : it_Kc) (Φ : Int32 → it_Me → Prop) (u0 : Int32) (m : it_Me) (h : w_6_33 kc Φ u0 m) : it_V kc it_sh0 6 33 [none, none] [(.int u0)] m (it_Pi Φ) := by
  rw [w_6_33] at h
  exact it_V.retZ it_cd6 it_m6 rfl rfl h.1 ⟨_, rfl, h.2⟩
set_option maxRecDepth 100000 in
set_option maxHeartbeats 4000000 in
theorem s_6_28 (kc : it_Kc) (Φ : Int32 → it_Me → Prop) (m : it_Me) (h : w_6_28 kc Φ m) : it_V kc it_sh0 6 28 [none, none] [] m (it_Pi Φ) := by
  rw [w_6_28] at h
  refine it_V.sN it_cd6 it_m6 2 (pc1 := 33) (ls1 := [none, none]) (st1 := [(.int (1 : Int32))]) (mem1 := m) rfl ?_
  refine it_V.weak (l := [none, none]) trivial ?_
  exact s_6_33 kc Φ (1 : Int32) m h
set_option maxRecDepth 100000 in
set_option maxHeartbeats 4000000 in
theorem s_6_32 (kc : it_Kc) (Φ : Int32 → it_Me → Prop) (m : it_Me) (h : w_6_32 kc Φ m) : it_V kc it_sh0 6 32 [none, none] [] m (it_Pi Φ) := by
  rw [w_6_32] at h
  refine it_V.sN it_cd6 it_m6 1 (pc1 := 33) (ls1 := [none, none]) (st1 := [(.int (0 : Int32))]) (mem1 := m) rfl ?_
  refine it_V.weak (l := [none, none]) trivial ?_
  exact s_6_33 kc Φ (0 : Int32) m h
set_option maxRecDepth 100000 in
set_option maxHeartbeats 4000000 in
theorem s_6 (kc : it_Kc) (k : Nat) (x0 : Int32) (hk : it_isH k) (m : it_Me) (Φ : Int32 → it_Me → Prop) (h : w_6 kc k x0 m Φ) : it_V kc it_sh0 6 0 (it_loc0 [(.ref k), (.int x0)] 2) [] m (it_Pi Φ) := by
  rw [w_6] at h
  refine it_V.at (pc1 := 0) (ls1 := [some (.ref k), some (.int x0)]) (st1 := []) (mem1 := m) rfl rfl rfl rfl ?_
  refine it_V.sN it_cd6 it_m6 1 (pc1 := 1) (ls1 := [some (.ref k), some (.int x0)]) (st1 := [(.ref k)]) (mem1 := m) rfl ?_
  refine it_V.getP it_cd6 it_m6 rfl hk rfl ?_
  refine it_V.at (pc1 := 4) (ls1 := [some (.ref k), some (.int x0)]) (st1 := [(.int (m k 5))]) (mem1 := m) rfl rfl rfl rfl ?_
  refine it_V.sN it_cd6 it_m6 1 (pc1 := (if (m k 5) < 0 then 32 else 7)) (ls1 := [some (.ref k), some (.int x0)]) (st1 := []) (mem1 := m) rfl ?_
  refine it_V.ite (fun c1 => ?_) (fun c1 => ?_)
  · have h := h.1 c1
    refine it_V.weak (l := [none, none]) trivial ?_
    exact s_6_32 kc Φ m h
  · have h := h.2 c1
    refine it_V.sN it_cd6 it_m6 1 (pc1 := 8) (ls1 := [some (.ref k), some (.int x0)]) (st1 := [(.ref k)]) (mem1 := m) rfl ?_
    refine it_V.getP it_cd6 it_m6 rfl hk rfl ?_
    refine it_V.at (pc1 := 11) (ls1 := [some (.ref k), some (.int x0)]) (st1 := [(.int (m k 5))]) (mem1 := m) rfl rfl rfl rfl ?_
    refine it_V.sN it_cd6 it_m6 2 (pc1 := (if (15872 : Int32) < (m k 5) then 32 else 17)) (ls1 := [some (.ref k), some (.int x0)]) (st1 := []) (mem1 := m) rfl ?_
    refine it_V.ite (fun c2 => ?_) (fun c2 => ?_)
    · have h := h.1 c2
      refine it_V.weak (l := [none, none]) trivial ?_
      exact s_6_32 kc Φ m h
    · have h := h.2 c2
      refine it_V.sN it_cd6 it_m6 2 (pc1 := (if x0 = 0 then 28 else 21)) (ls1 := [some (.ref k), some (.int x0)]) (st1 := []) (mem1 := m) rfl ?_
      refine it_V.ite (fun c3 => ?_) (fun c3 => ?_)
      · have h := h.1 c3
        refine it_V.weak (l := [none, none]) trivial ?_
        exact s_6_28 kc Φ m h
      · have h := h.2 c3
        refine it_V.sN it_cd6 it_m6 1 (pc1 := 22) (ls1 := [some (.ref k), some (.int x0)]) (st1 := [(.ref k)]) (mem1 := m) rfl ?_
        refine it_V.call it_cd6 it_m6 rfl it_m5 [(.ref k)] [] rfl rfl ⟨Nat.le_of_ble_eq_true rfl, Nat.le_of_ble_eq_true rfl, Nat.le_of_ble_eq_true rfl, Nat.le_of_ble_eq_true rfl, (it_recvP (hk))⟩ (s_5 kc k (hk) m _ h) ?_
        rintro _ m5 ⟨r4, rfl, h⟩
        refine it_V.at (pc1 := 25) (ls1 := [some (.ref k), some (.int x0)]) (st1 := [(.int r4)]) (mem1 := m5) rfl rfl rfl rfl ?_
        refine it_V.sN it_cd6 it_m6 1 (pc1 := (if r4 = 0 then 32 else 28)) (ls1 := [some (.ref k), some (.int x0)]) (st1 := []) (mem1 := m5) rfl ?_
        refine it_V.ite (fun c6 => ?_) (fun c6 => ?_)
        · have h := h.1 c6
          refine it_V.weak (l := [none, none]) trivial ?_
          exact s_6_32 kc Φ m5 h
        · have h := h.2 c6
          refine it_V.weak (l := [none, none]) trivial ?_
          exact s_6_28 kc Φ m5 h
set_option maxRecDepth 100000 in
set_option maxHeartbeats 4000000 in
theorem s_20_3 (kc : it_Kc) (Φ : Int32 → it_Me → Prop) (K28 : it_Me → Prop) (K36 : it_Me → Prop) (hK28 : ∀ (m : it_Me), K28 m → it_V kc it_sh0 20 28 [none, none, none, none, none] [] m (it_Pi Φ)) (hK36 : ∀ (m : it_Me), K36 m → it_V kc it_sh0 20 36 [none, none, none, none, none] [] m (it_Pi Φ)) : ∀ (n : Nat) (v1 : Int32) (v2 : Int32) (v3 : Int32) (v4 : Int32) (m : it_Me) (h : w_20_3 kc Φ K28 K36 n v1 v2 v3 v4 m), it_V kc it_sh0 20 3 [some (.ref 1), some (.int v1), some (.int v2), some (.int v3), some (.int v4)] [] m (it_Pi Φ) := by
  intro n
  induction n with
  | zero => intro v1 v2 v3 v4 m h; exact absurd h id
  | succ n ih =>
    intro v1 v2 v3 v4 m h
    rw [w_20_3] at h
    refine it_V.sN it_cd20 it_m20 3 (pc1 := (if v3 ≤ v4 then 36 else 9)) (ls1 := [some (.ref 1), some (.int v1), some (.int v2), some (.int v3), some (.int v4)]) (st1 := []) (mem1 := m) rfl ?_
    refine it_V.ite (fun c1 => ?_) (fun c1 => ?_)
    · have h := h.1 c1
      refine it_V.weak (l := [none, none, none, none, none]) trivial ?_
      exact hK36 m h
    · have h := h.2 c1
      refine it_V.sN it_cd20 it_m20 4 (pc1 := 14) (ls1 := [some (.ref 1), some (.int v1), some (.int v2), some (.int v3), some (.int v4)]) (st1 := [(.int (v1 + v4)), (.ref 1)]) (mem1 := m) rfl ?_
      refine it_V.call it_cd20 it_m20 rfl it_m16 [(.ref 1), (.int (v1 + v4))] [] rfl rfl ⟨Nat.le_of_ble_eq_true rfl, Nat.le_of_ble_eq_true rfl, Nat.le_of_ble_eq_true rfl, Nat.le_of_ble_eq_true rfl, rfl⟩ (s_16 kc (v1 + v4) m _ h) ?_
      rintro _ m3 ⟨r2, rfl, h⟩
      refine it_V.at (pc1 := 17) (ls1 := [some (.ref 1), some (.int v1), some (.int v2), some (.int v3), some (.int v4)]) (st1 := [(.int r2)]) (mem1 := m3) rfl rfl rfl rfl ?_
      refine it_V.sN it_cd20 it_m20 4 (pc1 := 22) (ls1 := [some (.ref 1), some (.int v1), some (.int v2), some (.int v3), some (.int v4)]) (st1 := [(.int (v2 + v4)), (.ref 1), (.int r2)]) (mem1 := m3) rfl ?_
      refine it_V.call it_cd20 it_m20 rfl it_m16 [(.ref 1), (.int (v2 + v4))] [(.int r2)] rfl rfl ⟨Nat.le_of_ble_eq_true rfl, Nat.le_of_ble_eq_true rfl, Nat.le_of_ble_eq_true rfl, Nat.le_of_ble_eq_true rfl, rfl⟩ (s_16 kc (v2 + v4) m3 _ h) ?_
      rintro _ m5 ⟨r4, rfl, h⟩
      refine it_V.at (pc1 := 25) (ls1 := [some (.ref 1), some (.int v1), some (.int v2), some (.int v3), some (.int v4)]) (st1 := [(.int r4), (.int r2)]) (mem1 := m5) rfl rfl rfl rfl ?_
      refine it_V.sN it_cd20 it_m20 1 (pc1 := (if r2 = r4 then 30 else 28)) (ls1 := [some (.ref 1), some (.int v1), some (.int v2), some (.int v3), some (.int v4)]) (st1 := []) (mem1 := m5) rfl ?_
      refine it_V.ite (fun c6 => ?_) (fun c6 => ?_)
      · have h := h.1 c6
        refine it_V.sN it_cd20 it_m20 2 (pc1 := 3) (ls1 := [some (.ref 1), some (.int v1), some (.int v2), some (.int v3), some (.int (v4 + (1 : Int32)))]) (st1 := []) (mem1 := m5) rfl ?_
        exact ih v1 v2 v3 (v4 + (1 : Int32)) m5 h
      · have h := h.2 c6
        refine it_V.weak (l := [none, none, none, none, none]) trivial ?_
        exact hK28 m5 h
set_option maxRecDepth 100000 in
set_option maxHeartbeats 4000000 in
theorem s_20_28 (kc : it_Kc) (Φ : Int32 → it_Me → Prop) (m : it_Me) (h : w_20_28 kc Φ m) : it_V kc it_sh0 20 28 [none, none, none, none, none] [] m (it_Pi Φ) := by
  rw [w_20_28] at h
  refine it_V.sN it_cd20 it_m20 1 (pc1 := 29) (ls1 := [none, none, none, none, none]) (st1 := [(.int (0 : Int32))]) (mem1 := m) rfl ?_
  exact it_V.ret it_cd20 it_m20 rfl rfl ⟨_, rfl, h⟩
set_option maxRecDepth 100000 in
set_option maxHeartbeats 4000000 in
theorem s_20_36 (kc : it_Kc) (Φ : Int32 → it_Me → Prop) (m : it_Me) (h : w_20_36 kc Φ m) : it_V kc it_sh0 20 36 [none, none, none, none, none] [] m (it_Pi Φ) := by
  rw [w_20_36] at h
  refine it_V.sN it_cd20 it_m20 1 (pc1 := 37) (ls1 := [none, none, none, none, none]) (st1 := [(.int (1 : Int32))]) (mem1 := m) rfl ?_
  exact it_V.ret it_cd20 it_m20 rfl rfl ⟨_, rfl, h⟩
set_option maxRecDepth 100000 in
set_option maxHeartbeats 4000000 in
theorem s_20 (kc : it_Kc) (x0 : Int32) (x1 : Int32) (x2 : Int32) (m : it_Me) (Φ : Int32 → it_Me → Prop) (h : w_20 kc x0 x1 x2 m Φ) : it_V kc it_sh0 20 0 (it_loc0 [(.ref 1), (.int x0), (.int x1), (.int x2)] 5) [] m (it_Pi Φ) := by
  rw [w_20] at h
  refine it_V.at (pc1 := 0) (ls1 := [some (.ref 1), some (.int x0), some (.int x1), some (.int x2), none]) (st1 := []) (mem1 := m) rfl rfl rfl rfl ?_
  refine it_V.sN it_cd20 it_m20 2 (pc1 := 3) (ls1 := [some (.ref 1), some (.int x0), some (.int x1), some (.int x2), some (.int (0 : Int32))]) (st1 := []) (mem1 := m) rfl ?_
  obtain ⟨n, h⟩ := h
  exact s_20_3 kc Φ _ _ (fun m h => s_20_28 kc Φ m h) (fun m h => s_20_36 kc Φ m h) n x0 x1 x2 (0 : Int32) m h
set_option maxRecDepth 100000 in
set_option maxHeartbeats 4000000 in
theorem s_7_36 (kc : it_Kc) (Φ : Int32 → it_Me → Prop) (u0 : Int32) (m : it_Me) (h : w_7_36 kc Φ u0 m) : it_V kc it_sh0 7 36 [none, none, none] [(.int u0)] m (it_Pi Φ) := by
  rw [w_7_36] at h
  exact it_V.retZ it_cd7 it_m7 rfl rfl h.1 ⟨_, rfl, h.2⟩
set_option maxRecDepth 100000 in
set_option maxHeartbeats 4000000 in
theorem s_7_35 (kc : it_Kc) (Φ : Int32 → it_Me → Prop) (m : it_Me) (h : w_7_35 kc Φ m) : it_V kc it_sh0 7 35 [none, none, none] [] m (it_Pi Φ) := by
  rw [w_7_35] at h
  refine it_V.sN it_cd7 it_m7 1 (pc1 := 36) (ls1 := [none, none, none]) (st1 := [(.int (0 : Int32))]) (mem1 := m) rfl ?_
  refine it_V.weak (l := [none, none, none]) trivial ?_
  exact s_7_36 kc Φ (0 : Int32) m h
set_option maxRecDepth 100000 in
set_option maxHeartbeats 4000000 in
theorem s_7 (kc : it_Kc) (k : Nat) (x0 : Int32) (x1 : Int32) (hk : it_isH k) (m : it_Me) (Φ : Int32 → it_Me → Prop) (h : w_7 kc k x0 x1 m Φ) : it_V kc it_sh0 7 0 (it_loc0 [(.ref k), (.int x0), (.int x1)] 3) [] m (it_Pi Φ) := by
  rw [w_7] at h
  refine it_V.at (pc1 := 0) (ls1 := [some (.ref k), some (.int x0), some (.int x1)]) (st1 := []) (mem1 := m) rfl rfl rfl rfl ?_
  refine it_V.sN it_cd7 it_m7 1 (pc1 := 1) (ls1 := [some (.ref k), some (.int x0), some (.int x1)]) (st1 := [(.ref k)]) (mem1 := m) rfl ?_
  refine it_V.getP it_cd7 it_m7 rfl hk rfl ?_
  refine it_V.at (pc1 := 4) (ls1 := [some (.ref k), some (.int x0), some (.int x1)]) (st1 := [(.int (m k 10))]) (mem1 := m) rfl rfl rfl rfl ?_
  refine it_V.sN it_cd7 it_m7 1 (pc1 := (if (m k 10) = 0 then 35 else 7)) (ls1 := [some (.ref k), some (.int x0), some (.int x1)]) (st1 := []) (mem1 := m) rfl ?_
  refine it_V.ite (fun c1 => ?_) (fun c1 => ?_)
  · have h := h.1 c1
    refine it_V.weak (l := [none, none, none]) trivial ?_
    exact s_7_35 kc Φ m h
  · have h := h.2 c1
    refine it_V.sN it_cd7 it_m7 1 (pc1 := 8) (ls1 := [some (.ref k), some (.int x0), some (.int x1)]) (st1 := [(.ref k)]) (mem1 := m) rfl ?_
    refine it_V.getP it_cd7 it_m7 rfl hk rfl ?_
    refine it_V.at (pc1 := 11) (ls1 := [some (.ref k), some (.int x0), some (.int x1)]) (st1 := [(.int (m k 11))]) (mem1 := m) rfl rfl rfl rfl ?_
    refine it_V.sN it_cd7 it_m7 2 (pc1 := (if (m k 11) = x1 then 15 else 35)) (ls1 := [some (.ref k), some (.int x0), some (.int x1)]) (st1 := []) (mem1 := m) rfl ?_
    refine it_V.ite (fun c2 => ?_) (fun c2 => ?_)
    · have h := h.1 c2
      refine it_V.sN it_cd7 it_m7 1 (pc1 := 16) (ls1 := [some (.ref k), some (.int x0), some (.int x1)]) (st1 := [(.ref k)]) (mem1 := m) rfl ?_
      refine it_V.getP it_cd7 it_m7 rfl hk rfl ?_
      refine it_V.at (pc1 := 19) (ls1 := [some (.ref k), some (.int x0), some (.int x1)]) (st1 := [(.ref 1)]) (mem1 := m) rfl rfl rfl rfl ?_
      refine it_V.sN it_cd7 it_m7 1 (pc1 := 20) (ls1 := [some (.ref k), some (.int x0), some (.int x1)]) (st1 := [(.ref k), (.ref 1)]) (mem1 := m) rfl ?_
      refine it_V.getP it_cd7 it_m7 rfl hk rfl ?_
      refine it_V.at (pc1 := 23) (ls1 := [some (.ref k), some (.int x0), some (.int x1)]) (st1 := [(.int (m k 10)), (.ref 1)]) (mem1 := m) rfl rfl rfl rfl ?_
      refine it_V.sN it_cd7 it_m7 2 (pc1 := 25) (ls1 := [some (.ref k), some (.int x0), some (.int x1)]) (st1 := [(.int x1), (.int x0), (.int (m k 10)), (.ref 1)]) (mem1 := m) rfl ?_
      refine it_V.call it_cd7 it_m7 rfl it_m20 [(.ref 1), (.int (m k 10)), (.int x0), (.int x1)] [] rfl rfl ⟨Nat.le_of_ble_eq_true rfl, Nat.le_of_ble_eq_true rfl, Nat.le_of_ble_eq_true rfl, Nat.le_of_ble_eq_true rfl, rfl⟩ (s_20 kc (m k 10) x0 x1 m _ h) ?_
      rintro _ m4 ⟨r3, rfl, h⟩
      refine it_V.at (pc1 := 28) (ls1 := [some (.ref k), some (.int x0), some (.int x1)]) (st1 := [(.int r3)]) (mem1 := m4) rfl rfl rfl rfl ?_
      refine it_V.sN it_cd7 it_m7 1 (pc1 := (if r3 = 0 then 35 else 31)) (ls1 := [some (.ref k), some (.int x0), some (.int x1)]) (st1 := []) (mem1 := m4) rfl ?_
      refine it_V.ite (fun c5 => ?_) (fun c5 => ?_)
      · have h := h.1 c5
        refine it_V.weak (l := [none, none, none]) trivial ?_
        exact s_7_35 kc Φ m4 h
      · have h := h.2 c5
        refine it_V.sN it_cd7 it_m7 2 (pc1 := 36) (ls1 := [some (.ref k), some (.int x0), some (.int x1)]) (st1 := [(.int (1 : Int32))]) (mem1 := m4) rfl ?_
        refine it_V.weak (l := [none, none, none]) trivial ?_
        exact s_7_36 kc Φ (1 : Int32) m4 h
    · have h := h.2 c2
      refine it_V.weak (l := [none, none, none]) trivial ?_
      exact s_7_35 kc Φ m h
set_option maxRecDepth 100000 in
set_option maxHeartbeats 4000000 in
theorem s_213_16 (kc : it_Kc) (Φ : Int32 → it_Me → Prop) (u0 : Int32) (m : it_Me) (h : w_213_16 kc Φ u0 m) : it_V kc it_sh0 213 16 [none, none] [(.int u0)] m (it_Pi Φ) := by
  rw [w_213_16] at h
  exact it_V.retZ it_cd213 it_m213 rfl rfl h.1 ⟨_, rfl, h.2⟩
set_option maxRecDepth 100000 in
set_option maxHeartbeats 4000000 in
theorem s_213 (kc : it_Kc) (x0 : Int32) (x1 : Int32) (m : it_Me) (Φ : Int32 → it_Me → Prop) (h : w_213 kc x0 x1 m Φ) : it_V kc it_sh0 213 0 (it_loc0 [(.int x0), (.int x1)] 2) [] m (it_Pi Φ) := by
  rw [w_213] at h
  refine it_V.at (pc1 := 0) (ls1 := [some (.int x0), some (.int x1)]) (st1 := []) (mem1 := m) rfl rfl rfl rfl ?_
  refine it_V.sN it_cd213 it_m213 7 (pc1 := (if (x1 ^^^ (-2147483648 : Int32)) ≤ (x0 ^^^ (-2147483648 : Int32)) then 15 else 11)) (ls1 := [some (.int x0), some (.int x1)]) (st1 := []) (mem1 := m) rfl ?_
  refine it_V.ite (fun c1 => ?_) (fun c1 => ?_)
  · have h := h.1 c1
    refine it_V.sN it_cd213 it_m213 1 (pc1 := 16) (ls1 := [some (.int x0), some (.int x1)]) (st1 := [(.int (0 : Int32))]) (mem1 := m) rfl ?_
    refine it_V.weak (l := [none, none]) trivial ?_
    exact s_213_16 kc Φ (0 : Int32) m h
  · have h := h.2 c1
    refine it_V.sN it_cd213 it_m213 2 (pc1 := 16) (ls1 := [some (.int x0), some (.int x1)]) (st1 := [(.int (1 : Int32))]) (mem1 := m) rfl ?_
    refine it_V.weak (l := [none, none]) trivial ?_
    exact s_213_16 kc Φ (1 : Int32) m h
set_option maxRecDepth 100000 in
set_option maxHeartbeats 4000000 in
theorem s_8_40 (kc : it_Kc) (Φ : Int32 → it_Me → Prop) (u0 : Int32) (m : it_Me) (h : w_8_40 kc Φ u0 m) : it_V kc it_sh0 8 40 [none, none] [(.int u0)] m (it_Pi Φ) := by
  rw [w_8_40] at h
  exact it_V.retZ it_cd8 it_m8 rfl rfl h.1 ⟨_, rfl, h.2⟩
set_option maxRecDepth 100000 in
set_option maxHeartbeats 4000000 in
theorem s_8 (kc : it_Kc) (k : Nat) (x0 : Nat) (hk : it_isH k) (hx0 : it_isH x0) (m : it_Me) (Φ : Int32 → it_Me → Prop) (h : w_8 kc k x0 m Φ) : it_V kc it_sh0 8 0 (it_loc0 [(.ref k), (.ref x0)] 2) [] m (it_Pi Φ) := by
  rw [w_8] at h
  refine it_V.at (pc1 := 0) (ls1 := [some (.ref k), some (.ref x0)]) (st1 := []) (mem1 := m) rfl rfl rfl rfl ?_
  refine it_V.sN it_cd8 it_m8 1 (pc1 := 1) (ls1 := [some (.ref k), some (.ref x0)]) (st1 := [(.ref k)]) (mem1 := m) rfl ?_
  refine it_V.getP it_cd8 it_m8 rfl hk rfl ?_
  refine it_V.at (pc1 := 4) (ls1 := [some (.ref k), some (.ref x0)]) (st1 := [(.int (m k 1))]) (mem1 := m) rfl rfl rfl rfl ?_
  refine it_V.sN it_cd8 it_m8 1 (pc1 := 5) (ls1 := [some (.ref k), some (.ref x0)]) (st1 := [(.ref x0), (.int (m k 1))]) (mem1 := m) rfl ?_
  refine it_V.getP it_cd8 it_m8 rfl hx0 rfl ?_
  refine it_V.at (pc1 := 8) (ls1 := [some (.ref k), some (.ref x0)]) (st1 := [(.int (m x0 1)), (.int (m k 1))]) (mem1 := m) rfl rfl rfl rfl ?_
  refine it_V.sN it_cd8 it_m8 1 (pc1 := (if (m k 1) = (m x0 1) then 11 else 13)) (ls1 := [some (.ref k), some (.ref x0)]) (st1 := []) (mem1 := m) rfl ?_
  refine it_V.ite (fun c1 => ?_) (fun c1 => ?_)
  · have h := h.1 c1
    refine it_V.sN it_cd8 it_m8 1 (pc1 := 12) (ls1 := [some (.ref k), some (.ref x0)]) (st1 := [(.int (0 : Int32))]) (mem1 := m) rfl ?_
    exact it_V.ret it_cd8 it_m8 rfl rfl ⟨_, rfl, h⟩
  · have h := h.2 c1
    refine it_V.sN it_cd8 it_m8 1 (pc1 := 14) (ls1 := [some (.ref k), some (.ref x0)]) (st1 := [(.ref k)]) (mem1 := m) rfl ?_
    refine it_V.getP it_cd8 it_m8 rfl hk rfl ?_
    refine it_V.at (pc1 := 17) (ls1 := [some (.ref k), some (.ref x0)]) (st1 := [(.int (m k 7))]) (mem1 := m) rfl rfl rfl rfl ?_
    refine it_V.sN it_cd8 it_m8 1 (pc1 := 18) (ls1 := [some (.ref k), some (.ref x0)]) (st1 := [(.ref x0), (.int (m k 7))]) (mem1 := m) rfl ?_
    refine it_V.getP it_cd8 it_m8 rfl hx0 rfl ?_
    refine it_V.at (pc1 := 21) (ls1 := [some (.ref k), some (.ref x0)]) (st1 := [(.int (m x0 7)), (.int (m k 7))]) (mem1 := m) rfl rfl rfl rfl ?_
    refine it_V.sN it_cd8 it_m8 1 (pc1 := (if (m k 7) = (m x0 7) then 24 else 41)) (ls1 := [some (.ref k), some (.ref x0)]) (st1 := []) (mem1 := m) rfl ?_
    refine it_V.ite (fun c2 => ?_) (fun c2 => ?_)
    · have h := h.1 c2
      refine it_V.sN it_cd8 it_m8 1 (pc1 := 25) (ls1 := [some (.ref k), some (.ref x0)]) (st1 := [(.ref k)]) (mem1 := m) rfl ?_
      refine it_V.getP it_cd8 it_m8 rfl hk rfl ?_
      refine it_V.at (pc1 := 28) (ls1 := [some (.ref k), some (.ref x0)]) (st1 := [(.int (m k 1))]) (mem1 := m) rfl rfl rfl rfl ?_
      refine it_V.sN it_cd8 it_m8 1 (pc1 := 29) (ls1 := [some (.ref k), some (.ref x0)]) (st1 := [(.ref x0), (.int (m k 1))]) (mem1 := m) rfl ?_
      refine it_V.getP it_cd8 it_m8 rfl hx0 rfl ?_
      refine it_V.at (pc1 := 32) (ls1 := [some (.ref k), some (.ref x0)]) (st1 := [(.int (m x0 1)), (.int (m k 1))]) (mem1 := m) rfl rfl rfl rfl ?_
      refine it_V.sN it_cd8 it_m8 1 (pc1 := (if (m x0 1) ≤ (m k 1) then 39 else 35)) (ls1 := [some (.ref k), some (.ref x0)]) (st1 := []) (mem1 := m) rfl ?_
      refine it_V.ite (fun c3 => ?_) (fun c3 => ?_)
      · have h := h.1 c3
        refine it_V.sN it_cd8 it_m8 1 (pc1 := 40) (ls1 := [some (.ref k), some (.ref x0)]) (st1 := [(.int (0 : Int32))]) (mem1 := m) rfl ?_
        refine it_V.weak (l := [none, none]) trivial ?_
        exact s_8_40 kc Φ (0 : Int32) m h
      · have h := h.2 c3
        refine it_V.sN it_cd8 it_m8 2 (pc1 := 40) (ls1 := [some (.ref k), some (.ref x0)]) (st1 := [(.int (1 : Int32))]) (mem1 := m) rfl ?_
        refine it_V.weak (l := [none, none]) trivial ?_
        exact s_8_40 kc Φ (1 : Int32) m h
    · have h := h.2 c2
      refine it_V.sN it_cd8 it_m8 1 (pc1 := 42) (ls1 := [some (.ref k), some (.ref x0)]) (st1 := [(.ref x0)]) (mem1 := m) rfl ?_
      refine it_V.getP it_cd8 it_m8 rfl hx0 rfl ?_
      refine it_V.at (pc1 := 45) (ls1 := [some (.ref k), some (.ref x0)]) (st1 := [(.int (m x0 7))]) (mem1 := m) rfl rfl rfl rfl ?_
      refine it_V.sN it_cd8 it_m8 1 (pc1 := 46) (ls1 := [some (.ref k), some (.ref x0)]) (st1 := [(.ref k), (.int (m x0 7))]) (mem1 := m) rfl ?_
      refine it_V.getP it_cd8 it_m8 rfl hk rfl ?_
      refine it_V.at (pc1 := 49) (ls1 := [some (.ref k), some (.ref x0)]) (st1 := [(.int (m k 7)), (.int (m x0 7))]) (mem1 := m) rfl rfl rfl rfl ?_
      refine it_V.call it_cd8 it_m8 rfl it_m213 [(.int (m x0 7)), (.int (m k 7))] [] rfl rfl ⟨Nat.le_of_ble_eq_true rfl, Nat.le_of_ble_eq_true rfl, Nat.le_of_ble_eq_true rfl, Nat.le_of_ble_eq_true rfl, rfl⟩ (s_213 kc (m x0 7) (m k 7) m _ h) ?_
      rintro _ m5 ⟨r4, rfl, h⟩
      refine it_V.at (pc1 := 52) (ls1 := [some (.ref k), some (.ref x0)]) (st1 := [(.int r4)]) (mem1 := m5) rfl rfl rfl rfl ?_
      exact it_V.retZ it_cd8 it_m8 rfl rfl h.1 ⟨_, rfl, h.2⟩
set_option maxRecDepth 100000 in
set_option maxHeartbeats 4000000 in
theorem s_9_81 (kc : it_Kc) (Φ : Int32 → it_Me → Prop) (K27 : Nat → Int32 → Int32 → Int32 → it_Me → Prop) (K79 : it_Me → Prop) (K87 : it_Me → Prop) (hK27 : ∀ (v0 : Nat) (v1 : Int32) (v2 : Int32) (v3 : Int32) (_ : it_isH v0) (m : it_Me), K27 v0 v1 v2 v3 m → it_V kc it_sh0 9 27 [some (.ref v0), some (.int v1), some (.int v2), some (.int v3), none] [] m (it_Pi Φ)) (hK79 : ∀ (m : it_Me), K79 m → it_V kc it_sh0 9 79 [none, none, none, none, none] [] m (it_Pi Φ)) (hK87 : ∀ (m : it_Me), K87 m → it_V kc it_sh0 9 87 [none, none, none, none, none] [] m (it_Pi Φ)) (v0 : Nat) (v1 : Int32) (v2 : Int32) (v3 : Int32) (hv0 : it_isH v0) (m : it_Me) (h : w_9_81 kc Φ K27 K79 K87 v0 v1 v2 v3 m) : it_V kc it_sh0 9 81 [some (.ref v0), some (.int v1), some (.int v2), some (.int v3), none] [] m (it_Pi Φ) := by
  rw [w_9_81] at h
  refine it_V.sN it_cd9 it_m9 2 (pc1 := 27) (ls1 := [some (.ref v0), some (.int v1), some (.int v2), some (.int (v3 + (8 : Int32))), none]) (st1 := []) (mem1 := m) rfl ?_
  refine it_V.weak (l := [some (.ref v0), some (.int v1), some (.int v2), some (.int (v3 + (8 : Int32))), none]) ⟨rfl, ⟨rfl, ⟨rfl, ⟨rfl, trivial⟩⟩⟩⟩ ?_
  exact hK27 v0 v1 v2 (v3 + (8 : Int32)) (hv0) m h
set_option maxRecDepth 100000 in
set_option maxHeartbeats 4000000 in
theorem s_9_27 (kc : it_Kc) (Φ : Int32 → it_Me → Prop) (K79 : it_Me → Prop) (K87 : it_Me → Prop) (hK79 : ∀ (m : it_Me), K79 m → it_V kc it_sh0 9 79 [none, none, none, none, none] [] m (it_Pi Φ)) (hK87 : ∀ (m : it_Me), K87 m → it_V kc it_sh0 9 87 [none, none, none, none, none] [] m (it_Pi Φ)) : ∀ (n : Nat) (v0 : Nat) (v1 : Int32) (v2 : Int32) (v3 : Int32) (hv0 : it_isH v0) (m : it_Me) (h : w_9_27 kc Φ K79 K87 n v0 v1 v2 v3 m), it_V kc it_sh0 9 27 [some (.ref v0), some (.int v1), some (.int v2), some (.int v3), none] [] m (it_Pi Φ) := by
  intro n
  induction n with
  | zero => intro v0 v1 v2 v3 hv0 m h; exact absurd h id
  | succ n ih =>
    intro v0 v1 v2 v3 hv0 m h
    rw [w_9_27] at h
    refine it_V.sN it_cd9 it_m9 2 (pc1 := 29) (ls1 := [some (.ref v0), some (.int v1), some (.int v2), some (.int v3), none]) (st1 := [(.ref v0), (.int v3)]) (mem1 := m) rfl ?_
    refine it_V.getP it_cd9 it_m9 rfl hv0 rfl ?_
    refine it_V.at (pc1 := 32) (ls1 := [some (.ref v0), some (.int v1), some (.int v2), some (.int v3), none]) (st1 := [(.int (m v0 14)), (.int v3)]) (mem1 := m) rfl rfl rfl rfl ?_
    refine it_V.sN it_cd9 it_m9 1 (pc1 := (if (m v0 14) ≤ v3 then 87 else 35)) (ls1 := [some (.ref v0), some (.int v1), some (.int v2), some (.int v3), none]) (st1 := []) (mem1 := m) rfl ?_
    refine it_V.ite (fun c1 => ?_) (fun c1 => ?_)
    · have h := h.1 c1
      refine it_V.weak (l := [none, none, none, none, none]) trivial ?_
      exact hK87 m h
    · have h := h.2 c1
      refine it_V.sN it_cd9 it_m9 1 (pc1 := 36) (ls1 := [some (.ref v0), some (.int v1), some (.int v2), some (.int v3), none]) (st1 := [(.ref v0)]) (mem1 := m) rfl ?_
      refine it_V.getP it_cd9 it_m9 rfl hv0 rfl ?_
      refine it_V.at (pc1 := 39) (ls1 := [some (.ref v0), some (.int v1), some (.int v2), some (.int v3), none]) (st1 := [(.ref 1)]) (mem1 := m) rfl rfl rfl rfl ?_
      refine it_V.sN it_cd9 it_m9 1 (pc1 := 40) (ls1 := [some (.ref v0), some (.int v1), some (.int v2), some (.int v3), none]) (st1 := [(.ref v0), (.ref 1)]) (mem1 := m) rfl ?_
      refine it_V.getP it_cd9 it_m9 rfl hv0 rfl ?_
      refine it_V.at (pc1 := 43) (ls1 := [some (.ref v0), some (.int v1), some (.int v2), some (.int v3), none]) (st1 := [(.int (m v0 13)), (.ref 1)]) (mem1 := m) rfl rfl rfl rfl ?_
      refine it_V.sN it_cd9 it_m9 4 (pc1 := 47) (ls1 := [some (.ref v0), some (.int v1), some (.int v2), some (.int v3), none]) (st1 := [(.int (((m v0 13) + v3) + (4 : Int32))), (.ref 1)]) (mem1 := m) rfl ?_
      refine it_V.call it_cd9 it_m9 rfl it_m12 [(.ref 1), (.int (((m v0 13) + v3) + (4 : Int32)))] [] rfl rfl ⟨Nat.le_of_ble_eq_true rfl, Nat.le_of_ble_eq_true rfl, Nat.le_of_ble_eq_true rfl, Nat.le_of_ble_eq_true rfl, rfl⟩ (s_12 kc (((m v0 13) + v3) + (4 : Int32)) m _ h) ?_
      rintro _ m3 ⟨r2, rfl, h⟩
      refine it_V.at (pc1 := 50) (ls1 := [some (.ref v0), some (.int v1), some (.int v2), some (.int v3), none]) (st1 := [(.int r2)]) (mem1 := m3) rfl rfl rfl rfl ?_
      refine it_V.sN it_cd9 it_m9 2 (pc1 := 53) (ls1 := [some (.ref v0), some (.int v1), some (.int v2), some (.int v3), some (.int r2)]) (st1 := [(.ref v0)]) (mem1 := m3) rfl ?_
      refine it_V.getP it_cd9 it_m9 rfl hv0 rfl ?_
      refine it_V.at (pc1 := 56) (ls1 := [some (.ref v0), some (.int v1), some (.int v2), some (.int v3), some (.int r2)]) (st1 := [(.ref 1)]) (mem1 := m3) rfl rfl rfl rfl ?_
      refine it_V.sN it_cd9 it_m9 1 (pc1 := 57) (ls1 := [some (.ref v0), some (.int v1), some (.int v2), some (.int v3), some (.int r2)]) (st1 := [(.ref v0), (.ref 1)]) (mem1 := m3) rfl ?_
      refine it_V.getP it_cd9 it_m9 rfl hv0 rfl ?_
      refine it_V.at (pc1 := 60) (ls1 := [some (.ref v0), some (.int v1), some (.int v2), some (.int v3), some (.int r2)]) (st1 := [(.int (m3 v0 13)), (.ref 1)]) (mem1 := m3) rfl rfl rfl rfl ?_
      refine it_V.sN it_cd9 it_m9 2 (pc1 := 62) (ls1 := [some (.ref v0), some (.int v1), some (.int v2), some (.int v3), some (.int r2)]) (st1 := [(.int ((m3 v0 13) + v3)), (.ref 1)]) (mem1 := m3) rfl ?_
      refine it_V.call it_cd9 it_m9 rfl it_m12 [(.ref 1), (.int ((m3 v0 13) + v3))] [] rfl rfl ⟨Nat.le_of_ble_eq_true rfl, Nat.le_of_ble_eq_true rfl, Nat.le_of_ble_eq_true rfl, Nat.le_of_ble_eq_true rfl, rfl⟩ (s_12 kc ((m3 v0 13) + v3) m3 _ h) ?_
      rintro _ m5 ⟨r4, rfl, h⟩
      refine it_V.at (pc1 := 65) (ls1 := [some (.ref v0), some (.int v1), some (.int v2), some (.int v3), some (.int r2)]) (st1 := [(.int r4)]) (mem1 := m5) rfl rfl rfl rfl ?_
      refine it_V.sN it_cd9 it_m9 2 (pc1 := (if r4 = v1 then 69 else 81)) (ls1 := [some (.ref v0), some (.int v1), some (.int v2), some (.int v3), some (.int r2)]) (st1 := []) (mem1 := m5) rfl ?_
      refine it_V.ite (fun c6 => ?_) (fun c6 => ?_)
      · have h := h.1 c6
        refine it_V.sN it_cd9 it_m9 7 (pc1 := (if ((it_us r2 v2) &&& (1 : Int32)) = (1 : Int32) then 79 else 81)) (ls1 := [some (.ref v0), some (.int v1), some (.int v2), some (.int v3), some (.int r2)]) (st1 := []) (mem1 := m5) rfl ?_
        refine it_V.ite (fun c7 => ?_) (fun c7 => ?_)
        · have h := h.1 c7
          refine it_V.weak (l := [none, none, none, none, none]) trivial ?_
          exact hK79 m5 h
        · have h := h.2 c7
          refine it_V.weak (l := [some (.ref v0), some (.int v1), some (.int v2), some (.int v3), none]) ⟨rfl, ⟨rfl, ⟨rfl, ⟨rfl, trivial⟩⟩⟩⟩ ?_
          exact s_9_81 kc Φ _ _ _ ih hK79 hK87 v0 v1 v2 v3 (hv0) m5 h
      · have h := h.2 c6
        refine it_V.weak (l := [some (.ref v0), some (.int v1), some (.int v2), some (.int v3), none]) ⟨rfl, ⟨rfl, ⟨rfl, ⟨rfl, trivial⟩⟩⟩⟩ ?_
        exact s_9_81 kc Φ _ _ _ ih hK79 hK87 v0 v1 v2 v3 (hv0) m5 h
set_option maxRecDepth 100000 in
set_option maxHeartbeats 4000000 in
theorem s_9_11 (kc : it_Kc) (Φ : Int32 → it_Me → Prop) (m : it_Me) (h : w_9_11 kc Φ m) : it_V kc it_sh0 9 11 [none, none, none, none, none] [] m (it_Pi Φ) := by
  rw [w_9_11] at h
  refine it_V.sN it_cd9 it_m9 1 (pc1 := 12) (ls1 := [none, none, none, none, none]) (st1 := [(.int (1 : Int32))]) (mem1 := m) rfl ?_
  exact it_V.ret it_cd9 it_m9 rfl rfl ⟨_, rfl, h⟩
set_option maxRecDepth 100000 in
set_option maxHeartbeats 4000000 in
theorem s_9_23 (kc : it_Kc) (Φ : Int32 → it_Me → Prop) (m : it_Me) (h : w_9_23 kc Φ m) : it_V kc it_sh0 9 23 [none, none, none, none, none] [] m (it_Pi Φ) := by
  rw [w_9_23] at h
  refine it_V.sN it_cd9 it_m9 1 (pc1 := 24) (ls1 := [none, none, none, none, none]) (st1 := [(.int (0 : Int32))]) (mem1 := m) rfl ?_
  exact it_V.ret it_cd9 it_m9 rfl rfl ⟨_, rfl, h⟩
set_option maxRecDepth 100000 in
set_option maxHeartbeats 4000000 in
theorem s_9_79 (kc : it_Kc) (Φ : Int32 → it_Me → Prop) (m : it_Me) (h : w_9_79 kc Φ m) : it_V kc it_sh0 9 79 [none, none, none, none, none] [] m (it_Pi Φ) := by
  rw [w_9_79] at h
  refine it_V.sN it_cd9 it_m9 1 (pc1 := 80) (ls1 := [none, none, none, none, none]) (st1 := [(.int (1 : Int32))]) (mem1 := m) rfl ?_
  exact it_V.ret it_cd9 it_m9 rfl rfl ⟨_, rfl, h⟩
set_option maxRecDepth 100000 in
set_option maxHeartbeats 4000000 in
theorem s_9_87 (kc : it_Kc) (Φ : Int32 → it_Me → Prop) (m : it_Me) (h : w_9_87 kc Φ m) : it_V kc it_sh0 9 87 [none, none, none, none, none] [] m (it_Pi Φ) := by
  rw [w_9_87] at h
  refine it_V.sN it_cd9 it_m9 1 (pc1 := 88) (ls1 := [none, none, none, none, none]) (st1 := [(.int (0 : Int32))]) (mem1 := m) rfl ?_
  exact it_V.ret it_cd9 it_m9 rfl rfl ⟨_, rfl, h⟩
set_option maxRecDepth 100000 in
set_option maxHeartbeats 4000000 in
theorem s_9 (kc : it_Kc) (k : Nat) (x0 : Int32) (x1 : Int32) (hk : it_isH k) (m : it_Me) (Φ : Int32 → it_Me → Prop) (h : w_9 kc k x0 x1 m Φ) : it_V kc it_sh0 9 0 (it_loc0 [(.ref k), (.int x0), (.int x1)] 5) [] m (it_Pi Φ) := by
  rw [w_9] at h
  refine it_V.at (pc1 := 0) (ls1 := [some (.ref k), some (.int x0), some (.int x1), none, none]) (st1 := []) (mem1 := m) rfl rfl rfl rfl ?_
  refine it_V.sN it_cd9 it_m9 1 (pc1 := 1) (ls1 := [some (.ref k), some (.int x0), some (.int x1), none, none]) (st1 := [(.ref k)]) (mem1 := m) rfl ?_
  refine it_V.getP it_cd9 it_m9 rfl hk rfl ?_
  refine it_V.at (pc1 := 4) (ls1 := [some (.ref k), some (.int x0), some (.int x1), none, none]) (st1 := [(.int (m k 13))]) (mem1 := m) rfl rfl rfl rfl ?_
  refine it_V.sN it_cd9 it_m9 1 (pc1 := (if (m k 13) = 0 then 11 else 7)) (ls1 := [some (.ref k), some (.int x0), some (.int x1), none, none]) (st1 := []) (mem1 := m) rfl ?_
  refine it_V.ite (fun c1 => ?_) (fun c1 => ?_)
  · have h := h.1 c1
    refine it_V.weak (l := [none, none, none, none, none]) trivial ?_
    exact s_9_11 kc Φ m h
  · have h := h.2 c1
    refine it_V.sN it_cd9 it_m9 2 (pc1 := (if x1 = 0 then 11 else 13)) (ls1 := [some (.ref k), some (.int x0), some (.int x1), none, none]) (st1 := []) (mem1 := m) rfl ?_
    refine it_V.ite (fun c2 => ?_) (fun c2 => ?_)
    · have h := h.1 c2
      refine it_V.weak (l := [none, none, none, none, none]) trivial ?_
      exact s_9_11 kc Φ m h
    · have h := h.2 c2
      refine it_V.sN it_cd9 it_m9 2 (pc1 := (if x1 < 0 then 23 else 17)) (ls1 := [some (.ref k), some (.int x0), some (.int x1), none, none]) (st1 := []) (mem1 := m) rfl ?_
      refine it_V.ite (fun c3 => ?_) (fun c3 => ?_)
      · have h := h.1 c3
        refine it_V.weak (l := [none, none, none, none, none]) trivial ?_
        exact s_9_23 kc Φ m h
      · have h := h.2 c3
        refine it_V.sN it_cd9 it_m9 3 (pc1 := (if x1 ≤ (31 : Int32) then 25 else 23)) (ls1 := [some (.ref k), some (.int x0), some (.int x1), none, none]) (st1 := []) (mem1 := m) rfl ?_
        refine it_V.ite (fun c4 => ?_) (fun c4 => ?_)
        · have h := h.1 c4
          refine it_V.sN it_cd9 it_m9 2 (pc1 := 27) (ls1 := [some (.ref k), some (.int x0), some (.int x1), some (.int (0 : Int32)), none]) (st1 := []) (mem1 := m) rfl ?_
          obtain ⟨n, h⟩ := h
          exact s_9_27 kc Φ _ _ (fun m h => s_9_79 kc Φ m h) (fun m h => s_9_87 kc Φ m h) n k x0 x1 (0 : Int32) (hk) m h
        · have h := h.2 c4
          refine it_V.weak (l := [none, none, none, none, none]) trivial ?_
          exact s_9_23 kc Φ m h
set_option maxRecDepth 100000 in
set_option maxHeartbeats 4000000 in
theorem s_10_6 (kc : it_Kc) (Φ : Int32 → it_Me → Prop) (K33 : Int32 → it_Me → Prop) (hK33 : ∀ (v1 : Int32) (m : it_Me), K33 v1 m → it_V kc it_sh0 10 33 [none, some (.int v1), none] [] m (it_Pi Φ)) : ∀ (n : Nat) (v0 : Nat) (v1 : Int32) (v2 : Int32) (hv0 : it_isH v0) (m : it_Me) (h : w_10_6 kc Φ K33 n v0 v1 v2 m), it_V kc it_sh0 10 6 [some (.ref v0), some (.int v1), some (.int v2)] [] m (it_Pi Φ) := by
  intro n
  induction n with
  | zero => intro v0 v1 v2 hv0 m h; exact absurd h id
  | succ n ih =>
    intro v0 v1 v2 hv0 m h
    rw [w_10_6] at h
    refine it_V.sN it_cd10 it_m10 3 (pc1 := (if (5 : Int32) ≤ v2 then 33 else 11)) (ls1 := [some (.ref v0), some (.int v1), some (.int v2)]) (st1 := []) (mem1 := m) rfl ?_
    refine it_V.ite (fun c1 => ?_) (fun c1 => ?_)
    · have h := h.1 c1
      refine it_V.weak (l := [none, some (.int v1), none]) ⟨rfl, trivial⟩ ?_
      exact hK33 v1 m h
    · have h := h.2 c1
      refine it_V.sN it_cd10 it_m10 2 (pc1 := 13) (ls1 := [some (.ref v0), some (.int v1), some (.int v2)]) (st1 := [(.ref v0), (.int v1)]) (mem1 := m) rfl ?_
      refine it_V.getP it_cd10 it_m10 rfl hv0 rfl ?_
      refine it_V.at (pc1 := 16) (ls1 := [some (.ref v0), some (.int v1), some (.int v2)]) (st1 := [(.int (m v0 5)), (.int v1)]) (mem1 := m) rfl rfl rfl rfl ?_
      refine it_V.sN it_cd10 it_m10 3 (pc1 := (if ((m v0 5) + (512 : Int32)) ≤ v1 then 33 else 23)) (ls1 := [some (.ref v0), some (.int v1), some (.int v2)]) (st1 := []) (mem1 := m) rfl ?_
      refine it_V.ite (fun c2 => ?_) (fun c2 => ?_)
      · have h := h.1 c2
        refine it_V.weak (l := [none, some (.int v1), none]) ⟨rfl, trivial⟩ ?_
        exact hK33 v1 m h
      · have h := h.2 c2
        refine it_V.sN it_cd10 it_m10 6 (pc1 := 6) (ls1 := [some (.ref v0), some (.int (v1 * (2 : Int32))), some (.int (v2 + (1 : Int32)))]) (st1 := []) (mem1 := m) rfl ?_
        exact ih v0 (v1 * (2 : Int32)) (v2 + (1 : Int32)) (hv0) m h
set_option maxRecDepth 100000 in
set_option maxHeartbeats 4000000 in
theorem s_10_33 (kc : it_Kc) (Φ : Int32 → it_Me → Prop) (v1 : Int32) (m : it_Me) (h : w_10_33 kc Φ v1 m) : it_V kc it_sh0 10 33 [none, some (.int v1), none] [] m (it_Pi Φ) := by
  rw [w_10_33] at h
  refine it_V.sN it_cd10 it_m10 1 (pc1 := 34) (ls1 := [none, some (.int v1), none]) (st1 := [(.int v1)]) (mem1 := m) rfl ?_
  exact it_V.ret it_cd10 it_m10 rfl rfl ⟨_, rfl, h⟩
set_option maxRecDepth 100000 in
set_option maxHeartbeats 4000000 in
theorem s_10 (kc : it_Kc) (k : Nat) (hk : it_isH k) (m : it_Me) (Φ : Int32 → it_Me → Prop) (h : w_10 kc k m Φ) : it_V kc it_sh0 10 0 (it_loc0 [(.ref k)] 3) [] m (it_Pi Φ) := by
  rw [w_10] at h
  refine it_V.at (pc1 := 0) (ls1 := [some (.ref k), none, none]) (st1 := []) (mem1 := m) rfl rfl rfl rfl ?_
  refine it_V.sN it_cd10 it_m10 4 (pc1 := 6) (ls1 := [some (.ref k), some (.int (1024 : Int32)), some (.int (0 : Int32))]) (st1 := []) (mem1 := m) rfl ?_
  obtain ⟨n, h⟩ := h
  exact s_10_6 kc Φ _ (fun v1 m h => s_10_33 kc Φ v1 m h) n k (1024 : Int32) (0 : Int32) (hk) m h
set_option maxRecDepth 100000 in
set_option maxHeartbeats 4000000 in
theorem s_13_24 (kc : it_Kc) (Φ : it_Me → Prop) (m : it_Me) (h : w_13_24 kc Φ m) : it_V kc it_sh0 13 24 [none, none, none] [] m (it_Pv Φ) := by
  rw [w_13_24] at h
  exact it_V.ret it_cd13 it_m13 rfl rfl ⟨rfl, h⟩
set_option maxRecDepth 100000 in
set_option maxHeartbeats 4000000 in
theorem s_13 (kc : it_Kc) (x0 : Int32) (x1 : Int32) (m : it_Me) (Φ : it_Me → Prop) (h : w_13 kc x0 x1 m Φ) : it_V kc it_sh0 13 0 (it_loc0 [(.ref 1), (.int x0), (.int x1)] 3) [] m (it_Pv Φ) := by
  rw [w_13] at h
  refine it_V.at (pc1 := 0) (ls1 := [some (.ref 1), some (.int x0), some (.int x1)]) (st1 := []) (mem1 := m) rfl rfl rfl rfl ?_
  refine it_V.sN it_cd13 it_m13 3 (pc1 := (if x0 < (65536 : Int32) then 24 else 6)) (ls1 := [some (.ref 1), some (.int x0), some (.int x1)]) (st1 := []) (mem1 := m) rfl ?_
  refine it_V.ite (fun c1 => ?_) (fun c1 => ?_)
  · have h := h.1 c1
    refine it_V.weak (l := [none, none, none]) trivial ?_
    exact s_13_24 kc Φ m h
  · have h := h.2 c1
    refine it_V.sN it_cd13 it_m13 3 (pc1 := (if (196608 : Int32) ≤ x0 then 24 else 12)) (ls1 := [some (.ref 1), some (.int x0), some (.int x1)]) (st1 := []) (mem1 := m) rfl ?_
    refine it_V.ite (fun c2 => ?_) (fun c2 => ?_)
    · have h := h.1 c2
      refine it_V.weak (l := [none, none, none]) trivial ?_
      exact s_13_24 kc Φ m h
    · have h := h.2 c2
      refine it_V.sN it_cd13 it_m13 8 (pc1 := 23) (ls1 := [some (.ref 1), some (.int x0), some (.int x1)]) (st1 := [(.int x1), (.int (it_shr (x0 - (65536 : Int32)) (2 : Int32))), (.ref 2)]) (mem1 := m) rfl ?_
      obtain ⟨g3, h⟩ := h
      refine it_V.iast it_cd13 it_m13 rfl ((⟨rfl, by decide⟩ : it_isR 2 32768)).1 g3 ?_
      refine it_V.at (pc1 := 24) (ls1 := [some (.ref 1), some (.int x0), some (.int x1)]) (st1 := []) (mem1 := (it_sv m 2 (Int32.toNatClampNeg (it_shr (x0 - (65536 : Int32)) (2 : Int32))) x1)) rfl rfl rfl rfl ?_
      refine it_V.weak (l := [none, none, none]) trivial ?_
      exact s_13_24 kc Φ (it_sv m 2 (Int32.toNatClampNeg (it_shr (x0 - (65536 : Int32)) (2 : Int32))) x1) h
set_option maxRecDepth 100000 in
set_option maxHeartbeats 4000000 in
theorem s_15_54 (kc : it_Kc) (Φ : it_Me → Prop) (m : it_Me) (h : w_15_54 kc Φ m) : it_V kc it_sh0 15 54 [none, none, none, none, none] [] m (it_Pv Φ) := by
  rw [w_15_54] at h
  exact it_V.ret it_cd15 it_m15 rfl rfl ⟨rfl, h⟩
set_option maxRecDepth 100000 in
set_option maxHeartbeats 4000000 in
theorem s_15 (kc : it_Kc) (x0 : Int32) (x1 : Int32) (m : it_Me) (Φ : it_Me → Prop) (h : w_15 kc x0 x1 m Φ) : it_V kc it_sh0 15 0 (it_loc0 [(.ref 1), (.int x0), (.int x1)] 5) [] m (it_Pv Φ) := by
  rw [w_15] at h
  refine it_V.at (pc1 := 0) (ls1 := [some (.ref 1), some (.int x0), some (.int x1), none, none]) (st1 := []) (mem1 := m) rfl rfl rfl rfl ?_
  refine it_V.sN it_cd15 it_m15 3 (pc1 := (if x0 < (65536 : Int32) then 54 else 6)) (ls1 := [some (.ref 1), some (.int x0), some (.int x1), none, none]) (st1 := []) (mem1 := m) rfl ?_
  refine it_V.ite (fun c1 => ?_) (fun c1 => ?_)
  · have h := h.1 c1
    refine it_V.weak (l := [none, none, none, none, none]) trivial ?_
    exact s_15_54 kc Φ m h
  · have h := h.2 c1
    refine it_V.sN it_cd15 it_m15 3 (pc1 := (if (196608 : Int32) ≤ x0 then 54 else 12)) (ls1 := [some (.ref 1), some (.int x0), some (.int x1), none, none]) (st1 := []) (mem1 := m) rfl ?_
    refine it_V.ite (fun c2 => ?_) (fun c2 => ?_)
    · have h := h.1 c2
      refine it_V.weak (l := [none, none, none, none, none]) trivial ?_
      exact s_15_54 kc Φ m h
    · have h := h.2 c2
      refine it_V.sN it_cd15 it_m15 18 (pc1 := 36) (ls1 := [some (.ref 1), some (.int x0), some (.int x1), some (.int (it_shr (x0 - (65536 : Int32)) (2 : Int32))), some (.int (it_shl (x0 &&& (2 : Int32)) (3 : Int32)))]) (st1 := [(.int (it_shr (x0 - (65536 : Int32)) (2 : Int32))), (.ref 2), (.int (it_shr (x0 - (65536 : Int32)) (2 : Int32))), (.ref 2)]) (mem1 := m) rfl ?_
      obtain ⟨g3, h⟩ := h
      refine it_V.iald it_cd15 it_m15 rfl ((⟨rfl, by decide⟩ : it_isR 2 32768)).2 ((⟨rfl, by decide⟩ : it_isR 2 32768)).1 g3 ?_
      refine it_V.at (pc1 := 37) (ls1 := [some (.ref 1), some (.int x0), some (.int x1), some (.int (it_shr (x0 - (65536 : Int32)) (2 : Int32))), some (.int (it_shl (x0 &&& (2 : Int32)) (3 : Int32)))]) (st1 := [(.int (m 2 (Int32.toNatClampNeg (it_shr (x0 - (65536 : Int32)) (2 : Int32))))), (.int (it_shr (x0 - (65536 : Int32)) (2 : Int32))), (.ref 2)]) (mem1 := m) rfl rfl rfl rfl ?_
      refine it_V.sN it_cd15 it_m15 12 (pc1 := 53) (ls1 := [some (.ref 1), some (.int x0), some (.int x1), some (.int (it_shr (x0 - (65536 : Int32)) (2 : Int32))), some (.int (it_shl (x0 &&& (2 : Int32)) (3 : Int32)))]) (st1 := [(.int (((m 2 (Int32.toNatClampNeg (it_shr (x0 - (65536 : Int32)) (2 : Int32)))) &&& ((it_shl (65535 : Int32) (it_shl (x0 &&& (2 : Int32)) (3 : Int32))) ^^^ (-1 : Int32))) ||| (it_shl (x1 &&& (65535 : Int32)) (it_shl (x0 &&& (2 : Int32)) (3 : Int32))))), (.int (it_shr (x0 - (65536 : Int32)) (2 : Int32))), (.ref 2)]) (mem1 := m) rfl ?_
      obtain ⟨g4, h⟩ := h
      refine it_V.iast it_cd15 it_m15 rfl ((⟨rfl, by decide⟩ : it_isR 2 32768)).1 g4 ?_
      refine it_V.at (pc1 := 54) (ls1 := [some (.ref 1), some (.int x0), some (.int x1), some (.int (it_shr (x0 - (65536 : Int32)) (2 : Int32))), some (.int (it_shl (x0 &&& (2 : Int32)) (3 : Int32)))]) (st1 := []) (mem1 := (it_sv m 2 (Int32.toNatClampNeg (it_shr (x0 - (65536 : Int32)) (2 : Int32))) (((m 2 (Int32.toNatClampNeg (it_shr (x0 - (65536 : Int32)) (2 : Int32)))) &&& ((it_shl (65535 : Int32) (it_shl (x0 &&& (2 : Int32)) (3 : Int32))) ^^^ (-1 : Int32))) ||| (it_shl (x1 &&& (65535 : Int32)) (it_shl (x0 &&& (2 : Int32)) (3 : Int32)))))) rfl rfl rfl rfl ?_
      refine it_V.weak (l := [none, none, none, none, none]) trivial ?_
      exact s_15_54 kc Φ (it_sv m 2 (Int32.toNatClampNeg (it_shr (x0 - (65536 : Int32)) (2 : Int32))) (((m 2 (Int32.toNatClampNeg (it_shr (x0 - (65536 : Int32)) (2 : Int32)))) &&& ((it_shl (65535 : Int32) (it_shl (x0 &&& (2 : Int32)) (3 : Int32))) ^^^ (-1 : Int32))) ||| (it_shl (x1 &&& (65535 : Int32)) (it_shl (x0 &&& (2 : Int32)) (3 : Int32))))) h
set_option maxRecDepth 100000 in
set_option maxHeartbeats 4000000 in
theorem s_17_56 (kc : it_Kc) (Φ : it_Me → Prop) (m : it_Me) (h : w_17_56 kc Φ m) : it_V kc it_sh0 17 56 [none, none, none, none, none] [] m (it_Pv Φ) := by
  rw [w_17_56] at h
  exact it_V.ret it_cd17 it_m17 rfl rfl ⟨rfl, h⟩
set_option maxRecDepth 100000 in
set_option maxHeartbeats 4000000 in
theorem s_17 (kc : it_Kc) (x0 : Int32) (x1 : Int32) (m : it_Me) (Φ : it_Me → Prop) (h : w_17 kc x0 x1 m Φ) : it_V kc it_sh0 17 0 (it_loc0 [(.ref 1), (.int x0), (.int x1)] 5) [] m (it_Pv Φ) := by
  rw [w_17] at h
  refine it_V.at (pc1 := 0) (ls1 := [some (.ref 1), some (.int x0), some (.int x1), none, none]) (st1 := []) (mem1 := m) rfl rfl rfl rfl ?_
  refine it_V.sN it_cd17 it_m17 3 (pc1 := (if x0 < (65536 : Int32) then 56 else 6)) (ls1 := [some (.ref 1), some (.int x0), some (.int x1), none, none]) (st1 := []) (mem1 := m) rfl ?_
  refine it_V.ite (fun c1 => ?_) (fun c1 => ?_)
  · have h := h.1 c1
    refine it_V.weak (l := [none, none, none, none, none]) trivial ?_
    exact s_17_56 kc Φ m h
  · have h := h.2 c1
    refine it_V.sN it_cd17 it_m17 3 (pc1 := (if (196608 : Int32) ≤ x0 then 56 else 12)) (ls1 := [some (.ref 1), some (.int x0), some (.int x1), none, none]) (st1 := []) (mem1 := m) rfl ?_
    refine it_V.ite (fun c2 => ?_) (fun c2 => ?_)
    · have h := h.1 c2
      refine it_V.weak (l := [none, none, none, none, none]) trivial ?_
      exact s_17_56 kc Φ m h
    · have h := h.2 c2
      refine it_V.sN it_cd17 it_m17 18 (pc1 := 36) (ls1 := [some (.ref 1), some (.int x0), some (.int x1), some (.int (it_shr (x0 - (65536 : Int32)) (2 : Int32))), some (.int (it_shl (x0 &&& (3 : Int32)) (3 : Int32)))]) (st1 := [(.int (it_shr (x0 - (65536 : Int32)) (2 : Int32))), (.ref 2), (.int (it_shr (x0 - (65536 : Int32)) (2 : Int32))), (.ref 2)]) (mem1 := m) rfl ?_
      obtain ⟨g3, h⟩ := h
      refine it_V.iald it_cd17 it_m17 rfl ((⟨rfl, by decide⟩ : it_isR 2 32768)).2 ((⟨rfl, by decide⟩ : it_isR 2 32768)).1 g3 ?_
      refine it_V.at (pc1 := 37) (ls1 := [some (.ref 1), some (.int x0), some (.int x1), some (.int (it_shr (x0 - (65536 : Int32)) (2 : Int32))), some (.int (it_shl (x0 &&& (3 : Int32)) (3 : Int32)))]) (st1 := [(.int (m 2 (Int32.toNatClampNeg (it_shr (x0 - (65536 : Int32)) (2 : Int32))))), (.int (it_shr (x0 - (65536 : Int32)) (2 : Int32))), (.ref 2)]) (mem1 := m) rfl rfl rfl rfl ?_
      refine it_V.sN it_cd17 it_m17 12 (pc1 := 55) (ls1 := [some (.ref 1), some (.int x0), some (.int x1), some (.int (it_shr (x0 - (65536 : Int32)) (2 : Int32))), some (.int (it_shl (x0 &&& (3 : Int32)) (3 : Int32)))]) (st1 := [(.int (((m 2 (Int32.toNatClampNeg (it_shr (x0 - (65536 : Int32)) (2 : Int32)))) &&& ((it_shl (255 : Int32) (it_shl (x0 &&& (3 : Int32)) (3 : Int32))) ^^^ (-1 : Int32))) ||| (it_shl (x1 &&& (255 : Int32)) (it_shl (x0 &&& (3 : Int32)) (3 : Int32))))), (.int (it_shr (x0 - (65536 : Int32)) (2 : Int32))), (.ref 2)]) (mem1 := m) rfl ?_
      obtain ⟨g4, h⟩ := h
      refine it_V.iast it_cd17 it_m17 rfl ((⟨rfl, by decide⟩ : it_isR 2 32768)).1 g4 ?_
      refine it_V.at (pc1 := 56) (ls1 := [some (.ref 1), some (.int x0), some (.int x1), some (.int (it_shr (x0 - (65536 : Int32)) (2 : Int32))), some (.int (it_shl (x0 &&& (3 : Int32)) (3 : Int32)))]) (st1 := []) (mem1 := (it_sv m 2 (Int32.toNatClampNeg (it_shr (x0 - (65536 : Int32)) (2 : Int32))) (((m 2 (Int32.toNatClampNeg (it_shr (x0 - (65536 : Int32)) (2 : Int32)))) &&& ((it_shl (255 : Int32) (it_shl (x0 &&& (3 : Int32)) (3 : Int32))) ^^^ (-1 : Int32))) ||| (it_shl (x1 &&& (255 : Int32)) (it_shl (x0 &&& (3 : Int32)) (3 : Int32)))))) rfl rfl rfl rfl ?_
      refine it_V.weak (l := [none, none, none, none, none]) trivial ?_
      exact s_17_56 kc Φ (it_sv m 2 (Int32.toNatClampNeg (it_shr (x0 - (65536 : Int32)) (2 : Int32))) (((m 2 (Int32.toNatClampNeg (it_shr (x0 - (65536 : Int32)) (2 : Int32)))) &&& ((it_shl (255 : Int32) (it_shl (x0 &&& (3 : Int32)) (3 : Int32))) ^^^ (-1 : Int32))) ||| (it_shl (x1 &&& (255 : Int32)) (it_shl (x0 &&& (3 : Int32)) (3 : Int32))))) h
set_option maxRecDepth 100000 in
set_option maxHeartbeats 4000000 in
theorem s_18_48 (kc : it_Kc) (Φ : it_Me → Prop) (m : it_Me) (h : w_18_48 kc Φ m) : it_V kc it_sh0 18 48 [none, none, none, none, none] [] m (it_Pv Φ) := by
  rw [w_18_48] at h
  exact it_V.ret it_cd18 it_m18 rfl rfl ⟨rfl, h⟩
set_option maxRecDepth 100000 in
set_option maxHeartbeats 4000000 in
theorem s_18 (kc : it_Kc) (x0 : Int32) (x1 : Int32) (x2 : Int32) (m : it_Me) (Φ : it_Me → Prop) (h : w_18 kc x0 x1 x2 m Φ) : it_V kc it_sh0 18 0 (it_loc0 [(.ref 1), (.int x0), (.int x1), (.int x2)] 5) [] m (it_Pv Φ) := by
  rw [w_18] at h
  refine it_V.at (pc1 := 0) (ls1 := [some (.ref 1), some (.int x0), some (.int x1), some (.int x2), none]) (st1 := []) (mem1 := m) rfl rfl rfl rfl ?_
  refine it_V.sN it_cd18 it_m18 2 (pc1 := (if x1 ≤ 0 then 48 else 4)) (ls1 := [some (.ref 1), some (.int x0), some (.int x1), some (.int x2), none]) (st1 := []) (mem1 := m) rfl ?_
  refine it_V.ite (fun c1 => ?_) (fun c1 => ?_)
  · have h := h.1 c1
    refine it_V.weak (l := [none, none, none, none, none]) trivial ?_
    exact s_18_48 kc Φ m h
  · have h := h.2 c1
    refine it_V.sN it_cd18 it_m18 3 (pc1 := (if x0 < (65536 : Int32) then 48 else 10)) (ls1 := [some (.ref 1), some (.int x0), some (.int x1), some (.int x2), none]) (st1 := []) (mem1 := m) rfl ?_
    refine it_V.ite (fun c2 => ?_) (fun c2 => ?_)
    · have h := h.1 c2
      refine it_V.weak (l := [none, none, none, none, none]) trivial ?_
      exact s_18_48 kc Φ m h
    · have h := h.2 c2
      refine it_V.sN it_cd18 it_m18 3 (pc1 := (if (196608 : Int32) ≤ x0 then 48 else 16)) (ls1 := [some (.ref 1), some (.int x0), some (.int x1), some (.int x2), none]) (st1 := []) (mem1 := m) rfl ?_
      refine it_V.ite (fun c3 => ?_) (fun c3 => ?_)
      · have h := h.1 c3
        refine it_V.weak (l := [none, none, none, none, none]) trivial ?_
        exact s_18_48 kc Φ m h
      · have h := h.2 c3
        refine it_V.sN it_cd18 it_m18 5 (pc1 := (if ((196608 : Int32) - x0) < x1 then 48 else 24)) (ls1 := [some (.ref 1), some (.int x0), some (.int x1), some (.int x2), none]) (st1 := []) (mem1 := m) rfl ?_
        refine it_V.ite (fun c4 => ?_) (fun c4 => ?_)
        · have h := h.1 c4
          refine it_V.weak (l := [none, none, none, none, none]) trivial ?_
          exact s_18_48 kc Φ m h
        · have h := h.2 c4
          refine it_V.sN it_cd18 it_m18 15 (pc1 := 45) (ls1 := [some (.ref 1), some (.int x0), some (.int x1), some (.int x2), some (.int (it_shr (x0 - (65536 : Int32)) (2 : Int32)))]) (st1 := [(.int x2), (.int ((it_shr (x0 - (65536 : Int32)) (2 : Int32)) + (it_shr x1 (2 : Int32)))), (.int (it_shr (x0 - (65536 : Int32)) (2 : Int32))), (.ref 2)]) (mem1 := m) rfl ?_
          refine it_V.call it_cd18 it_m18 rfl it_m362 [(.ref 2), (.int (it_shr (x0 - (65536 : Int32)) (2 : Int32))), (.int ((it_shr (x0 - (65536 : Int32)) (2 : Int32)) + (it_shr x1 (2 : Int32)))), (.int x2)] [] rfl rfl ⟨Nat.le_of_ble_eq_true rfl, Nat.le_of_ble_eq_true rfl, Nat.le_of_ble_eq_true rfl, Nat.le_of_ble_eq_true rfl, rfl⟩ (s_362 kc 2 (it_shr (x0 - (65536 : Int32)) (2 : Int32)) ((it_shr (x0 - (65536 : Int32)) (2 : Int32)) + (it_shr x1 (2 : Int32))) x2 ((⟨rfl, by decide⟩ : it_isR 2 32768)) m _ h) ?_
          rintro _ m5 ⟨rfl, h⟩
          refine it_V.at (pc1 := 48) (ls1 := [some (.ref 1), some (.int x0), some (.int x1), some (.int x2), some (.int (it_shr (x0 - (65536 : Int32)) (2 : Int32)))]) (st1 := []) (mem1 := m5) rfl rfl rfl rfl ?_
          refine it_V.weak (l := [none, none, none, none, none]) trivial ?_
          exact s_18_48 kc Φ m5 h
set_option maxRecDepth 100000 in
set_option maxHeartbeats 4000000 in
theorem s_19_3 (kc : it_Kc) (Φ : it_Me → Prop) (K31 : it_Me → Prop) (hK31 : ∀ (m : it_Me), K31 m → it_V kc it_sh0 19 31 [none, none, none, none, none] [] m (it_Pv Φ)) : ∀ (n : Nat) (v1 : Int32) (v2 : Int32) (v3 : Int32) (v4 : Int32) (m : it_Me) (h : w_19_3 kc Φ K31 n v1 v2 v3 v4 m), it_V kc it_sh0 19 3 [some (.ref 1), some (.int v1), some (.int v2), some (.int v3), some (.int v4)] [] m (it_Pv Φ) := by
  intro n
  induction n with
  | zero => intro v1 v2 v3 v4 m h; exact absurd h id
  | succ n ih =>
    intro v1 v2 v3 v4 m h
    rw [w_19_3] at h
    refine it_V.sN it_cd19 it_m19 3 (pc1 := (if v3 ≤ v4 then 31 else 9)) (ls1 := [some (.ref 1), some (.int v1), some (.int v2), some (.int v3), some (.int v4)]) (st1 := []) (mem1 := m) rfl ?_
    refine it_V.ite (fun c1 => ?_) (fun c1 => ?_)
    · have h := h.1 c1
      refine it_V.weak (l := [none, none, none, none, none]) trivial ?_
      exact hK31 m h
    · have h := h.2 c1
      refine it_V.sN it_cd19 it_m19 8 (pc1 := 19) (ls1 := [some (.ref 1), some (.int v1), some (.int v2), some (.int v3), some (.int v4)]) (st1 := [(.int (v1 + v4)), (.ref 1), (.int (v2 + v4)), (.ref 1)]) (mem1 := m) rfl ?_
      refine it_V.call it_cd19 it_m19 rfl it_m16 [(.ref 1), (.int (v1 + v4))] [(.int (v2 + v4)), (.ref 1)] rfl rfl ⟨Nat.le_of_ble_eq_true rfl, Nat.le_of_ble_eq_true rfl, Nat.le_of_ble_eq_true rfl, Nat.le_of_ble_eq_true rfl, rfl⟩ (s_16 kc (v1 + v4) m _ h) ?_
      rintro _ m3 ⟨r2, rfl, h⟩
      refine it_V.at (pc1 := 22) (ls1 := [some (.ref 1), some (.int v1), some (.int v2), some (.int v3), some (.int v4)]) (st1 := [(.int r2), (.int (v2 + v4)), (.ref 1)]) (mem1 := m3) rfl rfl rfl rfl ?_
      refine it_V.call it_cd19 it_m19 rfl it_m17 [(.ref 1), (.int (v2 + v4)), (.int r2)] [] rfl rfl ⟨Nat.le_of_ble_eq_true rfl, Nat.le_of_ble_eq_true rfl, Nat.le_of_ble_eq_true rfl, Nat.le_of_ble_eq_true rfl, rfl⟩ (s_17 kc (v2 + v4) r2 m3 _ h) ?_
      rintro _ m4 ⟨rfl, h⟩
      refine it_V.at (pc1 := 25) (ls1 := [some (.ref 1), some (.int v1), some (.int v2), some (.int v3), some (.int v4)]) (st1 := []) (mem1 := m4) rfl rfl rfl rfl ?_
      refine it_V.sN it_cd19 it_m19 2 (pc1 := 3) (ls1 := [some (.ref 1), some (.int v1), some (.int v2), some (.int v3), some (.int (v4 + (1 : Int32)))]) (st1 := []) (mem1 := m4) rfl ?_
      exact ih v1 v2 v3 (v4 + (1 : Int32)) m4 h
set_option maxRecDepth 100000 in
set_option maxHeartbeats 4000000 in
theorem s_19_31 (kc : it_Kc) (Φ : it_Me → Prop) (m : it_Me) (h : w_19_31 kc Φ m) : it_V kc it_sh0 19 31 [none, none, none, none, none] [] m (it_Pv Φ) := by
  rw [w_19_31] at h
  exact it_V.ret it_cd19 it_m19 rfl rfl ⟨rfl, h⟩
set_option maxRecDepth 100000 in
set_option maxHeartbeats 4000000 in
theorem s_19 (kc : it_Kc) (x0 : Int32) (x1 : Int32) (x2 : Int32) (m : it_Me) (Φ : it_Me → Prop) (h : w_19 kc x0 x1 x2 m Φ) : it_V kc it_sh0 19 0 (it_loc0 [(.ref 1), (.int x0), (.int x1), (.int x2)] 5) [] m (it_Pv Φ) := by
  rw [w_19] at h
  refine it_V.at (pc1 := 0) (ls1 := [some (.ref 1), some (.int x0), some (.int x1), some (.int x2), none]) (st1 := []) (mem1 := m) rfl rfl rfl rfl ?_
  refine it_V.sN it_cd19 it_m19 2 (pc1 := 3) (ls1 := [some (.ref 1), some (.int x0), some (.int x1), some (.int x2), some (.int (0 : Int32))]) (st1 := []) (mem1 := m) rfl ?_
  obtain ⟨n, h⟩ := h
  exact s_19_3 kc Φ _ (fun m h => s_19_31 kc Φ m h) n x0 x1 x2 (0 : Int32) m h
set_option maxRecDepth 100000 in
set_option maxHeartbeats 4000000 in
theorem s_23 (kc : it_Kc) (x0 : Int32) (x1 : Int32) (x2 : Int32) (x3 : Int32) (m : it_Me) (Φ : Int32 → it_Me → Prop) (h : w_23 kc x0 x1 x2 x3 m Φ) : it_V kc it_sh0 23 0 (it_loc0 [(.int x0), (.int x1), (.int x2), (.int x3)] 4) [] m (it_Pi Φ) := by
  rw [w_23] at h
  refine it_V.at (pc1 := 0) (ls1 := [some (.int x0), some (.int x1), some (.int x2), some (.int x3)]) (st1 := []) (mem1 := m) rfl rfl rfl rfl ?_
  refine it_V.sN it_cd23 it_m23 11 (pc1 := 11) (ls1 := [some (.int x0), some (.int x1), some (.int x2), some (.int x3)]) (st1 := [(.int (it_shl ((it_us x0 x1) &&& ((it_shl (1 : Int32) x2) - (1 : Int32))) x3))]) (mem1 := m) rfl ?_
  exact it_V.ret it_cd23 it_m23 rfl rfl ⟨_, rfl, h⟩
set_option maxRecDepth 100000 in
set_option maxHeartbeats 4000000 in
theorem s_24 (kc : it_Kc) (x0 : Int32) (x1 : Int32) (m : it_Me) (Φ : Int32 → it_Me → Prop) (h : w_24 kc x0 x1 m Φ) : it_V kc it_sh0 24 0 (it_loc0 [(.int x0), (.int x1)] 2) [] m (it_Pi Φ) := by
  rw [w_24] at h
  refine it_V.at (pc1 := 0) (ls1 := [some (.int x0), some (.int x1)]) (st1 := []) (mem1 := m) rfl rfl rfl rfl ?_
  refine it_V.sN it_cd24 it_m24 7 (pc1 := 9) (ls1 := [some (.int x0), some (.int x1)]) (st1 := [(.int ((8 : Int32) + ((it_us x0 x1) &&& (7 : Int32))))]) (mem1 := m) rfl ?_
  exact it_V.ret it_cd24 it_m24 rfl rfl ⟨_, rfl, h⟩
set_option maxRecDepth 100000 in
set_option maxHeartbeats 4000000 in
theorem s_25 (kc : it_Kc) (x0 : Int32) (x1 : Int32) (x2 : Int32) (x3 : Int32) (x4 : Int32) (m : it_Me) (Φ : Int32 → it_Me → Prop) (h : w_25 kc x0 x1 x2 x3 x4 m Φ) : it_V kc it_sh0 25 0 (it_loc0 [(.int x0), (.int x1), (.int x2), (.int x3), (.int x4)] 5) [] m (it_Pi Φ) := by
  rw [w_25] at h
  refine it_V.at (pc1 := 0) (ls1 := [some (.int x0), some (.int x1), some (.int x2), some (.int x3), some (.int x4)]) (st1 := []) (mem1 := m) rfl rfl rfl rfl ?_
  refine it_V.sN it_cd25 it_m25 17 (pc1 := 22) (ls1 := [some (.int x0), some (.int x1), some (.int x2), some (.int x3), some (.int x4)]) (st1 := [(.int (((((it_shl x4 (20 : Int32)) ||| (it_shl x3 (15 : Int32))) ||| (it_shl x1 (12 : Int32))) ||| (it_shl x2 (7 : Int32))) ||| x0))]) (mem1 := m) rfl ?_
  exact it_V.ret it_cd25 it_m25 rfl rfl ⟨_, rfl, h⟩
set_option maxRecDepth 100000 in
set_option maxHeartbeats 4000000 in
theorem s_27 (kc : it_Kc) (x0 : Int32) (x1 : Int32) (x2 : Int32) (m : it_Me) (Φ : Int32 → it_Me → Prop) (h : w_27 kc x0 x1 x2 m Φ) : it_V kc it_sh0 27 0 (it_loc0 [(.int x0), (.int x1), (.int x2)] 3) [] m (it_Pi Φ) := by
  rw [w_27] at h
  refine it_V.at (pc1 := 0) (ls1 := [some (.int x0), some (.int x1), some (.int x2)]) (st1 := []) (mem1 := m) rfl rfl rfl rfl ?_
  refine it_V.sN it_cd27 it_m27 23 (pc1 := 31) (ls1 := [some (.int x0), some (.int x1), some (.int x2)]) (st1 := [(.int ((((((it_shl (it_shr x2 (5 : Int32)) (25 : Int32)) ||| (it_shl x1 (20 : Int32))) ||| (it_shl x0 (15 : Int32))) ||| (8192 : Int32)) ||| (it_shl (x2 &&& (31 : Int32)) (7 : Int32))) ||| (35 : Int32)))]) (mem1 := m) rfl ?_
  exact it_V.ret it_cd27 it_m27 rfl rfl ⟨_, rfl, h⟩
set_option maxRecDepth 100000 in
set_option maxHeartbeats 4000000 in
theorem s_28_121 (kc : it_Kc) (Φ : Int32 → it_Me → Prop) (u0 : Int32) (m : it_Me) (h : w_28_121 kc Φ u0 m) : it_V kc it_sh0 28 121 [none, none, none] [(.int u0)] m (it_Pi Φ) := by
  rw [w_28_121] at h
  exact it_V.ret it_cd28 it_m28 rfl rfl ⟨_, rfl, h⟩
set_option maxRecDepth 100000 in
set_option maxHeartbeats 4000000 in
theorem s_28 (kc : it_Kc) (x0 : Int32) (m : it_Me) (Φ : Int32 → it_Me → Prop) (h : w_28 kc x0 m Φ) : it_V kc it_sh0 28 0 (it_loc0 [(.int x0)] 3) [] m (it_Pi Φ) := by
  rw [w_28] at h
  refine it_V.at (pc1 := 0) (ls1 := [some (.int x0), none, none]) (st1 := []) (mem1 := m) rfl rfl rfl rfl ?_
  refine it_V.sN it_cd28 it_m28 4 (pc1 := 5) (ls1 := [some (.int x0), none, none]) (st1 := [(.int (3 : Int32)), (.int (3 : Int32)), (.int (10 : Int32)), (.int x0)]) (mem1 := m) rfl ?_
  refine it_V.call it_cd28 it_m28 rfl it_m23 [(.int x0), (.int (10 : Int32)), (.int (3 : Int32)), (.int (3 : Int32))] [] rfl rfl ⟨Nat.le_of_ble_eq_true rfl, Nat.le_of_ble_eq_true rfl, Nat.le_of_ble_eq_true rfl, Nat.le_of_ble_eq_true rfl, rfl⟩ (s_23 kc x0 (10 : Int32) (3 : Int32) (3 : Int32) m _ h) ?_
  rintro _ m2 ⟨r1, rfl, h⟩
  refine it_V.at (pc1 := 8) (ls1 := [some (.int x0), none, none]) (st1 := [(.int r1)]) (mem1 := m2) rfl rfl rfl rfl ?_
  refine it_V.sN it_cd28 it_m28 4 (pc1 := 13) (ls1 := [some (.int x0), none, none]) (st1 := [(.int (2 : Int32)), (.int (1 : Int32)), (.int (6 : Int32)), (.int x0), (.int r1)]) (mem1 := m2) rfl ?_
  refine it_V.call it_cd28 it_m28 rfl it_m23 [(.int x0), (.int (6 : Int32)), (.int (1 : Int32)), (.int (2 : Int32))] [(.int r1)] rfl rfl ⟨Nat.le_of_ble_eq_true rfl, Nat.le_of_ble_eq_true rfl, Nat.le_of_ble_eq_true rfl, Nat.le_of_ble_eq_true rfl, rfl⟩ (s_23 kc x0 (6 : Int32) (1 : Int32) (2 : Int32) m2 _ h) ?_
  rintro _ m4 ⟨r3, rfl, h⟩
  refine it_V.at (pc1 := 16) (ls1 := [some (.int x0), none, none]) (st1 := [(.int r3), (.int r1)]) (mem1 := m4) rfl rfl rfl rfl ?_
  refine it_V.sN it_cd28 it_m28 5 (pc1 := 22) (ls1 := [some (.int x0), none, none]) (st1 := [(.int (6 : Int32)), (.int (1 : Int32)), (.int (5 : Int32)), (.int x0), (.int (r1 ||| r3))]) (mem1 := m4) rfl ?_
  refine it_V.call it_cd28 it_m28 rfl it_m23 [(.int x0), (.int (5 : Int32)), (.int (1 : Int32)), (.int (6 : Int32))] [(.int (r1 ||| r3))] rfl rfl ⟨Nat.le_of_ble_eq_true rfl, Nat.le_of_ble_eq_true rfl, Nat.le_of_ble_eq_true rfl, Nat.le_of_ble_eq_true rfl, rfl⟩ (s_23 kc x0 (5 : Int32) (1 : Int32) (6 : Int32) m4 _ h) ?_
  rintro _ m6 ⟨r5, rfl, h⟩
  refine it_V.at (pc1 := 25) (ls1 := [some (.int x0), none, none]) (st1 := [(.int r5), (.int (r1 ||| r3))]) (mem1 := m6) rfl rfl rfl rfl ?_
  refine it_V.sN it_cd28 it_m28 5 (pc1 := 31) (ls1 := [some (.int x0), some (.int ((r1 ||| r3) ||| r5)), none]) (st1 := [(.int (it_us x0 (13 : Int32)))]) (mem1 := m6) rfl ?_
  refine it_V.sN it_cd28 it_m28 1 (pc1 := (if (it_us x0 (13 : Int32)) = (0 : Int32) then 64 else (if (it_us x0 (13 : Int32)) = (2 : Int32) then 122 else (if (it_us x0 (13 : Int32)) = (6 : Int32) then 140 else 156)))) (ls1 := [some (.int x0), some (.int ((r1 ||| r3) ||| r5)), none]) (st1 := []) (mem1 := m6) rfl ?_
  refine it_V.ite (fun c7 => ?_) (fun c7 => ?_)
  · have h := h.1 c7
    refine it_V.sN it_cd28 it_m28 4 (pc1 := 69) (ls1 := [some (.int x0), some (.int ((r1 ||| r3) ||| r5)), none]) (st1 := [(.int (4 : Int32)), (.int (2 : Int32)), (.int (11 : Int32)), (.int x0)]) (mem1 := m6) rfl ?_
    refine it_V.call it_cd28 it_m28 rfl it_m23 [(.int x0), (.int (11 : Int32)), (.int (2 : Int32)), (.int (4 : Int32))] [] rfl rfl ⟨Nat.le_of_ble_eq_true rfl, Nat.le_of_ble_eq_true rfl, Nat.le_of_ble_eq_true rfl, Nat.le_of_ble_eq_true rfl, rfl⟩ (s_23 kc x0 (11 : Int32) (2 : Int32) (4 : Int32) m6 _ h) ?_
    rintro _ m9 ⟨r8, rfl, h⟩
    refine it_V.at (pc1 := 72) (ls1 := [some (.int x0), some (.int ((r1 ||| r3) ||| r5)), none]) (st1 := [(.int r8)]) (mem1 := m9) rfl rfl rfl rfl ?_
    refine it_V.sN it_cd28 it_m28 4 (pc1 := 78) (ls1 := [some (.int x0), some (.int ((r1 ||| r3) ||| r5)), none]) (st1 := [(.int (6 : Int32)), (.int (4 : Int32)), (.int (7 : Int32)), (.int x0), (.int r8)]) (mem1 := m9) rfl ?_
    refine it_V.call it_cd28 it_m28 rfl it_m23 [(.int x0), (.int (7 : Int32)), (.int (4 : Int32)), (.int (6 : Int32))] [(.int r8)] rfl rfl ⟨Nat.le_of_ble_eq_true rfl, Nat.le_of_ble_eq_true rfl, Nat.le_of_ble_eq_true rfl, Nat.le_of_ble_eq_true rfl, rfl⟩ (s_23 kc x0 (7 : Int32) (4 : Int32) (6 : Int32) m9 _ h) ?_
    rintro _ m11 ⟨r10, rfl, h⟩
    refine it_V.at (pc1 := 81) (ls1 := [some (.int x0), some (.int ((r1 ||| r3) ||| r5)), none]) (st1 := [(.int r10), (.int r8)]) (mem1 := m11) rfl rfl rfl rfl ?_
    refine it_V.sN it_cd28 it_m28 5 (pc1 := 87) (ls1 := [some (.int x0), some (.int ((r1 ||| r3) ||| r5)), none]) (st1 := [(.int (2 : Int32)), (.int (1 : Int32)), (.int (6 : Int32)), (.int x0), (.int (r8 ||| r10))]) (mem1 := m11) rfl ?_
    refine it_V.call it_cd28 it_m28 rfl it_m23 [(.int x0), (.int (6 : Int32)), (.int (1 : Int32)), (.int (2 : Int32))] [(.int (r8 ||| r10))] rfl rfl ⟨Nat.le_of_ble_eq_true rfl, Nat.le_of_ble_eq_true rfl, Nat.le_of_ble_eq_true rfl, Nat.le_of_ble_eq_true rfl, rfl⟩ (s_23 kc x0 (6 : Int32) (1 : Int32) (2 : Int32) m11 _ h) ?_
    rintro _ m13 ⟨r12, rfl, h⟩
    refine it_V.at (pc1 := 90) (ls1 := [some (.int x0), some (.int ((r1 ||| r3) ||| r5)), none]) (st1 := [(.int r12), (.int (r8 ||| r10))]) (mem1 := m13) rfl rfl rfl rfl ?_
    refine it_V.sN it_cd28 it_m28 5 (pc1 := 95) (ls1 := [some (.int x0), some (.int ((r1 ||| r3) ||| r5)), none]) (st1 := [(.int (3 : Int32)), (.int (1 : Int32)), (.int (5 : Int32)), (.int x0), (.int ((r8 ||| r10) ||| r12))]) (mem1 := m13) rfl ?_
    refine it_V.call it_cd28 it_m28 rfl it_m23 [(.int x0), (.int (5 : Int32)), (.int (1 : Int32)), (.int (3 : Int32))] [(.int ((r8 ||| r10) ||| r12))] rfl rfl ⟨Nat.le_of_ble_eq_true rfl, Nat.le_of_ble_eq_true rfl, Nat.le_of_ble_eq_true rfl, Nat.le_of_ble_eq_true rfl, rfl⟩ (s_23 kc x0 (5 : Int32) (1 : Int32) (3 : Int32) m13 _ h) ?_
    rintro _ m15 ⟨r14, rfl, h⟩
    refine it_V.at (pc1 := 98) (ls1 := [some (.int x0), some (.int ((r1 ||| r3) ||| r5)), none]) (st1 := [(.int r14), (.int ((r8 ||| r10) ||| r12))]) (mem1 := m15) rfl rfl rfl rfl ?_
    refine it_V.sN it_cd28 it_m28 4 (pc1 := (if (((r8 ||| r10) ||| r12) ||| r14) = 0 then 104 else 108)) (ls1 := [some (.int x0), some (.int ((r1 ||| r3) ||| r5)), some (.int (((r8 ||| r10) ||| r12) ||| r14))]) (st1 := []) (mem1 := m15) rfl ?_
    refine it_V.ite (fun c16 => ?_) (fun c16 => ?_)
    · have h := h.1 c16
      refine it_V.sN it_cd28 it_m28 2 (pc1 := 121) (ls1 := [some (.int x0), some (.int ((r1 ||| r3) ||| r5)), some (.int (((r8 ||| r10) ||| r12) ||| r14))]) (st1 := [(.int (0 : Int32))]) (mem1 := m15) rfl ?_
      refine it_V.weak (l := [none, none, none]) trivial ?_
      exact s_28_121 kc Φ (0 : Int32) m15 h
    · have h := h.2 c16
      refine it_V.sN it_cd28 it_m28 4 (pc1 := 113) (ls1 := [some (.int x0), some (.int ((r1 ||| r3) ||| r5)), some (.int (((r8 ||| r10) ||| r12) ||| r14))]) (st1 := [(.int (2 : Int32)), (.int x0), (.int (0 : Int32)), (.int (19 : Int32))]) (mem1 := m15) rfl ?_
      refine it_V.call it_cd28 it_m28 rfl it_m24 [(.int x0), (.int (2 : Int32))] [(.int (0 : Int32)), (.int (19 : Int32))] rfl rfl ⟨Nat.le_of_ble_eq_true rfl, Nat.le_of_ble_eq_true rfl, Nat.le_of_ble_eq_true rfl, Nat.le_of_ble_eq_true rfl, rfl⟩ (s_24 kc x0 (2 : Int32) m15 _ h) ?_
      rintro _ m18 ⟨r17, rfl, h⟩
      refine it_V.at (pc1 := 116) (ls1 := [some (.int x0), some (.int ((r1 ||| r3) ||| r5)), some (.int (((r8 ||| r10) ||| r12) ||| r14))]) (st1 := [(.int r17), (.int (0 : Int32)), (.int (19 : Int32))]) (mem1 := m18) rfl rfl rfl rfl ?_
      refine it_V.sN it_cd28 it_m28 2 (pc1 := 118) (ls1 := [some (.int x0), some (.int ((r1 ||| r3) ||| r5)), some (.int (((r8 ||| r10) ||| r12) ||| r14))]) (st1 := [(.int (((r8 ||| r10) ||| r12) ||| r14)), (.int (2 : Int32)), (.int r17), (.int (0 : Int32)), (.int (19 : Int32))]) (mem1 := m18) rfl ?_
      refine it_V.call it_cd28 it_m28 rfl it_m25 [(.int (19 : Int32)), (.int (0 : Int32)), (.int r17), (.int (2 : Int32)), (.int (((r8 ||| r10) ||| r12) ||| r14))] [] rfl rfl ⟨Nat.le_of_ble_eq_true rfl, Nat.le_of_ble_eq_true rfl, Nat.le_of_ble_eq_true rfl, Nat.le_of_ble_eq_true rfl, rfl⟩ (s_25 kc (19 : Int32) (0 : Int32) r17 (2 : Int32) (((r8 ||| r10) ||| r12) ||| r14) m18 _ h) ?_
      rintro _ m20 ⟨r19, rfl, h⟩
      refine it_V.at (pc1 := 121) (ls1 := [some (.int x0), some (.int ((r1 ||| r3) ||| r5)), some (.int (((r8 ||| r10) ||| r12) ||| r14))]) (st1 := [(.int r19)]) (mem1 := m20) rfl rfl rfl rfl ?_
      refine it_V.weak (l := [none, none, none]) trivial ?_
      exact s_28_121 kc Φ r19 m20 h
  · have h := h.2 c7
    refine it_V.ite (fun c21 => ?_) (fun c21 => ?_)
    · have h := h.1 c21
      refine it_V.sN it_cd28 it_m28 4 (pc1 := 126) (ls1 := [some (.int x0), some (.int ((r1 ||| r3) ||| r5)), none]) (st1 := [(.int (2 : Int32)), (.int x0), (.int (2 : Int32)), (.int (3 : Int32))]) (mem1 := m6) rfl ?_
      refine it_V.call it_cd28 it_m28 rfl it_m24 [(.int x0), (.int (2 : Int32))] [(.int (2 : Int32)), (.int (3 : Int32))] rfl rfl ⟨Nat.le_of_ble_eq_true rfl, Nat.le_of_ble_eq_true rfl, Nat.le_of_ble_eq_true rfl, Nat.le_of_ble_eq_true rfl, rfl⟩ (s_24 kc x0 (2 : Int32) m6 _ h) ?_
      rintro _ m23 ⟨r22, rfl, h⟩
      refine it_V.at (pc1 := 129) (ls1 := [some (.int x0), some (.int ((r1 ||| r3) ||| r5)), none]) (st1 := [(.int r22), (.int (2 : Int32)), (.int (3 : Int32))]) (mem1 := m23) rfl rfl rfl rfl ?_
      refine it_V.sN it_cd28 it_m28 2 (pc1 := 132) (ls1 := [some (.int x0), some (.int ((r1 ||| r3) ||| r5)), none]) (st1 := [(.int (7 : Int32)), (.int x0), (.int r22), (.int (2 : Int32)), (.int (3 : Int32))]) (mem1 := m23) rfl ?_
      refine it_V.call it_cd28 it_m28 rfl it_m24 [(.int x0), (.int (7 : Int32))] [(.int r22), (.int (2 : Int32)), (.int (3 : Int32))] rfl rfl ⟨Nat.le_of_ble_eq_true rfl, Nat.le_of_ble_eq_true rfl, Nat.le_of_ble_eq_true rfl, Nat.le_of_ble_eq_true rfl, rfl⟩ (s_24 kc x0 (7 : Int32) m23 _ h) ?_
      rintro _ m25 ⟨r24, rfl, h⟩
      refine it_V.at (pc1 := 135) (ls1 := [some (.int x0), some (.int ((r1 ||| r3) ||| r5)), none]) (st1 := [(.int r24), (.int r22), (.int (2 : Int32)), (.int (3 : Int32))]) (mem1 := m25) rfl rfl rfl rfl ?_
      refine it_V.sN it_cd28 it_m28 1 (pc1 := 136) (ls1 := [some (.int x0), some (.int ((r1 ||| r3) ||| r5)), none]) (st1 := [(.int ((r1 ||| r3) ||| r5)), (.int r24), (.int r22), (.int (2 : Int32)), (.int (3 : Int32))]) (mem1 := m25) rfl ?_
      refine it_V.call it_cd28 it_m28 rfl it_m25 [(.int (3 : Int32)), (.int (2 : Int32)), (.int r22), (.int r24), (.int ((r1 ||| r3) ||| r5))] [] rfl rfl ⟨Nat.le_of_ble_eq_true rfl, Nat.le_of_ble_eq_true rfl, Nat.le_of_ble_eq_true rfl, Nat.le_of_ble_eq_true rfl, rfl⟩ (s_25 kc (3 : Int32) (2 : Int32) r22 r24 ((r1 ||| r3) ||| r5) m25 _ h) ?_
      rintro _ m27 ⟨r26, rfl, h⟩
      refine it_V.at (pc1 := 139) (ls1 := [some (.int x0), some (.int ((r1 ||| r3) ||| r5)), none]) (st1 := [(.int r26)]) (mem1 := m27) rfl rfl rfl rfl ?_
      exact it_V.ret it_cd28 it_m28 rfl rfl ⟨_, rfl, h⟩
    · have h := h.2 c21
      refine it_V.ite (fun c28 => ?_) (fun c28 => ?_)
      · have h := h.1 c28
        refine it_V.sN it_cd28 it_m28 2 (pc1 := 143) (ls1 := [some (.int x0), some (.int ((r1 ||| r3) ||| r5)), none]) (st1 := [(.int (7 : Int32)), (.int x0)]) (mem1 := m6) rfl ?_
        refine it_V.call it_cd28 it_m28 rfl it_m24 [(.int x0), (.int (7 : Int32))] [] rfl rfl ⟨Nat.le_of_ble_eq_true rfl, Nat.le_of_ble_eq_true rfl, Nat.le_of_ble_eq_true rfl, Nat.le_of_ble_eq_true rfl, rfl⟩ (s_24 kc x0 (7 : Int32) m6 _ h) ?_
        rintro _ m30 ⟨r29, rfl, h⟩
        refine it_V.at (pc1 := 146) (ls1 := [some (.int x0), some (.int ((r1 ||| r3) ||| r5)), none]) (st1 := [(.int r29)]) (mem1 := m30) rfl rfl rfl rfl ?_
        refine it_V.sN it_cd28 it_m28 2 (pc1 := 148) (ls1 := [some (.int x0), some (.int ((r1 ||| r3) ||| r5)), none]) (st1 := [(.int (2 : Int32)), (.int x0), (.int r29)]) (mem1 := m30) rfl ?_
        refine it_V.call it_cd28 it_m28 rfl it_m24 [(.int x0), (.int (2 : Int32))] [(.int r29)] rfl rfl ⟨Nat.le_of_ble_eq_true rfl, Nat.le_of_ble_eq_true rfl, Nat.le_of_ble_eq_true rfl, Nat.le_of_ble_eq_true rfl, rfl⟩ (s_24 kc x0 (2 : Int32) m30 _ h) ?_
        rintro _ m32 ⟨r31, rfl, h⟩
        refine it_V.at (pc1 := 151) (ls1 := [some (.int x0), some (.int ((r1 ||| r3) ||| r5)), none]) (st1 := [(.int r31), (.int r29)]) (mem1 := m32) rfl rfl rfl rfl ?_
        refine it_V.sN it_cd28 it_m28 1 (pc1 := 152) (ls1 := [some (.int x0), some (.int ((r1 ||| r3) ||| r5)), none]) (st1 := [(.int ((r1 ||| r3) ||| r5)), (.int r31), (.int r29)]) (mem1 := m32) rfl ?_
        refine it_V.call it_cd28 it_m28 rfl it_m27 [(.int r29), (.int r31), (.int ((r1 ||| r3) ||| r5))] [] rfl rfl ⟨Nat.le_of_ble_eq_true rfl, Nat.le_of_ble_eq_true rfl, Nat.le_of_ble_eq_true rfl, Nat.le_of_ble_eq_true rfl, rfl⟩ (s_27 kc r29 r31 ((r1 ||| r3) ||| r5) m32 _ h) ?_
        rintro _ m34 ⟨r33, rfl, h⟩
        refine it_V.at (pc1 := 155) (ls1 := [some (.int x0), some (.int ((r1 ||| r3) ||| r5)), none]) (st1 := [(.int r33)]) (mem1 := m34) rfl rfl rfl rfl ?_
        exact it_V.ret it_cd28 it_m28 rfl rfl ⟨_, rfl, h⟩
      · have h := h.2 c28
        refine it_V.sN it_cd28 it_m28 1 (pc1 := 157) (ls1 := [some (.int x0), some (.int ((r1 ||| r3) ||| r5)), none]) (st1 := [(.int (0 : Int32))]) (mem1 := m6) rfl ?_
        exact it_V.ret it_cd28 it_m28 rfl rfl ⟨_, rfl, h⟩
set_option maxRecDepth 100000 in
set_option maxHeartbeats 4000000 in
theorem s_30_63 (kc : it_Kc) (Φ : Int32 → it_Me → Prop) (u0 : Int32) (m : it_Me) (h : w_30_63 kc Φ u0 m) : it_V kc it_sh0 30 63 [none, none] [(.int u0)] m (it_Pi Φ) := by
  rw [w_30_63] at h
  exact it_V.ret it_cd30 it_m30 rfl rfl ⟨_, rfl, h⟩
set_option maxRecDepth 100000 in
set_option maxHeartbeats 4000000 in
theorem s_30 (kc : it_Kc) (x0 : Int32) (m : it_Me) (Φ : Int32 → it_Me → Prop) (h : w_30 kc x0 m Φ) : it_V kc it_sh0 30 0 (it_loc0 [(.int x0)] 2) [] m (it_Pi Φ) := by
  rw [w_30] at h
  refine it_V.at (pc1 := 0) (ls1 := [some (.int x0), none]) (st1 := []) (mem1 := m) rfl rfl rfl rfl ?_
  refine it_V.sN it_cd30 it_m30 11 (pc1 := 15) (ls1 := [some (.int x0), none]) (st1 := [(.int (4 : Int32)), (.int (1 : Int32)), (.int (6 : Int32)), (.int x0), (.int (it_shl (it_shr (it_shl x0 (19 : Int32)) (31 : Int32)) (9 : Int32)))]) (mem1 := m) rfl ?_
  refine it_V.call it_cd30 it_m30 rfl it_m23 [(.int x0), (.int (6 : Int32)), (.int (1 : Int32)), (.int (4 : Int32))] [(.int (it_shl (it_shr (it_shl x0 (19 : Int32)) (31 : Int32)) (9 : Int32)))] rfl rfl ⟨Nat.le_of_ble_eq_true rfl, Nat.le_of_ble_eq_true rfl, Nat.le_of_ble_eq_true rfl, Nat.le_of_ble_eq_true rfl, rfl⟩ (s_23 kc x0 (6 : Int32) (1 : Int32) (4 : Int32) m _ h) ?_
  rintro _ m2 ⟨r1, rfl, h⟩
  refine it_V.at (pc1 := 18) (ls1 := [some (.int x0), none]) (st1 := [(.int r1), (.int (it_shl (it_shr (it_shl x0 (19 : Int32)) (31 : Int32)) (9 : Int32)))]) (mem1 := m2) rfl rfl rfl rfl ?_
  refine it_V.sN it_cd30 it_m30 5 (pc1 := 24) (ls1 := [some (.int x0), none]) (st1 := [(.int (6 : Int32)), (.int (1 : Int32)), (.int (5 : Int32)), (.int x0), (.int ((it_shl (it_shr (it_shl x0 (19 : Int32)) (31 : Int32)) (9 : Int32)) ||| r1))]) (mem1 := m2) rfl ?_
  refine it_V.call it_cd30 it_m30 rfl it_m23 [(.int x0), (.int (5 : Int32)), (.int (1 : Int32)), (.int (6 : Int32))] [(.int ((it_shl (it_shr (it_shl x0 (19 : Int32)) (31 : Int32)) (9 : Int32)) ||| r1))] rfl rfl ⟨Nat.le_of_ble_eq_true rfl, Nat.le_of_ble_eq_true rfl, Nat.le_of_ble_eq_true rfl, Nat.le_of_ble_eq_true rfl, rfl⟩ (s_23 kc x0 (5 : Int32) (1 : Int32) (6 : Int32) m2 _ h) ?_
  rintro _ m4 ⟨r3, rfl, h⟩
  refine it_V.at (pc1 := 27) (ls1 := [some (.int x0), none]) (st1 := [(.int r3), (.int ((it_shl (it_shr (it_shl x0 (19 : Int32)) (31 : Int32)) (9 : Int32)) ||| r1))]) (mem1 := m4) rfl rfl rfl rfl ?_
  refine it_V.sN it_cd30 it_m30 5 (pc1 := 33) (ls1 := [some (.int x0), none]) (st1 := [(.int (7 : Int32)), (.int (2 : Int32)), (.int (3 : Int32)), (.int x0), (.int (((it_shl (it_shr (it_shl x0 (19 : Int32)) (31 : Int32)) (9 : Int32)) ||| r1) ||| r3))]) (mem1 := m4) rfl ?_
  refine it_V.call it_cd30 it_m30 rfl it_m23 [(.int x0), (.int (3 : Int32)), (.int (2 : Int32)), (.int (7 : Int32))] [(.int (((it_shl (it_shr (it_shl x0 (19 : Int32)) (31 : Int32)) (9 : Int32)) ||| r1) ||| r3))] rfl rfl ⟨Nat.le_of_ble_eq_true rfl, Nat.le_of_ble_eq_true rfl, Nat.le_of_ble_eq_true rfl, Nat.le_of_ble_eq_true rfl, rfl⟩ (s_23 kc x0 (3 : Int32) (2 : Int32) (7 : Int32) m4 _ h) ?_
  rintro _ m6 ⟨r5, rfl, h⟩
  refine it_V.at (pc1 := 36) (ls1 := [some (.int x0), none]) (st1 := [(.int r5), (.int (((it_shl (it_shr (it_shl x0 (19 : Int32)) (31 : Int32)) (9 : Int32)) ||| r1) ||| r3))]) (mem1 := m6) rfl rfl rfl rfl ?_
  refine it_V.sN it_cd30 it_m30 5 (pc1 := 41) (ls1 := [some (.int x0), none]) (st1 := [(.int (5 : Int32)), (.int (1 : Int32)), (.int (2 : Int32)), (.int x0), (.int ((((it_shl (it_shr (it_shl x0 (19 : Int32)) (31 : Int32)) (9 : Int32)) ||| r1) ||| r3) ||| r5))]) (mem1 := m6) rfl ?_
  refine it_V.call it_cd30 it_m30 rfl it_m23 [(.int x0), (.int (2 : Int32)), (.int (1 : Int32)), (.int (5 : Int32))] [(.int ((((it_shl (it_shr (it_shl x0 (19 : Int32)) (31 : Int32)) (9 : Int32)) ||| r1) ||| r3) ||| r5))] rfl rfl ⟨Nat.le_of_ble_eq_true rfl, Nat.le_of_ble_eq_true rfl, Nat.le_of_ble_eq_true rfl, Nat.le_of_ble_eq_true rfl, rfl⟩ (s_23 kc x0 (2 : Int32) (1 : Int32) (5 : Int32) m6 _ h) ?_
  rintro _ m8 ⟨r7, rfl, h⟩
  refine it_V.at (pc1 := 44) (ls1 := [some (.int x0), none]) (st1 := [(.int r7), (.int ((((it_shl (it_shr (it_shl x0 (19 : Int32)) (31 : Int32)) (9 : Int32)) ||| r1) ||| r3) ||| r5))]) (mem1 := m8) rfl rfl rfl rfl ?_
  refine it_V.sN it_cd30 it_m30 4 (pc1 := (if (((((it_shl (it_shr (it_shl x0 (19 : Int32)) (31 : Int32)) (9 : Int32)) ||| r1) ||| r3) ||| r5) ||| r7) = 0 then 50 else 54)) (ls1 := [some (.int x0), some (.int (((((it_shl (it_shr (it_shl x0 (19 : Int32)) (31 : Int32)) (9 : Int32)) ||| r1) ||| r3) ||| r5) ||| r7))]) (st1 := []) (mem1 := m8) rfl ?_
  refine it_V.ite (fun c9 => ?_) (fun c9 => ?_)
  · have h := h.1 c9
    refine it_V.sN it_cd30 it_m30 2 (pc1 := 63) (ls1 := [some (.int x0), some (.int (((((it_shl (it_shr (it_shl x0 (19 : Int32)) (31 : Int32)) (9 : Int32)) ||| r1) ||| r3) ||| r5) ||| r7))]) (st1 := [(.int (0 : Int32))]) (mem1 := m8) rfl ?_
    refine it_V.weak (l := [none, none]) trivial ?_
    exact s_30_63 kc Φ (0 : Int32) m8 h
  · have h := h.2 c9
    refine it_V.sN it_cd30 it_m30 5 (pc1 := 60) (ls1 := [some (.int x0), some (.int (((((it_shl (it_shr (it_shl x0 (19 : Int32)) (31 : Int32)) (9 : Int32)) ||| r1) ||| r3) ||| r5) ||| r7))]) (st1 := [(.int (((((it_shl (it_shr (it_shl x0 (19 : Int32)) (31 : Int32)) (9 : Int32)) ||| r1) ||| r3) ||| r5) ||| r7)), (.int (2 : Int32)), (.int (2 : Int32)), (.int (0 : Int32)), (.int (19 : Int32))]) (mem1 := m8) rfl ?_
    refine it_V.call it_cd30 it_m30 rfl it_m25 [(.int (19 : Int32)), (.int (0 : Int32)), (.int (2 : Int32)), (.int (2 : Int32)), (.int (((((it_shl (it_shr (it_shl x0 (19 : Int32)) (31 : Int32)) (9 : Int32)) ||| r1) ||| r3) ||| r5) ||| r7))] [] rfl rfl ⟨Nat.le_of_ble_eq_true rfl, Nat.le_of_ble_eq_true rfl, Nat.le_of_ble_eq_true rfl, Nat.le_of_ble_eq_true rfl, rfl⟩ (s_25 kc (19 : Int32) (0 : Int32) (2 : Int32) (2 : Int32) (((((it_shl (it_shr (it_shl x0 (19 : Int32)) (31 : Int32)) (9 : Int32)) ||| r1) ||| r3) ||| r5) ||| r7) m8 _ h) ?_
    rintro _ m11 ⟨r10, rfl, h⟩
    refine it_V.at (pc1 := 63) (ls1 := [some (.int x0), some (.int (((((it_shl (it_shr (it_shl x0 (19 : Int32)) (31 : Int32)) (9 : Int32)) ||| r1) ||| r3) ||| r5) ||| r7))]) (st1 := [(.int r10)]) (mem1 := m11) rfl rfl rfl rfl ?_
    refine it_V.weak (l := [none, none]) trivial ?_
    exact s_30_63 kc Φ r10 m11 h
set_option maxRecDepth 100000 in
set_option maxHeartbeats 4000000 in
theorem s_31 (kc : it_Kc) (x0 : Int32) (x1 : Int32) (m : it_Me) (Φ : Int32 → it_Me → Prop) (h : w_31 kc x0 x1 m Φ) : it_V kc it_sh0 31 0 (it_loc0 [(.int x0), (.int x1)] 3) [] m (it_Pi Φ) := by
  rw [w_31] at h
  refine it_V.at (pc1 := 0) (ls1 := [some (.int x0), some (.int x1), none]) (st1 := []) (mem1 := m) rfl rfl rfl rfl ?_
  refine it_V.sN it_cd31 it_m31 11 (pc1 := 15) (ls1 := [some (.int x0), some (.int x1), none]) (st1 := [(.int (4 : Int32)), (.int (1 : Int32)), (.int (11 : Int32)), (.int x0), (.int (it_shl (it_shr (it_shl x0 (19 : Int32)) (31 : Int32)) (11 : Int32)))]) (mem1 := m) rfl ?_
  refine it_V.call it_cd31 it_m31 rfl it_m23 [(.int x0), (.int (11 : Int32)), (.int (1 : Int32)), (.int (4 : Int32))] [(.int (it_shl (it_shr (it_shl x0 (19 : Int32)) (31 : Int32)) (11 : Int32)))] rfl rfl ⟨Nat.le_of_ble_eq_true rfl, Nat.le_of_ble_eq_true rfl, Nat.le_of_ble_eq_true rfl, Nat.le_of_ble_eq_true rfl, rfl⟩ (s_23 kc x0 (11 : Int32) (1 : Int32) (4 : Int32) m _ h) ?_
  rintro _ m2 ⟨r1, rfl, h⟩
  refine it_V.at (pc1 := 18) (ls1 := [some (.int x0), some (.int x1), none]) (st1 := [(.int r1), (.int (it_shl (it_shr (it_shl x0 (19 : Int32)) (31 : Int32)) (11 : Int32)))]) (mem1 := m2) rfl rfl rfl rfl ?_
  refine it_V.sN it_cd31 it_m31 5 (pc1 := 25) (ls1 := [some (.int x0), some (.int x1), none]) (st1 := [(.int (8 : Int32)), (.int (2 : Int32)), (.int (9 : Int32)), (.int x0), (.int ((it_shl (it_shr (it_shl x0 (19 : Int32)) (31 : Int32)) (11 : Int32)) ||| r1))]) (mem1 := m2) rfl ?_
  refine it_V.call it_cd31 it_m31 rfl it_m23 [(.int x0), (.int (9 : Int32)), (.int (2 : Int32)), (.int (8 : Int32))] [(.int ((it_shl (it_shr (it_shl x0 (19 : Int32)) (31 : Int32)) (11 : Int32)) ||| r1))] rfl rfl ⟨Nat.le_of_ble_eq_true rfl, Nat.le_of_ble_eq_true rfl, Nat.le_of_ble_eq_true rfl, Nat.le_of_ble_eq_true rfl, rfl⟩ (s_23 kc x0 (9 : Int32) (2 : Int32) (8 : Int32) m2 _ h) ?_
  rintro _ m4 ⟨r3, rfl, h⟩
  refine it_V.at (pc1 := 28) (ls1 := [some (.int x0), some (.int x1), none]) (st1 := [(.int r3), (.int ((it_shl (it_shr (it_shl x0 (19 : Int32)) (31 : Int32)) (11 : Int32)) ||| r1))]) (mem1 := m4) rfl rfl rfl rfl ?_
  refine it_V.sN it_cd31 it_m31 5 (pc1 := 35) (ls1 := [some (.int x0), some (.int x1), none]) (st1 := [(.int (10 : Int32)), (.int (1 : Int32)), (.int (8 : Int32)), (.int x0), (.int (((it_shl (it_shr (it_shl x0 (19 : Int32)) (31 : Int32)) (11 : Int32)) ||| r1) ||| r3))]) (mem1 := m4) rfl ?_
  refine it_V.call it_cd31 it_m31 rfl it_m23 [(.int x0), (.int (8 : Int32)), (.int (1 : Int32)), (.int (10 : Int32))] [(.int (((it_shl (it_shr (it_shl x0 (19 : Int32)) (31 : Int32)) (11 : Int32)) ||| r1) ||| r3))] rfl rfl ⟨Nat.le_of_ble_eq_true rfl, Nat.le_of_ble_eq_true rfl, Nat.le_of_ble_eq_true rfl, Nat.le_of_ble_eq_true rfl, rfl⟩ (s_23 kc x0 (8 : Int32) (1 : Int32) (10 : Int32) m4 _ h) ?_
  rintro _ m6 ⟨r5, rfl, h⟩
  refine it_V.at (pc1 := 38) (ls1 := [some (.int x0), some (.int x1), none]) (st1 := [(.int r5), (.int (((it_shl (it_shr (it_shl x0 (19 : Int32)) (31 : Int32)) (11 : Int32)) ||| r1) ||| r3))]) (mem1 := m6) rfl rfl rfl rfl ?_
  refine it_V.sN it_cd31 it_m31 5 (pc1 := 45) (ls1 := [some (.int x0), some (.int x1), none]) (st1 := [(.int (6 : Int32)), (.int (1 : Int32)), (.int (7 : Int32)), (.int x0), (.int ((((it_shl (it_shr (it_shl x0 (19 : Int32)) (31 : Int32)) (11 : Int32)) ||| r1) ||| r3) ||| r5))]) (mem1 := m6) rfl ?_
  refine it_V.call it_cd31 it_m31 rfl it_m23 [(.int x0), (.int (7 : Int32)), (.int (1 : Int32)), (.int (6 : Int32))] [(.int ((((it_shl (it_shr (it_shl x0 (19 : Int32)) (31 : Int32)) (11 : Int32)) ||| r1) ||| r3) ||| r5))] rfl rfl ⟨Nat.le_of_ble_eq_true rfl, Nat.le_of_ble_eq_true rfl, Nat.le_of_ble_eq_true rfl, Nat.le_of_ble_eq_true rfl, rfl⟩ (s_23 kc x0 (7 : Int32) (1 : Int32) (6 : Int32) m6 _ h) ?_
  rintro _ m8 ⟨r7, rfl, h⟩
  refine it_V.at (pc1 := 48) (ls1 := [some (.int x0), some (.int x1), none]) (st1 := [(.int r7), (.int ((((it_shl (it_shr (it_shl x0 (19 : Int32)) (31 : Int32)) (11 : Int32)) ||| r1) ||| r3) ||| r5))]) (mem1 := m8) rfl rfl rfl rfl ?_
  refine it_V.sN it_cd31 it_m31 5 (pc1 := 55) (ls1 := [some (.int x0), some (.int x1), none]) (st1 := [(.int (7 : Int32)), (.int (1 : Int32)), (.int (6 : Int32)), (.int x0), (.int (((((it_shl (it_shr (it_shl x0 (19 : Int32)) (31 : Int32)) (11 : Int32)) ||| r1) ||| r3) ||| r5) ||| r7))]) (mem1 := m8) rfl ?_
  refine it_V.call it_cd31 it_m31 rfl it_m23 [(.int x0), (.int (6 : Int32)), (.int (1 : Int32)), (.int (7 : Int32))] [(.int (((((it_shl (it_shr (it_shl x0 (19 : Int32)) (31 : Int32)) (11 : Int32)) ||| r1) ||| r3) ||| r5) ||| r7))] rfl rfl ⟨Nat.le_of_ble_eq_true rfl, Nat.le_of_ble_eq_true rfl, Nat.le_of_ble_eq_true rfl, Nat.le_of_ble_eq_true rfl, rfl⟩ (s_23 kc x0 (6 : Int32) (1 : Int32) (7 : Int32) m8 _ h) ?_
  rintro _ m10 ⟨r9, rfl, h⟩
  refine it_V.at (pc1 := 58) (ls1 := [some (.int x0), some (.int x1), none]) (st1 := [(.int r9), (.int (((((it_shl (it_shr (it_shl x0 (19 : Int32)) (31 : Int32)) (11 : Int32)) ||| r1) ||| r3) ||| r5) ||| r7))]) (mem1 := m10) rfl rfl rfl rfl ?_
  refine it_V.sN it_cd31 it_m31 5 (pc1 := 63) (ls1 := [some (.int x0), some (.int x1), none]) (st1 := [(.int (1 : Int32)), (.int (3 : Int32)), (.int (3 : Int32)), (.int x0), (.int ((((((it_shl (it_shr (it_shl x0 (19 : Int32)) (31 : Int32)) (11 : Int32)) ||| r1) ||| r3) ||| r5) ||| r7) ||| r9))]) (mem1 := m10) rfl ?_
  refine it_V.call it_cd31 it_m31 rfl it_m23 [(.int x0), (.int (3 : Int32)), (.int (3 : Int32)), (.int (1 : Int32))] [(.int ((((((it_shl (it_shr (it_shl x0 (19 : Int32)) (31 : Int32)) (11 : Int32)) ||| r1) ||| r3) ||| r5) ||| r7) ||| r9))] rfl rfl ⟨Nat.le_of_ble_eq_true rfl, Nat.le_of_ble_eq_true rfl, Nat.le_of_ble_eq_true rfl, Nat.le_of_ble_eq_true rfl, rfl⟩ (s_23 kc x0 (3 : Int32) (3 : Int32) (1 : Int32) m10 _ h) ?_
  rintro _ m12 ⟨r11, rfl, h⟩
  refine it_V.at (pc1 := 66) (ls1 := [some (.int x0), some (.int x1), none]) (st1 := [(.int r11), (.int ((((((it_shl (it_shr (it_shl x0 (19 : Int32)) (31 : Int32)) (11 : Int32)) ||| r1) ||| r3) ||| r5) ||| r7) ||| r9))]) (mem1 := m12) rfl rfl rfl rfl ?_
  refine it_V.sN it_cd31 it_m31 5 (pc1 := 71) (ls1 := [some (.int x0), some (.int x1), none]) (st1 := [(.int (5 : Int32)), (.int (1 : Int32)), (.int (2 : Int32)), (.int x0), (.int (((((((it_shl (it_shr (it_shl x0 (19 : Int32)) (31 : Int32)) (11 : Int32)) ||| r1) ||| r3) ||| r5) ||| r7) ||| r9) ||| r11))]) (mem1 := m12) rfl ?_
  refine it_V.call it_cd31 it_m31 rfl it_m23 [(.int x0), (.int (2 : Int32)), (.int (1 : Int32)), (.int (5 : Int32))] [(.int (((((((it_shl (it_shr (it_shl x0 (19 : Int32)) (31 : Int32)) (11 : Int32)) ||| r1) ||| r3) ||| r5) ||| r7) ||| r9) ||| r11))] rfl rfl ⟨Nat.le_of_ble_eq_true rfl, Nat.le_of_ble_eq_true rfl, Nat.le_of_ble_eq_true rfl, Nat.le_of_ble_eq_true rfl, rfl⟩ (s_23 kc x0 (2 : Int32) (1 : Int32) (5 : Int32) m12 _ h) ?_
  rintro _ m14 ⟨r13, rfl, h⟩
  refine it_V.at (pc1 := 74) (ls1 := [some (.int x0), some (.int x1), none]) (st1 := [(.int r13), (.int (((((((it_shl (it_shr (it_shl x0 (19 : Int32)) (31 : Int32)) (11 : Int32)) ||| r1) ||| r3) ||| r5) ||| r7) ||| r9) ||| r11))]) (mem1 := m14) rfl rfl rfl rfl ?_
  refine it_V.sN it_cd31 it_m31 6 (pc1 := 82) (ls1 := [some (.int x0), some (.int x1), some (.int ((((((((it_shl (it_shr (it_shl x0 (19 : Int32)) (31 : Int32)) (11 : Int32)) ||| r1) ||| r3) ||| r5) ||| r7) ||| r9) ||| r11) ||| r13))]) (st1 := [(.int (31 : Int32)), (.int (1 : Int32)), (.int (20 : Int32)), (.int ((((((((it_shl (it_shr (it_shl x0 (19 : Int32)) (31 : Int32)) (11 : Int32)) ||| r1) ||| r3) ||| r5) ||| r7) ||| r9) ||| r11) ||| r13))]) (mem1 := m14) rfl ?_
  refine it_V.call it_cd31 it_m31 rfl it_m23 [(.int ((((((((it_shl (it_shr (it_shl x0 (19 : Int32)) (31 : Int32)) (11 : Int32)) ||| r1) ||| r3) ||| r5) ||| r7) ||| r9) ||| r11) ||| r13)), (.int (20 : Int32)), (.int (1 : Int32)), (.int (31 : Int32))] [] rfl rfl ⟨Nat.le_of_ble_eq_true rfl, Nat.le_of_ble_eq_true rfl, Nat.le_of_ble_eq_true rfl, Nat.le_of_ble_eq_true rfl, rfl⟩ (s_23 kc ((((((((it_shl (it_shr (it_shl x0 (19 : Int32)) (31 : Int32)) (11 : Int32)) ||| r1) ||| r3) ||| r5) ||| r7) ||| r9) ||| r11) ||| r13) (20 : Int32) (1 : Int32) (31 : Int32) m14 _ h) ?_
  rintro _ m16 ⟨r15, rfl, h⟩
  refine it_V.at (pc1 := 85) (ls1 := [some (.int x0), some (.int x1), some (.int ((((((((it_shl (it_shr (it_shl x0 (19 : Int32)) (31 : Int32)) (11 : Int32)) ||| r1) ||| r3) ||| r5) ||| r7) ||| r9) ||| r11) ||| r13))]) (st1 := [(.int r15)]) (mem1 := m16) rfl rfl rfl rfl ?_
  refine it_V.sN it_cd31 it_m31 4 (pc1 := 91) (ls1 := [some (.int x0), some (.int x1), some (.int ((((((((it_shl (it_shr (it_shl x0 (19 : Int32)) (31 : Int32)) (11 : Int32)) ||| r1) ||| r3) ||| r5) ||| r7) ||| r9) ||| r11) ||| r13))]) (st1 := [(.int (21 : Int32)), (.int (10 : Int32)), (.int (1 : Int32)), (.int ((((((((it_shl (it_shr (it_shl x0 (19 : Int32)) (31 : Int32)) (11 : Int32)) ||| r1) ||| r3) ||| r5) ||| r7) ||| r9) ||| r11) ||| r13)), (.int r15)]) (mem1 := m16) rfl ?_
  refine it_V.call it_cd31 it_m31 rfl it_m23 [(.int ((((((((it_shl (it_shr (it_shl x0 (19 : Int32)) (31 : Int32)) (11 : Int32)) ||| r1) ||| r3) ||| r5) ||| r7) ||| r9) ||| r11) ||| r13)), (.int (1 : Int32)), (.int (10 : Int32)), (.int (21 : Int32))] [(.int r15)] rfl rfl ⟨Nat.le_of_ble_eq_true rfl, Nat.le_of_ble_eq_true rfl, Nat.le_of_ble_eq_true rfl, Nat.le_of_ble_eq_true rfl, rfl⟩ (s_23 kc ((((((((it_shl (it_shr (it_shl x0 (19 : Int32)) (31 : Int32)) (11 : Int32)) ||| r1) ||| r3) ||| r5) ||| r7) ||| r9) ||| r11) ||| r13) (1 : Int32) (10 : Int32) (21 : Int32) m16 _ h) ?_
  rintro _ m18 ⟨r17, rfl, h⟩
  refine it_V.at (pc1 := 94) (ls1 := [some (.int x0), some (.int x1), some (.int ((((((((it_shl (it_shr (it_shl x0 (19 : Int32)) (31 : Int32)) (11 : Int32)) ||| r1) ||| r3) ||| r5) ||| r7) ||| r9) ||| r11) ||| r13))]) (st1 := [(.int r17), (.int r15)]) (mem1 := m18) rfl rfl rfl rfl ?_
  refine it_V.sN it_cd31 it_m31 5 (pc1 := 101) (ls1 := [some (.int x0), some (.int x1), some (.int ((((((((it_shl (it_shr (it_shl x0 (19 : Int32)) (31 : Int32)) (11 : Int32)) ||| r1) ||| r3) ||| r5) ||| r7) ||| r9) ||| r11) ||| r13))]) (st1 := [(.int (20 : Int32)), (.int (1 : Int32)), (.int (11 : Int32)), (.int ((((((((it_shl (it_shr (it_shl x0 (19 : Int32)) (31 : Int32)) (11 : Int32)) ||| r1) ||| r3) ||| r5) ||| r7) ||| r9) ||| r11) ||| r13)), (.int (r15 ||| r17))]) (mem1 := m18) rfl ?_
  refine it_V.call it_cd31 it_m31 rfl it_m23 [(.int ((((((((it_shl (it_shr (it_shl x0 (19 : Int32)) (31 : Int32)) (11 : Int32)) ||| r1) ||| r3) ||| r5) ||| r7) ||| r9) ||| r11) ||| r13)), (.int (11 : Int32)), (.int (1 : Int32)), (.int (20 : Int32))] [(.int (r15 ||| r17))] rfl rfl ⟨Nat.le_of_ble_eq_true rfl, Nat.le_of_ble_eq_true rfl, Nat.le_of_ble_eq_true rfl, Nat.le_of_ble_eq_true rfl, rfl⟩ (s_23 kc ((((((((it_shl (it_shr (it_shl x0 (19 : Int32)) (31 : Int32)) (11 : Int32)) ||| r1) ||| r3) ||| r5) ||| r7) ||| r9) ||| r11) ||| r13) (11 : Int32) (1 : Int32) (20 : Int32) m18 _ h) ?_
  rintro _ m20 ⟨r19, rfl, h⟩
  refine it_V.at (pc1 := 104) (ls1 := [some (.int x0), some (.int x1), some (.int ((((((((it_shl (it_shr (it_shl x0 (19 : Int32)) (31 : Int32)) (11 : Int32)) ||| r1) ||| r3) ||| r5) ||| r7) ||| r9) ||| r11) ||| r13))]) (st1 := [(.int r19), (.int (r15 ||| r17))]) (mem1 := m20) rfl rfl rfl rfl ?_
  refine it_V.sN it_cd31 it_m31 11 (pc1 := 118) (ls1 := [some (.int x0), some (.int x1), some (.int ((((((((it_shl (it_shr (it_shl x0 (19 : Int32)) (31 : Int32)) (11 : Int32)) ||| r1) ||| r3) ||| r5) ||| r7) ||| r9) ||| r11) ||| r13))]) (st1 := [(.int (((((r15 ||| r17) ||| r19) ||| (((((((((it_shl (it_shr (it_shl x0 (19 : Int32)) (31 : Int32)) (11 : Int32)) ||| r1) ||| r3) ||| r5) ||| r7) ||| r9) ||| r11) ||| r13) &&& (1044480 : Int32))) ||| (it_shl x1 (7 : Int32))) ||| (111 : Int32)))]) (mem1 := m20) rfl ?_
  exact it_V.ret it_cd31 it_m31 rfl rfl ⟨_, rfl, h⟩
set_option maxRecDepth 100000 in
set_option maxHeartbeats 4000000 in
theorem s_32 (kc : it_Kc) (x0 : Int32) (x1 : Int32) (m : it_Me) (Φ : Int32 → it_Me → Prop) (h : w_32 kc x0 x1 m Φ) : it_V kc it_sh0 32 0 (it_loc0 [(.int x0), (.int x1)] 3) [] m (it_Pi Φ) := by
  rw [w_32] at h
  refine it_V.at (pc1 := 0) (ls1 := [some (.int x0), some (.int x1), none]) (st1 := []) (mem1 := m) rfl rfl rfl rfl ?_
  refine it_V.sN it_cd32 it_m32 11 (pc1 := 15) (ls1 := [some (.int x0), some (.int x1), none]) (st1 := [(.int (3 : Int32)), (.int (2 : Int32)), (.int (10 : Int32)), (.int x0), (.int (it_shl (it_shr (it_shl x0 (19 : Int32)) (31 : Int32)) (8 : Int32)))]) (mem1 := m) rfl ?_
  refine it_V.call it_cd32 it_m32 rfl it_m23 [(.int x0), (.int (10 : Int32)), (.int (2 : Int32)), (.int (3 : Int32))] [(.int (it_shl (it_shr (it_shl x0 (19 : Int32)) (31 : Int32)) (8 : Int32)))] rfl rfl ⟨Nat.le_of_ble_eq_true rfl, Nat.le_of_ble_eq_true rfl, Nat.le_of_ble_eq_true rfl, Nat.le_of_ble_eq_true rfl, rfl⟩ (s_23 kc x0 (10 : Int32) (2 : Int32) (3 : Int32) m _ h) ?_
  rintro _ m2 ⟨r1, rfl, h⟩
  refine it_V.at (pc1 := 18) (ls1 := [some (.int x0), some (.int x1), none]) (st1 := [(.int r1), (.int (it_shl (it_shr (it_shl x0 (19 : Int32)) (31 : Int32)) (8 : Int32)))]) (mem1 := m2) rfl rfl rfl rfl ?_
  refine it_V.sN it_cd32 it_m32 5 (pc1 := 24) (ls1 := [some (.int x0), some (.int x1), none]) (st1 := [(.int (6 : Int32)), (.int (2 : Int32)), (.int (5 : Int32)), (.int x0), (.int ((it_shl (it_shr (it_shl x0 (19 : Int32)) (31 : Int32)) (8 : Int32)) ||| r1))]) (mem1 := m2) rfl ?_
  refine it_V.call it_cd32 it_m32 rfl it_m23 [(.int x0), (.int (5 : Int32)), (.int (2 : Int32)), (.int (6 : Int32))] [(.int ((it_shl (it_shr (it_shl x0 (19 : Int32)) (31 : Int32)) (8 : Int32)) ||| r1))] rfl rfl ⟨Nat.le_of_ble_eq_true rfl, Nat.le_of_ble_eq_true rfl, Nat.le_of_ble_eq_true rfl, Nat.le_of_ble_eq_true rfl, rfl⟩ (s_23 kc x0 (5 : Int32) (2 : Int32) (6 : Int32) m2 _ h) ?_
  rintro _ m4 ⟨r3, rfl, h⟩
  refine it_V.at (pc1 := 27) (ls1 := [some (.int x0), some (.int x1), none]) (st1 := [(.int r3), (.int ((it_shl (it_shr (it_shl x0 (19 : Int32)) (31 : Int32)) (8 : Int32)) ||| r1))]) (mem1 := m4) rfl rfl rfl rfl ?_
  refine it_V.sN it_cd32 it_m32 5 (pc1 := 32) (ls1 := [some (.int x0), some (.int x1), none]) (st1 := [(.int (1 : Int32)), (.int (2 : Int32)), (.int (3 : Int32)), (.int x0), (.int (((it_shl (it_shr (it_shl x0 (19 : Int32)) (31 : Int32)) (8 : Int32)) ||| r1) ||| r3))]) (mem1 := m4) rfl ?_
  refine it_V.call it_cd32 it_m32 rfl it_m23 [(.int x0), (.int (3 : Int32)), (.int (2 : Int32)), (.int (1 : Int32))] [(.int (((it_shl (it_shr (it_shl x0 (19 : Int32)) (31 : Int32)) (8 : Int32)) ||| r1) ||| r3))] rfl rfl ⟨Nat.le_of_ble_eq_true rfl, Nat.le_of_ble_eq_true rfl, Nat.le_of_ble_eq_true rfl, Nat.le_of_ble_eq_true rfl, rfl⟩ (s_23 kc x0 (3 : Int32) (2 : Int32) (1 : Int32) m4 _ h) ?_
  rintro _ m6 ⟨r5, rfl, h⟩
  refine it_V.at (pc1 := 35) (ls1 := [some (.int x0), some (.int x1), none]) (st1 := [(.int r5), (.int (((it_shl (it_shr (it_shl x0 (19 : Int32)) (31 : Int32)) (8 : Int32)) ||| r1) ||| r3))]) (mem1 := m6) rfl rfl rfl rfl ?_
  refine it_V.sN it_cd32 it_m32 5 (pc1 := 40) (ls1 := [some (.int x0), some (.int x1), none]) (st1 := [(.int (5 : Int32)), (.int (1 : Int32)), (.int (2 : Int32)), (.int x0), (.int ((((it_shl (it_shr (it_shl x0 (19 : Int32)) (31 : Int32)) (8 : Int32)) ||| r1) ||| r3) ||| r5))]) (mem1 := m6) rfl ?_
  refine it_V.call it_cd32 it_m32 rfl it_m23 [(.int x0), (.int (2 : Int32)), (.int (1 : Int32)), (.int (5 : Int32))] [(.int ((((it_shl (it_shr (it_shl x0 (19 : Int32)) (31 : Int32)) (8 : Int32)) ||| r1) ||| r3) ||| r5))] rfl rfl ⟨Nat.le_of_ble_eq_true rfl, Nat.le_of_ble_eq_true rfl, Nat.le_of_ble_eq_true rfl, Nat.le_of_ble_eq_true rfl, rfl⟩ (s_23 kc x0 (2 : Int32) (1 : Int32) (5 : Int32) m6 _ h) ?_
  rintro _ m8 ⟨r7, rfl, h⟩
  refine it_V.at (pc1 := 43) (ls1 := [some (.int x0), some (.int x1), none]) (st1 := [(.int r7), (.int ((((it_shl (it_shr (it_shl x0 (19 : Int32)) (31 : Int32)) (8 : Int32)) ||| r1) ||| r3) ||| r5))]) (mem1 := m8) rfl rfl rfl rfl ?_
  refine it_V.sN it_cd32 it_m32 6 (pc1 := 51) (ls1 := [some (.int x0), some (.int x1), some (.int (((((it_shl (it_shr (it_shl x0 (19 : Int32)) (31 : Int32)) (8 : Int32)) ||| r1) ||| r3) ||| r5) ||| r7))]) (st1 := [(.int (31 : Int32)), (.int (1 : Int32)), (.int (12 : Int32)), (.int (((((it_shl (it_shr (it_shl x0 (19 : Int32)) (31 : Int32)) (8 : Int32)) ||| r1) ||| r3) ||| r5) ||| r7))]) (mem1 := m8) rfl ?_
  refine it_V.call it_cd32 it_m32 rfl it_m23 [(.int (((((it_shl (it_shr (it_shl x0 (19 : Int32)) (31 : Int32)) (8 : Int32)) ||| r1) ||| r3) ||| r5) ||| r7)), (.int (12 : Int32)), (.int (1 : Int32)), (.int (31 : Int32))] [] rfl rfl ⟨Nat.le_of_ble_eq_true rfl, Nat.le_of_ble_eq_true rfl, Nat.le_of_ble_eq_true rfl, Nat.le_of_ble_eq_true rfl, rfl⟩ (s_23 kc (((((it_shl (it_shr (it_shl x0 (19 : Int32)) (31 : Int32)) (8 : Int32)) ||| r1) ||| r3) ||| r5) ||| r7) (12 : Int32) (1 : Int32) (31 : Int32) m8 _ h) ?_
  rintro _ m10 ⟨r9, rfl, h⟩
  refine it_V.at (pc1 := 54) (ls1 := [some (.int x0), some (.int x1), some (.int (((((it_shl (it_shr (it_shl x0 (19 : Int32)) (31 : Int32)) (8 : Int32)) ||| r1) ||| r3) ||| r5) ||| r7))]) (st1 := [(.int r9)]) (mem1 := m10) rfl rfl rfl rfl ?_
  refine it_V.sN it_cd32 it_m32 4 (pc1 := 60) (ls1 := [some (.int x0), some (.int x1), some (.int (((((it_shl (it_shr (it_shl x0 (19 : Int32)) (31 : Int32)) (8 : Int32)) ||| r1) ||| r3) ||| r5) ||| r7))]) (st1 := [(.int (25 : Int32)), (.int (6 : Int32)), (.int (5 : Int32)), (.int (((((it_shl (it_shr (it_shl x0 (19 : Int32)) (31 : Int32)) (8 : Int32)) ||| r1) ||| r3) ||| r5) ||| r7)), (.int r9)]) (mem1 := m10) rfl ?_
  refine it_V.call it_cd32 it_m32 rfl it_m23 [(.int (((((it_shl (it_shr (it_shl x0 (19 : Int32)) (31 : Int32)) (8 : Int32)) ||| r1) ||| r3) ||| r5) ||| r7)), (.int (5 : Int32)), (.int (6 : Int32)), (.int (25 : Int32))] [(.int r9)] rfl rfl ⟨Nat.le_of_ble_eq_true rfl, Nat.le_of_ble_eq_true rfl, Nat.le_of_ble_eq_true rfl, Nat.le_of_ble_eq_true rfl, rfl⟩ (s_23 kc (((((it_shl (it_shr (it_shl x0 (19 : Int32)) (31 : Int32)) (8 : Int32)) ||| r1) ||| r3) ||| r5) ||| r7) (5 : Int32) (6 : Int32) (25 : Int32) m10 _ h) ?_
  rintro _ m12 ⟨r11, rfl, h⟩
  refine it_V.at (pc1 := 63) (ls1 := [some (.int x0), some (.int x1), some (.int (((((it_shl (it_shr (it_shl x0 (19 : Int32)) (31 : Int32)) (8 : Int32)) ||| r1) ||| r3) ||| r5) ||| r7))]) (st1 := [(.int r11), (.int r9)]) (mem1 := m12) rfl rfl rfl rfl ?_
  refine it_V.sN it_cd32 it_m32 3 (pc1 := 67) (ls1 := [some (.int x0), some (.int x1), some (.int (((((it_shl (it_shr (it_shl x0 (19 : Int32)) (31 : Int32)) (8 : Int32)) ||| r1) ||| r3) ||| r5) ||| r7))]) (st1 := [(.int (7 : Int32)), (.int x0), (.int (r9 ||| r11))]) (mem1 := m12) rfl ?_
  refine it_V.call it_cd32 it_m32 rfl it_m24 [(.int x0), (.int (7 : Int32))] [(.int (r9 ||| r11))] rfl rfl ⟨Nat.le_of_ble_eq_true rfl, Nat.le_of_ble_eq_true rfl, Nat.le_of_ble_eq_true rfl, Nat.le_of_ble_eq_true rfl, rfl⟩ (s_24 kc x0 (7 : Int32) m12 _ h) ?_
  rintro _ m14 ⟨r13, rfl, h⟩
  refine it_V.at (pc1 := 70) (ls1 := [some (.int x0), some (.int x1), some (.int (((((it_shl (it_shr (it_shl x0 (19 : Int32)) (31 : Int32)) (8 : Int32)) ||| r1) ||| r3) ||| r5) ||| r7))]) (st1 := [(.int r13), (.int (r9 ||| r11))]) (mem1 := m14) rfl rfl rfl rfl ?_
  refine it_V.sN it_cd32 it_m32 11 (pc1 := 84) (ls1 := [some (.int x0), some (.int x1), some (.int (((((it_shl (it_shr (it_shl x0 (19 : Int32)) (31 : Int32)) (8 : Int32)) ||| r1) ||| r3) ||| r5) ||| r7))]) (st1 := [(.int (8 : Int32)), (.int (4 : Int32)), (.int (1 : Int32)), (.int (((((it_shl (it_shr (it_shl x0 (19 : Int32)) (31 : Int32)) (8 : Int32)) ||| r1) ||| r3) ||| r5) ||| r7)), (.int (((r9 ||| r11) ||| (it_shl r13 (15 : Int32))) ||| (it_shl x1 (12 : Int32))))]) (mem1 := m14) rfl ?_
  refine it_V.call it_cd32 it_m32 rfl it_m23 [(.int (((((it_shl (it_shr (it_shl x0 (19 : Int32)) (31 : Int32)) (8 : Int32)) ||| r1) ||| r3) ||| r5) ||| r7)), (.int (1 : Int32)), (.int (4 : Int32)), (.int (8 : Int32))] [(.int (((r9 ||| r11) ||| (it_shl r13 (15 : Int32))) ||| (it_shl x1 (12 : Int32))))] rfl rfl ⟨Nat.le_of_ble_eq_true rfl, Nat.le_of_ble_eq_true rfl, Nat.le_of_ble_eq_true rfl, Nat.le_of_ble_eq_true rfl, rfl⟩ (s_23 kc (((((it_shl (it_shr (it_shl x0 (19 : Int32)) (31 : Int32)) (8 : Int32)) ||| r1) ||| r3) ||| r5) ||| r7) (1 : Int32) (4 : Int32) (8 : Int32) m14 _ h) ?_
  rintro _ m16 ⟨r15, rfl, h⟩
  refine it_V.at (pc1 := 87) (ls1 := [some (.int x0), some (.int x1), some (.int (((((it_shl (it_shr (it_shl x0 (19 : Int32)) (31 : Int32)) (8 : Int32)) ||| r1) ||| r3) ||| r5) ||| r7))]) (st1 := [(.int r15), (.int (((r9 ||| r11) ||| (it_shl r13 (15 : Int32))) ||| (it_shl x1 (12 : Int32))))]) (mem1 := m16) rfl rfl rfl rfl ?_
  refine it_V.sN it_cd32 it_m32 5 (pc1 := 94) (ls1 := [some (.int x0), some (.int x1), some (.int (((((it_shl (it_shr (it_shl x0 (19 : Int32)) (31 : Int32)) (8 : Int32)) ||| r1) ||| r3) ||| r5) ||| r7))]) (st1 := [(.int (7 : Int32)), (.int (1 : Int32)), (.int (11 : Int32)), (.int (((((it_shl (it_shr (it_shl x0 (19 : Int32)) (31 : Int32)) (8 : Int32)) ||| r1) ||| r3) ||| r5) ||| r7)), (.int ((((r9 ||| r11) ||| (it_shl r13 (15 : Int32))) ||| (it_shl x1 (12 : Int32))) ||| r15))]) (mem1 := m16) rfl ?_
  refine it_V.call it_cd32 it_m32 rfl it_m23 [(.int (((((it_shl (it_shr (it_shl x0 (19 : Int32)) (31 : Int32)) (8 : Int32)) ||| r1) ||| r3) ||| r5) ||| r7)), (.int (11 : Int32)), (.int (1 : Int32)), (.int (7 : Int32))] [(.int ((((r9 ||| r11) ||| (it_shl r13 (15 : Int32))) ||| (it_shl x1 (12 : Int32))) ||| r15))] rfl rfl ⟨Nat.le_of_ble_eq_true rfl, Nat.le_of_ble_eq_true rfl, Nat.le_of_ble_eq_true rfl, Nat.le_of_ble_eq_true rfl, rfl⟩ (s_23 kc (((((it_shl (it_shr (it_shl x0 (19 : Int32)) (31 : Int32)) (8 : Int32)) ||| r1) ||| r3) ||| r5) ||| r7) (11 : Int32) (1 : Int32) (7 : Int32) m16 _ h) ?_
  rintro _ m18 ⟨r17, rfl, h⟩
  refine it_V.at (pc1 := 97) (ls1 := [some (.int x0), some (.int x1), some (.int (((((it_shl (it_shr (it_shl x0 (19 : Int32)) (31 : Int32)) (8 : Int32)) ||| r1) ||| r3) ||| r5) ||| r7))]) (st1 := [(.int r17), (.int ((((r9 ||| r11) ||| (it_shl r13 (15 : Int32))) ||| (it_shl x1 (12 : Int32))) ||| r15))]) (mem1 := m18) rfl rfl rfl rfl ?_
  refine it_V.sN it_cd32 it_m32 3 (pc1 := 101) (ls1 := [some (.int x0), some (.int x1), some (.int (((((it_shl (it_shr (it_shl x0 (19 : Int32)) (31 : Int32)) (8 : Int32)) ||| r1) ||| r3) ||| r5) ||| r7))]) (st1 := [(.int ((((((r9 ||| r11) ||| (it_shl r13 (15 : Int32))) ||| (it_shl x1 (12 : Int32))) ||| r15) ||| r17) ||| (99 : Int32)))]) (mem1 := m18) rfl ?_
  exact it_V.ret it_cd32 it_m32 rfl rfl ⟨_, rfl, h⟩
set_option maxRecDepth 100000 in
set_option maxHeartbeats 4000000 in
theorem s_26 (kc : it_Kc) (x0 : Int32) (x1 : Int32) (x2 : Int32) (x3 : Int32) (x4 : Int32) (m : it_Me) (Φ : Int32 → it_Me → Prop) (h : w_26 kc x0 x1 x2 x3 x4 m Φ) : it_V kc it_sh0 26 0 (it_loc0 [(.int x0), (.int x1), (.int x2), (.int x3), (.int x4)] 5) [] m (it_Pi Φ) := by
  rw [w_26] at h
  refine it_V.at (pc1 := 0) (ls1 := [some (.int x0), some (.int x1), some (.int x2), some (.int x3), some (.int x4)]) (st1 := []) (mem1 := m) rfl rfl rfl rfl ?_
  refine it_V.sN it_cd26 it_m26 21 (pc1 := 28) (ls1 := [some (.int x0), some (.int x1), some (.int x2), some (.int x3), some (.int x4)]) (st1 := [(.int ((((((it_shl x1 (25 : Int32)) ||| (it_shl x4 (20 : Int32))) ||| (it_shl x3 (15 : Int32))) ||| (it_shl x0 (12 : Int32))) ||| (it_shl x2 (7 : Int32))) ||| (51 : Int32)))]) (mem1 := m) rfl ?_
  exact it_V.ret it_cd26 it_m26 rfl rfl ⟨_, rfl, h⟩
set_option maxRecDepth 100000 in
set_option maxHeartbeats 4000000 in
theorem s_33_82 (kc : it_Kc) (Φ : Int32 → it_Me → Prop) (u0 : Int32) (m : it_Me) (h : w_33_82 kc Φ u0 m) : it_V kc it_sh0 33 82 [none, none, none, none, none] [(.int u0)] m (it_Pi Φ) := by
  rw [w_33_82] at h
  exact it_V.ret it_cd33 it_m33 rfl rfl ⟨_, rfl, h⟩
set_option maxRecDepth 100000 in
set_option maxHeartbeats 4000000 in
theorem s_33_105 (kc : it_Kc) (Φ : Int32 → it_Me → Prop) (u0 : Int32) (m : it_Me) (h : w_33_105 kc Φ u0 m) : it_V kc it_sh0 33 105 [none, none, none, none, none] [(.int u0)] m (it_Pi Φ) := by
  rw [w_33_105] at h
  exact it_V.ret it_cd33 it_m33 rfl rfl ⟨_, rfl, h⟩
set_option maxRecDepth 100000 in
set_option maxHeartbeats 4000000 in
theorem s_33_28 (kc : it_Kc) (Φ : Int32 → it_Me → Prop) (v0 : Int32) (v1 : Int32) (v2 : Int32) (v3 : Int32) (u0 : Int32) (m : it_Me) (h : w_33_28 kc Φ v0 v1 v2 v3 u0 m) : it_V kc it_sh0 33 28 [some (.int v0), some (.int v1), some (.int v2), some (.int v3), none] [(.int u0)] m (it_Pi Φ) := by
  rw [w_33_28] at h
  refine it_V.sN it_cd33 it_m33 6 (pc1 := 36) (ls1 := [some (.int v0), some (.int v1), some (.int v2), some (.int v3), some (.int u0)]) (st1 := [(.int ((it_us v0 (10 : Int32)) &&& (3 : Int32)))]) (mem1 := m) rfl ?_
  refine it_V.sN it_cd33 it_m33 1 (pc1 := (if ((it_us v0 (10 : Int32)) &&& (3 : Int32)) = (0 : Int32) then 64 else (if ((it_us v0 (10 : Int32)) &&& (3 : Int32)) = (1 : Int32) then 83 else (if ((it_us v0 (10 : Int32)) &&& (3 : Int32)) = (2 : Int32) then 106 else 117)))) (ls1 := [some (.int v0), some (.int v1), some (.int v2), some (.int v3), some (.int u0)]) (st1 := []) (mem1 := m) rfl ?_
  refine it_V.ite (fun c1 => ?_) (fun c1 => ?_)
  · have h := h.1 c1
    refine it_V.sN it_cd33 it_m33 2 (pc1 := (if u0 = 0 then 73 else 69)) (ls1 := [some (.int v0), some (.int v1), some (.int v2), some (.int v3), some (.int u0)]) (st1 := []) (mem1 := m) rfl ?_
    refine it_V.ite (fun c2 => ?_) (fun c2 => ?_)
    · have h := h.1 c2
      refine it_V.sN it_cd33 it_m33 5 (pc1 := 79) (ls1 := [some (.int v0), some (.int v1), some (.int v2), some (.int v3), some (.int u0)]) (st1 := [(.int v1), (.int v2), (.int v2), (.int (5 : Int32)), (.int (19 : Int32))]) (mem1 := m) rfl ?_
      refine it_V.call it_cd33 it_m33 rfl it_m25 [(.int (19 : Int32)), (.int (5 : Int32)), (.int v2), (.int v2), (.int v1)] [] rfl rfl ⟨Nat.le_of_ble_eq_true rfl, Nat.le_of_ble_eq_true rfl, Nat.le_of_ble_eq_true rfl, Nat.le_of_ble_eq_true rfl, rfl⟩ (s_25 kc (19 : Int32) (5 : Int32) v2 v2 v1 m _ h) ?_
      rintro _ m4 ⟨r3, rfl, h⟩
      refine it_V.at (pc1 := 82) (ls1 := [some (.int v0), some (.int v1), some (.int v2), some (.int v3), some (.int u0)]) (st1 := [(.int r3)]) (mem1 := m4) rfl rfl rfl rfl ?_
      refine it_V.weak (l := [none, none, none, none, none]) trivial ?_
      exact s_33_82 kc Φ r3 m4 h
    · have h := h.2 c2
      refine it_V.sN it_cd33 it_m33 2 (pc1 := 82) (ls1 := [some (.int v0), some (.int v1), some (.int v2), some (.int v3), some (.int u0)]) (st1 := [(.int (0 : Int32))]) (mem1 := m) rfl ?_
      refine it_V.weak (l := [none, none, none, none, none]) trivial ?_
      exact s_33_82 kc Φ (0 : Int32) m h
  · have h := h.2 c1
    refine it_V.ite (fun c5 => ?_) (fun c5 => ?_)
    · have h := h.1 c5
      refine it_V.sN it_cd33 it_m33 2 (pc1 := (if u0 = 0 then 92 else 88)) (ls1 := [some (.int v0), some (.int v1), some (.int v2), some (.int v3), some (.int u0)]) (st1 := []) (mem1 := m) rfl ?_
      refine it_V.ite (fun c6 => ?_) (fun c6 => ?_)
      · have h := h.1 c6
        refine it_V.sN it_cd33 it_m33 7 (pc1 := 102) (ls1 := [some (.int v0), some (.int v1), some (.int v2), some (.int v3), some (.int u0)]) (st1 := [(.int (v1 ||| (1024 : Int32))), (.int v2), (.int v2), (.int (5 : Int32)), (.int (19 : Int32))]) (mem1 := m) rfl ?_
        refine it_V.call it_cd33 it_m33 rfl it_m25 [(.int (19 : Int32)), (.int (5 : Int32)), (.int v2), (.int v2), (.int (v1 ||| (1024 : Int32)))] [] rfl rfl ⟨Nat.le_of_ble_eq_true rfl, Nat.le_of_ble_eq_true rfl, Nat.le_of_ble_eq_true rfl, Nat.le_of_ble_eq_true rfl, rfl⟩ (s_25 kc (19 : Int32) (5 : Int32) v2 v2 (v1 ||| (1024 : Int32)) m _ h) ?_
        rintro _ m8 ⟨r7, rfl, h⟩
        refine it_V.at (pc1 := 105) (ls1 := [some (.int v0), some (.int v1), some (.int v2), some (.int v3), some (.int u0)]) (st1 := [(.int r7)]) (mem1 := m8) rfl rfl rfl rfl ?_
        refine it_V.weak (l := [none, none, none, none, none]) trivial ?_
        exact s_33_105 kc Φ r7 m8 h
      · have h := h.2 c6
        refine it_V.sN it_cd33 it_m33 2 (pc1 := 105) (ls1 := [some (.int v0), some (.int v1), some (.int v2), some (.int v3), some (.int u0)]) (st1 := [(.int (0 : Int32))]) (mem1 := m) rfl ?_
        refine it_V.weak (l := [none, none, none, none, none]) trivial ?_
        exact s_33_105 kc Φ (0 : Int32) m h
    · have h := h.2 c5
      refine it_V.ite (fun c9 => ?_) (fun c9 => ?_)
      · have h := h.1 c9
        refine it_V.sN it_cd33 it_m33 5 (pc1 := 113) (ls1 := [some (.int v0), some (.int v1), some (.int v2), some (.int v3), some (.int u0)]) (st1 := [(.int v1), (.int v2), (.int v2), (.int (7 : Int32)), (.int (19 : Int32))]) (mem1 := m) rfl ?_
        refine it_V.call it_cd33 it_m33 rfl it_m25 [(.int (19 : Int32)), (.int (7 : Int32)), (.int v2), (.int v2), (.int v1)] [] rfl rfl ⟨Nat.le_of_ble_eq_true rfl, Nat.le_of_ble_eq_true rfl, Nat.le_of_ble_eq_true rfl, Nat.le_of_ble_eq_true rfl, rfl⟩ (s_25 kc (19 : Int32) (7 : Int32) v2 v2 v1 m _ h) ?_
        rintro _ m11 ⟨r10, rfl, h⟩
        refine it_V.at (pc1 := 116) (ls1 := [some (.int v0), some (.int v1), some (.int v2), some (.int v3), some (.int u0)]) (st1 := [(.int r10)]) (mem1 := m11) rfl rfl rfl rfl ?_
        exact it_V.ret it_cd33 it_m33 rfl rfl ⟨_, rfl, h⟩
      · have h := h.2 c9
        refine it_V.sN it_cd33 it_m33 2 (pc1 := (if u0 = 0 then 124 else 122)) (ls1 := [some (.int v0), some (.int v1), some (.int v2), some (.int v3), some (.int u0)]) (st1 := []) (mem1 := m) rfl ?_
        refine it_V.ite (fun c12 => ?_) (fun c12 => ?_)
        · have h := h.1 c12
          refine it_V.sN it_cd33 it_m33 5 (pc1 := 129) (ls1 := [some (.int v0), some (.int v1), some (.int v2), some (.int v3), some (.int u0)]) (st1 := [(.int ((it_us v0 (5 : Int32)) &&& (3 : Int32)))]) (mem1 := m) rfl ?_
          refine it_V.sN it_cd33 it_m33 1 (pc1 := (if ((it_us v0 (5 : Int32)) &&& (3 : Int32)) = (0 : Int32) then 156 else (if ((it_us v0 (5 : Int32)) &&& (3 : Int32)) = (1 : Int32) then 166 else (if ((it_us v0 (5 : Int32)) &&& (3 : Int32)) = (2 : Int32) then 175 else 185)))) (ls1 := [some (.int v0), some (.int v1), some (.int v2), some (.int v3), some (.int u0)]) (st1 := []) (mem1 := m) rfl ?_
          refine it_V.ite (fun c13 => ?_) (fun c13 => ?_)
          · have h := h.1 c13
            refine it_V.sN it_cd33 it_m33 5 (pc1 := 162) (ls1 := [some (.int v0), some (.int v1), some (.int v2), some (.int v3), some (.int u0)]) (st1 := [(.int v3), (.int v2), (.int v2), (.int (32 : Int32)), (.int (0 : Int32))]) (mem1 := m) rfl ?_
            refine it_V.call it_cd33 it_m33 rfl it_m26 [(.int (0 : Int32)), (.int (32 : Int32)), (.int v2), (.int v2), (.int v3)] [] rfl rfl ⟨Nat.le_of_ble_eq_true rfl, Nat.le_of_ble_eq_true rfl, Nat.le_of_ble_eq_true rfl, Nat.le_of_ble_eq_true rfl, rfl⟩ (s_26 kc (0 : Int32) (32 : Int32) v2 v2 v3 m _ h) ?_
            rintro _ m15 ⟨r14, rfl, h⟩
            refine it_V.at (pc1 := 165) (ls1 := [some (.int v0), some (.int v1), some (.int v2), some (.int v3), some (.int u0)]) (st1 := [(.int r14)]) (mem1 := m15) rfl rfl rfl rfl ?_
            exact it_V.ret it_cd33 it_m33 rfl rfl ⟨_, rfl, h⟩
          · have h := h.2 c13
            refine it_V.ite (fun c16 => ?_) (fun c16 => ?_)
            · have h := h.1 c16
              refine it_V.sN it_cd33 it_m33 5 (pc1 := 171) (ls1 := [some (.int v0), some (.int v1), some (.int v2), some (.int v3), some (.int u0)]) (st1 := [(.int v3), (.int v2), (.int v2), (.int (0 : Int32)), (.int (4 : Int32))]) (mem1 := m) rfl ?_
              refine it_V.call it_cd33 it_m33 rfl it_m26 [(.int (4 : Int32)), (.int (0 : Int32)), (.int v2), (.int v2), (.int v3)] [] rfl rfl ⟨Nat.le_of_ble_eq_true rfl, Nat.le_of_ble_eq_true rfl, Nat.le_of_ble_eq_true rfl, Nat.le_of_ble_eq_true rfl, rfl⟩ (s_26 kc (4 : Int32) (0 : Int32) v2 v2 v3 m _ h) ?_
              rintro _ m18 ⟨r17, rfl, h⟩
              refine it_V.at (pc1 := 174) (ls1 := [some (.int v0), some (.int v1), some (.int v2), some (.int v3), some (.int u0)]) (st1 := [(.int r17)]) (mem1 := m18) rfl rfl rfl rfl ?_
              exact it_V.ret it_cd33 it_m33 rfl rfl ⟨_, rfl, h⟩
            · have h := h.2 c16
              refine it_V.ite (fun c19 => ?_) (fun c19 => ?_)
              · have h := h.1 c19
                refine it_V.sN it_cd33 it_m33 5 (pc1 := 181) (ls1 := [some (.int v0), some (.int v1), some (.int v2), some (.int v3), some (.int u0)]) (st1 := [(.int v3), (.int v2), (.int v2), (.int (0 : Int32)), (.int (6 : Int32))]) (mem1 := m) rfl ?_
                refine it_V.call it_cd33 it_m33 rfl it_m26 [(.int (6 : Int32)), (.int (0 : Int32)), (.int v2), (.int v2), (.int v3)] [] rfl rfl ⟨Nat.le_of_ble_eq_true rfl, Nat.le_of_ble_eq_true rfl, Nat.le_of_ble_eq_true rfl, Nat.le_of_ble_eq_true rfl, rfl⟩ (s_26 kc (6 : Int32) (0 : Int32) v2 v2 v3 m _ h) ?_
                rintro _ m21 ⟨r20, rfl, h⟩
                refine it_V.at (pc1 := 184) (ls1 := [some (.int v0), some (.int v1), some (.int v2), some (.int v3), some (.int u0)]) (st1 := [(.int r20)]) (mem1 := m21) rfl rfl rfl rfl ?_
                exact it_V.ret it_cd33 it_m33 rfl rfl ⟨_, rfl, h⟩
              · have h := h.2 c19
                refine it_V.sN it_cd33 it_m33 5 (pc1 := 191) (ls1 := [some (.int v0), some (.int v1), some (.int v2), some (.int v3), some (.int u0)]) (st1 := [(.int v3), (.int v2), (.int v2), (.int (0 : Int32)), (.int (7 : Int32))]) (mem1 := m) rfl ?_
                refine it_V.call it_cd33 it_m33 rfl it_m26 [(.int (7 : Int32)), (.int (0 : Int32)), (.int v2), (.int v2), (.int v3)] [] rfl rfl ⟨Nat.le_of_ble_eq_true rfl, Nat.le_of_ble_eq_true rfl, Nat.le_of_ble_eq_true rfl, Nat.le_of_ble_eq_true rfl, rfl⟩ (s_26 kc (7 : Int32) (0 : Int32) v2 v2 v3 m _ h) ?_
                rintro _ m23 ⟨r22, rfl, h⟩
                refine it_V.at (pc1 := 194) (ls1 := [some (.int v0), some (.int v1), some (.int v2), some (.int v3), some (.int u0)]) (st1 := [(.int r22)]) (mem1 := m23) rfl rfl rfl rfl ?_
                exact it_V.ret it_cd33 it_m33 rfl rfl ⟨_, rfl, h⟩
        · have h := h.2 c12
          refine it_V.sN it_cd33 it_m33 1 (pc1 := 123) (ls1 := [some (.int v0), some (.int v1), some (.int v2), some (.int v3), some (.int u0)]) (st1 := [(.int (0 : Int32))]) (mem1 := m) rfl ?_
          exact it_V.ret it_cd33 it_m33 rfl rfl ⟨_, rfl, h⟩
set_option maxRecDepth 100000 in
set_option maxHeartbeats 4000000 in
theorem s_33 (kc : it_Kc) (x0 : Int32) (x1 : Int32) (m : it_Me) (Φ : Int32 → it_Me → Prop) (h : w_33 kc x0 x1 m Φ) : it_V kc it_sh0 33 0 (it_loc0 [(.int x0), (.int x1)] 5) [] m (it_Pi Φ) := by
  rw [w_33] at h
  refine it_V.at (pc1 := 0) (ls1 := [some (.int x0), some (.int x1), none, none, none]) (st1 := []) (mem1 := m) rfl rfl rfl rfl ?_
  refine it_V.sN it_cd33 it_m33 2 (pc1 := 3) (ls1 := [some (.int x0), some (.int x1), none, none, none]) (st1 := [(.int (7 : Int32)), (.int x0)]) (mem1 := m) rfl ?_
  refine it_V.call it_cd33 it_m33 rfl it_m24 [(.int x0), (.int (7 : Int32))] [] rfl rfl ⟨Nat.le_of_ble_eq_true rfl, Nat.le_of_ble_eq_true rfl, Nat.le_of_ble_eq_true rfl, Nat.le_of_ble_eq_true rfl, rfl⟩ (s_24 kc x0 (7 : Int32) m _ h) ?_
  rintro _ m2 ⟨r1, rfl, h⟩
  refine it_V.at (pc1 := 6) (ls1 := [some (.int x0), some (.int x1), none, none, none]) (st1 := [(.int r1)]) (mem1 := m2) rfl rfl rfl rfl ?_
  refine it_V.sN it_cd33 it_m33 3 (pc1 := 9) (ls1 := [some (.int x0), some (.int x1), some (.int r1), none, none]) (st1 := [(.int (2 : Int32)), (.int x0)]) (mem1 := m2) rfl ?_
  refine it_V.call it_cd33 it_m33 rfl it_m24 [(.int x0), (.int (2 : Int32))] [] rfl rfl ⟨Nat.le_of_ble_eq_true rfl, Nat.le_of_ble_eq_true rfl, Nat.le_of_ble_eq_true rfl, Nat.le_of_ble_eq_true rfl, rfl⟩ (s_24 kc x0 (2 : Int32) m2 _ h) ?_
  rintro _ m4 ⟨r3, rfl, h⟩
  refine it_V.at (pc1 := 12) (ls1 := [some (.int x0), some (.int x1), some (.int r1), none, none]) (st1 := [(.int r3)]) (mem1 := m4) rfl rfl rfl rfl ?_
  refine it_V.sN it_cd33 it_m33 8 (pc1 := (if ((it_us x0 (12 : Int32)) &&& (1 : Int32)) = (1 : Int32) then 23 else 27)) (ls1 := [some (.int x0), some (.int x1), some (.int r1), some (.int r3), none]) (st1 := []) (mem1 := m4) rfl ?_
  refine it_V.ite (fun c5 => ?_) (fun c5 => ?_)
  · have h := h.1 c5
    refine it_V.sN it_cd33 it_m33 2 (pc1 := 28) (ls1 := [some (.int x0), some (.int x1), some (.int r1), some (.int r3), none]) (st1 := [(.int (1 : Int32))]) (mem1 := m4) rfl ?_
    exact s_33_28 kc Φ x0 x1 r1 r3 (1 : Int32) m4 h
  · have h := h.2 c5
    refine it_V.sN it_cd33 it_m33 1 (pc1 := 28) (ls1 := [some (.int x0), some (.int x1), some (.int r1), some (.int r3), none]) (st1 := [(.int (0 : Int32))]) (mem1 := m4) rfl ?_
    exact s_33_28 kc Φ x0 x1 r1 r3 (0 : Int32) m4 h
set_option maxRecDepth 100000 in
set_option maxHeartbeats 4000000 in
theorem s_29_130 (kc : it_Kc) (Φ : Int32 → it_Me → Prop) (u0 : Int32) (m : it_Me) (h : w_29_130 kc Φ u0 m) : it_V kc it_sh0 29 130 [none, none, none] [(.int u0)] m (it_Pi Φ) := by
  rw [w_29_130] at h
  exact it_V.ret it_cd29 it_m29 rfl rfl ⟨_, rfl, h⟩
set_option maxRecDepth 100000 in
set_option maxHeartbeats 4000000 in
theorem s_29 (kc : it_Kc) (x0 : Int32) (m : it_Me) (Φ : Int32 → it_Me → Prop) (h : w_29 kc x0 m Φ) : it_V kc it_sh0 29 0 (it_loc0 [(.int x0)] 3) [] m (it_Pi Φ) := by
  rw [w_29] at h
  refine it_V.at (pc1 := 0) (ls1 := [some (.int x0), none, none]) (st1 := []) (mem1 := m) rfl rfl rfl rfl ?_
  refine it_V.sN it_cd29 it_m29 23 (pc1 := 29) (ls1 := [some (.int x0), some (.int ((it_us x0 (7 : Int32)) &&& (31 : Int32))), some (.int ((it_shl (it_shr (it_shl x0 (19 : Int32)) (31 : Int32)) (5 : Int32)) ||| ((it_us x0 (2 : Int32)) &&& (31 : Int32))))]) (st1 := [(.int (it_us x0 (13 : Int32)))]) (mem1 := m) rfl ?_
  refine it_V.sN it_cd29 it_m29 1 (pc1 := (if (it_us x0 (13 : Int32)) = (0 : Int32) then 72 else (if (it_us x0 (13 : Int32)) = (1 : Int32) then 82 else (if (it_us x0 (13 : Int32)) = (2 : Int32) then 88 else (if (it_us x0 (13 : Int32)) = (3 : Int32) then 98 else (if (it_us x0 (13 : Int32)) = (4 : Int32) then 131 else (if (it_us x0 (13 : Int32)) = (5 : Int32) then 137 else (if (it_us x0 (13 : Int32)) = (6 : Int32) then 143 else 149)))))))) (ls1 := [some (.int x0), some (.int ((it_us x0 (7 : Int32)) &&& (31 : Int32))), some (.int ((it_shl (it_shr (it_shl x0 (19 : Int32)) (31 : Int32)) (5 : Int32)) ||| ((it_us x0 (2 : Int32)) &&& (31 : Int32))))]) (st1 := []) (mem1 := m) rfl ?_
  refine it_V.ite (fun c1 => ?_) (fun c1 => ?_)
  · have h := h.1 c1
    refine it_V.sN it_cd29 it_m29 5 (pc1 := 78) (ls1 := [some (.int x0), some (.int ((it_us x0 (7 : Int32)) &&& (31 : Int32))), some (.int ((it_shl (it_shr (it_shl x0 (19 : Int32)) (31 : Int32)) (5 : Int32)) ||| ((it_us x0 (2 : Int32)) &&& (31 : Int32))))]) (st1 := [(.int ((it_shl (it_shr (it_shl x0 (19 : Int32)) (31 : Int32)) (5 : Int32)) ||| ((it_us x0 (2 : Int32)) &&& (31 : Int32)))), (.int ((it_us x0 (7 : Int32)) &&& (31 : Int32))), (.int ((it_us x0 (7 : Int32)) &&& (31 : Int32))), (.int (0 : Int32)), (.int (19 : Int32))]) (mem1 := m) rfl ?_
    refine it_V.call it_cd29 it_m29 rfl it_m25 [(.int (19 : Int32)), (.int (0 : Int32)), (.int ((it_us x0 (7 : Int32)) &&& (31 : Int32))), (.int ((it_us x0 (7 : Int32)) &&& (31 : Int32))), (.int ((it_shl (it_shr (it_shl x0 (19 : Int32)) (31 : Int32)) (5 : Int32)) ||| ((it_us x0 (2 : Int32)) &&& (31 : Int32))))] [] rfl rfl ⟨Nat.le_of_ble_eq_true rfl, Nat.le_of_ble_eq_true rfl, Nat.le_of_ble_eq_true rfl, Nat.le_of_ble_eq_true rfl, rfl⟩ (s_25 kc (19 : Int32) (0 : Int32) ((it_us x0 (7 : Int32)) &&& (31 : Int32)) ((it_us x0 (7 : Int32)) &&& (31 : Int32)) ((it_shl (it_shr (it_shl x0 (19 : Int32)) (31 : Int32)) (5 : Int32)) ||| ((it_us x0 (2 : Int32)) &&& (31 : Int32))) m _ h) ?_
    rintro _ m3 ⟨r2, rfl, h⟩
    refine it_V.at (pc1 := 81) (ls1 := [some (.int x0), some (.int ((it_us x0 (7 : Int32)) &&& (31 : Int32))), some (.int ((it_shl (it_shr (it_shl x0 (19 : Int32)) (31 : Int32)) (5 : Int32)) ||| ((it_us x0 (2 : Int32)) &&& (31 : Int32))))]) (st1 := [(.int r2)]) (mem1 := m3) rfl rfl rfl rfl ?_
    exact it_V.ret it_cd29 it_m29 rfl rfl ⟨_, rfl, h⟩
  · have h := h.2 c1
    refine it_V.ite (fun c4 => ?_) (fun c4 => ?_)
    · have h := h.1 c4
      refine it_V.sN it_cd29 it_m29 2 (pc1 := 84) (ls1 := [some (.int x0), some (.int ((it_us x0 (7 : Int32)) &&& (31 : Int32))), some (.int ((it_shl (it_shr (it_shl x0 (19 : Int32)) (31 : Int32)) (5 : Int32)) ||| ((it_us x0 (2 : Int32)) &&& (31 : Int32))))]) (st1 := [(.int (1 : Int32)), (.int x0)]) (mem1 := m) rfl ?_
      refine it_V.call it_cd29 it_m29 rfl it_m31 [(.int x0), (.int (1 : Int32))] [] rfl rfl ⟨Nat.le_of_ble_eq_true rfl, Nat.le_of_ble_eq_true rfl, Nat.le_of_ble_eq_true rfl, Nat.le_of_ble_eq_true rfl, rfl⟩ (s_31 kc x0 (1 : Int32) m _ h) ?_
      rintro _ m6 ⟨r5, rfl, h⟩
      refine it_V.at (pc1 := 87) (ls1 := [some (.int x0), some (.int ((it_us x0 (7 : Int32)) &&& (31 : Int32))), some (.int ((it_shl (it_shr (it_shl x0 (19 : Int32)) (31 : Int32)) (5 : Int32)) ||| ((it_us x0 (2 : Int32)) &&& (31 : Int32))))]) (st1 := [(.int r5)]) (mem1 := m6) rfl rfl rfl rfl ?_
      exact it_V.ret it_cd29 it_m29 rfl rfl ⟨_, rfl, h⟩
    · have h := h.2 c4
      refine it_V.ite (fun c7 => ?_) (fun c7 => ?_)
      · have h := h.1 c7
        refine it_V.sN it_cd29 it_m29 5 (pc1 := 94) (ls1 := [some (.int x0), some (.int ((it_us x0 (7 : Int32)) &&& (31 : Int32))), some (.int ((it_shl (it_shr (it_shl x0 (19 : Int32)) (31 : Int32)) (5 : Int32)) ||| ((it_us x0 (2 : Int32)) &&& (31 : Int32))))]) (st1 := [(.int ((it_shl (it_shr (it_shl x0 (19 : Int32)) (31 : Int32)) (5 : Int32)) ||| ((it_us x0 (2 : Int32)) &&& (31 : Int32)))), (.int (0 : Int32)), (.int ((it_us x0 (7 : Int32)) &&& (31 : Int32))), (.int (0 : Int32)), (.int (19 : Int32))]) (mem1 := m) rfl ?_
        refine it_V.call it_cd29 it_m29 rfl it_m25 [(.int (19 : Int32)), (.int (0 : Int32)), (.int ((it_us x0 (7 : Int32)) &&& (31 : Int32))), (.int (0 : Int32)), (.int ((it_shl (it_shr (it_shl x0 (19 : Int32)) (31 : Int32)) (5 : Int32)) ||| ((it_us x0 (2 : Int32)) &&& (31 : Int32))))] [] rfl rfl ⟨Nat.le_of_ble_eq_true rfl, Nat.le_of_ble_eq_true rfl, Nat.le_of_ble_eq_true rfl, Nat.le_of_ble_eq_true rfl, rfl⟩ (s_25 kc (19 : Int32) (0 : Int32) ((it_us x0 (7 : Int32)) &&& (31 : Int32)) (0 : Int32) ((it_shl (it_shr (it_shl x0 (19 : Int32)) (31 : Int32)) (5 : Int32)) ||| ((it_us x0 (2 : Int32)) &&& (31 : Int32))) m _ h) ?_
        rintro _ m9 ⟨r8, rfl, h⟩
        refine it_V.at (pc1 := 97) (ls1 := [some (.int x0), some (.int ((it_us x0 (7 : Int32)) &&& (31 : Int32))), some (.int ((it_shl (it_shr (it_shl x0 (19 : Int32)) (31 : Int32)) (5 : Int32)) ||| ((it_us x0 (2 : Int32)) &&& (31 : Int32))))]) (st1 := [(.int r8)]) (mem1 := m9) rfl rfl rfl rfl ?_
        exact it_V.ret it_cd29 it_m29 rfl rfl ⟨_, rfl, h⟩
      · have h := h.2 c7
        refine it_V.ite (fun c10 => ?_) (fun c10 => ?_)
        · have h := h.1 c10
          refine it_V.sN it_cd29 it_m29 3 (pc1 := (if ((it_us x0 (7 : Int32)) &&& (31 : Int32)) = (2 : Int32) then 103 else 110)) (ls1 := [some (.int x0), some (.int ((it_us x0 (7 : Int32)) &&& (31 : Int32))), some (.int ((it_shl (it_shr (it_shl x0 (19 : Int32)) (31 : Int32)) (5 : Int32)) ||| ((it_us x0 (2 : Int32)) &&& (31 : Int32))))]) (st1 := []) (mem1 := m) rfl ?_
          refine it_V.ite (fun c11 => ?_) (fun c11 => ?_)
          · have h := h.1 c11
            refine it_V.sN it_cd29 it_m29 1 (pc1 := 104) (ls1 := [some (.int x0), some (.int ((it_us x0 (7 : Int32)) &&& (31 : Int32))), some (.int ((it_shl (it_shr (it_shl x0 (19 : Int32)) (31 : Int32)) (5 : Int32)) ||| ((it_us x0 (2 : Int32)) &&& (31 : Int32))))]) (st1 := [(.int x0)]) (mem1 := m) rfl ?_
            refine it_V.call it_cd29 it_m29 rfl it_m30 [(.int x0)] [] rfl rfl ⟨Nat.le_of_ble_eq_true rfl, Nat.le_of_ble_eq_true rfl, Nat.le_of_ble_eq_true rfl, Nat.le_of_ble_eq_true rfl, rfl⟩ (s_30 kc x0 m _ h) ?_
            rintro _ m13 ⟨r12, rfl, h⟩
            refine it_V.at (pc1 := 107) (ls1 := [some (.int x0), some (.int ((it_us x0 (7 : Int32)) &&& (31 : Int32))), some (.int ((it_shl (it_shr (it_shl x0 (19 : Int32)) (31 : Int32)) (5 : Int32)) ||| ((it_us x0 (2 : Int32)) &&& (31 : Int32))))]) (st1 := [(.int r12)]) (mem1 := m13) rfl rfl rfl rfl ?_
            refine it_V.sN it_cd29 it_m29 1 (pc1 := 130) (ls1 := [some (.int x0), some (.int ((it_us x0 (7 : Int32)) &&& (31 : Int32))), some (.int ((it_shl (it_shr (it_shl x0 (19 : Int32)) (31 : Int32)) (5 : Int32)) ||| ((it_us x0 (2 : Int32)) &&& (31 : Int32))))]) (st1 := [(.int r12)]) (mem1 := m13) rfl ?_
            refine it_V.weak (l := [none, none, none]) trivial ?_
            exact s_29_130 kc Φ r12 m13 h
          · have h := h.2 c11
            refine it_V.sN it_cd29 it_m29 2 (pc1 := (if ((it_shl (it_shr (it_shl x0 (19 : Int32)) (31 : Int32)) (5 : Int32)) ||| ((it_us x0 (2 : Int32)) &&& (31 : Int32))) = 0 then 114 else 118)) (ls1 := [some (.int x0), some (.int ((it_us x0 (7 : Int32)) &&& (31 : Int32))), some (.int ((it_shl (it_shr (it_shl x0 (19 : Int32)) (31 : Int32)) (5 : Int32)) ||| ((it_us x0 (2 : Int32)) &&& (31 : Int32))))]) (st1 := []) (mem1 := m) rfl ?_
            refine it_V.ite (fun c14 => ?_) (fun c14 => ?_)
            · have h := h.1 c14
              refine it_V.sN it_cd29 it_m29 2 (pc1 := 130) (ls1 := [some (.int x0), some (.int ((it_us x0 (7 : Int32)) &&& (31 : Int32))), some (.int ((it_shl (it_shr (it_shl x0 (19 : Int32)) (31 : Int32)) (5 : Int32)) ||| ((it_us x0 (2 : Int32)) &&& (31 : Int32))))]) (st1 := [(.int (0 : Int32))]) (mem1 := m) rfl ?_
              refine it_V.weak (l := [none, none, none]) trivial ?_
              exact s_29_130 kc Φ (0 : Int32) m h
            · have h := h.2 c14
              refine it_V.sN it_cd29 it_m29 9 (pc1 := 130) (ls1 := [some (.int x0), some (.int ((it_us x0 (7 : Int32)) &&& (31 : Int32))), some (.int ((it_shl (it_shr (it_shl x0 (19 : Int32)) (31 : Int32)) (5 : Int32)) ||| ((it_us x0 (2 : Int32)) &&& (31 : Int32))))]) (st1 := [(.int (((it_shl ((it_shl (it_shr (it_shl x0 (19 : Int32)) (31 : Int32)) (5 : Int32)) ||| ((it_us x0 (2 : Int32)) &&& (31 : Int32))) (12 : Int32)) ||| (it_shl ((it_us x0 (7 : Int32)) &&& (31 : Int32)) (7 : Int32))) ||| (55 : Int32)))]) (mem1 := m) rfl ?_
              refine it_V.weak (l := [none, none, none]) trivial ?_
              exact s_29_130 kc Φ (((it_shl ((it_shl (it_shr (it_shl x0 (19 : Int32)) (31 : Int32)) (5 : Int32)) ||| ((it_us x0 (2 : Int32)) &&& (31 : Int32))) (12 : Int32)) ||| (it_shl ((it_us x0 (7 : Int32)) &&& (31 : Int32)) (7 : Int32))) ||| (55 : Int32)) m h
        · have h := h.2 c10
          refine it_V.ite (fun c15 => ?_) (fun c15 => ?_)
          · have h := h.1 c15
            refine it_V.sN it_cd29 it_m29 2 (pc1 := 133) (ls1 := [some (.int x0), some (.int ((it_us x0 (7 : Int32)) &&& (31 : Int32))), some (.int ((it_shl (it_shr (it_shl x0 (19 : Int32)) (31 : Int32)) (5 : Int32)) ||| ((it_us x0 (2 : Int32)) &&& (31 : Int32))))]) (st1 := [(.int ((it_shl (it_shr (it_shl x0 (19 : Int32)) (31 : Int32)) (5 : Int32)) ||| ((it_us x0 (2 : Int32)) &&& (31 : Int32)))), (.int x0)]) (mem1 := m) rfl ?_
            refine it_V.call it_cd29 it_m29 rfl it_m33 [(.int x0), (.int ((it_shl (it_shr (it_shl x0 (19 : Int32)) (31 : Int32)) (5 : Int32)) ||| ((it_us x0 (2 : Int32)) &&& (31 : Int32))))] [] rfl rfl ⟨Nat.le_of_ble_eq_true rfl, Nat.le_of_ble_eq_true rfl, Nat.le_of_ble_eq_true rfl, Nat.le_of_ble_eq_true rfl, rfl⟩ (s_33 kc x0 ((it_shl (it_shr (it_shl x0 (19 : Int32)) (31 : Int32)) (5 : Int32)) ||| ((it_us x0 (2 : Int32)) &&& (31 : Int32))) m _ h) ?_
            rintro _ m17 ⟨r16, rfl, h⟩
            refine it_V.at (pc1 := 136) (ls1 := [some (.int x0), some (.int ((it_us x0 (7 : Int32)) &&& (31 : Int32))), some (.int ((it_shl (it_shr (it_shl x0 (19 : Int32)) (31 : Int32)) (5 : Int32)) ||| ((it_us x0 (2 : Int32)) &&& (31 : Int32))))]) (st1 := [(.int r16)]) (mem1 := m17) rfl rfl rfl rfl ?_
            exact it_V.ret it_cd29 it_m29 rfl rfl ⟨_, rfl, h⟩
          · have h := h.2 c15
            refine it_V.ite (fun c18 => ?_) (fun c18 => ?_)
            · have h := h.1 c18
              refine it_V.sN it_cd29 it_m29 2 (pc1 := 139) (ls1 := [some (.int x0), some (.int ((it_us x0 (7 : Int32)) &&& (31 : Int32))), some (.int ((it_shl (it_shr (it_shl x0 (19 : Int32)) (31 : Int32)) (5 : Int32)) ||| ((it_us x0 (2 : Int32)) &&& (31 : Int32))))]) (st1 := [(.int (0 : Int32)), (.int x0)]) (mem1 := m) rfl ?_
              refine it_V.call it_cd29 it_m29 rfl it_m31 [(.int x0), (.int (0 : Int32))] [] rfl rfl ⟨Nat.le_of_ble_eq_true rfl, Nat.le_of_ble_eq_true rfl, Nat.le_of_ble_eq_true rfl, Nat.le_of_ble_eq_true rfl, rfl⟩ (s_31 kc x0 (0 : Int32) m _ h) ?_
              rintro _ m20 ⟨r19, rfl, h⟩
              refine it_V.at (pc1 := 142) (ls1 := [some (.int x0), some (.int ((it_us x0 (7 : Int32)) &&& (31 : Int32))), some (.int ((it_shl (it_shr (it_shl x0 (19 : Int32)) (31 : Int32)) (5 : Int32)) ||| ((it_us x0 (2 : Int32)) &&& (31 : Int32))))]) (st1 := [(.int r19)]) (mem1 := m20) rfl rfl rfl rfl ?_
              exact it_V.ret it_cd29 it_m29 rfl rfl ⟨_, rfl, h⟩
            · have h := h.2 c18
              refine it_V.ite (fun c21 => ?_) (fun c21 => ?_)
              · have h := h.1 c21
                refine it_V.sN it_cd29 it_m29 2 (pc1 := 145) (ls1 := [some (.int x0), some (.int ((it_us x0 (7 : Int32)) &&& (31 : Int32))), some (.int ((it_shl (it_shr (it_shl x0 (19 : Int32)) (31 : Int32)) (5 : Int32)) ||| ((it_us x0 (2 : Int32)) &&& (31 : Int32))))]) (st1 := [(.int (0 : Int32)), (.int x0)]) (mem1 := m) rfl ?_
                refine it_V.call it_cd29 it_m29 rfl it_m32 [(.int x0), (.int (0 : Int32))] [] rfl rfl ⟨Nat.le_of_ble_eq_true rfl, Nat.le_of_ble_eq_true rfl, Nat.le_of_ble_eq_true rfl, Nat.le_of_ble_eq_true rfl, rfl⟩ (s_32 kc x0 (0 : Int32) m _ h) ?_
                rintro _ m23 ⟨r22, rfl, h⟩
                refine it_V.at (pc1 := 148) (ls1 := [some (.int x0), some (.int ((it_us x0 (7 : Int32)) &&& (31 : Int32))), some (.int ((it_shl (it_shr (it_shl x0 (19 : Int32)) (31 : Int32)) (5 : Int32)) ||| ((it_us x0 (2 : Int32)) &&& (31 : Int32))))]) (st1 := [(.int r22)]) (mem1 := m23) rfl rfl rfl rfl ?_
                exact it_V.ret it_cd29 it_m29 rfl rfl ⟨_, rfl, h⟩
              · have h := h.2 c21
                refine it_V.sN it_cd29 it_m29 2 (pc1 := 151) (ls1 := [some (.int x0), some (.int ((it_us x0 (7 : Int32)) &&& (31 : Int32))), some (.int ((it_shl (it_shr (it_shl x0 (19 : Int32)) (31 : Int32)) (5 : Int32)) ||| ((it_us x0 (2 : Int32)) &&& (31 : Int32))))]) (st1 := [(.int (1 : Int32)), (.int x0)]) (mem1 := m) rfl ?_
                refine it_V.call it_cd29 it_m29 rfl it_m32 [(.int x0), (.int (1 : Int32))] [] rfl rfl ⟨Nat.le_of_ble_eq_true rfl, Nat.le_of_ble_eq_true rfl, Nat.le_of_ble_eq_true rfl, Nat.le_of_ble_eq_true rfl, rfl⟩ (s_32 kc x0 (1 : Int32) m _ h) ?_
                rintro _ m25 ⟨r24, rfl, h⟩
                refine it_V.at (pc1 := 154) (ls1 := [some (.int x0), some (.int ((it_us x0 (7 : Int32)) &&& (31 : Int32))), some (.int ((it_shl (it_shr (it_shl x0 (19 : Int32)) (31 : Int32)) (5 : Int32)) ||| ((it_us x0 (2 : Int32)) &&& (31 : Int32))))]) (st1 := [(.int r24)]) (mem1 := m25) rfl rfl rfl rfl ?_
                exact it_V.ret it_cd29 it_m29 rfl rfl ⟨_, rfl, h⟩
set_option maxRecDepth 100000 in
set_option maxHeartbeats 4000000 in
theorem s_34_93 (kc : it_Kc) (Φ : Int32 → it_Me → Prop) (u0 : Int32) (m : it_Me) (h : w_34_93 kc Φ u0 m) : it_V kc it_sh0 34 93 [none, none, none, none, none] [(.int u0)] m (it_Pi Φ) := by
  rw [w_34_93] at h
  exact it_V.ret it_cd34 it_m34 rfl rfl ⟨_, rfl, h⟩
set_option maxRecDepth 100000 in
set_option maxHeartbeats 4000000 in
theorem s_34_138 (kc : it_Kc) (Φ : Int32 → it_Me → Prop) (u0 : Int32) (m : it_Me) (h : w_34_138 kc Φ u0 m) : it_V kc it_sh0 34 138 [none, none, none, none, none] [(.int u0)] m (it_Pi Φ) := by
  rw [w_34_138] at h
  exact it_V.ret it_cd34 it_m34 rfl rfl ⟨_, rfl, h⟩
set_option maxRecDepth 100000 in
set_option maxHeartbeats 4000000 in
theorem s_34_155 (kc : it_Kc) (Φ : Int32 → it_Me → Prop) (v2 : Int32) (u0 : Int32) (u1 : Int32) (u2 : Int32) (u3 : Int32) (m : it_Me) (h : w_34_155 kc Φ v2 u0 u1 u2 u3 m) : it_V kc it_sh0 34 155 [none, none, some (.int v2), none, none] [(.int u3), (.int u2), (.int u1), (.int u0)] m (it_Pi Φ) := by
  rw [w_34_155] at h
  refine it_V.sN it_cd34 it_m34 1 (pc1 := 156) (ls1 := [none, none, some (.int v2), none, none]) (st1 := [(.int v2), (.int u3), (.int u2), (.int u1), (.int u0)]) (mem1 := m) rfl ?_
  refine it_V.call it_cd34 it_m34 rfl it_m26 [(.int u0), (.int u1), (.int u2), (.int u3), (.int v2)] [] rfl rfl ⟨Nat.le_of_ble_eq_true rfl, Nat.le_of_ble_eq_true rfl, Nat.le_of_ble_eq_true rfl, Nat.le_of_ble_eq_true rfl, rfl⟩ (s_26 kc u0 u1 u2 u3 v2 m _ h) ?_
  rintro _ m2 ⟨r1, rfl, h⟩
  refine it_V.at (pc1 := 159) (ls1 := [none, none, some (.int v2), none, none]) (st1 := [(.int r1)]) (mem1 := m2) rfl rfl rfl rfl ?_
  exact it_V.ret it_cd34 it_m34 rfl rfl ⟨_, rfl, h⟩
set_option maxRecDepth 100000 in
set_option maxHeartbeats 4000000 in
theorem s_34_174 (kc : it_Kc) (Φ : Int32 → it_Me → Prop) (u0 : Int32) (m : it_Me) (h : w_34_174 kc Φ u0 m) : it_V kc it_sh0 34 174 [none, none, none, none, none] [(.int u0)] m (it_Pi Φ) := by
  rw [w_34_174] at h
  exact it_V.ret it_cd34 it_m34 rfl rfl ⟨_, rfl, h⟩
set_option maxRecDepth 100000 in
set_option maxHeartbeats 4000000 in
theorem s_34_187 (kc : it_Kc) (Φ : Int32 → it_Me → Prop) (v1 : Int32) (u0 : Int32) (u1 : Int32) (u2 : Int32) (m : it_Me) (h : w_34_187 kc Φ v1 u0 u1 u2 m) : it_V kc it_sh0 34 187 [none, some (.int v1), none, none, none] [(.int u2), (.int u1), (.int u0)] m (it_Pi Φ) := by
  rw [w_34_187] at h
  refine it_V.sN it_cd34 it_m34 2 (pc1 := 189) (ls1 := [none, some (.int v1), none, none, none]) (st1 := [(.int (0 : Int32)), (.int v1), (.int u2), (.int u1), (.int u0)]) (mem1 := m) rfl ?_
  refine it_V.call it_cd34 it_m34 rfl it_m25 [(.int u0), (.int u1), (.int u2), (.int v1), (.int (0 : Int32))] [] rfl rfl ⟨Nat.le_of_ble_eq_true rfl, Nat.le_of_ble_eq_true rfl, Nat.le_of_ble_eq_true rfl, Nat.le_of_ble_eq_true rfl, rfl⟩ (s_25 kc u0 u1 u2 v1 (0 : Int32) m _ h) ?_
  rintro _ m2 ⟨r1, rfl, h⟩
  refine it_V.at (pc1 := 192) (ls1 := [none, some (.int v1), none, none, none]) (st1 := [(.int r1)]) (mem1 := m2) rfl rfl rfl rfl ?_
  exact it_V.ret it_cd34 it_m34 rfl rfl ⟨_, rfl, h⟩
set_option maxRecDepth 100000 in
set_option maxHeartbeats 4000000 in
theorem s_34_30 (kc : it_Kc) (Φ : Int32 → it_Me → Prop) (v0 : Int32) (v1 : Int32) (v2 : Int32) (u0 : Int32) (m : it_Me) (h : w_34_30 kc Φ v0 v1 v2 u0 m) : it_V kc it_sh0 34 30 [some (.int v0), some (.int v1), some (.int v2), none, none] [(.int u0)] m (it_Pi Φ) := by
  rw [w_34_30] at h
  refine it_V.sN it_cd34 it_m34 4 (pc1 := 35) (ls1 := [some (.int v0), some (.int v1), some (.int v2), some (.int u0), none]) (st1 := [(.int (it_us v0 (13 : Int32)))]) (mem1 := m) rfl ?_
  refine it_V.sN it_cd34 it_m34 1 (pc1 := (if (it_us v0 (13 : Int32)) = (0 : Int32) then 76 else (if (it_us v0 (13 : Int32)) = (1 : Int32) then 217 else (if (it_us v0 (13 : Int32)) = (2 : Int32) then 94 else (if (it_us v0 (13 : Int32)) = (3 : Int32) then 217 else (if (it_us v0 (13 : Int32)) = (4 : Int32) then 139 else (if (it_us v0 (13 : Int32)) = (5 : Int32) then 217 else (if (it_us v0 (13 : Int32)) = (6 : Int32) then 193 else 217)))))))) (ls1 := [some (.int v0), some (.int v1), some (.int v2), some (.int u0), none]) (st1 := []) (mem1 := m) rfl ?_
  refine it_V.ite (fun c1 => ?_) (fun c1 => ?_)
  · have h := h.1 c1
    refine it_V.sN it_cd34 it_m34 2 (pc1 := (if u0 = 0 then 84 else 80)) (ls1 := [some (.int v0), some (.int v1), some (.int v2), some (.int u0), none]) (st1 := []) (mem1 := m) rfl ?_
    refine it_V.ite (fun c2 => ?_) (fun c2 => ?_)
    · have h := h.1 c2
      refine it_V.sN it_cd34 it_m34 5 (pc1 := 90) (ls1 := [some (.int v0), some (.int v1), some (.int v2), some (.int u0), none]) (st1 := [(.int v2), (.int v1), (.int v1), (.int (1 : Int32)), (.int (19 : Int32))]) (mem1 := m) rfl ?_
      refine it_V.call it_cd34 it_m34 rfl it_m25 [(.int (19 : Int32)), (.int (1 : Int32)), (.int v1), (.int v1), (.int v2)] [] rfl rfl ⟨Nat.le_of_ble_eq_true rfl, Nat.le_of_ble_eq_true rfl, Nat.le_of_ble_eq_true rfl, Nat.le_of_ble_eq_true rfl, rfl⟩ (s_25 kc (19 : Int32) (1 : Int32) v1 v1 v2 m _ h) ?_
      rintro _ m4 ⟨r3, rfl, h⟩
      refine it_V.at (pc1 := 93) (ls1 := [some (.int v0), some (.int v1), some (.int v2), some (.int u0), none]) (st1 := [(.int r3)]) (mem1 := m4) rfl rfl rfl rfl ?_
      refine it_V.weak (l := [none, none, none, none, none]) trivial ?_
      exact s_34_93 kc Φ r3 m4 h
    · have h := h.2 c2
      refine it_V.sN it_cd34 it_m34 2 (pc1 := 93) (ls1 := [some (.int v0), some (.int v1), some (.int v2), some (.int u0), none]) (st1 := [(.int (0 : Int32))]) (mem1 := m) rfl ?_
      refine it_V.weak (l := [none, none, none, none, none]) trivial ?_
      exact s_34_93 kc Φ (0 : Int32) m h
  · have h := h.2 c1
    refine it_V.ite (fun c5 => ?_) (fun c5 => ?_)
    · have h := h.1 c5
      refine it_V.sN it_cd34 it_m34 1 (pc1 := 218) (ls1 := [some (.int v0), some (.int v1), some (.int v2), some (.int u0), none]) (st1 := [(.int (0 : Int32))]) (mem1 := m) rfl ?_
      exact it_V.ret it_cd34 it_m34 rfl rfl ⟨_, rfl, h⟩
    · have h := h.2 c5
      refine it_V.ite (fun c6 => ?_) (fun c6 => ?_)
      · have h := h.1 c6
        refine it_V.sN it_cd34 it_m34 4 (pc1 := 99) (ls1 := [some (.int v0), some (.int v1), some (.int v2), some (.int u0), none]) (st1 := [(.int (5 : Int32)), (.int (1 : Int32)), (.int (12 : Int32)), (.int v0)]) (mem1 := m) rfl ?_
        refine it_V.call it_cd34 it_m34 rfl it_m23 [(.int v0), (.int (12 : Int32)), (.int (1 : Int32)), (.int (5 : Int32))] [] rfl rfl ⟨Nat.le_of_ble_eq_true rfl, Nat.le_of_ble_eq_true rfl, Nat.le_of_ble_eq_true rfl, Nat.le_of_ble_eq_true rfl, rfl⟩ (s_23 kc v0 (12 : Int32) (1 : Int32) (5 : Int32) m _ h) ?_
        rintro _ m8 ⟨r7, rfl, h⟩
        refine it_V.at (pc1 := 102) (ls1 := [some (.int v0), some (.int v1), some (.int v2), some (.int u0), none]) (st1 := [(.int r7)]) (mem1 := m8) rfl rfl rfl rfl ?_
        refine it_V.sN it_cd34 it_m34 4 (pc1 := 106) (ls1 := [some (.int v0), some (.int v1), some (.int v2), some (.int u0), none]) (st1 := [(.int (2 : Int32)), (.int (3 : Int32)), (.int (4 : Int32)), (.int v0), (.int r7)]) (mem1 := m8) rfl ?_
        refine it_V.call it_cd34 it_m34 rfl it_m23 [(.int v0), (.int (4 : Int32)), (.int (3 : Int32)), (.int (2 : Int32))] [(.int r7)] rfl rfl ⟨Nat.le_of_ble_eq_true rfl, Nat.le_of_ble_eq_true rfl, Nat.le_of_ble_eq_true rfl, Nat.le_of_ble_eq_true rfl, rfl⟩ (s_23 kc v0 (4 : Int32) (3 : Int32) (2 : Int32) m8 _ h) ?_
        rintro _ m10 ⟨r9, rfl, h⟩
        refine it_V.at (pc1 := 109) (ls1 := [some (.int v0), some (.int v1), some (.int v2), some (.int u0), none]) (st1 := [(.int r9), (.int r7)]) (mem1 := m10) rfl rfl rfl rfl ?_
        refine it_V.sN it_cd34 it_m34 5 (pc1 := 115) (ls1 := [some (.int v0), some (.int v1), some (.int v2), some (.int u0), none]) (st1 := [(.int (6 : Int32)), (.int (2 : Int32)), (.int (2 : Int32)), (.int v0), (.int (r7 ||| r9))]) (mem1 := m10) rfl ?_
        refine it_V.call it_cd34 it_m34 rfl it_m23 [(.int v0), (.int (2 : Int32)), (.int (2 : Int32)), (.int (6 : Int32))] [(.int (r7 ||| r9))] rfl rfl ⟨Nat.le_of_ble_eq_true rfl, Nat.le_of_ble_eq_true rfl, Nat.le_of_ble_eq_true rfl, Nat.le_of_ble_eq_true rfl, rfl⟩ (s_23 kc v0 (2 : Int32) (2 : Int32) (6 : Int32) m10 _ h) ?_
        rintro _ m12 ⟨r11, rfl, h⟩
        refine it_V.at (pc1 := 118) (ls1 := [some (.int v0), some (.int v1), some (.int v2), some (.int u0), none]) (st1 := [(.int r11), (.int (r7 ||| r9))]) (mem1 := m12) rfl rfl rfl rfl ?_
        refine it_V.sN it_cd34 it_m34 4 (pc1 := (if v1 = 0 then 125 else 129)) (ls1 := [some (.int v0), some (.int v1), some (.int v2), some (.int u0), some (.int ((r7 ||| r9) ||| r11))]) (st1 := []) (mem1 := m12) rfl ?_
        refine it_V.ite (fun c13 => ?_) (fun c13 => ?_)
        · have h := h.1 c13
          refine it_V.sN it_cd34 it_m34 2 (pc1 := 138) (ls1 := [some (.int v0), some (.int v1), some (.int v2), some (.int u0), some (.int ((r7 ||| r9) ||| r11))]) (st1 := [(.int (0 : Int32))]) (mem1 := m12) rfl ?_
          refine it_V.weak (l := [none, none, none, none, none]) trivial ?_
          exact s_34_138 kc Φ (0 : Int32) m12 h
        · have h := h.2 c13
          refine it_V.sN it_cd34 it_m34 5 (pc1 := 135) (ls1 := [some (.int v0), some (.int v1), some (.int v2), some (.int u0), some (.int ((r7 ||| r9) ||| r11))]) (st1 := [(.int ((r7 ||| r9) ||| r11)), (.int (2 : Int32)), (.int v1), (.int (2 : Int32)), (.int (3 : Int32))]) (mem1 := m12) rfl ?_
          refine it_V.call it_cd34 it_m34 rfl it_m25 [(.int (3 : Int32)), (.int (2 : Int32)), (.int v1), (.int (2 : Int32)), (.int ((r7 ||| r9) ||| r11))] [] rfl rfl ⟨Nat.le_of_ble_eq_true rfl, Nat.le_of_ble_eq_true rfl, Nat.le_of_ble_eq_true rfl, Nat.le_of_ble_eq_true rfl, rfl⟩ (s_25 kc (3 : Int32) (2 : Int32) v1 (2 : Int32) ((r7 ||| r9) ||| r11) m12 _ h) ?_
          rintro _ m15 ⟨r14, rfl, h⟩
          refine it_V.at (pc1 := 138) (ls1 := [some (.int v0), some (.int v1), some (.int v2), some (.int u0), some (.int ((r7 ||| r9) ||| r11))]) (st1 := [(.int r14)]) (mem1 := m15) rfl rfl rfl rfl ?_
          refine it_V.weak (l := [none, none, none, none, none]) trivial ?_
          exact s_34_138 kc Φ r14 m15 h
      · have h := h.2 c6
        refine it_V.ite (fun c16 => ?_) (fun c16 => ?_)
        · have h := h.1 c16
          refine it_V.sN it_cd34 it_m34 1 (pc1 := 218) (ls1 := [some (.int v0), some (.int v1), some (.int v2), some (.int u0), none]) (st1 := [(.int (0 : Int32))]) (mem1 := m) rfl ?_
          exact it_V.ret it_cd34 it_m34 rfl rfl ⟨_, rfl, h⟩
        · have h := h.2 c16
          refine it_V.ite (fun c17 => ?_) (fun c17 => ?_)
          · have h := h.1 c17
            refine it_V.sN it_cd34 it_m34 2 (pc1 := (if v2 = 0 then 160 else 143)) (ls1 := [some (.int v0), some (.int v1), some (.int v2), some (.int u0), none]) (st1 := []) (mem1 := m) rfl ?_
            refine it_V.ite (fun c18 => ?_) (fun c18 => ?_)
            · have h := h.1 c18
              refine it_V.sN it_cd34 it_m34 2 (pc1 := (if v1 = 0 then 164 else 175)) (ls1 := [some (.int v0), some (.int v1), some (.int v2), some (.int u0), none]) (st1 := []) (mem1 := m) rfl ?_
              refine it_V.ite (fun c19 => ?_) (fun c19 => ?_)
              · have h := h.1 c19
                refine it_V.sN it_cd34 it_m34 2 (pc1 := (if u0 = 0 then 173 else 168)) (ls1 := [some (.int v0), some (.int v1), some (.int v2), some (.int u0), none]) (st1 := []) (mem1 := m) rfl ?_
                refine it_V.ite (fun c20 => ?_) (fun c20 => ?_)
                · have h := h.1 c20
                  refine it_V.sN it_cd34 it_m34 1 (pc1 := 174) (ls1 := [some (.int v0), some (.int v1), some (.int v2), some (.int u0), none]) (st1 := [(.int (0 : Int32))]) (mem1 := m) rfl ?_
                  refine it_V.weak (l := [none, none, none, none, none]) trivial ?_
                  exact s_34_174 kc Φ (0 : Int32) m h
                · have h := h.2 c20
                  refine it_V.sN it_cd34 it_m34 2 (pc1 := 174) (ls1 := [some (.int v0), some (.int v1), some (.int v2), some (.int u0), none]) (st1 := [(.int (1048691 : Int32))]) (mem1 := m) rfl ?_
                  refine it_V.weak (l := [none, none, none, none, none]) trivial ?_
                  exact s_34_174 kc Φ (1048691 : Int32) m h
              · have h := h.2 c19
                refine it_V.sN it_cd34 it_m34 4 (pc1 := (if u0 = 0 then 186 else 182)) (ls1 := [some (.int v0), some (.int v1), some (.int v2), some (.int u0), none]) (st1 := [(.int (0 : Int32)), (.int (103 : Int32))]) (mem1 := m) rfl ?_
                refine it_V.ite (fun c21 => ?_) (fun c21 => ?_)
                · have h := h.1 c21
                  refine it_V.sN it_cd34 it_m34 1 (pc1 := 187) (ls1 := [some (.int v0), some (.int v1), some (.int v2), some (.int u0), none]) (st1 := [(.int (0 : Int32)), (.int (0 : Int32)), (.int (103 : Int32))]) (mem1 := m) rfl ?_
                  refine it_V.weak (l := [none, some (.int v1), none, none, none]) ⟨rfl, trivial⟩ ?_
                  exact s_34_187 kc Φ v1 (103 : Int32) (0 : Int32) (0 : Int32) m h
                · have h := h.2 c21
                  refine it_V.sN it_cd34 it_m34 2 (pc1 := 187) (ls1 := [some (.int v0), some (.int v1), some (.int v2), some (.int u0), none]) (st1 := [(.int (1 : Int32)), (.int (0 : Int32)), (.int (103 : Int32))]) (mem1 := m) rfl ?_
                  refine it_V.weak (l := [none, some (.int v1), none, none, none]) ⟨rfl, trivial⟩ ?_
                  exact s_34_187 kc Φ v1 (103 : Int32) (0 : Int32) (1 : Int32) m h
            · have h := h.2 c18
              refine it_V.sN it_cd34 it_m34 5 (pc1 := (if u0 = 0 then 154 else 150)) (ls1 := [some (.int v0), some (.int v1), some (.int v2), some (.int u0), none]) (st1 := [(.int v1), (.int (0 : Int32)), (.int (0 : Int32))]) (mem1 := m) rfl ?_
              refine it_V.ite (fun c22 => ?_) (fun c22 => ?_)
              · have h := h.1 c22
                refine it_V.sN it_cd34 it_m34 1 (pc1 := 155) (ls1 := [some (.int v0), some (.int v1), some (.int v2), some (.int u0), none]) (st1 := [(.int (0 : Int32)), (.int v1), (.int (0 : Int32)), (.int (0 : Int32))]) (mem1 := m) rfl ?_
                refine it_V.weak (l := [none, none, some (.int v2), none, none]) ⟨rfl, trivial⟩ ?_
                exact s_34_155 kc Φ v2 (0 : Int32) (0 : Int32) v1 (0 : Int32) m h
              · have h := h.2 c22
                refine it_V.sN it_cd34 it_m34 2 (pc1 := 155) (ls1 := [some (.int v0), some (.int v1), some (.int v2), some (.int u0), none]) (st1 := [(.int v1), (.int v1), (.int (0 : Int32)), (.int (0 : Int32))]) (mem1 := m) rfl ?_
                refine it_V.weak (l := [none, none, some (.int v2), none, none]) ⟨rfl, trivial⟩ ?_
                exact s_34_155 kc Φ v2 (0 : Int32) (0 : Int32) v1 v1 m h
          · have h := h.2 c17
            refine it_V.ite (fun c23 => ?_) (fun c23 => ?_)
            · have h := h.1 c23
              refine it_V.sN it_cd34 it_m34 1 (pc1 := 218) (ls1 := [some (.int v0), some (.int v1), some (.int v2), some (.int u0), none]) (st1 := [(.int (0 : Int32))]) (mem1 := m) rfl ?_
              exact it_V.ret it_cd34 it_m34 rfl rfl ⟨_, rfl, h⟩
            · have h := h.2 c23
              refine it_V.ite (fun c24 => ?_) (fun c24 => ?_)
              · have h := h.1 c24
                refine it_V.sN it_cd34 it_m34 6 (pc1 := 200) (ls1 := [some (.int v0), some (.int v1), some (.int v2), some (.int u0), none]) (st1 := [(.int (2 : Int32)), (.int (4 : Int32)), (.int (9 : Int32)), (.int v0), (.int v2), (.int (2 : Int32))]) (mem1 := m) rfl ?_
                refine it_V.call it_cd34 it_m34 rfl it_m23 [(.int v0), (.int (9 : Int32)), (.int (4 : Int32)), (.int (2 : Int32))] [(.int v2), (.int (2 : Int32))] rfl rfl ⟨Nat.le_of_ble_eq_true rfl, Nat.le_of_ble_eq_true rfl, Nat.le_of_ble_eq_true rfl, Nat.le_of_ble_eq_true rfl, rfl⟩ (s_23 kc v0 (9 : Int32) (4 : Int32) (2 : Int32) m _ h) ?_
                rintro _ m26 ⟨r25, rfl, h⟩
                refine it_V.at (pc1 := 203) (ls1 := [some (.int v0), some (.int v1), some (.int v2), some (.int u0), none]) (st1 := [(.int r25), (.int v2), (.int (2 : Int32))]) (mem1 := m26) rfl rfl rfl rfl ?_
                refine it_V.sN it_cd34 it_m34 4 (pc1 := 209) (ls1 := [some (.int v0), some (.int v1), some (.int v2), some (.int u0), none]) (st1 := [(.int (6 : Int32)), (.int (2 : Int32)), (.int (7 : Int32)), (.int v0), (.int r25), (.int v2), (.int (2 : Int32))]) (mem1 := m26) rfl ?_
                refine it_V.call it_cd34 it_m34 rfl it_m23 [(.int v0), (.int (7 : Int32)), (.int (2 : Int32)), (.int (6 : Int32))] [(.int r25), (.int v2), (.int (2 : Int32))] rfl rfl ⟨Nat.le_of_ble_eq_true rfl, Nat.le_of_ble_eq_true rfl, Nat.le_of_ble_eq_true rfl, Nat.le_of_ble_eq_true rfl, rfl⟩ (s_23 kc v0 (7 : Int32) (2 : Int32) (6 : Int32) m26 _ h) ?_
                rintro _ m28 ⟨r27, rfl, h⟩
                refine it_V.at (pc1 := 212) (ls1 := [some (.int v0), some (.int v1), some (.int v2), some (.int u0), none]) (st1 := [(.int r27), (.int r25), (.int v2), (.int (2 : Int32))]) (mem1 := m28) rfl rfl rfl rfl ?_
                refine it_V.sN it_cd34 it_m34 1 (pc1 := 213) (ls1 := [some (.int v0), some (.int v1), some (.int v2), some (.int u0), none]) (st1 := [(.int (r25 ||| r27)), (.int v2), (.int (2 : Int32))]) (mem1 := m28) rfl ?_
                refine it_V.call it_cd34 it_m34 rfl it_m27 [(.int (2 : Int32)), (.int v2), (.int (r25 ||| r27))] [] rfl rfl ⟨Nat.le_of_ble_eq_true rfl, Nat.le_of_ble_eq_true rfl, Nat.le_of_ble_eq_true rfl, Nat.le_of_ble_eq_true rfl, rfl⟩ (s_27 kc (2 : Int32) v2 (r25 ||| r27) m28 _ h) ?_
                rintro _ m30 ⟨r29, rfl, h⟩
                refine it_V.at (pc1 := 216) (ls1 := [some (.int v0), some (.int v1), some (.int v2), some (.int u0), none]) (st1 := [(.int r29)]) (mem1 := m30) rfl rfl rfl rfl ?_
                exact it_V.ret it_cd34 it_m34 rfl rfl ⟨_, rfl, h⟩
              · have h := h.2 c24
                refine it_V.sN it_cd34 it_m34 1 (pc1 := 218) (ls1 := [some (.int v0), some (.int v1), some (.int v2), some (.int u0), none]) (st1 := [(.int (0 : Int32))]) (mem1 := m) rfl ?_
                exact it_V.ret it_cd34 it_m34 rfl rfl ⟨_, rfl, h⟩
set_option maxRecDepth 100000 in
set_option maxHeartbeats 4000000 in
theorem s_34 (kc : it_Kc) (x0 : Int32) (m : it_Me) (Φ : Int32 → it_Me → Prop) (h : w_34 kc x0 m Φ) : it_V kc it_sh0 34 0 (it_loc0 [(.int x0)] 5) [] m (it_Pi Φ) := by
  rw [w_34] at h
  refine it_V.at (pc1 := 0) (ls1 := [some (.int x0), none, none, none, none]) (st1 := []) (mem1 := m) rfl rfl rfl rfl ?_
  refine it_V.sN it_cd34 it_m34 19 (pc1 := (if ((it_us x0 (12 : Int32)) &&& (1 : Int32)) = (1 : Int32) then 25 else 29)) (ls1 := [some (.int x0), some (.int ((it_us x0 (7 : Int32)) &&& (31 : Int32))), some (.int ((it_us x0 (2 : Int32)) &&& (31 : Int32))), none, none]) (st1 := []) (mem1 := m) rfl ?_
  refine it_V.ite (fun c1 => ?_) (fun c1 => ?_)
  · have h := h.1 c1
    refine it_V.sN it_cd34 it_m34 2 (pc1 := 30) (ls1 := [some (.int x0), some (.int ((it_us x0 (7 : Int32)) &&& (31 : Int32))), some (.int ((it_us x0 (2 : Int32)) &&& (31 : Int32))), none, none]) (st1 := [(.int (1 : Int32))]) (mem1 := m) rfl ?_
    exact s_34_30 kc Φ x0 ((it_us x0 (7 : Int32)) &&& (31 : Int32)) ((it_us x0 (2 : Int32)) &&& (31 : Int32)) (1 : Int32) m h
  · have h := h.2 c1
    refine it_V.sN it_cd34 it_m34 1 (pc1 := 30) (ls1 := [some (.int x0), some (.int ((it_us x0 (7 : Int32)) &&& (31 : Int32))), some (.int ((it_us x0 (2 : Int32)) &&& (31 : Int32))), none, none]) (st1 := [(.int (0 : Int32))]) (mem1 := m) rfl ?_
    exact s_34_30 kc Φ x0 ((it_us x0 (7 : Int32)) &&& (31 : Int32)) ((it_us x0 (2 : Int32)) &&& (31 : Int32)) (0 : Int32) m h
set_option maxRecDepth 100000 in
set_option maxHeartbeats 4000000 in
theorem s_22 (kc : it_Kc) (x0 : Int32) (m : it_Me) (Φ : Int32 → it_Me → Prop) (h : w_22 kc x0 m Φ) : it_V kc it_sh0 22 0 (it_loc0 [(.int x0)] 1) [] m (it_Pi Φ) := by
  rw [w_22] at h
  refine it_V.at (pc1 := 0) (ls1 := [some (.int x0)]) (st1 := []) (mem1 := m) rfl rfl rfl rfl ?_
  refine it_V.sN it_cd22 it_m22 3 (pc1 := 3) (ls1 := [some (.int x0)]) (st1 := [(.int (x0 &&& (3 : Int32)))]) (mem1 := m) rfl ?_
  refine it_V.sN it_cd22 it_m22 1 (pc1 := (if (x0 &&& (3 : Int32)) = (0 : Int32) then 28 else (if (x0 &&& (3 : Int32)) = (1 : Int32) then 33 else 38))) (ls1 := [some (.int x0)]) (st1 := []) (mem1 := m) rfl ?_
  refine it_V.ite (fun c1 => ?_) (fun c1 => ?_)
  · have h := h.1 c1
    refine it_V.sN it_cd22 it_m22 1 (pc1 := 29) (ls1 := [some (.int x0)]) (st1 := [(.int x0)]) (mem1 := m) rfl ?_
    refine it_V.call it_cd22 it_m22 rfl it_m28 [(.int x0)] [] rfl rfl ⟨Nat.le_of_ble_eq_true rfl, Nat.le_of_ble_eq_true rfl, Nat.le_of_ble_eq_true rfl, Nat.le_of_ble_eq_true rfl, rfl⟩ (s_28 kc x0 m _ h) ?_
    rintro _ m3 ⟨r2, rfl, h⟩
    refine it_V.at (pc1 := 32) (ls1 := [some (.int x0)]) (st1 := [(.int r2)]) (mem1 := m3) rfl rfl rfl rfl ?_
    exact it_V.ret it_cd22 it_m22 rfl rfl ⟨_, rfl, h⟩
  · have h := h.2 c1
    refine it_V.ite (fun c4 => ?_) (fun c4 => ?_)
    · have h := h.1 c4
      refine it_V.sN it_cd22 it_m22 1 (pc1 := 34) (ls1 := [some (.int x0)]) (st1 := [(.int x0)]) (mem1 := m) rfl ?_
      refine it_V.call it_cd22 it_m22 rfl it_m29 [(.int x0)] [] rfl rfl ⟨Nat.le_of_ble_eq_true rfl, Nat.le_of_ble_eq_true rfl, Nat.le_of_ble_eq_true rfl, Nat.le_of_ble_eq_true rfl, rfl⟩ (s_29 kc x0 m _ h) ?_
      rintro _ m6 ⟨r5, rfl, h⟩
      refine it_V.at (pc1 := 37) (ls1 := [some (.int x0)]) (st1 := [(.int r5)]) (mem1 := m6) rfl rfl rfl rfl ?_
      exact it_V.ret it_cd22 it_m22 rfl rfl ⟨_, rfl, h⟩
    · have h := h.2 c4
      refine it_V.sN it_cd22 it_m22 1 (pc1 := 39) (ls1 := [some (.int x0)]) (st1 := [(.int x0)]) (mem1 := m) rfl ?_
      refine it_V.call it_cd22 it_m22 rfl it_m34 [(.int x0)] [] rfl rfl ⟨Nat.le_of_ble_eq_true rfl, Nat.le_of_ble_eq_true rfl, Nat.le_of_ble_eq_true rfl, Nat.le_of_ble_eq_true rfl, rfl⟩ (s_34 kc x0 m _ h) ?_
      rintro _ m8 ⟨r7, rfl, h⟩
      refine it_V.at (pc1 := 42) (ls1 := [some (.int x0)]) (st1 := [(.int r7)]) (mem1 := m8) rfl rfl rfl rfl ?_
      exact it_V.ret it_cd22 it_m22 rfl rfl ⟨_, rfl, h⟩
set_option maxRecDepth 100000 in
set_option maxHeartbeats 4000000 in
theorem s_36 (kc : it_Kc) (x0 : Int32) (m : it_Me) (Φ : it_Me → Prop) (h : w_36 kc x0 m Φ) : it_V kc it_sh0 36 0 (it_loc0 [(.ref 59), (.int x0)] 2) [] m (it_Pv Φ) := by
  rw [w_36] at h
  refine it_V.at (pc1 := 0) (ls1 := [some (.ref 59), some (.int x0)]) (st1 := []) (mem1 := m) rfl rfl rfl rfl ?_
  refine it_V.sN it_cd36 it_m36 9 (pc1 := 15) (ls1 := [some (.ref 59), some (.int x0)]) (st1 := []) (mem1 := (it_sv (it_sv (it_sv m 59 4 (0 : Int32)) 59 7 x0) 59 12 (0 : Int32))) rfl ?_
  exact it_V.ret it_cd36 it_m36 rfl rfl ⟨rfl, h⟩
set_option maxRecDepth 100000 in
set_option maxHeartbeats 4000000 in
theorem s_139 (kc : it_Kc) (k : Nat) (x0 : Int32) (hk : it_isP k) (m : it_Me) (Φ : it_Me → Prop) (h : w_139 kc k x0 m Φ) : it_V kc it_sh0 139 0 (it_loc0 [(.ref k), (.int x0)] 2) [] m (it_Pv Φ) := by
  rw [w_139] at h
  refine it_V.at (pc1 := 0) (ls1 := [some (.ref k), some (.int x0)]) (st1 := []) (mem1 := m) rfl rfl rfl rfl ?_
  refine it_V.sN it_cd139 it_m139 1 (pc1 := 1) (ls1 := [some (.ref k), some (.int x0)]) (st1 := [(.ref k)]) (mem1 := m) rfl ?_
  refine it_V.getP it_cd139 it_m139 rfl (hk).1 rfl ?_
  refine it_V.at (pc1 := 4) (ls1 := [some (.ref k), some (.int x0)]) (st1 := [(.ref (k + 2))]) (mem1 := m) rfl rfl rfl rfl ?_
  refine it_V.sN it_cd139 it_m139 2 (pc1 := 9) (ls1 := [some (.ref k), some (.int x0)]) (st1 := [(.int (129 : Int32)), (.int (10 : Int32)), (.ref (k + 2))]) (mem1 := m) rfl ?_
  obtain ⟨g1, h⟩ := h
  refine it_V.iast it_cd139 it_m139 rfl ((hk).2.2.1).1 g1 ?_
  refine it_V.at (pc1 := 10) (ls1 := [some (.ref k), some (.int x0)]) (st1 := []) (mem1 := (it_sv m (k + 2) (Int32.toNatClampNeg (10 : Int32)) (129 : Int32))) rfl rfl rfl rfl ?_
  refine it_V.sN it_cd139 it_m139 1 (pc1 := 11) (ls1 := [some (.ref k), some (.int x0)]) (st1 := [(.ref k)]) (mem1 := (it_sv m (k + 2) (Int32.toNatClampNeg (10 : Int32)) (129 : Int32))) rfl ?_
  refine it_V.getP it_cd139 it_m139 rfl (hk).1 rfl ?_
  refine it_V.at (pc1 := 14) (ls1 := [some (.ref k), some (.int x0)]) (st1 := [(.ref (k + 2))]) (mem1 := (it_sv m (k + 2) (Int32.toNatClampNeg (10 : Int32)) (129 : Int32))) rfl rfl rfl rfl ?_
  refine it_V.sN it_cd139 it_m139 2 (pc1 := 17) (ls1 := [some (.ref k), some (.int x0)]) (st1 := [(.int x0), (.int (11 : Int32)), (.ref (k + 2))]) (mem1 := (it_sv m (k + 2) (Int32.toNatClampNeg (10 : Int32)) (129 : Int32))) rfl ?_
  obtain ⟨g2, h⟩ := h
  refine it_V.iast it_cd139 it_m139 rfl ((hk).2.2.1).1 g2 ?_
  refine it_V.at (pc1 := 18) (ls1 := [some (.ref k), some (.int x0)]) (st1 := []) (mem1 := (it_sv (it_sv m (k + 2) (Int32.toNatClampNeg (10 : Int32)) (129 : Int32)) (k + 2) (Int32.toNatClampNeg (11 : Int32)) x0)) rfl rfl rfl rfl ?_
  exact it_V.ret it_cd139 it_m139 rfl rfl ⟨rfl, h⟩
set_option maxRecDepth 100000 in
set_option maxHeartbeats 4000000 in
theorem s_43 (kc : it_Kc) (x0 : Nat) (x1 : Int32) (x2 : Int32) (x3 : Int32) (hx0 : it_isP x0) (m : it_Me) (Φ : it_Me → Prop) (h : w_43 kc x0 x1 x2 x3 m Φ) : it_V kc it_sh0 43 0 (it_loc0 [(.ref 59), (.ref x0), (.int x1), (.int x2), (.int x3)] 5) [] m (it_Pv Φ) := by
  rw [w_43] at h
  refine it_V.at (pc1 := 0) (ls1 := [some (.ref 59), some (.ref x0), some (.int x1), some (.int x2), some (.int x3)]) (st1 := []) (mem1 := m) rfl rfl rfl rfl ?_
  refine it_V.sN it_cd43 it_m43 4 (pc1 := 6) (ls1 := [some (.ref 59), some (.ref x0), some (.int x1), some (.int x2), some (.int x3)]) (st1 := [(.int (1 : Int32)), (.int x1), (.ref 1)]) (mem1 := m) rfl ?_
  refine it_V.call it_cd43 it_m43 rfl it_m13 [(.ref 1), (.int x1), (.int (1 : Int32))] [] rfl rfl ⟨Nat.le_of_ble_eq_true rfl, Nat.le_of_ble_eq_true rfl, Nat.le_of_ble_eq_true rfl, Nat.le_of_ble_eq_true rfl, rfl⟩ (s_13 kc x1 (1 : Int32) m _ h) ?_
  rintro _ m1 ⟨rfl, h⟩
  refine it_V.at (pc1 := 9) (ls1 := [some (.ref 59), some (.ref x0), some (.int x1), some (.int x2), some (.int x3)]) (st1 := []) (mem1 := m1) rfl rfl rfl rfl ?_
  refine it_V.sN it_cd43 it_m43 6 (pc1 := 17) (ls1 := [some (.ref 59), some (.ref x0), some (.int x1), some (.int x2), some (.int x3)]) (st1 := [(.int x2), (.int (x1 + (4 : Int32))), (.ref 1)]) (mem1 := m1) rfl ?_
  refine it_V.call it_cd43 it_m43 rfl it_m13 [(.ref 1), (.int (x1 + (4 : Int32))), (.int x2)] [] rfl rfl ⟨Nat.le_of_ble_eq_true rfl, Nat.le_of_ble_eq_true rfl, Nat.le_of_ble_eq_true rfl, Nat.le_of_ble_eq_true rfl, rfl⟩ (s_13 kc (x1 + (4 : Int32)) x2 m1 _ h) ?_
  rintro _ m2 ⟨rfl, h⟩
  refine it_V.at (pc1 := 20) (ls1 := [some (.ref 59), some (.ref x0), some (.int x1), some (.int x2), some (.int x3)]) (st1 := []) (mem1 := m2) rfl rfl rfl rfl ?_
  refine it_V.sN it_cd43 it_m43 6 (pc1 := 30) (ls1 := [some (.ref 59), some (.ref x0), some (.int x1), some (.int x2), some (.int x3)]) (st1 := [(.int x3), (.int (x1 + (8 : Int32))), (.ref 1)]) (mem1 := m2) rfl ?_
  refine it_V.call it_cd43 it_m43 rfl it_m13 [(.ref 1), (.int (x1 + (8 : Int32))), (.int x3)] [] rfl rfl ⟨Nat.le_of_ble_eq_true rfl, Nat.le_of_ble_eq_true rfl, Nat.le_of_ble_eq_true rfl, Nat.le_of_ble_eq_true rfl, rfl⟩ (s_13 kc (x1 + (8 : Int32)) x3 m2 _ h) ?_
  rintro _ m3 ⟨rfl, h⟩
  refine it_V.at (pc1 := 33) (ls1 := [some (.ref 59), some (.ref x0), some (.int x1), some (.int x2), some (.int x3)]) (st1 := []) (mem1 := m3) rfl rfl rfl rfl ?_
  refine it_V.sN it_cd43 it_m43 4 (pc1 := 38) (ls1 := [some (.ref 59), some (.ref x0), some (.int x1), some (.int x2), some (.int x3)]) (st1 := [(.int (x2 + x3)), (.ref x0)]) (mem1 := m3) rfl ?_
  refine it_V.call it_cd43 it_m43 rfl it_m139 [(.ref x0), (.int (x2 + x3))] [] rfl rfl ⟨Nat.le_of_ble_eq_true rfl, Nat.le_of_ble_eq_true rfl, Nat.le_of_ble_eq_true rfl, Nat.le_of_ble_eq_true rfl, (it_recvP (hx0).1)⟩ (s_139 kc x0 (x2 + x3) (hx0) m3 _ h) ?_
  rintro _ m4 ⟨rfl, h⟩
  refine it_V.at (pc1 := 41) (ls1 := [some (.ref 59), some (.ref x0), some (.int x1), some (.int x2), some (.int x3)]) (st1 := []) (mem1 := m4) rfl rfl rfl rfl ?_
  exact it_V.ret it_cd43 it_m43 rfl rfl ⟨rfl, h⟩
set_option maxRecDepth 100000 in
set_option maxHeartbeats 4000000 in
theorem s_136 (kc : it_Kc) (k : Nat) (x0 : Int32) (hk : it_isP k) (m : it_Me) (Φ : it_Me → Prop) (h : w_136 kc k x0 m Φ) : it_V kc it_sh0 136 0 (it_loc0 [(.ref k), (.int x0)] 2) [] m (it_Pv Φ) := by
  rw [w_136] at h
  refine it_V.at (pc1 := 0) (ls1 := [some (.ref k), some (.int x0)]) (st1 := []) (mem1 := m) rfl rfl rfl rfl ?_
  refine it_V.sN it_cd136 it_m136 1 (pc1 := 1) (ls1 := [some (.ref k), some (.int x0)]) (st1 := [(.ref k)]) (mem1 := m) rfl ?_
  refine it_V.getP it_cd136 it_m136 rfl (hk).1 rfl ?_
  refine it_V.at (pc1 := 4) (ls1 := [some (.ref k), some (.int x0)]) (st1 := [(.ref (k + 2))]) (mem1 := m) rfl rfl rfl rfl ?_
  refine it_V.sN it_cd136 it_m136 2 (pc1 := 7) (ls1 := [some (.ref k), some (.int x0)]) (st1 := [(.int (0 : Int32)), (.int (10 : Int32)), (.ref (k + 2))]) (mem1 := m) rfl ?_
  obtain ⟨g1, h⟩ := h
  refine it_V.iast it_cd136 it_m136 rfl ((hk).2.2.1).1 g1 ?_
  refine it_V.at (pc1 := 8) (ls1 := [some (.ref k), some (.int x0)]) (st1 := []) (mem1 := (it_sv m (k + 2) (Int32.toNatClampNeg (10 : Int32)) (0 : Int32))) rfl rfl rfl rfl ?_
  refine it_V.sN it_cd136 it_m136 1 (pc1 := 9) (ls1 := [some (.ref k), some (.int x0)]) (st1 := [(.ref k)]) (mem1 := (it_sv m (k + 2) (Int32.toNatClampNeg (10 : Int32)) (0 : Int32))) rfl ?_
  refine it_V.getP it_cd136 it_m136 rfl (hk).1 rfl ?_
  refine it_V.at (pc1 := 12) (ls1 := [some (.ref k), some (.int x0)]) (st1 := [(.ref (k + 2))]) (mem1 := (it_sv m (k + 2) (Int32.toNatClampNeg (10 : Int32)) (0 : Int32))) rfl rfl rfl rfl ?_
  refine it_V.sN it_cd136 it_m136 2 (pc1 := 15) (ls1 := [some (.ref k), some (.int x0)]) (st1 := [(.int x0), (.int (11 : Int32)), (.ref (k + 2))]) (mem1 := (it_sv m (k + 2) (Int32.toNatClampNeg (10 : Int32)) (0 : Int32))) rfl ?_
  obtain ⟨g2, h⟩ := h
  refine it_V.iast it_cd136 it_m136 rfl ((hk).2.2.1).1 g2 ?_
  refine it_V.at (pc1 := 16) (ls1 := [some (.ref k), some (.int x0)]) (st1 := []) (mem1 := (it_sv (it_sv m (k + 2) (Int32.toNatClampNeg (10 : Int32)) (0 : Int32)) (k + 2) (Int32.toNatClampNeg (11 : Int32)) x0)) rfl rfl rfl rfl ?_
  exact it_V.ret it_cd136 it_m136 rfl rfl ⟨rfl, h⟩
set_option maxRecDepth 100000 in
set_option maxHeartbeats 4000000 in
theorem s_138 (kc : it_Kc) (k : Nat) (hk : it_isP k) (m : it_Me) (Φ : it_Me → Prop) (h : w_138 kc k m Φ) : it_V kc it_sh0 138 0 (it_loc0 [(.ref k)] 1) [] m (it_Pv Φ) := by
  rw [w_138] at h
  refine it_V.at (pc1 := 0) (ls1 := [some (.ref k)]) (st1 := []) (mem1 := m) rfl rfl rfl rfl ?_
  refine it_V.sN it_cd138 it_m138 1 (pc1 := 1) (ls1 := [some (.ref k)]) (st1 := [(.ref k)]) (mem1 := m) rfl ?_
  refine it_V.getP it_cd138 it_m138 rfl (hk).1 rfl ?_
  refine it_V.at (pc1 := 4) (ls1 := [some (.ref k)]) (st1 := [(.ref (k + 2))]) (mem1 := m) rfl rfl rfl rfl ?_
  refine it_V.sN it_cd138 it_m138 2 (pc1 := 9) (ls1 := [some (.ref k)]) (st1 := [(.int (128 : Int32)), (.int (10 : Int32)), (.ref (k + 2))]) (mem1 := m) rfl ?_
  obtain ⟨g1, h⟩ := h
  refine it_V.iast it_cd138 it_m138 rfl ((hk).2.2.1).1 g1 ?_
  refine it_V.at (pc1 := 10) (ls1 := [some (.ref k)]) (st1 := []) (mem1 := (it_sv m (k + 2) (Int32.toNatClampNeg (10 : Int32)) (128 : Int32))) rfl rfl rfl rfl ?_
  exact it_V.ret it_cd138 it_m138 rfl rfl ⟨rfl, h⟩
set_option maxRecDepth 100000 in
set_option maxHeartbeats 4000000 in
theorem s_44_32 (kc : it_Kc) (Φ : it_Me → Prop) (m : it_Me) (h : w_44_32 kc Φ m) : it_V kc it_sh0 44 32 [none, none, none] [] m (it_Pv Φ) := by
  rw [w_44_32] at h
  exact it_V.ret it_cd44 it_m44 rfl rfl ⟨rfl, h⟩
set_option maxRecDepth 100000 in
set_option maxHeartbeats 4000000 in
theorem s_44 (kc : it_Kc) (x0 : Nat) (x1 : Int32) (hx0 : it_isP x0) (m : it_Me) (Φ : it_Me → Prop) (h : w_44 kc x0 x1 m Φ) : it_V kc it_sh0 44 0 (it_loc0 [(.ref 59), (.ref x0), (.int x1)] 3) [] m (it_Pv Φ) := by
  rw [w_44] at h
  refine it_V.at (pc1 := 0) (ls1 := [some (.ref 59), some (.ref x0), some (.int x1)]) (st1 := []) (mem1 := m) rfl rfl rfl rfl ?_
  refine it_V.sN it_cd44 it_m44 3 (pc1 := 5) (ls1 := [some (.ref 59), some (.ref x0), some (.int x1)]) (st1 := [(.int x1), (.ref 1)]) (mem1 := m) rfl ?_
  refine it_V.call it_cd44 it_m44 rfl it_m12 [(.ref 1), (.int x1)] [] rfl rfl ⟨Nat.le_of_ble_eq_true rfl, Nat.le_of_ble_eq_true rfl, Nat.le_of_ble_eq_true rfl, Nat.le_of_ble_eq_true rfl, rfl⟩ (s_12 kc x1 m _ h) ?_
  rintro _ m2 ⟨r1, rfl, h⟩
  refine it_V.at (pc1 := 8) (ls1 := [some (.ref 59), some (.ref x0), some (.int x1)]) (st1 := [(.int r1)]) (mem1 := m2) rfl rfl rfl rfl ?_
  refine it_V.sN it_cd44 it_m44 1 (pc1 := (if r1 = 0 then 11 else 19)) (ls1 := [some (.ref 59), some (.ref x0), some (.int x1)]) (st1 := []) (mem1 := m2) rfl ?_
  refine it_V.ite (fun c3 => ?_) (fun c3 => ?_)
  · have h := h.1 c3
    refine it_V.sN it_cd44 it_m44 2 (pc1 := 13) (ls1 := [some (.ref 59), some (.ref x0), some (.int x1)]) (st1 := [(.int (3 : Int32)), (.ref x0)]) (mem1 := m2) rfl ?_
    refine it_V.call it_cd44 it_m44 rfl it_m136 [(.ref x0), (.int (3 : Int32))] [] rfl rfl ⟨Nat.le_of_ble_eq_true rfl, Nat.le_of_ble_eq_true rfl, Nat.le_of_ble_eq_true rfl, Nat.le_of_ble_eq_true rfl, (it_recvP (hx0).1)⟩ (s_136 kc x0 (3 : Int32) (hx0) m2 _ h) ?_
    rintro _ m4 ⟨rfl, h⟩
    refine it_V.at (pc1 := 16) (ls1 := [some (.ref 59), some (.ref x0), some (.int x1)]) (st1 := []) (mem1 := m4) rfl rfl rfl rfl ?_
    refine it_V.sN it_cd44 it_m44 1 (pc1 := 32) (ls1 := [some (.ref 59), some (.ref x0), some (.int x1)]) (st1 := []) (mem1 := m4) rfl ?_
    refine it_V.weak (l := [none, none, none]) trivial ?_
    exact s_44_32 kc Φ m4 h
  · have h := h.2 c3
    refine it_V.sN it_cd44 it_m44 4 (pc1 := 25) (ls1 := [some (.ref 59), some (.ref x0), some (.int x1)]) (st1 := [(.int (0 : Int32)), (.int x1), (.ref 1)]) (mem1 := m2) rfl ?_
    refine it_V.call it_cd44 it_m44 rfl it_m13 [(.ref 1), (.int x1), (.int (0 : Int32))] [] rfl rfl ⟨Nat.le_of_ble_eq_true rfl, Nat.le_of_ble_eq_true rfl, Nat.le_of_ble_eq_true rfl, Nat.le_of_ble_eq_true rfl, rfl⟩ (s_13 kc x1 (0 : Int32) m2 _ h) ?_
    rintro _ m5 ⟨rfl, h⟩
    refine it_V.at (pc1 := 28) (ls1 := [some (.ref 59), some (.ref x0), some (.int x1)]) (st1 := []) (mem1 := m5) rfl rfl rfl rfl ?_
    refine it_V.sN it_cd44 it_m44 1 (pc1 := 29) (ls1 := [some (.ref 59), some (.ref x0), some (.int x1)]) (st1 := [(.ref x0)]) (mem1 := m5) rfl ?_
    refine it_V.call it_cd44 it_m44 rfl it_m138 [(.ref x0)] [] rfl rfl ⟨Nat.le_of_ble_eq_true rfl, Nat.le_of_ble_eq_true rfl, Nat.le_of_ble_eq_true rfl, Nat.le_of_ble_eq_true rfl, (it_recvP (hx0).1)⟩ (s_138 kc x0 (hx0) m5 _ h) ?_
    rintro _ m6 ⟨rfl, h⟩
    refine it_V.at (pc1 := 32) (ls1 := [some (.ref 59), some (.ref x0), some (.int x1)]) (st1 := []) (mem1 := m6) rfl rfl rfl rfl ?_
    refine it_V.weak (l := [none, none, none]) trivial ?_
    exact s_44_32 kc Φ m6 h
set_option maxRecDepth 100000 in
set_option maxHeartbeats 4000000 in
theorem s_90 (kc : it_Kc) (x0 : Nat) (x1 : Int32) (hx0 : it_isP x0) (m : it_Me) (Φ : Int32 → it_Me → Prop) (h : w_90 kc x0 x1 m Φ) : it_V kc it_sh0 90 0 (it_loc0 [(.ref 9), (.ref x0), (.int x1)] 4) [] m (it_Pi Φ) := by
  rw [w_90] at h
  refine it_V.at (pc1 := 0) (ls1 := [some (.ref 9), some (.ref x0), some (.int x1), none]) (st1 := []) (mem1 := m) rfl rfl rfl rfl ?_
  refine it_V.sN it_cd90 it_m90 3 (pc1 := 5) (ls1 := [some (.ref 9), some (.ref x0), some (.int x1), none]) (st1 := [(.int x1), (.ref (it_K + 2)), (.int (1 : Int32))]) (mem1 := m) rfl ?_
  obtain ⟨g1, h⟩ := h
  refine it_V.kald it_cd90 it_m90 rfl (by decide) g1 ?_
  refine it_V.at (pc1 := 6) (ls1 := [some (.ref 9), some (.ref x0), some (.int x1), none]) (st1 := [(.int ((kc 2).2 (Int32.toNatClampNeg x1))), (.int (1 : Int32))]) (mem1 := m) rfl rfl rfl rfl ?_
  refine it_V.sN it_cd90 it_m90 3 (pc1 := 11) (ls1 := [some (.ref 9), some (.ref x0), some (.int x1), none]) (st1 := [(.int x1), (.ref (it_K + 3)), (.int ((1 : Int32) + ((kc 2).2 (Int32.toNatClampNeg x1))))]) (mem1 := m) rfl ?_
  obtain ⟨g2, h⟩ := h
  refine it_V.kald it_cd90 it_m90 rfl (by decide) g2 ?_
  refine it_V.at (pc1 := 12) (ls1 := [some (.ref 9), some (.ref x0), some (.int x1), none]) (st1 := [(.int ((kc 3).2 (Int32.toNatClampNeg x1))), (.int ((1 : Int32) + ((kc 2).2 (Int32.toNatClampNeg x1))))]) (mem1 := m) rfl rfl rfl rfl ?_
  refine it_V.sN it_cd90 it_m90 3 (pc1 := 17) (ls1 := [some (.ref 9), some (.ref x0), some (.int x1), none]) (st1 := [(.int x1), (.ref (it_K + 4)), (.int (((1 : Int32) + ((kc 2).2 (Int32.toNatClampNeg x1))) + ((kc 3).2 (Int32.toNatClampNeg x1))))]) (mem1 := m) rfl ?_
  obtain ⟨g3, h⟩ := h
  refine it_V.kald it_cd90 it_m90 rfl (by decide) g3 ?_
  refine it_V.at (pc1 := 18) (ls1 := [some (.ref 9), some (.ref x0), some (.int x1), none]) (st1 := [(.int ((kc 4).2 (Int32.toNatClampNeg x1))), (.int (((1 : Int32) + ((kc 2).2 (Int32.toNatClampNeg x1))) + ((kc 3).2 (Int32.toNatClampNeg x1))))]) (mem1 := m) rfl rfl rfl rfl ?_
  refine it_V.sN it_cd90 it_m90 3 (pc1 := 21) (ls1 := [some (.ref 9), some (.ref x0), some (.int x1), some (.int ((((1 : Int32) + ((kc 2).2 (Int32.toNatClampNeg x1))) + ((kc 3).2 (Int32.toNatClampNeg x1))) + ((kc 4).2 (Int32.toNatClampNeg x1))))]) (st1 := [(.ref x0)]) (mem1 := m) rfl ?_
  refine it_V.getP it_cd90 it_m90 rfl (hx0).1 rfl ?_
  refine it_V.at (pc1 := 24) (ls1 := [some (.ref 9), some (.ref x0), some (.int x1), some (.int ((((1 : Int32) + ((kc 2).2 (Int32.toNatClampNeg x1))) + ((kc 3).2 (Int32.toNatClampNeg x1))) + ((kc 4).2 (Int32.toNatClampNeg x1))))]) (st1 := [(.ref (x0 + 4))]) (mem1 := m) rfl rfl rfl rfl ?_
  refine it_V.sN it_cd90 it_m90 1 (pc1 := 25) (ls1 := [some (.ref 9), some (.ref x0), some (.int x1), some (.int ((((1 : Int32) + ((kc 2).2 (Int32.toNatClampNeg x1))) + ((kc 3).2 (Int32.toNatClampNeg x1))) + ((kc 4).2 (Int32.toNatClampNeg x1))))]) (st1 := [(.int x1), (.ref (x0 + 4))]) (mem1 := m) rfl ?_
  obtain ⟨g4, h⟩ := h
  refine it_V.iald it_cd90 it_m90 rfl ((hx0).2.2.2.2).2 ((hx0).2.2.2.2).1 g4 ?_
  refine it_V.at (pc1 := 26) (ls1 := [some (.ref 9), some (.ref x0), some (.int x1), some (.int ((((1 : Int32) + ((kc 2).2 (Int32.toNatClampNeg x1))) + ((kc 3).2 (Int32.toNatClampNeg x1))) + ((kc 4).2 (Int32.toNatClampNeg x1))))]) (st1 := [(.int (m (x0 + 4) (Int32.toNatClampNeg x1)))]) (mem1 := m) rfl rfl rfl rfl ?_
  refine it_V.sN it_cd90 it_m90 4 (pc1 := 31) (ls1 := [some (.ref 9), some (.ref x0), some (.int x1), some (.int ((((1 : Int32) + ((kc 2).2 (Int32.toNatClampNeg x1))) + ((kc 3).2 (Int32.toNatClampNeg x1))) + ((kc 4).2 (Int32.toNatClampNeg x1))))]) (st1 := [(.int ((m (x0 + 4) (Int32.toNatClampNeg x1)) + ((8 : Int32) * ((((1 : Int32) + ((kc 2).2 (Int32.toNatClampNeg x1))) + ((kc 3).2 (Int32.toNatClampNeg x1))) + ((kc 4).2 (Int32.toNatClampNeg x1))))))]) (mem1 := m) rfl ?_
  exact it_V.ret it_cd90 it_m90 rfl rfl ⟨_, rfl, h⟩
set_option maxRecDepth 100000 in
set_option maxHeartbeats 4000000 in
theorem s_42_110 (kc : it_Kc) (Φ : it_Me → Prop) (m : it_Me) (h : w_42_110 kc Φ m) : it_V kc it_sh0 42 110 [none, none, none, none, none, none] [] m (it_Pv Φ) := by
  rw [w_42_110] at h
  exact it_V.ret it_cd42 it_m42 rfl rfl ⟨rfl, h⟩
set_option maxRecDepth 100000 in
set_option maxHeartbeats 4000000 in
theorem s_42 (kc : it_Kc) (x0 : Nat) (x1 : Int32) (x2 : Int32) (x3 : Int32) (hx0 : it_isP x0) (m : it_Me) (Φ : it_Me → Prop) (h : w_42 kc x0 x1 x2 x3 m Φ) : it_V kc it_sh0 42 0 (it_loc0 [(.ref 59), (.ref x0), (.int x1), (.int x2), (.int x3)] 6) [] m (it_Pv Φ) := by
  rw [w_42] at h
  refine it_V.at (pc1 := 0) (ls1 := [some (.ref 59), some (.ref x0), some (.int x1), some (.int x2), some (.int x3), none]) (st1 := []) (mem1 := m) rfl rfl rfl rfl ?_
  refine it_V.sN it_cd42 it_m42 4 (pc1 := 6) (ls1 := [some (.ref 59), some (.ref x0), some (.int x1), some (.int x2), some (.int x3), none]) (st1 := [(.int (0 : Int32)), (.ref x0), (.ref 9)]) (mem1 := m) rfl ?_
  refine it_V.call it_cd42 it_m42 rfl it_m90 [(.ref 9), (.ref x0), (.int (0 : Int32))] [] rfl rfl ⟨Nat.le_of_ble_eq_true rfl, Nat.le_of_ble_eq_true rfl, Nat.le_of_ble_eq_true rfl, Nat.le_of_ble_eq_true rfl, rfl⟩ (s_90 kc x0 (0 : Int32) (hx0) m _ h) ?_
  rintro _ m2 ⟨r1, rfl, h⟩
  refine it_V.at (pc1 := 9) (ls1 := [some (.ref 59), some (.ref x0), some (.int x1), some (.int x2), some (.int x3), none]) (st1 := [(.int r1)]) (mem1 := m2) rfl rfl rfl rfl ?_
  refine it_V.sN it_cd42 it_m42 2 (pc1 := 12) (ls1 := [some (.ref 59), some (.ref x0), some (.int x1), some (.int x2), some (.int x3), some (.int r1)]) (st1 := [(.int x1)]) (mem1 := m2) rfl ?_
  refine it_V.sN it_cd42 it_m42 1 (pc1 := (if x1 = (1 : Int32) then 48 else (if x1 = (2 : Int32) then 58 else (if x1 = (3 : Int32) then 72 else (if x1 = (4 : Int32) then 100 else (if x1 = (5 : Int32) then 82 else 100)))))) (ls1 := [some (.ref 59), some (.ref x0), some (.int x1), some (.int x2), some (.int x3), some (.int r1)]) (st1 := []) (mem1 := m2) rfl ?_
  refine it_V.ite (fun c3 => ?_) (fun c3 => ?_)
  · have h := h.1 c3
    refine it_V.sN it_cd42 it_m42 2 (pc1 := 52) (ls1 := [some (.ref 59), some (.ref x0), some (.int x1), some (.int x2), some (.int x3), some (.int r1)]) (st1 := [(.int (1000 : Int32)), (.ref x0)]) (mem1 := m2) rfl ?_
    refine it_V.call it_cd42 it_m42 rfl it_m139 [(.ref x0), (.int (1000 : Int32))] [] rfl rfl ⟨Nat.le_of_ble_eq_true rfl, Nat.le_of_ble_eq_true rfl, Nat.le_of_ble_eq_true rfl, Nat.le_of_ble_eq_true rfl, (it_recvP (hx0).1)⟩ (s_139 kc x0 (1000 : Int32) (hx0) m2 _ h) ?_
    rintro _ m4 ⟨rfl, h⟩
    refine it_V.at (pc1 := 55) (ls1 := [some (.ref 59), some (.ref x0), some (.int x1), some (.int x2), some (.int x3), some (.int r1)]) (st1 := []) (mem1 := m4) rfl rfl rfl rfl ?_
    refine it_V.sN it_cd42 it_m42 1 (pc1 := 110) (ls1 := [some (.ref 59), some (.ref x0), some (.int x1), some (.int x2), some (.int x3), some (.int r1)]) (st1 := []) (mem1 := m4) rfl ?_
    refine it_V.weak (l := [none, none, none, none, none, none]) trivial ?_
    exact s_42_110 kc Φ m4 h
  · have h := h.2 c3
    refine it_V.ite (fun c5 => ?_) (fun c5 => ?_)
    · have h := h.1 c5
      refine it_V.sN it_cd42 it_m42 4 (pc1 := 66) (ls1 := [some (.ref 59), some (.ref x0), some (.int x1), some (.int x2), some (.int x3), some (.int r1)]) (st1 := [(.int (m2 4 0)), (.ref x0)]) (mem1 := m2) rfl ?_
      refine it_V.call it_cd42 it_m42 rfl it_m139 [(.ref x0), (.int (m2 4 0))] [] rfl rfl ⟨Nat.le_of_ble_eq_true rfl, Nat.le_of_ble_eq_true rfl, Nat.le_of_ble_eq_true rfl, Nat.le_of_ble_eq_true rfl, (it_recvP (hx0).1)⟩ (s_139 kc x0 (m2 4 0) (hx0) m2 _ h) ?_
      rintro _ m6 ⟨rfl, h⟩
      refine it_V.at (pc1 := 69) (ls1 := [some (.ref 59), some (.ref x0), some (.int x1), some (.int x2), some (.int x3), some (.int r1)]) (st1 := []) (mem1 := m6) rfl rfl rfl rfl ?_
      refine it_V.sN it_cd42 it_m42 1 (pc1 := 110) (ls1 := [some (.ref 59), some (.ref x0), some (.int x1), some (.int x2), some (.int x3), some (.int r1)]) (st1 := []) (mem1 := m6) rfl ?_
      refine it_V.weak (l := [none, none, none, none, none, none]) trivial ?_
      exact s_42_110 kc Φ m6 h
    · have h := h.2 c5
      refine it_V.ite (fun c7 => ?_) (fun c7 => ?_)
      · have h := h.1 c7
        refine it_V.sN it_cd42 it_m42 3 (pc1 := 76) (ls1 := [some (.ref 59), some (.ref x0), some (.int x1), some (.int x2), some (.int x3), some (.int r1)]) (st1 := [(.int r1), (.ref x0), (.ref 59)]) (mem1 := m2) rfl ?_
        refine it_V.call it_cd42 it_m42 rfl it_m44 [(.ref 59), (.ref x0), (.int r1)] [] rfl rfl ⟨Nat.le_of_ble_eq_true rfl, Nat.le_of_ble_eq_true rfl, Nat.le_of_ble_eq_true rfl, Nat.le_of_ble_eq_true rfl, rfl⟩ (s_44 kc x0 r1 (hx0) m2 _ h) ?_
        rintro _ m8 ⟨rfl, h⟩
        refine it_V.at (pc1 := 79) (ls1 := [some (.ref 59), some (.ref x0), some (.int x1), some (.int x2), some (.int x3), some (.int r1)]) (st1 := []) (mem1 := m8) rfl rfl rfl rfl ?_
        refine it_V.sN it_cd42 it_m42 1 (pc1 := 110) (ls1 := [some (.ref 59), some (.ref x0), some (.int x1), some (.int x2), some (.int x3), some (.int r1)]) (st1 := []) (mem1 := m8) rfl ?_
        refine it_V.weak (l := [none, none, none, none, none, none]) trivial ?_
        exact s_42_110 kc Φ m8 h
      · have h := h.2 c7
        refine it_V.ite (fun c9 => ?_) (fun c9 => ?_)
        · have h := h.1 c9
          refine it_V.sN it_cd42 it_m42 5 (pc1 := 107) (ls1 := [some (.ref 59), some (.ref x0), some (.int x1), some (.int x2), some (.int x3), some (.int r1)]) (st1 := [(.int x3), (.int x2), (.int r1), (.ref x0), (.ref 59)]) (mem1 := m2) rfl ?_
          refine it_V.call it_cd42 it_m42 rfl it_m43 [(.ref 59), (.ref x0), (.int r1), (.int x2), (.int x3)] [] rfl rfl ⟨Nat.le_of_ble_eq_true rfl, Nat.le_of_ble_eq_true rfl, Nat.le_of_ble_eq_true rfl, Nat.le_of_ble_eq_true rfl, rfl⟩ (s_43 kc x0 r1 x2 x3 (hx0) m2 _ h) ?_
          rintro _ m10 ⟨rfl, h⟩
          refine it_V.at (pc1 := 110) (ls1 := [some (.ref 59), some (.ref x0), some (.int x1), some (.int x2), some (.int x3), some (.int r1)]) (st1 := []) (mem1 := m10) rfl rfl rfl rfl ?_
          refine it_V.weak (l := [none, none, none, none, none, none]) trivial ?_
          exact s_42_110 kc Φ m10 h
        · have h := h.2 c9
          refine it_V.ite (fun c11 => ?_) (fun c11 => ?_)
          · have h := h.1 c11
            refine it_V.sN it_cd42 it_m42 7 (pc1 := 94) (ls1 := [some (.ref 59), some (.ref x0), some (.int x1), some (.int x2), some (.int x3), some (.int r1)]) (st1 := [(.int x2), (.int (m2 4 0)), (.int r1), (.ref x0), (.ref 59)]) (mem1 := m2) rfl ?_
            refine it_V.call it_cd42 it_m42 rfl it_m43 [(.ref 59), (.ref x0), (.int r1), (.int (m2 4 0)), (.int x2)] [] rfl rfl ⟨Nat.le_of_ble_eq_true rfl, Nat.le_of_ble_eq_true rfl, Nat.le_of_ble_eq_true rfl, Nat.le_of_ble_eq_true rfl, rfl⟩ (s_43 kc x0 r1 (m2 4 0) x2 (hx0) m2 _ h) ?_
            rintro _ m12 ⟨rfl, h⟩
            refine it_V.at (pc1 := 97) (ls1 := [some (.ref 59), some (.ref x0), some (.int x1), some (.int x2), some (.int x3), some (.int r1)]) (st1 := []) (mem1 := m12) rfl rfl rfl rfl ?_
            refine it_V.sN it_cd42 it_m42 1 (pc1 := 110) (ls1 := [some (.ref 59), some (.ref x0), some (.int x1), some (.int x2), some (.int x3), some (.int r1)]) (st1 := []) (mem1 := m12) rfl ?_
            refine it_V.weak (l := [none, none, none, none, none, none]) trivial ?_
            exact s_42_110 kc Φ m12 h
          · have h := h.2 c11
            refine it_V.sN it_cd42 it_m42 5 (pc1 := 107) (ls1 := [some (.ref 59), some (.ref x0), some (.int x1), some (.int x2), some (.int x3), some (.int r1)]) (st1 := [(.int x3), (.int x2), (.int r1), (.ref x0), (.ref 59)]) (mem1 := m2) rfl ?_
            refine it_V.call it_cd42 it_m42 rfl it_m43 [(.ref 59), (.ref x0), (.int r1), (.int x2), (.int x3)] [] rfl rfl ⟨Nat.le_of_ble_eq_true rfl, Nat.le_of_ble_eq_true rfl, Nat.le_of_ble_eq_true rfl, Nat.le_of_ble_eq_true rfl, rfl⟩ (s_43 kc x0 r1 x2 x3 (hx0) m2 _ h) ?_
            rintro _ m13 ⟨rfl, h⟩
            refine it_V.at (pc1 := 110) (ls1 := [some (.ref 59), some (.ref x0), some (.int x1), some (.int x2), some (.int x3), some (.int r1)]) (st1 := []) (mem1 := m13) rfl rfl rfl rfl ?_
            refine it_V.weak (l := [none, none, none, none, none, none]) trivial ?_
            exact s_42_110 kc Φ m13 h
set_option maxRecDepth 100000 in
set_option maxHeartbeats 4000000 in
theorem s_46_77 (kc : it_Kc) (Φ : it_Me → Prop) (m : it_Me) (h : w_46_77 kc Φ m) : it_V kc it_sh0 46 77 [none, none, none, none, none] [] m (it_Pv Φ) := by
  rw [w_46_77] at h
  exact it_V.ret it_cd46 it_m46 rfl rfl ⟨rfl, h⟩
set_option maxRecDepth 100000 in
set_option maxHeartbeats 4000000 in
theorem s_46 (kc : it_Kc) (x0 : Nat) (x1 : Int32) (x2 : Int32) (x3 : Nat) (hx0 : it_isP x0) (hx3 : it_isR x3 8) (m : it_Me) (Φ : it_Me → Prop) (h : w_46 kc x0 x1 x2 x3 m Φ) : it_V kc it_sh0 46 0 (it_loc0 [(.ref 59), (.ref x0), (.int x1), (.int x2), (.ref x3)] 5) [] m (it_Pv Φ) := by
  rw [w_46] at h
  refine it_V.at (pc1 := 0) (ls1 := [some (.ref 59), some (.ref x0), some (.int x1), some (.int x2), some (.ref x3)]) (st1 := []) (mem1 := m) rfl rfl rfl rfl ?_
  refine it_V.sN it_cd46 it_m46 3 (pc1 := 5) (ls1 := [some (.ref 59), some (.ref x0), some (.int x1), some (.int x2), some (.ref x3)]) (st1 := [(.int x1), (.ref 1)]) (mem1 := m) rfl ?_
  refine it_V.call it_cd46 it_m46 rfl it_m12 [(.ref 1), (.int x1)] [] rfl rfl ⟨Nat.le_of_ble_eq_true rfl, Nat.le_of_ble_eq_true rfl, Nat.le_of_ble_eq_true rfl, Nat.le_of_ble_eq_true rfl, rfl⟩ (s_12 kc x1 m _ h) ?_
  rintro _ m2 ⟨r1, rfl, h⟩
  refine it_V.at (pc1 := 8) (ls1 := [some (.ref 59), some (.ref x0), some (.int x1), some (.int x2), some (.ref x3)]) (st1 := [(.int r1)]) (mem1 := m2) rfl rfl rfl rfl ?_
  refine it_V.sN it_cd46 it_m46 1 (pc1 := (if r1 = 0 then 19 else 11)) (ls1 := [some (.ref 59), some (.ref x0), some (.int x1), some (.int x2), some (.ref x3)]) (st1 := []) (mem1 := m2) rfl ?_
  refine it_V.ite (fun c3 => ?_) (fun c3 => ?_)
  · have h := h.1 c3
    refine it_V.sN it_cd46 it_m46 2 (pc1 := (if x2 = 0 then 23 else 32)) (ls1 := [some (.ref 59), some (.ref x0), some (.int x1), some (.int x2), some (.ref x3)]) (st1 := []) (mem1 := m2) rfl ?_
    refine it_V.ite (fun c4 => ?_) (fun c4 => ?_)
    · have h := h.1 c4
      refine it_V.sN it_cd46 it_m46 2 (pc1 := 26) (ls1 := [some (.ref 59), some (.ref x0), some (.int x1), some (.int x2), some (.ref x3)]) (st1 := [(.int (7 : Int32)), (.ref x0)]) (mem1 := m2) rfl ?_
      refine it_V.call it_cd46 it_m46 rfl it_m136 [(.ref x0), (.int (7 : Int32))] [] rfl rfl ⟨Nat.le_of_ble_eq_true rfl, Nat.le_of_ble_eq_true rfl, Nat.le_of_ble_eq_true rfl, Nat.le_of_ble_eq_true rfl, (it_recvP (hx0).1)⟩ (s_136 kc x0 (7 : Int32) (hx0) m2 _ h) ?_
      rintro _ m5 ⟨rfl, h⟩
      refine it_V.at (pc1 := 29) (ls1 := [some (.ref 59), some (.ref x0), some (.int x1), some (.int x2), some (.ref x3)]) (st1 := []) (mem1 := m5) rfl rfl rfl rfl ?_
      refine it_V.sN it_cd46 it_m46 1 (pc1 := 77) (ls1 := [some (.ref 59), some (.ref x0), some (.int x1), some (.int x2), some (.ref x3)]) (st1 := []) (mem1 := m5) rfl ?_
      refine it_V.weak (l := [none, none, none, none, none]) trivial ?_
      exact s_46_77 kc Φ m5 h
    · have h := h.2 c4
      refine it_V.sN it_cd46 it_m46 4 (pc1 := 38) (ls1 := [some (.ref 59), some (.ref x0), some (.int x1), some (.int x2), some (.ref x3)]) (st1 := [(.int x2), (.int x1), (.ref 1)]) (mem1 := m2) rfl ?_
      refine it_V.call it_cd46 it_m46 rfl it_m13 [(.ref 1), (.int x1), (.int x2)] [] rfl rfl ⟨Nat.le_of_ble_eq_true rfl, Nat.le_of_ble_eq_true rfl, Nat.le_of_ble_eq_true rfl, Nat.le_of_ble_eq_true rfl, rfl⟩ (s_13 kc x1 x2 m2 _ h) ?_
      rintro _ m6 ⟨rfl, h⟩
      refine it_V.at (pc1 := 41) (ls1 := [some (.ref 59), some (.ref x0), some (.int x1), some (.int x2), some (.ref x3)]) (st1 := []) (mem1 := m6) rfl rfl rfl rfl ?_
      refine it_V.sN it_cd46 it_m46 6 (pc1 := 49) (ls1 := [some (.ref 59), some (.ref x0), some (.int x1), some (.int x2), some (.ref x3)]) (st1 := [(.int (0 : Int32)), (.int (x1 + (4 : Int32))), (.ref 1)]) (mem1 := m6) rfl ?_
      refine it_V.call it_cd46 it_m46 rfl it_m13 [(.ref 1), (.int (x1 + (4 : Int32))), (.int (0 : Int32))] [] rfl rfl ⟨Nat.le_of_ble_eq_true rfl, Nat.le_of_ble_eq_true rfl, Nat.le_of_ble_eq_true rfl, Nat.le_of_ble_eq_true rfl, rfl⟩ (s_13 kc (x1 + (4 : Int32)) (0 : Int32) m6 _ h) ?_
      rintro _ m7 ⟨rfl, h⟩
      refine it_V.at (pc1 := 52) (ls1 := [some (.ref 59), some (.ref x0), some (.int x1), some (.int x2), some (.ref x3)]) (st1 := []) (mem1 := m7) rfl rfl rfl rfl ?_
      refine it_V.sN it_cd46 it_m46 2 (pc1 := 55) (ls1 := [some (.ref 59), some (.ref x0), some (.int x1), some (.int x2), some (.ref x3)]) (st1 := [(.ref x0), (.ref x3)]) (mem1 := m7) rfl ?_
      refine it_V.getP it_cd46 it_m46 rfl (hx0).1 rfl ?_
      refine it_V.at (pc1 := 58) (ls1 := [some (.ref 59), some (.ref x0), some (.int x1), some (.int x2), some (.ref x3)]) (st1 := [(.int (m7 x0 0)), (.ref x3)]) (mem1 := m7) rfl rfl rfl rfl ?_
      refine it_V.sN it_cd46 it_m46 2 (pc1 := 62) (ls1 := [some (.ref 59), some (.ref x0), some (.int x1), some (.int x2), some (.ref x3)]) (st1 := [(.int (m7 59 12)), (.int (m7 x0 0)), (.ref x3)]) (mem1 := m7) rfl ?_
      obtain ⟨g8, h⟩ := h
      refine it_V.iast it_cd46 it_m46 rfl (hx3).1 g8 ?_
      refine it_V.at (pc1 := 63) (ls1 := [some (.ref 59), some (.ref x0), some (.int x1), some (.int x2), some (.ref x3)]) (st1 := []) (mem1 := (it_sv m7 x3 (Int32.toNatClampNeg (m7 x0 0)) (m7 59 12))) rfl rfl rfl rfl ?_
      refine it_V.sN it_cd46 it_m46 7 (pc1 := 74) (ls1 := [some (.ref 59), some (.ref x0), some (.int x1), some (.int x2), some (.ref x3)]) (st1 := [(.ref x0)]) (mem1 := (it_sv (it_sv m7 x3 (Int32.toNatClampNeg (m7 x0 0)) (m7 59 12)) 59 12 (((it_sv m7 x3 (Int32.toNatClampNeg (m7 x0 0)) (m7 59 12)) 59 12) + (1 : Int32)))) rfl ?_
      refine it_V.call it_cd46 it_m46 rfl it_m138 [(.ref x0)] [] rfl rfl ⟨Nat.le_of_ble_eq_true rfl, Nat.le_of_ble_eq_true rfl, Nat.le_of_ble_eq_true rfl, Nat.le_of_ble_eq_true rfl, (it_recvP (hx0).1)⟩ (s_138 kc x0 (hx0) (it_sv (it_sv m7 x3 (Int32.toNatClampNeg (m7 x0 0)) (m7 59 12)) 59 12 (((it_sv m7 x3 (Int32.toNatClampNeg (m7 x0 0)) (m7 59 12)) 59 12) + (1 : Int32))) _ h) ?_
      rintro _ m9 ⟨rfl, h⟩
      refine it_V.at (pc1 := 77) (ls1 := [some (.ref 59), some (.ref x0), some (.int x1), some (.int x2), some (.ref x3)]) (st1 := []) (mem1 := m9) rfl rfl rfl rfl ?_
      refine it_V.weak (l := [none, none, none, none, none]) trivial ?_
      exact s_46_77 kc Φ m9 h
  · have h := h.2 c3
    refine it_V.sN it_cd46 it_m46 2 (pc1 := 13) (ls1 := [some (.ref 59), some (.ref x0), some (.int x1), some (.int x2), some (.ref x3)]) (st1 := [(.int (2 : Int32)), (.ref x0)]) (mem1 := m2) rfl ?_
    refine it_V.call it_cd46 it_m46 rfl it_m136 [(.ref x0), (.int (2 : Int32))] [] rfl rfl ⟨Nat.le_of_ble_eq_true rfl, Nat.le_of_ble_eq_true rfl, Nat.le_of_ble_eq_true rfl, Nat.le_of_ble_eq_true rfl, (it_recvP (hx0).1)⟩ (s_136 kc x0 (2 : Int32) (hx0) m2 _ h) ?_
    rintro _ m10 ⟨rfl, h⟩
    refine it_V.at (pc1 := 16) (ls1 := [some (.ref 59), some (.ref x0), some (.int x1), some (.int x2), some (.ref x3)]) (st1 := []) (mem1 := m10) rfl rfl rfl rfl ?_
    refine it_V.sN it_cd46 it_m46 1 (pc1 := 77) (ls1 := [some (.ref 59), some (.ref x0), some (.int x1), some (.int x2), some (.ref x3)]) (st1 := []) (mem1 := m10) rfl ?_
    refine it_V.weak (l := [none, none, none, none, none]) trivial ?_
    exact s_46_77 kc Φ m10 h
set_option maxRecDepth 100000 in
set_option maxHeartbeats 4000000 in
theorem s_69_134 (kc : it_Kc) (Φ : it_Me → Prop) (m : it_Me) (h : w_69_134 kc Φ m) : it_V kc it_sh0 69 134 [none, none, none, none, none] [] m (it_Pv Φ) := by
  rw [w_69_134] at h
  exact it_V.ret it_cd69 it_m69 rfl rfl ⟨rfl, h⟩
set_option maxRecDepth 100000 in
set_option maxHeartbeats 4000000 in
theorem s_69_98 (kc : it_Kc) (Φ : it_Me → Prop) (v2 : Int32) (u1 : Int32) (m : it_Me) (h : w_69_98 kc Φ v2 u1 m) : it_V kc it_sh0 69 98 [some (.ref 4), none, some (.int v2), none, none] [(.int u1), (.ref 4)] m (it_Pv Φ) := by
  rw [w_69_98] at h
  refine it_V.sN it_cd69 it_m69 5 (pc1 := 108) (ls1 := [some (.ref 4), none, some (.int v2), none, none]) (st1 := [(.int (11 : Int32)), (.ref 5), (.int (11 : Int32)), (.ref 5)]) (mem1 := (it_sv m 4 4 u1)) rfl ?_
  obtain ⟨g1, h⟩ := h
  refine it_V.iald it_cd69 it_m69 rfl ((⟨rfl, by decide⟩ : it_isR 5 12)).2 ((⟨rfl, by decide⟩ : it_isR 5 12)).1 g1 ?_
  refine it_V.at (pc1 := 109) (ls1 := [some (.ref 4), none, some (.int v2), none, none]) (st1 := [(.int ((it_sv m 4 4 u1) 5 (Int32.toNatClampNeg (11 : Int32)))), (.int (11 : Int32)), (.ref 5)]) (mem1 := (it_sv m 4 4 u1)) rfl rfl rfl rfl ?_
  refine it_V.sN it_cd69 it_m69 2 (pc1 := 111) (ls1 := [some (.ref 4), none, some (.int v2), none, none]) (st1 := [(.int (((it_sv m 4 4 u1) 5 (Int32.toNatClampNeg (11 : Int32))) + (1 : Int32))), (.int (11 : Int32)), (.ref 5)]) (mem1 := (it_sv m 4 4 u1)) rfl ?_
  obtain ⟨g2, h⟩ := h
  refine it_V.iast it_cd69 it_m69 rfl ((⟨rfl, by decide⟩ : it_isR 5 12)).1 g2 ?_
  refine it_V.at (pc1 := 112) (ls1 := [some (.ref 4), none, some (.int v2), none, none]) (st1 := []) (mem1 := (it_sv (it_sv m 4 4 u1) 5 (Int32.toNatClampNeg (11 : Int32)) (((it_sv m 4 4 u1) 5 (Int32.toNatClampNeg (11 : Int32))) + (1 : Int32)))) rfl rfl rfl rfl ?_
  refine it_V.sN it_cd69 it_m69 2 (pc1 := 116) (ls1 := [some (.ref 4), none, some (.int v2), none, none]) (st1 := [(.int v2), (.ref (it_K + 0))]) (mem1 := (it_sv (it_sv m 4 4 u1) 5 (Int32.toNatClampNeg (11 : Int32)) (((it_sv m 4 4 u1) 5 (Int32.toNatClampNeg (11 : Int32))) + (1 : Int32)))) rfl ?_
  obtain ⟨g3, h⟩ := h
  refine it_V.kald it_cd69 it_m69 rfl (by decide) g3 ?_
  refine it_V.at (pc1 := 117) (ls1 := [some (.ref 4), none, some (.int v2), none, none]) (st1 := [(.int ((kc 0).2 (Int32.toNatClampNeg v2)))]) (mem1 := (it_sv (it_sv m 4 4 u1) 5 (Int32.toNatClampNeg (11 : Int32)) (((it_sv m 4 4 u1) 5 (Int32.toNatClampNeg (11 : Int32))) + (1 : Int32)))) rfl rfl rfl rfl ?_
  refine it_V.sN it_cd69 it_m69 1 (pc1 := (if ((kc 0).2 (Int32.toNatClampNeg v2)) = 0 then 134 else 120)) (ls1 := [some (.ref 4), none, some (.int v2), none, none]) (st1 := []) (mem1 := (it_sv (it_sv m 4 4 u1) 5 (Int32.toNatClampNeg (11 : Int32)) (((it_sv m 4 4 u1) 5 (Int32.toNatClampNeg (11 : Int32))) + (1 : Int32)))) rfl ?_
  refine it_V.ite (fun c4 => ?_) (fun c4 => ?_)
  · have h := h.1 c4
    refine it_V.weak (l := [none, none, none, none, none]) trivial ?_
    exact s_69_134 kc Φ (it_sv (it_sv m 4 4 u1) 5 (Int32.toNatClampNeg (11 : Int32)) (((it_sv m 4 4 u1) 5 (Int32.toNatClampNeg (11 : Int32))) + (1 : Int32))) h
  · have h := h.2 c4
    refine it_V.sN it_cd69 it_m69 4 (pc1 := 128) (ls1 := [some (.ref 4), none, some (.int v2), none, none]) (st1 := [(.int v2), (.ref (it_K + 0)), (.ref 5)]) (mem1 := (it_sv (it_sv m 4 4 u1) 5 (Int32.toNatClampNeg (11 : Int32)) (((it_sv m 4 4 u1) 5 (Int32.toNatClampNeg (11 : Int32))) + (1 : Int32)))) rfl ?_
    obtain ⟨g5, h⟩ := h
    refine it_V.kald it_cd69 it_m69 rfl (by decide) g5 ?_
    refine it_V.at (pc1 := 129) (ls1 := [some (.ref 4), none, some (.int v2), none, none]) (st1 := [(.int ((kc 0).2 (Int32.toNatClampNeg v2))), (.ref 5)]) (mem1 := (it_sv (it_sv m 4 4 u1) 5 (Int32.toNatClampNeg (11 : Int32)) (((it_sv m 4 4 u1) 5 (Int32.toNatClampNeg (11 : Int32))) + (1 : Int32)))) rfl rfl rfl rfl ?_
    refine it_V.sN it_cd69 it_m69 1 (pc1 := 130) (ls1 := [some (.ref 4), none, some (.int v2), none, none]) (st1 := [(.int ((kc 0).2 (Int32.toNatClampNeg v2))), (.ref 5), (.int ((kc 0).2 (Int32.toNatClampNeg v2))), (.ref 5)]) (mem1 := (it_sv (it_sv m 4 4 u1) 5 (Int32.toNatClampNeg (11 : Int32)) (((it_sv m 4 4 u1) 5 (Int32.toNatClampNeg (11 : Int32))) + (1 : Int32)))) rfl ?_
    obtain ⟨g6, h⟩ := h
    refine it_V.iald it_cd69 it_m69 rfl ((⟨rfl, by decide⟩ : it_isR 5 12)).2 ((⟨rfl, by decide⟩ : it_isR 5 12)).1 g6 ?_
    refine it_V.at (pc1 := 131) (ls1 := [some (.ref 4), none, some (.int v2), none, none]) (st1 := [(.int ((it_sv (it_sv m 4 4 u1) 5 (Int32.toNatClampNeg (11 : Int32)) (((it_sv m 4 4 u1) 5 (Int32.toNatClampNeg (11 : Int32))) + (1 : Int32))) 5 (Int32.toNatClampNeg ((kc 0).2 (Int32.toNatClampNeg v2))))), (.int ((kc 0).2 (Int32.toNatClampNeg v2))), (.ref 5)]) (mem1 := (it_sv (it_sv m 4 4 u1) 5 (Int32.toNatClampNeg (11 : Int32)) (((it_sv m 4 4 u1) 5 (Int32.toNatClampNeg (11 : Int32))) + (1 : Int32)))) rfl rfl rfl rfl ?_
    refine it_V.sN it_cd69 it_m69 2 (pc1 := 133) (ls1 := [some (.ref 4), none, some (.int v2), none, none]) (st1 := [(.int (((it_sv (it_sv m 4 4 u1) 5 (Int32.toNatClampNeg (11 : Int32)) (((it_sv m 4 4 u1) 5 (Int32.toNatClampNeg (11 : Int32))) + (1 : Int32))) 5 (Int32.toNatClampNeg ((kc 0).2 (Int32.toNatClampNeg v2)))) + (1 : Int32))), (.int ((kc 0).2 (Int32.toNatClampNeg v2))), (.ref 5)]) (mem1 := (it_sv (it_sv m 4 4 u1) 5 (Int32.toNatClampNeg (11 : Int32)) (((it_sv m 4 4 u1) 5 (Int32.toNatClampNeg (11 : Int32))) + (1 : Int32)))) rfl ?_
    obtain ⟨g7, h⟩ := h
    refine it_V.iast it_cd69 it_m69 rfl ((⟨rfl, by decide⟩ : it_isR 5 12)).1 g7 ?_
    refine it_V.at (pc1 := 134) (ls1 := [some (.ref 4), none, some (.int v2), none, none]) (st1 := []) (mem1 := (it_sv (it_sv (it_sv m 4 4 u1) 5 (Int32.toNatClampNeg (11 : Int32)) (((it_sv m 4 4 u1) 5 (Int32.toNatClampNeg (11 : Int32))) + (1 : Int32))) 5 (Int32.toNatClampNeg ((kc 0).2 (Int32.toNatClampNeg v2))) (((it_sv (it_sv m 4 4 u1) 5 (Int32.toNatClampNeg (11 : Int32)) (((it_sv m 4 4 u1) 5 (Int32.toNatClampNeg (11 : Int32))) + (1 : Int32))) 5 (Int32.toNatClampNeg ((kc 0).2 (Int32.toNatClampNeg v2)))) + (1 : Int32)))) rfl rfl rfl rfl ?_
    refine it_V.weak (l := [none, none, none, none, none]) trivial ?_
    exact s_69_134 kc Φ (it_sv (it_sv (it_sv m 4 4 u1) 5 (Int32.toNatClampNeg (11 : Int32)) (((it_sv m 4 4 u1) 5 (Int32.toNatClampNeg (11 : Int32))) + (1 : Int32))) 5 (Int32.toNatClampNeg ((kc 0).2 (Int32.toNatClampNeg v2))) (((it_sv (it_sv m 4 4 u1) 5 (Int32.toNatClampNeg (11 : Int32)) (((it_sv m 4 4 u1) 5 (Int32.toNatClampNeg (11 : Int32))) + (1 : Int32))) 5 (Int32.toNatClampNeg ((kc 0).2 (Int32.toNatClampNeg v2)))) + (1 : Int32))) h
set_option maxRecDepth 100000 in
set_option maxHeartbeats 4000000 in
theorem s_69_72 (kc : it_Kc) (Φ : it_Me → Prop) (v2 : Int32) (u1 : Int32) (m : it_Me) (h : w_69_72 kc Φ v2 u1 m) : it_V kc it_sh0 69 72 [some (.ref 4), none, some (.int v2), none, none] [(.int u1), (.ref 4)] m (it_Pv Φ) := by
  rw [w_69_72] at h
  refine it_V.sN it_cd69 it_m69 6 (pc1 := (if (200 : Int32) ≤ ((it_sv m 4 3 u1) 4 4) then 95 else 86)) (ls1 := [some (.ref 4), none, some (.int v2), none, none]) (st1 := [(.ref 4)]) (mem1 := (it_sv m 4 3 u1)) rfl ?_
  refine it_V.ite (fun c1 => ?_) (fun c1 => ?_)
  · have h := h.1 c1
    refine it_V.sN it_cd69 it_m69 1 (pc1 := 98) (ls1 := [some (.ref 4), none, some (.int v2), none, none]) (st1 := [(.int (200 : Int32)), (.ref 4)]) (mem1 := (it_sv m 4 3 u1)) rfl ?_
    refine it_V.weak (l := [some (.ref 4), none, some (.int v2), none, none]) ⟨rfl, ⟨rfl, trivial⟩⟩ ?_
    exact s_69_98 kc Φ v2 (200 : Int32) (it_sv m 4 3 u1) h
  · have h := h.2 c1
    refine it_V.sN it_cd69 it_m69 5 (pc1 := 98) (ls1 := [some (.ref 4), none, some (.int v2), none, none]) (st1 := [(.int (((it_sv m 4 3 u1) 4 4) + (1 : Int32))), (.ref 4)]) (mem1 := (it_sv m 4 3 u1)) rfl ?_
    refine it_V.weak (l := [some (.ref 4), none, some (.int v2), none, none]) ⟨rfl, ⟨rfl, trivial⟩⟩ ?_
    exact s_69_98 kc Φ v2 (((it_sv m 4 3 u1) 4 4) + (1 : Int32)) (it_sv m 4 3 u1) h
set_option maxRecDepth 100000 in
set_option maxHeartbeats 4000000 in
theorem s_69 (kc : it_Kc) (x0 : Int32) (x1 : Int32) (x2 : Int32) (m : it_Me) (Φ : it_Me → Prop) (h : w_69 kc x0 x1 x2 m Φ) : it_V kc it_sh0 69 0 (it_loc0 [(.ref 4), (.int x0), (.int x1), (.int x2)] 5) [] m (it_Pv Φ) := by
  rw [w_69] at h
  refine it_V.at (pc1 := 0) (ls1 := [some (.ref 4), some (.int x0), some (.int x1), some (.int x2), none]) (st1 := []) (mem1 := m) rfl rfl rfl rfl ?_
  refine it_V.sN it_cd69 it_m69 10 (pc1 := 18) (ls1 := [some (.ref 4), some (.int x0), some (.int x1), some (.int x2), some (.int ((m 4 3) * (4 : Int32)))]) (st1 := [(.int (m 4 0)), (.int ((m 4 3) * (4 : Int32))), (.ref 6)]) (mem1 := m) rfl ?_
  obtain ⟨g1, h⟩ := h
  refine it_V.iast it_cd69 it_m69 rfl ((⟨rfl, by decide⟩ : it_isR 6 800)).1 g1 ?_
  refine it_V.at (pc1 := 19) (ls1 := [some (.ref 4), some (.int x0), some (.int x1), some (.int x2), some (.int ((m 4 3) * (4 : Int32)))]) (st1 := []) (mem1 := (it_sv m 6 (Int32.toNatClampNeg ((m 4 3) * (4 : Int32))) (m 4 0))) rfl rfl rfl rfl ?_
  refine it_V.sN it_cd69 it_m69 6 (pc1 := 28) (ls1 := [some (.ref 4), some (.int x0), some (.int x1), some (.int x2), some (.int ((m 4 3) * (4 : Int32)))]) (st1 := [(.int x0), (.int (((m 4 3) * (4 : Int32)) + (1 : Int32))), (.ref 6)]) (mem1 := (it_sv m 6 (Int32.toNatClampNeg ((m 4 3) * (4 : Int32))) (m 4 0))) rfl ?_
  obtain ⟨g2, h⟩ := h
  refine it_V.iast it_cd69 it_m69 rfl ((⟨rfl, by decide⟩ : it_isR 6 800)).1 g2 ?_
  refine it_V.at (pc1 := 29) (ls1 := [some (.ref 4), some (.int x0), some (.int x1), some (.int x2), some (.int ((m 4 3) * (4 : Int32)))]) (st1 := []) (mem1 := (it_sv (it_sv m 6 (Int32.toNatClampNeg ((m 4 3) * (4 : Int32))) (m 4 0)) 6 (Int32.toNatClampNeg (((m 4 3) * (4 : Int32)) + (1 : Int32))) x0)) rfl rfl rfl rfl ?_
  refine it_V.sN it_cd69 it_m69 6 (pc1 := 38) (ls1 := [some (.ref 4), some (.int x0), some (.int x1), some (.int x2), some (.int ((m 4 3) * (4 : Int32)))]) (st1 := [(.int x1), (.int (((m 4 3) * (4 : Int32)) + (2 : Int32))), (.ref 6)]) (mem1 := (it_sv (it_sv m 6 (Int32.toNatClampNeg ((m 4 3) * (4 : Int32))) (m 4 0)) 6 (Int32.toNatClampNeg (((m 4 3) * (4 : Int32)) + (1 : Int32))) x0)) rfl ?_
  obtain ⟨g3, h⟩ := h
  refine it_V.iast it_cd69 it_m69 rfl ((⟨rfl, by decide⟩ : it_isR 6 800)).1 g3 ?_
  refine it_V.at (pc1 := 39) (ls1 := [some (.ref 4), some (.int x0), some (.int x1), some (.int x2), some (.int ((m 4 3) * (4 : Int32)))]) (st1 := []) (mem1 := (it_sv (it_sv (it_sv m 6 (Int32.toNatClampNeg ((m 4 3) * (4 : Int32))) (m 4 0)) 6 (Int32.toNatClampNeg (((m 4 3) * (4 : Int32)) + (1 : Int32))) x0) 6 (Int32.toNatClampNeg (((m 4 3) * (4 : Int32)) + (2 : Int32))) x1)) rfl rfl rfl rfl ?_
  refine it_V.sN it_cd69 it_m69 6 (pc1 := 48) (ls1 := [some (.ref 4), some (.int x0), some (.int x1), some (.int x2), some (.int ((m 4 3) * (4 : Int32)))]) (st1 := [(.int x2), (.int (((m 4 3) * (4 : Int32)) + (3 : Int32))), (.ref 6)]) (mem1 := (it_sv (it_sv (it_sv m 6 (Int32.toNatClampNeg ((m 4 3) * (4 : Int32))) (m 4 0)) 6 (Int32.toNatClampNeg (((m 4 3) * (4 : Int32)) + (1 : Int32))) x0) 6 (Int32.toNatClampNeg (((m 4 3) * (4 : Int32)) + (2 : Int32))) x1)) rfl ?_
  obtain ⟨g4, h⟩ := h
  refine it_V.iast it_cd69 it_m69 rfl ((⟨rfl, by decide⟩ : it_isR 6 800)).1 g4 ?_
  refine it_V.at (pc1 := 49) (ls1 := [some (.ref 4), some (.int x0), some (.int x1), some (.int x2), some (.int ((m 4 3) * (4 : Int32)))]) (st1 := []) (mem1 := (it_sv (it_sv (it_sv (it_sv m 6 (Int32.toNatClampNeg ((m 4 3) * (4 : Int32))) (m 4 0)) 6 (Int32.toNatClampNeg (((m 4 3) * (4 : Int32)) + (1 : Int32))) x0) 6 (Int32.toNatClampNeg (((m 4 3) * (4 : Int32)) + (2 : Int32))) x1) 6 (Int32.toNatClampNeg (((m 4 3) * (4 : Int32)) + (3 : Int32))) x2)) rfl rfl rfl rfl ?_
  refine it_V.sN it_cd69 it_m69 7 (pc1 := (if (200 : Int32) ≤ (((it_sv (it_sv (it_sv (it_sv m 6 (Int32.toNatClampNeg ((m 4 3) * (4 : Int32))) (m 4 0)) 6 (Int32.toNatClampNeg (((m 4 3) * (4 : Int32)) + (1 : Int32))) x0) 6 (Int32.toNatClampNeg (((m 4 3) * (4 : Int32)) + (2 : Int32))) x1) 6 (Int32.toNatClampNeg (((m 4 3) * (4 : Int32)) + (3 : Int32))) x2) 4 3) + (1 : Int32)) then 71 else 62)) (ls1 := [some (.ref 4), some (.int x0), some (.int x1), some (.int x2), some (.int ((m 4 3) * (4 : Int32)))]) (st1 := [(.ref 4)]) (mem1 := (it_sv (it_sv (it_sv (it_sv m 6 (Int32.toNatClampNeg ((m 4 3) * (4 : Int32))) (m 4 0)) 6 (Int32.toNatClampNeg (((m 4 3) * (4 : Int32)) + (1 : Int32))) x0) 6 (Int32.toNatClampNeg (((m 4 3) * (4 : Int32)) + (2 : Int32))) x1) 6 (Int32.toNatClampNeg (((m 4 3) * (4 : Int32)) + (3 : Int32))) x2)) rfl ?_
  refine it_V.ite (fun c5 => ?_) (fun c5 => ?_)
  · have h := h.1 c5
    refine it_V.sN it_cd69 it_m69 1 (pc1 := 72) (ls1 := [some (.ref 4), some (.int x0), some (.int x1), some (.int x2), some (.int ((m 4 3) * (4 : Int32)))]) (st1 := [(.int (0 : Int32)), (.ref 4)]) (mem1 := (it_sv (it_sv (it_sv (it_sv m 6 (Int32.toNatClampNeg ((m 4 3) * (4 : Int32))) (m 4 0)) 6 (Int32.toNatClampNeg (((m 4 3) * (4 : Int32)) + (1 : Int32))) x0) 6 (Int32.toNatClampNeg (((m 4 3) * (4 : Int32)) + (2 : Int32))) x1) 6 (Int32.toNatClampNeg (((m 4 3) * (4 : Int32)) + (3 : Int32))) x2)) rfl ?_
    refine it_V.weak (l := [some (.ref 4), none, some (.int x1), none, none]) ⟨rfl, ⟨rfl, trivial⟩⟩ ?_
    exact s_69_72 kc Φ x1 (0 : Int32) (it_sv (it_sv (it_sv (it_sv m 6 (Int32.toNatClampNeg ((m 4 3) * (4 : Int32))) (m 4 0)) 6 (Int32.toNatClampNeg (((m 4 3) * (4 : Int32)) + (1 : Int32))) x0) 6 (Int32.toNatClampNeg (((m 4 3) * (4 : Int32)) + (2 : Int32))) x1) 6 (Int32.toNatClampNeg (((m 4 3) * (4 : Int32)) + (3 : Int32))) x2) h
  · have h := h.2 c5
    refine it_V.sN it_cd69 it_m69 5 (pc1 := 72) (ls1 := [some (.ref 4), some (.int x0), some (.int x1), some (.int x2), some (.int ((m 4 3) * (4 : Int32)))]) (st1 := [(.int (((it_sv (it_sv (it_sv (it_sv m 6 (Int32.toNatClampNeg ((m 4 3) * (4 : Int32))) (m 4 0)) 6 (Int32.toNatClampNeg (((m 4 3) * (4 : Int32)) + (1 : Int32))) x0) 6 (Int32.toNatClampNeg (((m 4 3) * (4 : Int32)) + (2 : Int32))) x1) 6 (Int32.toNatClampNeg (((m 4 3) * (4 : Int32)) + (3 : Int32))) x2) 4 3) + (1 : Int32))), (.ref 4)]) (mem1 := (it_sv (it_sv (it_sv (it_sv m 6 (Int32.toNatClampNeg ((m 4 3) * (4 : Int32))) (m 4 0)) 6 (Int32.toNatClampNeg (((m 4 3) * (4 : Int32)) + (1 : Int32))) x0) 6 (Int32.toNatClampNeg (((m 4 3) * (4 : Int32)) + (2 : Int32))) x1) 6 (Int32.toNatClampNeg (((m 4 3) * (4 : Int32)) + (3 : Int32))) x2)) rfl ?_
    refine it_V.weak (l := [some (.ref 4), none, some (.int x1), none, none]) ⟨rfl, ⟨rfl, trivial⟩⟩ ?_
    exact s_69_72 kc Φ x1 (((it_sv (it_sv (it_sv (it_sv m 6 (Int32.toNatClampNeg ((m 4 3) * (4 : Int32))) (m 4 0)) 6 (Int32.toNatClampNeg (((m 4 3) * (4 : Int32)) + (1 : Int32))) x0) 6 (Int32.toNatClampNeg (((m 4 3) * (4 : Int32)) + (2 : Int32))) x1) 6 (Int32.toNatClampNeg (((m 4 3) * (4 : Int32)) + (3 : Int32))) x2) 4 3) + (1 : Int32)) (it_sv (it_sv (it_sv (it_sv m 6 (Int32.toNatClampNeg ((m 4 3) * (4 : Int32))) (m 4 0)) 6 (Int32.toNatClampNeg (((m 4 3) * (4 : Int32)) + (1 : Int32))) x0) 6 (Int32.toNatClampNeg (((m 4 3) * (4 : Int32)) + (2 : Int32))) x1) 6 (Int32.toNatClampNeg (((m 4 3) * (4 : Int32)) + (3 : Int32))) x2) h
set_option maxRecDepth 100000 in
set_option maxHeartbeats 4000000 in
theorem s_83 (kc : it_Kc) (x0 : Nat) (x1 : Int32) (x2 : Int32) (x3 : Int32) (x4 : Int32) (x5 : Int32) (hx0 : it_isP x0) (m : it_Me) (Φ : it_Me → Prop) (h : w_83 kc x0 x1 x2 x3 x4 x5 m Φ) : it_V kc it_sh0 83 0 (it_loc0 [(.ref 9), (.ref x0), (.int x1), (.int x2), (.int x3), (.int x4), (.int x5)] 7) [] m (it_Pv Φ) := by
  rw [w_83] at h
  refine it_V.at (pc1 := 0) (ls1 := [some (.ref 9), some (.ref x0), some (.int x1), some (.int x2), some (.int x3), some (.int x4), some (.int x5)]) (st1 := []) (mem1 := m) rfl rfl rfl rfl ?_
  refine it_V.sN it_cd83 it_m83 1 (pc1 := 1) (ls1 := [some (.ref 9), some (.ref x0), some (.int x1), some (.int x2), some (.int x3), some (.int x4), some (.int x5)]) (st1 := [(.ref x0)]) (mem1 := m) rfl ?_
  refine it_V.getP it_cd83 it_m83 rfl (hx0).1 rfl ?_
  refine it_V.at (pc1 := 4) (ls1 := [some (.ref 9), some (.ref x0), some (.int x1), some (.int x2), some (.int x3), some (.int x4), some (.int x5)]) (st1 := [(.ref (x0 + 2))]) (mem1 := m) rfl rfl rfl rfl ?_
  refine it_V.sN it_cd83 it_m83 2 (pc1 := 8) (ls1 := [some (.ref 9), some (.ref x0), some (.int x1), some (.int x2), some (.int x3), some (.int x4), some (.int x5)]) (st1 := [(.int x3), (.int (10 : Int32)), (.ref (x0 + 2))]) (mem1 := m) rfl ?_
  obtain ⟨g1, h⟩ := h
  refine it_V.iast it_cd83 it_m83 rfl ((hx0).2.2.1).1 g1 ?_
  refine it_V.at (pc1 := 9) (ls1 := [some (.ref 9), some (.ref x0), some (.int x1), some (.int x2), some (.int x3), some (.int x4), some (.int x5)]) (st1 := []) (mem1 := (it_sv m (x0 + 2) (Int32.toNatClampNeg (10 : Int32)) x3)) rfl rfl rfl rfl ?_
  refine it_V.sN it_cd83 it_m83 1 (pc1 := 10) (ls1 := [some (.ref 9), some (.ref x0), some (.int x1), some (.int x2), some (.int x3), some (.int x4), some (.int x5)]) (st1 := [(.ref x0)]) (mem1 := (it_sv m (x0 + 2) (Int32.toNatClampNeg (10 : Int32)) x3)) rfl ?_
  refine it_V.getP it_cd83 it_m83 rfl (hx0).1 rfl ?_
  refine it_V.at (pc1 := 13) (ls1 := [some (.ref 9), some (.ref x0), some (.int x1), some (.int x2), some (.int x3), some (.int x4), some (.int x5)]) (st1 := [(.ref (x0 + 2))]) (mem1 := (it_sv m (x0 + 2) (Int32.toNatClampNeg (10 : Int32)) x3)) rfl rfl rfl rfl ?_
  refine it_V.sN it_cd83 it_m83 2 (pc1 := 17) (ls1 := [some (.ref 9), some (.ref x0), some (.int x1), some (.int x2), some (.int x3), some (.int x4), some (.int x5)]) (st1 := [(.int x4), (.int (11 : Int32)), (.ref (x0 + 2))]) (mem1 := (it_sv m (x0 + 2) (Int32.toNatClampNeg (10 : Int32)) x3)) rfl ?_
  obtain ⟨g2, h⟩ := h
  refine it_V.iast it_cd83 it_m83 rfl ((hx0).2.2.1).1 g2 ?_
  refine it_V.at (pc1 := 18) (ls1 := [some (.ref 9), some (.ref x0), some (.int x1), some (.int x2), some (.int x3), some (.int x4), some (.int x5)]) (st1 := []) (mem1 := (it_sv (it_sv m (x0 + 2) (Int32.toNatClampNeg (10 : Int32)) x3) (x0 + 2) (Int32.toNatClampNeg (11 : Int32)) x4)) rfl rfl rfl rfl ?_
  refine it_V.sN it_cd83 it_m83 1 (pc1 := 19) (ls1 := [some (.ref 9), some (.ref x0), some (.int x1), some (.int x2), some (.int x3), some (.int x4), some (.int x5)]) (st1 := [(.ref x0)]) (mem1 := (it_sv (it_sv m (x0 + 2) (Int32.toNatClampNeg (10 : Int32)) x3) (x0 + 2) (Int32.toNatClampNeg (11 : Int32)) x4)) rfl ?_
  refine it_V.getP it_cd83 it_m83 rfl (hx0).1 rfl ?_
  refine it_V.at (pc1 := 22) (ls1 := [some (.ref 9), some (.ref x0), some (.int x1), some (.int x2), some (.int x3), some (.int x4), some (.int x5)]) (st1 := [(.ref (x0 + 2))]) (mem1 := (it_sv (it_sv m (x0 + 2) (Int32.toNatClampNeg (10 : Int32)) x3) (x0 + 2) (Int32.toNatClampNeg (11 : Int32)) x4)) rfl rfl rfl rfl ?_
  refine it_V.sN it_cd83 it_m83 2 (pc1 := 26) (ls1 := [some (.ref 9), some (.ref x0), some (.int x1), some (.int x2), some (.int x3), some (.int x4), some (.int x5)]) (st1 := [(.int x5), (.int (12 : Int32)), (.ref (x0 + 2))]) (mem1 := (it_sv (it_sv m (x0 + 2) (Int32.toNatClampNeg (10 : Int32)) x3) (x0 + 2) (Int32.toNatClampNeg (11 : Int32)) x4)) rfl ?_
  obtain ⟨g3, h⟩ := h
  refine it_V.iast it_cd83 it_m83 rfl ((hx0).2.2.1).1 g3 ?_
  refine it_V.at (pc1 := 27) (ls1 := [some (.ref 9), some (.ref x0), some (.int x1), some (.int x2), some (.int x3), some (.int x4), some (.int x5)]) (st1 := []) (mem1 := (it_sv (it_sv (it_sv m (x0 + 2) (Int32.toNatClampNeg (10 : Int32)) x3) (x0 + 2) (Int32.toNatClampNeg (11 : Int32)) x4) (x0 + 2) (Int32.toNatClampNeg (12 : Int32)) x5)) rfl rfl rfl rfl ?_
  refine it_V.sN it_cd83 it_m83 2 (pc1 := 29) (ls1 := [some (.ref 9), some (.ref x0), some (.int x1), some (.int x2), some (.int x3), some (.int x4), some (.int x5)]) (st1 := [(.int (1 : Int32)), (.ref x0)]) (mem1 := (it_sv (it_sv (it_sv m (x0 + 2) (Int32.toNatClampNeg (10 : Int32)) x3) (x0 + 2) (Int32.toNatClampNeg (11 : Int32)) x4) (x0 + 2) (Int32.toNatClampNeg (12 : Int32)) x5)) rfl ?_
  refine it_V.putP it_cd83 it_m83 rfl (hx0).1 rfl rfl rfl (Or.inl rfl) ?_
  refine it_V.at (pc1 := 32) (ls1 := [some (.ref 9), some (.ref x0), some (.int x1), some (.int x2), some (.int x3), some (.int x4), some (.int x5)]) (st1 := []) (mem1 := (it_sv (it_sv (it_sv (it_sv m (x0 + 2) (Int32.toNatClampNeg (10 : Int32)) x3) (x0 + 2) (Int32.toNatClampNeg (11 : Int32)) x4) (x0 + 2) (Int32.toNatClampNeg (12 : Int32)) x5) x0 4 (1 : Int32))) rfl rfl rfl rfl ?_
  refine it_V.sN it_cd83 it_m83 2 (pc1 := 34) (ls1 := [some (.ref 9), some (.ref x0), some (.int x1), some (.int x2), some (.int x3), some (.int x4), some (.int x5)]) (st1 := [(.int (1 : Int32)), (.ref x0)]) (mem1 := (it_sv (it_sv (it_sv (it_sv m (x0 + 2) (Int32.toNatClampNeg (10 : Int32)) x3) (x0 + 2) (Int32.toNatClampNeg (11 : Int32)) x4) (x0 + 2) (Int32.toNatClampNeg (12 : Int32)) x5) x0 4 (1 : Int32))) rfl ?_
  refine it_V.putP it_cd83 it_m83 rfl (hx0).1 rfl rfl rfl (Or.inl rfl) ?_
  refine it_V.at (pc1 := 37) (ls1 := [some (.ref 9), some (.ref x0), some (.int x1), some (.int x2), some (.int x3), some (.int x4), some (.int x5)]) (st1 := []) (mem1 := (it_sv (it_sv (it_sv (it_sv (it_sv m (x0 + 2) (Int32.toNatClampNeg (10 : Int32)) x3) (x0 + 2) (Int32.toNatClampNeg (11 : Int32)) x4) (x0 + 2) (Int32.toNatClampNeg (12 : Int32)) x5) x0 4 (1 : Int32)) x0 9 (1 : Int32))) rfl rfl rfl rfl ?_
  refine it_V.sN it_cd83 it_m83 3 (pc1 := 42) (ls1 := [some (.ref 9), some (.ref x0), some (.int x1), some (.int x2), some (.int x3), some (.int x4), some (.int x5)]) (st1 := [(.ref x0), (.ref 4)]) (mem1 := (it_sv (it_sv (it_sv (it_sv (it_sv m (x0 + 2) (Int32.toNatClampNeg (10 : Int32)) x3) (x0 + 2) (Int32.toNatClampNeg (11 : Int32)) x4) (x0 + 2) (Int32.toNatClampNeg (12 : Int32)) x5) x0 4 (1 : Int32)) x0 9 (1 : Int32))) rfl ?_
  refine it_V.getP it_cd83 it_m83 rfl (hx0).1 rfl ?_
  refine it_V.at (pc1 := 45) (ls1 := [some (.ref 9), some (.ref x0), some (.int x1), some (.int x2), some (.int x3), some (.int x4), some (.int x5)]) (st1 := [(.int ((it_sv (it_sv (it_sv (it_sv (it_sv m (x0 + 2) (Int32.toNatClampNeg (10 : Int32)) x3) (x0 + 2) (Int32.toNatClampNeg (11 : Int32)) x4) (x0 + 2) (Int32.toNatClampNeg (12 : Int32)) x5) x0 4 (1 : Int32)) x0 9 (1 : Int32)) x0 0)), (.ref 4)]) (mem1 := (it_sv (it_sv (it_sv (it_sv (it_sv m (x0 + 2) (Int32.toNatClampNeg (10 : Int32)) x3) (x0 + 2) (Int32.toNatClampNeg (11 : Int32)) x4) (x0 + 2) (Int32.toNatClampNeg (12 : Int32)) x5) x0 4 (1 : Int32)) x0 9 (1 : Int32))) rfl rfl rfl rfl ?_
  refine it_V.sN it_cd83 it_m83 6 (pc1 := 52) (ls1 := [some (.ref 9), some (.ref x0), some (.int x1), some (.int x2), some (.int x3), some (.int x4), some (.int x5)]) (st1 := [(.int (((16 : Int32) * x1) + x2)), (.int (1 : Int32)), (.int ((it_sv (it_sv (it_sv (it_sv (it_sv m (x0 + 2) (Int32.toNatClampNeg (10 : Int32)) x3) (x0 + 2) (Int32.toNatClampNeg (11 : Int32)) x4) (x0 + 2) (Int32.toNatClampNeg (12 : Int32)) x5) x0 4 (1 : Int32)) x0 9 (1 : Int32)) x0 0)), (.ref 4)]) (mem1 := (it_sv (it_sv (it_sv (it_sv (it_sv m (x0 + 2) (Int32.toNatClampNeg (10 : Int32)) x3) (x0 + 2) (Int32.toNatClampNeg (11 : Int32)) x4) (x0 + 2) (Int32.toNatClampNeg (12 : Int32)) x5) x0 4 (1 : Int32)) x0 9 (1 : Int32))) rfl ?_
  refine it_V.call it_cd83 it_m83 rfl it_m69 [(.ref 4), (.int ((it_sv (it_sv (it_sv (it_sv (it_sv m (x0 + 2) (Int32.toNatClampNeg (10 : Int32)) x3) (x0 + 2) (Int32.toNatClampNeg (11 : Int32)) x4) (x0 + 2) (Int32.toNatClampNeg (12 : Int32)) x5) x0 4 (1 : Int32)) x0 9 (1 : Int32)) x0 0)), (.int (1 : Int32)), (.int (((16 : Int32) * x1) + x2))] [] rfl rfl ⟨Nat.le_of_ble_eq_true rfl, Nat.le_of_ble_eq_true rfl, Nat.le_of_ble_eq_true rfl, Nat.le_of_ble_eq_true rfl, rfl⟩ (s_69 kc ((it_sv (it_sv (it_sv (it_sv (it_sv m (x0 + 2) (Int32.toNatClampNeg (10 : Int32)) x3) (x0 + 2) (Int32.toNatClampNeg (11 : Int32)) x4) (x0 + 2) (Int32.toNatClampNeg (12 : Int32)) x5) x0 4 (1 : Int32)) x0 9 (1 : Int32)) x0 0) (1 : Int32) (((16 : Int32) * x1) + x2) (it_sv (it_sv (it_sv (it_sv (it_sv m (x0 + 2) (Int32.toNatClampNeg (10 : Int32)) x3) (x0 + 2) (Int32.toNatClampNeg (11 : Int32)) x4) (x0 + 2) (Int32.toNatClampNeg (12 : Int32)) x5) x0 4 (1 : Int32)) x0 9 (1 : Int32)) _ h) ?_
  rintro _ m4 ⟨rfl, h⟩
  refine it_V.at (pc1 := 55) (ls1 := [some (.ref 9), some (.ref x0), some (.int x1), some (.int x2), some (.int x3), some (.int x4), some (.int x5)]) (st1 := []) (mem1 := m4) rfl rfl rfl rfl ?_
  exact it_V.ret it_cd83 it_m83 rfl rfl ⟨rfl, h⟩
set_option maxRecDepth 100000 in
set_option maxHeartbeats 4000000 in
theorem s_87 (kc : it_Kc) (x0 : Nat) (x1 : Int32) (x2 : Int32) (hx0 : it_isP x0) (m : it_Me) (Φ : Int32 → it_Me → Prop) (h : w_87 kc x0 x1 x2 m Φ) : it_V kc it_sh0 87 0 (it_loc0 [(.ref 9), (.ref x0), (.int x1), (.int x2)] 4) [] m (it_Pi Φ) := by
  rw [w_87] at h
  refine it_V.at (pc1 := 0) (ls1 := [some (.ref 9), some (.ref x0), some (.int x1), some (.int x2)]) (st1 := []) (mem1 := m) rfl rfl rfl rfl ?_
  refine it_V.sN it_cd87 it_m87 1 (pc1 := 1) (ls1 := [some (.ref 9), some (.ref x0), some (.int x1), some (.int x2)]) (st1 := [(.ref x0)]) (mem1 := m) rfl ?_
  refine it_V.getP it_cd87 it_m87 rfl (hx0).1 rfl ?_
  refine it_V.at (pc1 := 4) (ls1 := [some (.ref 9), some (.ref x0), some (.int x1), some (.int x2)]) (st1 := [(.ref (x0 + 4))]) (mem1 := m) rfl rfl rfl rfl ?_
  refine it_V.sN it_cd87 it_m87 1 (pc1 := 5) (ls1 := [some (.ref 9), some (.ref x0), some (.int x1), some (.int x2)]) (st1 := [(.int x1), (.ref (x0 + 4))]) (mem1 := m) rfl ?_
  obtain ⟨g1, h⟩ := h
  refine it_V.iald it_cd87 it_m87 rfl ((hx0).2.2.2.2).2 ((hx0).2.2.2.2).1 g1 ?_
  refine it_V.at (pc1 := 6) (ls1 := [some (.ref 9), some (.ref x0), some (.int x1), some (.int x2)]) (st1 := [(.int (m (x0 + 4) (Int32.toNatClampNeg x1)))]) (mem1 := m) rfl rfl rfl rfl ?_
  refine it_V.sN it_cd87 it_m87 6 (pc1 := 13) (ls1 := [some (.ref 9), some (.ref x0), some (.int x1), some (.int x2)]) (st1 := [(.int ((m (x0 + 4) (Int32.toNatClampNeg x1)) + ((8 : Int32) * ((1 : Int32) + x2))))]) (mem1 := m) rfl ?_
  exact it_V.ret it_cd87 it_m87 rfl rfl ⟨_, rfl, h⟩
set_option maxRecDepth 100000 in
set_option maxHeartbeats 4000000 in
theorem s_84 (kc : it_Kc) (x0 : Nat) (x1 : Int32) (x2 : Int32) (hx0 : it_isP x0) (m : it_Me) (Φ : it_Me → Prop) (h : w_84 kc x0 x1 x2 m Φ) : it_V kc it_sh0 84 0 (it_loc0 [(.ref 9), (.ref x0), (.int x1), (.int x2)] 5) [] m (it_Pv Φ) := by
  rw [w_84] at h
  refine it_V.at (pc1 := 0) (ls1 := [some (.ref 9), some (.ref x0), some (.int x1), some (.int x2), none]) (st1 := []) (mem1 := m) rfl rfl rfl rfl ?_
  refine it_V.sN it_cd84 it_m84 4 (pc1 := 4) (ls1 := [some (.ref 9), some (.ref x0), some (.int x1), some (.int x2), none]) (st1 := [(.int x2), (.int x1), (.ref x0), (.ref 9)]) (mem1 := m) rfl ?_
  refine it_V.call it_cd84 it_m84 rfl it_m87 [(.ref 9), (.ref x0), (.int x1), (.int x2)] [] rfl rfl ⟨Nat.le_of_ble_eq_true rfl, Nat.le_of_ble_eq_true rfl, Nat.le_of_ble_eq_true rfl, Nat.le_of_ble_eq_true rfl, rfl⟩ (s_87 kc x0 x1 x2 (hx0) m _ h) ?_
  rintro _ m2 ⟨r1, rfl, h⟩
  refine it_V.at (pc1 := 7) (ls1 := [some (.ref 9), some (.ref x0), some (.int x1), some (.int x2), none]) (st1 := [(.int r1)]) (mem1 := m2) rfl rfl rfl rfl ?_
  refine it_V.sN it_cd84 it_m84 2 (pc1 := 10) (ls1 := [some (.ref 9), some (.ref x0), some (.int x1), some (.int x2), some (.int r1)]) (st1 := [(.ref x0)]) (mem1 := m2) rfl ?_
  refine it_V.getP it_cd84 it_m84 rfl (hx0).1 rfl ?_
  refine it_V.at (pc1 := 13) (ls1 := [some (.ref 9), some (.ref x0), some (.int x1), some (.int x2), some (.int r1)]) (st1 := [(.ref (x0 + 2))]) (mem1 := m2) rfl rfl rfl rfl ?_
  refine it_V.sN it_cd84 it_m84 2 (pc1 := 15) (ls1 := [some (.ref 9), some (.ref x0), some (.int x1), some (.int x2), some (.int r1)]) (st1 := [(.ref x0), (.int (1 : Int32)), (.ref (x0 + 2))]) (mem1 := m2) rfl ?_
  refine it_V.getP it_cd84 it_m84 rfl (hx0).1 rfl ?_
  refine it_V.at (pc1 := 18) (ls1 := [some (.ref 9), some (.ref x0), some (.int x1), some (.int x2), some (.int r1)]) (st1 := [(.int (m2 x0 3)), (.int (1 : Int32)), (.ref (x0 + 2))]) (mem1 := m2) rfl rfl rfl rfl ?_
  obtain ⟨g3, h⟩ := h
  refine it_V.iast it_cd84 it_m84 rfl ((hx0).2.2.1).1 g3 ?_
  refine it_V.at (pc1 := 19) (ls1 := [some (.ref 9), some (.ref x0), some (.int x1), some (.int x2), some (.int r1)]) (st1 := []) (mem1 := (it_sv m2 (x0 + 2) (Int32.toNatClampNeg (1 : Int32)) (m2 x0 3))) rfl rfl rfl rfl ?_
  refine it_V.sN it_cd84 it_m84 1 (pc1 := 20) (ls1 := [some (.ref 9), some (.ref x0), some (.int x1), some (.int x2), some (.int r1)]) (st1 := [(.ref x0)]) (mem1 := (it_sv m2 (x0 + 2) (Int32.toNatClampNeg (1 : Int32)) (m2 x0 3))) rfl ?_
  refine it_V.getP it_cd84 it_m84 rfl (hx0).1 rfl ?_
  refine it_V.at (pc1 := 23) (ls1 := [some (.ref 9), some (.ref x0), some (.int x1), some (.int x2), some (.int r1)]) (st1 := [(.ref (x0 + 2))]) (mem1 := (it_sv m2 (x0 + 2) (Int32.toNatClampNeg (1 : Int32)) (m2 x0 3))) rfl rfl rfl rfl ?_
  refine it_V.sN it_cd84 it_m84 6 (pc1 := 33) (ls1 := [some (.ref 9), some (.ref x0), some (.int x1), some (.int x2), some (.int r1)]) (st1 := [(.int (r1 + (4 : Int32))), (.ref 1), (.int (13 : Int32)), (.ref (x0 + 2))]) (mem1 := (it_sv m2 (x0 + 2) (Int32.toNatClampNeg (1 : Int32)) (m2 x0 3))) rfl ?_
  refine it_V.call it_cd84 it_m84 rfl it_m12 [(.ref 1), (.int (r1 + (4 : Int32)))] [(.int (13 : Int32)), (.ref (x0 + 2))] rfl rfl ⟨Nat.le_of_ble_eq_true rfl, Nat.le_of_ble_eq_true rfl, Nat.le_of_ble_eq_true rfl, Nat.le_of_ble_eq_true rfl, rfl⟩ (s_12 kc (r1 + (4 : Int32)) (it_sv m2 (x0 + 2) (Int32.toNatClampNeg (1 : Int32)) (m2 x0 3)) _ h) ?_
  rintro _ m5 ⟨r4, rfl, h⟩
  refine it_V.at (pc1 := 36) (ls1 := [some (.ref 9), some (.ref x0), some (.int x1), some (.int x2), some (.int r1)]) (st1 := [(.int r4), (.int (13 : Int32)), (.ref (x0 + 2))]) (mem1 := m5) rfl rfl rfl rfl ?_
  obtain ⟨g6, h⟩ := h
  refine it_V.iast it_cd84 it_m84 rfl ((hx0).2.2.1).1 g6 ?_
  refine it_V.at (pc1 := 37) (ls1 := [some (.ref 9), some (.ref x0), some (.int x1), some (.int x2), some (.int r1)]) (st1 := []) (mem1 := (it_sv m5 (x0 + 2) (Int32.toNatClampNeg (13 : Int32)) r4)) rfl rfl rfl rfl ?_
  refine it_V.sN it_cd84 it_m84 4 (pc1 := 44) (ls1 := [some (.ref 9), some (.ref x0), some (.int x1), some (.int x2), some (.int r1)]) (st1 := [(.int r1), (.ref 1), (.ref x0)]) (mem1 := (it_sv m5 (x0 + 2) (Int32.toNatClampNeg (13 : Int32)) r4)) rfl ?_
  refine it_V.call it_cd84 it_m84 rfl it_m12 [(.ref 1), (.int r1)] [(.ref x0)] rfl rfl ⟨Nat.le_of_ble_eq_true rfl, Nat.le_of_ble_eq_true rfl, Nat.le_of_ble_eq_true rfl, Nat.le_of_ble_eq_true rfl, rfl⟩ (s_12 kc r1 (it_sv m5 (x0 + 2) (Int32.toNatClampNeg (13 : Int32)) r4) _ h) ?_
  rintro _ m8 ⟨r7, rfl, h⟩
  refine it_V.at (pc1 := 47) (ls1 := [some (.ref 9), some (.ref x0), some (.int x1), some (.int x2), some (.int r1)]) (st1 := [(.int r7), (.ref x0)]) (mem1 := m8) rfl rfl rfl rfl ?_
  refine it_V.putP it_cd84 it_m84 rfl (hx0).1 rfl rfl rfl (Or.inl rfl) ?_
  refine it_V.at (pc1 := 50) (ls1 := [some (.ref 9), some (.ref x0), some (.int x1), some (.int x2), some (.int r1)]) (st1 := []) (mem1 := (it_sv m8 x0 3 r7)) rfl rfl rfl rfl ?_
  exact it_V.ret it_cd84 it_m84 rfl rfl ⟨rfl, h⟩
set_option maxRecDepth 100000 in
set_option maxHeartbeats 4000000 in
theorem s_129 (kc : it_Kc) (k : Nat) (hk : it_isP k) (m : it_Me) (Φ : Int32 → it_Me → Prop) (h : w_129 kc k m Φ) : it_V kc it_sh0 129 0 (it_loc0 [(.ref k)] 1) [] m (it_Pi Φ) := by
  rw [w_129] at h
  refine it_V.at (pc1 := 0) (ls1 := [some (.ref k)]) (st1 := []) (mem1 := m) rfl rfl rfl rfl ?_
  refine it_V.sN it_cd129 it_m129 1 (pc1 := 1) (ls1 := [some (.ref k)]) (st1 := [(.ref k)]) (mem1 := m) rfl ?_
  refine it_V.getP it_cd129 it_m129 rfl (hk).1 rfl ?_
  refine it_V.at (pc1 := 4) (ls1 := [some (.ref k)]) (st1 := [(.int (m k 5))]) (mem1 := m) rfl rfl rfl rfl ?_
  refine it_V.sN it_cd129 it_m129 1 (pc1 := 5) (ls1 := [some (.ref k)]) (st1 := [(.ref k), (.int (m k 5))]) (mem1 := m) rfl ?_
  refine it_V.getP it_cd129 it_m129 rfl (hk).1 rfl ?_
  refine it_V.at (pc1 := 8) (ls1 := [some (.ref k)]) (st1 := [(.int (m k 6)), (.int (m k 5))]) (mem1 := m) rfl rfl rfl rfl ?_
  refine it_V.sN it_cd129 it_m129 3 (pc1 := 12) (ls1 := [some (.ref k)]) (st1 := [(.int (((m k 5) + (m k 6)) - (64 : Int32)))]) (mem1 := m) rfl ?_
  exact it_V.ret it_cd129 it_m129 rfl rfl ⟨_, rfl, h⟩
