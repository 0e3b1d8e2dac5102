/-! The formulas are sound for the small machine. Written by wip/whole/gen_wp.py, split_wp.py -/
set_option maxRecDepth 100000 in
set_option maxHeartbeats 4000000 in
theorem s_121_55 (kc : it_Kc) (Φ : Int32 → it_Me → Prop) (v2 : Int32) (m : it_Me) (h : w_121_55 kc Φ v2 m) : it_V kc it_sh0 121 55 [some (.ref 58), none, some (.int v2), none, none, none, none, none, none] [] m (it_Pi Φ) := by
  rw [w_121_55] at h
  refine it_V.sN it_cd121 it_m121 3 (pc1 := 58) (ls1 := [some (.ref 58), none, some (.int v2), none, none, none, none, none, none]) (st1 := [(.int v2), (.int (2 : Int32)), (.ref 58)]) (mem1 := m) rfl ?_
  refine it_V.call it_cd121 it_m121 rfl it_m105 [(.ref 58), (.int (2 : Int32)), (.int v2)] [] rfl rfl ⟨Nat.le_of_ble_eq_true rfl, Nat.le_of_ble_eq_true rfl, Nat.le_of_ble_eq_true rfl, Nat.le_of_ble_eq_true rfl, rfl⟩ (s_105 kc (2 : Int32) v2 m _ h) ?_
  rintro _ m2 ⟨r1, rfl, h⟩
  refine it_V.at (pc1 := 61) (ls1 := [some (.ref 58), none, some (.int v2), none, none, none, none, none, none]) (st1 := [(.int r1)]) (mem1 := m2) rfl rfl rfl rfl ?_
  exact it_V.ret it_cd121 it_m121 rfl rfl ⟨_, rfl, h⟩
set_option maxRecDepth 100000 in
set_option maxHeartbeats 4000000 in
theorem s_121_101 (kc : it_Kc) (Φ : Int32 → it_Me → Prop) (v6 : Int32) (u1 : Int32) (m : it_Me) (h : w_121_101 kc Φ v6 u1 m) : it_V kc it_sh0 121 101 [none, none, none, none, none, none, some (.int v6), none, none] [(.int u1), (.ref 58)] m (it_Pi Φ) := by
  rw [w_121_101] at h
  refine it_V.sN it_cd121 it_m121 1 (pc1 := 103) (ls1 := [none, none, none, none, none, none, some (.int v6), none, none]) (st1 := [(.int v6), (.int u1), (.ref 58)]) (mem1 := m) rfl ?_
  refine it_V.call it_cd121 it_m121 rfl it_m105 [(.ref 58), (.int u1), (.int v6)] [] rfl rfl ⟨Nat.le_of_ble_eq_true rfl, Nat.le_of_ble_eq_true rfl, Nat.le_of_ble_eq_true rfl, Nat.le_of_ble_eq_true rfl, rfl⟩ (s_105 kc u1 v6 m _ h) ?_
  rintro _ m2 ⟨r1, rfl, h⟩
  refine it_V.at (pc1 := 106) (ls1 := [none, none, none, none, none, none, some (.int v6), none, none]) (st1 := [(.int r1)]) (mem1 := m2) rfl rfl rfl rfl ?_
  exact it_V.ret it_cd121 it_m121 rfl rfl ⟨_, rfl, h⟩
set_option maxRecDepth 100000 in
set_option maxHeartbeats 4000000 in
theorem s_121_142 (kc : it_Kc) (Φ : Int32 → it_Me → Prop) (v6 : Int32) (u1 : Int32) (m : it_Me) (h : w_121_142 kc Φ v6 u1 m) : it_V kc it_sh0 121 142 [none, none, none, none, none, none, some (.int v6), none, none] [(.int u1), (.ref 58)] m (it_Pi Φ) := by
  rw [w_121_142] at h
  refine it_V.sN it_cd121 it_m121 1 (pc1 := 144) (ls1 := [none, none, none, none, none, none, some (.int v6), none, none]) (st1 := [(.int v6), (.int u1), (.ref 58)]) (mem1 := m) rfl ?_
  refine it_V.call it_cd121 it_m121 rfl it_m105 [(.ref 58), (.int u1), (.int v6)] [] rfl rfl ⟨Nat.le_of_ble_eq_true rfl, Nat.le_of_ble_eq_true rfl, Nat.le_of_ble_eq_true rfl, Nat.le_of_ble_eq_true rfl, rfl⟩ (s_105 kc u1 v6 m _ h) ?_
  rintro _ m2 ⟨r1, rfl, h⟩
  refine it_V.at (pc1 := 147) (ls1 := [none, none, none, none, none, none, some (.int v6), none, none]) (st1 := [(.int r1)]) (mem1 := m2) rfl rfl rfl rfl ?_
  exact it_V.ret it_cd121 it_m121 rfl rfl ⟨_, rfl, h⟩
set_option maxRecDepth 100000 in
set_option maxHeartbeats 4000000 in
theorem s_121_130 (kc : it_Kc) (Φ : Int32 → it_Me → Prop) (v6 : Int32) (v7 : Int32) (m : it_Me) (h : w_121_130 kc Φ v6 v7 m) : it_V kc it_sh0 121 130 [some (.ref 58), none, none, none, none, none, some (.int v6), some (.int v7), none] [] m (it_Pi Φ) := by
  rw [w_121_130] at h
  refine it_V.sN it_cd121 it_m121 3 (pc1 := (if v7 = 0 then 140 else 136)) (ls1 := [some (.ref 58), none, none, none, none, none, some (.int v6), some (.int v7), none]) (st1 := [(.ref 58)]) (mem1 := m) rfl ?_
  refine it_V.ite (fun c1 => ?_) (fun c1 => ?_)
  · have h := h.1 c1
    refine it_V.sN it_cd121 it_m121 1 (pc1 := 142) (ls1 := [some (.ref 58), none, none, none, none, none, some (.int v6), some (.int v7), none]) (st1 := [(.int (7 : Int32)), (.ref 58)]) (mem1 := m) rfl ?_
    refine it_V.weak (l := [none, none, none, none, none, none, some (.int v6), none, none]) ⟨rfl, trivial⟩ ?_
    exact s_121_142 kc Φ v6 (7 : Int32) m h
  · have h := h.2 c1
    refine it_V.sN it_cd121 it_m121 2 (pc1 := 142) (ls1 := [some (.ref 58), none, none, none, none, none, some (.int v6), some (.int v7), none]) (st1 := [(.int (5 : Int32)), (.ref 58)]) (mem1 := m) rfl ?_
    refine it_V.weak (l := [none, none, none, none, none, none, some (.int v6), none, none]) ⟨rfl, trivial⟩ ?_
    exact s_121_142 kc Φ v6 (5 : Int32) m h
set_option maxRecDepth 100000 in
set_option maxHeartbeats 4000000 in
theorem s_121_148 (kc : it_Kc) (Φ : Int32 → it_Me → Prop) (v1 : Nat) (v2 : Int32) (v3 : Int32) (v4 : Int32) (v6 : Int32) (v7 : Int32) (hv1 : it_isP v1) (m : it_Me) (h : w_121_148 kc Φ v1 v2 v3 v4 v6 v7 m) : it_V kc it_sh0 121 148 [some (.ref 58), some (.ref v1), some (.int v2), some (.int v3), some (.int v4), none, some (.int v6), some (.int v7), none] [] m (it_Pi Φ) := by
  rw [w_121_148] at h
  refine it_V.sN it_cd121 it_m121 2 (pc1 := (if v7 = 0 then 175 else 153)) (ls1 := [some (.ref 58), some (.ref v1), some (.int v2), some (.int v3), some (.int v4), none, some (.int v6), some (.int v7), none]) (st1 := []) (mem1 := m) rfl ?_
  refine it_V.ite (fun c1 => ?_) (fun c1 => ?_)
  · have h := h.1 c1
    refine it_V.sN it_cd121 it_m121 3 (pc1 := (if v4 = (3 : Int32) then 181 else 189)) (ls1 := [some (.ref 58), some (.ref v1), some (.int v2), some (.int v3), some (.int v4), none, some (.int v6), some (.int v7), none]) (st1 := []) (mem1 := m) rfl ?_
    refine it_V.ite (fun c2 => ?_) (fun c2 => ?_)
    · have h := h.1 c2
      refine it_V.sN it_cd121 it_m121 4 (pc1 := 185) (ls1 := [some (.ref 58), some (.ref v1), some (.int v2), some (.int v3), some (.int v4), none, some (.int v6), some (.int v7), none]) (st1 := [(.int v3), (.int v2), (.ref v1), (.ref 58)]) (mem1 := m) rfl ?_
      refine it_V.call it_cd121 it_m121 rfl it_m122 [(.ref 58), (.ref v1), (.int v2), (.int v3)] [] rfl rfl ⟨Nat.le_of_ble_eq_true rfl, Nat.le_of_ble_eq_true rfl, Nat.le_of_ble_eq_true rfl, Nat.le_of_ble_eq_true rfl, rfl⟩ (s_122 kc v1 v2 v3 (hv1) m _ h) ?_
      rintro _ m4 ⟨r3, rfl, h⟩
      refine it_V.at (pc1 := 188) (ls1 := [some (.ref 58), some (.ref v1), some (.int v2), some (.int v3), some (.int v4), none, some (.int v6), some (.int v7), none]) (st1 := [(.int r3)]) (mem1 := m4) rfl rfl rfl rfl ?_
      exact it_V.ret it_cd121 it_m121 rfl rfl ⟨_, rfl, h⟩
    · have h := h.2 c2
      refine it_V.sN it_cd121 it_m121 3 (pc1 := 195) (ls1 := [some (.ref 58), some (.ref v1), some (.int v2), some (.int v3), some (.int v4), none, some (.int v6), some (.int v7), none]) (st1 := [(.int v6), (.ref 1)]) (mem1 := m) rfl ?_
      refine it_V.call it_cd121 it_m121 rfl it_m12 [(.ref 1), (.int v6)] [] rfl rfl ⟨Nat.le_of_ble_eq_true rfl, Nat.le_of_ble_eq_true rfl, Nat.le_of_ble_eq_true rfl, Nat.le_of_ble_eq_true rfl, rfl⟩ (s_12 kc v6 m _ h) ?_
      rintro _ m6 ⟨r5, rfl, h⟩
      refine it_V.at (pc1 := 198) (ls1 := [some (.ref 58), some (.ref v1), some (.int v2), some (.int v3), some (.int v4), none, some (.int v6), some (.int v7), none]) (st1 := [(.int r5)]) (mem1 := m6) rfl rfl rfl rfl ?_
      refine it_V.sN it_cd121 it_m121 8 (pc1 := 212) (ls1 := [some (.ref 58), some (.ref v1), some (.int v2), some (.int v3), some (.int v4), none, some (.int v6), some (.int v7), some (.int r5)]) (st1 := [(.int v2), (.ref v1), (.int r5), (.int v4), (.int v6), (.ref 1)]) (mem1 := m6) rfl ?_
      refine it_V.call it_cd121 it_m121 rfl it_m110 [(.ref v1), (.int v2)] [(.int r5), (.int v4), (.int v6), (.ref 1)] rfl rfl ⟨Nat.le_of_ble_eq_true rfl, Nat.le_of_ble_eq_true rfl, Nat.le_of_ble_eq_true rfl, Nat.le_of_ble_eq_true rfl, rfl⟩ (s_110 kc v1 v2 (hv1) m6 _ h) ?_
      rintro _ m8 ⟨r7, rfl, h⟩
      refine it_V.at (pc1 := 215) (ls1 := [some (.ref 58), some (.ref v1), some (.int v2), some (.int v3), some (.int v4), none, some (.int v6), some (.int v7), some (.int r5)]) (st1 := [(.int r7), (.int r5), (.int v4), (.int v6), (.ref 1)]) (mem1 := m8) rfl rfl rfl rfl ?_
      refine it_V.call it_cd121 it_m121 rfl it_m123 [(.int v4), (.int r5), (.int r7)] [(.int v6), (.ref 1)] rfl rfl ⟨Nat.le_of_ble_eq_true rfl, Nat.le_of_ble_eq_true rfl, Nat.le_of_ble_eq_true rfl, Nat.le_of_ble_eq_true rfl, rfl⟩ (s_123 kc v4 r5 r7 m8 _ h) ?_
      rintro _ m10 ⟨r9, rfl, h⟩
      refine it_V.at (pc1 := 218) (ls1 := [some (.ref 58), some (.ref v1), some (.int v2), some (.int v3), some (.int v4), none, some (.int v6), some (.int v7), some (.int r5)]) (st1 := [(.int r9), (.int v6), (.ref 1)]) (mem1 := m10) rfl rfl rfl rfl ?_
      refine it_V.call it_cd121 it_m121 rfl it_m13 [(.ref 1), (.int v6), (.int r9)] [] rfl rfl ⟨Nat.le_of_ble_eq_true rfl, Nat.le_of_ble_eq_true rfl, Nat.le_of_ble_eq_true rfl, Nat.le_of_ble_eq_true rfl, rfl⟩ (s_13 kc v6 r9 m10 _ h) ?_
      rintro _ m11 ⟨rfl, h⟩
      refine it_V.at (pc1 := 221) (ls1 := [some (.ref 58), some (.ref v1), some (.int v2), some (.int v3), some (.int v4), none, some (.int v6), some (.int v7), some (.int r5)]) (st1 := []) (mem1 := m11) rfl rfl rfl rfl ?_
      refine it_V.sN it_cd121 it_m121 4 (pc1 := 226) (ls1 := [some (.ref 58), some (.ref v1), some (.int v2), some (.int v3), some (.int v4), none, some (.int v6), some (.int v7), some (.int r5)]) (st1 := [(.int v3), (.int r5), (.int v2), (.ref v1)]) (mem1 := m11) rfl ?_
      refine it_V.call it_cd121 it_m121 rfl it_m107 [(.ref v1), (.int v2), (.int r5), (.int v3)] [] rfl rfl ⟨Nat.le_of_ble_eq_true rfl, Nat.le_of_ble_eq_true rfl, Nat.le_of_ble_eq_true rfl, Nat.le_of_ble_eq_true rfl, rfl⟩ (s_107 kc v1 v2 r5 v3 (hv1) m11 _ h) ?_
      rintro _ m13 ⟨r12, rfl, h⟩
      refine it_V.at (pc1 := 229) (ls1 := [some (.ref 58), some (.ref v1), some (.int v2), some (.int v3), some (.int v4), none, some (.int v6), some (.int v7), some (.int r5)]) (st1 := [(.int r12)]) (mem1 := m13) rfl rfl rfl rfl ?_
      exact it_V.ret it_cd121 it_m121 rfl rfl ⟨_, rfl, h⟩
  · have h := h.2 c1
    refine it_V.sN it_cd121 it_m121 2 (pc1 := 156) (ls1 := [some (.ref 58), some (.ref v1), some (.int v2), some (.int v3), some (.int v4), none, some (.int v6), some (.int v7), none]) (st1 := [(.int v6), (.ref v1)]) (mem1 := m) rfl ?_
    refine it_V.putP it_cd121 it_m121 rfl (hv1).1 rfl rfl rfl (Or.inl rfl) ?_
    refine it_V.at (pc1 := 159) (ls1 := [some (.ref 58), some (.ref v1), some (.int v2), some (.int v3), some (.int v4), none, some (.int v6), some (.int v7), none]) (st1 := []) (mem1 := (it_sv m v1 4 v6)) rfl rfl rfl rfl ?_
    refine it_V.sN it_cd121 it_m121 5 (pc1 := 167) (ls1 := [some (.ref 58), some (.ref v1), some (.int v2), some (.int v3), some (.int v4), none, some (.int v6), some (.int v7), none]) (st1 := [(.int v6), (.ref 1), (.int v2), (.ref v1)]) (mem1 := (it_sv m v1 4 v6)) rfl ?_
    refine it_V.call it_cd121 it_m121 rfl it_m12 [(.ref 1), (.int v6)] [(.int v2), (.ref v1)] rfl rfl ⟨Nat.le_of_ble_eq_true rfl, Nat.le_of_ble_eq_true rfl, Nat.le_of_ble_eq_true rfl, Nat.le_of_ble_eq_true rfl, rfl⟩ (s_12 kc v6 (it_sv m v1 4 v6) _ h) ?_
    rintro _ m15 ⟨r14, rfl, h⟩
    refine it_V.at (pc1 := 170) (ls1 := [some (.ref 58), some (.ref v1), some (.int v2), some (.int v3), some (.int v4), none, some (.int v6), some (.int v7), none]) (st1 := [(.int r14), (.int v2), (.ref v1)]) (mem1 := m15) rfl rfl rfl rfl ?_
    refine it_V.sN it_cd121 it_m121 1 (pc1 := 171) (ls1 := [some (.ref 58), some (.ref v1), some (.int v2), some (.int v3), some (.int v4), none, some (.int v6), some (.int v7), none]) (st1 := [(.int v3), (.int r14), (.int v2), (.ref v1)]) (mem1 := m15) rfl ?_
    refine it_V.call it_cd121 it_m121 rfl it_m107 [(.ref v1), (.int v2), (.int r14), (.int v3)] [] rfl rfl ⟨Nat.le_of_ble_eq_true rfl, Nat.le_of_ble_eq_true rfl, Nat.le_of_ble_eq_true rfl, Nat.le_of_ble_eq_true rfl, rfl⟩ (s_107 kc v1 v2 r14 v3 (hv1) m15 _ h) ?_
    rintro _ m17 ⟨r16, rfl, h⟩
    refine it_V.at (pc1 := 174) (ls1 := [some (.ref 58), some (.ref v1), some (.int v2), some (.int v3), some (.int v4), none, some (.int v6), some (.int v7), none]) (st1 := [(.int r16)]) (mem1 := m17) rfl rfl rfl rfl ?_
    exact it_V.ret it_cd121 it_m121 rfl rfl ⟨_, rfl, h⟩
set_option maxRecDepth 100000 in
set_option maxHeartbeats 4000000 in
theorem s_121_80 (kc : it_Kc) (Φ : Int32 → it_Me → Prop) (v1 : Nat) (v2 : Int32) (v3 : Int32) (v4 : Int32) (v6 : Int32) (u0 : Int32) (hv1 : it_isP v1) (m : it_Me) (h : w_121_80 kc Φ v1 v2 v3 v4 v6 u0 m) : it_V kc it_sh0 121 80 [some (.ref 58), some (.ref v1), some (.int v2), some (.int v3), some (.int v4), none, some (.int v6), none, none] [(.int u0)] m (it_Pi Φ) := by
  rw [w_121_80] at h
  refine it_V.sN it_cd121 it_m121 5 (pc1 := (if (v6 &&& (3 : Int32)) = 0 then 107 else 89)) (ls1 := [some (.ref 58), some (.ref v1), some (.int v2), some (.int v3), some (.int v4), none, some (.int v6), some (.int u0), none]) (st1 := []) (mem1 := m) rfl ?_
  refine it_V.ite (fun c1 => ?_) (fun c1 => ?_)
  · have h := h.1 c1
    refine it_V.sN it_cd121 it_m121 2 (pc1 := 110) (ls1 := [some (.ref 58), some (.ref v1), some (.int v2), some (.int v3), some (.int v4), none, some (.int v6), some (.int u0), none]) (st1 := [(.int v6), (.ref v1)]) (mem1 := m) rfl ?_
    refine it_V.call it_cd121 it_m121 rfl it_m132 [(.ref v1), (.int v6)] [] rfl rfl ⟨Nat.le_of_ble_eq_true rfl, Nat.le_of_ble_eq_true rfl, Nat.le_of_ble_eq_true rfl, Nat.le_of_ble_eq_true rfl, (it_recvP (hv1).1)⟩ (s_132 kc v1 v6 (hv1) m _ h) ?_
    rintro _ m3 ⟨r2, rfl, h⟩
    refine it_V.at (pc1 := 113) (ls1 := [some (.ref 58), some (.ref v1), some (.int v2), some (.int v3), some (.int v4), none, some (.int v6), some (.int u0), none]) (st1 := [(.int r2)]) (mem1 := m3) rfl rfl rfl rfl ?_
    refine it_V.sN it_cd121 it_m121 1 (pc1 := (if r2 = 0 then 116 else 148)) (ls1 := [some (.ref 58), some (.ref v1), some (.int v2), some (.int v3), some (.int v4), none, some (.int v6), some (.int u0), none]) (st1 := []) (mem1 := m3) rfl ?_
    refine it_V.ite (fun c4 => ?_) (fun c4 => ?_)
    · have h := h.1 c4
      refine it_V.sN it_cd121 it_m121 2 (pc1 := (if u0 = 0 then 130 else 121)) (ls1 := [some (.ref 58), some (.ref v1), some (.int v2), some (.int v3), some (.int v4), none, some (.int v6), some (.int u0), none]) (st1 := []) (mem1 := m3) rfl ?_
      refine it_V.ite (fun c5 => ?_) (fun c5 => ?_)
      · have h := h.1 c5
        refine it_V.weak (l := [some (.ref 58), none, none, none, none, none, some (.int v6), some (.int u0), none]) ⟨rfl, ⟨rfl, ⟨rfl, trivial⟩⟩⟩ ?_
        exact s_121_130 kc Φ v6 u0 m3 h
      · have h := h.2 c5
        refine it_V.sN it_cd121 it_m121 2 (pc1 := 124) (ls1 := [some (.ref 58), some (.ref v1), some (.int v2), some (.int v3), some (.int v4), none, some (.int v6), some (.int u0), none]) (st1 := [(.int v6), (.ref v1)]) (mem1 := m3) rfl ?_
        refine it_V.call it_cd121 it_m121 rfl it_m133 [(.ref v1), (.int v6)] [] rfl rfl ⟨Nat.le_of_ble_eq_true rfl, Nat.le_of_ble_eq_true rfl, Nat.le_of_ble_eq_true rfl, Nat.le_of_ble_eq_true rfl, (it_recvP (hv1).1)⟩ (s_133 kc v1 v6 (hv1) m3 _ h) ?_
        rintro _ m7 ⟨r6, rfl, h⟩
        refine it_V.at (pc1 := 127) (ls1 := [some (.ref 58), some (.ref v1), some (.int v2), some (.int v3), some (.int v4), none, some (.int v6), some (.int u0), none]) (st1 := [(.int r6)]) (mem1 := m7) rfl rfl rfl rfl ?_
        refine it_V.sN it_cd121 it_m121 1 (pc1 := (if r6 = 0 then 130 else 148)) (ls1 := [some (.ref 58), some (.ref v1), some (.int v2), some (.int v3), some (.int v4), none, some (.int v6), some (.int u0), none]) (st1 := []) (mem1 := m7) rfl ?_
        refine it_V.ite (fun c8 => ?_) (fun c8 => ?_)
        · have h := h.1 c8
          refine it_V.weak (l := [some (.ref 58), none, none, none, none, none, some (.int v6), some (.int u0), none]) ⟨rfl, ⟨rfl, ⟨rfl, trivial⟩⟩⟩ ?_
          exact s_121_130 kc Φ v6 u0 m7 h
        · have h := h.2 c8
          refine it_V.weak (l := [some (.ref 58), some (.ref v1), some (.int v2), some (.int v3), some (.int v4), none, some (.int v6), some (.int u0), none]) ⟨rfl, ⟨rfl, ⟨rfl, ⟨rfl, ⟨rfl, ⟨rfl, ⟨rfl, trivial⟩⟩⟩⟩⟩⟩⟩ ?_
          exact s_121_148 kc Φ v1 v2 v3 v4 v6 u0 (hv1) m7 h
    · have h := h.2 c4
      refine it_V.weak (l := [some (.ref 58), some (.ref v1), some (.int v2), some (.int v3), some (.int v4), none, some (.int v6), some (.int u0), none]) ⟨rfl, ⟨rfl, ⟨rfl, ⟨rfl, ⟨rfl, ⟨rfl, ⟨rfl, trivial⟩⟩⟩⟩⟩⟩⟩ ?_
      exact s_121_148 kc Φ v1 v2 v3 v4 v6 u0 (hv1) m3 h
  · have h := h.2 c1
    refine it_V.sN it_cd121 it_m121 3 (pc1 := (if u0 = 0 then 99 else 95)) (ls1 := [some (.ref 58), some (.ref v1), some (.int v2), some (.int v3), some (.int v4), none, some (.int v6), some (.int u0), none]) (st1 := [(.ref 58)]) (mem1 := m) rfl ?_
    refine it_V.ite (fun c9 => ?_) (fun c9 => ?_)
    · have h := h.1 c9
      refine it_V.sN it_cd121 it_m121 1 (pc1 := 101) (ls1 := [some (.ref 58), some (.ref v1), some (.int v2), some (.int v3), some (.int v4), none, some (.int v6), some (.int u0), none]) (st1 := [(.int (6 : Int32)), (.ref 58)]) (mem1 := m) rfl ?_
      refine it_V.weak (l := [none, none, none, none, none, none, some (.int v6), none, none]) ⟨rfl, trivial⟩ ?_
      exact s_121_101 kc Φ v6 (6 : Int32) m h
    · have h := h.2 c9
      refine it_V.sN it_cd121 it_m121 2 (pc1 := 101) (ls1 := [some (.ref 58), some (.ref v1), some (.int v2), some (.int v3), some (.int v4), none, some (.int v6), some (.int u0), none]) (st1 := [(.int (4 : Int32)), (.ref 58)]) (mem1 := m) rfl ?_
      refine it_V.weak (l := [none, none, none, none, none, none, some (.int v6), none, none]) ⟨rfl, trivial⟩ ?_
      exact s_121_101 kc Φ v6 (4 : Int32) m h
set_option maxRecDepth 100000 in
set_option maxHeartbeats 4000000 in
theorem s_121_62 (kc : it_Kc) (Φ : Int32 → it_Me → Prop) (v1 : Nat) (v2 : Int32) (v3 : Int32) (v4 : Int32) (hv1 : it_isP v1) (m : it_Me) (h : w_121_62 kc Φ v1 v2 v3 v4 m) : it_V kc it_sh0 121 62 [some (.ref 58), some (.ref v1), some (.int v2), some (.int v3), some (.int v4), none, none, none, none] [] m (it_Pi Φ) := by
  rw [w_121_62] at h
  refine it_V.sN it_cd121 it_m121 2 (pc1 := 64) (ls1 := [some (.ref 58), some (.ref v1), some (.int v2), some (.int v3), some (.int v4), none, none, none, none]) (st1 := [(.int v2), (.ref v1)]) (mem1 := m) rfl ?_
  refine it_V.call it_cd121 it_m121 rfl it_m109 [(.ref v1), (.int v2)] [] rfl rfl ⟨Nat.le_of_ble_eq_true rfl, Nat.le_of_ble_eq_true rfl, Nat.le_of_ble_eq_true rfl, Nat.le_of_ble_eq_true rfl, rfl⟩ (s_109 kc v1 v2 (hv1) m _ h) ?_
  rintro _ m2 ⟨r1, rfl, h⟩
  refine it_V.at (pc1 := 67) (ls1 := [some (.ref 58), some (.ref v1), some (.int v2), some (.int v3), some (.int v4), none, none, none, none]) (st1 := [(.int r1)]) (mem1 := m2) rfl rfl rfl rfl ?_
  refine it_V.sN it_cd121 it_m121 4 (pc1 := (if v4 = (2 : Int32) then 75 else 79)) (ls1 := [some (.ref 58), some (.ref v1), some (.int v2), some (.int v3), some (.int v4), none, some (.int r1), none, none]) (st1 := []) (mem1 := m2) rfl ?_
  refine it_V.ite (fun c3 => ?_) (fun c3 => ?_)
  · have h := h.1 c3
    refine it_V.sN it_cd121 it_m121 2 (pc1 := 80) (ls1 := [some (.ref 58), some (.ref v1), some (.int v2), some (.int v3), some (.int v4), none, some (.int r1), none, none]) (st1 := [(.int (1 : Int32))]) (mem1 := m2) rfl ?_
    refine it_V.weak (l := [some (.ref 58), some (.ref v1), some (.int v2), some (.int v3), some (.int v4), none, some (.int r1), none, none]) ⟨rfl, ⟨rfl, ⟨rfl, ⟨rfl, ⟨rfl, ⟨rfl, trivial⟩⟩⟩⟩⟩⟩ ?_
    exact s_121_80 kc Φ v1 v2 v3 v4 r1 (1 : Int32) (hv1) m2 h
  · have h := h.2 c3
    refine it_V.sN it_cd121 it_m121 1 (pc1 := 80) (ls1 := [some (.ref 58), some (.ref v1), some (.int v2), some (.int v3), some (.int v4), none, some (.int r1), none, none]) (st1 := [(.int (0 : Int32))]) (mem1 := m2) rfl ?_
    refine it_V.weak (l := [some (.ref 58), some (.ref v1), some (.int v2), some (.int v3), some (.int v4), none, some (.int r1), none, none]) ⟨rfl, ⟨rfl, ⟨rfl, ⟨rfl, ⟨rfl, ⟨rfl, trivial⟩⟩⟩⟩⟩⟩ ?_
    exact s_121_80 kc Φ v1 v2 v3 v4 r1 (0 : Int32) (hv1) m2 h
set_option maxRecDepth 100000 in
set_option maxHeartbeats 4000000 in
theorem s_121_24 (kc : it_Kc) (Φ : Int32 → it_Me → Prop) (v1 : Nat) (v2 : Int32) (v3 : Int32) (v4 : Int32) (u0 : Int32) (hv1 : it_isP v1) (m : it_Me) (h : w_121_24 kc Φ v1 v2 v3 v4 u0 m) : it_V kc it_sh0 121 24 [some (.ref 58), some (.ref v1), some (.int v2), some (.int v3), some (.int v4), none, none, none, none] [(.int u0)] m (it_Pi Φ) := by
  rw [w_121_24] at h
  refine it_V.sN it_cd121 it_m121 2 (pc1 := 27) (ls1 := [some (.ref 58), some (.ref v1), some (.int v2), some (.int v3), some (.int v4), some (.int u0), none, none, none]) (st1 := [(.int v2)]) (mem1 := m) rfl ?_
  refine it_V.call it_cd121 it_m121 rfl it_m108 [(.int v2)] [] rfl rfl ⟨Nat.le_of_ble_eq_true rfl, Nat.le_of_ble_eq_true rfl, Nat.le_of_ble_eq_true rfl, Nat.le_of_ble_eq_true rfl, rfl⟩ (s_108 kc v2 m _ h) ?_
  rintro _ m2 ⟨r1, rfl, h⟩
  refine it_V.at (pc1 := 30) (ls1 := [some (.ref 58), some (.ref v1), some (.int v2), some (.int v3), some (.int v4), some (.int u0), none, none, none]) (st1 := [(.int r1)]) (mem1 := m2) rfl rfl rfl rfl ?_
  refine it_V.sN it_cd121 it_m121 2 (pc1 := (if r1 = (2 : Int32) then 34 else 55)) (ls1 := [some (.ref 58), some (.ref v1), some (.int v2), some (.int v3), some (.int v4), some (.int u0), none, none, none]) (st1 := []) (mem1 := m2) rfl ?_
  refine it_V.ite (fun c3 => ?_) (fun c3 => ?_)
  · have h := h.1 c3
    refine it_V.sN it_cd121 it_m121 2 (pc1 := (if u0 = 0 then 55 else 39)) (ls1 := [some (.ref 58), some (.ref v1), some (.int v2), some (.int v3), some (.int v4), some (.int u0), none, none, none]) (st1 := []) (mem1 := m2) rfl ?_
    refine it_V.ite (fun c4 => ?_) (fun c4 => ?_)
    · have h := h.1 c4
      refine it_V.weak (l := [some (.ref 58), none, some (.int v2), none, none, none, none, none, none]) ⟨rfl, ⟨rfl, trivial⟩⟩ ?_
      exact s_121_55 kc Φ v2 m2 h
    · have h := h.2 c4
      refine it_V.sN it_cd121 it_m121 3 (pc1 := (if v4 = (2 : Int32) then 45 else 62)) (ls1 := [some (.ref 58), some (.ref v1), some (.int v2), some (.int v3), some (.int v4), some (.int u0), none, none, none]) (st1 := []) (mem1 := m2) rfl ?_
      refine it_V.ite (fun c5 => ?_) (fun c5 => ?_)
      · have h := h.1 c5
        refine it_V.sN it_cd121 it_m121 6 (pc1 := (if ((it_us v2 (20 : Int32)) &&& (31 : Int32)) = 0 then 62 else 55)) (ls1 := [some (.ref 58), some (.ref v1), some (.int v2), some (.int v3), some (.int v4), some (.int u0), none, none, none]) (st1 := []) (mem1 := m2) rfl ?_
        refine it_V.ite (fun c6 => ?_) (fun c6 => ?_)
        · have h := h.1 c6
          refine it_V.weak (l := [some (.ref 58), some (.ref v1), some (.int v2), some (.int v3), some (.int v4), none, none, none, none]) ⟨rfl, ⟨rfl, ⟨rfl, ⟨rfl, ⟨rfl, trivial⟩⟩⟩⟩⟩ ?_
          exact s_121_62 kc Φ v1 v2 v3 v4 (hv1) m2 h
        · have h := h.2 c6
          refine it_V.weak (l := [some (.ref 58), none, some (.int v2), none, none, none, none, none, none]) ⟨rfl, ⟨rfl, trivial⟩⟩ ?_
          exact s_121_55 kc Φ v2 m2 h
      · have h := h.2 c5
        refine it_V.weak (l := [some (.ref 58), some (.ref v1), some (.int v2), some (.int v3), some (.int v4), none, none, none, none]) ⟨rfl, ⟨rfl, ⟨rfl, ⟨rfl, ⟨rfl, trivial⟩⟩⟩⟩⟩ ?_
        exact s_121_62 kc Φ v1 v2 v3 v4 (hv1) m2 h
  · have h := h.2 c3
    refine it_V.weak (l := [some (.ref 58), none, some (.int v2), none, none, none, none, none, none]) ⟨rfl, ⟨rfl, trivial⟩⟩ ?_
    exact s_121_55 kc Φ v2 m2 h
set_option maxRecDepth 100000 in
set_option maxHeartbeats 4000000 in
theorem s_121_19 (kc : it_Kc) (Φ : Int32 → it_Me → Prop) (v1 : Nat) (v2 : Int32) (v3 : Int32) (v4 : Int32) (hv1 : it_isP v1) (m : it_Me) (h : w_121_19 kc Φ v1 v2 v3 v4 m) : it_V kc it_sh0 121 19 [some (.ref 58), some (.ref v1), some (.int v2), some (.int v3), some (.int v4), none, none, none, none] [] m (it_Pi Φ) := by
  rw [w_121_19] at h
  refine it_V.sN it_cd121 it_m121 2 (pc1 := 24) (ls1 := [some (.ref 58), some (.ref v1), some (.int v2), some (.int v3), some (.int v4), none, none, none, none]) (st1 := [(.int (1 : Int32))]) (mem1 := m) rfl ?_
  refine it_V.weak (l := [some (.ref 58), some (.ref v1), some (.int v2), some (.int v3), some (.int v4), none, none, none, none]) ⟨rfl, ⟨rfl, ⟨rfl, ⟨rfl, ⟨rfl, trivial⟩⟩⟩⟩⟩ ?_
  exact s_121_24 kc Φ v1 v2 v3 v4 (1 : Int32) (hv1) m h
set_option maxRecDepth 100000 in
set_option maxHeartbeats 4000000 in
theorem s_121 (kc : it_Kc) (x0 : Nat) (x1 : Int32) (x2 : Int32) (hx0 : it_isP x0) (m : it_Me) (Φ : Int32 → it_Me → Prop) (h : w_121 kc x0 x1 x2 m Φ) : it_V kc it_sh0 121 0 (it_loc0 [(.ref 58), (.ref x0), (.int x1), (.int x2)] 9) [] m (it_Pi Φ) := by
  rw [w_121] at h
  refine it_V.at (pc1 := 0) (ls1 := [some (.ref 58), some (.ref x0), some (.int x1), some (.int x2), none, none, none, none, none]) (st1 := []) (mem1 := m) rfl rfl rfl rfl ?_
  refine it_V.sN it_cd121 it_m121 7 (pc1 := (if (it_us x1 (27 : Int32)) < (4 : Int32) then 19 else 12)) (ls1 := [some (.ref 58), some (.ref x0), some (.int x1), some (.int x2), some (.int (it_us x1 (27 : Int32))), none, none, none, none]) (st1 := []) (mem1 := m) rfl ?_
  refine it_V.ite (fun c1 => ?_) (fun c1 => ?_)
  · have h := h.1 c1
    exact s_121_19 kc Φ x0 x1 x2 (it_us x1 (27 : Int32)) (hx0) m h
  · have h := h.2 c1
    refine it_V.sN it_cd121 it_m121 4 (pc1 := (if ((it_us x1 (27 : Int32)) &&& (3 : Int32)) = 0 then 19 else 23)) (ls1 := [some (.ref 58), some (.ref x0), some (.int x1), some (.int x2), some (.int (it_us x1 (27 : Int32))), none, none, none, none]) (st1 := []) (mem1 := m) rfl ?_
    refine it_V.ite (fun c2 => ?_) (fun c2 => ?_)
    · have h := h.1 c2
      exact s_121_19 kc Φ x0 x1 x2 (it_us x1 (27 : Int32)) (hx0) m h
    · have h := h.2 c2
      refine it_V.sN it_cd121 it_m121 1 (pc1 := 24) (ls1 := [some (.ref 58), some (.ref x0), some (.int x1), some (.int x2), some (.int (it_us x1 (27 : Int32))), none, none, none, none]) (st1 := [(.int (0 : Int32))]) (mem1 := m) rfl ?_
      exact s_121_24 kc Φ x0 x1 x2 (it_us x1 (27 : Int32)) (0 : Int32) (hx0) m h
set_option maxRecDepth 100000 in
set_option maxHeartbeats 4000000 in
theorem s_124 (kc : it_Kc) (x0 : Nat) (x1 : Int32) (x2 : Int32) (hx0 : it_isP x0) (m : it_Me) (Φ : Int32 → it_Me → Prop) (h : w_124 kc x0 x1 x2 m Φ) : it_V kc it_sh0 124 0 (it_loc0 [(.ref 58), (.ref x0), (.int x1), (.int x2)] 4) [] m (it_Pi Φ) := by
  rw [w_124] at h
  refine it_V.at (pc1 := 0) (ls1 := [some (.ref 58), some (.ref x0), some (.int x1), some (.int x2)]) (st1 := []) (mem1 := m) rfl rfl rfl rfl ?_
  refine it_V.sN it_cd124 it_m124 1 (pc1 := 1) (ls1 := [some (.ref 58), some (.ref x0), some (.int x1), some (.int x2)]) (st1 := [(.int x1)]) (mem1 := m) rfl ?_
  refine it_V.call it_cd124 it_m124 rfl it_m108 [(.int x1)] [] rfl rfl ⟨Nat.le_of_ble_eq_true rfl, Nat.le_of_ble_eq_true rfl, Nat.le_of_ble_eq_true rfl, Nat.le_of_ble_eq_true rfl, rfl⟩ (s_108 kc x1 m _ h) ?_
  rintro _ m2 ⟨r1, rfl, h⟩
  refine it_V.at (pc1 := 4) (ls1 := [some (.ref 58), some (.ref x0), some (.int x1), some (.int x2)]) (st1 := [(.int r1)]) (mem1 := m2) rfl rfl rfl rfl ?_
  refine it_V.sN it_cd124 it_m124 2 (pc1 := (if r1 ≤ (1 : Int32) then 15 else 8)) (ls1 := [some (.ref 58), some (.ref x0), some (.int x1), some (.int x2)]) (st1 := []) (mem1 := m2) rfl ?_
  refine it_V.ite (fun c3 => ?_) (fun c3 => ?_)
  · have h := h.1 c3
    refine it_V.sN it_cd124 it_m124 2 (pc1 := 17) (ls1 := [some (.ref 58), some (.ref x0), some (.int x1), some (.int x2)]) (st1 := [(.int x2), (.ref x0)]) (mem1 := m2) rfl ?_
    refine it_V.putP it_cd124 it_m124 rfl (hx0).1 rfl rfl rfl (Or.inl rfl) ?_
    refine it_V.at (pc1 := 20) (ls1 := [some (.ref 58), some (.ref x0), some (.int x1), some (.int x2)]) (st1 := []) (mem1 := (it_sv m2 x0 3 x2)) rfl rfl rfl rfl ?_
    refine it_V.sN it_cd124 it_m124 1 (pc1 := 21) (ls1 := [some (.ref 58), some (.ref x0), some (.int x1), some (.int x2)]) (st1 := [(.int (0 : Int32))]) (mem1 := (it_sv m2 x0 3 x2)) rfl ?_
    exact it_V.ret it_cd124 it_m124 rfl rfl ⟨_, rfl, h⟩
  · have h := h.2 c3
    refine it_V.sN it_cd124 it_m124 3 (pc1 := 11) (ls1 := [some (.ref 58), some (.ref x0), some (.int x1), some (.int x2)]) (st1 := [(.int x1), (.int (2 : Int32)), (.ref 58)]) (mem1 := m2) rfl ?_
    refine it_V.call it_cd124 it_m124 rfl it_m105 [(.ref 58), (.int (2 : Int32)), (.int x1)] [] rfl rfl ⟨Nat.le_of_ble_eq_true rfl, Nat.le_of_ble_eq_true rfl, Nat.le_of_ble_eq_true rfl, Nat.le_of_ble_eq_true rfl, rfl⟩ (s_105 kc (2 : Int32) x1 m2 _ h) ?_
    rintro _ m5 ⟨r4, rfl, h⟩
    refine it_V.at (pc1 := 14) (ls1 := [some (.ref 58), some (.ref x0), some (.int x1), some (.int x2)]) (st1 := [(.int r4)]) (mem1 := m5) rfl rfl rfl rfl ?_
    exact it_V.ret it_cd124 it_m124 rfl rfl ⟨_, rfl, h⟩
set_option maxRecDepth 100000 in
set_option maxHeartbeats 4000000 in
theorem s_125_37 (kc : it_Kc) (Φ : Int32 → it_Me → Prop) (u0 : Int32) (m : it_Me) (h : w_125_37 kc Φ u0 m) : it_V kc it_sh0 125 37 [none, none, none, none] [(.int u0)] m (it_Pi Φ) := by
  rw [w_125_37] at h
  exact it_V.ret it_cd125 it_m125 rfl rfl ⟨_, rfl, h⟩
set_option maxRecDepth 100000 in
set_option maxHeartbeats 4000000 in
theorem s_125 (kc : it_Kc) (x0 : Nat) (x1 : Int32) (x2 : Int32) (hx0 : it_isP x0) (m : it_Me) (Φ : Int32 → it_Me → Prop) (h : w_125 kc x0 x1 x2 m Φ) : it_V kc it_sh0 125 0 (it_loc0 [(.ref 58), (.ref x0), (.int x1), (.int x2)] 4) [] m (it_Pi Φ) := by
  rw [w_125] at h
  refine it_V.at (pc1 := 0) (ls1 := [some (.ref 58), some (.ref x0), some (.int x1), some (.int x2)]) (st1 := []) (mem1 := m) rfl rfl rfl rfl ?_
  refine it_V.sN it_cd125 it_m125 3 (pc1 := (if x1 = (115 : Int32) then 6 else 13)) (ls1 := [some (.ref 58), some (.ref x0), some (.int x1), some (.int x2)]) (st1 := []) (mem1 := m) rfl ?_
  refine it_V.ite (fun c1 => ?_) (fun c1 => ?_)
  · have h := h.1 c1
    refine it_V.sN it_cd125 it_m125 2 (pc1 := 8) (ls1 := [some (.ref 58), some (.ref x0), some (.int x1), some (.int x2)]) (st1 := [(.int x2), (.ref x0)]) (mem1 := m) rfl ?_
    refine it_V.putP it_cd125 it_m125 rfl (hx0).1 rfl rfl rfl (Or.inl rfl) ?_
    refine it_V.at (pc1 := 11) (ls1 := [some (.ref 58), some (.ref x0), some (.int x1), some (.int x2)]) (st1 := []) (mem1 := (it_sv m x0 3 x2)) rfl rfl rfl rfl ?_
    refine it_V.sN it_cd125 it_m125 1 (pc1 := 12) (ls1 := [some (.ref 58), some (.ref x0), some (.int x1), some (.int x2)]) (st1 := [(.int (1 : Int32))]) (mem1 := (it_sv m x0 3 x2)) rfl ?_
    exact it_V.ret it_cd125 it_m125 rfl rfl ⟨_, rfl, h⟩
  · have h := h.2 c1
    refine it_V.sN it_cd125 it_m125 3 (pc1 := (if x1 = (1048691 : Int32) then 19 else 31)) (ls1 := [some (.ref 58), some (.ref x0), some (.int x1), some (.int x2)]) (st1 := []) (mem1 := m) rfl ?_
    refine it_V.ite (fun c2 => ?_) (fun c2 => ?_)
    · have h := h.1 c2
      refine it_V.sN it_cd125 it_m125 3 (pc1 := 22) (ls1 := [some (.ref 58), some (.ref x0), some (.int x1), some (.int x2)]) (st1 := [(.ref x0), (.int (3 : Int32)), (.ref 58)]) (mem1 := m) rfl ?_
      refine it_V.getP it_cd125 it_m125 rfl (hx0).1 rfl ?_
      refine it_V.at (pc1 := 25) (ls1 := [some (.ref 58), some (.ref x0), some (.int x1), some (.int x2)]) (st1 := [(.int (m x0 3)), (.int (3 : Int32)), (.ref 58)]) (mem1 := m) rfl rfl rfl rfl ?_
      refine it_V.call it_cd125 it_m125 rfl it_m105 [(.ref 58), (.int (3 : Int32)), (.int (m x0 3))] [] rfl rfl ⟨Nat.le_of_ble_eq_true rfl, Nat.le_of_ble_eq_true rfl, Nat.le_of_ble_eq_true rfl, Nat.le_of_ble_eq_true rfl, rfl⟩ (s_105 kc (3 : Int32) (m x0 3) m _ h) ?_
      rintro _ m4 ⟨r3, rfl, h⟩
      refine it_V.at (pc1 := 28) (ls1 := [some (.ref 58), some (.ref x0), some (.int x1), some (.int x2)]) (st1 := [(.int r3)]) (mem1 := m4) rfl rfl rfl rfl ?_
      refine it_V.sN it_cd125 it_m125 1 (pc1 := 37) (ls1 := [some (.ref 58), some (.ref x0), some (.int x1), some (.int x2)]) (st1 := [(.int r3)]) (mem1 := m4) rfl ?_
      refine it_V.weak (l := [none, none, none, none]) trivial ?_
      exact s_125_37 kc Φ r3 m4 h
    · have h := h.2 c2
      refine it_V.sN it_cd125 it_m125 3 (pc1 := 34) (ls1 := [some (.ref 58), some (.ref x0), some (.int x1), some (.int x2)]) (st1 := [(.int x1), (.int (2 : Int32)), (.ref 58)]) (mem1 := m) rfl ?_
      refine it_V.call it_cd125 it_m125 rfl it_m105 [(.ref 58), (.int (2 : Int32)), (.int x1)] [] rfl rfl ⟨Nat.le_of_ble_eq_true rfl, Nat.le_of_ble_eq_true rfl, Nat.le_of_ble_eq_true rfl, Nat.le_of_ble_eq_true rfl, rfl⟩ (s_105 kc (2 : Int32) x1 m _ h) ?_
      rintro _ m6 ⟨r5, rfl, h⟩
      refine it_V.at (pc1 := 37) (ls1 := [some (.ref 58), some (.ref x0), some (.int x1), some (.int x2)]) (st1 := [(.int r5)]) (mem1 := m6) rfl rfl rfl rfl ?_
      refine it_V.weak (l := [none, none, none, none]) trivial ?_
      exact s_125_37 kc Φ r5 m6 h
set_option maxRecDepth 100000 in
set_option maxHeartbeats 4000000 in
theorem s_106 (kc : it_Kc) (x0 : Nat) (x1 : Int32) (x2 : Int32) (hx0 : it_isP x0) (m : it_Me) (Φ : Int32 → it_Me → Prop) (h : w_106 kc x0 x1 x2 m Φ) : it_V kc it_sh0 106 0 (it_loc0 [(.ref 58), (.ref x0), (.int x1), (.int x2)] 4) [] m (it_Pi Φ) := by
  rw [w_106] at h
  refine it_V.at (pc1 := 0) (ls1 := [some (.ref 58), some (.ref x0), some (.int x1), some (.int x2)]) (st1 := []) (mem1 := m) rfl rfl rfl rfl ?_
  refine it_V.sN it_cd106 it_m106 3 (pc1 := 4) (ls1 := [some (.ref 58), some (.ref x0), some (.int x1), some (.int x2)]) (st1 := [(.int (x1 &&& (127 : Int32)))]) (mem1 := m) rfl ?_
  refine it_V.sN it_cd106 it_m106 1 (pc1 := (if (x1 &&& (127 : Int32)) = (3 : Int32) then 173 else (if (x1 &&& (127 : Int32)) = (15 : Int32) then 213 else (if (x1 &&& (127 : Int32)) = (19 : Int32) then 189 else (if (x1 &&& (127 : Int32)) = (23 : Int32) then 124 else (if (x1 &&& (127 : Int32)) = (35 : Int32) then 181 else (if (x1 &&& (127 : Int32)) = (47 : Int32) then 205 else (if (x1 &&& (127 : Int32)) = (51 : Int32) then 197 else (if (x1 &&& (127 : Int32)) = (55 : Int32) then 112 else (if (x1 &&& (127 : Int32)) = (99 : Int32) then 165 else (if (x1 &&& (127 : Int32)) = (103 : Int32) then 157 else (if (x1 &&& (127 : Int32)) = (111 : Int32) then 141 else (if (x1 &&& (127 : Int32)) = (115 : Int32) then 221 else 229))))))))))))) (ls1 := [some (.ref 58), some (.ref x0), some (.int x1), some (.int x2)]) (st1 := []) (mem1 := m) rfl ?_
  refine it_V.ite (fun c1 => ?_) (fun c1 => ?_)
  · have h := h.1 c1
    refine it_V.sN it_cd106 it_m106 4 (pc1 := 177) (ls1 := [some (.ref 58), some (.ref x0), some (.int x1), some (.int x2)]) (st1 := [(.int x2), (.int x1), (.ref x0), (.ref 58)]) (mem1 := m) rfl ?_
    refine it_V.call it_cd106 it_m106 rfl it_m115 [(.ref 58), (.ref x0), (.int x1), (.int x2)] [] rfl rfl ⟨Nat.le_of_ble_eq_true rfl, Nat.le_of_ble_eq_true rfl, Nat.le_of_ble_eq_true rfl, Nat.le_of_ble_eq_true rfl, rfl⟩ (s_115 kc x0 x1 x2 (hx0) m _ h) ?_
    rintro _ m3 ⟨r2, rfl, h⟩
    refine it_V.at (pc1 := 180) (ls1 := [some (.ref 58), some (.ref x0), some (.int x1), some (.int x2)]) (st1 := [(.int r2)]) (mem1 := m3) rfl rfl rfl rfl ?_
    exact it_V.ret it_cd106 it_m106 rfl rfl ⟨_, rfl, h⟩
  · have h := h.2 c1
    refine it_V.ite (fun c4 => ?_) (fun c4 => ?_)
    · have h := h.1 c4
      refine it_V.sN it_cd106 it_m106 4 (pc1 := 217) (ls1 := [some (.ref 58), some (.ref x0), some (.int x1), some (.int x2)]) (st1 := [(.int x2), (.int x1), (.ref x0), (.ref 58)]) (mem1 := m) rfl ?_
      refine it_V.call it_cd106 it_m106 rfl it_m124 [(.ref 58), (.ref x0), (.int x1), (.int x2)] [] rfl rfl ⟨Nat.le_of_ble_eq_true rfl, Nat.le_of_ble_eq_true rfl, Nat.le_of_ble_eq_true rfl, Nat.le_of_ble_eq_true rfl, rfl⟩ (s_124 kc x0 x1 x2 (hx0) m _ h) ?_
      rintro _ m6 ⟨r5, rfl, h⟩
      refine it_V.at (pc1 := 220) (ls1 := [some (.ref 58), some (.ref x0), some (.int x1), some (.int x2)]) (st1 := [(.int r5)]) (mem1 := m6) rfl rfl rfl rfl ?_
      exact it_V.ret it_cd106 it_m106 rfl rfl ⟨_, rfl, h⟩
    · have h := h.2 c4
      refine it_V.ite (fun c7 => ?_) (fun c7 => ?_)
      · have h := h.1 c7
        refine it_V.sN it_cd106 it_m106 4 (pc1 := 193) (ls1 := [some (.ref 58), some (.ref x0), some (.int x1), some (.int x2)]) (st1 := [(.int x2), (.int x1), (.ref x0), (.ref 58)]) (mem1 := m) rfl ?_
        refine it_V.call it_cd106 it_m106 rfl it_m117 [(.ref 58), (.ref x0), (.int x1), (.int x2)] [] rfl rfl ⟨Nat.le_of_ble_eq_true rfl, Nat.le_of_ble_eq_true rfl, Nat.le_of_ble_eq_true rfl, Nat.le_of_ble_eq_true rfl, rfl⟩ (s_117 kc x0 x1 x2 (hx0) m _ h) ?_
        rintro _ m9 ⟨r8, rfl, h⟩
        refine it_V.at (pc1 := 196) (ls1 := [some (.ref 58), some (.ref x0), some (.int x1), some (.int x2)]) (st1 := [(.int r8)]) (mem1 := m9) rfl rfl rfl rfl ?_
        exact it_V.ret it_cd106 it_m106 rfl rfl ⟨_, rfl, h⟩
      · have h := h.2 c7
        refine it_V.ite (fun c10 => ?_) (fun c10 => ?_)
        · have h := h.1 c10
          refine it_V.sN it_cd106 it_m106 3 (pc1 := 127) (ls1 := [some (.ref 58), some (.ref x0), some (.int x1), some (.int x2)]) (st1 := [(.ref x0), (.int x1), (.ref x0)]) (mem1 := m) rfl ?_
          refine it_V.getP it_cd106 it_m106 rfl (hx0).1 rfl ?_
          refine it_V.at (pc1 := 130) (ls1 := [some (.ref 58), some (.ref x0), some (.int x1), some (.int x2)]) (st1 := [(.int (m x0 3)), (.int x1), (.ref x0)]) (mem1 := m) rfl rfl rfl rfl ?_
          refine it_V.sN it_cd106 it_m106 5 (pc1 := 137) (ls1 := [some (.ref 58), some (.ref x0), some (.int x1), some (.int x2)]) (st1 := [(.int x2), (.int ((m x0 3) + (x1 &&& (-4096 : Int32)))), (.int x1), (.ref x0)]) (mem1 := m) rfl ?_
          refine it_V.call it_cd106 it_m106 rfl it_m107 [(.ref x0), (.int x1), (.int ((m x0 3) + (x1 &&& (-4096 : Int32)))), (.int x2)] [] rfl rfl ⟨Nat.le_of_ble_eq_true rfl, Nat.le_of_ble_eq_true rfl, Nat.le_of_ble_eq_true rfl, Nat.le_of_ble_eq_true rfl, rfl⟩ (s_107 kc x0 x1 ((m x0 3) + (x1 &&& (-4096 : Int32))) x2 (hx0) m _ h) ?_
          rintro _ m12 ⟨r11, rfl, h⟩
          refine it_V.at (pc1 := 140) (ls1 := [some (.ref 58), some (.ref x0), some (.int x1), some (.int x2)]) (st1 := [(.int r11)]) (mem1 := m12) rfl rfl rfl rfl ?_
          exact it_V.ret it_cd106 it_m106 rfl rfl ⟨_, rfl, h⟩
        · have h := h.2 c10
          refine it_V.ite (fun c13 => ?_) (fun c13 => ?_)
          · have h := h.1 c13
            refine it_V.sN it_cd106 it_m106 4 (pc1 := 185) (ls1 := [some (.ref 58), some (.ref x0), some (.int x1), some (.int x2)]) (st1 := [(.int x2), (.int x1), (.ref x0), (.ref 58)]) (mem1 := m) rfl ?_
            refine it_V.call it_cd106 it_m106 rfl it_m116 [(.ref 58), (.ref x0), (.int x1), (.int x2)] [] rfl rfl ⟨Nat.le_of_ble_eq_true rfl, Nat.le_of_ble_eq_true rfl, Nat.le_of_ble_eq_true rfl, Nat.le_of_ble_eq_true rfl, rfl⟩ (s_116 kc x0 x1 x2 (hx0) m _ h) ?_
            rintro _ m15 ⟨r14, rfl, h⟩
            refine it_V.at (pc1 := 188) (ls1 := [some (.ref 58), some (.ref x0), some (.int x1), some (.int x2)]) (st1 := [(.int r14)]) (mem1 := m15) rfl rfl rfl rfl ?_
            exact it_V.ret it_cd106 it_m106 rfl rfl ⟨_, rfl, h⟩
          · have h := h.2 c13
            refine it_V.ite (fun c16 => ?_) (fun c16 => ?_)
            · have h := h.1 c16
              refine it_V.sN it_cd106 it_m106 4 (pc1 := 209) (ls1 := [some (.ref 58), some (.ref x0), some (.int x1), some (.int x2)]) (st1 := [(.int x2), (.int x1), (.ref x0), (.ref 58)]) (mem1 := m) rfl ?_
              refine it_V.call it_cd106 it_m106 rfl it_m121 [(.ref 58), (.ref x0), (.int x1), (.int x2)] [] rfl rfl ⟨Nat.le_of_ble_eq_true rfl, Nat.le_of_ble_eq_true rfl, Nat.le_of_ble_eq_true rfl, Nat.le_of_ble_eq_true rfl, rfl⟩ (s_121 kc x0 x1 x2 (hx0) m _ h) ?_
              rintro _ m18 ⟨r17, rfl, h⟩
              refine it_V.at (pc1 := 212) (ls1 := [some (.ref 58), some (.ref x0), some (.int x1), some (.int x2)]) (st1 := [(.int r17)]) (mem1 := m18) rfl rfl rfl rfl ?_
              exact it_V.ret it_cd106 it_m106 rfl rfl ⟨_, rfl, h⟩
            · have h := h.2 c16
              refine it_V.ite (fun c19 => ?_) (fun c19 => ?_)
              · have h := h.1 c19
                refine it_V.sN it_cd106 it_m106 4 (pc1 := 201) (ls1 := [some (.ref 58), some (.ref x0), some (.int x1), some (.int x2)]) (st1 := [(.int x2), (.int x1), (.ref x0), (.ref 58)]) (mem1 := m) rfl ?_
                refine it_V.call it_cd106 it_m106 rfl it_m118 [(.ref 58), (.ref x0), (.int x1), (.int x2)] [] rfl rfl ⟨Nat.le_of_ble_eq_true rfl, Nat.le_of_ble_eq_true rfl, Nat.le_of_ble_eq_true rfl, Nat.le_of_ble_eq_true rfl, rfl⟩ (s_118 kc x0 x1 x2 (hx0) m _ h) ?_
                rintro _ m21 ⟨r20, rfl, h⟩
                refine it_V.at (pc1 := 204) (ls1 := [some (.ref 58), some (.ref x0), some (.int x1), some (.int x2)]) (st1 := [(.int r20)]) (mem1 := m21) rfl rfl rfl rfl ?_
                exact it_V.ret it_cd106 it_m106 rfl rfl ⟨_, rfl, h⟩
              · have h := h.2 c19
                refine it_V.ite (fun c22 => ?_) (fun c22 => ?_)
                · have h := h.1 c22
                  refine it_V.sN it_cd106 it_m106 6 (pc1 := 120) (ls1 := [some (.ref 58), some (.ref x0), some (.int x1), some (.int x2)]) (st1 := [(.int x2), (.int (x1 &&& (-4096 : Int32))), (.int x1), (.ref x0)]) (mem1 := m) rfl ?_
                  refine it_V.call it_cd106 it_m106 rfl it_m107 [(.ref x0), (.int x1), (.int (x1 &&& (-4096 : Int32))), (.int x2)] [] rfl rfl ⟨Nat.le_of_ble_eq_true rfl, Nat.le_of_ble_eq_true rfl, Nat.le_of_ble_eq_true rfl, Nat.le_of_ble_eq_true rfl, rfl⟩ (s_107 kc x0 x1 (x1 &&& (-4096 : Int32)) x2 (hx0) m _ h) ?_
                  rintro _ m24 ⟨r23, rfl, h⟩
                  refine it_V.at (pc1 := 123) (ls1 := [some (.ref 58), some (.ref x0), some (.int x1), some (.int x2)]) (st1 := [(.int r23)]) (mem1 := m24) rfl rfl rfl rfl ?_
                  exact it_V.ret it_cd106 it_m106 rfl rfl ⟨_, rfl, h⟩
                · have h := h.2 c22
                  refine it_V.ite (fun c25 => ?_) (fun c25 => ?_)
                  · have h := h.1 c25
                    refine it_V.sN it_cd106 it_m106 4 (pc1 := 169) (ls1 := [some (.ref 58), some (.ref x0), some (.int x1), some (.int x2)]) (st1 := [(.int x2), (.int x1), (.ref x0), (.ref 58)]) (mem1 := m) rfl ?_
                    refine it_V.call it_cd106 it_m106 rfl it_m114 [(.ref 58), (.ref x0), (.int x1), (.int x2)] [] rfl rfl ⟨Nat.le_of_ble_eq_true rfl, Nat.le_of_ble_eq_true rfl, Nat.le_of_ble_eq_true rfl, Nat.le_of_ble_eq_true rfl, rfl⟩ (s_114 kc x0 x1 x2 (hx0) m _ h) ?_
                    rintro _ m27 ⟨r26, rfl, h⟩
                    refine it_V.at (pc1 := 172) (ls1 := [some (.ref 58), some (.ref x0), some (.int x1), some (.int x2)]) (st1 := [(.int r26)]) (mem1 := m27) rfl rfl rfl rfl ?_
                    exact it_V.ret it_cd106 it_m106 rfl rfl ⟨_, rfl, h⟩
                  · have h := h.2 c25
                    refine it_V.ite (fun c28 => ?_) (fun c28 => ?_)
                    · have h := h.1 c28
                      refine it_V.sN it_cd106 it_m106 4 (pc1 := 161) (ls1 := [some (.ref 58), some (.ref x0), some (.int x1), some (.int x2)]) (st1 := [(.int x2), (.int x1), (.ref x0), (.ref 58)]) (mem1 := m) rfl ?_
                      refine it_V.call it_cd106 it_m106 rfl it_m113 [(.ref 58), (.ref x0), (.int x1), (.int x2)] [] rfl rfl ⟨Nat.le_of_ble_eq_true rfl, Nat.le_of_ble_eq_true rfl, Nat.le_of_ble_eq_true rfl, Nat.le_of_ble_eq_true rfl, rfl⟩ (s_113 kc x0 x1 x2 (hx0) m _ h) ?_
                      rintro _ m30 ⟨r29, rfl, h⟩
                      refine it_V.at (pc1 := 164) (ls1 := [some (.ref 58), some (.ref x0), some (.int x1), some (.int x2)]) (st1 := [(.int r29)]) (mem1 := m30) rfl rfl rfl rfl ?_
                      exact it_V.ret it_cd106 it_m106 rfl rfl ⟨_, rfl, h⟩
                    · have h := h.2 c28
                      refine it_V.ite (fun c31 => ?_) (fun c31 => ?_)
                      · have h := h.1 c31
                        refine it_V.sN it_cd106 it_m106 4 (pc1 := 145) (ls1 := [some (.ref 58), some (.ref x0), some (.int x1), some (.int x2)]) (st1 := [(.ref x0), (.int x2), (.int x1), (.ref x0)]) (mem1 := m) rfl ?_
                        refine it_V.getP it_cd106 it_m106 rfl (hx0).1 rfl ?_
                        refine it_V.at (pc1 := 148) (ls1 := [some (.ref 58), some (.ref x0), some (.int x1), some (.int x2)]) (st1 := [(.int (m x0 3)), (.int x2), (.int x1), (.ref x0)]) (mem1 := m) rfl rfl rfl rfl ?_
                        refine it_V.sN it_cd106 it_m106 1 (pc1 := 149) (ls1 := [some (.ref 58), some (.ref x0), some (.int x1), some (.int x2)]) (st1 := [(.int x1), (.int (m x0 3)), (.int x2), (.int x1), (.ref x0)]) (mem1 := m) rfl ?_
                        refine it_V.call it_cd106 it_m106 rfl it_m111 [(.int x1)] [(.int (m x0 3)), (.int x2), (.int x1), (.ref x0)] rfl rfl ⟨Nat.le_of_ble_eq_true rfl, Nat.le_of_ble_eq_true rfl, Nat.le_of_ble_eq_true rfl, Nat.le_of_ble_eq_true rfl, rfl⟩ (s_111 kc x1 m _ h) ?_
                        rintro _ m33 ⟨r32, rfl, h⟩
                        refine it_V.at (pc1 := 152) (ls1 := [some (.ref 58), some (.ref x0), some (.int x1), some (.int x2)]) (st1 := [(.int r32), (.int (m x0 3)), (.int x2), (.int x1), (.ref x0)]) (mem1 := m33) rfl rfl rfl rfl ?_
                        refine it_V.sN it_cd106 it_m106 1 (pc1 := 153) (ls1 := [some (.ref 58), some (.ref x0), some (.int x1), some (.int x2)]) (st1 := [(.int ((m x0 3) + r32)), (.int x2), (.int x1), (.ref x0)]) (mem1 := m33) rfl ?_
                        refine it_V.call it_cd106 it_m106 rfl it_m107 [(.ref x0), (.int x1), (.int x2), (.int ((m x0 3) + r32))] [] rfl rfl ⟨Nat.le_of_ble_eq_true rfl, Nat.le_of_ble_eq_true rfl, Nat.le_of_ble_eq_true rfl, Nat.le_of_ble_eq_true rfl, rfl⟩ (s_107 kc x0 x1 x2 ((m x0 3) + r32) (hx0) m33 _ h) ?_
                        rintro _ m35 ⟨r34, rfl, h⟩
                        refine it_V.at (pc1 := 156) (ls1 := [some (.ref 58), some (.ref x0), some (.int x1), some (.int x2)]) (st1 := [(.int r34)]) (mem1 := m35) rfl rfl rfl rfl ?_
                        exact it_V.ret it_cd106 it_m106 rfl rfl ⟨_, rfl, h⟩
                      · have h := h.2 c31
                        refine it_V.ite (fun c36 => ?_) (fun c36 => ?_)
                        · have h := h.1 c36
                          refine it_V.sN it_cd106 it_m106 4 (pc1 := 225) (ls1 := [some (.ref 58), some (.ref x0), some (.int x1), some (.int x2)]) (st1 := [(.int x2), (.int x1), (.ref x0), (.ref 58)]) (mem1 := m) rfl ?_
                          refine it_V.call it_cd106 it_m106 rfl it_m125 [(.ref 58), (.ref x0), (.int x1), (.int x2)] [] rfl rfl ⟨Nat.le_of_ble_eq_true rfl, Nat.le_of_ble_eq_true rfl, Nat.le_of_ble_eq_true rfl, Nat.le_of_ble_eq_true rfl, rfl⟩ (s_125 kc x0 x1 x2 (hx0) m _ h) ?_
                          rintro _ m38 ⟨r37, rfl, h⟩
                          refine it_V.at (pc1 := 228) (ls1 := [some (.ref 58), some (.ref x0), some (.int x1), some (.int x2)]) (st1 := [(.int r37)]) (mem1 := m38) rfl rfl rfl rfl ?_
                          exact it_V.ret it_cd106 it_m106 rfl rfl ⟨_, rfl, h⟩
                        · have h := h.2 c36
                          refine it_V.sN it_cd106 it_m106 3 (pc1 := 232) (ls1 := [some (.ref 58), some (.ref x0), some (.int x1), some (.int x2)]) (st1 := [(.int x1), (.int (2 : Int32)), (.ref 58)]) (mem1 := m) rfl ?_
                          refine it_V.call it_cd106 it_m106 rfl it_m105 [(.ref 58), (.int (2 : Int32)), (.int x1)] [] rfl rfl ⟨Nat.le_of_ble_eq_true rfl, Nat.le_of_ble_eq_true rfl, Nat.le_of_ble_eq_true rfl, Nat.le_of_ble_eq_true rfl, rfl⟩ (s_105 kc (2 : Int32) x1 m _ h) ?_
                          rintro _ m40 ⟨r39, rfl, h⟩
                          refine it_V.at (pc1 := 235) (ls1 := [some (.ref 58), some (.ref x0), some (.int x1), some (.int x2)]) (st1 := [(.int r39)]) (mem1 := m40) rfl rfl rfl rfl ?_
                          exact it_V.ret it_cd106 it_m106 rfl rfl ⟨_, rfl, h⟩
set_option maxRecDepth 100000 in
set_option maxHeartbeats 4000000 in
theorem s_104_66 (kc : it_Kc) (Φ : Int32 → it_Me → Prop) (u0 : Int32) (m : it_Me) (h : w_104_66 kc Φ u0 m) : it_V kc it_sh0 104 66 [none, none, none, none, none] [(.int u0)] m (it_Pi Φ) := by
  rw [w_104_66] at h
  exact it_V.ret it_cd104 it_m104 rfl rfl ⟨_, rfl, h⟩
set_option maxRecDepth 100000 in
set_option maxHeartbeats 4000000 in
theorem s_104 (kc : it_Kc) (x0 : Nat) (hx0 : it_isP x0) (m : it_Me) (Φ : Int32 → it_Me → Prop) (h : w_104 kc x0 m Φ) : it_V kc it_sh0 104 0 (it_loc0 [(.ref 58), (.ref x0)] 5) [] m (it_Pi Φ) := by
  rw [w_104] at h
  refine it_V.at (pc1 := 0) (ls1 := [some (.ref 58), some (.ref x0), none, none, none]) (st1 := []) (mem1 := m) rfl rfl rfl rfl ?_
  refine it_V.sN it_cd104 it_m104 1 (pc1 := 1) (ls1 := [some (.ref 58), some (.ref x0), none, none, none]) (st1 := [(.ref x0)]) (mem1 := m) rfl ?_
  refine it_V.getP it_cd104 it_m104 rfl (hx0).1 rfl ?_
  refine it_V.at (pc1 := 4) (ls1 := [some (.ref 58), some (.ref x0), none, none, none]) (st1 := [(.int (m x0 3))]) (mem1 := m) rfl rfl rfl rfl ?_
  refine it_V.sN it_cd104 it_m104 3 (pc1 := 7) (ls1 := [some (.ref 58), some (.ref x0), some (.int (m x0 3)), none, none]) (st1 := [(.int (m x0 3)), (.ref x0)]) (mem1 := m) rfl ?_
  refine it_V.call it_cd104 it_m104 rfl it_m133 [(.ref x0), (.int (m x0 3))] [] rfl rfl ⟨Nat.le_of_ble_eq_true rfl, Nat.le_of_ble_eq_true rfl, Nat.le_of_ble_eq_true rfl, Nat.le_of_ble_eq_true rfl, (it_recvP (hx0).1)⟩ (s_133 kc x0 (m x0 3) (hx0) m _ h) ?_
  rintro _ m2 ⟨r1, rfl, h⟩
  refine it_V.at (pc1 := 10) (ls1 := [some (.ref 58), some (.ref x0), some (.int (m x0 3)), none, none]) (st1 := [(.int r1)]) (mem1 := m2) rfl rfl rfl rfl ?_
  refine it_V.sN it_cd104 it_m104 1 (pc1 := (if r1 = 0 then 13 else 20)) (ls1 := [some (.ref 58), some (.ref x0), some (.int (m x0 3)), none, none]) (st1 := []) (mem1 := m2) rfl ?_
  refine it_V.ite (fun c3 => ?_) (fun c3 => ?_)
  · have h := h.1 c3
    refine it_V.sN it_cd104 it_m104 3 (pc1 := 16) (ls1 := [some (.ref 58), some (.ref x0), some (.int (m x0 3)), none, none]) (st1 := [(.int (m x0 3)), (.int (1 : Int32)), (.ref 58)]) (mem1 := m2) rfl ?_
    refine it_V.call it_cd104 it_m104 rfl it_m105 [(.ref 58), (.int (1 : Int32)), (.int (m x0 3))] [] rfl rfl ⟨Nat.le_of_ble_eq_true rfl, Nat.le_of_ble_eq_true rfl, Nat.le_of_ble_eq_true rfl, Nat.le_of_ble_eq_true rfl, rfl⟩ (s_105 kc (1 : Int32) (m x0 3) m2 _ h) ?_
    rintro _ m5 ⟨r4, rfl, h⟩
    refine it_V.at (pc1 := 19) (ls1 := [some (.ref 58), some (.ref x0), some (.int (m x0 3)), none, none]) (st1 := [(.int r4)]) (mem1 := m5) rfl rfl rfl rfl ?_
    exact it_V.ret it_cd104 it_m104 rfl rfl ⟨_, rfl, h⟩
  · have h := h.2 c3
    refine it_V.sN it_cd104 it_m104 3 (pc1 := 25) (ls1 := [some (.ref 58), some (.ref x0), some (.int (m x0 3)), none, none]) (st1 := [(.int (m x0 3)), (.ref 1)]) (mem1 := m2) rfl ?_
    refine it_V.call it_cd104 it_m104 rfl it_m14 [(.ref 1), (.int (m x0 3))] [] rfl rfl ⟨Nat.le_of_ble_eq_true rfl, Nat.le_of_ble_eq_true rfl, Nat.le_of_ble_eq_true rfl, Nat.le_of_ble_eq_true rfl, rfl⟩ (s_14 kc (m x0 3) m2 _ h) ?_
    rintro _ m7 ⟨r6, rfl, h⟩
    refine it_V.at (pc1 := 28) (ls1 := [some (.ref 58), some (.ref x0), some (.int (m x0 3)), none, none]) (st1 := [(.int r6)]) (mem1 := m7) rfl rfl rfl rfl ?_
    refine it_V.sN it_cd104 it_m104 6 (pc1 := (if (r6 &&& (3 : Int32)) = (3 : Int32) then 67 else 36)) (ls1 := [some (.ref 58), some (.ref x0), some (.int (m x0 3)), some (.int r6), none]) (st1 := []) (mem1 := m7) rfl ?_
    refine it_V.ite (fun c8 => ?_) (fun c8 => ?_)
    · have h := h.1 c8
      refine it_V.sN it_cd104 it_m104 4 (pc1 := 71) (ls1 := [some (.ref 58), some (.ref x0), some (.int (m x0 3)), some (.int r6), none]) (st1 := [(.int ((m x0 3) + (2 : Int32))), (.ref x0)]) (mem1 := m7) rfl ?_
      refine it_V.call it_cd104 it_m104 rfl it_m133 [(.ref x0), (.int ((m x0 3) + (2 : Int32)))] [] rfl rfl ⟨Nat.le_of_ble_eq_true rfl, Nat.le_of_ble_eq_true rfl, Nat.le_of_ble_eq_true rfl, Nat.le_of_ble_eq_true rfl, (it_recvP (hx0).1)⟩ (s_133 kc x0 ((m x0 3) + (2 : Int32)) (hx0) m7 _ h) ?_
      rintro _ m10 ⟨r9, rfl, h⟩
      refine it_V.at (pc1 := 74) (ls1 := [some (.ref 58), some (.ref x0), some (.int (m x0 3)), some (.int r6), none]) (st1 := [(.int r9)]) (mem1 := m10) rfl rfl rfl rfl ?_
      refine it_V.sN it_cd104 it_m104 1 (pc1 := (if r9 = 0 then 77 else 86)) (ls1 := [some (.ref 58), some (.ref x0), some (.int (m x0 3)), some (.int r6), none]) (st1 := []) (mem1 := m10) rfl ?_
      refine it_V.ite (fun c11 => ?_) (fun c11 => ?_)
      · have h := h.1 c11
        refine it_V.sN it_cd104 it_m104 5 (pc1 := 82) (ls1 := [some (.ref 58), some (.ref x0), some (.int (m x0 3)), some (.int r6), none]) (st1 := [(.int ((m x0 3) + (2 : Int32))), (.int (1 : Int32)), (.ref 58)]) (mem1 := m10) rfl ?_
        refine it_V.call it_cd104 it_m104 rfl it_m105 [(.ref 58), (.int (1 : Int32)), (.int ((m x0 3) + (2 : Int32)))] [] rfl rfl ⟨Nat.le_of_ble_eq_true rfl, Nat.le_of_ble_eq_true rfl, Nat.le_of_ble_eq_true rfl, Nat.le_of_ble_eq_true rfl, rfl⟩ (s_105 kc (1 : Int32) ((m x0 3) + (2 : Int32)) m10 _ h) ?_
        rintro _ m13 ⟨r12, rfl, h⟩
        refine it_V.at (pc1 := 85) (ls1 := [some (.ref 58), some (.ref x0), some (.int (m x0 3)), some (.int r6), none]) (st1 := [(.int r12)]) (mem1 := m13) rfl rfl rfl rfl ?_
        exact it_V.ret it_cd104 it_m104 rfl rfl ⟨_, rfl, h⟩
      · have h := h.2 c11
        refine it_V.sN it_cd104 it_m104 8 (pc1 := 96) (ls1 := [some (.ref 58), some (.ref x0), some (.int (m x0 3)), some (.int r6), none]) (st1 := [(.int ((m x0 3) + (2 : Int32))), (.ref 1), (.int r6), (.ref x0), (.ref 58)]) (mem1 := m10) rfl ?_
        refine it_V.call it_cd104 it_m104 rfl it_m14 [(.ref 1), (.int ((m x0 3) + (2 : Int32)))] [(.int r6), (.ref x0), (.ref 58)] rfl rfl ⟨Nat.le_of_ble_eq_true rfl, Nat.le_of_ble_eq_true rfl, Nat.le_of_ble_eq_true rfl, Nat.le_of_ble_eq_true rfl, rfl⟩ (s_14 kc ((m x0 3) + (2 : Int32)) m10 _ h) ?_
        rintro _ m15 ⟨r14, rfl, h⟩
        refine it_V.at (pc1 := 99) (ls1 := [some (.ref 58), some (.ref x0), some (.int (m x0 3)), some (.int r6), none]) (st1 := [(.int r14), (.int r6), (.ref x0), (.ref 58)]) (mem1 := m15) rfl rfl rfl rfl ?_
        refine it_V.sN it_cd104 it_m104 6 (pc1 := 106) (ls1 := [some (.ref 58), some (.ref x0), some (.int (m x0 3)), some (.int r6), none]) (st1 := [(.int ((m x0 3) + (4 : Int32))), (.int (r6 ||| (it_shl r14 (16 : Int32)))), (.ref x0), (.ref 58)]) (mem1 := m15) rfl ?_
        refine it_V.call it_cd104 it_m104 rfl it_m106 [(.ref 58), (.ref x0), (.int (r6 ||| (it_shl r14 (16 : Int32)))), (.int ((m x0 3) + (4 : Int32)))] [] rfl rfl ⟨Nat.le_of_ble_eq_true rfl, Nat.le_of_ble_eq_true rfl, Nat.le_of_ble_eq_true rfl, Nat.le_of_ble_eq_true rfl, rfl⟩ (s_106 kc x0 (r6 ||| (it_shl r14 (16 : Int32))) ((m x0 3) + (4 : Int32)) (hx0) m15 _ h) ?_
        rintro _ m17 ⟨r16, rfl, h⟩
        refine it_V.at (pc1 := 109) (ls1 := [some (.ref 58), some (.ref x0), some (.int (m x0 3)), some (.int r6), none]) (st1 := [(.int r16)]) (mem1 := m17) rfl rfl rfl rfl ?_
        exact it_V.ret it_cd104 it_m104 rfl rfl ⟨_, rfl, h⟩
    · have h := h.2 c8
      refine it_V.sN it_cd104 it_m104 1 (pc1 := 37) (ls1 := [some (.ref 58), some (.ref x0), some (.int (m x0 3)), some (.int r6), none]) (st1 := [(.int r6)]) (mem1 := m7) rfl ?_
      refine it_V.call it_cd104 it_m104 rfl it_m22 [(.int r6)] [] rfl rfl ⟨Nat.le_of_ble_eq_true rfl, Nat.le_of_ble_eq_true rfl, Nat.le_of_ble_eq_true rfl, Nat.le_of_ble_eq_true rfl, rfl⟩ (s_22 kc r6 m7 _ h) ?_
      rintro _ m19 ⟨r18, rfl, h⟩
      refine it_V.at (pc1 := 40) (ls1 := [some (.ref 58), some (.ref x0), some (.int (m x0 3)), some (.int r6), none]) (st1 := [(.int r18)]) (mem1 := m19) rfl rfl rfl rfl ?_
      refine it_V.sN it_cd104 it_m104 3 (pc1 := (if r18 = 0 then 47 else 56)) (ls1 := [some (.ref 58), some (.ref x0), some (.int (m x0 3)), some (.int r6), some (.int r18)]) (st1 := []) (mem1 := m19) rfl ?_
      refine it_V.ite (fun c20 => ?_) (fun c20 => ?_)
      · have h := h.1 c20
        refine it_V.sN it_cd104 it_m104 3 (pc1 := 50) (ls1 := [some (.ref 58), some (.ref x0), some (.int (m x0 3)), some (.int r6), some (.int r18)]) (st1 := [(.int r6), (.int (2 : Int32)), (.ref 58)]) (mem1 := m19) rfl ?_
        refine it_V.call it_cd104 it_m104 rfl it_m105 [(.ref 58), (.int (2 : Int32)), (.int r6)] [] rfl rfl ⟨Nat.le_of_ble_eq_true rfl, Nat.le_of_ble_eq_true rfl, Nat.le_of_ble_eq_true rfl, Nat.le_of_ble_eq_true rfl, rfl⟩ (s_105 kc (2 : Int32) r6 m19 _ h) ?_
        rintro _ m22 ⟨r21, rfl, h⟩
        refine it_V.at (pc1 := 53) (ls1 := [some (.ref 58), some (.ref x0), some (.int (m x0 3)), some (.int r6), some (.int r18)]) (st1 := [(.int r21)]) (mem1 := m22) rfl rfl rfl rfl ?_
        refine it_V.sN it_cd104 it_m104 1 (pc1 := 66) (ls1 := [some (.ref 58), some (.ref x0), some (.int (m x0 3)), some (.int r6), some (.int r18)]) (st1 := [(.int r21)]) (mem1 := m22) rfl ?_
        refine it_V.weak (l := [none, none, none, none, none]) trivial ?_
        exact s_104_66 kc Φ r21 m22 h
      · have h := h.2 c20
        refine it_V.sN it_cd104 it_m104 6 (pc1 := 63) (ls1 := [some (.ref 58), some (.ref x0), some (.int (m x0 3)), some (.int r6), some (.int r18)]) (st1 := [(.int ((m x0 3) + (2 : Int32))), (.int r18), (.ref x0), (.ref 58)]) (mem1 := m19) rfl ?_
        refine it_V.call it_cd104 it_m104 rfl it_m106 [(.ref 58), (.ref x0), (.int r18), (.int ((m x0 3) + (2 : Int32)))] [] rfl rfl ⟨Nat.le_of_ble_eq_true rfl, Nat.le_of_ble_eq_true rfl, Nat.le_of_ble_eq_true rfl, Nat.le_of_ble_eq_true rfl, rfl⟩ (s_106 kc x0 r18 ((m x0 3) + (2 : Int32)) (hx0) m19 _ h) ?_
        rintro _ m24 ⟨r23, rfl, h⟩
        refine it_V.at (pc1 := 66) (ls1 := [some (.ref 58), some (.ref x0), some (.int (m x0 3)), some (.int r6), some (.int r18)]) (st1 := [(.int r23)]) (mem1 := m24) rfl rfl rfl rfl ?_
        refine it_V.weak (l := [none, none, none, none, none]) trivial ?_
        exact s_104_66 kc Φ r23 m24 h
set_option maxRecDepth 100000 in
set_option maxHeartbeats 4000000 in
theorem s_130_20 (kc : it_Kc) (Φ : Int32 → it_Me → Prop) (u0 : Int32) (m : it_Me) (h : w_130_20 kc Φ u0 m) : it_V kc it_sh0 130 20 [none] [(.int u0)] m (it_Pi Φ) := by
  rw [w_130_20] at h
  exact it_V.retZ it_cd130 it_m130 rfl rfl h.1 ⟨_, rfl, h.2⟩
set_option maxRecDepth 100000 in
set_option maxHeartbeats 4000000 in
theorem s_130_19 (kc : it_Kc) (Φ : Int32 → it_Me → Prop) (m : it_Me) (h : w_130_19 kc Φ m) : it_V kc it_sh0 130 19 [none] [] m (it_Pi Φ) := by
  rw [w_130_19] at h
  refine it_V.sN it_cd130 it_m130 1 (pc1 := 20) (ls1 := [none]) (st1 := [(.int (0 : Int32))]) (mem1 := m) rfl ?_
  refine it_V.weak (l := [none]) trivial ?_
  exact s_130_20 kc Φ (0 : Int32) m h
set_option maxRecDepth 100000 in
set_option maxHeartbeats 4000000 in
theorem s_130 (kc : it_Kc) (k : Nat) (hk : it_isP k) (m : it_Me) (Φ : Int32 → it_Me → Prop) (h : w_130 kc k m Φ) : it_V kc it_sh0 130 0 (it_loc0 [(.ref k)] 1) [] m (it_Pi Φ) := by
  rw [w_130] at h
  refine it_V.at (pc1 := 0) (ls1 := [some (.ref k)]) (st1 := []) (mem1 := m) rfl rfl rfl rfl ?_
  refine it_V.sN it_cd130 it_m130 1 (pc1 := 1) (ls1 := [some (.ref k)]) (st1 := [(.ref k)]) (mem1 := m) rfl ?_
  refine it_V.getP it_cd130 it_m130 rfl (hk).1 rfl ?_
  refine it_V.at (pc1 := 4) (ls1 := [some (.ref k)]) (st1 := [(.int (m k 9))]) (mem1 := m) rfl rfl rfl rfl ?_
  refine it_V.sN it_cd130 it_m130 2 (pc1 := (if (m k 9) = (1 : Int32) then 8 else 19)) (ls1 := [some (.ref k)]) (st1 := []) (mem1 := m) rfl ?_
  refine it_V.ite (fun c1 => ?_) (fun c1 => ?_)
  · have h := h.1 c1
    refine it_V.sN it_cd130 it_m130 1 (pc1 := 9) (ls1 := [some (.ref k)]) (st1 := [(.ref k)]) (mem1 := m) rfl ?_
    refine it_V.getP it_cd130 it_m130 rfl (hk).1 rfl ?_
    refine it_V.at (pc1 := 12) (ls1 := [some (.ref k)]) (st1 := [(.int (m k 10))]) (mem1 := m) rfl rfl rfl rfl ?_
    refine it_V.sN it_cd130 it_m130 1 (pc1 := (if (m k 10) = 0 then 15 else 19)) (ls1 := [some (.ref k)]) (st1 := []) (mem1 := m) rfl ?_
    refine it_V.ite (fun c2 => ?_) (fun c2 => ?_)
    · have h := h.1 c2
      refine it_V.sN it_cd130 it_m130 2 (pc1 := 20) (ls1 := [some (.ref k)]) (st1 := [(.int (1 : Int32))]) (mem1 := m) rfl ?_
      refine it_V.weak (l := [none]) trivial ?_
      exact s_130_20 kc Φ (1 : Int32) m h
    · have h := h.2 c2
      refine it_V.weak (l := [none]) trivial ?_
      exact s_130_19 kc Φ m h
  · have h := h.2 c1
    refine it_V.weak (l := [none]) trivial ?_
    exact s_130_19 kc Φ m h
set_option maxRecDepth 100000 in
set_option maxHeartbeats 4000000 in
theorem s_135 (kc : it_Kc) (k : Nat) (x0 : Int32) (hk : it_isP k) (m : it_Me) (Φ : Int32 → it_Me → Prop) (h : w_135 kc k x0 m Φ) : it_V kc it_sh0 135 0 (it_loc0 [(.ref k), (.int x0)] 2) [] m (it_Pi Φ) := by
  rw [w_135] at h
  refine it_V.at (pc1 := 0) (ls1 := [some (.ref k), some (.int x0)]) (st1 := []) (mem1 := m) rfl rfl rfl rfl ?_
  refine it_V.sN it_cd135 it_m135 1 (pc1 := 1) (ls1 := [some (.ref k), some (.int x0)]) (st1 := [(.int x0)]) (mem1 := m) rfl ?_
  refine it_V.sN it_cd135 it_m135 1 (pc1 := (if x0 = (0 : Int32) then 64 else (if x0 = (1 : Int32) then 69 else (if x0 = (2 : Int32) then 74 else (if x0 = (3 : Int32) then 82 else (if x0 = (4 : Int32) then 90 else (if x0 = (5 : Int32) then 95 else (if x0 = (6 : Int32) then 100 else (if x0 = (7 : Int32) then 105 else (if x0 = (8 : Int32) then 110 else (if x0 = (9 : Int32) then 115 else (if x0 = (10 : Int32) then 120 else (if x0 = (11 : Int32) then 125 else 130))))))))))))) (ls1 := [some (.ref k), some (.int x0)]) (st1 := []) (mem1 := m) rfl ?_
  refine it_V.ite (fun c1 => ?_) (fun c1 => ?_)
  · have h := h.1 c1
    refine it_V.sN it_cd135 it_m135 1 (pc1 := 65) (ls1 := [some (.ref k), some (.int x0)]) (st1 := [(.ref k)]) (mem1 := m) rfl ?_
    refine it_V.call it_cd135 it_m135 rfl it_m134 [(.ref k)] [] rfl rfl ⟨Nat.le_of_ble_eq_true rfl, Nat.le_of_ble_eq_true rfl, Nat.le_of_ble_eq_true rfl, Nat.le_of_ble_eq_true rfl, (it_recvP (hk).1)⟩ (s_134 kc k (hk) m _ h) ?_
    rintro _ m3 ⟨r2, rfl, h⟩
    refine it_V.at (pc1 := 68) (ls1 := [some (.ref k), some (.int x0)]) (st1 := [(.int r2)]) (mem1 := m3) rfl rfl rfl rfl ?_
    exact it_V.ret it_cd135 it_m135 rfl rfl ⟨_, rfl, h⟩
  · have h := h.2 c1
    refine it_V.ite (fun c4 => ?_) (fun c4 => ?_)
    · have h := h.1 c4
      refine it_V.sN it_cd135 it_m135 1 (pc1 := 70) (ls1 := [some (.ref k), some (.int x0)]) (st1 := [(.ref k)]) (mem1 := m) rfl ?_
      refine it_V.getP it_cd135 it_m135 rfl (hk).1 rfl ?_
      refine it_V.at (pc1 := 73) (ls1 := [some (.ref k), some (.int x0)]) (st1 := [(.int (m k 3))]) (mem1 := m) rfl rfl rfl rfl ?_
      exact it_V.ret it_cd135 it_m135 rfl rfl ⟨_, rfl, h⟩
    · have h := h.2 c4
      refine it_V.ite (fun c5 => ?_) (fun c5 => ?_)
      · have h := h.1 c5
        refine it_V.sN it_cd135 it_m135 1 (pc1 := 75) (ls1 := [some (.ref k), some (.int x0)]) (st1 := [(.ref k)]) (mem1 := m) rfl ?_
        refine it_V.getP it_cd135 it_m135 rfl (hk).1 rfl ?_
        refine it_V.at (pc1 := 78) (ls1 := [some (.ref k), some (.int x0)]) (st1 := [(.ref (k + 1))]) (mem1 := m) rfl rfl rfl rfl ?_
        refine it_V.getP it_cd135 it_m135 rfl (hk).2.1 rfl ?_
        refine it_V.at (pc1 := 81) (ls1 := [some (.ref k), some (.int x0)]) (st1 := [(.int (m (k + 1) 1))]) (mem1 := m) rfl rfl rfl rfl ?_
        exact it_V.ret it_cd135 it_m135 rfl rfl ⟨_, rfl, h⟩
      · have h := h.2 c5
        refine it_V.ite (fun c6 => ?_) (fun c6 => ?_)
        · have h := h.1 c6
          refine it_V.sN it_cd135 it_m135 1 (pc1 := 83) (ls1 := [some (.ref k), some (.int x0)]) (st1 := [(.ref k)]) (mem1 := m) rfl ?_
          refine it_V.getP it_cd135 it_m135 rfl (hk).1 rfl ?_
          refine it_V.at (pc1 := 86) (ls1 := [some (.ref k), some (.int x0)]) (st1 := [(.ref (k + 1))]) (mem1 := m) rfl rfl rfl rfl ?_
          refine it_V.getP it_cd135 it_m135 rfl (hk).2.1 rfl ?_
          refine it_V.at (pc1 := 89) (ls1 := [some (.ref k), some (.int x0)]) (st1 := [(.int (m (k + 1) 3))]) (mem1 := m) rfl rfl rfl rfl ?_
          exact it_V.ret it_cd135 it_m135 rfl rfl ⟨_, rfl, h⟩
        · have h := h.2 c6
          refine it_V.ite (fun c7 => ?_) (fun c7 => ?_)
          · have h := h.1 c7
            refine it_V.sN it_cd135 it_m135 1 (pc1 := 91) (ls1 := [some (.ref k), some (.int x0)]) (st1 := [(.ref k)]) (mem1 := m) rfl ?_
            refine it_V.getP it_cd135 it_m135 rfl (hk).1 rfl ?_
            refine it_V.at (pc1 := 94) (ls1 := [some (.ref k), some (.int x0)]) (st1 := [(.int (m k 5))]) (mem1 := m) rfl rfl rfl rfl ?_
            exact it_V.ret it_cd135 it_m135 rfl rfl ⟨_, rfl, h⟩
          · have h := h.2 c7
            refine it_V.ite (fun c8 => ?_) (fun c8 => ?_)
            · have h := h.1 c8
              refine it_V.sN it_cd135 it_m135 1 (pc1 := 96) (ls1 := [some (.ref k), some (.int x0)]) (st1 := [(.ref k)]) (mem1 := m) rfl ?_
              refine it_V.getP it_cd135 it_m135 rfl (hk).1 rfl ?_
              refine it_V.at (pc1 := 99) (ls1 := [some (.ref k), some (.int x0)]) (st1 := [(.int (m k 6))]) (mem1 := m) rfl rfl rfl rfl ?_
              exact it_V.ret it_cd135 it_m135 rfl rfl ⟨_, rfl, h⟩
            · have h := h.2 c8
              refine it_V.ite (fun c9 => ?_) (fun c9 => ?_)
              · have h := h.1 c9
                refine it_V.sN it_cd135 it_m135 1 (pc1 := 101) (ls1 := [some (.ref k), some (.int x0)]) (st1 := [(.ref k)]) (mem1 := m) rfl ?_
                refine it_V.getP it_cd135 it_m135 rfl (hk).1 rfl ?_
                refine it_V.at (pc1 := 104) (ls1 := [some (.ref k), some (.int x0)]) (st1 := [(.int (m k 7))]) (mem1 := m) rfl rfl rfl rfl ?_
                exact it_V.ret it_cd135 it_m135 rfl rfl ⟨_, rfl, h⟩
              · have h := h.2 c9
                refine it_V.ite (fun c10 => ?_) (fun c10 => ?_)
                · have h := h.1 c10
                  refine it_V.sN it_cd135 it_m135 1 (pc1 := 106) (ls1 := [some (.ref k), some (.int x0)]) (st1 := [(.ref k)]) (mem1 := m) rfl ?_
                  refine it_V.getP it_cd135 it_m135 rfl (hk).1 rfl ?_
                  refine it_V.at (pc1 := 109) (ls1 := [some (.ref k), some (.int x0)]) (st1 := [(.int (m k 8))]) (mem1 := m) rfl rfl rfl rfl ?_
                  exact it_V.ret it_cd135 it_m135 rfl rfl ⟨_, rfl, h⟩
                · have h := h.2 c10
                  refine it_V.ite (fun c11 => ?_) (fun c11 => ?_)
                  · have h := h.1 c11
                    refine it_V.sN it_cd135 it_m135 1 (pc1 := 111) (ls1 := [some (.ref k), some (.int x0)]) (st1 := [(.ref k)]) (mem1 := m) rfl ?_
                    refine it_V.getP it_cd135 it_m135 rfl (hk).1 rfl ?_
                    refine it_V.at (pc1 := 114) (ls1 := [some (.ref k), some (.int x0)]) (st1 := [(.int (m k 12))]) (mem1 := m) rfl rfl rfl rfl ?_
                    exact it_V.ret it_cd135 it_m135 rfl rfl ⟨_, rfl, h⟩
                  · have h := h.2 c11
                    refine it_V.ite (fun c12 => ?_) (fun c12 => ?_)
                    · have h := h.1 c12
                      refine it_V.sN it_cd135 it_m135 1 (pc1 := 116) (ls1 := [some (.ref k), some (.int x0)]) (st1 := [(.ref k)]) (mem1 := m) rfl ?_
                      refine it_V.getP it_cd135 it_m135 rfl (hk).1 rfl ?_
                      refine it_V.at (pc1 := 119) (ls1 := [some (.ref k), some (.int x0)]) (st1 := [(.int (m k 14))]) (mem1 := m) rfl rfl rfl rfl ?_
                      exact it_V.ret it_cd135 it_m135 rfl rfl ⟨_, rfl, h⟩
                    · have h := h.2 c12
                      refine it_V.ite (fun c13 => ?_) (fun c13 => ?_)
                      · have h := h.1 c13
                        refine it_V.sN it_cd135 it_m135 1 (pc1 := 121) (ls1 := [some (.ref k), some (.int x0)]) (st1 := [(.ref k)]) (mem1 := m) rfl ?_
                        refine it_V.getP it_cd135 it_m135 rfl (hk).1 rfl ?_
                        refine it_V.at (pc1 := 124) (ls1 := [some (.ref k), some (.int x0)]) (st1 := [(.int (m k 18))]) (mem1 := m) rfl rfl rfl rfl ?_
                        exact it_V.ret it_cd135 it_m135 rfl rfl ⟨_, rfl, h⟩
                      · have h := h.2 c13
                        refine it_V.ite (fun c14 => ?_) (fun c14 => ?_)
                        · have h := h.1 c14
                          refine it_V.sN it_cd135 it_m135 1 (pc1 := 126) (ls1 := [some (.ref k), some (.int x0)]) (st1 := [(.ref k)]) (mem1 := m) rfl ?_
                          refine it_V.getP it_cd135 it_m135 rfl (hk).1 rfl ?_
                          refine it_V.at (pc1 := 129) (ls1 := [some (.ref k), some (.int x0)]) (st1 := [(.int (m k 11))]) (mem1 := m) rfl rfl rfl rfl ?_
                          exact it_V.ret it_cd135 it_m135 rfl rfl ⟨_, rfl, h⟩
                        · have h := h.2 c14
                          refine it_V.sN it_cd135 it_m135 1 (pc1 := 131) (ls1 := [some (.ref k), some (.int x0)]) (st1 := [(.ref k)]) (mem1 := m) rfl ?_
                          refine it_V.getP it_cd135 it_m135 rfl (hk).1 rfl ?_
                          refine it_V.at (pc1 := 134) (ls1 := [some (.ref k), some (.int x0)]) (st1 := [(.ref (k + 1))]) (mem1 := m) rfl rfl rfl rfl ?_
                          refine it_V.getP it_cd135 it_m135 rfl (hk).2.1 rfl ?_
                          refine it_V.at (pc1 := 137) (ls1 := [some (.ref k), some (.int x0)]) (st1 := [(.int (m (k + 1) 7))]) (mem1 := m) rfl rfl rfl rfl ?_
                          exact it_V.ret it_cd135 it_m135 rfl rfl ⟨_, rfl, h⟩
set_option maxRecDepth 100000 in
set_option maxHeartbeats 4000000 in
theorem s_137 (kc : it_Kc) (k : Nat) (x0 : Int32) (hk : it_isP k) (m : it_Me) (Φ : it_Me → Prop) (h : w_137 kc k x0 m Φ) : it_V kc it_sh0 137 0 (it_loc0 [(.ref k), (.int x0)] 2) [] m (it_Pv Φ) := by
  rw [w_137] at h
  refine it_V.at (pc1 := 0) (ls1 := [some (.ref k), some (.int x0)]) (st1 := []) (mem1 := m) rfl rfl rfl rfl ?_
  refine it_V.sN it_cd137 it_m137 1 (pc1 := 1) (ls1 := [some (.ref k), some (.int x0)]) (st1 := [(.ref k)]) (mem1 := m) rfl ?_
  refine it_V.getP it_cd137 it_m137 rfl (hk).1 rfl ?_
  refine it_V.at (pc1 := 4) (ls1 := [some (.ref k), some (.int x0)]) (st1 := [(.ref (k + 2))]) (mem1 := m) rfl rfl rfl rfl ?_
  refine it_V.sN it_cd137 it_m137 2 (pc1 := 7) (ls1 := [some (.ref k), some (.int x0)]) (st1 := [(.int (2 : Int32)), (.int (10 : Int32)), (.ref (k + 2))]) (mem1 := m) rfl ?_
  obtain ⟨g1, h⟩ := h
  refine it_V.iast it_cd137 it_m137 rfl ((hk).2.2.1).1 g1 ?_
  refine it_V.at (pc1 := 8) (ls1 := [some (.ref k), some (.int x0)]) (st1 := []) (mem1 := (it_sv m (k + 2) (Int32.toNatClampNeg (10 : Int32)) (2 : Int32))) rfl rfl rfl rfl ?_
  refine it_V.sN it_cd137 it_m137 1 (pc1 := 9) (ls1 := [some (.ref k), some (.int x0)]) (st1 := [(.ref k)]) (mem1 := (it_sv m (k + 2) (Int32.toNatClampNeg (10 : Int32)) (2 : Int32))) rfl ?_
  refine it_V.getP it_cd137 it_m137 rfl (hk).1 rfl ?_
  refine it_V.at (pc1 := 12) (ls1 := [some (.ref k), some (.int x0)]) (st1 := [(.ref (k + 2))]) (mem1 := (it_sv m (k + 2) (Int32.toNatClampNeg (10 : Int32)) (2 : Int32))) rfl rfl rfl rfl ?_
  refine it_V.sN it_cd137 it_m137 2 (pc1 := 15) (ls1 := [some (.ref k), some (.int x0)]) (st1 := [(.int x0), (.int (11 : Int32)), (.ref (k + 2))]) (mem1 := (it_sv m (k + 2) (Int32.toNatClampNeg (10 : Int32)) (2 : Int32))) rfl ?_
  obtain ⟨g2, h⟩ := h
  refine it_V.iast it_cd137 it_m137 rfl ((hk).2.2.1).1 g2 ?_
  refine it_V.at (pc1 := 16) (ls1 := [some (.ref k), some (.int x0)]) (st1 := []) (mem1 := (it_sv (it_sv m (k + 2) (Int32.toNatClampNeg (10 : Int32)) (2 : Int32)) (k + 2) (Int32.toNatClampNeg (11 : Int32)) x0)) rfl rfl rfl rfl ?_
  exact it_V.ret it_cd137 it_m137 rfl rfl ⟨rfl, h⟩
set_option maxRecDepth 100000 in
set_option maxHeartbeats 4000000 in
theorem s_140 (kc : it_Kc) (k : Nat) (x0 : Int32) (x1 : Int32) (hk : it_isP k) (m : it_Me) (Φ : it_Me → Prop) (h : w_140 kc k x0 x1 m Φ) : it_V kc it_sh0 140 0 (it_loc0 [(.ref k), (.int x0), (.int x1)] 3) [] m (it_Pv Φ) := by
  rw [w_140] at h
  refine it_V.at (pc1 := 0) (ls1 := [some (.ref k), some (.int x0), some (.int x1)]) (st1 := []) (mem1 := m) rfl rfl rfl rfl ?_
  refine it_V.sN it_cd140 it_m140 1 (pc1 := 1) (ls1 := [some (.ref k), some (.int x0), some (.int x1)]) (st1 := [(.ref k)]) (mem1 := m) rfl ?_
  refine it_V.getP it_cd140 it_m140 rfl (hk).1 rfl ?_
  refine it_V.at (pc1 := 4) (ls1 := [some (.ref k), some (.int x0), some (.int x1)]) (st1 := [(.ref (k + 2))]) (mem1 := m) rfl rfl rfl rfl ?_
  refine it_V.sN it_cd140 it_m140 2 (pc1 := 9) (ls1 := [some (.ref k), some (.int x0), some (.int x1)]) (st1 := [(.int (130 : Int32)), (.int (10 : Int32)), (.ref (k + 2))]) (mem1 := m) rfl ?_
  obtain ⟨g1, h⟩ := h
  refine it_V.iast it_cd140 it_m140 rfl ((hk).2.2.1).1 g1 ?_
  refine it_V.at (pc1 := 10) (ls1 := [some (.ref k), some (.int x0), some (.int x1)]) (st1 := []) (mem1 := (it_sv m (k + 2) (Int32.toNatClampNeg (10 : Int32)) (130 : Int32))) rfl rfl rfl rfl ?_
  refine it_V.sN it_cd140 it_m140 1 (pc1 := 11) (ls1 := [some (.ref k), some (.int x0), some (.int x1)]) (st1 := [(.ref k)]) (mem1 := (it_sv m (k + 2) (Int32.toNatClampNeg (10 : Int32)) (130 : Int32))) rfl ?_
  refine it_V.getP it_cd140 it_m140 rfl (hk).1 rfl ?_
  refine it_V.at (pc1 := 14) (ls1 := [some (.ref k), some (.int x0), some (.int x1)]) (st1 := [(.ref (k + 2))]) (mem1 := (it_sv m (k + 2) (Int32.toNatClampNeg (10 : Int32)) (130 : Int32))) rfl rfl rfl rfl ?_
  refine it_V.sN it_cd140 it_m140 2 (pc1 := 17) (ls1 := [some (.ref k), some (.int x0), some (.int x1)]) (st1 := [(.int x0), (.int (11 : Int32)), (.ref (k + 2))]) (mem1 := (it_sv m (k + 2) (Int32.toNatClampNeg (10 : Int32)) (130 : Int32))) rfl ?_
  obtain ⟨g2, h⟩ := h
  refine it_V.iast it_cd140 it_m140 rfl ((hk).2.2.1).1 g2 ?_
  refine it_V.at (pc1 := 18) (ls1 := [some (.ref k), some (.int x0), some (.int x1)]) (st1 := []) (mem1 := (it_sv (it_sv m (k + 2) (Int32.toNatClampNeg (10 : Int32)) (130 : Int32)) (k + 2) (Int32.toNatClampNeg (11 : Int32)) x0)) rfl rfl rfl rfl ?_
  refine it_V.sN it_cd140 it_m140 1 (pc1 := 19) (ls1 := [some (.ref k), some (.int x0), some (.int x1)]) (st1 := [(.ref k)]) (mem1 := (it_sv (it_sv m (k + 2) (Int32.toNatClampNeg (10 : Int32)) (130 : Int32)) (k + 2) (Int32.toNatClampNeg (11 : Int32)) x0)) rfl ?_
  refine it_V.getP it_cd140 it_m140 rfl (hk).1 rfl ?_
  refine it_V.at (pc1 := 22) (ls1 := [some (.ref k), some (.int x0), some (.int x1)]) (st1 := [(.ref (k + 2))]) (mem1 := (it_sv (it_sv m (k + 2) (Int32.toNatClampNeg (10 : Int32)) (130 : Int32)) (k + 2) (Int32.toNatClampNeg (11 : Int32)) x0)) rfl rfl rfl rfl ?_
  refine it_V.sN it_cd140 it_m140 2 (pc1 := 25) (ls1 := [some (.ref k), some (.int x0), some (.int x1)]) (st1 := [(.int x1), (.int (12 : Int32)), (.ref (k + 2))]) (mem1 := (it_sv (it_sv m (k + 2) (Int32.toNatClampNeg (10 : Int32)) (130 : Int32)) (k + 2) (Int32.toNatClampNeg (11 : Int32)) x0)) rfl ?_
  obtain ⟨g3, h⟩ := h
  refine it_V.iast it_cd140 it_m140 rfl ((hk).2.2.1).1 g3 ?_
  refine it_V.at (pc1 := 26) (ls1 := [some (.ref k), some (.int x0), some (.int x1)]) (st1 := []) (mem1 := (it_sv (it_sv (it_sv m (k + 2) (Int32.toNatClampNeg (10 : Int32)) (130 : Int32)) (k + 2) (Int32.toNatClampNeg (11 : Int32)) x0) (k + 2) (Int32.toNatClampNeg (12 : Int32)) x1)) rfl rfl rfl rfl ?_
  exact it_V.ret it_cd140 it_m140 rfl rfl ⟨rfl, h⟩
set_option maxRecDepth 100000 in
set_option maxHeartbeats 4000000 in
theorem s_142_41 (kc : it_Kc) (Φ : Int32 → it_Me → Prop) (K2 : Nat → Int32 → Int32 → Int32 → it_Me → Prop) (K39 : Int32 → it_Me → Prop) (K47 : it_Me → Prop) (hK2 : ∀ (v0 : Nat) (v1 : Int32) (v2 : Int32) (v3 : Int32) (_ : it_isP v0) (m : it_Me), K2 v0 v1 v2 v3 m → it_V kc it_sh0 142 2 [some (.ref v0), some (.int v1), some (.int v2), some (.int v3), none] [] m (it_Pi Φ)) (hK39 : ∀ (v3 : Int32) (m : it_Me), K39 v3 m → it_V kc it_sh0 142 39 [none, none, none, some (.int v3), none] [] m (it_Pi Φ)) (hK47 : ∀ (m : it_Me), K47 m → it_V kc it_sh0 142 47 [none, none, none, none, none] [] m (it_Pi Φ)) (v0 : Nat) (v1 : Int32) (v2 : Int32) (v3 : Int32) (hv0 : it_isP v0) (m : it_Me) (h : w_142_41 kc Φ K2 K39 K47 v0 v1 v2 v3 m) : it_V kc it_sh0 142 41 [some (.ref v0), some (.int v1), some (.int v2), some (.int v3), none] [] m (it_Pi Φ) := by
  rw [w_142_41] at h
  refine it_V.sN it_cd142 it_m142 2 (pc1 := 2) (ls1 := [some (.ref v0), some (.int v1), some (.int v2), some (.int (v3 + (1 : Int32))), none]) (st1 := []) (mem1 := m) rfl ?_
  refine it_V.weak (l := [some (.ref v0), some (.int v1), some (.int v2), some (.int (v3 + (1 : Int32))), none]) ⟨rfl, ⟨rfl, ⟨rfl, ⟨rfl, trivial⟩⟩⟩⟩ ?_
  exact hK2 v0 v1 v2 (v3 + (1 : Int32)) (hv0) m h
set_option maxRecDepth 100000 in
set_option maxHeartbeats 4000000 in
theorem s_142_2 (kc : it_Kc) (Φ : Int32 → it_Me → Prop) (K39 : Int32 → it_Me → Prop) (K47 : it_Me → Prop) (hK39 : ∀ (v3 : Int32) (m : it_Me), K39 v3 m → it_V kc it_sh0 142 39 [none, none, none, some (.int v3), none] [] m (it_Pi Φ)) (hK47 : ∀ (m : it_Me), K47 m → it_V kc it_sh0 142 47 [none, none, none, none, none] [] m (it_Pi Φ)) : ∀ (n : Nat) (v0 : Nat) (v1 : Int32) (v2 : Int32) (v3 : Int32) (hv0 : it_isP v0) (m : it_Me) (h : w_142_2 kc Φ K39 K47 n v0 v1 v2 v3 m), it_V kc it_sh0 142 2 [some (.ref v0), some (.int v1), some (.int v2), some (.int v3), none] [] m (it_Pi Φ) := by
  intro n
  induction n with
  | zero => intro v0 v1 v2 v3 hv0 m h; exact absurd h id
  | succ n ih =>
    intro v0 v1 v2 v3 hv0 m h
    rw [w_142_2] at h
    refine it_V.sN it_cd142 it_m142 2 (pc1 := 4) (ls1 := [some (.ref v0), some (.int v1), some (.int v2), some (.int v3), none]) (st1 := [(.ref v0), (.int v3)]) (mem1 := m) rfl ?_
    refine it_V.getP it_cd142 it_m142 rfl (hv0).1 rfl ?_
    refine it_V.at (pc1 := 7) (ls1 := [some (.ref v0), some (.int v1), some (.int v2), some (.int v3), none]) (st1 := [(.int (m v0 14)), (.int v3)]) (mem1 := m) rfl rfl rfl rfl ?_
    refine it_V.sN it_cd142 it_m142 1 (pc1 := (if (m v0 14) ≤ v3 then 47 else 10)) (ls1 := [some (.ref v0), some (.int v1), some (.int v2), some (.int v3), none]) (st1 := []) (mem1 := m) rfl ?_
    refine it_V.ite (fun c1 => ?_) (fun c1 => ?_)
    · have h := h.1 c1
      refine it_V.weak (l := [none, none, none, none, none]) trivial ?_
      exact hK47 m h
    · have h := h.2 c1
      refine it_V.sN it_cd142 it_m142 5 (pc1 := 16) (ls1 := [some (.ref v0), some (.int v1), some (.int v2), some (.int v3), some (.int (v3 * (5 : Int32)))]) (st1 := [(.ref v0)]) (mem1 := m) rfl ?_
      refine it_V.getP it_cd142 it_m142 rfl (hv0).1 rfl ?_
      refine it_V.at (pc1 := 19) (ls1 := [some (.ref v0), some (.int v1), some (.int v2), some (.int v3), some (.int (v3 * (5 : Int32)))]) (st1 := [(.ref (v0 + 3))]) (mem1 := m) rfl rfl rfl rfl ?_
      refine it_V.sN it_cd142 it_m142 1 (pc1 := 21) (ls1 := [some (.ref v0), some (.int v1), some (.int v2), some (.int v3), some (.int (v3 * (5 : Int32)))]) (st1 := [(.int (v3 * (5 : Int32))), (.ref (v0 + 3))]) (mem1 := m) rfl ?_
      obtain ⟨g2, h⟩ := h
      refine it_V.iald it_cd142 it_m142 rfl ((hv0).2.2.2.1).2 ((hv0).2.2.2.1).1 g2 ?_
      refine it_V.at (pc1 := 22) (ls1 := [some (.ref v0), some (.int v1), some (.int v2), some (.int v3), some (.int (v3 * (5 : Int32)))]) (st1 := [(.int (m (v0 + 3) (Int32.toNatClampNeg (v3 * (5 : Int32)))))]) (mem1 := m) rfl rfl rfl rfl ?_
      refine it_V.sN it_cd142 it_m142 2 (pc1 := (if (m (v0 + 3) (Int32.toNatClampNeg (v3 * (5 : Int32)))) = v1 then 26 else 41)) (ls1 := [some (.ref v0), some (.int v1), some (.int v2), some (.int v3), some (.int (v3 * (5 : Int32)))]) (st1 := []) (mem1 := m) rfl ?_
      refine it_V.ite (fun c3 => ?_) (fun c3 => ?_)
      · have h := h.1 c3
        refine it_V.sN it_cd142 it_m142 1 (pc1 := 27) (ls1 := [some (.ref v0), some (.int v1), some (.int v2), some (.int v3), some (.int (v3 * (5 : Int32)))]) (st1 := [(.ref v0)]) (mem1 := m) rfl ?_
        refine it_V.getP it_cd142 it_m142 rfl (hv0).1 rfl ?_
        refine it_V.at (pc1 := 30) (ls1 := [some (.ref v0), some (.int v1), some (.int v2), some (.int v3), some (.int (v3 * (5 : Int32)))]) (st1 := [(.ref (v0 + 3))]) (mem1 := m) rfl rfl rfl rfl ?_
        refine it_V.sN it_cd142 it_m142 3 (pc1 := 34) (ls1 := [some (.ref v0), some (.int v1), some (.int v2), some (.int v3), some (.int (v3 * (5 : Int32)))]) (st1 := [(.int ((v3 * (5 : Int32)) + (1 : Int32))), (.ref (v0 + 3))]) (mem1 := m) rfl ?_
        obtain ⟨g4, h⟩ := h
        refine it_V.iald it_cd142 it_m142 rfl ((hv0).2.2.2.1).2 ((hv0).2.2.2.1).1 g4 ?_
        refine it_V.at (pc1 := 35) (ls1 := [some (.ref v0), some (.int v1), some (.int v2), some (.int v3), some (.int (v3 * (5 : Int32)))]) (st1 := [(.int (m (v0 + 3) (Int32.toNatClampNeg ((v3 * (5 : Int32)) + (1 : Int32)))))]) (mem1 := m) rfl rfl rfl rfl ?_
        refine it_V.sN it_cd142 it_m142 2 (pc1 := (if (m (v0 + 3) (Int32.toNatClampNeg ((v3 * (5 : Int32)) + (1 : Int32)))) = v2 then 39 else 41)) (ls1 := [some (.ref v0), some (.int v1), some (.int v2), some (.int v3), some (.int (v3 * (5 : Int32)))]) (st1 := []) (mem1 := m) rfl ?_
        refine it_V.ite (fun c5 => ?_) (fun c5 => ?_)
        · have h := h.1 c5
          refine it_V.weak (l := [none, none, none, some (.int v3), none]) ⟨rfl, trivial⟩ ?_
          exact hK39 v3 m h
        · have h := h.2 c5
          refine it_V.weak (l := [some (.ref v0), some (.int v1), some (.int v2), some (.int v3), none]) ⟨rfl, ⟨rfl, ⟨rfl, ⟨rfl, trivial⟩⟩⟩⟩ ?_
          exact s_142_41 kc Φ _ _ _ ih hK39 hK47 v0 v1 v2 v3 (hv0) m h
      · have h := h.2 c3
        refine it_V.weak (l := [some (.ref v0), some (.int v1), some (.int v2), some (.int v3), none]) ⟨rfl, ⟨rfl, ⟨rfl, ⟨rfl, trivial⟩⟩⟩⟩ ?_
        exact s_142_41 kc Φ _ _ _ ih hK39 hK47 v0 v1 v2 v3 (hv0) m h
set_option maxRecDepth 100000 in
set_option maxHeartbeats 4000000 in
theorem s_142_39 (kc : it_Kc) (Φ : Int32 → it_Me → Prop) (v3 : Int32) (m : it_Me) (h : w_142_39 kc Φ v3 m) : it_V kc it_sh0 142 39 [none, none, none, some (.int v3), none] [] m (it_Pi Φ) := by
  rw [w_142_39] at h
  refine it_V.sN it_cd142 it_m142 1 (pc1 := 40) (ls1 := [none, none, none, some (.int v3), none]) (st1 := [(.int v3)]) (mem1 := m) rfl ?_
  exact it_V.ret it_cd142 it_m142 rfl rfl ⟨_, rfl, h⟩
set_option maxRecDepth 100000 in
set_option maxHeartbeats 4000000 in
theorem s_142_47 (kc : it_Kc) (Φ : Int32 → it_Me → Prop) (m : it_Me) (h : w_142_47 kc Φ m) : it_V kc it_sh0 142 47 [none, none, none, none, none] [] m (it_Pi Φ) := by
  rw [w_142_47] at h
  refine it_V.sN it_cd142 it_m142 1 (pc1 := 48) (ls1 := [none, none, none, none, none]) (st1 := [(.int (-1 : Int32))]) (mem1 := m) rfl ?_
  exact it_V.ret it_cd142 it_m142 rfl rfl ⟨_, rfl, h⟩
set_option maxRecDepth 100000 in
set_option maxHeartbeats 4000000 in
theorem s_142 (kc : it_Kc) (k : Nat) (x0 : Int32) (x1 : Int32) (hk : it_isP k) (m : it_Me) (Φ : Int32 → it_Me → Prop) (h : w_142 kc k x0 x1 m Φ) : it_V kc it_sh0 142 0 (it_loc0 [(.ref k), (.int x0), (.int x1)] 5) [] m (it_Pi Φ) := by
  rw [w_142] at h
  refine it_V.at (pc1 := 0) (ls1 := [some (.ref k), some (.int x0), some (.int x1), none, none]) (st1 := []) (mem1 := m) rfl rfl rfl rfl ?_
  refine it_V.sN it_cd142 it_m142 2 (pc1 := 2) (ls1 := [some (.ref k), some (.int x0), some (.int x1), some (.int (0 : Int32)), none]) (st1 := []) (mem1 := m) rfl ?_
  obtain ⟨n, h⟩ := h
  exact s_142_2 kc Φ _ _ (fun v3 m h => s_142_39 kc Φ v3 m h) (fun m h => s_142_47 kc Φ m h) n k x0 x1 (0 : Int32) (hk) m h
set_option maxRecDepth 100000 in
set_option maxHeartbeats 4000000 in
theorem s_144_45 (kc : it_Kc) (Φ : it_Me → Prop) (K7 : Nat → Int32 → Int32 → Int32 → it_Me → Prop) (K51 : it_Me → Prop) (hK7 : ∀ (v0 : Nat) (v1 : Int32) (v2 : Int32) (v3 : Int32) (_ : it_isP v0) (m : it_Me), K7 v0 v1 v2 v3 m → it_V kc it_sh0 144 7 [some (.ref v0), some (.int v1), some (.int v2), some (.int v3), none] [] m (it_Pv Φ)) (hK51 : ∀ (m : it_Me), K51 m → it_V kc it_sh0 144 51 [none, none, none, none, none] [] m (it_Pv Φ)) (v0 : Nat) (v1 : Int32) (v2 : Int32) (v3 : Int32) (hv0 : it_isP v0) (m : it_Me) (h : w_144_45 kc Φ K7 K51 v0 v1 v2 v3 m) : it_V kc it_sh0 144 45 [some (.ref v0), some (.int v1), some (.int v2), some (.int v3), none] [] m (it_Pv Φ) := by
  rw [w_144_45] at h
  refine it_V.sN it_cd144 it_m144 2 (pc1 := 7) (ls1 := [some (.ref v0), some (.int v1), some (.int v2), some (.int (v3 + (-1 : Int32))), none]) (st1 := []) (mem1 := m) rfl ?_
  refine it_V.weak (l := [some (.ref v0), some (.int v1), some (.int v2), some (.int (v3 + (-1 : Int32))), none]) ⟨rfl, ⟨rfl, ⟨rfl, ⟨rfl, trivial⟩⟩⟩⟩ ?_
  exact hK7 v0 v1 v2 (v3 + (-1 : Int32)) (hv0) m h
set_option maxRecDepth 100000 in
set_option maxHeartbeats 4000000 in
theorem s_144_7 (kc : it_Kc) (Φ : it_Me → Prop) (K51 : it_Me → Prop) (hK51 : ∀ (m : it_Me), K51 m → it_V kc it_sh0 144 51 [none, none, none, none, none] [] m (it_Pv Φ)) : ∀ (n : Nat) (v0 : Nat) (v1 : Int32) (v2 : Int32) (v3 : Int32) (hv0 : it_isP v0) (m : it_Me) (h : w_144_7 kc Φ K51 n v0 v1 v2 v3 m), it_V kc it_sh0 144 7 [some (.ref v0), some (.int v1), some (.int v2), some (.int v3), none] [] m (it_Pv Φ) := by
  intro n
  induction n with
  | zero => intro v0 v1 v2 v3 hv0 m h; exact absurd h id
  | succ n ih =>
    intro v0 v1 v2 v3 hv0 m h
    rw [w_144_7] at h
    refine it_V.sN it_cd144 it_m144 2 (pc1 := (if v3 < 0 then 51 else 11)) (ls1 := [some (.ref v0), some (.int v1), some (.int v2), some (.int v3), none]) (st1 := []) (mem1 := m) rfl ?_
    refine it_V.ite (fun c1 => ?_) (fun c1 => ?_)
    · have h := h.1 c1
      refine it_V.weak (l := [none, none, none, none, none]) trivial ?_
      exact hK51 m h
    · have h := h.2 c1
      refine it_V.sN it_cd144 it_m144 5 (pc1 := 17) (ls1 := [some (.ref v0), some (.int v1), some (.int v2), some (.int v3), some (.int (v3 * (5 : Int32)))]) (st1 := [(.ref v0)]) (mem1 := m) rfl ?_
      refine it_V.getP it_cd144 it_m144 rfl (hv0).1 rfl ?_
      refine it_V.at (pc1 := 20) (ls1 := [some (.ref v0), some (.int v1), some (.int v2), some (.int v3), some (.int (v3 * (5 : Int32)))]) (st1 := [(.ref (v0 + 3))]) (mem1 := m) rfl rfl rfl rfl ?_
      refine it_V.sN it_cd144 it_m144 1 (pc1 := 22) (ls1 := [some (.ref v0), some (.int v1), some (.int v2), some (.int v3), some (.int (v3 * (5 : Int32)))]) (st1 := [(.int (v3 * (5 : Int32))), (.ref (v0 + 3))]) (mem1 := m) rfl ?_
      obtain ⟨g2, h⟩ := h
      refine it_V.iald it_cd144 it_m144 rfl ((hv0).2.2.2.1).2 ((hv0).2.2.2.1).1 g2 ?_
      refine it_V.at (pc1 := 23) (ls1 := [some (.ref v0), some (.int v1), some (.int v2), some (.int v3), some (.int (v3 * (5 : Int32)))]) (st1 := [(.int (m (v0 + 3) (Int32.toNatClampNeg (v3 * (5 : Int32)))))]) (mem1 := m) rfl rfl rfl rfl ?_
      refine it_V.sN it_cd144 it_m144 2 (pc1 := (if (m (v0 + 3) (Int32.toNatClampNeg (v3 * (5 : Int32)))) = v1 then 27 else 45)) (ls1 := [some (.ref v0), some (.int v1), some (.int v2), some (.int v3), some (.int (v3 * (5 : Int32)))]) (st1 := []) (mem1 := m) rfl ?_
      refine it_V.ite (fun c3 => ?_) (fun c3 => ?_)
      · have h := h.1 c3
        refine it_V.sN it_cd144 it_m144 1 (pc1 := 28) (ls1 := [some (.ref v0), some (.int v1), some (.int v2), some (.int v3), some (.int (v3 * (5 : Int32)))]) (st1 := [(.ref v0)]) (mem1 := m) rfl ?_
        refine it_V.getP it_cd144 it_m144 rfl (hv0).1 rfl ?_
        refine it_V.at (pc1 := 31) (ls1 := [some (.ref v0), some (.int v1), some (.int v2), some (.int v3), some (.int (v3 * (5 : Int32)))]) (st1 := [(.ref (v0 + 3))]) (mem1 := m) rfl rfl rfl rfl ?_
        refine it_V.sN it_cd144 it_m144 3 (pc1 := 35) (ls1 := [some (.ref v0), some (.int v1), some (.int v2), some (.int v3), some (.int (v3 * (5 : Int32)))]) (st1 := [(.int ((v3 * (5 : Int32)) + (1 : Int32))), (.ref (v0 + 3))]) (mem1 := m) rfl ?_
        obtain ⟨g4, h⟩ := h
        refine it_V.iald it_cd144 it_m144 rfl ((hv0).2.2.2.1).2 ((hv0).2.2.2.1).1 g4 ?_
        refine it_V.at (pc1 := 36) (ls1 := [some (.ref v0), some (.int v1), some (.int v2), some (.int v3), some (.int (v3 * (5 : Int32)))]) (st1 := [(.int (m (v0 + 3) (Int32.toNatClampNeg ((v3 * (5 : Int32)) + (1 : Int32)))))]) (mem1 := m) rfl rfl rfl rfl ?_
        refine it_V.sN it_cd144 it_m144 2 (pc1 := (if (m (v0 + 3) (Int32.toNatClampNeg ((v3 * (5 : Int32)) + (1 : Int32)))) = v2 then 40 else 45)) (ls1 := [some (.ref v0), some (.int v1), some (.int v2), some (.int v3), some (.int (v3 * (5 : Int32)))]) (st1 := []) (mem1 := m) rfl ?_
        refine it_V.ite (fun c5 => ?_) (fun c5 => ?_)
        · have h := h.1 c5
          refine it_V.sN it_cd144 it_m144 2 (pc1 := 42) (ls1 := [some (.ref v0), some (.int v1), some (.int v2), some (.int v3), some (.int (v3 * (5 : Int32)))]) (st1 := [(.int v3), (.ref v0)]) (mem1 := m) rfl ?_
          refine it_V.call it_cd144 it_m144 rfl it_m143 [(.ref v0), (.int v3)] [] rfl rfl ⟨Nat.le_of_ble_eq_true rfl, Nat.le_of_ble_eq_true rfl, Nat.le_of_ble_eq_true rfl, Nat.le_of_ble_eq_true rfl, (it_recvP (hv0).1)⟩ (s_143 kc v0 v3 (hv0) m _ h) ?_
          rintro _ m6 ⟨rfl, h⟩
          refine it_V.at (pc1 := 45) (ls1 := [some (.ref v0), some (.int v1), some (.int v2), some (.int v3), some (.int (v3 * (5 : Int32)))]) (st1 := []) (mem1 := m6) rfl rfl rfl rfl ?_
          refine it_V.weak (l := [some (.ref v0), some (.int v1), some (.int v2), some (.int v3), none]) ⟨rfl, ⟨rfl, ⟨rfl, ⟨rfl, trivial⟩⟩⟩⟩ ?_
          exact s_144_45 kc Φ _ _ ih hK51 v0 v1 v2 v3 (hv0) m6 h
        · have h := h.2 c5
          refine it_V.weak (l := [some (.ref v0), some (.int v1), some (.int v2), some (.int v3), none]) ⟨rfl, ⟨rfl, ⟨rfl, ⟨rfl, trivial⟩⟩⟩⟩ ?_
          exact s_144_45 kc Φ _ _ ih hK51 v0 v1 v2 v3 (hv0) m h
      · have h := h.2 c3
        refine it_V.weak (l := [some (.ref v0), some (.int v1), some (.int v2), some (.int v3), none]) ⟨rfl, ⟨rfl, ⟨rfl, ⟨rfl, trivial⟩⟩⟩⟩ ?_
        exact s_144_45 kc Φ _ _ ih hK51 v0 v1 v2 v3 (hv0) m h
set_option maxRecDepth 100000 in
set_option maxHeartbeats 4000000 in
theorem s_144_51 (kc : it_Kc) (Φ : it_Me → Prop) (m : it_Me) (h : w_144_51 kc Φ m) : it_V kc it_sh0 144 51 [none, none, none, none, none] [] m (it_Pv Φ) := by
  rw [w_144_51] at h
  exact it_V.ret it_cd144 it_m144 rfl rfl ⟨rfl, h⟩
set_option maxRecDepth 100000 in
set_option maxHeartbeats 4000000 in
theorem s_144 (kc : it_Kc) (k : Nat) (x0 : Int32) (x1 : Int32) (hk : it_isP k) (m : it_Me) (Φ : it_Me → Prop) (h : w_144 kc k x0 x1 m Φ) : it_V kc it_sh0 144 0 (it_loc0 [(.ref k), (.int x0), (.int x1)] 5) [] m (it_Pv Φ) := by
  rw [w_144] at h
  refine it_V.at (pc1 := 0) (ls1 := [some (.ref k), some (.int x0), some (.int x1), none, none]) (st1 := []) (mem1 := m) rfl rfl rfl rfl ?_
  refine it_V.sN it_cd144 it_m144 1 (pc1 := 1) (ls1 := [some (.ref k), some (.int x0), some (.int x1), none, none]) (st1 := [(.ref k)]) (mem1 := m) rfl ?_
  refine it_V.getP it_cd144 it_m144 rfl (hk).1 rfl ?_
  refine it_V.at (pc1 := 4) (ls1 := [some (.ref k), some (.int x0), some (.int x1), none, none]) (st1 := [(.int (m k 14))]) (mem1 := m) rfl rfl rfl rfl ?_
  refine it_V.sN it_cd144 it_m144 3 (pc1 := 7) (ls1 := [some (.ref k), some (.int x0), some (.int x1), some (.int ((m k 14) - (1 : Int32))), none]) (st1 := []) (mem1 := m) rfl ?_
  obtain ⟨n, h⟩ := h
  exact s_144_7 kc Φ _ (fun m h => s_144_51 kc Φ m h) n k x0 x1 ((m k 14) - (1 : Int32)) (hk) m h
set_option maxRecDepth 100000 in
set_option maxHeartbeats 4000000 in
theorem s_147_18 (kc : it_Kc) (Φ : it_Me → Prop) (K51 : it_Me → Prop) (hK51 : ∀ (m : it_Me), K51 m → it_V kc it_sh0 147 51 [none, none] [] m (it_Pv Φ)) : ∀ (n : Nat) (v1 : Int32) (m : it_Me) (h : w_147_18 kc Φ K51 n v1 m), it_V kc it_sh0 147 18 [some (.ref 54), some (.int v1)] [] m (it_Pv Φ) := by
  intro n
  induction n with
  | zero => intro v1 m h; exact absurd h id
  | succ n ih =>
    intro v1 m h
    rw [w_147_18] at h
    refine it_V.sN it_cd147 it_m147 3 (pc1 := (if (8 : Int32) ≤ v1 then 51 else 24)) (ls1 := [some (.ref 54), some (.int v1)]) (st1 := []) (mem1 := m) rfl ?_
    refine it_V.ite (fun c1 => ?_) (fun c1 => ?_)
    · have h := h.1 c1
      refine it_V.weak (l := [none, none]) trivial ?_
      exact hK51 m h
    · have h := h.2 c1
      refine it_V.sN it_cd147 it_m147 4 (pc1 := 30) (ls1 := [some (.ref 54), some (.int v1)]) (st1 := [(.int (0 : Int32)), (.int v1), (.ref 55)]) (mem1 := m) rfl ?_
      obtain ⟨g2, h⟩ := h
      refine it_V.iast it_cd147 it_m147 rfl ((⟨rfl, by decide⟩ : it_isR 55 8)).1 g2 ?_
      refine it_V.at (pc1 := 31) (ls1 := [some (.ref 54), some (.int v1)]) (st1 := []) (mem1 := (it_sv m 55 (Int32.toNatClampNeg v1) (0 : Int32))) rfl rfl rfl rfl ?_
      refine it_V.sN it_cd147 it_m147 4 (pc1 := 37) (ls1 := [some (.ref 54), some (.int v1)]) (st1 := [(.int (0 : Int32)), (.int v1), (.ref 56)]) (mem1 := (it_sv m 55 (Int32.toNatClampNeg v1) (0 : Int32))) rfl ?_
      obtain ⟨g3, h⟩ := h
      refine it_V.iast it_cd147 it_m147 rfl ((⟨rfl, by decide⟩ : it_isR 56 8)).1 g3 ?_
      refine it_V.at (pc1 := 38) (ls1 := [some (.ref 54), some (.int v1)]) (st1 := []) (mem1 := (it_sv (it_sv m 55 (Int32.toNatClampNeg v1) (0 : Int32)) 56 (Int32.toNatClampNeg v1) (0 : Int32))) rfl rfl rfl rfl ?_
      refine it_V.sN it_cd147 it_m147 4 (pc1 := 44) (ls1 := [some (.ref 54), some (.int v1)]) (st1 := [(.int v1), (.int v1), (.ref 57)]) (mem1 := (it_sv (it_sv m 55 (Int32.toNatClampNeg v1) (0 : Int32)) 56 (Int32.toNatClampNeg v1) (0 : Int32))) rfl ?_
      obtain ⟨g4, h⟩ := h
      refine it_V.iast it_cd147 it_m147 rfl ((⟨rfl, by decide⟩ : it_isR 57 8)).1 g4 ?_
      refine it_V.at (pc1 := 45) (ls1 := [some (.ref 54), some (.int v1)]) (st1 := []) (mem1 := (it_sv (it_sv (it_sv m 55 (Int32.toNatClampNeg v1) (0 : Int32)) 56 (Int32.toNatClampNeg v1) (0 : Int32)) 57 (Int32.toNatClampNeg v1) v1)) rfl rfl rfl rfl ?_
      refine it_V.sN it_cd147 it_m147 2 (pc1 := 18) (ls1 := [some (.ref 54), some (.int (v1 + (1 : Int32)))]) (st1 := []) (mem1 := (it_sv (it_sv (it_sv m 55 (Int32.toNatClampNeg v1) (0 : Int32)) 56 (Int32.toNatClampNeg v1) (0 : Int32)) 57 (Int32.toNatClampNeg v1) v1)) rfl ?_
      exact ih (v1 + (1 : Int32)) (it_sv (it_sv (it_sv m 55 (Int32.toNatClampNeg v1) (0 : Int32)) 56 (Int32.toNatClampNeg v1) (0 : Int32)) 57 (Int32.toNatClampNeg v1) v1) h
set_option maxRecDepth 100000 in
set_option maxHeartbeats 4000000 in
theorem s_147_51 (kc : it_Kc) (Φ : it_Me → Prop) (m : it_Me) (h : w_147_51 kc Φ m) : it_V kc it_sh0 147 51 [none, none] [] m (it_Pv Φ) := by
  rw [w_147_51] at h
  exact it_V.ret it_cd147 it_m147 rfl rfl ⟨rfl, h⟩
set_option maxRecDepth 100000 in
set_option maxHeartbeats 4000000 in
theorem s_147 (kc : it_Kc) (m : it_Me) (Φ : it_Me → Prop) (h : w_147 kc m Φ) : it_V kc it_sh0 147 0 (it_loc0 [(.ref 54)] 2) [] m (it_Pv Φ) := by
  rw [w_147] at h
  refine it_V.at (pc1 := 0) (ls1 := [some (.ref 54), none]) (st1 := []) (mem1 := m) rfl rfl rfl rfl ?_
  refine it_V.sN it_cd147 it_m147 11 (pc1 := 18) (ls1 := [some (.ref 54), some (.int (0 : Int32))]) (st1 := []) (mem1 := (it_sv (it_sv (it_sv m 54 4 (-1 : Int32)) 54 5 (0 : Int32)) 54 9 (7 : Int32))) rfl ?_
  obtain ⟨n, h⟩ := h
  exact s_147_18 kc Φ _ (fun m h => s_147_51 kc Φ m h) n (0 : Int32) (it_sv (it_sv (it_sv m 54 4 (-1 : Int32)) 54 5 (0 : Int32)) 54 9 (7 : Int32)) h
set_option maxRecDepth 100000 in
set_option maxHeartbeats 4000000 in
theorem s_146 (kc : it_Kc) (x0 : Int32) (x1 : Int32) (m : it_Me) (Φ : it_Me → Prop) (h : w_146 kc x0 x1 m Φ) : it_V kc it_sh0 146 0 (it_loc0 [(.ref 54), (.int x0), (.int x1)] 3) [] m (it_Pv Φ) := by
  rw [w_146] at h
  refine it_V.at (pc1 := 0) (ls1 := [some (.ref 54), some (.int x0), some (.int x1)]) (st1 := []) (mem1 := m) rfl rfl rfl rfl ?_
  refine it_V.sN it_cd146 it_m146 7 (pc1 := 11) (ls1 := [some (.ref 54), some (.int x0), some (.int x1)]) (st1 := [(.ref 54)]) (mem1 := (it_sv (it_sv m 54 2 x0) 54 3 x1)) rfl ?_
  refine it_V.call it_cd146 it_m146 rfl it_m147 [(.ref 54)] [] rfl rfl ⟨Nat.le_of_ble_eq_true rfl, Nat.le_of_ble_eq_true rfl, Nat.le_of_ble_eq_true rfl, Nat.le_of_ble_eq_true rfl, rfl⟩ (s_147 kc (it_sv (it_sv m 54 2 x0) 54 3 x1) _ h) ?_
  rintro _ m1 ⟨rfl, h⟩
  refine it_V.at (pc1 := 14) (ls1 := [some (.ref 54), some (.int x0), some (.int x1)]) (st1 := []) (mem1 := m1) rfl rfl rfl rfl ?_
  exact it_V.ret it_cd146 it_m146 rfl rfl ⟨rfl, h⟩
set_option maxRecDepth 100000 in
set_option maxHeartbeats 4000000 in
theorem s_155 (kc : it_Kc) (x0 : Nat) (hx0 : it_isP x0) (m : it_Me) (Φ : Option Nat → it_Me → Prop) (h : w_155 kc x0 m Φ) : it_V kc it_sh0 155 0 (it_loc0 [(.ref 54), (.ref x0)] 2) [] m (it_Pr Φ) := by
  rw [w_155] at h
  refine it_V.at (pc1 := 0) (ls1 := [some (.ref 54), some (.ref x0)]) (st1 := []) (mem1 := m) rfl rfl rfl rfl ?_
  refine it_V.sN it_cd155 it_m155 2 (pc1 := 2) (ls1 := [some (.ref 54), some (.ref x0)]) (st1 := [(.ref x0), (.ref 54)]) (mem1 := m) rfl ?_
  refine it_V.getP it_cd155 it_m155 rfl (hx0).1 rfl ?_
  refine it_V.at (pc1 := 5) (ls1 := [some (.ref 54), some (.ref x0)]) (st1 := [(.int (m x0 0)), (.ref 54)]) (mem1 := m) rfl rfl rfl rfl ?_
  refine it_V.sN it_cd155 it_m155 3 (pc1 := 10) (ls1 := [some (.ref 54), some (.ref x0)]) (st1 := [(.int (1 : Int32)), (.ref x0)]) (mem1 := (it_sv m 54 4 (m x0 0))) rfl ?_
  refine it_V.putP it_cd155 it_m155 rfl (hx0).1 rfl rfl rfl (Or.inl rfl) ?_
  refine it_V.at (pc1 := 13) (ls1 := [some (.ref 54), some (.ref x0)]) (st1 := []) (mem1 := (it_sv (it_sv m 54 4 (m x0 0)) x0 4 (1 : Int32))) rfl rfl rfl rfl ?_
  refine it_V.sN it_cd155 it_m155 1 (pc1 := 14) (ls1 := [some (.ref 54), some (.ref x0)]) (st1 := [(.ref x0)]) (mem1 := (it_sv (it_sv m 54 4 (m x0 0)) x0 4 (1 : Int32))) rfl ?_
  exact it_V.ret it_cd155 it_m155 rfl rfl ⟨some x0, rfl, (fun q hq => by cases hq; exact hx0), h⟩
set_option maxRecDepth 100000 in
set_option maxHeartbeats 4000000 in
theorem s_149_97 (kc : it_Kc) (Φ : Option Nat → it_Me → Prop) (K48 : Int32 → it_Me → Prop) (K108 : Nat → it_Me → Prop) (K126 : it_Me → Prop) (hK48 : ∀ (v2 : Int32) (m : it_Me), K48 v2 m → it_V kc it_sh0 149 48 [some (.ref 54), none, some (.int v2), none, none] [] m (it_Pr Φ)) (hK108 : ∀ (v4 : Nat) (_ : it_isP v4) (m : it_Me), K108 v4 m → it_V kc it_sh0 149 108 [some (.ref 54), none, none, none, some (.ref v4)] [] m (it_Pr Φ)) (hK126 : ∀ (m : it_Me), K126 m → it_V kc it_sh0 149 126 [none, none, none, none, none] [] m (it_Pr Φ)) (v2 : Int32) (u1 : Int32) (m : it_Me) (h : w_149_97 kc Φ K48 K108 K126 v2 u1 m) : it_V kc it_sh0 149 97 [some (.ref 54), none, some (.int v2), none, none] [(.int u1), (.ref 10)] m (it_Pr Φ) := by
  rw [w_149_97] at h
  obtain ⟨g1, h⟩ := h
  refine it_V.aald it_cd149 it_m149 rfl g1 ?_
  refine it_V.at (pc1 := 98) (ls1 := [some (.ref 54), none, some (.int v2), none, none]) (st1 := [(.ref (14 + 5 * Int32.toNatClampNeg u1))]) (mem1 := m) rfl rfl rfl rfl ?_
  refine it_V.sN it_cd149 it_m149 2 (pc1 := 102) (ls1 := [some (.ref 54), none, some (.int v2), none, some (.ref (14 + 5 * Int32.toNatClampNeg u1))]) (st1 := [(.ref (14 + 5 * Int32.toNatClampNeg u1))]) (mem1 := m) rfl ?_
  refine it_V.call it_cd149 it_m149 rfl it_m130 [(.ref (14 + 5 * Int32.toNatClampNeg u1))] [] rfl rfl ⟨Nat.le_of_ble_eq_true rfl, Nat.le_of_ble_eq_true rfl, Nat.le_of_ble_eq_true rfl, Nat.le_of_ble_eq_true rfl, (it_recvP (it_isP_of g1).1)⟩ (s_130 kc (14 + 5 * Int32.toNatClampNeg u1) (it_isP_of g1) m _ h) ?_
  rintro _ m3 ⟨r2, rfl, h⟩
  refine it_V.at (pc1 := 105) (ls1 := [some (.ref 54), none, some (.int v2), none, some (.ref (14 + 5 * Int32.toNatClampNeg u1))]) (st1 := [(.int r2)]) (mem1 := m3) rfl rfl rfl rfl ?_
  refine it_V.sN it_cd149 it_m149 1 (pc1 := (if r2 = 0 then 120 else 108)) (ls1 := [some (.ref 54), none, some (.int v2), none, some (.ref (14 + 5 * Int32.toNatClampNeg u1))]) (st1 := []) (mem1 := m3) rfl ?_
  refine it_V.ite (fun c4 => ?_) (fun c4 => ?_)
  · have h := h.1 c4
    refine it_V.sN it_cd149 it_m149 2 (pc1 := 48) (ls1 := [some (.ref 54), none, some (.int (v2 + (1 : Int32))), none, some (.ref (14 + 5 * Int32.toNatClampNeg u1))]) (st1 := []) (mem1 := m3) rfl ?_
    refine it_V.weak (l := [some (.ref 54), none, some (.int (v2 + (1 : Int32))), none, none]) ⟨rfl, ⟨rfl, trivial⟩⟩ ?_
    exact hK48 (v2 + (1 : Int32)) m3 h
  · have h := h.2 c4
    refine it_V.weak (l := [some (.ref 54), none, none, none, some (.ref (14 + 5 * Int32.toNatClampNeg u1))]) ⟨rfl, ⟨rfl, trivial⟩⟩ ?_
    exact hK108 (14 + 5 * Int32.toNatClampNeg u1) (it_isP_of g1) m3 h
set_option maxRecDepth 100000 in
set_option maxHeartbeats 4000000 in
theorem s_149_48 (kc : it_Kc) (Φ : Option Nat → it_Me → Prop) (K108 : Nat → it_Me → Prop) (K126 : it_Me → Prop) (hK108 : ∀ (v4 : Nat) (_ : it_isP v4) (m : it_Me), K108 v4 m → it_V kc it_sh0 149 108 [some (.ref 54), none, none, none, some (.ref v4)] [] m (it_Pr Φ)) (hK126 : ∀ (m : it_Me), K126 m → it_V kc it_sh0 149 126 [none, none, none, none, none] [] m (it_Pr Φ)) : ∀ (n : Nat) (v2 : Int32) (m : it_Me) (h : w_149_48 kc Φ K108 K126 n v2 m), it_V kc it_sh0 149 48 [some (.ref 54), none, some (.int v2), none, none] [] m (it_Pr Φ) := by
  intro n
  induction n with
  | zero => intro v2 m h; exact absurd h id
  | succ n ih =>
    intro v2 m h
    rw [w_149_48] at h
    refine it_V.sN it_cd149 it_m149 5 (pc1 := (if (m 9 7) < v2 then 126 else 59)) (ls1 := [some (.ref 54), none, some (.int v2), none, none]) (st1 := []) (mem1 := m) rfl ?_
    refine it_V.ite (fun c1 => ?_) (fun c1 => ?_)
    · have h := h.1 c1
      refine it_V.weak (l := [none, none, none, none, none]) trivial ?_
      exact hK126 m h
    · have h := h.2 c1
      refine it_V.sN it_cd149 it_m149 13 (pc1 := (if (m 9 7) ≤ ((m 54 4) + v2) then 88 else 84)) (ls1 := [some (.ref 54), none, some (.int v2), some (.int ((m 54 4) + v2)), none]) (st1 := [(.ref 10)]) (mem1 := m) rfl ?_
      refine it_V.ite (fun c2 => ?_) (fun c2 => ?_)
      · have h := h.1 c2
        refine it_V.sN it_cd149 it_m149 5 (pc1 := 97) (ls1 := [some (.ref 54), none, some (.int v2), some (.int ((m 54 4) + v2)), none]) (st1 := [(.int (((m 54 4) + v2) - (m 9 7))), (.ref 10)]) (mem1 := m) rfl ?_
        refine it_V.weak (l := [some (.ref 54), none, some (.int v2), none, none]) ⟨rfl, ⟨rfl, trivial⟩⟩ ?_
        exact s_149_97 kc Φ _ _ _ ih hK108 hK126 v2 (((m 54 4) + v2) - (m 9 7)) m h
      · have h := h.2 c2
        refine it_V.sN it_cd149 it_m149 2 (pc1 := 97) (ls1 := [some (.ref 54), none, some (.int v2), some (.int ((m 54 4) + v2)), none]) (st1 := [(.int ((m 54 4) + v2)), (.ref 10)]) (mem1 := m) rfl ?_
        refine it_V.weak (l := [some (.ref 54), none, some (.int v2), none, none]) ⟨rfl, ⟨rfl, trivial⟩⟩ ?_
        exact s_149_97 kc Φ _ _ _ ih hK108 hK126 v2 ((m 54 4) + v2) m h
set_option maxRecDepth 100000 in
set_option maxHeartbeats 4000000 in
theorem s_149_108 (kc : it_Kc) (Φ : Option Nat → it_Me → Prop) (v4 : Nat) (hv4 : it_isP v4) (m : it_Me) (h : w_149_108 kc Φ v4 m) : it_V kc it_sh0 149 108 [some (.ref 54), none, none, none, some (.ref v4)] [] m (it_Pr Φ) := by
  rw [w_149_108] at h
  refine it_V.sN it_cd149 it_m149 5 (pc1 := 116) (ls1 := [some (.ref 54), none, none, none, some (.ref v4)]) (st1 := [(.ref v4), (.ref 54)]) (mem1 := (it_sv m 54 5 (1 : Int32))) rfl ?_
  refine it_V.call it_cd149 it_m149 rfl it_m155 [(.ref 54), (.ref v4)] [] rfl rfl ⟨Nat.le_of_ble_eq_true rfl, Nat.le_of_ble_eq_true rfl, Nat.le_of_ble_eq_true rfl, Nat.le_of_ble_eq_true rfl, rfl⟩ (s_155 kc v4 (hv4) (it_sv m 54 5 (1 : Int32)) _ h) ?_
  rintro _ m2 ⟨r1, rfl, hr1, h⟩
  rcases r1 with _ | q3
  · skip
    refine it_V.at (pc1 := 119) (ls1 := [some (.ref 54), none, none, none, some (.ref v4)]) (st1 := [.null]) (mem1 := m2) rfl rfl rfl rfl ?_
    exact it_V.ret it_cd149 it_m149 rfl rfl ⟨none, rfl, (fun q hq => by cases hq), h⟩
  · skip
    refine it_V.at (pc1 := 119) (ls1 := [some (.ref 54), none, none, none, some (.ref v4)]) (st1 := [(.ref q3)]) (mem1 := m2) rfl rfl rfl rfl ?_
    exact it_V.ret it_cd149 it_m149 rfl rfl ⟨some q3, rfl, (fun q hq => by cases hq; exact hr1 q3 rfl), h⟩
set_option maxRecDepth 100000 in
set_option maxHeartbeats 4000000 in
theorem s_149_126 (kc : it_Kc) (Φ : Option Nat → it_Me → Prop) (m : it_Me) (h : w_149_126 kc Φ m) : it_V kc it_sh0 149 126 [none, none, none, none, none] [] m (it_Pr Φ) := by
  rw [w_149_126] at h
  refine it_V.sN it_cd149 it_m149 1 (pc1 := 127) (ls1 := [none, none, none, none, none]) (st1 := [.null]) (mem1 := m) rfl ?_
  exact it_V.ret it_cd149 it_m149 rfl rfl ⟨none, rfl, (fun q hq => by cases hq), h⟩
set_option maxRecDepth 100000 in
set_option maxHeartbeats 4000000 in
theorem s_149_46 (kc : it_Kc) (Φ : Option Nat → it_Me → Prop) (m : it_Me) (h : w_149_46 kc Φ m) : it_V kc it_sh0 149 46 [some (.ref 54), none, none, none, none] [] m (it_Pr Φ) := by
  rw [w_149_46] at h
  refine it_V.sN it_cd149 it_m149 2 (pc1 := 48) (ls1 := [some (.ref 54), none, some (.int (1 : Int32)), none, none]) (st1 := []) (mem1 := m) rfl ?_
  refine it_V.weak (l := [some (.ref 54), none, some (.int (1 : Int32)), none, none]) ⟨rfl, ⟨rfl, trivial⟩⟩ ?_
  obtain ⟨n, h⟩ := h
  exact s_149_48 kc Φ _ _ (fun v4 hv4 m h => s_149_108 kc Φ v4 hv4 m h) (fun m h => s_149_126 kc Φ m h) n (1 : Int32) m h
set_option maxRecDepth 100000 in
set_option maxHeartbeats 4000000 in
theorem s_149 (kc : it_Kc) (m : it_Me) (Φ : Option Nat → it_Me → Prop) (h : w_149 kc m Φ) : it_V kc it_sh0 149 0 (it_loc0 [(.ref 54)] 5) [] m (it_Pr Φ) := by
  rw [w_149] at h
  refine it_V.at (pc1 := 0) (ls1 := [some (.ref 54), none, none, none, none]) (st1 := []) (mem1 := m) rfl rfl rfl rfl ?_
  refine it_V.sN it_cd149 it_m149 4 (pc1 := 8) (ls1 := [some (.ref 54), none, none, none, none]) (st1 := [(.int (m 54 4)), (.ref 9)]) (mem1 := m) rfl ?_
  refine it_V.call it_cd149 it_m149 rfl it_m72 [(.ref 9), (.int (m 54 4))] [] rfl rfl ⟨Nat.le_of_ble_eq_true rfl, Nat.le_of_ble_eq_true rfl, Nat.le_of_ble_eq_true rfl, Nat.le_of_ble_eq_true rfl, rfl⟩ (s_72 kc (m 54 4) m _ h) ?_
  rintro _ m2 ⟨r1, rfl, hr1, h⟩
  rcases r1 with _ | q3
  · skip
    refine it_V.at (pc1 := 11) (ls1 := [some (.ref 54), none, none, none, none]) (st1 := [.null]) (mem1 := m2) rfl rfl rfl rfl ?_
    have h := h.1 rfl
    refine it_V.sN it_cd149 it_m149 3 (pc1 := 46) (ls1 := [some (.ref 54), some .null, none, none, none]) (st1 := []) (mem1 := m2) rfl ?_
    refine it_V.weak (l := [some (.ref 54), none, none, none, none]) ⟨rfl, trivial⟩ ?_
    exact s_149_46 kc Φ m2 h
  · skip
    refine it_V.at (pc1 := 11) (ls1 := [some (.ref 54), none, none, none, none]) (st1 := [(.ref q3)]) (mem1 := m2) rfl rfl rfl rfl ?_
    have h := h.2 q3 rfl
    refine it_V.sN it_cd149 it_m149 4 (pc1 := 17) (ls1 := [some (.ref 54), some (.ref q3), none, none, none]) (st1 := [(.ref q3)]) (mem1 := m2) rfl ?_
    refine it_V.call it_cd149 it_m149 rfl it_m130 [(.ref q3)] [] rfl rfl ⟨Nat.le_of_ble_eq_true rfl, Nat.le_of_ble_eq_true rfl, Nat.le_of_ble_eq_true rfl, Nat.le_of_ble_eq_true rfl, (it_recvP (hr1 q3 rfl).1)⟩ (s_130 kc q3 (hr1 q3 rfl) m2 _ h) ?_
    rintro _ m5 ⟨r4, rfl, h⟩
    refine it_V.at (pc1 := 20) (ls1 := [some (.ref 54), some (.ref q3), none, none, none]) (st1 := [(.int r4)]) (mem1 := m5) rfl rfl rfl rfl ?_
    refine it_V.sN it_cd149 it_m149 1 (pc1 := (if r4 = 0 then 46 else 23)) (ls1 := [some (.ref 54), some (.ref q3), none, none, none]) (st1 := []) (mem1 := m5) rfl ?_
    refine it_V.ite (fun c6 => ?_) (fun c6 => ?_)
    · have h := h.1 c6
      refine it_V.weak (l := [some (.ref 54), none, none, none, none]) ⟨rfl, trivial⟩ ?_
      exact s_149_46 kc Φ m5 h
    · have h := h.2 c6
      refine it_V.sN it_cd149 it_m149 5 (pc1 := (if (m5 54 3) ≤ (m5 54 5) then 46 else 34)) (ls1 := [some (.ref 54), some (.ref q3), none, none, none]) (st1 := []) (mem1 := m5) rfl ?_
      refine it_V.ite (fun c7 => ?_) (fun c7 => ?_)
      · have h := h.1 c7
        refine it_V.weak (l := [some (.ref 54), none, none, none, none]) ⟨rfl, trivial⟩ ?_
        exact s_149_46 kc Φ m5 h
      · have h := h.2 c7
        refine it_V.sN it_cd149 it_m149 7 (pc1 := 45) (ls1 := [some (.ref 54), some (.ref q3), none, none, none]) (st1 := [(.ref q3)]) (mem1 := (it_sv m5 54 5 ((m5 54 5) + (1 : Int32)))) rfl ?_
        exact it_V.ret it_cd149 it_m149 rfl rfl ⟨some q3, rfl, (fun q hq => by cases hq; exact hr1 q3 rfl), h⟩
set_option maxRecDepth 100000 in
set_option maxHeartbeats 4000000 in
theorem s_150_2 (kc : it_Kc) (Φ : Option Nat → it_Me → Prop) (K30 : Nat → it_Me → Prop) (K57 : it_Me → Prop) (hK30 : ∀ (v2 : Nat) (_ : it_isP v2) (m : it_Me), K30 v2 m → it_V kc it_sh0 150 30 [some (.ref 54), none, some (.ref v2)] [] m (it_Pr Φ)) (hK57 : ∀ (m : it_Me), K57 m → it_V kc it_sh0 150 57 [none, none, none] [] m (it_Pr Φ)) : ∀ (n : Nat) (v1 : Int32) (m : it_Me) (h : w_150_2 kc Φ K30 K57 n v1 m), it_V kc it_sh0 150 2 [some (.ref 54), some (.int v1), none] [] m (it_Pr Φ) := by
  intro n
  induction n with
  | zero => intro v1 m h; exact absurd h id
  | succ n ih =>
    intro v1 m h
    rw [w_150_2] at h
    refine it_V.sN it_cd150 it_m150 5 (pc1 := (if (m 9 7) ≤ v1 then 57 else 13)) (ls1 := [some (.ref 54), some (.int v1), none]) (st1 := []) (mem1 := m) rfl ?_
    refine it_V.ite (fun c1 => ?_) (fun c1 => ?_)
    · have h := h.1 c1
      refine it_V.weak (l := [none, none, none]) trivial ?_
      exact hK57 m h
    · have h := h.2 c1
      refine it_V.sN it_cd150 it_m150 4 (pc1 := 21) (ls1 := [some (.ref 54), some (.int v1), none]) (st1 := [(.int v1), (.ref 10)]) (mem1 := m) rfl ?_
      obtain ⟨g2, h⟩ := h
      refine it_V.aald it_cd150 it_m150 rfl g2 ?_
      refine it_V.at (pc1 := 22) (ls1 := [some (.ref 54), some (.int v1), none]) (st1 := [(.ref (14 + 5 * Int32.toNatClampNeg v1))]) (mem1 := m) rfl rfl rfl rfl ?_
      refine it_V.sN it_cd150 it_m150 2 (pc1 := 24) (ls1 := [some (.ref 54), some (.int v1), some (.ref (14 + 5 * Int32.toNatClampNeg v1))]) (st1 := [(.ref (14 + 5 * Int32.toNatClampNeg v1))]) (mem1 := m) rfl ?_
      refine it_V.call it_cd150 it_m150 rfl it_m130 [(.ref (14 + 5 * Int32.toNatClampNeg v1))] [] rfl rfl ⟨Nat.le_of_ble_eq_true rfl, Nat.le_of_ble_eq_true rfl, Nat.le_of_ble_eq_true rfl, Nat.le_of_ble_eq_true rfl, (it_recvP (it_isP_of g2).1)⟩ (s_130 kc (14 + 5 * Int32.toNatClampNeg v1) (it_isP_of g2) m _ h) ?_
      rintro _ m4 ⟨r3, rfl, h⟩
      refine it_V.at (pc1 := 27) (ls1 := [some (.ref 54), some (.int v1), some (.ref (14 + 5 * Int32.toNatClampNeg v1))]) (st1 := [(.int r3)]) (mem1 := m4) rfl rfl rfl rfl ?_
      refine it_V.sN it_cd150 it_m150 1 (pc1 := (if r3 = 0 then 51 else 30)) (ls1 := [some (.ref 54), some (.int v1), some (.ref (14 + 5 * Int32.toNatClampNeg v1))]) (st1 := []) (mem1 := m4) rfl ?_
      refine it_V.ite (fun c5 => ?_) (fun c5 => ?_)
      · have h := h.1 c5
        refine it_V.sN it_cd150 it_m150 2 (pc1 := 2) (ls1 := [some (.ref 54), some (.int (v1 + (1 : Int32))), some (.ref (14 + 5 * Int32.toNatClampNeg v1))]) (st1 := []) (mem1 := m4) rfl ?_
        refine it_V.weak (l := [some (.ref 54), some (.int (v1 + (1 : Int32))), none]) ⟨rfl, ⟨rfl, trivial⟩⟩ ?_
        exact ih (v1 + (1 : Int32)) m4 h
      · have h := h.2 c5
        refine it_V.weak (l := [some (.ref 54), none, some (.ref (14 + 5 * Int32.toNatClampNeg v1))]) ⟨rfl, ⟨rfl, trivial⟩⟩ ?_
        exact hK30 (14 + 5 * Int32.toNatClampNeg v1) (it_isP_of g2) m4 h
set_option maxRecDepth 100000 in
set_option maxHeartbeats 4000000 in
theorem s_150_50 (kc : it_Kc) (Φ : Option Nat → it_Me → Prop) (u0 : Option Nat) (hu0 : ∀ q, u0 = some q → it_isP q) (m : it_Me) (h : w_150_50 kc Φ u0 m) : it_V kc it_sh0 150 50 [none, none, none] [(va_rf u0)] m (it_Pr Φ) := by
  rw [w_150_50] at h
  rcases u0 with _ | q1
  · skip
    exact it_V.ret it_cd150 it_m150 rfl rfl ⟨none, rfl, (fun q hq => by cases hq), h⟩
  · skip
    exact it_V.ret it_cd150 it_m150 rfl rfl ⟨some q1, rfl, (fun q hq => by cases hq; exact hu0 q1 rfl), h⟩
set_option maxRecDepth 100000 in
set_option maxHeartbeats 4000000 in
theorem s_150_30 (kc : it_Kc) (Φ : Option Nat → it_Me → Prop) (v2 : Nat) (hv2 : it_isP v2) (m : it_Me) (h : w_150_30 kc Φ v2 m) : it_V kc it_sh0 150 30 [some (.ref 54), none, some (.ref v2)] [] m (it_Pr Φ) := by
  rw [w_150_30] at h
  refine it_V.sN it_cd150 it_m150 1 (pc1 := 31) (ls1 := [some (.ref 54), none, some (.ref v2)]) (st1 := [(.ref v2)]) (mem1 := m) rfl ?_
  refine it_V.getP it_cd150 it_m150 rfl (hv2).1 rfl ?_
  refine it_V.at (pc1 := 34) (ls1 := [some (.ref 54), none, some (.ref v2)]) (st1 := [(.int (m v2 0))]) (mem1 := m) rfl rfl rfl rfl ?_
  refine it_V.sN it_cd150 it_m150 3 (pc1 := (if (m v2 0) = (m 54 4) then 41 else 45)) (ls1 := [some (.ref 54), none, some (.ref v2)]) (st1 := []) (mem1 := m) rfl ?_
  refine it_V.ite (fun c1 => ?_) (fun c1 => ?_)
  · have h := h.1 c1
    refine it_V.sN it_cd150 it_m150 2 (pc1 := 50) (ls1 := [some (.ref 54), none, some (.ref v2)]) (st1 := [(.ref v2)]) (mem1 := m) rfl ?_
    refine it_V.weak (l := [none, none, none]) trivial ?_
    exact s_150_50 kc Φ (some v2) (fun q hq => by cases hq; exact hv2) m h
  · have h := h.2 c1
    refine it_V.sN it_cd150 it_m150 2 (pc1 := 47) (ls1 := [some (.ref 54), none, some (.ref v2)]) (st1 := [(.ref v2), (.ref 54)]) (mem1 := m) rfl ?_
    refine it_V.call it_cd150 it_m150 rfl it_m155 [(.ref 54), (.ref v2)] [] rfl rfl ⟨Nat.le_of_ble_eq_true rfl, Nat.le_of_ble_eq_true rfl, Nat.le_of_ble_eq_true rfl, Nat.le_of_ble_eq_true rfl, rfl⟩ (s_155 kc v2 (hv2) m _ h) ?_
    rintro _ m3 ⟨r2, rfl, hr2, h⟩
    rcases r2 with _ | q4
    · skip
      refine it_V.at (pc1 := 50) (ls1 := [some (.ref 54), none, some (.ref v2)]) (st1 := [.null]) (mem1 := m3) rfl rfl rfl rfl ?_
      refine it_V.weak (l := [none, none, none]) trivial ?_
      exact s_150_50 kc Φ none (fun q hq => by cases hq) m3 h
    · skip
      refine it_V.at (pc1 := 50) (ls1 := [some (.ref 54), none, some (.ref v2)]) (st1 := [(.ref q4)]) (mem1 := m3) rfl rfl rfl rfl ?_
      refine it_V.weak (l := [none, none, none]) trivial ?_
      exact s_150_50 kc Φ (some q4) (fun q hq => by cases hq; exact hr2 q4 rfl) m3 h
set_option maxRecDepth 100000 in
set_option maxHeartbeats 4000000 in
theorem s_150_57 (kc : it_Kc) (Φ : Option Nat → it_Me → Prop) (m : it_Me) (h : w_150_57 kc Φ m) : it_V kc it_sh0 150 57 [none, none, none] [] m (it_Pr Φ) := by
  rw [w_150_57] at h
  refine it_V.sN it_cd150 it_m150 1 (pc1 := 58) (ls1 := [none, none, none]) (st1 := [.null]) (mem1 := m) rfl ?_
  exact it_V.ret it_cd150 it_m150 rfl rfl ⟨none, rfl, (fun q hq => by cases hq), h⟩
set_option maxRecDepth 100000 in
set_option maxHeartbeats 4000000 in
theorem s_150 (kc : it_Kc) (m : it_Me) (Φ : Option Nat → it_Me → Prop) (h : w_150 kc m Φ) : it_V kc it_sh0 150 0 (it_loc0 [(.ref 54)] 3) [] m (it_Pr Φ) := by
  rw [w_150] at h
  refine it_V.at (pc1 := 0) (ls1 := [some (.ref 54), none, none]) (st1 := []) (mem1 := m) rfl rfl rfl rfl ?_
  refine it_V.sN it_cd150 it_m150 2 (pc1 := 2) (ls1 := [some (.ref 54), some (.int (0 : Int32)), none]) (st1 := []) (mem1 := m) rfl ?_
  obtain ⟨n, h⟩ := h
  exact s_150_2 kc Φ _ _ (fun v2 hv2 m h => s_150_30 kc Φ v2 hv2 m h) (fun m h => s_150_57 kc Φ m h) n (0 : Int32) m h
set_option maxRecDepth 100000 in
set_option maxHeartbeats 4000000 in
theorem s_152_2 (kc : it_Kc) (Φ : Int32 → it_Me → Prop) (K28 : it_Me → Prop) (K36 : it_Me → Prop) (hK28 : ∀ (m : it_Me), K28 m → it_V kc it_sh0 152 28 [none, none] [] m (it_Pi Φ)) (hK36 : ∀ (m : it_Me), K36 m → it_V kc it_sh0 152 36 [none, none] [] m (it_Pi Φ)) : ∀ (n : Nat) (v1 : Int32) (m : it_Me) (h : w_152_2 kc Φ K28 K36 n v1 m), it_V kc it_sh0 152 2 [some (.ref 54), some (.int v1)] [] m (it_Pi Φ) := by
  intro n
  induction n with
  | zero => intro v1 m h; exact absurd h id
  | succ n ih =>
    intro v1 m h
    rw [w_152_2] at h
    refine it_V.sN it_cd152 it_m152 5 (pc1 := (if (m 9 7) ≤ v1 then 36 else 13)) (ls1 := [some (.ref 54), some (.int v1)]) (st1 := []) (mem1 := m) rfl ?_
    refine it_V.ite (fun c1 => ?_) (fun c1 => ?_)
    · have h := h.1 c1
      refine it_V.weak (l := [none, none]) trivial ?_
      exact hK36 m h
    · have h := h.2 c1
      refine it_V.sN it_cd152 it_m152 4 (pc1 := 21) (ls1 := [some (.ref 54), some (.int v1)]) (st1 := [(.int v1), (.ref 10)]) (mem1 := m) rfl ?_
      obtain ⟨g2, h⟩ := h
      refine it_V.aald it_cd152 it_m152 rfl g2 ?_
      refine it_V.at (pc1 := 22) (ls1 := [some (.ref 54), some (.int v1)]) (st1 := [(.ref (14 + 5 * Int32.toNatClampNeg v1))]) (mem1 := m) rfl rfl rfl rfl ?_
      refine it_V.call it_cd152 it_m152 rfl it_m130 [(.ref (14 + 5 * Int32.toNatClampNeg v1))] [] rfl rfl ⟨Nat.le_of_ble_eq_true rfl, Nat.le_of_ble_eq_true rfl, Nat.le_of_ble_eq_true rfl, Nat.le_of_ble_eq_true rfl, (it_recvP (it_isP_of g2).1)⟩ (s_130 kc (14 + 5 * Int32.toNatClampNeg v1) (it_isP_of g2) m _ h) ?_
      rintro _ m4 ⟨r3, rfl, h⟩
      refine it_V.at (pc1 := 25) (ls1 := [some (.ref 54), some (.int v1)]) (st1 := [(.int r3)]) (mem1 := m4) rfl rfl rfl rfl ?_
      refine it_V.sN it_cd152 it_m152 1 (pc1 := (if r3 = 0 then 30 else 28)) (ls1 := [some (.ref 54), some (.int v1)]) (st1 := []) (mem1 := m4) rfl ?_
      refine it_V.ite (fun c5 => ?_) (fun c5 => ?_)
      · have h := h.1 c5
        refine it_V.sN it_cd152 it_m152 2 (pc1 := 2) (ls1 := [some (.ref 54), some (.int (v1 + (1 : Int32)))]) (st1 := []) (mem1 := m4) rfl ?_
        exact ih (v1 + (1 : Int32)) m4 h
      · have h := h.2 c5
        refine it_V.weak (l := [none, none]) trivial ?_
        exact hK28 m4 h
set_option maxRecDepth 100000 in
set_option maxHeartbeats 4000000 in
theorem s_152_28 (kc : it_Kc) (Φ : Int32 → it_Me → Prop) (m : it_Me) (h : w_152_28 kc Φ m) : it_V kc it_sh0 152 28 [none, none] [] m (it_Pi Φ) := by
  rw [w_152_28] at h
  refine it_V.sN it_cd152 it_m152 1 (pc1 := 29) (ls1 := [none, none]) (st1 := [(.int (1 : Int32))]) (mem1 := m) rfl ?_
  exact it_V.ret it_cd152 it_m152 rfl rfl ⟨_, rfl, h⟩
set_option maxRecDepth 100000 in
set_option maxHeartbeats 4000000 in
theorem s_152_36 (kc : it_Kc) (Φ : Int32 → it_Me → Prop) (m : it_Me) (h : w_152_36 kc Φ m) : it_V kc it_sh0 152 36 [none, none] [] m (it_Pi Φ) := by
  rw [w_152_36] at h
  refine it_V.sN it_cd152 it_m152 1 (pc1 := 37) (ls1 := [none, none]) (st1 := [(.int (0 : Int32))]) (mem1 := m) rfl ?_
  exact it_V.ret it_cd152 it_m152 rfl rfl ⟨_, rfl, h⟩
set_option maxRecDepth 100000 in
set_option maxHeartbeats 4000000 in
theorem s_152 (kc : it_Kc) (m : it_Me) (Φ : Int32 → it_Me → Prop) (h : w_152 kc m Φ) : it_V kc it_sh0 152 0 (it_loc0 [(.ref 54)] 2) [] m (it_Pi Φ) := by
  rw [w_152] at h
  refine it_V.at (pc1 := 0) (ls1 := [some (.ref 54), none]) (st1 := []) (mem1 := m) rfl rfl rfl rfl ?_
  refine it_V.sN it_cd152 it_m152 2 (pc1 := 2) (ls1 := [some (.ref 54), some (.int (0 : Int32))]) (st1 := []) (mem1 := m) rfl ?_
  obtain ⟨n, h⟩ := h
  exact s_152_2 kc Φ _ _ (fun m h => s_152_28 kc Φ m h) (fun m h => s_152_36 kc Φ m h) n (0 : Int32) m h
set_option maxRecDepth 100000 in
set_option maxHeartbeats 4000000 in
theorem s_153_38 (kc : it_Kc) (Φ : it_Me → Prop) (m : it_Me) (h : w_153_38 kc Φ m) : it_V kc it_sh0 153 38 [some (.ref 54), none] [] m (it_Pv Φ) := by
  rw [w_153_38] at h
  refine it_V.sN it_cd153 it_m153 12 (pc1 := 60) (ls1 := [some (.ref 54), none]) (st1 := [(.int ((it_sv m 54 9 ((m 54 9) + (1 : Int32))) 54 9)), (.int ((it_sv m 54 9 ((m 54 9) + (1 : Int32))) 54 4)), (.ref 57)]) (mem1 := (it_sv m 54 9 ((m 54 9) + (1 : Int32)))) rfl ?_
  obtain ⟨g1, h⟩ := h
  refine it_V.iast it_cd153 it_m153 rfl ((⟨rfl, by decide⟩ : it_isR 57 8)).1 g1 ?_
  refine it_V.at (pc1 := 61) (ls1 := [some (.ref 54), none]) (st1 := []) (mem1 := (it_sv (it_sv m 54 9 ((m 54 9) + (1 : Int32))) 57 (Int32.toNatClampNeg ((it_sv m 54 9 ((m 54 9) + (1 : Int32))) 54 4)) ((it_sv m 54 9 ((m 54 9) + (1 : Int32))) 54 9))) rfl rfl rfl rfl ?_
  exact it_V.ret it_cd153 it_m153 rfl rfl ⟨rfl, h⟩
set_option maxRecDepth 100000 in
set_option maxHeartbeats 4000000 in
theorem s_153 (kc : it_Kc) (x0 : Int32) (m : it_Me) (Φ : it_Me → Prop) (h : w_153 kc x0 m Φ) : it_V kc it_sh0 153 0 (it_loc0 [(.ref 54), (.int x0)] 2) [] m (it_Pv Φ) := by
  rw [w_153] at h
  refine it_V.at (pc1 := 0) (ls1 := [some (.ref 54), some (.int x0)]) (st1 := []) (mem1 := m) rfl rfl rfl rfl ?_
  refine it_V.sN it_cd153 it_m153 2 (pc1 := (if x0 = 0 then 4 else 38)) (ls1 := [some (.ref 54), some (.int x0)]) (st1 := []) (mem1 := m) rfl ?_
  refine it_V.ite (fun c1 => ?_) (fun c1 => ?_)
  · have h := h.1 c1
    refine it_V.sN it_cd153 it_m153 9 (pc1 := 21) (ls1 := [some (.ref 54), some (.int x0)]) (st1 := [(.int (m 54 4)), (.ref 55), (.int (2 : Int32)), (.int (m 54 4)), (.ref 55)]) (mem1 := m) rfl ?_
    obtain ⟨g2, h⟩ := h
    refine it_V.iald it_cd153 it_m153 rfl ((⟨rfl, by decide⟩ : it_isR 55 8)).2 ((⟨rfl, by decide⟩ : it_isR 55 8)).1 g2 ?_
    refine it_V.at (pc1 := 22) (ls1 := [some (.ref 54), some (.int x0)]) (st1 := [(.int (m 55 (Int32.toNatClampNeg (m 54 4)))), (.int (2 : Int32)), (.int (m 54 4)), (.ref 55)]) (mem1 := m) rfl rfl rfl rfl ?_
    refine it_V.sN it_cd153 it_m153 3 (pc1 := 27) (ls1 := [some (.ref 54), some (.int x0)]) (st1 := [(.int (it_min (2 : Int32) ((m 55 (Int32.toNatClampNeg (m 54 4))) + (1 : Int32)))), (.int (m 54 4)), (.ref 55)]) (mem1 := m) rfl ?_
    obtain ⟨g3, h⟩ := h
    refine it_V.iast it_cd153 it_m153 rfl ((⟨rfl, by decide⟩ : it_isR 55 8)).1 g3 ?_
    refine it_V.at (pc1 := 28) (ls1 := [some (.ref 54), some (.int x0)]) (st1 := []) (mem1 := (it_sv m 55 (Int32.toNatClampNeg (m 54 4)) (it_min (2 : Int32) ((m 55 (Int32.toNatClampNeg (m 54 4))) + (1 : Int32))))) rfl rfl rfl rfl ?_
    refine it_V.sN it_cd153 it_m153 5 (pc1 := 37) (ls1 := [some (.ref 54), some (.int x0)]) (st1 := [(.int (0 : Int32)), (.int ((it_sv m 55 (Int32.toNatClampNeg (m 54 4)) (it_min (2 : Int32) ((m 55 (Int32.toNatClampNeg (m 54 4))) + (1 : Int32)))) 54 4)), (.ref 56)]) (mem1 := (it_sv m 55 (Int32.toNatClampNeg (m 54 4)) (it_min (2 : Int32) ((m 55 (Int32.toNatClampNeg (m 54 4))) + (1 : Int32))))) rfl ?_
    obtain ⟨g4, h⟩ := h
    refine it_V.iast it_cd153 it_m153 rfl ((⟨rfl, by decide⟩ : it_isR 56 8)).1 g4 ?_
    refine it_V.at (pc1 := 38) (ls1 := [some (.ref 54), some (.int x0)]) (st1 := []) (mem1 := (it_sv (it_sv m 55 (Int32.toNatClampNeg (m 54 4)) (it_min (2 : Int32) ((m 55 (Int32.toNatClampNeg (m 54 4))) + (1 : Int32)))) 56 (Int32.toNatClampNeg ((it_sv m 55 (Int32.toNatClampNeg (m 54 4)) (it_min (2 : Int32) ((m 55 (Int32.toNatClampNeg (m 54 4))) + (1 : Int32)))) 54 4)) (0 : Int32))) rfl rfl rfl rfl ?_
    refine it_V.weak (l := [some (.ref 54), none]) ⟨rfl, trivial⟩ ?_
    exact s_153_38 kc Φ (it_sv (it_sv m 55 (Int32.toNatClampNeg (m 54 4)) (it_min (2 : Int32) ((m 55 (Int32.toNatClampNeg (m 54 4))) + (1 : Int32)))) 56 (Int32.toNatClampNeg ((it_sv m 55 (Int32.toNatClampNeg (m 54 4)) (it_min (2 : Int32) ((m 55 (Int32.toNatClampNeg (m 54 4))) + (1 : Int32)))) 54 4)) (0 : Int32)) h
  · have h := h.2 c1
    refine it_V.weak (l := [some (.ref 54), none]) ⟨rfl, trivial⟩ ?_
    exact s_153_38 kc Φ m h
set_option maxRecDepth 100000 in
set_option maxHeartbeats 4000000 in
theorem s_154_82 (kc : it_Kc) (Φ : Int32 → it_Me → Prop) (K4 : Int32 → Int32 → it_Me → Prop) (K88 : Int32 → it_Me → Prop) (hK4 : ∀ (v1 : Int32) (v2 : Int32) (m : it_Me), K4 v1 v2 m → it_V kc it_sh0 154 4 [some (.ref 54), some (.int v1), some (.int v2)] [] m (it_Pi Φ)) (hK88 : ∀ (v1 : Int32) (m : it_Me), K88 v1 m → it_V kc it_sh0 154 88 [none, some (.int v1), none] [] m (it_Pi Φ)) (v1 : Int32) (v2 : Int32) (m : it_Me) (h : w_154_82 kc Φ K4 K88 v1 v2 m) : it_V kc it_sh0 154 82 [some (.ref 54), some (.int v1), some (.int v2)] [] m (it_Pi Φ) := by
  rw [w_154_82] at h
  refine it_V.sN it_cd154 it_m154 2 (pc1 := 4) (ls1 := [some (.ref 54), some (.int v1), some (.int (v2 + (1 : Int32)))]) (st1 := []) (mem1 := m) rfl ?_
  exact hK4 v1 (v2 + (1 : Int32)) m h
set_option maxRecDepth 100000 in
set_option maxHeartbeats 4000000 in
theorem s_154_80 (kc : it_Kc) (Φ : Int32 → it_Me → Prop) (K4 : Int32 → Int32 → it_Me → Prop) (K88 : Int32 → it_Me → Prop) (hK4 : ∀ (v1 : Int32) (v2 : Int32) (m : it_Me), K4 v1 v2 m → it_V kc it_sh0 154 4 [some (.ref 54), some (.int v1), some (.int v2)] [] m (it_Pi Φ)) (hK88 : ∀ (v1 : Int32) (m : it_Me), K88 v1 m → it_V kc it_sh0 154 88 [none, some (.int v1), none] [] m (it_Pi Φ)) (v2 : Int32) (m : it_Me) (h : w_154_80 kc Φ K4 K88 v2 m) : it_V kc it_sh0 154 80 [some (.ref 54), none, some (.int v2)] [] m (it_Pi Φ) := by
  rw [w_154_80] at h
  refine it_V.sN it_cd154 it_m154 2 (pc1 := 82) (ls1 := [some (.ref 54), some (.int v2), some (.int v2)]) (st1 := []) (mem1 := m) rfl ?_
  exact s_154_82 kc Φ _ _ hK4 hK88 v2 v2 m h
set_option maxRecDepth 100000 in
set_option maxHeartbeats 4000000 in
theorem s_154_4 (kc : it_Kc) (Φ : Int32 → it_Me → Prop) (K88 : Int32 → it_Me → Prop) (hK88 : ∀ (v1 : Int32) (m : it_Me), K88 v1 m → it_V kc it_sh0 154 88 [none, some (.int v1), none] [] m (it_Pi Φ)) : ∀ (n : Nat) (v1 : Int32) (v2 : Int32) (m : it_Me) (h : w_154_4 kc Φ K88 n v1 v2 m), it_V kc it_sh0 154 4 [some (.ref 54), some (.int v1), some (.int v2)] [] m (it_Pi Φ) := by
  intro n
  induction n with
  | zero => intro v1 v2 m h; exact absurd h id
  | succ n ih =>
    intro v1 v2 m h
    rw [w_154_4] at h
    refine it_V.sN it_cd154 it_m154 5 (pc1 := (if (m 9 7) ≤ v2 then 88 else 15)) (ls1 := [some (.ref 54), some (.int v1), some (.int v2)]) (st1 := []) (mem1 := m) rfl ?_
    refine it_V.ite (fun c1 => ?_) (fun c1 => ?_)
    · have h := h.1 c1
      refine it_V.weak (l := [none, some (.int v1), none]) ⟨rfl, trivial⟩ ?_
      exact hK88 v1 m h
    · have h := h.2 c1
      refine it_V.sN it_cd154 it_m154 4 (pc1 := 23) (ls1 := [some (.ref 54), some (.int v1), some (.int v2)]) (st1 := [(.int v2), (.ref 10)]) (mem1 := m) rfl ?_
      obtain ⟨g2, h⟩ := h
      refine it_V.aald it_cd154 it_m154 rfl g2 ?_
      refine it_V.at (pc1 := 24) (ls1 := [some (.ref 54), some (.int v1), some (.int v2)]) (st1 := [(.ref (14 + 5 * Int32.toNatClampNeg v2))]) (mem1 := m) rfl rfl rfl rfl ?_
      refine it_V.call it_cd154 it_m154 rfl it_m130 [(.ref (14 + 5 * Int32.toNatClampNeg v2))] [] rfl rfl ⟨Nat.le_of_ble_eq_true rfl, Nat.le_of_ble_eq_true rfl, Nat.le_of_ble_eq_true rfl, Nat.le_of_ble_eq_true rfl, (it_recvP (it_isP_of g2).1)⟩ (s_130 kc (14 + 5 * Int32.toNatClampNeg v2) (it_isP_of g2) m _ h) ?_
      rintro _ m4 ⟨r3, rfl, h⟩
      refine it_V.at (pc1 := 27) (ls1 := [some (.ref 54), some (.int v1), some (.int v2)]) (st1 := [(.int r3)]) (mem1 := m4) rfl rfl rfl rfl ?_
      refine it_V.sN it_cd154 it_m154 1 (pc1 := (if r3 = 0 then 82 else 30)) (ls1 := [some (.ref 54), some (.int v1), some (.int v2)]) (st1 := []) (mem1 := m4) rfl ?_
      refine it_V.ite (fun c5 => ?_) (fun c5 => ?_)
      · have h := h.1 c5
        exact s_154_82 kc Φ _ _ ih hK88 v1 v2 m4 h
      · have h := h.2 c5
        refine it_V.sN it_cd154 it_m154 3 (pc1 := (if v1 = (-1 : Int32) then 80 else 35)) (ls1 := [some (.ref 54), some (.int v1), some (.int v2)]) (st1 := []) (mem1 := m4) rfl ?_
        refine it_V.ite (fun c6 => ?_) (fun c6 => ?_)
        · have h := h.1 c6
          refine it_V.weak (l := [some (.ref 54), none, some (.int v2)]) ⟨rfl, ⟨rfl, trivial⟩⟩ ?_
          exact s_154_80 kc Φ _ _ ih hK88 v2 m4 h
        · have h := h.2 c6
          refine it_V.sN it_cd154 it_m154 3 (pc1 := 40) (ls1 := [some (.ref 54), some (.int v1), some (.int v2)]) (st1 := [(.int v2), (.ref 55)]) (mem1 := m4) rfl ?_
          obtain ⟨g7, h⟩ := h
          refine it_V.iald it_cd154 it_m154 rfl ((⟨rfl, by decide⟩ : it_isR 55 8)).2 ((⟨rfl, by decide⟩ : it_isR 55 8)).1 g7 ?_
          refine it_V.at (pc1 := 41) (ls1 := [some (.ref 54), some (.int v1), some (.int v2)]) (st1 := [(.int (m4 55 (Int32.toNatClampNeg v2)))]) (mem1 := m4) rfl rfl rfl rfl ?_
          refine it_V.sN it_cd154 it_m154 3 (pc1 := 46) (ls1 := [some (.ref 54), some (.int v1), some (.int v2)]) (st1 := [(.int v1), (.ref 55), (.int (m4 55 (Int32.toNatClampNeg v2)))]) (mem1 := m4) rfl ?_
          obtain ⟨g8, h⟩ := h
          refine it_V.iald it_cd154 it_m154 rfl ((⟨rfl, by decide⟩ : it_isR 55 8)).2 ((⟨rfl, by decide⟩ : it_isR 55 8)).1 g8 ?_
          refine it_V.at (pc1 := 47) (ls1 := [some (.ref 54), some (.int v1), some (.int v2)]) (st1 := [(.int (m4 55 (Int32.toNatClampNeg v1))), (.int (m4 55 (Int32.toNatClampNeg v2)))]) (mem1 := m4) rfl rfl rfl rfl ?_
          refine it_V.sN it_cd154 it_m154 1 (pc1 := (if (m4 55 (Int32.toNatClampNeg v2)) < (m4 55 (Int32.toNatClampNeg v1)) then 80 else 50)) (ls1 := [some (.ref 54), some (.int v1), some (.int v2)]) (st1 := []) (mem1 := m4) rfl ?_
          refine it_V.ite (fun c9 => ?_) (fun c9 => ?_)
          · have h := h.1 c9
            refine it_V.weak (l := [some (.ref 54), none, some (.int v2)]) ⟨rfl, ⟨rfl, trivial⟩⟩ ?_
            exact s_154_80 kc Φ _ _ ih hK88 v2 m4 h
          · have h := h.2 c9
            refine it_V.sN it_cd154 it_m154 3 (pc1 := 55) (ls1 := [some (.ref 54), some (.int v1), some (.int v2)]) (st1 := [(.int v2), (.ref 55)]) (mem1 := m4) rfl ?_
            obtain ⟨g10, h⟩ := h
            refine it_V.iald it_cd154 it_m154 rfl ((⟨rfl, by decide⟩ : it_isR 55 8)).2 ((⟨rfl, by decide⟩ : it_isR 55 8)).1 g10 ?_
            refine it_V.at (pc1 := 56) (ls1 := [some (.ref 54), some (.int v1), some (.int v2)]) (st1 := [(.int (m4 55 (Int32.toNatClampNeg v2)))]) (mem1 := m4) rfl rfl rfl rfl ?_
            refine it_V.sN it_cd154 it_m154 3 (pc1 := 61) (ls1 := [some (.ref 54), some (.int v1), some (.int v2)]) (st1 := [(.int v1), (.ref 55), (.int (m4 55 (Int32.toNatClampNeg v2)))]) (mem1 := m4) rfl ?_
            obtain ⟨g11, h⟩ := h
            refine it_V.iald it_cd154 it_m154 rfl ((⟨rfl, by decide⟩ : it_isR 55 8)).2 ((⟨rfl, by decide⟩ : it_isR 55 8)).1 g11 ?_
            refine it_V.at (pc1 := 62) (ls1 := [some (.ref 54), some (.int v1), some (.int v2)]) (st1 := [(.int (m4 55 (Int32.toNatClampNeg v1))), (.int (m4 55 (Int32.toNatClampNeg v2)))]) (mem1 := m4) rfl rfl rfl rfl ?_
            refine it_V.sN it_cd154 it_m154 1 (pc1 := (if (m4 55 (Int32.toNatClampNeg v2)) = (m4 55 (Int32.toNatClampNeg v1)) then 65 else 82)) (ls1 := [some (.ref 54), some (.int v1), some (.int v2)]) (st1 := []) (mem1 := m4) rfl ?_
            refine it_V.ite (fun c12 => ?_) (fun c12 => ?_)
            · have h := h.1 c12
              refine it_V.sN it_cd154 it_m154 3 (pc1 := 70) (ls1 := [some (.ref 54), some (.int v1), some (.int v2)]) (st1 := [(.int v2), (.ref 57)]) (mem1 := m4) rfl ?_
              obtain ⟨g13, h⟩ := h
              refine it_V.iald it_cd154 it_m154 rfl ((⟨rfl, by decide⟩ : it_isR 57 8)).2 ((⟨rfl, by decide⟩ : it_isR 57 8)).1 g13 ?_
              refine it_V.at (pc1 := 71) (ls1 := [some (.ref 54), some (.int v1), some (.int v2)]) (st1 := [(.int (m4 57 (Int32.toNatClampNeg v2)))]) (mem1 := m4) rfl rfl rfl rfl ?_
              refine it_V.sN it_cd154 it_m154 3 (pc1 := 76) (ls1 := [some (.ref 54), some (.int v1), some (.int v2)]) (st1 := [(.int v1), (.ref 57), (.int (m4 57 (Int32.toNatClampNeg v2)))]) (mem1 := m4) rfl ?_
              obtain ⟨g14, h⟩ := h
              refine it_V.iald it_cd154 it_m154 rfl ((⟨rfl, by decide⟩ : it_isR 57 8)).2 ((⟨rfl, by decide⟩ : it_isR 57 8)).1 g14 ?_
              refine it_V.at (pc1 := 77) (ls1 := [some (.ref 54), some (.int v1), some (.int v2)]) (st1 := [(.int (m4 57 (Int32.toNatClampNeg v1))), (.int (m4 57 (Int32.toNatClampNeg v2)))]) (mem1 := m4) rfl rfl rfl rfl ?_
              refine it_V.sN it_cd154 it_m154 1 (pc1 := (if (m4 57 (Int32.toNatClampNeg v1)) ≤ (m4 57 (Int32.toNatClampNeg v2)) then 82 else 80)) (ls1 := [some (.ref 54), some (.int v1), some (.int v2)]) (st1 := []) (mem1 := m4) rfl ?_
              refine it_V.ite (fun c15 => ?_) (fun c15 => ?_)
              · have h := h.1 c15
                exact s_154_82 kc Φ _ _ ih hK88 v1 v2 m4 h
              · have h := h.2 c15
                refine it_V.weak (l := [some (.ref 54), none, some (.int v2)]) ⟨rfl, ⟨rfl, trivial⟩⟩ ?_
                exact s_154_80 kc Φ _ _ ih hK88 v2 m4 h
            · have h := h.2 c12
              exact s_154_82 kc Φ _ _ ih hK88 v1 v2 m4 h
set_option maxRecDepth 100000 in
set_option maxHeartbeats 4000000 in
theorem s_154_88 (kc : it_Kc) (Φ : Int32 → it_Me → Prop) (v1 : Int32) (m : it_Me) (h : w_154_88 kc Φ v1 m) : it_V kc it_sh0 154 88 [none, some (.int v1), none] [] m (it_Pi Φ) := by
  rw [w_154_88] at h
  refine it_V.sN it_cd154 it_m154 3 (pc1 := 93) (ls1 := [none, some (.int v1), none]) (st1 := [(.int (it_max v1 (0 : Int32)))]) (mem1 := m) rfl ?_
  exact it_V.ret it_cd154 it_m154 rfl rfl ⟨_, rfl, h⟩
set_option maxRecDepth 100000 in
set_option maxHeartbeats 4000000 in
theorem s_154 (kc : it_Kc) (m : it_Me) (Φ : Int32 → it_Me → Prop) (h : w_154 kc m Φ) : it_V kc it_sh0 154 0 (it_loc0 [(.ref 54)] 3) [] m (it_Pi Φ) := by
  rw [w_154] at h
  refine it_V.at (pc1 := 0) (ls1 := [some (.ref 54), none, none]) (st1 := []) (mem1 := m) rfl rfl rfl rfl ?_
  refine it_V.sN it_cd154 it_m154 4 (pc1 := 4) (ls1 := [some (.ref 54), some (.int (-1 : Int32)), some (.int (0 : Int32))]) (st1 := []) (mem1 := m) rfl ?_
  obtain ⟨n, h⟩ := h
  exact s_154_4 kc Φ _ (fun v1 m h => s_154_88 kc Φ v1 m h) n (-1 : Int32) (0 : Int32) m h
set_option maxRecDepth 100000 in
set_option maxHeartbeats 4000000 in
theorem s_151_119 (kc : it_Kc) (Φ : Option Nat → it_Me → Prop) (m : it_Me) (h : w_151_119 kc Φ m) : it_V kc it_sh0 151 119 [some (.ref 54), none, none] [] m (it_Pr Φ) := by
  rw [w_151_119] at h
  refine it_V.sN it_cd151 it_m151 4 (pc1 := 127) (ls1 := [some (.ref 54), none, none]) (st1 := [(.ref 54), (.ref 10)]) (mem1 := m) rfl ?_
  refine it_V.call it_cd151 it_m151 rfl it_m154 [(.ref 54)] [(.ref 10)] rfl rfl ⟨Nat.le_of_ble_eq_true rfl, Nat.le_of_ble_eq_true rfl, Nat.le_of_ble_eq_true rfl, Nat.le_of_ble_eq_true rfl, rfl⟩ (s_154 kc m _ h) ?_
  rintro _ m2 ⟨r1, rfl, h⟩
  refine it_V.at (pc1 := 130) (ls1 := [some (.ref 54), none, none]) (st1 := [(.int r1), (.ref 10)]) (mem1 := m2) rfl rfl rfl rfl ?_
  obtain ⟨g3, h⟩ := h
  refine it_V.aald it_cd151 it_m151 rfl g3 ?_
  refine it_V.at (pc1 := 131) (ls1 := [some (.ref 54), none, none]) (st1 := [(.ref (14 + 5 * Int32.toNatClampNeg r1))]) (mem1 := m2) rfl rfl rfl rfl ?_
  refine it_V.sN it_cd151 it_m151 4 (pc1 := 137) (ls1 := [some (.ref 54), none, some (.ref (14 + 5 * Int32.toNatClampNeg r1))]) (st1 := [(.ref (14 + 5 * Int32.toNatClampNeg r1)), (.ref 56)]) (mem1 := m2) rfl ?_
  refine it_V.getP it_cd151 it_m151 rfl (it_isP_of g3).1 rfl ?_
  refine it_V.at (pc1 := 140) (ls1 := [some (.ref 54), none, some (.ref (14 + 5 * Int32.toNatClampNeg r1))]) (st1 := [(.int (m2 (14 + 5 * Int32.toNatClampNeg r1) 0)), (.ref 56)]) (mem1 := m2) rfl rfl rfl rfl ?_
  refine it_V.sN it_cd151 it_m151 1 (pc1 := 141) (ls1 := [some (.ref 54), none, some (.ref (14 + 5 * Int32.toNatClampNeg r1))]) (st1 := [(.int (m2 (14 + 5 * Int32.toNatClampNeg r1) 0)), (.ref 56), (.int (m2 (14 + 5 * Int32.toNatClampNeg r1) 0)), (.ref 56)]) (mem1 := m2) rfl ?_
  obtain ⟨g4, h⟩ := h
  refine it_V.iald it_cd151 it_m151 rfl ((⟨rfl, by decide⟩ : it_isR 56 8)).2 ((⟨rfl, by decide⟩ : it_isR 56 8)).1 g4 ?_
  refine it_V.at (pc1 := 142) (ls1 := [some (.ref 54), none, some (.ref (14 + 5 * Int32.toNatClampNeg r1))]) (st1 := [(.int (m2 56 (Int32.toNatClampNeg (m2 (14 + 5 * Int32.toNatClampNeg r1) 0)))), (.int (m2 (14 + 5 * Int32.toNatClampNeg r1) 0)), (.ref 56)]) (mem1 := m2) rfl rfl rfl rfl ?_
  refine it_V.sN it_cd151 it_m151 2 (pc1 := 144) (ls1 := [some (.ref 54), none, some (.ref (14 + 5 * Int32.toNatClampNeg r1))]) (st1 := [(.int ((m2 56 (Int32.toNatClampNeg (m2 (14 + 5 * Int32.toNatClampNeg r1) 0))) + (1 : Int32))), (.int (m2 (14 + 5 * Int32.toNatClampNeg r1) 0)), (.ref 56)]) (mem1 := m2) rfl ?_
  obtain ⟨g5, h⟩ := h
  refine it_V.iast it_cd151 it_m151 rfl ((⟨rfl, by decide⟩ : it_isR 56 8)).1 g5 ?_
  refine it_V.at (pc1 := 145) (ls1 := [some (.ref 54), none, some (.ref (14 + 5 * Int32.toNatClampNeg r1))]) (st1 := []) (mem1 := (it_sv m2 56 (Int32.toNatClampNeg (m2 (14 + 5 * Int32.toNatClampNeg r1) 0)) ((m2 56 (Int32.toNatClampNeg (m2 (14 + 5 * Int32.toNatClampNeg r1) 0))) + (1 : Int32)))) rfl rfl rfl rfl ?_
  refine it_V.sN it_cd151 it_m151 2 (pc1 := 147) (ls1 := [some (.ref 54), none, some (.ref (14 + 5 * Int32.toNatClampNeg r1))]) (st1 := [(.ref (14 + 5 * Int32.toNatClampNeg r1)), (.ref 54)]) (mem1 := (it_sv m2 56 (Int32.toNatClampNeg (m2 (14 + 5 * Int32.toNatClampNeg r1) 0)) ((m2 56 (Int32.toNatClampNeg (m2 (14 + 5 * Int32.toNatClampNeg r1) 0))) + (1 : Int32)))) rfl ?_
  refine it_V.call it_cd151 it_m151 rfl it_m155 [(.ref 54), (.ref (14 + 5 * Int32.toNatClampNeg r1))] [] rfl rfl ⟨Nat.le_of_ble_eq_true rfl, Nat.le_of_ble_eq_true rfl, Nat.le_of_ble_eq_true rfl, Nat.le_of_ble_eq_true rfl, rfl⟩ (s_155 kc (14 + 5 * Int32.toNatClampNeg r1) (it_isP_of g3) (it_sv m2 56 (Int32.toNatClampNeg (m2 (14 + 5 * Int32.toNatClampNeg r1) 0)) ((m2 56 (Int32.toNatClampNeg (m2 (14 + 5 * Int32.toNatClampNeg r1) 0))) + (1 : Int32))) _ h) ?_
  rintro _ m7 ⟨r6, rfl, hr6, h⟩
  rcases r6 with _ | q8
  · skip
    refine it_V.at (pc1 := 150) (ls1 := [some (.ref 54), none, some (.ref (14 + 5 * Int32.toNatClampNeg r1))]) (st1 := [.null]) (mem1 := m7) rfl rfl rfl rfl ?_
    exact it_V.ret it_cd151 it_m151 rfl rfl ⟨none, rfl, (fun q hq => by cases hq), h⟩
  · skip
    refine it_V.at (pc1 := 150) (ls1 := [some (.ref 54), none, some (.ref (14 + 5 * Int32.toNatClampNeg r1))]) (st1 := [(.ref q8)]) (mem1 := m7) rfl rfl rfl rfl ?_
    exact it_V.ret it_cd151 it_m151 rfl rfl ⟨some q8, rfl, (fun q hq => by cases hq; exact hr6 q8 rfl), h⟩
set_option maxRecDepth 100000 in
set_option maxHeartbeats 4000000 in
theorem s_151_114 (kc : it_Kc) (Φ : Option Nat → it_Me → Prop) (v2 : Int32) (m : it_Me) (h : w_151_114 kc Φ v2 m) : it_V kc it_sh0 151 114 [some (.ref 54), none, some (.int v2)] [] m (it_Pr Φ) := by
  rw [w_151_114] at h
  refine it_V.sN it_cd151 it_m151 2 (pc1 := 116) (ls1 := [some (.ref 54), none, some (.int v2)]) (st1 := [(.int v2), (.ref 54)]) (mem1 := m) rfl ?_
  refine it_V.call it_cd151 it_m151 rfl it_m153 [(.ref 54), (.int v2)] [] rfl rfl ⟨Nat.le_of_ble_eq_true rfl, Nat.le_of_ble_eq_true rfl, Nat.le_of_ble_eq_true rfl, Nat.le_of_ble_eq_true rfl, rfl⟩ (s_153 kc v2 m _ h) ?_
  rintro _ m1 ⟨rfl, h⟩
  refine it_V.at (pc1 := 119) (ls1 := [some (.ref 54), none, some (.int v2)]) (st1 := []) (mem1 := m1) rfl rfl rfl rfl ?_
  refine it_V.weak (l := [some (.ref 54), none, none]) ⟨rfl, trivial⟩ ?_
  exact s_151_119 kc Φ m1 h
set_option maxRecDepth 100000 in
set_option maxHeartbeats 4000000 in
theorem s_151_87 (kc : it_Kc) (Φ : Option Nat → it_Me → Prop) (v1 : Nat) (u0 : Int32) (hv1 : it_isP v1) (m : it_Me) (h : w_151_87 kc Φ v1 u0 m) : it_V kc it_sh0 151 87 [some (.ref 54), some (.ref v1), none] [(.int u0)] m (it_Pr Φ) := by
  rw [w_151_87] at h
  refine it_V.sN it_cd151 it_m151 3 (pc1 := (if u0 = 0 then 114 else 92)) (ls1 := [some (.ref 54), some (.ref v1), some (.int u0)]) (st1 := []) (mem1 := m) rfl ?_
  refine it_V.ite (fun c1 => ?_) (fun c1 => ?_)
  · have h := h.1 c1
    refine it_V.weak (l := [some (.ref 54), none, some (.int u0)]) ⟨rfl, ⟨rfl, trivial⟩⟩ ?_
    exact s_151_114 kc Φ u0 m h
  · have h := h.2 c1
    refine it_V.sN it_cd151 it_m151 1 (pc1 := 93) (ls1 := [some (.ref 54), some (.ref v1), some (.int u0)]) (st1 := [(.ref v1)]) (mem1 := m) rfl ?_
    refine it_V.call it_cd151 it_m151 rfl it_m130 [(.ref v1)] [] rfl rfl ⟨Nat.le_of_ble_eq_true rfl, Nat.le_of_ble_eq_true rfl, Nat.le_of_ble_eq_true rfl, Nat.le_of_ble_eq_true rfl, (it_recvP (hv1).1)⟩ (s_130 kc v1 (hv1) m _ h) ?_
    rintro _ m3 ⟨r2, rfl, h⟩
    refine it_V.at (pc1 := 96) (ls1 := [some (.ref 54), some (.ref v1), some (.int u0)]) (st1 := [(.int r2)]) (mem1 := m3) rfl rfl rfl rfl ?_
    refine it_V.sN it_cd151 it_m151 1 (pc1 := (if r2 = 0 then 114 else 99)) (ls1 := [some (.ref 54), some (.ref v1), some (.int u0)]) (st1 := []) (mem1 := m3) rfl ?_
    refine it_V.ite (fun c4 => ?_) (fun c4 => ?_)
    · have h := h.1 c4
      refine it_V.weak (l := [some (.ref 54), none, some (.int u0)]) ⟨rfl, ⟨rfl, trivial⟩⟩ ?_
      exact s_151_114 kc Φ u0 m3 h
    · have h := h.2 c4
      refine it_V.sN it_cd151 it_m151 5 (pc1 := 108) (ls1 := [some (.ref 54), some (.ref v1), some (.int u0)]) (st1 := [(.int (m3 54 4)), (.ref 56), (.int (m3 54 4)), (.ref 56)]) (mem1 := m3) rfl ?_
      obtain ⟨g5, h⟩ := h
      refine it_V.iald it_cd151 it_m151 rfl ((⟨rfl, by decide⟩ : it_isR 56 8)).2 ((⟨rfl, by decide⟩ : it_isR 56 8)).1 g5 ?_
      refine it_V.at (pc1 := 109) (ls1 := [some (.ref 54), some (.ref v1), some (.int u0)]) (st1 := [(.int (m3 56 (Int32.toNatClampNeg (m3 54 4)))), (.int (m3 54 4)), (.ref 56)]) (mem1 := m3) rfl rfl rfl rfl ?_
      refine it_V.sN it_cd151 it_m151 2 (pc1 := 111) (ls1 := [some (.ref 54), some (.ref v1), some (.int u0)]) (st1 := [(.int ((m3 56 (Int32.toNatClampNeg (m3 54 4))) + (1 : Int32))), (.int (m3 54 4)), (.ref 56)]) (mem1 := m3) rfl ?_
      obtain ⟨g6, h⟩ := h
      refine it_V.iast it_cd151 it_m151 rfl ((⟨rfl, by decide⟩ : it_isR 56 8)).1 g6 ?_
      refine it_V.at (pc1 := 112) (ls1 := [some (.ref 54), some (.ref v1), some (.int u0)]) (st1 := []) (mem1 := (it_sv m3 56 (Int32.toNatClampNeg (m3 54 4)) ((m3 56 (Int32.toNatClampNeg (m3 54 4))) + (1 : Int32)))) rfl rfl rfl rfl ?_
      refine it_V.sN it_cd151 it_m151 1 (pc1 := 113) (ls1 := [some (.ref 54), some (.ref v1), some (.int u0)]) (st1 := [(.ref v1)]) (mem1 := (it_sv m3 56 (Int32.toNatClampNeg (m3 54 4)) ((m3 56 (Int32.toNatClampNeg (m3 54 4))) + (1 : Int32)))) rfl ?_
      exact it_V.ret it_cd151 it_m151 rfl rfl ⟨some v1, rfl, (fun q hq => by cases hq; exact hv1), h⟩
set_option maxRecDepth 100000 in
set_option maxHeartbeats 4000000 in
theorem s_151_31 (kc : it_Kc) (Φ : Option Nat → it_Me → Prop) (m : it_Me) (h : w_151_31 kc Φ m) : it_V kc it_sh0 151 31 [some (.ref 54), none, none] [] m (it_Pr Φ) := by
  rw [w_151_31] at h
  refine it_V.sN it_cd151 it_m151 1 (pc1 := 32) (ls1 := [some (.ref 54), none, none]) (st1 := [(.ref 54)]) (mem1 := m) rfl ?_
  refine it_V.call it_cd151 it_m151 rfl it_m152 [(.ref 54)] [] rfl rfl ⟨Nat.le_of_ble_eq_true rfl, Nat.le_of_ble_eq_true rfl, Nat.le_of_ble_eq_true rfl, Nat.le_of_ble_eq_true rfl, rfl⟩ (s_152 kc m _ h) ?_
  rintro _ m2 ⟨r1, rfl, h⟩
  refine it_V.at (pc1 := 35) (ls1 := [some (.ref 54), none, none]) (st1 := [(.int r1)]) (mem1 := m2) rfl rfl rfl rfl ?_
  refine it_V.sN it_cd151 it_m151 1 (pc1 := (if r1 = 0 then 38 else 40)) (ls1 := [some (.ref 54), none, none]) (st1 := []) (mem1 := m2) rfl ?_
  refine it_V.ite (fun c3 => ?_) (fun c3 => ?_)
  · have h := h.1 c3
    refine it_V.sN it_cd151 it_m151 1 (pc1 := 39) (ls1 := [some (.ref 54), none, none]) (st1 := [.null]) (mem1 := m2) rfl ?_
    exact it_V.ret it_cd151 it_m151 rfl rfl ⟨none, rfl, (fun q hq => by cases hq), h⟩
  · have h := h.2 c3
    refine it_V.sN it_cd151 it_m151 4 (pc1 := 48) (ls1 := [some (.ref 54), none, none]) (st1 := [(.int (m2 54 4)), (.ref 9)]) (mem1 := m2) rfl ?_
    refine it_V.call it_cd151 it_m151 rfl it_m72 [(.ref 9), (.int (m2 54 4))] [] rfl rfl ⟨Nat.le_of_ble_eq_true rfl, Nat.le_of_ble_eq_true rfl, Nat.le_of_ble_eq_true rfl, Nat.le_of_ble_eq_true rfl, rfl⟩ (s_72 kc (m2 54 4) m2 _ h) ?_
    rintro _ m5 ⟨r4, rfl, hr4, h⟩
    rcases r4 with _ | q6
    · skip
      refine it_V.at (pc1 := 51) (ls1 := [some (.ref 54), none, none]) (st1 := [.null]) (mem1 := m5) rfl rfl rfl rfl ?_
      have h := h.1 rfl
      refine it_V.sN it_cd151 it_m151 3 (pc1 := 119) (ls1 := [some (.ref 54), some .null, none]) (st1 := []) (mem1 := m5) rfl ?_
      refine it_V.weak (l := [some (.ref 54), none, none]) ⟨rfl, trivial⟩ ?_
      exact s_151_119 kc Φ m5 h
    · skip
      refine it_V.at (pc1 := 51) (ls1 := [some (.ref 54), none, none]) (st1 := [(.ref q6)]) (mem1 := m5) rfl rfl rfl rfl ?_
      have h := h.2 q6 rfl
      refine it_V.sN it_cd151 it_m151 7 (pc1 := 64) (ls1 := [some (.ref 54), some (.ref q6), none]) (st1 := [(.int (m5 54 4)), (.ref 56)]) (mem1 := m5) rfl ?_
      obtain ⟨g7, h⟩ := h
      refine it_V.iald it_cd151 it_m151 rfl ((⟨rfl, by decide⟩ : it_isR 56 8)).2 ((⟨rfl, by decide⟩ : it_isR 56 8)).1 g7 ?_
      refine it_V.at (pc1 := 65) (ls1 := [some (.ref 54), some (.ref q6), none]) (st1 := [(.int (m5 56 (Int32.toNatClampNeg (m5 54 4))))]) (mem1 := m5) rfl rfl rfl rfl ?_
      refine it_V.sN it_cd151 it_m151 6 (pc1 := 77) (ls1 := [some (.ref 54), some (.ref q6), none]) (st1 := [(.int (m5 54 4)), (.ref 55), (.int (m5 54 3)), (.int (m5 56 (Int32.toNatClampNeg (m5 54 4))))]) (mem1 := m5) rfl ?_
      obtain ⟨g8, h⟩ := h
      refine it_V.iald it_cd151 it_m151 rfl ((⟨rfl, by decide⟩ : it_isR 55 8)).2 ((⟨rfl, by decide⟩ : it_isR 55 8)).1 g8 ?_
      refine it_V.at (pc1 := 78) (ls1 := [some (.ref 54), some (.ref q6), none]) (st1 := [(.int (m5 55 (Int32.toNatClampNeg (m5 54 4)))), (.int (m5 54 3)), (.int (m5 56 (Int32.toNatClampNeg (m5 54 4))))]) (mem1 := m5) rfl rfl rfl rfl ?_
      refine it_V.sN it_cd151 it_m151 2 (pc1 := (if (it_shl (m5 54 3) (m5 55 (Int32.toNatClampNeg (m5 54 4)))) ≤ (m5 56 (Int32.toNatClampNeg (m5 54 4))) then 86 else 82)) (ls1 := [some (.ref 54), some (.ref q6), none]) (st1 := []) (mem1 := m5) rfl ?_
      refine it_V.ite (fun c9 => ?_) (fun c9 => ?_)
      · have h := h.1 c9
        refine it_V.sN it_cd151 it_m151 1 (pc1 := 87) (ls1 := [some (.ref 54), some (.ref q6), none]) (st1 := [(.int (0 : Int32))]) (mem1 := m5) rfl ?_
        refine it_V.weak (l := [some (.ref 54), some (.ref q6), none]) ⟨rfl, ⟨rfl, trivial⟩⟩ ?_
        exact s_151_87 kc Φ q6 (0 : Int32) (hr4 q6 rfl) m5 h
      · have h := h.2 c9
        refine it_V.sN it_cd151 it_m151 2 (pc1 := 87) (ls1 := [some (.ref 54), some (.ref q6), none]) (st1 := [(.int (1 : Int32))]) (mem1 := m5) rfl ?_
        refine it_V.weak (l := [some (.ref 54), some (.ref q6), none]) ⟨rfl, ⟨rfl, trivial⟩⟩ ?_
        exact s_151_87 kc Φ q6 (1 : Int32) (hr4 q6 rfl) m5 h
set_option maxRecDepth 100000 in
set_option maxHeartbeats 4000000 in
theorem s_151 (kc : it_Kc) (m : it_Me) (Φ : Option Nat → it_Me → Prop) (h : w_151 kc m Φ) : it_V kc it_sh0 151 0 (it_loc0 [(.ref 54)] 3) [] m (it_Pr Φ) := by
  rw [w_151] at h
  refine it_V.at (pc1 := 0) (ls1 := [some (.ref 54), none, none]) (st1 := []) (mem1 := m) rfl rfl rfl rfl ?_
  refine it_V.sN it_cd151 it_m151 11 (pc1 := 21) (ls1 := [some (.ref 54), none, none]) (st1 := [(.long ((64 : Int64) * (Int32.toInt64 (m 54 3)))), (.long ((Int32.toInt64 (m 4 0)) &&& (4294967295 : Int64)))]) (mem1 := m) rfl ?_
  obtain ⟨g1, h⟩ := h
  refine it_V.s1 it_cd151 it_m151 (pc1 := 22) (ls1 := [some (.ref 54), none, none]) (st1 := [(.long (it_lrem ((Int32.toInt64 (m 4 0)) &&& (4294967295 : Int64)) ((64 : Int64) * (Int32.toInt64 (m 54 3)))))]) (mem1 := m) (by simp only [it_s1, show it_lk it_c151 21 = some (0, .lrem, 0, 0) from rfl, it_ops, if_neg g1]; rfl) ?_
  refine it_V.sN it_cd151 it_m151 3 (pc1 := (if (lg_cmp (it_lrem ((Int32.toInt64 (m 4 0)) &&& (4294967295 : Int64)) ((64 : Int64) * (Int32.toInt64 (m 54 3)))) (0 : Int64)) = 0 then 27 else 31)) (ls1 := [some (.ref 54), none, none]) (st1 := []) (mem1 := m) rfl ?_
  refine it_V.ite (fun c2 => ?_) (fun c2 => ?_)
  · have h := h.1 c2
    refine it_V.sN it_cd151 it_m151 1 (pc1 := 28) (ls1 := [some (.ref 54), none, none]) (st1 := [(.ref 54)]) (mem1 := m) rfl ?_
    refine it_V.call it_cd151 it_m151 rfl it_m147 [(.ref 54)] [] rfl rfl ⟨Nat.le_of_ble_eq_true rfl, Nat.le_of_ble_eq_true rfl, Nat.le_of_ble_eq_true rfl, Nat.le_of_ble_eq_true rfl, rfl⟩ (s_147 kc m _ h) ?_
    rintro _ m3 ⟨rfl, h⟩
    refine it_V.at (pc1 := 31) (ls1 := [some (.ref 54), none, none]) (st1 := []) (mem1 := m3) rfl rfl rfl rfl ?_
    exact s_151_31 kc Φ m3 h
  · have h := h.2 c2
    exact s_151_31 kc Φ m h
set_option maxRecDepth 100000 in
set_option maxHeartbeats 4000000 in
theorem s_148 (kc : it_Kc) (m : it_Me) (Φ : Option Nat → it_Me → Prop) (h : w_148 kc m Φ) : it_V kc it_sh0 148 0 (it_loc0 [(.ref 54)] 1) [] m (it_Pr Φ) := by
  rw [w_148] at h
  refine it_V.at (pc1 := 0) (ls1 := [some (.ref 54)]) (st1 := []) (mem1 := m) rfl rfl rfl rfl ?_
  refine it_V.sN it_cd148 it_m148 2 (pc1 := 4) (ls1 := [some (.ref 54)]) (st1 := [(.int (m 54 2))]) (mem1 := m) rfl ?_
  refine it_V.sN it_cd148 it_m148 1 (pc1 := (if (m 54 2) = (0 : Int32) then 32 else (if (m 54 2) = (1 : Int32) then 37 else 42))) (ls1 := [some (.ref 54)]) (st1 := []) (mem1 := m) rfl ?_
  refine it_V.ite (fun c1 => ?_) (fun c1 => ?_)
  · have h := h.1 c1
    refine it_V.sN it_cd148 it_m148 1 (pc1 := 33) (ls1 := [some (.ref 54)]) (st1 := [(.ref 54)]) (mem1 := m) rfl ?_
    refine it_V.call it_cd148 it_m148 rfl it_m149 [(.ref 54)] [] rfl rfl ⟨Nat.le_of_ble_eq_true rfl, Nat.le_of_ble_eq_true rfl, Nat.le_of_ble_eq_true rfl, Nat.le_of_ble_eq_true rfl, rfl⟩ (s_149 kc m _ h) ?_
    rintro _ m3 ⟨r2, rfl, hr2, h⟩
    rcases r2 with _ | q4
    · skip
      refine it_V.at (pc1 := 36) (ls1 := [some (.ref 54)]) (st1 := [.null]) (mem1 := m3) rfl rfl rfl rfl ?_
      exact it_V.ret it_cd148 it_m148 rfl rfl ⟨none, rfl, (fun q hq => by cases hq), h⟩
    · skip
      refine it_V.at (pc1 := 36) (ls1 := [some (.ref 54)]) (st1 := [(.ref q4)]) (mem1 := m3) rfl rfl rfl rfl ?_
      exact it_V.ret it_cd148 it_m148 rfl rfl ⟨some q4, rfl, (fun q hq => by cases hq; exact hr2 q4 rfl), h⟩
  · have h := h.2 c1
    refine it_V.ite (fun c5 => ?_) (fun c5 => ?_)
    · have h := h.1 c5
      refine it_V.sN it_cd148 it_m148 1 (pc1 := 38) (ls1 := [some (.ref 54)]) (st1 := [(.ref 54)]) (mem1 := m) rfl ?_
      refine it_V.call it_cd148 it_m148 rfl it_m150 [(.ref 54)] [] rfl rfl ⟨Nat.le_of_ble_eq_true rfl, Nat.le_of_ble_eq_true rfl, Nat.le_of_ble_eq_true rfl, Nat.le_of_ble_eq_true rfl, rfl⟩ (s_150 kc m _ h) ?_
      rintro _ m7 ⟨r6, rfl, hr6, h⟩
      rcases r6 with _ | q8
      · skip
        refine it_V.at (pc1 := 41) (ls1 := [some (.ref 54)]) (st1 := [.null]) (mem1 := m7) rfl rfl rfl rfl ?_
        exact it_V.ret it_cd148 it_m148 rfl rfl ⟨none, rfl, (fun q hq => by cases hq), h⟩
      · skip
        refine it_V.at (pc1 := 41) (ls1 := [some (.ref 54)]) (st1 := [(.ref q8)]) (mem1 := m7) rfl rfl rfl rfl ?_
        exact it_V.ret it_cd148 it_m148 rfl rfl ⟨some q8, rfl, (fun q hq => by cases hq; exact hr6 q8 rfl), h⟩
    · have h := h.2 c5
      refine it_V.sN it_cd148 it_m148 1 (pc1 := 43) (ls1 := [some (.ref 54)]) (st1 := [(.ref 54)]) (mem1 := m) rfl ?_
      refine it_V.call it_cd148 it_m148 rfl it_m151 [(.ref 54)] [] rfl rfl ⟨Nat.le_of_ble_eq_true rfl, Nat.le_of_ble_eq_true rfl, Nat.le_of_ble_eq_true rfl, Nat.le_of_ble_eq_true rfl, rfl⟩ (s_151 kc m _ h) ?_
      rintro _ m10 ⟨r9, rfl, hr9, h⟩
      rcases r9 with _ | q11
      · skip
        refine it_V.at (pc1 := 46) (ls1 := [some (.ref 54)]) (st1 := [.null]) (mem1 := m10) rfl rfl rfl rfl ?_
        exact it_V.ret it_cd148 it_m148 rfl rfl ⟨none, rfl, (fun q hq => by cases hq), h⟩
      · skip
        refine it_V.at (pc1 := 46) (ls1 := [some (.ref 54)]) (st1 := [(.ref q11)]) (mem1 := m10) rfl rfl rfl rfl ?_
        exact it_V.ret it_cd148 it_m148 rfl rfl ⟨some q11, rfl, (fun q hq => by cases hq; exact hr9 q11 rfl), h⟩
set_option maxRecDepth 100000 in
set_option maxHeartbeats 4000000 in
theorem s_165_5 (kc : it_Kc) (Φ : Int32 → it_Me → Prop) (K29 : it_Me → Prop) (K37 : it_Me → Prop) (hK29 : ∀ (m : it_Me), K29 m → it_V kc it_sh0 165 29 [none, none] [] m (it_Pi Φ)) (hK37 : ∀ (m : it_Me), K37 m → it_V kc it_sh0 165 37 [none, none] [] m (it_Pi Φ)) : ∀ (n : Nat) (v1 : Int32) (m : it_Me) (h : w_165_5 kc Φ K29 K37 n v1 m), it_V kc it_sh0 165 5 [some (.ref 7), some (.int v1)] [] m (it_Pi Φ) := by
  intro n
  induction n with
  | zero => intro v1 m h; exact absurd h id
  | succ n ih =>
    intro v1 m h
    rw [w_165_5] at h
    refine it_V.sN it_cd165 it_m165 6 (pc1 := (if ((m 7 2) + (2048 : Int32)) ≤ v1 then 37 else 17)) (ls1 := [some (.ref 7), some (.int v1)]) (st1 := []) (mem1 := m) rfl ?_
    refine it_V.ite (fun c1 => ?_) (fun c1 => ?_)
    · have h := h.1 c1
      refine it_V.weak (l := [none, none]) trivial ?_
      exact hK37 m h
    · have h := h.2 c1
      refine it_V.sN it_cd165 it_m165 3 (pc1 := 22) (ls1 := [some (.ref 7), some (.int v1)]) (st1 := [(.int v1), (.ref 1)]) (mem1 := m) rfl ?_
      refine it_V.call it_cd165 it_m165 rfl it_m12 [(.ref 1), (.int v1)] [] rfl rfl ⟨Nat.le_of_ble_eq_true rfl, Nat.le_of_ble_eq_true rfl, Nat.le_of_ble_eq_true rfl, Nat.le_of_ble_eq_true rfl, rfl⟩ (s_12 kc v1 m _ h) ?_
      rintro _ m3 ⟨r2, rfl, h⟩
      refine it_V.at (pc1 := 25) (ls1 := [some (.ref 7), some (.int v1)]) (st1 := [(.int r2)]) (mem1 := m3) rfl rfl rfl rfl ?_
      refine it_V.sN it_cd165 it_m165 2 (pc1 := (if r2 = (-1 : Int32) then 31 else 29)) (ls1 := [some (.ref 7), some (.int v1)]) (st1 := []) (mem1 := m3) rfl ?_
      refine it_V.ite (fun c4 => ?_) (fun c4 => ?_)
      · have h := h.1 c4
        refine it_V.sN it_cd165 it_m165 2 (pc1 := 5) (ls1 := [some (.ref 7), some (.int (v1 + (4 : Int32)))]) (st1 := []) (mem1 := m3) rfl ?_
        exact ih (v1 + (4 : Int32)) m3 h
      · have h := h.2 c4
        refine it_V.weak (l := [none, none]) trivial ?_
        exact hK29 m3 h
set_option maxRecDepth 100000 in
set_option maxHeartbeats 4000000 in
theorem s_165_29 (kc : it_Kc) (Φ : Int32 → it_Me → Prop) (m : it_Me) (h : w_165_29 kc Φ m) : it_V kc it_sh0 165 29 [none, none] [] m (it_Pi Φ) := by
  rw [w_165_29] at h
  refine it_V.sN it_cd165 it_m165 1 (pc1 := 30) (ls1 := [none, none]) (st1 := [(.int (0 : Int32))]) (mem1 := m) rfl ?_
  exact it_V.ret it_cd165 it_m165 rfl rfl ⟨_, rfl, h⟩
set_option maxRecDepth 100000 in
set_option maxHeartbeats 4000000 in
theorem s_165_37 (kc : it_Kc) (Φ : Int32 → it_Me → Prop) (m : it_Me) (h : w_165_37 kc Φ m) : it_V kc it_sh0 165 37 [none, none] [] m (it_Pi Φ) := by
  rw [w_165_37] at h
  refine it_V.sN it_cd165 it_m165 1 (pc1 := 38) (ls1 := [none, none]) (st1 := [(.int (1 : Int32))]) (mem1 := m) rfl ?_
  exact it_V.ret it_cd165 it_m165 rfl rfl ⟨_, rfl, h⟩
set_option maxRecDepth 100000 in
set_option maxHeartbeats 4000000 in
theorem s_165 (kc : it_Kc) (m : it_Me) (Φ : Int32 → it_Me → Prop) (h : w_165 kc m Φ) : it_V kc it_sh0 165 0 (it_loc0 [(.ref 7)] 2) [] m (it_Pi Φ) := by
  rw [w_165] at h
  refine it_V.at (pc1 := 0) (ls1 := [some (.ref 7), none]) (st1 := []) (mem1 := m) rfl rfl rfl rfl ?_
  refine it_V.sN it_cd165 it_m165 3 (pc1 := 5) (ls1 := [some (.ref 7), some (.int (m 7 7))]) (st1 := []) (mem1 := m) rfl ?_
  obtain ⟨n, h⟩ := h
  exact s_165_5 kc Φ _ _ (fun m h => s_165_29 kc Φ m h) (fun m h => s_165_37 kc Φ m h) n (m 7 7) m h
set_option maxRecDepth 100000 in
set_option maxHeartbeats 4000000 in
theorem s_157_154 (kc : it_Kc) (Φ : it_Me → Prop) (m : it_Me) (h : w_157_154 kc Φ m) : it_V kc it_sh0 157 154 [none, none, none, none, none, none, none] [] m (it_Pv Φ) := by
  rw [w_157_154] at h
  exact it_V.ret it_cd157 it_m157 rfl rfl ⟨rfl, h⟩
set_option maxRecDepth 100000 in
set_option maxHeartbeats 4000000 in
theorem s_157_139 (kc : it_Kc) (Φ : it_Me → Prop) (m : it_Me) (h : w_157_139 kc Φ m) : it_V kc it_sh0 157 139 [some (.ref 7), none, none, none, none, none, none] [] m (it_Pv Φ) := by
  rw [w_157_139] at h
  refine it_V.sN it_cd157 it_m157 1 (pc1 := 140) (ls1 := [some (.ref 7), none, none, none, none, none, none]) (st1 := [(.ref 7)]) (mem1 := m) rfl ?_
  refine it_V.call it_cd157 it_m157 rfl it_m163 [(.ref 7)] [] rfl rfl ⟨Nat.le_of_ble_eq_true rfl, Nat.le_of_ble_eq_true rfl, Nat.le_of_ble_eq_true rfl, Nat.le_of_ble_eq_true rfl, rfl⟩ (s_163 kc m _ h) ?_
  rintro _ m1 ⟨rfl, h⟩
  refine it_V.at (pc1 := 143) (ls1 := [some (.ref 7), none, none, none, none, none, none]) (st1 := []) (mem1 := m1) rfl rfl rfl rfl ?_
  refine it_V.sN it_cd157 it_m157 1 (pc1 := 144) (ls1 := [some (.ref 7), none, none, none, none, none, none]) (st1 := [(.ref 7)]) (mem1 := m1) rfl ?_
  refine it_V.call it_cd157 it_m157 rfl it_m165 [(.ref 7)] [] rfl rfl ⟨Nat.le_of_ble_eq_true rfl, Nat.le_of_ble_eq_true rfl, Nat.le_of_ble_eq_true rfl, Nat.le_of_ble_eq_true rfl, rfl⟩ (s_165 kc m1 _ h) ?_
  rintro _ m3 ⟨r2, rfl, h⟩
  refine it_V.at (pc1 := 147) (ls1 := [some (.ref 7), none, none, none, none, none, none]) (st1 := [(.int r2)]) (mem1 := m3) rfl rfl rfl rfl ?_
  refine it_V.sN it_cd157 it_m157 1 (pc1 := (if r2 = 0 then 150 else 154)) (ls1 := [some (.ref 7), none, none, none, none, none, none]) (st1 := []) (mem1 := m3) rfl ?_
  refine it_V.ite (fun c4 => ?_) (fun c4 => ?_)
  · have h := h.1 c4
    refine it_V.sN it_cd157 it_m157 1 (pc1 := 151) (ls1 := [some (.ref 7), none, none, none, none, none, none]) (st1 := [(.ref 7)]) (mem1 := m3) rfl ?_
    refine it_V.call it_cd157 it_m157 rfl it_m166 [(.ref 7)] [] rfl rfl ⟨Nat.le_of_ble_eq_true rfl, Nat.le_of_ble_eq_true rfl, Nat.le_of_ble_eq_true rfl, Nat.le_of_ble_eq_true rfl, rfl⟩ (s_166 kc m3 _ h) ?_
    rintro _ m5 ⟨rfl, h⟩
    refine it_V.at (pc1 := 154) (ls1 := [some (.ref 7), none, none, none, none, none, none]) (st1 := []) (mem1 := m5) rfl rfl rfl rfl ?_
    refine it_V.weak (l := [none, none, none, none, none, none, none]) trivial ?_
    exact s_157_154 kc Φ m5 h
  · have h := h.2 c4
    refine it_V.weak (l := [none, none, none, none, none, none, none]) trivial ?_
    exact s_157_154 kc Φ m3 h
set_option maxRecDepth 100000 in
set_option maxHeartbeats 4000000 in
theorem s_157_114 (kc : it_Kc) (Φ : it_Me → Prop) (v1 : Int32) (v3 : Int32) (v4 : Int32) (u1 : Int32) (m : it_Me) (h : w_157_114 kc Φ v1 v3 v4 u1 m) : it_V kc it_sh0 157 114 [some (.ref 7), some (.int v1), none, some (.int v3), some (.int v4), none, none] [(.int u1), (.ref 7)] m (it_Pv Φ) := by
  rw [w_157_114] at h
  refine it_V.sN it_cd157 it_m157 3 (pc1 := (if v3 = 0 then 121 else 139)) (ls1 := [some (.ref 7), some (.int v1), none, some (.int v3), some (.int v4), none, none]) (st1 := []) (mem1 := (it_sv m 7 2 u1)) rfl ?_
  refine it_V.ite (fun c1 => ?_) (fun c1 => ?_)
  · have h := h.1 c1
    refine it_V.sN it_cd157 it_m157 2 (pc1 := (if v4 = 0 then 126 else 139)) (ls1 := [some (.ref 7), some (.int v1), none, some (.int v3), some (.int v4), none, none]) (st1 := []) (mem1 := (it_sv m 7 2 u1)) rfl ?_
    refine it_V.ite (fun c2 => ?_) (fun c2 => ?_)
    · have h := h.1 c2
      refine it_V.sN it_cd157 it_m157 2 (pc1 := 128) (ls1 := [some (.ref 7), some (.int v1), none, some (.int v3), some (.int v4), none, none]) (st1 := [(.int v1), (.ref 7)]) (mem1 := (it_sv m 7 2 u1)) rfl ?_
      refine it_V.call it_cd157 it_m157 rfl it_m169 [(.ref 7), (.int v1)] [] rfl rfl ⟨Nat.le_of_ble_eq_true rfl, Nat.le_of_ble_eq_true rfl, Nat.le_of_ble_eq_true rfl, Nat.le_of_ble_eq_true rfl, rfl⟩ (s_169 kc v1 (it_sv m 7 2 u1) _ h) ?_
      rintro _ m3 ⟨rfl, h⟩
      refine it_V.at (pc1 := 131) (ls1 := [some (.ref 7), some (.int v1), none, some (.int v3), some (.int v4), none, none]) (st1 := []) (mem1 := m3) rfl rfl rfl rfl ?_
      refine it_V.sN it_cd157 it_m157 3 (pc1 := 135) (ls1 := [some (.ref 7), some (.int v1), none, some (.int v3), some (.int v4), none, none]) (st1 := [(.int (1263927296 : Int32)), (.int v1), (.ref 7)]) (mem1 := m3) rfl ?_
      refine it_V.call it_cd157 it_m157 rfl it_m168 [(.ref 7), (.int v1), (.int (1263927296 : Int32))] [] rfl rfl ⟨Nat.le_of_ble_eq_true rfl, Nat.le_of_ble_eq_true rfl, Nat.le_of_ble_eq_true rfl, Nat.le_of_ble_eq_true rfl, rfl⟩ (s_168 kc v1 (1263927296 : Int32) m3 _ h) ?_
      rintro _ m4 ⟨rfl, h⟩
      refine it_V.at (pc1 := 138) (ls1 := [some (.ref 7), some (.int v1), none, some (.int v3), some (.int v4), none, none]) (st1 := []) (mem1 := m4) rfl rfl rfl rfl ?_
      exact it_V.ret it_cd157 it_m157 rfl rfl ⟨rfl, h⟩
    · have h := h.2 c2
      refine it_V.weak (l := [some (.ref 7), none, none, none, none, none, none]) ⟨rfl, trivial⟩ ?_
      exact s_157_139 kc Φ (it_sv m 7 2 u1) h
  · have h := h.2 c1
    refine it_V.weak (l := [some (.ref 7), none, none, none, none, none, none]) ⟨rfl, trivial⟩ ?_
    exact s_157_139 kc Φ (it_sv m 7 2 u1) h
set_option maxRecDepth 100000 in
set_option maxHeartbeats 4000000 in
theorem s_157_109 (kc : it_Kc) (Φ : it_Me → Prop) (v1 : Int32) (v2 : Int32) (v3 : Int32) (v4 : Int32) (m : it_Me) (h : w_157_109 kc Φ v1 v2 v3 v4 m) : it_V kc it_sh0 157 109 [some (.ref 7), some (.int v1), some (.int v2), some (.int v3), some (.int v4), none, none] [(.ref 7)] m (it_Pv Φ) := by
  rw [w_157_109] at h
  refine it_V.sN it_cd157 it_m157 2 (pc1 := 114) (ls1 := [some (.ref 7), some (.int v1), some (.int v2), some (.int v3), some (.int v4), none, none]) (st1 := [(.int v2), (.ref 7)]) (mem1 := m) rfl ?_
  refine it_V.weak (l := [some (.ref 7), some (.int v1), none, some (.int v3), some (.int v4), none, none]) ⟨rfl, ⟨rfl, ⟨rfl, ⟨rfl, trivial⟩⟩⟩⟩ ?_
  exact s_157_114 kc Φ v1 v3 v4 v2 m h
set_option maxRecDepth 100000 in
set_option maxHeartbeats 4000000 in
theorem s_157_113 (kc : it_Kc) (Φ : it_Me → Prop) (v1 : Int32) (v3 : Int32) (v4 : Int32) (m : it_Me) (h : w_157_113 kc Φ v1 v3 v4 m) : it_V kc it_sh0 157 113 [some (.ref 7), some (.int v1), none, some (.int v3), some (.int v4), none, none] [(.ref 7)] m (it_Pv Φ) := by
  rw [w_157_113] at h
  refine it_V.sN it_cd157 it_m157 1 (pc1 := 114) (ls1 := [some (.ref 7), some (.int v1), none, some (.int v3), some (.int v4), none, none]) (st1 := [(.int v1), (.ref 7)]) (mem1 := m) rfl ?_
  refine it_V.weak (l := [some (.ref 7), some (.int v1), none, some (.int v3), some (.int v4), none, none]) ⟨rfl, ⟨rfl, ⟨rfl, ⟨rfl, trivial⟩⟩⟩⟩ ?_
  exact s_157_114 kc Φ v1 v3 v4 v1 m h
set_option maxRecDepth 100000 in
set_option maxHeartbeats 4000000 in
theorem s_157_92 (kc : it_Kc) (Φ : it_Me → Prop) (v1 : Int32) (v2 : Int32) (v3 : Int32) (v4 : Int32) (u0 : Int32) (m : it_Me) (h : w_157_92 kc Φ v1 v2 v3 v4 u0 m) : it_V kc it_sh0 157 92 [some (.ref 7), some (.int v1), some (.int v2), some (.int v3), some (.int v4), none, none] [(.int u0)] m (it_Pv Φ) := by
  rw [w_157_92] at h
  refine it_V.sN it_cd157 it_m157 4 (pc1 := (if v4 = 0 then 113 else 100)) (ls1 := [some (.ref 7), some (.int v1), some (.int v2), some (.int v3), some (.int v4), none, some (.int u0)]) (st1 := [(.ref 7)]) (mem1 := m) rfl ?_
  refine it_V.ite (fun c1 => ?_) (fun c1 => ?_)
  · have h := h.1 c1
    refine it_V.weak (l := [some (.ref 7), some (.int v1), none, some (.int v3), some (.int v4), none, none]) ⟨rfl, ⟨rfl, ⟨rfl, ⟨rfl, trivial⟩⟩⟩⟩ ?_
    exact s_157_113 kc Φ v1 v3 v4 m h
  · have h := h.2 c1
    refine it_V.sN it_cd157 it_m157 2 (pc1 := (if v3 = 0 then 109 else 104)) (ls1 := [some (.ref 7), some (.int v1), some (.int v2), some (.int v3), some (.int v4), none, some (.int u0)]) (st1 := [(.ref 7)]) (mem1 := m) rfl ?_
    refine it_V.ite (fun c2 => ?_) (fun c2 => ?_)
    · have h := h.1 c2
      refine it_V.weak (l := [some (.ref 7), some (.int v1), some (.int v2), some (.int v3), some (.int v4), none, none]) ⟨rfl, ⟨rfl, ⟨rfl, ⟨rfl, ⟨rfl, trivial⟩⟩⟩⟩⟩ ?_
      exact s_157_109 kc Φ v1 v2 v3 v4 m h
    · have h := h.2 c2
      refine it_V.sN it_cd157 it_m157 2 (pc1 := (if u0 = 0 then 113 else 109)) (ls1 := [some (.ref 7), some (.int v1), some (.int v2), some (.int v3), some (.int v4), none, some (.int u0)]) (st1 := [(.ref 7)]) (mem1 := m) rfl ?_
      refine it_V.ite (fun c3 => ?_) (fun c3 => ?_)
      · have h := h.1 c3
        refine it_V.weak (l := [some (.ref 7), some (.int v1), none, some (.int v3), some (.int v4), none, none]) ⟨rfl, ⟨rfl, ⟨rfl, ⟨rfl, trivial⟩⟩⟩⟩ ?_
        exact s_157_113 kc Φ v1 v3 v4 m h
      · have h := h.2 c3
        refine it_V.weak (l := [some (.ref 7), some (.int v1), some (.int v2), some (.int v3), some (.int v4), none, none]) ⟨rfl, ⟨rfl, ⟨rfl, ⟨rfl, ⟨rfl, trivial⟩⟩⟩⟩⟩ ?_
        exact s_157_109 kc Φ v1 v2 v3 v4 m h
set_option maxRecDepth 100000 in
set_option maxHeartbeats 4000000 in
theorem s_157_91 (kc : it_Kc) (Φ : it_Me → Prop) (v1 : Int32) (v2 : Int32) (v3 : Int32) (v4 : Int32) (m : it_Me) (h : w_157_91 kc Φ v1 v2 v3 v4 m) : it_V kc it_sh0 157 91 [some (.ref 7), some (.int v1), some (.int v2), some (.int v3), some (.int v4), none, none] [] m (it_Pv Φ) := by
  rw [w_157_91] at h
  refine it_V.sN it_cd157 it_m157 1 (pc1 := 92) (ls1 := [some (.ref 7), some (.int v1), some (.int v2), some (.int v3), some (.int v4), none, none]) (st1 := [(.int (0 : Int32))]) (mem1 := m) rfl ?_
  refine it_V.weak (l := [some (.ref 7), some (.int v1), some (.int v2), some (.int v3), some (.int v4), none, none]) ⟨rfl, ⟨rfl, ⟨rfl, ⟨rfl, ⟨rfl, trivial⟩⟩⟩⟩⟩ ?_
  exact s_157_92 kc Φ v1 v2 v3 v4 (0 : Int32) m h
set_option maxRecDepth 100000 in
set_option maxHeartbeats 4000000 in
theorem s_157_49 (kc : it_Kc) (Φ : it_Me → Prop) (v1 : Int32) (v2 : Int32) (v3 : Int32) (u0 : Int32) (m : it_Me) (h : w_157_49 kc Φ v1 v2 v3 u0 m) : it_V kc it_sh0 157 49 [some (.ref 7), some (.int v1), some (.int v2), some (.int v3), none, none, none] [(.int u0)] m (it_Pv Φ) := by
  rw [w_157_49] at h
  refine it_V.sN it_cd157 it_m157 4 (pc1 := 56) (ls1 := [some (.ref 7), some (.int v1), some (.int v2), some (.int v3), some (.int u0), none, none]) (st1 := [(.int v2), (.ref 1)]) (mem1 := m) rfl ?_
  refine it_V.call it_cd157 it_m157 rfl it_m12 [(.ref 1), (.int v2)] [] rfl rfl ⟨Nat.le_of_ble_eq_true rfl, Nat.le_of_ble_eq_true rfl, Nat.le_of_ble_eq_true rfl, Nat.le_of_ble_eq_true rfl, rfl⟩ (s_12 kc v2 m _ h) ?_
  rintro _ m2 ⟨r1, rfl, h⟩
  refine it_V.at (pc1 := 59) (ls1 := [some (.ref 7), some (.int v1), some (.int v2), some (.int v3), some (.int u0), none, none]) (st1 := [(.int r1)]) (mem1 := m2) rfl rfl rfl rfl ?_
  refine it_V.sN it_cd157 it_m157 3 (pc1 := 64) (ls1 := [some (.ref 7), some (.int v1), some (.int v2), some (.int v3), some (.int u0), none, none]) (st1 := [(.int v1), (.ref 1), (.int r1)]) (mem1 := m2) rfl ?_
  refine it_V.call it_cd157 it_m157 rfl it_m12 [(.ref 1), (.int v1)] [(.int r1)] rfl rfl ⟨Nat.le_of_ble_eq_true rfl, Nat.le_of_ble_eq_true rfl, Nat.le_of_ble_eq_true rfl, Nat.le_of_ble_eq_true rfl, rfl⟩ (s_12 kc v1 m2 _ h) ?_
  rintro _ m4 ⟨r3, rfl, h⟩
  refine it_V.at (pc1 := 67) (ls1 := [some (.ref 7), some (.int v1), some (.int v2), some (.int v3), some (.int u0), none, none]) (st1 := [(.int r3), (.int r1)]) (mem1 := m4) rfl rfl rfl rfl ?_
  refine it_V.sN it_cd157 it_m157 7 (pc1 := (if ((r1 - r3) &&& (65535 : Int32)) < (1 : Int32) then 91 else 79)) (ls1 := [some (.ref 7), some (.int v1), some (.int v2), some (.int v3), some (.int u0), some (.int ((r1 - r3) &&& (65535 : Int32))), none]) (st1 := []) (mem1 := m4) rfl ?_
  refine it_V.ite (fun c5 => ?_) (fun c5 => ?_)
  · have h := h.1 c5
    refine it_V.weak (l := [some (.ref 7), some (.int v1), some (.int v2), some (.int v3), some (.int u0), none, none]) ⟨rfl, ⟨rfl, ⟨rfl, ⟨rfl, ⟨rfl, trivial⟩⟩⟩⟩⟩ ?_
    exact s_157_91 kc Φ v1 v2 v3 u0 m4 h
  · have h := h.2 c5
    refine it_V.sN it_cd157 it_m157 3 (pc1 := (if (32767 : Int32) < ((r1 - r3) &&& (65535 : Int32)) then 91 else 87)) (ls1 := [some (.ref 7), some (.int v1), some (.int v2), some (.int v3), some (.int u0), some (.int ((r1 - r3) &&& (65535 : Int32))), none]) (st1 := []) (mem1 := m4) rfl ?_
    refine it_V.ite (fun c6 => ?_) (fun c6 => ?_)
    · have h := h.1 c6
      refine it_V.weak (l := [some (.ref 7), some (.int v1), some (.int v2), some (.int v3), some (.int u0), none, none]) ⟨rfl, ⟨rfl, ⟨rfl, ⟨rfl, ⟨rfl, trivial⟩⟩⟩⟩⟩ ?_
      exact s_157_91 kc Φ v1 v2 v3 u0 m4 h
    · have h := h.2 c6
      refine it_V.sN it_cd157 it_m157 2 (pc1 := 92) (ls1 := [some (.ref 7), some (.int v1), some (.int v2), some (.int v3), some (.int u0), some (.int ((r1 - r3) &&& (65535 : Int32))), none]) (st1 := [(.int (1 : Int32))]) (mem1 := m4) rfl ?_
      refine it_V.weak (l := [some (.ref 7), some (.int v1), some (.int v2), some (.int v3), some (.int u0), none, none]) ⟨rfl, ⟨rfl, ⟨rfl, ⟨rfl, ⟨rfl, trivial⟩⟩⟩⟩⟩ ?_
      exact s_157_92 kc Φ v1 v2 v3 u0 (1 : Int32) m4 h
set_option maxRecDepth 100000 in
set_option maxHeartbeats 4000000 in
theorem s_157_27 (kc : it_Kc) (Φ : it_Me → Prop) (v1 : Int32) (v2 : Int32) (u0 : Int32) (m : it_Me) (h : w_157_27 kc Φ v1 v2 u0 m) : it_V kc it_sh0 157 27 [some (.ref 7), some (.int v1), some (.int v2), none, none, none, none] [(.int u0)] m (it_Pv Φ) := by
  rw [w_157_27] at h
  refine it_V.sN it_cd157 it_m157 4 (pc1 := 33) (ls1 := [some (.ref 7), some (.int v1), some (.int v2), some (.int u0), none, none, none]) (st1 := [(.int v2), (.ref 1)]) (mem1 := m) rfl ?_
  refine it_V.call it_cd157 it_m157 rfl it_m12 [(.ref 1), (.int v2)] [] rfl rfl ⟨Nat.le_of_ble_eq_true rfl, Nat.le_of_ble_eq_true rfl, Nat.le_of_ble_eq_true rfl, Nat.le_of_ble_eq_true rfl, rfl⟩ (s_12 kc v2 m _ h) ?_
  rintro _ m2 ⟨r1, rfl, h⟩
  refine it_V.at (pc1 := 36) (ls1 := [some (.ref 7), some (.int v1), some (.int v2), some (.int u0), none, none, none]) (st1 := [(.int r1)]) (mem1 := m2) rfl rfl rfl rfl ?_
  refine it_V.sN it_cd157 it_m157 4 (pc1 := (if (r1 &&& (-65536 : Int32)) = (1263927296 : Int32) then 44 else 48)) (ls1 := [some (.ref 7), some (.int v1), some (.int v2), some (.int u0), none, none, none]) (st1 := []) (mem1 := m2) rfl ?_
  refine it_V.ite (fun c3 => ?_) (fun c3 => ?_)
  · have h := h.1 c3
    refine it_V.sN it_cd157 it_m157 2 (pc1 := 49) (ls1 := [some (.ref 7), some (.int v1), some (.int v2), some (.int u0), none, none, none]) (st1 := [(.int (1 : Int32))]) (mem1 := m2) rfl ?_
    refine it_V.weak (l := [some (.ref 7), some (.int v1), some (.int v2), some (.int u0), none, none, none]) ⟨rfl, ⟨rfl, ⟨rfl, ⟨rfl, trivial⟩⟩⟩⟩ ?_
    exact s_157_49 kc Φ v1 v2 u0 (1 : Int32) m2 h
  · have h := h.2 c3
    refine it_V.sN it_cd157 it_m157 1 (pc1 := 49) (ls1 := [some (.ref 7), some (.int v1), some (.int v2), some (.int u0), none, none, none]) (st1 := [(.int (0 : Int32))]) (mem1 := m2) rfl ?_
    refine it_V.weak (l := [some (.ref 7), some (.int v1), some (.int v2), some (.int u0), none, none, none]) ⟨rfl, ⟨rfl, ⟨rfl, ⟨rfl, trivial⟩⟩⟩⟩ ?_
    exact s_157_49 kc Φ v1 v2 u0 (0 : Int32) m2 h
set_option maxRecDepth 100000 in
set_option maxHeartbeats 4000000 in
theorem s_157 (kc : it_Kc) (m : it_Me) (Φ : it_Me → Prop) (h : w_157 kc m Φ) : it_V kc it_sh0 157 0 (it_loc0 [(.ref 7)] 7) [] m (it_Pv Φ) := by
  rw [w_157] at h
  refine it_V.at (pc1 := 0) (ls1 := [some (.ref 7), none, none, none, none, none, none]) (st1 := []) (mem1 := m) rfl rfl rfl rfl ?_
  refine it_V.sN it_cd157 it_m157 7 (pc1 := 11) (ls1 := [some (.ref 7), some (.int (126976 : Int32)), some (.int (129024 : Int32)), none, none, none, none]) (st1 := [(.int (126976 : Int32)), (.ref 1)]) (mem1 := m) rfl ?_
  refine it_V.call it_cd157 it_m157 rfl it_m12 [(.ref 1), (.int (126976 : Int32))] [] rfl rfl ⟨Nat.le_of_ble_eq_true rfl, Nat.le_of_ble_eq_true rfl, Nat.le_of_ble_eq_true rfl, Nat.le_of_ble_eq_true rfl, rfl⟩ (s_12 kc (126976 : Int32) m _ h) ?_
  rintro _ m2 ⟨r1, rfl, h⟩
  refine it_V.at (pc1 := 14) (ls1 := [some (.ref 7), some (.int (126976 : Int32)), some (.int (129024 : Int32)), none, none, none, none]) (st1 := [(.int r1)]) (mem1 := m2) rfl rfl rfl rfl ?_
  refine it_V.sN it_cd157 it_m157 4 (pc1 := (if (r1 &&& (-65536 : Int32)) = (1263927296 : Int32) then 22 else 26)) (ls1 := [some (.ref 7), some (.int (126976 : Int32)), some (.int (129024 : Int32)), none, none, none, none]) (st1 := []) (mem1 := m2) rfl ?_
  refine it_V.ite (fun c3 => ?_) (fun c3 => ?_)
  · have h := h.1 c3
    refine it_V.sN it_cd157 it_m157 2 (pc1 := 27) (ls1 := [some (.ref 7), some (.int (126976 : Int32)), some (.int (129024 : Int32)), none, none, none, none]) (st1 := [(.int (1 : Int32))]) (mem1 := m2) rfl ?_
    exact s_157_27 kc Φ (126976 : Int32) (129024 : Int32) (1 : Int32) m2 h
  · have h := h.2 c3
    refine it_V.sN it_cd157 it_m157 1 (pc1 := 27) (ls1 := [some (.ref 7), some (.int (126976 : Int32)), some (.int (129024 : Int32)), none, none, none, none]) (st1 := [(.int (0 : Int32))]) (mem1 := m2) rfl ?_
    exact s_157_27 kc Φ (126976 : Int32) (129024 : Int32) (0 : Int32) m2 h
set_option maxRecDepth 100000 in
set_option maxHeartbeats 4000000 in
theorem s_158_65 (kc : it_Kc) (Φ : Int32 → it_Me → Prop) (u0 : Int32) (m : it_Me) (h : w_158_65 kc Φ u0 m) : it_V kc it_sh0 158 65 [none, none, none, none, none, none] [(.int u0)] m (it_Pi Φ) := by
  rw [w_158_65] at h
  exact it_V.ret it_cd158 it_m158 rfl rfl ⟨_, rfl, h⟩
set_option maxRecDepth 100000 in
set_option maxHeartbeats 4000000 in
theorem s_158_47 (kc : it_Kc) (Φ : Int32 → it_Me → Prop) (m : it_Me) (h : w_158_47 kc Φ m) : it_V kc it_sh0 158 47 [none, none, none, none, none, none] [] m (it_Pi Φ) := by
  rw [w_158_47] at h
  refine it_V.sN it_cd158 it_m158 2 (pc1 := 65) (ls1 := [none, none, none, none, none, none]) (st1 := [(.int (-1 : Int32))]) (mem1 := m) rfl ?_
  refine it_V.weak (l := [none, none, none, none, none, none]) trivial ?_
  exact s_158_65 kc Φ (-1 : Int32) m h
set_option maxRecDepth 100000 in
set_option maxHeartbeats 4000000 in
theorem s_158 (kc : it_Kc) (x0 : Int32) (x1 : Int32) (x2 : Int32) (m : it_Me) (Φ : Int32 → it_Me → Prop) (h : w_158 kc x0 x1 x2 m Φ) : it_V kc it_sh0 158 0 (it_loc0 [(.ref 7), (.int x0), (.int x1), (.int x2)] 6) [] m (it_Pi Φ) := by
  rw [w_158] at h
  refine it_V.at (pc1 := 0) (ls1 := [some (.ref 7), some (.int x0), some (.int x1), some (.int x2), none, none]) (st1 := []) (mem1 := m) rfl rfl rfl rfl ?_
  refine it_V.sN it_cd158 it_m158 3 (pc1 := 3) (ls1 := [some (.ref 7), some (.int x0), some (.int x1), some (.int x2), none, none]) (st1 := [(.int x1), (.int x0), (.ref 7)]) (mem1 := m) rfl ?_
  refine it_V.call it_cd158 it_m158 rfl it_m159 [(.ref 7), (.int x0), (.int x1)] [] rfl rfl ⟨Nat.le_of_ble_eq_true rfl, Nat.le_of_ble_eq_true rfl, Nat.le_of_ble_eq_true rfl, Nat.le_of_ble_eq_true rfl, rfl⟩ (s_159 kc x0 x1 m _ h) ?_
  rintro _ m2 ⟨r1, rfl, h⟩
  refine it_V.at (pc1 := 6) (ls1 := [some (.ref 7), some (.int x0), some (.int x1), some (.int x2), none, none]) (st1 := [(.int r1)]) (mem1 := m2) rfl rfl rfl rfl ?_
  refine it_V.sN it_cd158 it_m158 3 (pc1 := (if r1 = 0 then 13 else 15)) (ls1 := [some (.ref 7), some (.int x0), some (.int x1), some (.int x2), some (.int r1), none]) (st1 := []) (mem1 := m2) rfl ?_
  refine it_V.ite (fun c3 => ?_) (fun c3 => ?_)
  · have h := h.1 c3
    refine it_V.sN it_cd158 it_m158 1 (pc1 := 14) (ls1 := [some (.ref 7), some (.int x0), some (.int x1), some (.int x2), some (.int r1), none]) (st1 := [(.int (-1 : Int32))]) (mem1 := m2) rfl ?_
    exact it_V.ret it_cd158 it_m158 rfl rfl ⟨_, rfl, h⟩
  · have h := h.2 c3
    refine it_V.sN it_cd158 it_m158 5 (pc1 := 24) (ls1 := [some (.ref 7), some (.int x0), some (.int x1), some (.int x2), some (.int r1), none]) (st1 := [(.int (r1 + (8 : Int32))), (.ref 1)]) (mem1 := m2) rfl ?_
    refine it_V.call it_cd158 it_m158 rfl it_m12 [(.ref 1), (.int (r1 + (8 : Int32)))] [] rfl rfl ⟨Nat.le_of_ble_eq_true rfl, Nat.le_of_ble_eq_true rfl, Nat.le_of_ble_eq_true rfl, Nat.le_of_ble_eq_true rfl, rfl⟩ (s_12 kc (r1 + (8 : Int32)) m2 _ h) ?_
    rintro _ m5 ⟨r4, rfl, h⟩
    refine it_V.at (pc1 := 27) (ls1 := [some (.ref 7), some (.int x0), some (.int x1), some (.int x2), some (.int r1), none]) (st1 := [(.int r4)]) (mem1 := m5) rfl rfl rfl rfl ?_
    refine it_V.sN it_cd158 it_m158 4 (pc1 := (if x2 = (-1 : Int32) then 34 else 37)) (ls1 := [some (.ref 7), some (.int x0), some (.int x1), some (.int x2), some (.int r1), some (.int r4)]) (st1 := []) (mem1 := m5) rfl ?_
    refine it_V.ite (fun c6 => ?_) (fun c6 => ?_)
    · have h := h.1 c6
      refine it_V.sN it_cd158 it_m158 1 (pc1 := 36) (ls1 := [some (.ref 7), some (.int x0), some (.int x1), some (.int x2), some (.int r1), some (.int r4)]) (st1 := [(.int r4)]) (mem1 := m5) rfl ?_
      exact it_V.ret it_cd158 it_m158 rfl rfl ⟨_, rfl, h⟩
    · have h := h.2 c6
      refine it_V.sN it_cd158 it_m158 2 (pc1 := (if x2 < 0 then 47 else 41)) (ls1 := [some (.ref 7), some (.int x0), some (.int x1), some (.int x2), some (.int r1), some (.int r4)]) (st1 := []) (mem1 := m5) rfl ?_
      refine it_V.ite (fun c7 => ?_) (fun c7 => ?_)
      · have h := h.1 c7
        refine it_V.weak (l := [none, none, none, none, none, none]) trivial ?_
        exact s_158_47 kc Φ m5 h
      · have h := h.2 c7
        refine it_V.sN it_cd158 it_m158 3 (pc1 := (if x2 < r4 then 51 else 47)) (ls1 := [some (.ref 7), some (.int x0), some (.int x1), some (.int x2), some (.int r1), some (.int r4)]) (st1 := []) (mem1 := m5) rfl ?_
        refine it_V.ite (fun c8 => ?_) (fun c8 => ?_)
        · have h := h.1 c8
          refine it_V.sN it_cd158 it_m158 7 (pc1 := 62) (ls1 := [some (.ref 7), some (.int x0), some (.int x1), some (.int x2), some (.int r1), some (.int r4)]) (st1 := [(.int ((r1 + (12 : Int32)) + x2)), (.ref 1)]) (mem1 := m5) rfl ?_
          refine it_V.call it_cd158 it_m158 rfl it_m16 [(.ref 1), (.int ((r1 + (12 : Int32)) + x2))] [] rfl rfl ⟨Nat.le_of_ble_eq_true rfl, Nat.le_of_ble_eq_true rfl, Nat.le_of_ble_eq_true rfl, Nat.le_of_ble_eq_true rfl, rfl⟩ (s_16 kc ((r1 + (12 : Int32)) + x2) m5 _ h) ?_
          rintro _ m10 ⟨r9, rfl, h⟩
          refine it_V.at (pc1 := 65) (ls1 := [some (.ref 7), some (.int x0), some (.int x1), some (.int x2), some (.int r1), some (.int r4)]) (st1 := [(.int r9)]) (mem1 := m10) rfl rfl rfl rfl ?_
          refine it_V.weak (l := [none, none, none, none, none, none]) trivial ?_
          exact s_158_65 kc Φ r9 m10 h
        · have h := h.2 c8
          refine it_V.weak (l := [none, none, none, none, none, none]) trivial ?_
          exact s_158_47 kc Φ m5 h
set_option maxRecDepth 100000 in
set_option maxHeartbeats 4000000 in
theorem s_175_58 (kc : it_Kc) (Φ : it_Me → Prop) (m : it_Me) (h : w_175_58 kc Φ m) : it_V kc it_sh0 175 58 [none, none, none, none] [] m (it_Pv Φ) := by
  rw [w_175_58] at h
  exact it_V.ret it_cd175 it_m175 rfl rfl ⟨rfl, h⟩
set_option maxRecDepth 100000 in
set_option maxHeartbeats 4000000 in
theorem s_175_46 (kc : it_Kc) (Φ : it_Me → Prop) (v1 : Nat) (v2 : Int32) (hv1 : it_isP v1) (m : it_Me) (h : w_175_46 kc Φ v1 v2 m) : it_V kc it_sh0 175 46 [some (.ref 64), some (.ref v1), some (.int v2), none] [] m (it_Pv Φ) := by
  rw [w_175_46] at h
  refine it_V.sN it_cd175 it_m175 2 (pc1 := (if v2 = 0 then 58 else 50)) (ls1 := [some (.ref 64), some (.ref v1), some (.int v2), none]) (st1 := []) (mem1 := m) rfl ?_
  refine it_V.ite (fun c1 => ?_) (fun c1 => ?_)
  · have h := h.1 c1
    refine it_V.weak (l := [none, none, none, none]) trivial ?_
    exact s_175_58 kc Φ m h
  · have h := h.2 c1
    refine it_V.sN it_cd175 it_m175 3 (pc1 := 55) (ls1 := [some (.ref 64), some (.ref v1), some (.int v2), none]) (st1 := [(.ref v1), (.ref 9)]) (mem1 := m) rfl ?_
    refine it_V.call it_cd175 it_m175 rfl it_m82 [(.ref 9), (.ref v1)] [] rfl rfl ⟨Nat.le_of_ble_eq_true rfl, Nat.le_of_ble_eq_true rfl, Nat.le_of_ble_eq_true rfl, Nat.le_of_ble_eq_true rfl, rfl⟩ (s_82 kc v1 (hv1) m _ h) ?_
    rintro _ m2 ⟨rfl, h⟩
    refine it_V.at (pc1 := 58) (ls1 := [some (.ref 64), some (.ref v1), some (.int v2), none]) (st1 := []) (mem1 := m2) rfl rfl rfl rfl ?_
    refine it_V.weak (l := [none, none, none, none]) trivial ?_
    exact s_175_58 kc Φ m2 h
set_option maxRecDepth 100000 in
set_option maxHeartbeats 4000000 in
theorem s_175_43 (kc : it_Kc) (Φ : it_Me → Prop) (v1 : Nat) (v2 : Int32) (u1 : Int32) (u2 : Int32) (hv1 : it_isP v1) (m : it_Me) (h : w_175_43 kc Φ v1 v2 u1 u2 m) : it_V kc it_sh0 175 43 [some (.ref 64), some (.ref v1), some (.int v2), none] [(.int u2), (.int u1), (.ref 1)] m (it_Pv Φ) := by
  rw [w_175_43] at h
  refine it_V.call it_cd175 it_m175 rfl it_m17 [(.ref 1), (.int u1), (.int u2)] [] rfl rfl ⟨Nat.le_of_ble_eq_true rfl, Nat.le_of_ble_eq_true rfl, Nat.le_of_ble_eq_true rfl, Nat.le_of_ble_eq_true rfl, rfl⟩ (s_17 kc u1 u2 m _ h) ?_
  rintro _ m1 ⟨rfl, h⟩
  refine it_V.at (pc1 := 46) (ls1 := [some (.ref 64), some (.ref v1), some (.int v2), none]) (st1 := []) (mem1 := m1) rfl rfl rfl rfl ?_
  refine it_V.weak (l := [some (.ref 64), some (.ref v1), some (.int v2), none]) ⟨rfl, ⟨rfl, ⟨rfl, trivial⟩⟩⟩ ?_
  exact s_175_46 kc Φ v1 v2 (hv1) m1 h
set_option maxRecDepth 100000 in
set_option maxHeartbeats 4000000 in
theorem s_175_12 (kc : it_Kc) (Φ : it_Me → Prop) (v1 : Nat) (u0 : Int32) (hv1 : it_isP v1) (m : it_Me) (h : w_175_12 kc Φ v1 u0 m) : it_V kc it_sh0 175 12 [some (.ref 64), some (.ref v1), none, none] [(.int u0)] m (it_Pv Φ) := by
  rw [w_175_12] at h
  refine it_V.sN it_cd175 it_m175 2 (pc1 := 14) (ls1 := [some (.ref 64), some (.ref v1), some (.int u0), none]) (st1 := [(.ref v1)]) (mem1 := m) rfl ?_
  refine it_V.getP it_cd175 it_m175 rfl (hv1).1 rfl ?_
  refine it_V.at (pc1 := 17) (ls1 := [some (.ref 64), some (.ref v1), some (.int u0), none]) (st1 := [(.ref (v1 + 2))]) (mem1 := m) rfl rfl rfl rfl ?_
  refine it_V.sN it_cd175 it_m175 1 (pc1 := 19) (ls1 := [some (.ref 64), some (.ref v1), some (.int u0), none]) (st1 := [(.int (11 : Int32)), (.ref (v1 + 2))]) (mem1 := m) rfl ?_
  obtain ⟨g1, h⟩ := h
  refine it_V.iald it_cd175 it_m175 rfl ((hv1).2.2.1).2 ((hv1).2.2.1).1 g1 ?_
  refine it_V.at (pc1 := 20) (ls1 := [some (.ref 64), some (.ref v1), some (.int u0), none]) (st1 := [(.int (m (v1 + 2) (Int32.toNatClampNeg (11 : Int32))))]) (mem1 := m) rfl rfl rfl rfl ?_
  refine it_V.sN it_cd175 it_m175 3 (pc1 := 23) (ls1 := [some (.ref 64), some (.ref v1), some (.int u0), some (.int (m (v1 + 2) (Int32.toNatClampNeg (11 : Int32))))]) (st1 := [(.int (m (v1 + 2) (Int32.toNatClampNeg (11 : Int32)))), (.ref v1)]) (mem1 := m) rfl ?_
  refine it_V.call it_cd175 it_m175 rfl it_m132 [(.ref v1), (.int (m (v1 + 2) (Int32.toNatClampNeg (11 : Int32))))] [] rfl rfl ⟨Nat.le_of_ble_eq_true rfl, Nat.le_of_ble_eq_true rfl, Nat.le_of_ble_eq_true rfl, Nat.le_of_ble_eq_true rfl, (it_recvP (hv1).1)⟩ (s_132 kc v1 (m (v1 + 2) (Int32.toNatClampNeg (11 : Int32))) (hv1) m _ h) ?_
  rintro _ m3 ⟨r2, rfl, h⟩
  refine it_V.at (pc1 := 26) (ls1 := [some (.ref 64), some (.ref v1), some (.int u0), some (.int (m (v1 + 2) (Int32.toNatClampNeg (11 : Int32))))]) (st1 := [(.int r2)]) (mem1 := m3) rfl rfl rfl rfl ?_
  refine it_V.sN it_cd175 it_m175 1 (pc1 := (if r2 = 0 then 46 else 29)) (ls1 := [some (.ref 64), some (.ref v1), some (.int u0), some (.int (m (v1 + 2) (Int32.toNatClampNeg (11 : Int32))))]) (st1 := []) (mem1 := m3) rfl ?_
  refine it_V.ite (fun c4 => ?_) (fun c4 => ?_)
  · have h := h.1 c4
    refine it_V.weak (l := [some (.ref 64), some (.ref v1), some (.int u0), none]) ⟨rfl, ⟨rfl, ⟨rfl, trivial⟩⟩⟩ ?_
    exact s_175_46 kc Φ v1 u0 (hv1) m3 h
  · have h := h.2 c4
    refine it_V.sN it_cd175 it_m175 5 (pc1 := (if u0 = 0 then 42 else 38)) (ls1 := [some (.ref 64), some (.ref v1), some (.int u0), some (.int (m (v1 + 2) (Int32.toNatClampNeg (11 : Int32))))]) (st1 := [(.int (m (v1 + 2) (Int32.toNatClampNeg (11 : Int32)))), (.ref 1)]) (mem1 := m3) rfl ?_
    refine it_V.ite (fun c5 => ?_) (fun c5 => ?_)
    · have h := h.1 c5
      refine it_V.sN it_cd175 it_m175 1 (pc1 := 43) (ls1 := [some (.ref 64), some (.ref v1), some (.int u0), some (.int (m (v1 + 2) (Int32.toNatClampNeg (11 : Int32))))]) (st1 := [(.int (0 : Int32)), (.int (m (v1 + 2) (Int32.toNatClampNeg (11 : Int32)))), (.ref 1)]) (mem1 := m3) rfl ?_
      refine it_V.weak (l := [some (.ref 64), some (.ref v1), some (.int u0), none]) ⟨rfl, ⟨rfl, ⟨rfl, trivial⟩⟩⟩ ?_
      exact s_175_43 kc Φ v1 u0 (m (v1 + 2) (Int32.toNatClampNeg (11 : Int32))) (0 : Int32) (hv1) m3 h
    · have h := h.2 c5
      refine it_V.sN it_cd175 it_m175 2 (pc1 := 43) (ls1 := [some (.ref 64), some (.ref v1), some (.int u0), some (.int (m (v1 + 2) (Int32.toNatClampNeg (11 : Int32))))]) (st1 := [(.int (1 : Int32)), (.int (m (v1 + 2) (Int32.toNatClampNeg (11 : Int32)))), (.ref 1)]) (mem1 := m3) rfl ?_
      refine it_V.weak (l := [some (.ref 64), some (.ref v1), some (.int u0), none]) ⟨rfl, ⟨rfl, ⟨rfl, trivial⟩⟩⟩ ?_
      exact s_175_43 kc Φ v1 u0 (m (v1 + 2) (Int32.toNatClampNeg (11 : Int32))) (1 : Int32) (hv1) m3 h
set_option maxRecDepth 100000 in
set_option maxHeartbeats 4000000 in
theorem s_175 (kc : it_Kc) (x0 : Nat) (hx0 : it_isP x0) (m : it_Me) (Φ : it_Me → Prop) (h : w_175 kc x0 m Φ) : it_V kc it_sh0 175 0 (it_loc0 [(.ref 64), (.ref x0)] 4) [] m (it_Pv Φ) := by
  rw [w_175] at h
  refine it_V.at (pc1 := 0) (ls1 := [some (.ref 64), some (.ref x0), none, none]) (st1 := []) (mem1 := m) rfl rfl rfl rfl ?_
  refine it_V.sN it_cd175 it_m175 1 (pc1 := 1) (ls1 := [some (.ref 64), some (.ref x0), none, none]) (st1 := [(.ref x0)]) (mem1 := m) rfl ?_
  refine it_V.getP it_cd175 it_m175 rfl (hx0).1 rfl ?_
  refine it_V.at (pc1 := 4) (ls1 := [some (.ref 64), some (.ref x0), none, none]) (st1 := [(.int (m x0 14))]) (mem1 := m) rfl rfl rfl rfl ?_
  refine it_V.sN it_cd175 it_m175 1 (pc1 := (if (m x0 14) ≤ 0 then 11 else 7)) (ls1 := [some (.ref 64), some (.ref x0), none, none]) (st1 := []) (mem1 := m) rfl ?_
  refine it_V.ite (fun c1 => ?_) (fun c1 => ?_)
  · have h := h.1 c1
    refine it_V.sN it_cd175 it_m175 1 (pc1 := 12) (ls1 := [some (.ref 64), some (.ref x0), none, none]) (st1 := [(.int (0 : Int32))]) (mem1 := m) rfl ?_
    exact s_175_12 kc Φ x0 (0 : Int32) (hx0) m h
  · have h := h.2 c1
    refine it_V.sN it_cd175 it_m175 2 (pc1 := 12) (ls1 := [some (.ref 64), some (.ref x0), none, none]) (st1 := [(.int (1 : Int32))]) (mem1 := m) rfl ?_
    exact s_175_12 kc Φ x0 (1 : Int32) (hx0) m h
set_option maxRecDepth 100000 in
set_option maxHeartbeats 4000000 in
theorem s_176_42 (kc : it_Kc) (Φ : it_Me → Prop) (m : it_Me) (h : w_176_42 kc Φ m) : it_V kc it_sh0 176 42 [none, none, none, none, none] [] m (it_Pv Φ) := by
  rw [w_176_42] at h
  exact it_V.ret it_cd176 it_m176 rfl rfl ⟨rfl, h⟩
set_option maxRecDepth 100000 in
set_option maxHeartbeats 4000000 in
theorem s_176 (kc : it_Kc) (x0 : Nat) (x1 : Int32) (x2 : Int32) (hx0 : it_isP x0) (m : it_Me) (Φ : it_Me → Prop) (h : w_176 kc x0 x1 x2 m Φ) : it_V kc it_sh0 176 0 (it_loc0 [(.ref 64), (.ref x0), (.int x1), (.int x2)] 5) [] m (it_Pv Φ) := by
  rw [w_176] at h
  refine it_V.at (pc1 := 0) (ls1 := [some (.ref 64), some (.ref x0), some (.int x1), some (.int x2), none]) (st1 := []) (mem1 := m) rfl rfl rfl rfl ?_
  refine it_V.sN it_cd176 it_m176 3 (pc1 := 3) (ls1 := [some (.ref 64), some (.ref x0), some (.int x1), some (.int x2), none]) (st1 := [(.int x2), (.int x1), (.ref x0)]) (mem1 := m) rfl ?_
  refine it_V.call it_cd176 it_m176 rfl it_m142 [(.ref x0), (.int x1), (.int x2)] [] rfl rfl ⟨Nat.le_of_ble_eq_true rfl, Nat.le_of_ble_eq_true rfl, Nat.le_of_ble_eq_true rfl, Nat.le_of_ble_eq_true rfl, (it_recvP (hx0).1)⟩ (s_142 kc x0 x1 x2 (hx0) m _ h) ?_
  rintro _ m2 ⟨r1, rfl, h⟩
  refine it_V.at (pc1 := 6) (ls1 := [some (.ref 64), some (.ref x0), some (.int x1), some (.int x2), none]) (st1 := [(.int r1)]) (mem1 := m2) rfl rfl rfl rfl ?_
  refine it_V.sN it_cd176 it_m176 4 (pc1 := (if r1 = (-1 : Int32) then 27 else 14)) (ls1 := [some (.ref 64), some (.ref x0), some (.int x1), some (.int x2), some (.int r1)]) (st1 := []) (mem1 := m2) rfl ?_
  refine it_V.ite (fun c3 => ?_) (fun c3 => ?_)
  · have h := h.1 c3
    refine it_V.sN it_cd176 it_m176 2 (pc1 := 29) (ls1 := [some (.ref 64), some (.ref x0), some (.int x1), some (.int x2), some (.int r1)]) (st1 := [(.int (3 : Int32)), (.ref x0)]) (mem1 := m2) rfl ?_
    refine it_V.putP it_cd176 it_m176 rfl (hx0).1 rfl rfl rfl (Or.inl rfl) ?_
    refine it_V.at (pc1 := 32) (ls1 := [some (.ref 64), some (.ref x0), some (.int x1), some (.int x2), some (.int r1)]) (st1 := []) (mem1 := (it_sv m2 x0 9 (3 : Int32))) rfl rfl rfl rfl ?_
    refine it_V.sN it_cd176 it_m176 2 (pc1 := 34) (ls1 := [some (.ref 64), some (.ref x0), some (.int x1), some (.int x2), some (.int r1)]) (st1 := [(.int x1), (.ref x0)]) (mem1 := (it_sv m2 x0 9 (3 : Int32))) rfl ?_
    refine it_V.putP it_cd176 it_m176 rfl (hx0).1 rfl rfl rfl (Or.inl rfl) ?_
    refine it_V.at (pc1 := 37) (ls1 := [some (.ref 64), some (.ref x0), some (.int x1), some (.int x2), some (.int r1)]) (st1 := []) (mem1 := (it_sv (it_sv m2 x0 9 (3 : Int32)) x0 15 x1)) rfl rfl rfl rfl ?_
    refine it_V.sN it_cd176 it_m176 2 (pc1 := 39) (ls1 := [some (.ref 64), some (.ref x0), some (.int x1), some (.int x2), some (.int r1)]) (st1 := [(.int x2), (.ref x0)]) (mem1 := (it_sv (it_sv m2 x0 9 (3 : Int32)) x0 15 x1)) rfl ?_
    refine it_V.putP it_cd176 it_m176 rfl (hx0).1 rfl rfl rfl (Or.inl rfl) ?_
    refine it_V.at (pc1 := 42) (ls1 := [some (.ref 64), some (.ref x0), some (.int x1), some (.int x2), some (.int r1)]) (st1 := []) (mem1 := (it_sv (it_sv (it_sv m2 x0 9 (3 : Int32)) x0 15 x1) x0 16 x2)) rfl rfl rfl rfl ?_
    refine it_V.weak (l := [none, none, none, none, none]) trivial ?_
    exact s_176_42 kc Φ (it_sv (it_sv (it_sv m2 x0 9 (3 : Int32)) x0 15 x1) x0 16 x2) h
  · have h := h.2 c3
    refine it_V.sN it_cd176 it_m176 4 (pc1 := 21) (ls1 := [some (.ref 64), some (.ref x0), some (.int x1), some (.int x2), some (.int r1)]) (st1 := [(.int r1), (.ref x0), (.ref 9)]) (mem1 := m2) rfl ?_
    refine it_V.call it_cd176 it_m176 rfl it_m81 [(.ref 9), (.ref x0), (.int r1)] [] rfl rfl ⟨Nat.le_of_ble_eq_true rfl, Nat.le_of_ble_eq_true rfl, Nat.le_of_ble_eq_true rfl, Nat.le_of_ble_eq_true rfl, rfl⟩ (s_81 kc x0 r1 (hx0) m2 _ h) ?_
    rintro _ m4 ⟨rfl, h⟩
    refine it_V.at (pc1 := 24) (ls1 := [some (.ref 64), some (.ref x0), some (.int x1), some (.int x2), some (.int r1)]) (st1 := []) (mem1 := m4) rfl rfl rfl rfl ?_
    refine it_V.sN it_cd176 it_m176 1 (pc1 := 42) (ls1 := [some (.ref 64), some (.ref x0), some (.int x1), some (.int x2), some (.int r1)]) (st1 := []) (mem1 := m4) rfl ?_
    refine it_V.weak (l := [none, none, none, none, none]) trivial ?_
    exact s_176_42 kc Φ m4 h
set_option maxRecDepth 100000 in
set_option maxHeartbeats 4000000 in
theorem s_174_94 (kc : it_Kc) (Φ : it_Me → Prop) (m : it_Me) (h : w_174_94 kc Φ m) : it_V kc it_sh0 174 94 [none, none] [] m (it_Pv Φ) := by
  rw [w_174_94] at h
  exact it_V.ret it_cd174 it_m174 rfl rfl ⟨rfl, h⟩
set_option maxRecDepth 100000 in
set_option maxHeartbeats 4000000 in
theorem s_174 (kc : it_Kc) (x0 : Nat) (hx0 : it_isP x0) (m : it_Me) (Φ : it_Me → Prop) (h : w_174 kc x0 m Φ) : it_V kc it_sh0 174 0 (it_loc0 [(.ref 64), (.ref x0)] 2) [] m (it_Pv Φ) := by
  rw [w_174] at h
  refine it_V.at (pc1 := 0) (ls1 := [some (.ref 64), some (.ref x0)]) (st1 := []) (mem1 := m) rfl rfl rfl rfl ?_
  refine it_V.sN it_cd174 it_m174 1 (pc1 := 1) (ls1 := [some (.ref 64), some (.ref x0)]) (st1 := [(.ref x0)]) (mem1 := m) rfl ?_
  refine it_V.getP it_cd174 it_m174 rfl (hx0).1 rfl ?_
  refine it_V.at (pc1 := 4) (ls1 := [some (.ref 64), some (.ref x0)]) (st1 := [(.ref (x0 + 2))]) (mem1 := m) rfl rfl rfl rfl ?_
  refine it_V.sN it_cd174 it_m174 1 (pc1 := 6) (ls1 := [some (.ref 64), some (.ref x0)]) (st1 := [(.int (10 : Int32)), (.ref (x0 + 2))]) (mem1 := m) rfl ?_
  obtain ⟨g1, h⟩ := h
  refine it_V.iald it_cd174 it_m174 rfl ((hx0).2.2.1).2 ((hx0).2.2.1).1 g1 ?_
  refine it_V.at (pc1 := 7) (ls1 := [some (.ref 64), some (.ref x0)]) (st1 := [(.int (m (x0 + 2) (Int32.toNatClampNeg (10 : Int32))))]) (mem1 := m) rfl rfl rfl rfl ?_
  refine it_V.sN it_cd174 it_m174 1 (pc1 := (if (m (x0 + 2) (Int32.toNatClampNeg (10 : Int32))) = (0 : Int32) then 32 else (if (m (x0 + 2) (Int32.toNatClampNeg (10 : Int32))) = (1 : Int32) then 40 else (if (m (x0 + 2) (Int32.toNatClampNeg (10 : Int32))) = (2 : Int32) then 66 else 88)))) (ls1 := [some (.ref 64), some (.ref x0)]) (st1 := []) (mem1 := m) rfl ?_
  refine it_V.ite (fun c2 => ?_) (fun c2 => ?_)
  · have h := h.1 c2
    refine it_V.sN it_cd174 it_m174 2 (pc1 := 34) (ls1 := [some (.ref 64), some (.ref x0)]) (st1 := [(.ref x0), (.ref 64)]) (mem1 := m) rfl ?_
    refine it_V.call it_cd174 it_m174 rfl it_m175 [(.ref 64), (.ref x0)] [] rfl rfl ⟨Nat.le_of_ble_eq_true rfl, Nat.le_of_ble_eq_true rfl, Nat.le_of_ble_eq_true rfl, Nat.le_of_ble_eq_true rfl, rfl⟩ (s_175 kc x0 (hx0) m _ h) ?_
    rintro _ m3 ⟨rfl, h⟩
    refine it_V.at (pc1 := 37) (ls1 := [some (.ref 64), some (.ref x0)]) (st1 := []) (mem1 := m3) rfl rfl rfl rfl ?_
    refine it_V.sN it_cd174 it_m174 1 (pc1 := 94) (ls1 := [some (.ref 64), some (.ref x0)]) (st1 := []) (mem1 := m3) rfl ?_
    refine it_V.weak (l := [none, none]) trivial ?_
    exact s_174_94 kc Φ m3 h
  · have h := h.2 c2
    refine it_V.ite (fun c4 => ?_) (fun c4 => ?_)
    · have h := h.1 c4
      refine it_V.sN it_cd174 it_m174 1 (pc1 := 41) (ls1 := [some (.ref 64), some (.ref x0)]) (st1 := [(.ref x0)]) (mem1 := m) rfl ?_
      refine it_V.getP it_cd174 it_m174 rfl (hx0).1 rfl ?_
      refine it_V.at (pc1 := 44) (ls1 := [some (.ref 64), some (.ref x0)]) (st1 := [(.int (m x0 14))]) (mem1 := m) rfl rfl rfl rfl ?_
      refine it_V.sN it_cd174 it_m174 1 (pc1 := (if (m x0 14) ≤ 0 then 58 else 47)) (ls1 := [some (.ref 64), some (.ref x0)]) (st1 := []) (mem1 := m) rfl ?_
      refine it_V.ite (fun c5 => ?_) (fun c5 => ?_)
      · have h := h.1 c5
        refine it_V.sN it_cd174 it_m174 2 (pc1 := 60) (ls1 := [some (.ref 64), some (.ref x0)]) (st1 := [(.int (2 : Int32)), (.ref x0)]) (mem1 := m) rfl ?_
        refine it_V.putP it_cd174 it_m174 rfl (hx0).1 rfl rfl rfl (Or.inl rfl) ?_
        refine it_V.at (pc1 := 63) (ls1 := [some (.ref 64), some (.ref x0)]) (st1 := []) (mem1 := (it_sv m x0 9 (2 : Int32))) rfl rfl rfl rfl ?_
        refine it_V.sN it_cd174 it_m174 1 (pc1 := 94) (ls1 := [some (.ref 64), some (.ref x0)]) (st1 := []) (mem1 := (it_sv m x0 9 (2 : Int32))) rfl ?_
        refine it_V.weak (l := [none, none]) trivial ?_
        exact s_174_94 kc Φ (it_sv m x0 9 (2 : Int32)) h
      · have h := h.2 c5
        refine it_V.sN it_cd174 it_m174 3 (pc1 := 52) (ls1 := [some (.ref 64), some (.ref x0)]) (st1 := [(.ref x0), (.ref 9)]) (mem1 := m) rfl ?_
        refine it_V.call it_cd174 it_m174 rfl it_m82 [(.ref 9), (.ref x0)] [] rfl rfl ⟨Nat.le_of_ble_eq_true rfl, Nat.le_of_ble_eq_true rfl, Nat.le_of_ble_eq_true rfl, Nat.le_of_ble_eq_true rfl, rfl⟩ (s_82 kc x0 (hx0) m _ h) ?_
        rintro _ m6 ⟨rfl, h⟩
        refine it_V.at (pc1 := 55) (ls1 := [some (.ref 64), some (.ref x0)]) (st1 := []) (mem1 := m6) rfl rfl rfl rfl ?_
        refine it_V.sN it_cd174 it_m174 1 (pc1 := 94) (ls1 := [some (.ref 64), some (.ref x0)]) (st1 := []) (mem1 := m6) rfl ?_
        refine it_V.weak (l := [none, none]) trivial ?_
        exact s_174_94 kc Φ m6 h
    · have h := h.2 c4
      refine it_V.ite (fun c7 => ?_) (fun c7 => ?_)
      · have h := h.1 c7
        refine it_V.sN it_cd174 it_m174 3 (pc1 := 69) (ls1 := [some (.ref 64), some (.ref x0)]) (st1 := [(.ref x0), (.ref x0), (.ref 64)]) (mem1 := m) rfl ?_
        refine it_V.getP it_cd174 it_m174 rfl (hx0).1 rfl ?_
        refine it_V.at (pc1 := 72) (ls1 := [some (.ref 64), some (.ref x0)]) (st1 := [(.ref (x0 + 2)), (.ref x0), (.ref 64)]) (mem1 := m) rfl rfl rfl rfl ?_
        refine it_V.sN it_cd174 it_m174 1 (pc1 := 74) (ls1 := [some (.ref 64), some (.ref x0)]) (st1 := [(.int (11 : Int32)), (.ref (x0 + 2)), (.ref x0), (.ref 64)]) (mem1 := m) rfl ?_
        obtain ⟨g8, h⟩ := h
        refine it_V.iald it_cd174 it_m174 rfl ((hx0).2.2.1).2 ((hx0).2.2.1).1 g8 ?_
        refine it_V.at (pc1 := 75) (ls1 := [some (.ref 64), some (.ref x0)]) (st1 := [(.int (m (x0 + 2) (Int32.toNatClampNeg (11 : Int32)))), (.ref x0), (.ref 64)]) (mem1 := m) rfl rfl rfl rfl ?_
        refine it_V.sN it_cd174 it_m174 1 (pc1 := 76) (ls1 := [some (.ref 64), some (.ref x0)]) (st1 := [(.ref x0), (.int (m (x0 + 2) (Int32.toNatClampNeg (11 : Int32)))), (.ref x0), (.ref 64)]) (mem1 := m) rfl ?_
        refine it_V.getP it_cd174 it_m174 rfl (hx0).1 rfl ?_
        refine it_V.at (pc1 := 79) (ls1 := [some (.ref 64), some (.ref x0)]) (st1 := [(.ref (x0 + 2)), (.int (m (x0 + 2) (Int32.toNatClampNeg (11 : Int32)))), (.ref x0), (.ref 64)]) (mem1 := m) rfl rfl rfl rfl ?_
        refine it_V.sN it_cd174 it_m174 1 (pc1 := 81) (ls1 := [some (.ref 64), some (.ref x0)]) (st1 := [(.int (12 : Int32)), (.ref (x0 + 2)), (.int (m (x0 + 2) (Int32.toNatClampNeg (11 : Int32)))), (.ref x0), (.ref 64)]) (mem1 := m) rfl ?_
        obtain ⟨g9, h⟩ := h
        refine it_V.iald it_cd174 it_m174 rfl ((hx0).2.2.1).2 ((hx0).2.2.1).1 g9 ?_
        refine it_V.at (pc1 := 82) (ls1 := [some (.ref 64), some (.ref x0)]) (st1 := [(.int (m (x0 + 2) (Int32.toNatClampNeg (12 : Int32)))), (.int (m (x0 + 2) (Int32.toNatClampNeg (11 : Int32)))), (.ref x0), (.ref 64)]) (mem1 := m) rfl rfl rfl rfl ?_
        refine it_V.call it_cd174 it_m174 rfl it_m176 [(.ref 64), (.ref x0), (.int (m (x0 + 2) (Int32.toNatClampNeg (11 : Int32)))), (.int (m (x0 + 2) (Int32.toNatClampNeg (12 : Int32))))] [] rfl rfl ⟨Nat.le_of_ble_eq_true rfl, Nat.le_of_ble_eq_true rfl, Nat.le_of_ble_eq_true rfl, Nat.le_of_ble_eq_true rfl, rfl⟩ (s_176 kc x0 (m (x0 + 2) (Int32.toNatClampNeg (11 : Int32))) (m (x0 + 2) (Int32.toNatClampNeg (12 : Int32))) (hx0) m _ h) ?_
        rintro _ m10 ⟨rfl, h⟩
        refine it_V.at (pc1 := 85) (ls1 := [some (.ref 64), some (.ref x0)]) (st1 := []) (mem1 := m10) rfl rfl rfl rfl ?_
        refine it_V.sN it_cd174 it_m174 1 (pc1 := 94) (ls1 := [some (.ref 64), some (.ref x0)]) (st1 := []) (mem1 := m10) rfl ?_
        refine it_V.weak (l := [none, none]) trivial ?_
        exact s_174_94 kc Φ m10 h
      · have h := h.2 c7
        refine it_V.sN it_cd174 it_m174 2 (pc1 := 91) (ls1 := [some (.ref 64), some (.ref x0)]) (st1 := [(.int (10 : Int32)), (.ref x0)]) (mem1 := m) rfl ?_
        refine it_V.call it_cd174 it_m174 rfl it_m136 [(.ref x0), (.int (10 : Int32))] [] rfl rfl ⟨Nat.le_of_ble_eq_true rfl, Nat.le_of_ble_eq_true rfl, Nat.le_of_ble_eq_true rfl, Nat.le_of_ble_eq_true rfl, (it_recvP (hx0).1)⟩ (s_136 kc x0 (10 : Int32) (hx0) m _ h) ?_
        rintro _ m11 ⟨rfl, h⟩
        refine it_V.at (pc1 := 94) (ls1 := [some (.ref 64), some (.ref x0)]) (st1 := []) (mem1 := m11) rfl rfl rfl rfl ?_
        refine it_V.weak (l := [none, none]) trivial ?_
        exact s_174_94 kc Φ m11 h
set_option maxRecDepth 100000 in
set_option maxHeartbeats 4000000 in
theorem s_173_15 (kc : it_Kc) (Φ : Int32 → it_Me → Prop) (u0 : Int32) (m : it_Me) (h : w_173_15 kc Φ u0 m) : it_V kc it_sh0 173 15 [none] [(.int u0)] m (it_Pi Φ) := by
  rw [w_173_15] at h
  exact it_V.retZ it_cd173 it_m173 rfl rfl h.1 ⟨_, rfl, h.2⟩
set_option maxRecDepth 100000 in
set_option maxHeartbeats 4000000 in
theorem s_173_14 (kc : it_Kc) (Φ : Int32 → it_Me → Prop) (m : it_Me) (h : w_173_14 kc Φ m) : it_V kc it_sh0 173 14 [none] [] m (it_Pi Φ) := by
  rw [w_173_14] at h
  refine it_V.sN it_cd173 it_m173 1 (pc1 := 15) (ls1 := [none]) (st1 := [(.int (0 : Int32))]) (mem1 := m) rfl ?_
  refine it_V.weak (l := [none]) trivial ?_
  exact s_173_15 kc Φ (0 : Int32) m h
set_option maxRecDepth 100000 in
set_option maxHeartbeats 4000000 in
theorem s_173 (kc : it_Kc) (x0 : Int32) (m : it_Me) (Φ : Int32 → it_Me → Prop) (h : w_173 kc x0 m Φ) : it_V kc it_sh0 173 0 (it_loc0 [(.int x0)] 1) [] m (it_Pi Φ) := by
  rw [w_173] at h
  refine it_V.at (pc1 := 0) (ls1 := [some (.int x0)]) (st1 := []) (mem1 := m) rfl rfl rfl rfl ?_
  refine it_V.sN it_cd173 it_m173 2 (pc1 := (if x0 < 0 then 14 else 4)) (ls1 := [some (.int x0)]) (st1 := []) (mem1 := m) rfl ?_
  refine it_V.ite (fun c1 => ?_) (fun c1 => ?_)
  · have h := h.1 c1
    refine it_V.weak (l := [none]) trivial ?_
    exact s_173_14 kc Φ m h
  · have h := h.2 c1
    refine it_V.sN it_cd173 it_m173 3 (pc1 := (if (9 : Int32) ≤ x0 then 14 else 10)) (ls1 := [some (.int x0)]) (st1 := []) (mem1 := m) rfl ?_
    refine it_V.ite (fun c2 => ?_) (fun c2 => ?_)
    · have h := h.1 c2
      refine it_V.weak (l := [none]) trivial ?_
      exact s_173_14 kc Φ m h
    · have h := h.2 c2
      refine it_V.sN it_cd173 it_m173 2 (pc1 := 15) (ls1 := [some (.int x0)]) (st1 := [(.int (1 : Int32))]) (mem1 := m) rfl ?_
      refine it_V.weak (l := [none]) trivial ?_
      exact s_173_15 kc Φ (1 : Int32) m h
set_option maxRecDepth 100000 in
set_option maxHeartbeats 4000000 in
theorem s_179 (kc : it_Kc) (x0 : Nat) (x1 : Int32) (hx0 : it_isP x0) (m : it_Me) (Φ : it_Me → Prop) (h : w_179 kc x0 x1 m Φ) : it_V kc it_sh0 179 0 (it_loc0 [(.ref 64), (.ref x0), (.int x1)] 5) [] m (it_Pv Φ) := by
  rw [w_179] at h
  refine it_V.at (pc1 := 0) (ls1 := [some (.ref 64), some (.ref x0), some (.int x1), none, none]) (st1 := []) (mem1 := m) rfl rfl rfl rfl ?_
  refine it_V.sN it_cd179 it_m179 3 (pc1 := 5) (ls1 := [some (.ref 64), some (.ref x0), some (.int x1), none, none]) (st1 := [(.int x1), (.ref 1)]) (mem1 := m) rfl ?_
  refine it_V.call it_cd179 it_m179 rfl it_m12 [(.ref 1), (.int x1)] [] rfl rfl ⟨Nat.le_of_ble_eq_true rfl, Nat.le_of_ble_eq_true rfl, Nat.le_of_ble_eq_true rfl, Nat.le_of_ble_eq_true rfl, rfl⟩ (s_12 kc x1 m _ h) ?_
  rintro _ m2 ⟨r1, rfl, h⟩
  refine it_V.at (pc1 := 8) (ls1 := [some (.ref 64), some (.ref x0), some (.int x1), none, none]) (st1 := [(.int r1)]) (mem1 := m2) rfl rfl rfl rfl ?_
  refine it_V.sN it_cd179 it_m179 6 (pc1 := 16) (ls1 := [some (.ref 64), some (.ref x0), some (.int x1), some (.int r1), none]) (st1 := [(.int (x1 + (4 : Int32))), (.ref 1)]) (mem1 := m2) rfl ?_
  refine it_V.call it_cd179 it_m179 rfl it_m12 [(.ref 1), (.int (x1 + (4 : Int32)))] [] rfl rfl ⟨Nat.le_of_ble_eq_true rfl, Nat.le_of_ble_eq_true rfl, Nat.le_of_ble_eq_true rfl, Nat.le_of_ble_eq_true rfl, rfl⟩ (s_12 kc (x1 + (4 : Int32)) m2 _ h) ?_
  rintro _ m4 ⟨r3, rfl, h⟩
  refine it_V.at (pc1 := 19) (ls1 := [some (.ref 64), some (.ref x0), some (.int x1), some (.int r1), none]) (st1 := [(.int r3)]) (mem1 := m4) rfl rfl rfl rfl ?_
  refine it_V.sN it_cd179 it_m179 5 (pc1 := 27) (ls1 := [some (.ref 64), some (.ref x0), some (.int x1), some (.int r1), some (.int r3)]) (st1 := [(.ref x0), (.int x1), (.ref 1)]) (mem1 := m4) rfl ?_
  refine it_V.getP it_cd179 it_m179 rfl (hx0).1 rfl ?_
  refine it_V.at (pc1 := 30) (ls1 := [some (.ref 64), some (.ref x0), some (.int x1), some (.int r1), some (.int r3)]) (st1 := [(.ref (x0 + 2)), (.int x1), (.ref 1)]) (mem1 := m4) rfl rfl rfl rfl ?_
  refine it_V.sN it_cd179 it_m179 1 (pc1 := 32) (ls1 := [some (.ref 64), some (.ref x0), some (.int x1), some (.int r1), some (.int r3)]) (st1 := [(.int (12 : Int32)), (.ref (x0 + 2)), (.int x1), (.ref 1)]) (mem1 := m4) rfl ?_
  obtain ⟨g5, h⟩ := h
  refine it_V.iald it_cd179 it_m179 rfl ((hx0).2.2.1).2 ((hx0).2.2.1).1 g5 ?_
  refine it_V.at (pc1 := 33) (ls1 := [some (.ref 64), some (.ref x0), some (.int x1), some (.int r1), some (.int r3)]) (st1 := [(.int (m4 (x0 + 2) (Int32.toNatClampNeg (12 : Int32)))), (.int x1), (.ref 1)]) (mem1 := m4) rfl rfl rfl rfl ?_
  refine it_V.call it_cd179 it_m179 rfl it_m13 [(.ref 1), (.int x1), (.int (m4 (x0 + 2) (Int32.toNatClampNeg (12 : Int32))))] [] rfl rfl ⟨Nat.le_of_ble_eq_true rfl, Nat.le_of_ble_eq_true rfl, Nat.le_of_ble_eq_true rfl, Nat.le_of_ble_eq_true rfl, rfl⟩ (s_13 kc x1 (m4 (x0 + 2) (Int32.toNatClampNeg (12 : Int32))) m4 _ h) ?_
  rintro _ m6 ⟨rfl, h⟩
  refine it_V.at (pc1 := 36) (ls1 := [some (.ref 64), some (.ref x0), some (.int x1), some (.int r1), some (.int r3)]) (st1 := []) (mem1 := m6) rfl rfl rfl rfl ?_
  refine it_V.sN it_cd179 it_m179 6 (pc1 := 44) (ls1 := [some (.ref 64), some (.ref x0), some (.int x1), some (.int r1), some (.int r3)]) (st1 := [(.ref x0), (.int (x1 + (4 : Int32))), (.ref 1)]) (mem1 := m6) rfl ?_
  refine it_V.getP it_cd179 it_m179 rfl (hx0).1 rfl ?_
  refine it_V.at (pc1 := 47) (ls1 := [some (.ref 64), some (.ref x0), some (.int x1), some (.int r1), some (.int r3)]) (st1 := [(.ref (x0 + 2)), (.int (x1 + (4 : Int32))), (.ref 1)]) (mem1 := m6) rfl rfl rfl rfl ?_
  refine it_V.sN it_cd179 it_m179 1 (pc1 := 49) (ls1 := [some (.ref 64), some (.ref x0), some (.int x1), some (.int r1), some (.int r3)]) (st1 := [(.int (13 : Int32)), (.ref (x0 + 2)), (.int (x1 + (4 : Int32))), (.ref 1)]) (mem1 := m6) rfl ?_
  obtain ⟨g7, h⟩ := h
  refine it_V.iald it_cd179 it_m179 rfl ((hx0).2.2.1).2 ((hx0).2.2.1).1 g7 ?_
  refine it_V.at (pc1 := 50) (ls1 := [some (.ref 64), some (.ref x0), some (.int x1), some (.int r1), some (.int r3)]) (st1 := [(.int (m6 (x0 + 2) (Int32.toNatClampNeg (13 : Int32)))), (.int (x1 + (4 : Int32))), (.ref 1)]) (mem1 := m6) rfl rfl rfl rfl ?_
  refine it_V.call it_cd179 it_m179 rfl it_m13 [(.ref 1), (.int (x1 + (4 : Int32))), (.int (m6 (x0 + 2) (Int32.toNatClampNeg (13 : Int32))))] [] rfl rfl ⟨Nat.le_of_ble_eq_true rfl, Nat.le_of_ble_eq_true rfl, Nat.le_of_ble_eq_true rfl, Nat.le_of_ble_eq_true rfl, rfl⟩ (s_13 kc (x1 + (4 : Int32)) (m6 (x0 + 2) (Int32.toNatClampNeg (13 : Int32))) m6 _ h) ?_
  rintro _ m8 ⟨rfl, h⟩
  refine it_V.at (pc1 := 53) (ls1 := [some (.ref 64), some (.ref x0), some (.int x1), some (.int r1), some (.int r3)]) (st1 := []) (mem1 := m8) rfl rfl rfl rfl ?_
  refine it_V.sN it_cd179 it_m179 3 (pc1 := 57) (ls1 := [some (.ref 64), some (.ref x0), some (.int x1), some (.int r1), some (.int r3)]) (st1 := [(.int r3), (.int r1), (.ref x0)]) (mem1 := m8) rfl ?_
  refine it_V.call it_cd179 it_m179 rfl it_m140 [(.ref x0), (.int r1), (.int r3)] [] rfl rfl ⟨Nat.le_of_ble_eq_true rfl, Nat.le_of_ble_eq_true rfl, Nat.le_of_ble_eq_true rfl, Nat.le_of_ble_eq_true rfl, (it_recvP (hx0).1)⟩ (s_140 kc x0 r1 r3 (hx0) m8 _ h) ?_
  rintro _ m9 ⟨rfl, h⟩
  refine it_V.at (pc1 := 60) (ls1 := [some (.ref 64), some (.ref x0), some (.int x1), some (.int r1), some (.int r3)]) (st1 := []) (mem1 := m9) rfl rfl rfl rfl ?_
  exact it_V.ret it_cd179 it_m179 rfl rfl ⟨rfl, h⟩
set_option maxRecDepth 100000 in
set_option maxHeartbeats 4000000 in
theorem s_177_137 (kc : it_Kc) (Φ : it_Me → Prop) (m : it_Me) (h : w_177_137 kc Φ m) : it_V kc it_sh0 177 137 [none, none, none, none, none, none] [] m (it_Pv Φ) := by
  rw [w_177_137] at h
  exact it_V.ret it_cd177 it_m177 rfl rfl ⟨rfl, h⟩
set_option maxRecDepth 100000 in
set_option maxHeartbeats 4000000 in
theorem s_177_86 (kc : it_Kc) (Φ : it_Me → Prop) (v1 : Nat) (hv1 : it_isP v1) (m : it_Me) (h : w_177_86 kc Φ v1 m) : it_V kc it_sh0 177 86 [none, some (.ref v1), none, none, none, none] [] m (it_Pv Φ) := by
  rw [w_177_86] at h
  refine it_V.sN it_cd177 it_m177 2 (pc1 := 89) (ls1 := [none, some (.ref v1), none, none, none, none]) (st1 := [(.int (6 : Int32)), (.ref v1)]) (mem1 := m) rfl ?_
  refine it_V.call it_cd177 it_m177 rfl it_m137 [(.ref v1), (.int (6 : Int32))] [] rfl rfl ⟨Nat.le_of_ble_eq_true rfl, Nat.le_of_ble_eq_true rfl, Nat.le_of_ble_eq_true rfl, Nat.le_of_ble_eq_true rfl, (it_recvP (hv1).1)⟩ (s_137 kc v1 (6 : Int32) (hv1) m _ h) ?_
  rintro _ m1 ⟨rfl, h⟩
  refine it_V.at (pc1 := 92) (ls1 := [none, some (.ref v1), none, none, none, none]) (st1 := []) (mem1 := m1) rfl rfl rfl rfl ?_
  refine it_V.sN it_cd177 it_m177 1 (pc1 := 137) (ls1 := [none, some (.ref v1), none, none, none, none]) (st1 := []) (mem1 := m1) rfl ?_
  refine it_V.weak (l := [none, none, none, none, none, none]) trivial ?_
  exact s_177_137 kc Φ m1 h
set_option maxRecDepth 100000 in
set_option maxHeartbeats 4000000 in
theorem s_177_51 (kc : it_Kc) (Φ : it_Me → Prop) (v1 : Nat) (v2 : Int32) (v3 : Int32) (u0 : Int32) (hv1 : it_isP v1) (m : it_Me) (h : w_177_51 kc Φ v1 v2 v3 u0 m) : it_V kc it_sh0 177 51 [some (.ref 64), some (.ref v1), some (.int v2), some (.int v3), none, none] [(.int u0)] m (it_Pv Φ) := by
  rw [w_177_51] at h
  refine it_V.sN it_cd177 it_m177 2 (pc1 := 54) (ls1 := [some (.ref 64), some (.ref v1), some (.int v2), some (.int v3), none, some (.int u0)]) (st1 := [(.int v2)]) (mem1 := m) rfl ?_
  refine it_V.call it_cd177 it_m177 rfl it_m173 [(.int v2)] [] rfl rfl ⟨Nat.le_of_ble_eq_true rfl, Nat.le_of_ble_eq_true rfl, Nat.le_of_ble_eq_true rfl, Nat.le_of_ble_eq_true rfl, rfl⟩ (s_173 kc v2 m _ h) ?_
  rintro _ m2 ⟨r1, rfl, h⟩
  refine it_V.at (pc1 := 57) (ls1 := [some (.ref 64), some (.ref v1), some (.int v2), some (.int v3), none, some (.int u0)]) (st1 := [(.int r1)]) (mem1 := m2) rfl rfl rfl rfl ?_
  refine it_V.sN it_cd177 it_m177 1 (pc1 := (if r1 = 0 then 60 else 69)) (ls1 := [some (.ref 64), some (.ref v1), some (.int v2), some (.int v3), none, some (.int u0)]) (st1 := []) (mem1 := m2) rfl ?_
  refine it_V.ite (fun c3 => ?_) (fun c3 => ?_)
  · have h := h.1 c3
    refine it_V.sN it_cd177 it_m177 2 (pc1 := 63) (ls1 := [some (.ref 64), some (.ref v1), some (.int v2), some (.int v3), none, some (.int u0)]) (st1 := [(.int (11 : Int32)), (.ref v1)]) (mem1 := m2) rfl ?_
    refine it_V.call it_cd177 it_m177 rfl it_m137 [(.ref v1), (.int (11 : Int32))] [] rfl rfl ⟨Nat.le_of_ble_eq_true rfl, Nat.le_of_ble_eq_true rfl, Nat.le_of_ble_eq_true rfl, Nat.le_of_ble_eq_true rfl, (it_recvP (hv1).1)⟩ (s_137 kc v1 (11 : Int32) (hv1) m2 _ h) ?_
    rintro _ m4 ⟨rfl, h⟩
    refine it_V.at (pc1 := 66) (ls1 := [some (.ref 64), some (.ref v1), some (.int v2), some (.int v3), none, some (.int u0)]) (st1 := []) (mem1 := m4) rfl rfl rfl rfl ?_
    refine it_V.sN it_cd177 it_m177 1 (pc1 := 137) (ls1 := [some (.ref 64), some (.ref v1), some (.int v2), some (.int v3), none, some (.int u0)]) (st1 := []) (mem1 := m4) rfl ?_
    refine it_V.weak (l := [none, none, none, none, none, none]) trivial ?_
    exact s_177_137 kc Φ m4 h
  · have h := h.2 c3
    refine it_V.sN it_cd177 it_m177 3 (pc1 := 74) (ls1 := [some (.ref 64), some (.ref v1), some (.int v2), some (.int v3), none, some (.int u0)]) (st1 := [(.int v2), (.ref (it_K + 2)), (.int v3)]) (mem1 := m2) rfl ?_
    obtain ⟨g5, h⟩ := h
    refine it_V.kald it_cd177 it_m177 rfl (by decide) g5 ?_
    refine it_V.at (pc1 := 75) (ls1 := [some (.ref 64), some (.ref v1), some (.int v2), some (.int v3), none, some (.int u0)]) (st1 := [(.int ((kc 2).2 (Int32.toNatClampNeg v2))), (.int v3)]) (mem1 := m2) rfl rfl rfl rfl ?_
    refine it_V.call it_cd177 it_m177 rfl it_m213 [(.int v3), (.int ((kc 2).2 (Int32.toNatClampNeg v2)))] [] rfl rfl ⟨Nat.le_of_ble_eq_true rfl, Nat.le_of_ble_eq_true rfl, Nat.le_of_ble_eq_true rfl, Nat.le_of_ble_eq_true rfl, rfl⟩ (s_213 kc v3 ((kc 2).2 (Int32.toNatClampNeg v2)) m2 _ h) ?_
    rintro _ m7 ⟨r6, rfl, h⟩
    refine it_V.at (pc1 := 78) (ls1 := [some (.ref 64), some (.ref v1), some (.int v2), some (.int v3), none, some (.int u0)]) (st1 := [(.int r6)]) (mem1 := m7) rfl rfl rfl rfl ?_
    refine it_V.sN it_cd177 it_m177 1 (pc1 := (if r6 = 0 then 86 else 81)) (ls1 := [some (.ref 64), some (.ref v1), some (.int v2), some (.int v3), none, some (.int u0)]) (st1 := []) (mem1 := m7) rfl ?_
    refine it_V.ite (fun c8 => ?_) (fun c8 => ?_)
    · have h := h.1 c8
      refine it_V.weak (l := [none, some (.ref v1), none, none, none, none]) ⟨rfl, trivial⟩ ?_
      exact s_177_86 kc Φ v1 (hv1) m7 h
    · have h := h.2 c8
      refine it_V.sN it_cd177 it_m177 2 (pc1 := (if u0 = 0 then 86 else 95)) (ls1 := [some (.ref 64), some (.ref v1), some (.int v2), some (.int v3), none, some (.int u0)]) (st1 := []) (mem1 := m7) rfl ?_
      refine it_V.ite (fun c9 => ?_) (fun c9 => ?_)
      · have h := h.1 c9
        refine it_V.weak (l := [none, some (.ref v1), none, none, none, none]) ⟨rfl, trivial⟩ ?_
        exact s_177_86 kc Φ v1 (hv1) m7 h
      · have h := h.2 c9
        refine it_V.sN it_cd177 it_m177 4 (pc1 := 101) (ls1 := [some (.ref 64), some (.ref v1), some (.int v2), some (.int v3), none, some (.int u0)]) (st1 := [(.int v2), (.ref v1), (.ref 9)]) (mem1 := m7) rfl ?_
        refine it_V.call it_cd177 it_m177 rfl it_m85 [(.ref 9), (.ref v1), (.int v2)] [] rfl rfl ⟨Nat.le_of_ble_eq_true rfl, Nat.le_of_ble_eq_true rfl, Nat.le_of_ble_eq_true rfl, Nat.le_of_ble_eq_true rfl, rfl⟩ (s_85 kc v1 v2 (hv1) m7 _ h) ?_
        rintro _ m11 ⟨r10, rfl, h⟩
        refine it_V.at (pc1 := 104) (ls1 := [some (.ref 64), some (.ref v1), some (.int v2), some (.int v3), none, some (.int u0)]) (st1 := [(.int r10)]) (mem1 := m11) rfl rfl rfl rfl ?_
        refine it_V.sN it_cd177 it_m177 1 (pc1 := (if r10 = 0 then 107 else 116)) (ls1 := [some (.ref 64), some (.ref v1), some (.int v2), some (.int v3), none, some (.int u0)]) (st1 := []) (mem1 := m11) rfl ?_
        refine it_V.ite (fun c12 => ?_) (fun c12 => ?_)
        · have h := h.1 c12
          refine it_V.sN it_cd177 it_m177 2 (pc1 := 110) (ls1 := [some (.ref 64), some (.ref v1), some (.int v2), some (.int v3), none, some (.int u0)]) (st1 := [(.int (9 : Int32)), (.ref v1)]) (mem1 := m11) rfl ?_
          refine it_V.call it_cd177 it_m177 rfl it_m137 [(.ref v1), (.int (9 : Int32))] [] rfl rfl ⟨Nat.le_of_ble_eq_true rfl, Nat.le_of_ble_eq_true rfl, Nat.le_of_ble_eq_true rfl, Nat.le_of_ble_eq_true rfl, (it_recvP (hv1).1)⟩ (s_137 kc v1 (9 : Int32) (hv1) m11 _ h) ?_
          rintro _ m13 ⟨rfl, h⟩
          refine it_V.at (pc1 := 113) (ls1 := [some (.ref 64), some (.ref v1), some (.int v2), some (.int v3), none, some (.int u0)]) (st1 := []) (mem1 := m13) rfl rfl rfl rfl ?_
          refine it_V.sN it_cd177 it_m177 1 (pc1 := 137) (ls1 := [some (.ref 64), some (.ref v1), some (.int v2), some (.int v3), none, some (.int u0)]) (st1 := []) (mem1 := m13) rfl ?_
          refine it_V.weak (l := [none, none, none, none, none, none]) trivial ?_
          exact s_177_137 kc Φ m13 h
        · have h := h.2 c12
          refine it_V.sN it_cd177 it_m177 3 (pc1 := 119) (ls1 := [some (.ref 64), some (.ref v1), some (.int v2), some (.int v3), none, some (.int u0)]) (st1 := [(.int v3), (.int v2), (.ref v1)]) (mem1 := m11) rfl ?_
          refine it_V.call it_cd177 it_m177 rfl it_m144 [(.ref v1), (.int v2), (.int v3)] [] rfl rfl ⟨Nat.le_of_ble_eq_true rfl, Nat.le_of_ble_eq_true rfl, Nat.le_of_ble_eq_true rfl, Nat.le_of_ble_eq_true rfl, (it_recvP (hv1).1)⟩ (s_144 kc v1 v2 v3 (hv1) m11 _ h) ?_
          rintro _ m14 ⟨rfl, h⟩
          refine it_V.at (pc1 := 122) (ls1 := [some (.ref 64), some (.ref v1), some (.int v2), some (.int v3), none, some (.int u0)]) (st1 := []) (mem1 := m14) rfl rfl rfl rfl ?_
          refine it_V.sN it_cd177 it_m177 7 (pc1 := 131) (ls1 := [some (.ref 64), some (.ref v1), some (.int v2), some (.int v3), none, some (.int u0)]) (st1 := [(.int v3), (.int v2), (.ref v1), (.ref 9), (.ref v1), (.ref 64)]) (mem1 := m14) rfl ?_
          refine it_V.call it_cd177 it_m177 rfl it_m87 [(.ref 9), (.ref v1), (.int v2), (.int v3)] [(.ref v1), (.ref 64)] rfl rfl ⟨Nat.le_of_ble_eq_true rfl, Nat.le_of_ble_eq_true rfl, Nat.le_of_ble_eq_true rfl, Nat.le_of_ble_eq_true rfl, rfl⟩ (s_87 kc v1 v2 v3 (hv1) m14 _ h) ?_
          rintro _ m16 ⟨r15, rfl, h⟩
          refine it_V.at (pc1 := 134) (ls1 := [some (.ref 64), some (.ref v1), some (.int v2), some (.int v3), none, some (.int u0)]) (st1 := [(.int r15), (.ref v1), (.ref 64)]) (mem1 := m16) rfl rfl rfl rfl ?_
          refine it_V.call it_cd177 it_m177 rfl it_m179 [(.ref 64), (.ref v1), (.int r15)] [] rfl rfl ⟨Nat.le_of_ble_eq_true rfl, Nat.le_of_ble_eq_true rfl, Nat.le_of_ble_eq_true rfl, Nat.le_of_ble_eq_true rfl, rfl⟩ (s_179 kc v1 r15 (hv1) m16 _ h) ?_
          rintro _ m17 ⟨rfl, h⟩
          refine it_V.at (pc1 := 137) (ls1 := [some (.ref 64), some (.ref v1), some (.int v2), some (.int v3), none, some (.int u0)]) (st1 := []) (mem1 := m17) rfl rfl rfl rfl ?_
          refine it_V.weak (l := [none, none, none, none, none, none]) trivial ?_
          exact s_177_137 kc Φ m17 h
set_option maxRecDepth 100000 in
set_option maxHeartbeats 4000000 in
theorem s_177_46 (kc : it_Kc) (Φ : it_Me → Prop) (v1 : Nat) (v2 : Int32) (v3 : Int32) (hv1 : it_isP v1) (m : it_Me) (h : w_177_46 kc Φ v1 v2 v3 m) : it_V kc it_sh0 177 46 [some (.ref 64), some (.ref v1), some (.int v2), some (.int v3), none, none] [] m (it_Pv Φ) := by
  rw [w_177_46] at h
  refine it_V.sN it_cd177 it_m177 2 (pc1 := 51) (ls1 := [some (.ref 64), some (.ref v1), some (.int v2), some (.int v3), none, none]) (st1 := [(.int (1 : Int32))]) (mem1 := m) rfl ?_
  refine it_V.weak (l := [some (.ref 64), some (.ref v1), some (.int v2), some (.int v3), none, none]) ⟨rfl, ⟨rfl, ⟨rfl, ⟨rfl, trivial⟩⟩⟩⟩ ?_
  exact s_177_51 kc Φ v1 v2 v3 (1 : Int32) (hv1) m h
set_option maxRecDepth 100000 in
set_option maxHeartbeats 4000000 in
theorem s_177_50 (kc : it_Kc) (Φ : it_Me → Prop) (v1 : Nat) (v2 : Int32) (v3 : Int32) (hv1 : it_isP v1) (m : it_Me) (h : w_177_50 kc Φ v1 v2 v3 m) : it_V kc it_sh0 177 50 [some (.ref 64), some (.ref v1), some (.int v2), some (.int v3), none, none] [] m (it_Pv Φ) := by
  rw [w_177_50] at h
  refine it_V.sN it_cd177 it_m177 1 (pc1 := 51) (ls1 := [some (.ref 64), some (.ref v1), some (.int v2), some (.int v3), none, none]) (st1 := [(.int (0 : Int32))]) (mem1 := m) rfl ?_
  refine it_V.weak (l := [some (.ref 64), some (.ref v1), some (.int v2), some (.int v3), none, none]) ⟨rfl, ⟨rfl, ⟨rfl, ⟨rfl, trivial⟩⟩⟩⟩ ?_
  exact s_177_51 kc Φ v1 v2 v3 (0 : Int32) (hv1) m h
set_option maxRecDepth 100000 in
set_option maxHeartbeats 4000000 in
theorem s_177 (kc : it_Kc) (x0 : Nat) (hx0 : it_isP x0) (m : it_Me) (Φ : it_Me → Prop) (h : w_177 kc x0 m Φ) : it_V kc it_sh0 177 0 (it_loc0 [(.ref 64), (.ref x0)] 6) [] m (it_Pv Φ) := by
  rw [w_177] at h
  refine it_V.at (pc1 := 0) (ls1 := [some (.ref 64), some (.ref x0), none, none, none, none]) (st1 := []) (mem1 := m) rfl rfl rfl rfl ?_
  refine it_V.sN it_cd177 it_m177 1 (pc1 := 1) (ls1 := [some (.ref 64), some (.ref x0), none, none, none, none]) (st1 := [(.ref x0)]) (mem1 := m) rfl ?_
  refine it_V.getP it_cd177 it_m177 rfl (hx0).1 rfl ?_
  refine it_V.at (pc1 := 4) (ls1 := [some (.ref 64), some (.ref x0), none, none, none, none]) (st1 := [(.ref (x0 + 2))]) (mem1 := m) rfl rfl rfl rfl ?_
  refine it_V.sN it_cd177 it_m177 1 (pc1 := 6) (ls1 := [some (.ref 64), some (.ref x0), none, none, none, none]) (st1 := [(.int (10 : Int32)), (.ref (x0 + 2))]) (mem1 := m) rfl ?_
  obtain ⟨g1, h⟩ := h
  refine it_V.iald it_cd177 it_m177 rfl ((hx0).2.2.1).2 ((hx0).2.2.1).1 g1 ?_
  refine it_V.at (pc1 := 7) (ls1 := [some (.ref 64), some (.ref x0), none, none, none, none]) (st1 := [(.int (m (x0 + 2) (Int32.toNatClampNeg (10 : Int32))))]) (mem1 := m) rfl rfl rfl rfl ?_
  refine it_V.sN it_cd177 it_m177 2 (pc1 := 9) (ls1 := [some (.ref 64), some (.ref x0), some (.int (m (x0 + 2) (Int32.toNatClampNeg (10 : Int32)))), none, none, none]) (st1 := [(.ref x0)]) (mem1 := m) rfl ?_
  refine it_V.getP it_cd177 it_m177 rfl (hx0).1 rfl ?_
  refine it_V.at (pc1 := 12) (ls1 := [some (.ref 64), some (.ref x0), some (.int (m (x0 + 2) (Int32.toNatClampNeg (10 : Int32)))), none, none, none]) (st1 := [(.ref (x0 + 2))]) (mem1 := m) rfl rfl rfl rfl ?_
  refine it_V.sN it_cd177 it_m177 1 (pc1 := 14) (ls1 := [some (.ref 64), some (.ref x0), some (.int (m (x0 + 2) (Int32.toNatClampNeg (10 : Int32)))), none, none, none]) (st1 := [(.int (11 : Int32)), (.ref (x0 + 2))]) (mem1 := m) rfl ?_
  obtain ⟨g2, h⟩ := h
  refine it_V.iald it_cd177 it_m177 rfl ((hx0).2.2.1).2 ((hx0).2.2.1).1 g2 ?_
  refine it_V.at (pc1 := 15) (ls1 := [some (.ref 64), some (.ref x0), some (.int (m (x0 + 2) (Int32.toNatClampNeg (10 : Int32)))), none, none, none]) (st1 := [(.int (m (x0 + 2) (Int32.toNatClampNeg (11 : Int32))))]) (mem1 := m) rfl rfl rfl rfl ?_
  refine it_V.sN it_cd177 it_m177 2 (pc1 := 17) (ls1 := [some (.ref 64), some (.ref x0), some (.int (m (x0 + 2) (Int32.toNatClampNeg (10 : Int32)))), some (.int (m (x0 + 2) (Int32.toNatClampNeg (11 : Int32)))), none, none]) (st1 := [(.ref x0)]) (mem1 := m) rfl ?_
  refine it_V.getP it_cd177 it_m177 rfl (hx0).1 rfl ?_
  refine it_V.at (pc1 := 20) (ls1 := [some (.ref 64), some (.ref x0), some (.int (m (x0 + 2) (Int32.toNatClampNeg (10 : Int32)))), some (.int (m (x0 + 2) (Int32.toNatClampNeg (11 : Int32)))), none, none]) (st1 := [(.ref (x0 + 2))]) (mem1 := m) rfl rfl rfl rfl ?_
  refine it_V.sN it_cd177 it_m177 1 (pc1 := 22) (ls1 := [some (.ref 64), some (.ref x0), some (.int (m (x0 + 2) (Int32.toNatClampNeg (10 : Int32)))), some (.int (m (x0 + 2) (Int32.toNatClampNeg (11 : Int32)))), none, none]) (st1 := [(.int (12 : Int32)), (.ref (x0 + 2))]) (mem1 := m) rfl ?_
  obtain ⟨g3, h⟩ := h
  refine it_V.iald it_cd177 it_m177 rfl ((hx0).2.2.1).2 ((hx0).2.2.1).1 g3 ?_
  refine it_V.at (pc1 := 23) (ls1 := [some (.ref 64), some (.ref x0), some (.int (m (x0 + 2) (Int32.toNatClampNeg (10 : Int32)))), some (.int (m (x0 + 2) (Int32.toNatClampNeg (11 : Int32)))), none, none]) (st1 := [(.int (m (x0 + 2) (Int32.toNatClampNeg (12 : Int32))))]) (mem1 := m) rfl rfl rfl rfl ?_
  refine it_V.sN it_cd177 it_m177 3 (pc1 := (if (m (x0 + 2) (Int32.toNatClampNeg (12 : Int32))) = 0 then 46 else 30)) (ls1 := [some (.ref 64), some (.ref x0), some (.int (m (x0 + 2) (Int32.toNatClampNeg (10 : Int32)))), some (.int (m (x0 + 2) (Int32.toNatClampNeg (11 : Int32)))), some (.int (m (x0 + 2) (Int32.toNatClampNeg (12 : Int32)))), none]) (st1 := []) (mem1 := m) rfl ?_
  refine it_V.ite (fun c4 => ?_) (fun c4 => ?_)
  · have h := h.1 c4
    refine it_V.weak (l := [some (.ref 64), some (.ref x0), some (.int (m (x0 + 2) (Int32.toNatClampNeg (10 : Int32)))), some (.int (m (x0 + 2) (Int32.toNatClampNeg (11 : Int32)))), none, none]) ⟨rfl, ⟨rfl, ⟨rfl, ⟨rfl, trivial⟩⟩⟩⟩ ?_
    exact s_177_46 kc Φ x0 (m (x0 + 2) (Int32.toNatClampNeg (10 : Int32))) (m (x0 + 2) (Int32.toNatClampNeg (11 : Int32))) (hx0) m h
  · have h := h.2 c4
    refine it_V.sN it_cd177 it_m177 4 (pc1 := (if ((m (x0 + 2) (Int32.toNatClampNeg (12 : Int32))) &&& (1 : Int32)) = 0 then 37 else 50)) (ls1 := [some (.ref 64), some (.ref x0), some (.int (m (x0 + 2) (Int32.toNatClampNeg (10 : Int32)))), some (.int (m (x0 + 2) (Int32.toNatClampNeg (11 : Int32)))), some (.int (m (x0 + 2) (Int32.toNatClampNeg (12 : Int32)))), none]) (st1 := []) (mem1 := m) rfl ?_
    refine it_V.ite (fun c5 => ?_) (fun c5 => ?_)
    · have h := h.1 c5
      refine it_V.sN it_cd177 it_m177 2 (pc1 := 40) (ls1 := [some (.ref 64), some (.ref x0), some (.int (m (x0 + 2) (Int32.toNatClampNeg (10 : Int32)))), some (.int (m (x0 + 2) (Int32.toNatClampNeg (11 : Int32)))), some (.int (m (x0 + 2) (Int32.toNatClampNeg (12 : Int32)))), none]) (st1 := [(.int (m (x0 + 2) (Int32.toNatClampNeg (12 : Int32)))), (.ref x0)]) (mem1 := m) rfl ?_
      refine it_V.call it_cd177 it_m177 rfl it_m133 [(.ref x0), (.int (m (x0 + 2) (Int32.toNatClampNeg (12 : Int32))))] [] rfl rfl ⟨Nat.le_of_ble_eq_true rfl, Nat.le_of_ble_eq_true rfl, Nat.le_of_ble_eq_true rfl, Nat.le_of_ble_eq_true rfl, (it_recvP (hx0).1)⟩ (s_133 kc x0 (m (x0 + 2) (Int32.toNatClampNeg (12 : Int32))) (hx0) m _ h) ?_
      rintro _ m7 ⟨r6, rfl, h⟩
      refine it_V.at (pc1 := 43) (ls1 := [some (.ref 64), some (.ref x0), some (.int (m (x0 + 2) (Int32.toNatClampNeg (10 : Int32)))), some (.int (m (x0 + 2) (Int32.toNatClampNeg (11 : Int32)))), some (.int (m (x0 + 2) (Int32.toNatClampNeg (12 : Int32)))), none]) (st1 := [(.int r6)]) (mem1 := m7) rfl rfl rfl rfl ?_
      refine it_V.sN it_cd177 it_m177 1 (pc1 := (if r6 = 0 then 50 else 46)) (ls1 := [some (.ref 64), some (.ref x0), some (.int (m (x0 + 2) (Int32.toNatClampNeg (10 : Int32)))), some (.int (m (x0 + 2) (Int32.toNatClampNeg (11 : Int32)))), some (.int (m (x0 + 2) (Int32.toNatClampNeg (12 : Int32)))), none]) (st1 := []) (mem1 := m7) rfl ?_
      refine it_V.ite (fun c8 => ?_) (fun c8 => ?_)
      · have h := h.1 c8
        refine it_V.weak (l := [some (.ref 64), some (.ref x0), some (.int (m (x0 + 2) (Int32.toNatClampNeg (10 : Int32)))), some (.int (m (x0 + 2) (Int32.toNatClampNeg (11 : Int32)))), none, none]) ⟨rfl, ⟨rfl, ⟨rfl, ⟨rfl, trivial⟩⟩⟩⟩ ?_
        exact s_177_50 kc Φ x0 (m (x0 + 2) (Int32.toNatClampNeg (10 : Int32))) (m (x0 + 2) (Int32.toNatClampNeg (11 : Int32))) (hx0) m7 h
      · have h := h.2 c8
        refine it_V.weak (l := [some (.ref 64), some (.ref x0), some (.int (m (x0 + 2) (Int32.toNatClampNeg (10 : Int32)))), some (.int (m (x0 + 2) (Int32.toNatClampNeg (11 : Int32)))), none, none]) ⟨rfl, ⟨rfl, ⟨rfl, ⟨rfl, trivial⟩⟩⟩⟩ ?_
        exact s_177_46 kc Φ x0 (m (x0 + 2) (Int32.toNatClampNeg (10 : Int32))) (m (x0 + 2) (Int32.toNatClampNeg (11 : Int32))) (hx0) m7 h
    · have h := h.2 c5
      refine it_V.weak (l := [some (.ref 64), some (.ref x0), some (.int (m (x0 + 2) (Int32.toNatClampNeg (10 : Int32)))), some (.int (m (x0 + 2) (Int32.toNatClampNeg (11 : Int32)))), none, none]) ⟨rfl, ⟨rfl, ⟨rfl, ⟨rfl, trivial⟩⟩⟩⟩ ?_
      exact s_177_50 kc Φ x0 (m (x0 + 2) (Int32.toNatClampNeg (10 : Int32))) (m (x0 + 2) (Int32.toNatClampNeg (11 : Int32))) (hx0) m h
set_option maxRecDepth 100000 in
set_option maxHeartbeats 4000000 in
theorem s_178_155 (kc : it_Kc) (Φ : it_Me → Prop) (m : it_Me) (h : w_178_155 kc Φ m) : it_V kc it_sh0 178 155 [none, none, none, none, none, none] [] m (it_Pv Φ) := by
  rw [w_178_155] at h
  exact it_V.ret it_cd178 it_m178 rfl rfl ⟨rfl, h⟩
set_option maxRecDepth 100000 in
set_option maxHeartbeats 4000000 in
theorem s_178_86 (kc : it_Kc) (Φ : it_Me → Prop) (v1 : Nat) (hv1 : it_isP v1) (m : it_Me) (h : w_178_86 kc Φ v1 m) : it_V kc it_sh0 178 86 [none, some (.ref v1), none, none, none, none] [] m (it_Pv Φ) := by
  rw [w_178_86] at h
  refine it_V.sN it_cd178 it_m178 2 (pc1 := 89) (ls1 := [none, some (.ref v1), none, none, none, none]) (st1 := [(.int (6 : Int32)), (.ref v1)]) (mem1 := m) rfl ?_
  refine it_V.call it_cd178 it_m178 rfl it_m137 [(.ref v1), (.int (6 : Int32))] [] rfl rfl ⟨Nat.le_of_ble_eq_true rfl, Nat.le_of_ble_eq_true rfl, Nat.le_of_ble_eq_true rfl, Nat.le_of_ble_eq_true rfl, (it_recvP (hv1).1)⟩ (s_137 kc v1 (6 : Int32) (hv1) m _ h) ?_
  rintro _ m1 ⟨rfl, h⟩
  refine it_V.at (pc1 := 92) (ls1 := [none, some (.ref v1), none, none, none, none]) (st1 := []) (mem1 := m1) rfl rfl rfl rfl ?_
  refine it_V.sN it_cd178 it_m178 1 (pc1 := 155) (ls1 := [none, some (.ref v1), none, none, none, none]) (st1 := []) (mem1 := m1) rfl ?_
  refine it_V.weak (l := [none, none, none, none, none, none]) trivial ?_
  exact s_178_155 kc Φ m1 h
set_option maxRecDepth 100000 in
set_option maxHeartbeats 4000000 in
theorem s_178_48 (kc : it_Kc) (Φ : it_Me → Prop) (v1 : Nat) (v2 : Int32) (v3 : Int32) (v4 : Int32) (u0 : Int32) (hv1 : it_isP v1) (m : it_Me) (h : w_178_48 kc Φ v1 v2 v3 v4 u0 m) : it_V kc it_sh0 178 48 [some (.ref 64), some (.ref v1), some (.int v2), some (.int v3), some (.int v4), none] [(.int u0)] m (it_Pv Φ) := by
  rw [w_178_48] at h
  refine it_V.sN it_cd178 it_m178 3 (pc1 := 54) (ls1 := [some (.ref 64), some (.ref v1), some (.int v2), some (.int v3), some (.int v4), some (.int u0)]) (st1 := [(.int u0), (.int v4)]) (mem1 := m) rfl ?_
  refine it_V.call it_cd178 it_m178 rfl it_m213 [(.int v4), (.int u0)] [] rfl rfl ⟨Nat.le_of_ble_eq_true rfl, Nat.le_of_ble_eq_true rfl, Nat.le_of_ble_eq_true rfl, Nat.le_of_ble_eq_true rfl, rfl⟩ (s_213 kc v4 u0 m _ h) ?_
  rintro _ m2 ⟨r1, rfl, h⟩
  refine it_V.at (pc1 := 57) (ls1 := [some (.ref 64), some (.ref v1), some (.int v2), some (.int v3), some (.int v4), some (.int u0)]) (st1 := [(.int r1)]) (mem1 := m2) rfl rfl rfl rfl ?_
  refine it_V.sN it_cd178 it_m178 1 (pc1 := (if r1 = 0 then 86 else 60)) (ls1 := [some (.ref 64), some (.ref v1), some (.int v2), some (.int v3), some (.int v4), some (.int u0)]) (st1 := []) (mem1 := m2) rfl ?_
  refine it_V.ite (fun c3 => ?_) (fun c3 => ?_)
  · have h := h.1 c3
    refine it_V.weak (l := [none, some (.ref v1), none, none, none, none]) ⟨rfl, trivial⟩ ?_
    exact s_178_86 kc Φ v1 (hv1) m2 h
  · have h := h.2 c3
    refine it_V.sN it_cd178 it_m178 4 (pc1 := 66) (ls1 := [some (.ref 64), some (.ref v1), some (.int v2), some (.int v3), some (.int v4), some (.int u0)]) (st1 := [(.ref v1), (.ref v1), (.ref 9)]) (mem1 := m2) rfl ?_
    refine it_V.getP it_cd178 it_m178 rfl (hv1).1 rfl ?_
    refine it_V.at (pc1 := 69) (ls1 := [some (.ref 64), some (.ref v1), some (.int v2), some (.int v3), some (.int v4), some (.int u0)]) (st1 := [(.ref (v1 + 2)), (.ref v1), (.ref 9)]) (mem1 := m2) rfl rfl rfl rfl ?_
    refine it_V.sN it_cd178 it_m178 1 (pc1 := 71) (ls1 := [some (.ref 64), some (.ref v1), some (.int v2), some (.int v3), some (.int v4), some (.int u0)]) (st1 := [(.int (12 : Int32)), (.ref (v1 + 2)), (.ref v1), (.ref 9)]) (mem1 := m2) rfl ?_
    obtain ⟨g4, h⟩ := h
    refine it_V.iald it_cd178 it_m178 rfl ((hv1).2.2.1).2 ((hv1).2.2.1).1 g4 ?_
    refine it_V.at (pc1 := 72) (ls1 := [some (.ref 64), some (.ref v1), some (.int v2), some (.int v3), some (.int v4), some (.int u0)]) (st1 := [(.int (m2 (v1 + 2) (Int32.toNatClampNeg (12 : Int32)))), (.ref v1), (.ref 9)]) (mem1 := m2) rfl rfl rfl rfl ?_
    refine it_V.sN it_cd178 it_m178 1 (pc1 := 73) (ls1 := [some (.ref 64), some (.ref v1), some (.int v2), some (.int v3), some (.int v4), some (.int u0)]) (st1 := [(.ref v1), (.int (m2 (v1 + 2) (Int32.toNatClampNeg (12 : Int32)))), (.ref v1), (.ref 9)]) (mem1 := m2) rfl ?_
    refine it_V.getP it_cd178 it_m178 rfl (hv1).1 rfl ?_
    refine it_V.at (pc1 := 76) (ls1 := [some (.ref 64), some (.ref v1), some (.int v2), some (.int v3), some (.int v4), some (.int u0)]) (st1 := [(.ref (v1 + 2)), (.int (m2 (v1 + 2) (Int32.toNatClampNeg (12 : Int32)))), (.ref v1), (.ref 9)]) (mem1 := m2) rfl rfl rfl rfl ?_
    refine it_V.sN it_cd178 it_m178 1 (pc1 := 78) (ls1 := [some (.ref 64), some (.ref v1), some (.int v2), some (.int v3), some (.int v4), some (.int u0)]) (st1 := [(.int (13 : Int32)), (.ref (v1 + 2)), (.int (m2 (v1 + 2) (Int32.toNatClampNeg (12 : Int32)))), (.ref v1), (.ref 9)]) (mem1 := m2) rfl ?_
    obtain ⟨g5, h⟩ := h
    refine it_V.iald it_cd178 it_m178 rfl ((hv1).2.2.1).2 ((hv1).2.2.1).1 g5 ?_
    refine it_V.at (pc1 := 79) (ls1 := [some (.ref 64), some (.ref v1), some (.int v2), some (.int v3), some (.int v4), some (.int u0)]) (st1 := [(.int (m2 (v1 + 2) (Int32.toNatClampNeg (13 : Int32)))), (.int (m2 (v1 + 2) (Int32.toNatClampNeg (12 : Int32)))), (.ref v1), (.ref 9)]) (mem1 := m2) rfl rfl rfl rfl ?_
    refine it_V.sN it_cd178 it_m178 1 (pc1 := 80) (ls1 := [some (.ref 64), some (.ref v1), some (.int v2), some (.int v3), some (.int v4), some (.int u0)]) (st1 := [(.int v2), (.int (m2 (v1 + 2) (Int32.toNatClampNeg (13 : Int32)))), (.int (m2 (v1 + 2) (Int32.toNatClampNeg (12 : Int32)))), (.ref v1), (.ref 9)]) (mem1 := m2) rfl ?_
    refine it_V.call it_cd178 it_m178 rfl it_m102 [(.ref 9), (.ref v1), (.int (m2 (v1 + 2) (Int32.toNatClampNeg (12 : Int32)))), (.int (m2 (v1 + 2) (Int32.toNatClampNeg (13 : Int32)))), (.int v2)] [] rfl rfl ⟨Nat.le_of_ble_eq_true rfl, Nat.le_of_ble_eq_true rfl, Nat.le_of_ble_eq_true rfl, Nat.le_of_ble_eq_true rfl, rfl⟩ (s_102 kc v1 (m2 (v1 + 2) (Int32.toNatClampNeg (12 : Int32))) (m2 (v1 + 2) (Int32.toNatClampNeg (13 : Int32))) v2 (hv1) m2 _ h) ?_
    rintro _ m7 ⟨r6, rfl, h⟩
    refine it_V.at (pc1 := 83) (ls1 := [some (.ref 64), some (.ref v1), some (.int v2), some (.int v3), some (.int v4), some (.int u0)]) (st1 := [(.int r6)]) (mem1 := m7) rfl rfl rfl rfl ?_
    refine it_V.sN it_cd178 it_m178 1 (pc1 := (if r6 = 0 then 86 else 95)) (ls1 := [some (.ref 64), some (.ref v1), some (.int v2), some (.int v3), some (.int v4), some (.int u0)]) (st1 := []) (mem1 := m7) rfl ?_
    refine it_V.ite (fun c8 => ?_) (fun c8 => ?_)
    · have h := h.1 c8
      refine it_V.weak (l := [none, some (.ref v1), none, none, none, none]) ⟨rfl, trivial⟩ ?_
      exact s_178_86 kc Φ v1 (hv1) m7 h
    · have h := h.2 c8
      refine it_V.sN it_cd178 it_m178 4 (pc1 := 101) (ls1 := [some (.ref 64), some (.ref v1), some (.int v2), some (.int v3), some (.int v4), some (.int u0)]) (st1 := [(.int v3), (.ref v1), (.ref 9)]) (mem1 := m7) rfl ?_
      refine it_V.call it_cd178 it_m178 rfl it_m85 [(.ref 9), (.ref v1), (.int v3)] [] rfl rfl ⟨Nat.le_of_ble_eq_true rfl, Nat.le_of_ble_eq_true rfl, Nat.le_of_ble_eq_true rfl, Nat.le_of_ble_eq_true rfl, rfl⟩ (s_85 kc v1 v3 (hv1) m7 _ h) ?_
      rintro _ m10 ⟨r9, rfl, h⟩
      refine it_V.at (pc1 := 104) (ls1 := [some (.ref 64), some (.ref v1), some (.int v2), some (.int v3), some (.int v4), some (.int u0)]) (st1 := [(.int r9)]) (mem1 := m10) rfl rfl rfl rfl ?_
      refine it_V.sN it_cd178 it_m178 1 (pc1 := (if r9 = 0 then 107 else 116)) (ls1 := [some (.ref 64), some (.ref v1), some (.int v2), some (.int v3), some (.int v4), some (.int u0)]) (st1 := []) (mem1 := m10) rfl ?_
      refine it_V.ite (fun c11 => ?_) (fun c11 => ?_)
      · have h := h.1 c11
        refine it_V.sN it_cd178 it_m178 2 (pc1 := 110) (ls1 := [some (.ref 64), some (.ref v1), some (.int v2), some (.int v3), some (.int v4), some (.int u0)]) (st1 := [(.int (9 : Int32)), (.ref v1)]) (mem1 := m10) rfl ?_
        refine it_V.call it_cd178 it_m178 rfl it_m137 [(.ref v1), (.int (9 : Int32))] [] rfl rfl ⟨Nat.le_of_ble_eq_true rfl, Nat.le_of_ble_eq_true rfl, Nat.le_of_ble_eq_true rfl, Nat.le_of_ble_eq_true rfl, (it_recvP (hv1).1)⟩ (s_137 kc v1 (9 : Int32) (hv1) m10 _ h) ?_
        rintro _ m12 ⟨rfl, h⟩
        refine it_V.at (pc1 := 113) (ls1 := [some (.ref 64), some (.ref v1), some (.int v2), some (.int v3), some (.int v4), some (.int u0)]) (st1 := []) (mem1 := m12) rfl rfl rfl rfl ?_
        refine it_V.sN it_cd178 it_m178 1 (pc1 := 155) (ls1 := [some (.ref 64), some (.ref v1), some (.int v2), some (.int v3), some (.int v4), some (.int u0)]) (st1 := []) (mem1 := m12) rfl ?_
        refine it_V.weak (l := [none, none, none, none, none, none]) trivial ?_
        exact s_178_155 kc Φ m12 h
      · have h := h.2 c11
        refine it_V.sN it_cd178 it_m178 2 (pc1 := (if v2 = 0 then 139 else 120)) (ls1 := [some (.ref 64), some (.ref v1), some (.int v2), some (.int v3), some (.int v4), some (.int u0)]) (st1 := []) (mem1 := m10) rfl ?_
        refine it_V.ite (fun c13 => ?_) (fun c13 => ?_)
        · have h := h.1 c13
          refine it_V.sN it_cd178 it_m178 7 (pc1 := 149) (ls1 := [some (.ref 64), some (.ref v1), some (.int v2), some (.int v3), some (.int v4), some (.int u0)]) (st1 := [(.int v4), (.int v3), (.ref v1), (.ref 9), (.ref v1), (.ref 64)]) (mem1 := m10) rfl ?_
          refine it_V.call it_cd178 it_m178 rfl it_m88 [(.ref 9), (.ref v1), (.int v3), (.int v4)] [(.ref v1), (.ref 64)] rfl rfl ⟨Nat.le_of_ble_eq_true rfl, Nat.le_of_ble_eq_true rfl, Nat.le_of_ble_eq_true rfl, Nat.le_of_ble_eq_true rfl, rfl⟩ (s_88 kc v1 v3 v4 (hv1) m10 _ h) ?_
          rintro _ m15 ⟨r14, rfl, h⟩
          refine it_V.at (pc1 := 152) (ls1 := [some (.ref 64), some (.ref v1), some (.int v2), some (.int v3), some (.int v4), some (.int u0)]) (st1 := [(.int r14), (.ref v1), (.ref 64)]) (mem1 := m15) rfl rfl rfl rfl ?_
          refine it_V.call it_cd178 it_m178 rfl it_m179 [(.ref 64), (.ref v1), (.int r14)] [] rfl rfl ⟨Nat.le_of_ble_eq_true rfl, Nat.le_of_ble_eq_true rfl, Nat.le_of_ble_eq_true rfl, Nat.le_of_ble_eq_true rfl, rfl⟩ (s_179 kc v1 r14 (hv1) m15 _ h) ?_
          rintro _ m16 ⟨rfl, h⟩
          refine it_V.at (pc1 := 155) (ls1 := [some (.ref 64), some (.ref v1), some (.int v2), some (.int v3), some (.int v4), some (.int u0)]) (st1 := []) (mem1 := m16) rfl rfl rfl rfl ?_
          refine it_V.weak (l := [none, none, none, none, none, none]) trivial ?_
          exact s_178_155 kc Φ m16 h
        · have h := h.2 c13
          refine it_V.sN it_cd178 it_m178 7 (pc1 := 130) (ls1 := [some (.ref 64), some (.ref v1), some (.int v2), some (.int v3), some (.int v4), some (.int u0)]) (st1 := [(.int v4), (.int v3), (.ref v1), (.ref 9), (.ref v1), (.ref 64)]) (mem1 := m10) rfl ?_
          refine it_V.call it_cd178 it_m178 rfl it_m89 [(.ref 9), (.ref v1), (.int v3), (.int v4)] [(.ref v1), (.ref 64)] rfl rfl ⟨Nat.le_of_ble_eq_true rfl, Nat.le_of_ble_eq_true rfl, Nat.le_of_ble_eq_true rfl, Nat.le_of_ble_eq_true rfl, rfl⟩ (s_89 kc v1 v3 v4 (hv1) m10 _ h) ?_
          rintro _ m18 ⟨r17, rfl, h⟩
          refine it_V.at (pc1 := 133) (ls1 := [some (.ref 64), some (.ref v1), some (.int v2), some (.int v3), some (.int v4), some (.int u0)]) (st1 := [(.int r17), (.ref v1), (.ref 64)]) (mem1 := m18) rfl rfl rfl rfl ?_
          refine it_V.call it_cd178 it_m178 rfl it_m179 [(.ref 64), (.ref v1), (.int r17)] [] rfl rfl ⟨Nat.le_of_ble_eq_true rfl, Nat.le_of_ble_eq_true rfl, Nat.le_of_ble_eq_true rfl, Nat.le_of_ble_eq_true rfl, rfl⟩ (s_179 kc v1 r17 (hv1) m18 _ h) ?_
          rintro _ m19 ⟨rfl, h⟩
          refine it_V.at (pc1 := 136) (ls1 := [some (.ref 64), some (.ref v1), some (.int v2), some (.int v3), some (.int v4), some (.int u0)]) (st1 := []) (mem1 := m19) rfl rfl rfl rfl ?_
          refine it_V.sN it_cd178 it_m178 1 (pc1 := 155) (ls1 := [some (.ref 64), some (.ref v1), some (.int v2), some (.int v3), some (.int v4), some (.int u0)]) (st1 := []) (mem1 := m19) rfl ?_
          refine it_V.weak (l := [none, none, none, none, none, none]) trivial ?_
          exact s_178_155 kc Φ m19 h
set_option maxRecDepth 100000 in
set_option maxHeartbeats 4000000 in
theorem s_178 (kc : it_Kc) (x0 : Nat) (x1 : Int32) (hx0 : it_isP x0) (m : it_Me) (Φ : it_Me → Prop) (h : w_178 kc x0 x1 m Φ) : it_V kc it_sh0 178 0 (it_loc0 [(.ref 64), (.ref x0), (.int x1)] 6) [] m (it_Pv Φ) := by
  rw [w_178] at h
  refine it_V.at (pc1 := 0) (ls1 := [some (.ref 64), some (.ref x0), some (.int x1), none, none, none]) (st1 := []) (mem1 := m) rfl rfl rfl rfl ?_
  refine it_V.sN it_cd178 it_m178 1 (pc1 := 1) (ls1 := [some (.ref 64), some (.ref x0), some (.int x1), none, none, none]) (st1 := [(.ref x0)]) (mem1 := m) rfl ?_
  refine it_V.getP it_cd178 it_m178 rfl (hx0).1 rfl ?_
  refine it_V.at (pc1 := 4) (ls1 := [some (.ref 64), some (.ref x0), some (.int x1), none, none, none]) (st1 := [(.ref (x0 + 2))]) (mem1 := m) rfl rfl rfl rfl ?_
  refine it_V.sN it_cd178 it_m178 1 (pc1 := 6) (ls1 := [some (.ref 64), some (.ref x0), some (.int x1), none, none, none]) (st1 := [(.int (10 : Int32)), (.ref (x0 + 2))]) (mem1 := m) rfl ?_
  obtain ⟨g1, h⟩ := h
  refine it_V.iald it_cd178 it_m178 rfl ((hx0).2.2.1).2 ((hx0).2.2.1).1 g1 ?_
  refine it_V.at (pc1 := 7) (ls1 := [some (.ref 64), some (.ref x0), some (.int x1), none, none, none]) (st1 := [(.int (m (x0 + 2) (Int32.toNatClampNeg (10 : Int32))))]) (mem1 := m) rfl rfl rfl rfl ?_
  refine it_V.sN it_cd178 it_m178 2 (pc1 := 9) (ls1 := [some (.ref 64), some (.ref x0), some (.int x1), some (.int (m (x0 + 2) (Int32.toNatClampNeg (10 : Int32)))), none, none]) (st1 := [(.ref x0)]) (mem1 := m) rfl ?_
  refine it_V.getP it_cd178 it_m178 rfl (hx0).1 rfl ?_
  refine it_V.at (pc1 := 12) (ls1 := [some (.ref 64), some (.ref x0), some (.int x1), some (.int (m (x0 + 2) (Int32.toNatClampNeg (10 : Int32)))), none, none]) (st1 := [(.ref (x0 + 2))]) (mem1 := m) rfl rfl rfl rfl ?_
  refine it_V.sN it_cd178 it_m178 1 (pc1 := 14) (ls1 := [some (.ref 64), some (.ref x0), some (.int x1), some (.int (m (x0 + 2) (Int32.toNatClampNeg (10 : Int32)))), none, none]) (st1 := [(.int (11 : Int32)), (.ref (x0 + 2))]) (mem1 := m) rfl ?_
  obtain ⟨g2, h⟩ := h
  refine it_V.iald it_cd178 it_m178 rfl ((hx0).2.2.1).2 ((hx0).2.2.1).1 g2 ?_
  refine it_V.at (pc1 := 15) (ls1 := [some (.ref 64), some (.ref x0), some (.int x1), some (.int (m (x0 + 2) (Int32.toNatClampNeg (10 : Int32)))), none, none]) (st1 := [(.int (m (x0 + 2) (Int32.toNatClampNeg (11 : Int32))))]) (mem1 := m) rfl rfl rfl rfl ?_
  refine it_V.sN it_cd178 it_m178 2 (pc1 := 18) (ls1 := [some (.ref 64), some (.ref x0), some (.int x1), some (.int (m (x0 + 2) (Int32.toNatClampNeg (10 : Int32)))), some (.int (m (x0 + 2) (Int32.toNatClampNeg (11 : Int32)))), none]) (st1 := [(.int (m (x0 + 2) (Int32.toNatClampNeg (10 : Int32))))]) (mem1 := m) rfl ?_
  refine it_V.call it_cd178 it_m178 rfl it_m173 [(.int (m (x0 + 2) (Int32.toNatClampNeg (10 : Int32))))] [] rfl rfl ⟨Nat.le_of_ble_eq_true rfl, Nat.le_of_ble_eq_true rfl, Nat.le_of_ble_eq_true rfl, Nat.le_of_ble_eq_true rfl, rfl⟩ (s_173 kc (m (x0 + 2) (Int32.toNatClampNeg (10 : Int32))) m _ h) ?_
  rintro _ m4 ⟨r3, rfl, h⟩
  refine it_V.at (pc1 := 21) (ls1 := [some (.ref 64), some (.ref x0), some (.int x1), some (.int (m (x0 + 2) (Int32.toNatClampNeg (10 : Int32)))), some (.int (m (x0 + 2) (Int32.toNatClampNeg (11 : Int32)))), none]) (st1 := [(.int r3)]) (mem1 := m4) rfl rfl rfl rfl ?_
  refine it_V.sN it_cd178 it_m178 1 (pc1 := (if r3 = 0 then 24 else 31)) (ls1 := [some (.ref 64), some (.ref x0), some (.int x1), some (.int (m (x0 + 2) (Int32.toNatClampNeg (10 : Int32)))), some (.int (m (x0 + 2) (Int32.toNatClampNeg (11 : Int32)))), none]) (st1 := []) (mem1 := m4) rfl ?_
  refine it_V.ite (fun c5 => ?_) (fun c5 => ?_)
  · have h := h.1 c5
    refine it_V.sN it_cd178 it_m178 2 (pc1 := 27) (ls1 := [some (.ref 64), some (.ref x0), some (.int x1), some (.int (m (x0 + 2) (Int32.toNatClampNeg (10 : Int32)))), some (.int (m (x0 + 2) (Int32.toNatClampNeg (11 : Int32)))), none]) (st1 := [(.int (11 : Int32)), (.ref x0)]) (mem1 := m4) rfl ?_
    refine it_V.call it_cd178 it_m178 rfl it_m137 [(.ref x0), (.int (11 : Int32))] [] rfl rfl ⟨Nat.le_of_ble_eq_true rfl, Nat.le_of_ble_eq_true rfl, Nat.le_of_ble_eq_true rfl, Nat.le_of_ble_eq_true rfl, (it_recvP (hx0).1)⟩ (s_137 kc x0 (11 : Int32) (hx0) m4 _ h) ?_
    rintro _ m6 ⟨rfl, h⟩
    refine it_V.at (pc1 := 30) (ls1 := [some (.ref 64), some (.ref x0), some (.int x1), some (.int (m (x0 + 2) (Int32.toNatClampNeg (10 : Int32)))), some (.int (m (x0 + 2) (Int32.toNatClampNeg (11 : Int32)))), none]) (st1 := []) (mem1 := m6) rfl rfl rfl rfl ?_
    exact it_V.ret it_cd178 it_m178 rfl rfl ⟨rfl, h⟩
  · have h := h.2 c5
    refine it_V.sN it_cd178 it_m178 2 (pc1 := (if x1 = 0 then 43 else 35)) (ls1 := [some (.ref 64), some (.ref x0), some (.int x1), some (.int (m (x0 + 2) (Int32.toNatClampNeg (10 : Int32)))), some (.int (m (x0 + 2) (Int32.toNatClampNeg (11 : Int32)))), none]) (st1 := []) (mem1 := m4) rfl ?_
    refine it_V.ite (fun c7 => ?_) (fun c7 => ?_)
    · have h := h.1 c7
      refine it_V.sN it_cd178 it_m178 2 (pc1 := 47) (ls1 := [some (.ref 64), some (.ref x0), some (.int x1), some (.int (m (x0 + 2) (Int32.toNatClampNeg (10 : Int32)))), some (.int (m (x0 + 2) (Int32.toNatClampNeg (11 : Int32)))), none]) (st1 := [(.int (m (x0 + 2) (Int32.toNatClampNeg (10 : Int32)))), (.ref (it_K + 3))]) (mem1 := m4) rfl ?_
      obtain ⟨g8, h⟩ := h
      refine it_V.kald it_cd178 it_m178 rfl (by decide) g8 ?_
      refine it_V.at (pc1 := 48) (ls1 := [some (.ref 64), some (.ref x0), some (.int x1), some (.int (m (x0 + 2) (Int32.toNatClampNeg (10 : Int32)))), some (.int (m (x0 + 2) (Int32.toNatClampNeg (11 : Int32)))), none]) (st1 := [(.int ((kc 3).2 (Int32.toNatClampNeg (m (x0 + 2) (Int32.toNatClampNeg (10 : Int32))))))]) (mem1 := m4) rfl rfl rfl rfl ?_
      exact s_178_48 kc Φ x0 x1 (m (x0 + 2) (Int32.toNatClampNeg (10 : Int32))) (m (x0 + 2) (Int32.toNatClampNeg (11 : Int32))) ((kc 3).2 (Int32.toNatClampNeg (m (x0 + 2) (Int32.toNatClampNeg (10 : Int32))))) (hx0) m4 h
    · have h := h.2 c7
      refine it_V.sN it_cd178 it_m178 2 (pc1 := 39) (ls1 := [some (.ref 64), some (.ref x0), some (.int x1), some (.int (m (x0 + 2) (Int32.toNatClampNeg (10 : Int32)))), some (.int (m (x0 + 2) (Int32.toNatClampNeg (11 : Int32)))), none]) (st1 := [(.int (m (x0 + 2) (Int32.toNatClampNeg (10 : Int32)))), (.ref (it_K + 4))]) (mem1 := m4) rfl ?_
      obtain ⟨g9, h⟩ := h
      refine it_V.kald it_cd178 it_m178 rfl (by decide) g9 ?_
      refine it_V.at (pc1 := 40) (ls1 := [some (.ref 64), some (.ref x0), some (.int x1), some (.int (m (x0 + 2) (Int32.toNatClampNeg (10 : Int32)))), some (.int (m (x0 + 2) (Int32.toNatClampNeg (11 : Int32)))), none]) (st1 := [(.int ((kc 4).2 (Int32.toNatClampNeg (m (x0 + 2) (Int32.toNatClampNeg (10 : Int32))))))]) (mem1 := m4) rfl rfl rfl rfl ?_
      refine it_V.sN it_cd178 it_m178 1 (pc1 := 48) (ls1 := [some (.ref 64), some (.ref x0), some (.int x1), some (.int (m (x0 + 2) (Int32.toNatClampNeg (10 : Int32)))), some (.int (m (x0 + 2) (Int32.toNatClampNeg (11 : Int32)))), none]) (st1 := [(.int ((kc 4).2 (Int32.toNatClampNeg (m (x0 + 2) (Int32.toNatClampNeg (10 : Int32))))))]) (mem1 := m4) rfl ?_
      exact s_178_48 kc Φ x0 x1 (m (x0 + 2) (Int32.toNatClampNeg (10 : Int32))) (m (x0 + 2) (Int32.toNatClampNeg (11 : Int32))) ((kc 4).2 (Int32.toNatClampNeg (m (x0 + 2) (Int32.toNatClampNeg (10 : Int32))))) (hx0) m4 h
set_option maxRecDepth 100000 in
set_option maxHeartbeats 4000000 in
theorem s_181_16 (kc : it_Kc) (Φ : it_Me → Prop) (m : it_Me) (h : w_181_16 kc Φ m) : it_V kc it_sh0 181 16 [none, none] [] m (it_Pv Φ) := by
  rw [w_181_16] at h
  exact it_V.ret it_cd181 it_m181 rfl rfl ⟨rfl, h⟩
set_option maxRecDepth 100000 in
set_option maxHeartbeats 4000000 in
theorem s_181 (kc : it_Kc) (x0 : Nat) (x1 : Int32) (hx0 : it_isP x0) (m : it_Me) (Φ : it_Me → Prop) (h : w_181 kc x0 x1 m Φ) : it_V kc it_sh0 181 0 (it_loc0 [(.ref x0), (.int x1)] 2) [] m (it_Pv Φ) := by
  rw [w_181] at h
  refine it_V.at (pc1 := 0) (ls1 := [some (.ref x0), some (.int x1)]) (st1 := []) (mem1 := m) rfl rfl rfl rfl ?_
  refine it_V.sN it_cd181 it_m181 2 (pc1 := (if x1 = 0 then 4 else 11)) (ls1 := [some (.ref x0), some (.int x1)]) (st1 := []) (mem1 := m) rfl ?_
  refine it_V.ite (fun c1 => ?_) (fun c1 => ?_)
  · have h := h.1 c1
    refine it_V.sN it_cd181 it_m181 1 (pc1 := 5) (ls1 := [some (.ref x0), some (.int x1)]) (st1 := [(.ref x0)]) (mem1 := m) rfl ?_
    refine it_V.call it_cd181 it_m181 rfl it_m138 [(.ref x0)] [] rfl rfl ⟨Nat.le_of_ble_eq_true rfl, Nat.le_of_ble_eq_true rfl, Nat.le_of_ble_eq_true rfl, Nat.le_of_ble_eq_true rfl, (it_recvP (hx0).1)⟩ (s_138 kc x0 (hx0) m _ h) ?_
    rintro _ m2 ⟨rfl, h⟩
    refine it_V.at (pc1 := 8) (ls1 := [some (.ref x0), some (.int x1)]) (st1 := []) (mem1 := m2) rfl rfl rfl rfl ?_
    refine it_V.sN it_cd181 it_m181 1 (pc1 := 16) (ls1 := [some (.ref x0), some (.int x1)]) (st1 := []) (mem1 := m2) rfl ?_
    refine it_V.weak (l := [none, none]) trivial ?_
    exact s_181_16 kc Φ m2 h
  · have h := h.2 c1
    refine it_V.sN it_cd181 it_m181 2 (pc1 := 13) (ls1 := [some (.ref x0), some (.int x1)]) (st1 := [(.int x1), (.ref x0)]) (mem1 := m) rfl ?_
    refine it_V.call it_cd181 it_m181 rfl it_m139 [(.ref x0), (.int x1)] [] rfl rfl ⟨Nat.le_of_ble_eq_true rfl, Nat.le_of_ble_eq_true rfl, Nat.le_of_ble_eq_true rfl, Nat.le_of_ble_eq_true rfl, (it_recvP (hx0).1)⟩ (s_139 kc x0 x1 (hx0) m _ h) ?_
    rintro _ m3 ⟨rfl, h⟩
    refine it_V.at (pc1 := 16) (ls1 := [some (.ref x0), some (.int x1)]) (st1 := []) (mem1 := m3) rfl rfl rfl rfl ?_
    refine it_V.weak (l := [none, none]) trivial ?_
    exact s_181_16 kc Φ m3 h
set_option maxRecDepth 100000 in
set_option maxHeartbeats 4000000 in
theorem s_182_45 (kc : it_Kc) (Φ : Int32 → it_Me → Prop) (u0 : Int32) (m : it_Me) (h : w_182_45 kc Φ u0 m) : it_V kc it_sh0 182 45 [none, none, none] [(.int u0)] m (it_Pi Φ) := by
  rw [w_182_45] at h
  exact it_V.retZ it_cd182 it_m182 rfl rfl h.1 ⟨_, rfl, h.2⟩
set_option maxRecDepth 100000 in
set_option maxHeartbeats 4000000 in
theorem s_182_44 (kc : it_Kc) (Φ : Int32 → it_Me → Prop) (m : it_Me) (h : w_182_44 kc Φ m) : it_V kc it_sh0 182 44 [none, none, none] [] m (it_Pi Φ) := by
  rw [w_182_44] at h
  refine it_V.sN it_cd182 it_m182 1 (pc1 := 45) (ls1 := [none, none, none]) (st1 := [(.int (0 : Int32))]) (mem1 := m) rfl ?_
  refine it_V.weak (l := [none, none, none]) trivial ?_
  exact s_182_45 kc Φ (0 : Int32) m h
set_option maxRecDepth 100000 in
set_option maxHeartbeats 4000000 in
theorem s_182_17 (kc : it_Kc) (Φ : Int32 → it_Me → Prop) (v1 : Int32) (v2 : Int32) (m : it_Me) (h : w_182_17 kc Φ v1 v2 m) : it_V kc it_sh0 182 17 [none, some (.int v1), some (.int v2)] [] m (it_Pi Φ) := by
  rw [w_182_17] at h
  refine it_V.sN it_cd182 it_m182 2 (pc1 := (if v2 ≤ 0 then 44 else 21)) (ls1 := [none, some (.int v1), some (.int v2)]) (st1 := []) (mem1 := m) rfl ?_
  refine it_V.ite (fun c1 => ?_) (fun c1 => ?_)
  · have h := h.1 c1
    refine it_V.weak (l := [none, none, none]) trivial ?_
    exact s_182_44 kc Φ m h
  · have h := h.2 c1
    refine it_V.sN it_cd182 it_m182 3 (pc1 := (if (32 : Int32) ≤ v2 then 44 else 27)) (ls1 := [none, some (.int v1), some (.int v2)]) (st1 := []) (mem1 := m) rfl ?_
    refine it_V.ite (fun c2 => ?_) (fun c2 => ?_)
    · have h := h.1 c2
      refine it_V.weak (l := [none, none, none]) trivial ?_
      exact s_182_44 kc Φ m h
    · have h := h.2 c2
      refine it_V.sN it_cd182 it_m182 2 (pc1 := 31) (ls1 := [none, some (.int v1), some (.int v2)]) (st1 := [(.int v1), (.ref (it_K + 6))]) (mem1 := m) rfl ?_
      obtain ⟨g3, h⟩ := h
      refine it_V.kald it_cd182 it_m182 rfl (by decide) g3 ?_
      refine it_V.at (pc1 := 32) (ls1 := [none, some (.int v1), some (.int v2)]) (st1 := [(.int ((kc 6).2 (Int32.toNatClampNeg v1)))]) (mem1 := m) rfl rfl rfl rfl ?_
      refine it_V.sN it_cd182 it_m182 6 (pc1 := (if ((it_us ((kc 6).2 (Int32.toNatClampNeg v1)) v2) &&& (1 : Int32)) = (1 : Int32) then 40 else 44)) (ls1 := [none, some (.int v1), some (.int v2)]) (st1 := []) (mem1 := m) rfl ?_
      refine it_V.ite (fun c4 => ?_) (fun c4 => ?_)
      · have h := h.1 c4
        refine it_V.sN it_cd182 it_m182 2 (pc1 := 45) (ls1 := [none, some (.int v1), some (.int v2)]) (st1 := [(.int (1 : Int32))]) (mem1 := m) rfl ?_
        refine it_V.weak (l := [none, none, none]) trivial ?_
        exact s_182_45 kc Φ (1 : Int32) m h
      · have h := h.2 c4
        refine it_V.weak (l := [none, none, none]) trivial ?_
        exact s_182_44 kc Φ m h
set_option maxRecDepth 100000 in
set_option maxHeartbeats 4000000 in
theorem s_182 (kc : it_Kc) (x0 : Nat) (x1 : Int32) (x2 : Int32) (hx0 : it_isP x0) (m : it_Me) (Φ : Int32 → it_Me → Prop) (h : w_182 kc x0 x1 x2 m Φ) : it_V kc it_sh0 182 0 (it_loc0 [(.ref x0), (.int x1), (.int x2)] 3) [] m (it_Pi Φ) := by
  rw [w_182] at h
  refine it_V.at (pc1 := 0) (ls1 := [some (.ref x0), some (.int x1), some (.int x2)]) (st1 := []) (mem1 := m) rfl rfl rfl rfl ?_
  refine it_V.sN it_cd182 it_m182 3 (pc1 := (if x1 = (5 : Int32) then 5 else 17)) (ls1 := [some (.ref x0), some (.int x1), some (.int x2)]) (st1 := []) (mem1 := m) rfl ?_
  refine it_V.ite (fun c1 => ?_) (fun c1 => ?_)
  · have h := h.1 c1
    refine it_V.sN it_cd182 it_m182 1 (pc1 := 6) (ls1 := [some (.ref x0), some (.int x1), some (.int x2)]) (st1 := [(.ref x0)]) (mem1 := m) rfl ?_
    refine it_V.getP it_cd182 it_m182 rfl (hx0).1 rfl ?_
    refine it_V.at (pc1 := 9) (ls1 := [some (.ref x0), some (.int x1), some (.int x2)]) (st1 := [(.ref (x0 + 1))]) (mem1 := m) rfl rfl rfl rfl ?_
    refine it_V.getP it_cd182 it_m182 rfl (hx0).2.1 rfl ?_
    refine it_V.at (pc1 := 12) (ls1 := [some (.ref x0), some (.int x1), some (.int x2)]) (st1 := [(.int (m (x0 + 1) 12))]) (mem1 := m) rfl rfl rfl rfl ?_
    refine it_V.sN it_cd182 it_m182 1 (pc1 := (if (m (x0 + 1) 12) = 0 then 15 else 17)) (ls1 := [some (.ref x0), some (.int x1), some (.int x2)]) (st1 := []) (mem1 := m) rfl ?_
    refine it_V.ite (fun c2 => ?_) (fun c2 => ?_)
    · have h := h.1 c2
      refine it_V.sN it_cd182 it_m182 1 (pc1 := 16) (ls1 := [some (.ref x0), some (.int x1), some (.int x2)]) (st1 := [(.int (0 : Int32))]) (mem1 := m) rfl ?_
      exact it_V.ret it_cd182 it_m182 rfl rfl ⟨_, rfl, h⟩
    · have h := h.2 c2
      refine it_V.weak (l := [none, some (.int x1), some (.int x2)]) ⟨rfl, ⟨rfl, trivial⟩⟩ ?_
      exact s_182_17 kc Φ x1 x2 m h
  · have h := h.2 c1
    refine it_V.weak (l := [none, some (.int x1), some (.int x2)]) ⟨rfl, ⟨rfl, trivial⟩⟩ ?_
    exact s_182_17 kc Φ x1 x2 m h
set_option maxRecDepth 100000 in
set_option maxHeartbeats 4000000 in
theorem s_180_101 (kc : it_Kc) (Φ : Int32 → it_Me → Prop) (m : it_Me) (h : w_180_101 kc Φ m) : it_V kc it_sh0 180 101 [none, none, none, none] [] m (it_Pi Φ) := by
  rw [w_180_101] at h
  refine it_V.sN it_cd180 it_m180 1 (pc1 := 102) (ls1 := [none, none, none, none]) (st1 := [(.int (-1 : Int32))]) (mem1 := m) rfl ?_
  exact it_V.ret it_cd180 it_m180 rfl rfl ⟨_, rfl, h⟩
set_option maxRecDepth 100000 in
set_option maxHeartbeats 4000000 in
theorem s_180_35 (kc : it_Kc) (Φ : Int32 → it_Me → Prop) (v1 : Nat) (hv1 : it_isP v1) (m : it_Me) (h : w_180_35 kc Φ v1 m) : it_V kc it_sh0 180 35 [none, some (.ref v1), none, none] [] m (it_Pi Φ) := by
  rw [w_180_35] at h
  refine it_V.sN it_cd180 it_m180 2 (pc1 := 38) (ls1 := [none, some (.ref v1), none, none]) (st1 := [(.int (11 : Int32)), (.ref v1)]) (mem1 := m) rfl ?_
  refine it_V.call it_cd180 it_m180 rfl it_m136 [(.ref v1), (.int (11 : Int32))] [] rfl rfl ⟨Nat.le_of_ble_eq_true rfl, Nat.le_of_ble_eq_true rfl, Nat.le_of_ble_eq_true rfl, Nat.le_of_ble_eq_true rfl, (it_recvP (hv1).1)⟩ (s_136 kc v1 (11 : Int32) (hv1) m _ h) ?_
  rintro _ m1 ⟨rfl, h⟩
  refine it_V.at (pc1 := 41) (ls1 := [none, some (.ref v1), none, none]) (st1 := []) (mem1 := m1) rfl rfl rfl rfl ?_
  refine it_V.sN it_cd180 it_m180 1 (pc1 := 101) (ls1 := [none, some (.ref v1), none, none]) (st1 := []) (mem1 := m1) rfl ?_
  refine it_V.weak (l := [none, none, none, none]) trivial ?_
  exact s_180_101 kc Φ m1 h
set_option maxRecDepth 100000 in
set_option maxHeartbeats 4000000 in
theorem s_180 (kc : it_Kc) (x0 : Nat) (hx0 : it_isP x0) (m : it_Me) (Φ : Int32 → it_Me → Prop) (h : w_180 kc x0 m Φ) : it_V kc it_sh0 180 0 (it_loc0 [(.ref 64), (.ref x0)] 4) [] m (it_Pi Φ) := by
  rw [w_180] at h
  refine it_V.at (pc1 := 0) (ls1 := [some (.ref 64), some (.ref x0), none, none]) (st1 := []) (mem1 := m) rfl rfl rfl rfl ?_
  refine it_V.sN it_cd180 it_m180 1 (pc1 := 1) (ls1 := [some (.ref 64), some (.ref x0), none, none]) (st1 := [(.ref x0)]) (mem1 := m) rfl ?_
  refine it_V.getP it_cd180 it_m180 rfl (hx0).1 rfl ?_
  refine it_V.at (pc1 := 4) (ls1 := [some (.ref 64), some (.ref x0), none, none]) (st1 := [(.ref (x0 + 2))]) (mem1 := m) rfl rfl rfl rfl ?_
  refine it_V.sN it_cd180 it_m180 1 (pc1 := 6) (ls1 := [some (.ref 64), some (.ref x0), none, none]) (st1 := [(.int (10 : Int32)), (.ref (x0 + 2))]) (mem1 := m) rfl ?_
  obtain ⟨g1, h⟩ := h
  refine it_V.iald it_cd180 it_m180 rfl ((hx0).2.2.1).2 ((hx0).2.2.1).1 g1 ?_
  refine it_V.at (pc1 := 7) (ls1 := [some (.ref 64), some (.ref x0), none, none]) (st1 := [(.int (m (x0 + 2) (Int32.toNatClampNeg (10 : Int32))))]) (mem1 := m) rfl rfl rfl rfl ?_
  refine it_V.sN it_cd180 it_m180 2 (pc1 := 9) (ls1 := [some (.ref 64), some (.ref x0), some (.int (m (x0 + 2) (Int32.toNatClampNeg (10 : Int32)))), none]) (st1 := [(.ref x0)]) (mem1 := m) rfl ?_
  refine it_V.getP it_cd180 it_m180 rfl (hx0).1 rfl ?_
  refine it_V.at (pc1 := 12) (ls1 := [some (.ref 64), some (.ref x0), some (.int (m (x0 + 2) (Int32.toNatClampNeg (10 : Int32)))), none]) (st1 := [(.ref (x0 + 2))]) (mem1 := m) rfl rfl rfl rfl ?_
  refine it_V.sN it_cd180 it_m180 1 (pc1 := 14) (ls1 := [some (.ref 64), some (.ref x0), some (.int (m (x0 + 2) (Int32.toNatClampNeg (10 : Int32)))), none]) (st1 := [(.int (11 : Int32)), (.ref (x0 + 2))]) (mem1 := m) rfl ?_
  obtain ⟨g2, h⟩ := h
  refine it_V.iald it_cd180 it_m180 rfl ((hx0).2.2.1).2 ((hx0).2.2.1).1 g2 ?_
  refine it_V.at (pc1 := 15) (ls1 := [some (.ref 64), some (.ref x0), some (.int (m (x0 + 2) (Int32.toNatClampNeg (10 : Int32)))), none]) (st1 := [(.int (m (x0 + 2) (Int32.toNatClampNeg (11 : Int32))))]) (mem1 := m) rfl rfl rfl rfl ?_
  refine it_V.sN it_cd180 it_m180 2 (pc1 := 17) (ls1 := [some (.ref 64), some (.ref x0), some (.int (m (x0 + 2) (Int32.toNatClampNeg (10 : Int32)))), some (.int (m (x0 + 2) (Int32.toNatClampNeg (11 : Int32))))]) (st1 := [(.int (m (x0 + 2) (Int32.toNatClampNeg (10 : Int32))))]) (mem1 := m) rfl ?_
  refine it_V.call it_cd180 it_m180 rfl it_m173 [(.int (m (x0 + 2) (Int32.toNatClampNeg (10 : Int32))))] [] rfl rfl ⟨Nat.le_of_ble_eq_true rfl, Nat.le_of_ble_eq_true rfl, Nat.le_of_ble_eq_true rfl, Nat.le_of_ble_eq_true rfl, rfl⟩ (s_173 kc (m (x0 + 2) (Int32.toNatClampNeg (10 : Int32))) m _ h) ?_
  rintro _ m4 ⟨r3, rfl, h⟩
  refine it_V.at (pc1 := 20) (ls1 := [some (.ref 64), some (.ref x0), some (.int (m (x0 + 2) (Int32.toNatClampNeg (10 : Int32)))), some (.int (m (x0 + 2) (Int32.toNatClampNeg (11 : Int32))))]) (st1 := [(.int r3)]) (mem1 := m4) rfl rfl rfl rfl ?_
  refine it_V.sN it_cd180 it_m180 1 (pc1 := (if r3 = 0 then 35 else 23)) (ls1 := [some (.ref 64), some (.ref x0), some (.int (m (x0 + 2) (Int32.toNatClampNeg (10 : Int32)))), some (.int (m (x0 + 2) (Int32.toNatClampNeg (11 : Int32))))]) (st1 := []) (mem1 := m4) rfl ?_
  refine it_V.ite (fun c5 => ?_) (fun c5 => ?_)
  · have h := h.1 c5
    refine it_V.weak (l := [none, some (.ref x0), none, none]) ⟨rfl, trivial⟩ ?_
    exact s_180_35 kc Φ x0 (hx0) m4 h
  · have h := h.2 c5
    refine it_V.sN it_cd180 it_m180 1 (pc1 := 24) (ls1 := [some (.ref 64), some (.ref x0), some (.int (m (x0 + 2) (Int32.toNatClampNeg (10 : Int32)))), some (.int (m (x0 + 2) (Int32.toNatClampNeg (11 : Int32))))]) (st1 := [(.ref x0)]) (mem1 := m4) rfl ?_
    refine it_V.getP it_cd180 it_m180 rfl (hx0).1 rfl ?_
    refine it_V.at (pc1 := 27) (ls1 := [some (.ref 64), some (.ref x0), some (.int (m (x0 + 2) (Int32.toNatClampNeg (10 : Int32)))), some (.int (m (x0 + 2) (Int32.toNatClampNeg (11 : Int32))))]) (st1 := [(.ref (x0 + 1))]) (mem1 := m4) rfl rfl rfl rfl ?_
    refine it_V.sN it_cd180 it_m180 2 (pc1 := 29) (ls1 := [some (.ref 64), some (.ref x0), some (.int (m (x0 + 2) (Int32.toNatClampNeg (10 : Int32)))), some (.int (m (x0 + 2) (Int32.toNatClampNeg (11 : Int32))))]) (st1 := [(.int (m (x0 + 2) (Int32.toNatClampNeg (11 : Int32)))), (.int (m (x0 + 2) (Int32.toNatClampNeg (10 : Int32)))), (.ref (x0 + 1))]) (mem1 := m4) rfl ?_
    refine it_V.call it_cd180 it_m180 rfl it_m9 [(.ref (x0 + 1)), (.int (m (x0 + 2) (Int32.toNatClampNeg (10 : Int32)))), (.int (m (x0 + 2) (Int32.toNatClampNeg (11 : Int32))))] [] rfl rfl ⟨Nat.le_of_ble_eq_true rfl, Nat.le_of_ble_eq_true rfl, Nat.le_of_ble_eq_true rfl, Nat.le_of_ble_eq_true rfl, (it_recvP ((hx0).2.1))⟩ (s_9 kc (x0 + 1) (m (x0 + 2) (Int32.toNatClampNeg (10 : Int32))) (m (x0 + 2) (Int32.toNatClampNeg (11 : Int32))) ((hx0).2.1) m4 _ h) ?_
    rintro _ m7 ⟨r6, rfl, h⟩
    refine it_V.at (pc1 := 32) (ls1 := [some (.ref 64), some (.ref x0), some (.int (m (x0 + 2) (Int32.toNatClampNeg (10 : Int32)))), some (.int (m (x0 + 2) (Int32.toNatClampNeg (11 : Int32))))]) (st1 := [(.int r6)]) (mem1 := m7) rfl rfl rfl rfl ?_
    refine it_V.sN it_cd180 it_m180 1 (pc1 := (if r6 = 0 then 35 else 44)) (ls1 := [some (.ref 64), some (.ref x0), some (.int (m (x0 + 2) (Int32.toNatClampNeg (10 : Int32)))), some (.int (m (x0 + 2) (Int32.toNatClampNeg (11 : Int32))))]) (st1 := []) (mem1 := m7) rfl ?_
    refine it_V.ite (fun c8 => ?_) (fun c8 => ?_)
    · have h := h.1 c8
      refine it_V.weak (l := [none, some (.ref x0), none, none]) ⟨rfl, trivial⟩ ?_
      exact s_180_35 kc Φ x0 (hx0) m7 h
    · have h := h.2 c8
      refine it_V.sN it_cd180 it_m180 2 (pc1 := (if (m (x0 + 2) (Int32.toNatClampNeg (11 : Int32))) = 0 then 48 else 60)) (ls1 := [some (.ref 64), some (.ref x0), some (.int (m (x0 + 2) (Int32.toNatClampNeg (10 : Int32)))), some (.int (m (x0 + 2) (Int32.toNatClampNeg (11 : Int32))))]) (st1 := []) (mem1 := m7) rfl ?_
      refine it_V.ite (fun c9 => ?_) (fun c9 => ?_)
      · have h := h.1 c9
        refine it_V.sN it_cd180 it_m180 3 (pc1 := 53) (ls1 := [some (.ref 64), some (.ref x0), some (.int (m (x0 + 2) (Int32.toNatClampNeg (10 : Int32)))), some (.int (m (x0 + 2) (Int32.toNatClampNeg (11 : Int32))))]) (st1 := [(.int (m (x0 + 2) (Int32.toNatClampNeg (10 : Int32)))), (.ref (it_K + 5)), (.ref x0)]) (mem1 := m7) rfl ?_
        obtain ⟨g10, h⟩ := h
        refine it_V.kald it_cd180 it_m180 rfl (by decide) g10 ?_
        refine it_V.at (pc1 := 54) (ls1 := [some (.ref 64), some (.ref x0), some (.int (m (x0 + 2) (Int32.toNatClampNeg (10 : Int32)))), some (.int (m (x0 + 2) (Int32.toNatClampNeg (11 : Int32))))]) (st1 := [(.int ((kc 5).2 (Int32.toNatClampNeg (m (x0 + 2) (Int32.toNatClampNeg (10 : Int32)))))), (.ref x0)]) (mem1 := m7) rfl rfl rfl rfl ?_
        refine it_V.call it_cd180 it_m180 rfl it_m181 [(.ref x0), (.int ((kc 5).2 (Int32.toNatClampNeg (m (x0 + 2) (Int32.toNatClampNeg (10 : Int32))))))] [] rfl rfl ⟨Nat.le_of_ble_eq_true rfl, Nat.le_of_ble_eq_true rfl, Nat.le_of_ble_eq_true rfl, Nat.le_of_ble_eq_true rfl, rfl⟩ (s_181 kc x0 ((kc 5).2 (Int32.toNatClampNeg (m (x0 + 2) (Int32.toNatClampNeg (10 : Int32))))) (hx0) m7 _ h) ?_
        rintro _ m11 ⟨rfl, h⟩
        refine it_V.at (pc1 := 57) (ls1 := [some (.ref 64), some (.ref x0), some (.int (m (x0 + 2) (Int32.toNatClampNeg (10 : Int32)))), some (.int (m (x0 + 2) (Int32.toNatClampNeg (11 : Int32))))]) (st1 := []) (mem1 := m11) rfl rfl rfl rfl ?_
        refine it_V.sN it_cd180 it_m180 1 (pc1 := 101) (ls1 := [some (.ref 64), some (.ref x0), some (.int (m (x0 + 2) (Int32.toNatClampNeg (10 : Int32)))), some (.int (m (x0 + 2) (Int32.toNatClampNeg (11 : Int32))))]) (st1 := []) (mem1 := m11) rfl ?_
        refine it_V.weak (l := [none, none, none, none]) trivial ?_
        exact s_180_101 kc Φ m11 h
      · have h := h.2 c9
        refine it_V.sN it_cd180 it_m180 3 (pc1 := 63) (ls1 := [some (.ref 64), some (.ref x0), some (.int (m (x0 + 2) (Int32.toNatClampNeg (10 : Int32)))), some (.int (m (x0 + 2) (Int32.toNatClampNeg (11 : Int32))))]) (st1 := [(.int (m (x0 + 2) (Int32.toNatClampNeg (11 : Int32)))), (.int (m (x0 + 2) (Int32.toNatClampNeg (10 : Int32)))), (.ref x0)]) (mem1 := m7) rfl ?_
        refine it_V.call it_cd180 it_m180 rfl it_m182 [(.ref x0), (.int (m (x0 + 2) (Int32.toNatClampNeg (10 : Int32)))), (.int (m (x0 + 2) (Int32.toNatClampNeg (11 : Int32))))] [] rfl rfl ⟨Nat.le_of_ble_eq_true rfl, Nat.le_of_ble_eq_true rfl, Nat.le_of_ble_eq_true rfl, Nat.le_of_ble_eq_true rfl, rfl⟩ (s_182 kc x0 (m (x0 + 2) (Int32.toNatClampNeg (10 : Int32))) (m (x0 + 2) (Int32.toNatClampNeg (11 : Int32))) (hx0) m7 _ h) ?_
        rintro _ m13 ⟨r12, rfl, h⟩
        refine it_V.at (pc1 := 66) (ls1 := [some (.ref 64), some (.ref x0), some (.int (m (x0 + 2) (Int32.toNatClampNeg (10 : Int32)))), some (.int (m (x0 + 2) (Int32.toNatClampNeg (11 : Int32))))]) (st1 := [(.int r12)]) (mem1 := m13) rfl rfl rfl rfl ?_
        refine it_V.sN it_cd180 it_m180 1 (pc1 := (if r12 = 0 then 69 else 78)) (ls1 := [some (.ref 64), some (.ref x0), some (.int (m (x0 + 2) (Int32.toNatClampNeg (10 : Int32)))), some (.int (m (x0 + 2) (Int32.toNatClampNeg (11 : Int32))))]) (st1 := []) (mem1 := m13) rfl ?_
        refine it_V.ite (fun c14 => ?_) (fun c14 => ?_)
        · have h := h.1 c14
          refine it_V.sN it_cd180 it_m180 2 (pc1 := 72) (ls1 := [some (.ref 64), some (.ref x0), some (.int (m (x0 + 2) (Int32.toNatClampNeg (10 : Int32)))), some (.int (m (x0 + 2) (Int32.toNatClampNeg (11 : Int32))))]) (st1 := [(.int (10 : Int32)), (.ref x0)]) (mem1 := m13) rfl ?_
          refine it_V.call it_cd180 it_m180 rfl it_m136 [(.ref x0), (.int (10 : Int32))] [] rfl rfl ⟨Nat.le_of_ble_eq_true rfl, Nat.le_of_ble_eq_true rfl, Nat.le_of_ble_eq_true rfl, Nat.le_of_ble_eq_true rfl, (it_recvP (hx0).1)⟩ (s_136 kc x0 (10 : Int32) (hx0) m13 _ h) ?_
          rintro _ m15 ⟨rfl, h⟩
          refine it_V.at (pc1 := 75) (ls1 := [some (.ref 64), some (.ref x0), some (.int (m (x0 + 2) (Int32.toNatClampNeg (10 : Int32)))), some (.int (m (x0 + 2) (Int32.toNatClampNeg (11 : Int32))))]) (st1 := []) (mem1 := m15) rfl rfl rfl rfl ?_
          refine it_V.sN it_cd180 it_m180 1 (pc1 := 101) (ls1 := [some (.ref 64), some (.ref x0), some (.int (m (x0 + 2) (Int32.toNatClampNeg (10 : Int32)))), some (.int (m (x0 + 2) (Int32.toNatClampNeg (11 : Int32))))]) (st1 := []) (mem1 := m15) rfl ?_
          refine it_V.weak (l := [none, none, none, none]) trivial ?_
          exact s_180_101 kc Φ m15 h
        · have h := h.2 c14
          refine it_V.sN it_cd180 it_m180 4 (pc1 := 84) (ls1 := [some (.ref 64), some (.ref x0), some (.int (m (x0 + 2) (Int32.toNatClampNeg (10 : Int32)))), some (.int (m (x0 + 2) (Int32.toNatClampNeg (11 : Int32))))]) (st1 := [(.int (m (x0 + 2) (Int32.toNatClampNeg (10 : Int32)))), (.ref x0), (.ref 9)]) (mem1 := m13) rfl ?_
          refine it_V.call it_cd180 it_m180 rfl it_m85 [(.ref 9), (.ref x0), (.int (m (x0 + 2) (Int32.toNatClampNeg (10 : Int32))))] [] rfl rfl ⟨Nat.le_of_ble_eq_true rfl, Nat.le_of_ble_eq_true rfl, Nat.le_of_ble_eq_true rfl, Nat.le_of_ble_eq_true rfl, rfl⟩ (s_85 kc x0 (m (x0 + 2) (Int32.toNatClampNeg (10 : Int32))) (hx0) m13 _ h) ?_
          rintro _ m17 ⟨r16, rfl, h⟩
          refine it_V.at (pc1 := 87) (ls1 := [some (.ref 64), some (.ref x0), some (.int (m (x0 + 2) (Int32.toNatClampNeg (10 : Int32)))), some (.int (m (x0 + 2) (Int32.toNatClampNeg (11 : Int32))))]) (st1 := [(.int r16)]) (mem1 := m17) rfl rfl rfl rfl ?_
          refine it_V.sN it_cd180 it_m180 1 (pc1 := (if r16 = 0 then 90 else 99)) (ls1 := [some (.ref 64), some (.ref x0), some (.int (m (x0 + 2) (Int32.toNatClampNeg (10 : Int32)))), some (.int (m (x0 + 2) (Int32.toNatClampNeg (11 : Int32))))]) (st1 := []) (mem1 := m17) rfl ?_
          refine it_V.ite (fun c18 => ?_) (fun c18 => ?_)
          · have h := h.1 c18
            refine it_V.sN it_cd180 it_m180 2 (pc1 := 93) (ls1 := [some (.ref 64), some (.ref x0), some (.int (m (x0 + 2) (Int32.toNatClampNeg (10 : Int32)))), some (.int (m (x0 + 2) (Int32.toNatClampNeg (11 : Int32))))]) (st1 := [(.int (9 : Int32)), (.ref x0)]) (mem1 := m17) rfl ?_
            refine it_V.call it_cd180 it_m180 rfl it_m136 [(.ref x0), (.int (9 : Int32))] [] rfl rfl ⟨Nat.le_of_ble_eq_true rfl, Nat.le_of_ble_eq_true rfl, Nat.le_of_ble_eq_true rfl, Nat.le_of_ble_eq_true rfl, (it_recvP (hx0).1)⟩ (s_136 kc x0 (9 : Int32) (hx0) m17 _ h) ?_
            rintro _ m19 ⟨rfl, h⟩
            refine it_V.at (pc1 := 96) (ls1 := [some (.ref 64), some (.ref x0), some (.int (m (x0 + 2) (Int32.toNatClampNeg (10 : Int32)))), some (.int (m (x0 + 2) (Int32.toNatClampNeg (11 : Int32))))]) (st1 := []) (mem1 := m19) rfl rfl rfl rfl ?_
            refine it_V.sN it_cd180 it_m180 1 (pc1 := 101) (ls1 := [some (.ref 64), some (.ref x0), some (.int (m (x0 + 2) (Int32.toNatClampNeg (10 : Int32)))), some (.int (m (x0 + 2) (Int32.toNatClampNeg (11 : Int32))))]) (st1 := []) (mem1 := m19) rfl ?_
            refine it_V.weak (l := [none, none, none, none]) trivial ?_
            exact s_180_101 kc Φ m19 h
          · have h := h.2 c18
            refine it_V.sN it_cd180 it_m180 1 (pc1 := 100) (ls1 := [some (.ref 64), some (.ref x0), some (.int (m (x0 + 2) (Int32.toNatClampNeg (10 : Int32)))), some (.int (m (x0 + 2) (Int32.toNatClampNeg (11 : Int32))))]) (st1 := [(.int (m (x0 + 2) (Int32.toNatClampNeg (10 : Int32))))]) (mem1 := m17) rfl ?_
            exact it_V.ret it_cd180 it_m180 rfl rfl ⟨_, rfl, h⟩
set_option maxRecDepth 100000 in
set_option maxHeartbeats 4000000 in
theorem s_184_86 (kc : it_Kc) (Φ : it_Me → Prop) (m : it_Me) (h : w_184_86 kc Φ m) : it_V kc it_sh0 184 86 [none, none, none, none, none, none, none, none] [] m (it_Pv Φ) := by
  rw [w_184_86] at h
  exact it_V.ret it_cd184 it_m184 rfl rfl ⟨rfl, h⟩
set_option maxRecDepth 100000 in
set_option maxHeartbeats 4000000 in
theorem s_184 (kc : it_Kc) (x0 : Nat) (x1 : Int64) (x2 : Int32) (hx0 : it_isP x0) (m : it_Me) (Φ : it_Me → Prop) (h : w_184 kc x0 x1 x2 m Φ) : it_V kc it_sh0 184 0 (it_loc0 [(.ref 64), (.ref x0), (.long x1), (.int x2)] 8) [] m (it_Pv Φ) := by
  rw [w_184] at h
  refine it_V.at (pc1 := 0) (ls1 := [some (.ref 64), some (.ref x0), some (.long x1), none, some (.int x2), none, none, none]) (st1 := []) (mem1 := m) rfl rfl rfl rfl ?_
  refine it_V.sN it_cd184 it_m184 7 (pc1 := 12) (ls1 := [some (.ref 64), some (.ref x0), some (.long x1), none, some (.int x2), some (.long ((x1 + (3 : Int64)) &&& (-4 : Int64))), none, none]) (st1 := [(.ref x0)]) (mem1 := m) rfl ?_
  refine it_V.getP it_cd184 it_m184 rfl (hx0).1 rfl ?_
  refine it_V.at (pc1 := 15) (ls1 := [some (.ref 64), some (.ref x0), some (.long x1), none, some (.int x2), some (.long ((x1 + (3 : Int64)) &&& (-4 : Int64))), none, none]) (st1 := [(.int (m x0 7))]) (mem1 := m) rfl rfl rfl rfl ?_
  refine it_V.sN it_cd184 it_m184 5 (pc1 := 24) (ls1 := [some (.ref 64), some (.ref x0), some (.long x1), none, some (.int x2), some (.long ((x1 + (3 : Int64)) &&& (-4 : Int64))), none, some (.int (m x0 7))]) (st1 := [(.ref x0), (.ref 9), (.long ((x1 + (3 : Int64)) &&& (-4 : Int64)))]) (mem1 := m) rfl ?_
  refine it_V.call it_cd184 it_m184 rfl it_m91 [(.ref 9), (.ref x0)] [(.long ((x1 + (3 : Int64)) &&& (-4 : Int64)))] rfl rfl ⟨Nat.le_of_ble_eq_true rfl, Nat.le_of_ble_eq_true rfl, Nat.le_of_ble_eq_true rfl, Nat.le_of_ble_eq_true rfl, rfl⟩ (s_91 kc x0 (hx0) m _ h) ?_
  rintro _ m2 ⟨r1, rfl, h⟩
  refine it_V.at (pc1 := 27) (ls1 := [some (.ref 64), some (.ref x0), some (.long x1), none, some (.int x2), some (.long ((x1 + (3 : Int64)) &&& (-4 : Int64))), none, some (.int (m x0 7))]) (st1 := [(.int r1), (.long ((x1 + (3 : Int64)) &&& (-4 : Int64)))]) (mem1 := m2) rfl rfl rfl rfl ?_
  refine it_V.sN it_cd184 it_m184 3 (pc1 := (if 0 ≤ (lg_cmp ((x1 + (3 : Int64)) &&& (-4 : Int64)) (Int32.toInt64 r1)) then 41 else 32)) (ls1 := [some (.ref 64), some (.ref x0), some (.long x1), none, some (.int x2), some (.long ((x1 + (3 : Int64)) &&& (-4 : Int64))), none, some (.int (m x0 7))]) (st1 := []) (mem1 := m2) rfl ?_
  refine it_V.ite (fun c3 => ?_) (fun c3 => ?_)
  · have h := h.1 c3
    refine it_V.sN it_cd184 it_m184 2 (pc1 := 44) (ls1 := [some (.ref 64), some (.ref x0), some (.long x1), none, some (.int x2), some (.long ((x1 + (3 : Int64)) &&& (-4 : Int64))), none, some (.int (m x0 7))]) (st1 := [(.ref x0), (.long ((x1 + (3 : Int64)) &&& (-4 : Int64)))]) (mem1 := m2) rfl ?_
    refine it_V.getP it_cd184 it_m184 rfl (hx0).1 rfl ?_
    refine it_V.at (pc1 := 47) (ls1 := [some (.ref 64), some (.ref x0), some (.long x1), none, some (.int x2), some (.long ((x1 + (3 : Int64)) &&& (-4 : Int64))), none, some (.int (m x0 7))]) (st1 := [(.int (m2 x0 8)), (.long ((x1 + (3 : Int64)) &&& (-4 : Int64)))]) (mem1 := m2) rfl rfl rfl rfl ?_
    refine it_V.sN it_cd184 it_m184 3 (pc1 := (if (lg_cmp ((x1 + (3 : Int64)) &&& (-4 : Int64)) (Int32.toInt64 (m2 x0 8))) ≤ 0 then 61 else 52)) (ls1 := [some (.ref 64), some (.ref x0), some (.long x1), none, some (.int x2), some (.long ((x1 + (3 : Int64)) &&& (-4 : Int64))), none, some (.int (m x0 7))]) (st1 := []) (mem1 := m2) rfl ?_
    refine it_V.ite (fun c4 => ?_) (fun c4 => ?_)
    · have h := h.1 c4
      refine it_V.sN it_cd184 it_m184 3 (pc1 := 65) (ls1 := [some (.ref 64), some (.ref x0), some (.long x1), none, some (.int x2), some (.long ((x1 + (3 : Int64)) &&& (-4 : Int64))), none, some (.int (m x0 7))]) (st1 := [(.int (Int64.toInt32 ((x1 + (3 : Int64)) &&& (-4 : Int64)))), (.ref x0)]) (mem1 := m2) rfl ?_
      refine it_V.putP it_cd184 it_m184 rfl (hx0).1 rfl rfl rfl (Or.inl rfl) ?_
      refine it_V.at (pc1 := 68) (ls1 := [some (.ref 64), some (.ref x0), some (.long x1), none, some (.int x2), some (.long ((x1 + (3 : Int64)) &&& (-4 : Int64))), none, some (.int (m x0 7))]) (st1 := []) (mem1 := (it_sv m2 x0 7 (Int64.toInt32 ((x1 + (3 : Int64)) &&& (-4 : Int64))))) rfl rfl rfl rfl ?_
      refine it_V.sN it_cd184 it_m184 2 (pc1 := (if x2 = 0 then 82 else 73)) (ls1 := [some (.ref 64), some (.ref x0), some (.long x1), none, some (.int x2), some (.long ((x1 + (3 : Int64)) &&& (-4 : Int64))), none, some (.int (m x0 7))]) (st1 := []) (mem1 := (it_sv m2 x0 7 (Int64.toInt32 ((x1 + (3 : Int64)) &&& (-4 : Int64))))) rfl ?_
      refine it_V.ite (fun c5 => ?_) (fun c5 => ?_)
      · have h := h.1 c5
        refine it_V.sN it_cd184 it_m184 1 (pc1 := 83) (ls1 := [some (.ref 64), some (.ref x0), some (.long x1), none, some (.int x2), some (.long ((x1 + (3 : Int64)) &&& (-4 : Int64))), none, some (.int (m x0 7))]) (st1 := [(.ref x0)]) (mem1 := (it_sv m2 x0 7 (Int64.toInt32 ((x1 + (3 : Int64)) &&& (-4 : Int64))))) rfl ?_
        refine it_V.call it_cd184 it_m184 rfl it_m138 [(.ref x0)] [] rfl rfl ⟨Nat.le_of_ble_eq_true rfl, Nat.le_of_ble_eq_true rfl, Nat.le_of_ble_eq_true rfl, Nat.le_of_ble_eq_true rfl, (it_recvP (hx0).1)⟩ (s_138 kc x0 (hx0) (it_sv m2 x0 7 (Int64.toInt32 ((x1 + (3 : Int64)) &&& (-4 : Int64)))) _ h) ?_
        rintro _ m6 ⟨rfl, h⟩
        refine it_V.at (pc1 := 86) (ls1 := [some (.ref 64), some (.ref x0), some (.long x1), none, some (.int x2), some (.long ((x1 + (3 : Int64)) &&& (-4 : Int64))), none, some (.int (m x0 7))]) (st1 := []) (mem1 := m6) rfl rfl rfl rfl ?_
        refine it_V.weak (l := [none, none, none, none, none, none, none, none]) trivial ?_
        exact s_184_86 kc Φ m6 h
      · have h := h.2 c5
        refine it_V.sN it_cd184 it_m184 2 (pc1 := 76) (ls1 := [some (.ref 64), some (.ref x0), some (.long x1), none, some (.int x2), some (.long ((x1 + (3 : Int64)) &&& (-4 : Int64))), none, some (.int (m x0 7))]) (st1 := [(.int (m x0 7)), (.ref x0)]) (mem1 := (it_sv m2 x0 7 (Int64.toInt32 ((x1 + (3 : Int64)) &&& (-4 : Int64))))) rfl ?_
        refine it_V.call it_cd184 it_m184 rfl it_m139 [(.ref x0), (.int (m x0 7))] [] rfl rfl ⟨Nat.le_of_ble_eq_true rfl, Nat.le_of_ble_eq_true rfl, Nat.le_of_ble_eq_true rfl, Nat.le_of_ble_eq_true rfl, (it_recvP (hx0).1)⟩ (s_139 kc x0 (m x0 7) (hx0) (it_sv m2 x0 7 (Int64.toInt32 ((x1 + (3 : Int64)) &&& (-4 : Int64)))) _ h) ?_
        rintro _ m7 ⟨rfl, h⟩
        refine it_V.at (pc1 := 79) (ls1 := [some (.ref 64), some (.ref x0), some (.long x1), none, some (.int x2), some (.long ((x1 + (3 : Int64)) &&& (-4 : Int64))), none, some (.int (m x0 7))]) (st1 := []) (mem1 := m7) rfl rfl rfl rfl ?_
        refine it_V.sN it_cd184 it_m184 1 (pc1 := 86) (ls1 := [some (.ref 64), some (.ref x0), some (.long x1), none, some (.int x2), some (.long ((x1 + (3 : Int64)) &&& (-4 : Int64))), none, some (.int (m x0 7))]) (st1 := []) (mem1 := m7) rfl ?_
        refine it_V.weak (l := [none, none, none, none, none, none, none, none]) trivial ?_
        exact s_184_86 kc Φ m7 h
    · have h := h.2 c4
      refine it_V.sN it_cd184 it_m184 2 (pc1 := 55) (ls1 := [some (.ref 64), some (.ref x0), some (.long x1), none, some (.int x2), some (.long ((x1 + (3 : Int64)) &&& (-4 : Int64))), none, some (.int (m x0 7))]) (st1 := [(.int (9 : Int32)), (.ref x0)]) (mem1 := m2) rfl ?_
      refine it_V.call it_cd184 it_m184 rfl it_m136 [(.ref x0), (.int (9 : Int32))] [] rfl rfl ⟨Nat.le_of_ble_eq_true rfl, Nat.le_of_ble_eq_true rfl, Nat.le_of_ble_eq_true rfl, Nat.le_of_ble_eq_true rfl, (it_recvP (hx0).1)⟩ (s_136 kc x0 (9 : Int32) (hx0) m2 _ h) ?_
      rintro _ m8 ⟨rfl, h⟩
      refine it_V.at (pc1 := 58) (ls1 := [some (.ref 64), some (.ref x0), some (.long x1), none, some (.int x2), some (.long ((x1 + (3 : Int64)) &&& (-4 : Int64))), none, some (.int (m x0 7))]) (st1 := []) (mem1 := m8) rfl rfl rfl rfl ?_
      refine it_V.sN it_cd184 it_m184 1 (pc1 := 86) (ls1 := [some (.ref 64), some (.ref x0), some (.long x1), none, some (.int x2), some (.long ((x1 + (3 : Int64)) &&& (-4 : Int64))), none, some (.int (m x0 7))]) (st1 := []) (mem1 := m8) rfl ?_
      refine it_V.weak (l := [none, none, none, none, none, none, none, none]) trivial ?_
      exact s_184_86 kc Φ m8 h
  · have h := h.2 c3
    refine it_V.sN it_cd184 it_m184 2 (pc1 := 35) (ls1 := [some (.ref 64), some (.ref x0), some (.long x1), none, some (.int x2), some (.long ((x1 + (3 : Int64)) &&& (-4 : Int64))), none, some (.int (m x0 7))]) (st1 := [(.int (6 : Int32)), (.ref x0)]) (mem1 := m2) rfl ?_
    refine it_V.call it_cd184 it_m184 rfl it_m136 [(.ref x0), (.int (6 : Int32))] [] rfl rfl ⟨Nat.le_of_ble_eq_true rfl, Nat.le_of_ble_eq_true rfl, Nat.le_of_ble_eq_true rfl, Nat.le_of_ble_eq_true rfl, (it_recvP (hx0).1)⟩ (s_136 kc x0 (6 : Int32) (hx0) m2 _ h) ?_
    rintro _ m9 ⟨rfl, h⟩
    refine it_V.at (pc1 := 38) (ls1 := [some (.ref 64), some (.ref x0), some (.long x1), none, some (.int x2), some (.long ((x1 + (3 : Int64)) &&& (-4 : Int64))), none, some (.int (m x0 7))]) (st1 := []) (mem1 := m9) rfl rfl rfl rfl ?_
    refine it_V.sN it_cd184 it_m184 1 (pc1 := 86) (ls1 := [some (.ref 64), some (.ref x0), some (.long x1), none, some (.int x2), some (.long ((x1 + (3 : Int64)) &&& (-4 : Int64))), none, some (.int (m x0 7))]) (st1 := []) (mem1 := m9) rfl ?_
    refine it_V.weak (l := [none, none, none, none, none, none, none, none]) trivial ?_
    exact s_184_86 kc Φ m9 h
set_option maxRecDepth 100000 in
set_option maxHeartbeats 4000000 in
theorem s_183_163 (kc : it_Kc) (Φ : it_Me → Prop) (m : it_Me) (h : w_183_163 kc Φ m) : it_V kc it_sh0 183 163 [none, none, none] [] m (it_Pv Φ) := by
  rw [w_183_163] at h
  exact it_V.ret it_cd183 it_m183 rfl rfl ⟨rfl, h⟩
set_option maxRecDepth 100000 in
set_option maxHeartbeats 4000000 in
theorem s_183 (kc : it_Kc) (x0 : Nat) (hx0 : it_isP x0) (m : it_Me) (Φ : it_Me → Prop) (h : w_183 kc x0 m Φ) : it_V kc it_sh0 183 0 (it_loc0 [(.ref 64), (.ref x0)] 3) [] m (it_Pv Φ) := by
  rw [w_183] at h
  refine it_V.at (pc1 := 0) (ls1 := [some (.ref 64), some (.ref x0), none]) (st1 := []) (mem1 := m) rfl rfl rfl rfl ?_
  refine it_V.sN it_cd183 it_m183 1 (pc1 := 1) (ls1 := [some (.ref 64), some (.ref x0), none]) (st1 := [(.ref x0)]) (mem1 := m) rfl ?_
  refine it_V.getP it_cd183 it_m183 rfl (hx0).1 rfl ?_
  refine it_V.at (pc1 := 4) (ls1 := [some (.ref 64), some (.ref x0), none]) (st1 := [(.ref (x0 + 2))]) (mem1 := m) rfl rfl rfl rfl ?_
  refine it_V.sN it_cd183 it_m183 1 (pc1 := 6) (ls1 := [some (.ref 64), some (.ref x0), none]) (st1 := [(.int (11 : Int32)), (.ref (x0 + 2))]) (mem1 := m) rfl ?_
  obtain ⟨g1, h⟩ := h
  refine it_V.iald it_cd183 it_m183 rfl ((hx0).2.2.1).2 ((hx0).2.2.1).1 g1 ?_
  refine it_V.at (pc1 := 7) (ls1 := [some (.ref 64), some (.ref x0), none]) (st1 := [(.int (m (x0 + 2) (Int32.toNatClampNeg (11 : Int32))))]) (mem1 := m) rfl rfl rfl rfl ?_
  refine it_V.sN it_cd183 it_m183 2 (pc1 := 9) (ls1 := [some (.ref 64), some (.ref x0), some (.int (m (x0 + 2) (Int32.toNatClampNeg (11 : Int32))))]) (st1 := [(.ref x0)]) (mem1 := m) rfl ?_
  refine it_V.getP it_cd183 it_m183 rfl (hx0).1 rfl ?_
  refine it_V.at (pc1 := 12) (ls1 := [some (.ref 64), some (.ref x0), some (.int (m (x0 + 2) (Int32.toNatClampNeg (11 : Int32))))]) (st1 := [(.ref (x0 + 2))]) (mem1 := m) rfl rfl rfl rfl ?_
  refine it_V.sN it_cd183 it_m183 1 (pc1 := 14) (ls1 := [some (.ref 64), some (.ref x0), some (.int (m (x0 + 2) (Int32.toNatClampNeg (11 : Int32))))]) (st1 := [(.int (10 : Int32)), (.ref (x0 + 2))]) (mem1 := m) rfl ?_
  obtain ⟨g2, h⟩ := h
  refine it_V.iald it_cd183 it_m183 rfl ((hx0).2.2.1).2 ((hx0).2.2.1).1 g2 ?_
  refine it_V.at (pc1 := 15) (ls1 := [some (.ref 64), some (.ref x0), some (.int (m (x0 + 2) (Int32.toNatClampNeg (11 : Int32))))]) (st1 := [(.int (m (x0 + 2) (Int32.toNatClampNeg (10 : Int32))))]) (mem1 := m) rfl rfl rfl rfl ?_
  refine it_V.sN it_cd183 it_m183 1 (pc1 := (if (m (x0 + 2) (Int32.toNatClampNeg (10 : Int32))) = (0 : Int32) then 56 else (if (m (x0 + 2) (Int32.toNatClampNeg (10 : Int32))) = (1 : Int32) then 71 else (if (m (x0 + 2) (Int32.toNatClampNeg (10 : Int32))) = (2 : Int32) then 88 else (if (m (x0 + 2) (Int32.toNatClampNeg (10 : Int32))) = (3 : Int32) then 102 else (if (m (x0 + 2) (Int32.toNatClampNeg (10 : Int32))) = (4 : Int32) then 124 else (if (m (x0 + 2) (Int32.toNatClampNeg (10 : Int32))) = (5 : Int32) then 135 else (if (m (x0 + 2) (Int32.toNatClampNeg (10 : Int32))) = (6 : Int32) then 146 else 157)))))))) (ls1 := [some (.ref 64), some (.ref x0), some (.int (m (x0 + 2) (Int32.toNatClampNeg (11 : Int32))))]) (st1 := []) (mem1 := m) rfl ?_
  refine it_V.ite (fun c3 => ?_) (fun c3 => ?_)
  · have h := h.1 c3
    refine it_V.sN it_cd183 it_m183 7 (pc1 := 65) (ls1 := [some (.ref 64), some (.ref x0), some (.int (m (x0 + 2) (Int32.toNatClampNeg (11 : Int32))))]) (st1 := [(.int (0 : Int32)), (.long ((Int32.toInt64 (m (x0 + 2) (Int32.toNatClampNeg (11 : Int32)))) &&& (4294967295 : Int64))), (.ref x0), (.ref 64)]) (mem1 := m) rfl ?_
    refine it_V.call it_cd183 it_m183 rfl it_m184 [(.ref 64), (.ref x0), (.long ((Int32.toInt64 (m (x0 + 2) (Int32.toNatClampNeg (11 : Int32)))) &&& (4294967295 : Int64))), (.int (0 : Int32))] [] rfl rfl ⟨Nat.le_of_ble_eq_true rfl, Nat.le_of_ble_eq_true rfl, Nat.le_of_ble_eq_true rfl, Nat.le_of_ble_eq_true rfl, rfl⟩ (s_184 kc x0 ((Int32.toInt64 (m (x0 + 2) (Int32.toNatClampNeg (11 : Int32)))) &&& (4294967295 : Int64)) (0 : Int32) (hx0) m _ h) ?_
    rintro _ m4 ⟨rfl, h⟩
    refine it_V.at (pc1 := 68) (ls1 := [some (.ref 64), some (.ref x0), some (.int (m (x0 + 2) (Int32.toNatClampNeg (11 : Int32))))]) (st1 := []) (mem1 := m4) rfl rfl rfl rfl ?_
    refine it_V.sN it_cd183 it_m183 1 (pc1 := 163) (ls1 := [some (.ref 64), some (.ref x0), some (.int (m (x0 + 2) (Int32.toNatClampNeg (11 : Int32))))]) (st1 := []) (mem1 := m4) rfl ?_
    refine it_V.weak (l := [none, none, none]) trivial ?_
    exact s_183_163 kc Φ m4 h
  · have h := h.2 c3
    refine it_V.ite (fun c5 => ?_) (fun c5 => ?_)
    · have h := h.1 c5
      refine it_V.sN it_cd183 it_m183 3 (pc1 := 74) (ls1 := [some (.ref 64), some (.ref x0), some (.int (m (x0 + 2) (Int32.toNatClampNeg (11 : Int32))))]) (st1 := [(.ref x0), (.ref x0), (.ref 64)]) (mem1 := m) rfl ?_
      refine it_V.getP it_cd183 it_m183 rfl (hx0).1 rfl ?_
      refine it_V.at (pc1 := 77) (ls1 := [some (.ref 64), some (.ref x0), some (.int (m (x0 + 2) (Int32.toNatClampNeg (11 : Int32))))]) (st1 := [(.int (m x0 7)), (.ref x0), (.ref 64)]) (mem1 := m) rfl rfl rfl rfl ?_
      refine it_V.sN it_cd183 it_m183 5 (pc1 := 82) (ls1 := [some (.ref 64), some (.ref x0), some (.int (m (x0 + 2) (Int32.toNatClampNeg (11 : Int32))))]) (st1 := [(.int (1 : Int32)), (.long ((Int32.toInt64 (m x0 7)) + (Int32.toInt64 (m (x0 + 2) (Int32.toNatClampNeg (11 : Int32)))))), (.ref x0), (.ref 64)]) (mem1 := m) rfl ?_
      refine it_V.call it_cd183 it_m183 rfl it_m184 [(.ref 64), (.ref x0), (.long ((Int32.toInt64 (m x0 7)) + (Int32.toInt64 (m (x0 + 2) (Int32.toNatClampNeg (11 : Int32)))))), (.int (1 : Int32))] [] rfl rfl ⟨Nat.le_of_ble_eq_true rfl, Nat.le_of_ble_eq_true rfl, Nat.le_of_ble_eq_true rfl, Nat.le_of_ble_eq_true rfl, rfl⟩ (s_184 kc x0 ((Int32.toInt64 (m x0 7)) + (Int32.toInt64 (m (x0 + 2) (Int32.toNatClampNeg (11 : Int32))))) (1 : Int32) (hx0) m _ h) ?_
      rintro _ m6 ⟨rfl, h⟩
      refine it_V.at (pc1 := 85) (ls1 := [some (.ref 64), some (.ref x0), some (.int (m (x0 + 2) (Int32.toNatClampNeg (11 : Int32))))]) (st1 := []) (mem1 := m6) rfl rfl rfl rfl ?_
      refine it_V.sN it_cd183 it_m183 1 (pc1 := 163) (ls1 := [some (.ref 64), some (.ref x0), some (.int (m (x0 + 2) (Int32.toNatClampNeg (11 : Int32))))]) (st1 := []) (mem1 := m6) rfl ?_
      refine it_V.weak (l := [none, none, none]) trivial ?_
      exact s_183_163 kc Φ m6 h
    · have h := h.2 c5
      refine it_V.ite (fun c7 => ?_) (fun c7 => ?_)
      · have h := h.1 c7
        refine it_V.sN it_cd183 it_m183 2 (pc1 := 90) (ls1 := [some (.ref 64), some (.ref x0), some (.int (m (x0 + 2) (Int32.toNatClampNeg (11 : Int32))))]) (st1 := [(.ref x0), (.ref x0)]) (mem1 := m) rfl ?_
        refine it_V.getP it_cd183 it_m183 rfl (hx0).1 rfl ?_
        refine it_V.at (pc1 := 93) (ls1 := [some (.ref 64), some (.ref x0), some (.int (m (x0 + 2) (Int32.toNatClampNeg (11 : Int32))))]) (st1 := [(.ref (x0 + 1)), (.ref x0)]) (mem1 := m) rfl rfl rfl rfl ?_
        refine it_V.getP it_cd183 it_m183 rfl (hx0).2.1 rfl ?_
        refine it_V.at (pc1 := 96) (ls1 := [some (.ref 64), some (.ref x0), some (.int (m (x0 + 2) (Int32.toNatClampNeg (11 : Int32))))]) (st1 := [(.int (m (x0 + 1) 1)), (.ref x0)]) (mem1 := m) rfl rfl rfl rfl ?_
        refine it_V.call it_cd183 it_m183 rfl it_m139 [(.ref x0), (.int (m (x0 + 1) 1))] [] rfl rfl ⟨Nat.le_of_ble_eq_true rfl, Nat.le_of_ble_eq_true rfl, Nat.le_of_ble_eq_true rfl, Nat.le_of_ble_eq_true rfl, (it_recvP (hx0).1)⟩ (s_139 kc x0 (m (x0 + 1) 1) (hx0) m _ h) ?_
        rintro _ m8 ⟨rfl, h⟩
        refine it_V.at (pc1 := 99) (ls1 := [some (.ref 64), some (.ref x0), some (.int (m (x0 + 2) (Int32.toNatClampNeg (11 : Int32))))]) (st1 := []) (mem1 := m8) rfl rfl rfl rfl ?_
        refine it_V.sN it_cd183 it_m183 1 (pc1 := 163) (ls1 := [some (.ref 64), some (.ref x0), some (.int (m (x0 + 2) (Int32.toNatClampNeg (11 : Int32))))]) (st1 := []) (mem1 := m8) rfl ?_
        refine it_V.weak (l := [none, none, none]) trivial ?_
        exact s_183_163 kc Φ m8 h
      · have h := h.2 c7
        refine it_V.ite (fun c9 => ?_) (fun c9 => ?_)
        · have h := h.1 c9
          refine it_V.sN it_cd183 it_m183 2 (pc1 := 104) (ls1 := [some (.ref 64), some (.ref x0), some (.int (m (x0 + 2) (Int32.toNatClampNeg (11 : Int32))))]) (st1 := [(.ref x0), (.ref x0)]) (mem1 := m) rfl ?_
          refine it_V.getP it_cd183 it_m183 rfl (hx0).1 rfl ?_
          refine it_V.at (pc1 := 107) (ls1 := [some (.ref 64), some (.ref x0), some (.int (m (x0 + 2) (Int32.toNatClampNeg (11 : Int32))))]) (st1 := [(.ref (x0 + 1)), (.ref x0)]) (mem1 := m) rfl rfl rfl rfl ?_
          refine it_V.getP it_cd183 it_m183 rfl (hx0).2.1 rfl ?_
          refine it_V.at (pc1 := 110) (ls1 := [some (.ref 64), some (.ref x0), some (.int (m (x0 + 2) (Int32.toNatClampNeg (11 : Int32))))]) (st1 := [(.int (m (x0 + 1) 1)), (.ref x0)]) (mem1 := m) rfl rfl rfl rfl ?_
          refine it_V.sN it_cd183 it_m183 1 (pc1 := 111) (ls1 := [some (.ref 64), some (.ref x0), some (.int (m (x0 + 2) (Int32.toNatClampNeg (11 : Int32))))]) (st1 := [(.ref x0), (.int (m (x0 + 1) 1)), (.ref x0)]) (mem1 := m) rfl ?_
          refine it_V.getP it_cd183 it_m183 rfl (hx0).1 rfl ?_
          refine it_V.at (pc1 := 114) (ls1 := [some (.ref 64), some (.ref x0), some (.int (m (x0 + 2) (Int32.toNatClampNeg (11 : Int32))))]) (st1 := [(.ref (x0 + 1)), (.int (m (x0 + 1) 1)), (.ref x0)]) (mem1 := m) rfl rfl rfl rfl ?_
          refine it_V.getP it_cd183 it_m183 rfl (hx0).2.1 rfl ?_
          refine it_V.at (pc1 := 117) (ls1 := [some (.ref 64), some (.ref x0), some (.int (m (x0 + 2) (Int32.toNatClampNeg (11 : Int32))))]) (st1 := [(.int (m (x0 + 1) 3)), (.int (m (x0 + 1) 1)), (.ref x0)]) (mem1 := m) rfl rfl rfl rfl ?_
          refine it_V.sN it_cd183 it_m183 1 (pc1 := 118) (ls1 := [some (.ref 64), some (.ref x0), some (.int (m (x0 + 2) (Int32.toNatClampNeg (11 : Int32))))]) (st1 := [(.int ((m (x0 + 1) 1) + (m (x0 + 1) 3))), (.ref x0)]) (mem1 := m) rfl ?_
          refine it_V.call it_cd183 it_m183 rfl it_m139 [(.ref x0), (.int ((m (x0 + 1) 1) + (m (x0 + 1) 3)))] [] rfl rfl ⟨Nat.le_of_ble_eq_true rfl, Nat.le_of_ble_eq_true rfl, Nat.le_of_ble_eq_true rfl, Nat.le_of_ble_eq_true rfl, (it_recvP (hx0).1)⟩ (s_139 kc x0 ((m (x0 + 1) 1) + (m (x0 + 1) 3)) (hx0) m _ h) ?_
          rintro _ m10 ⟨rfl, h⟩
          refine it_V.at (pc1 := 121) (ls1 := [some (.ref 64), some (.ref x0), some (.int (m (x0 + 2) (Int32.toNatClampNeg (11 : Int32))))]) (st1 := []) (mem1 := m10) rfl rfl rfl rfl ?_
          refine it_V.sN it_cd183 it_m183 1 (pc1 := 163) (ls1 := [some (.ref 64), some (.ref x0), some (.int (m (x0 + 2) (Int32.toNatClampNeg (11 : Int32))))]) (st1 := []) (mem1 := m10) rfl ?_
          refine it_V.weak (l := [none, none, none]) trivial ?_
          exact s_183_163 kc Φ m10 h
        · have h := h.2 c9
          refine it_V.ite (fun c11 => ?_) (fun c11 => ?_)
          · have h := h.1 c11
            refine it_V.sN it_cd183 it_m183 2 (pc1 := 126) (ls1 := [some (.ref 64), some (.ref x0), some (.int (m (x0 + 2) (Int32.toNatClampNeg (11 : Int32))))]) (st1 := [(.ref x0), (.ref x0)]) (mem1 := m) rfl ?_
            refine it_V.getP it_cd183 it_m183 rfl (hx0).1 rfl ?_
            refine it_V.at (pc1 := 129) (ls1 := [some (.ref 64), some (.ref x0), some (.int (m (x0 + 2) (Int32.toNatClampNeg (11 : Int32))))]) (st1 := [(.int (m x0 5)), (.ref x0)]) (mem1 := m) rfl rfl rfl rfl ?_
            refine it_V.call it_cd183 it_m183 rfl it_m139 [(.ref x0), (.int (m x0 5))] [] rfl rfl ⟨Nat.le_of_ble_eq_true rfl, Nat.le_of_ble_eq_true rfl, Nat.le_of_ble_eq_true rfl, Nat.le_of_ble_eq_true rfl, (it_recvP (hx0).1)⟩ (s_139 kc x0 (m x0 5) (hx0) m _ h) ?_
            rintro _ m12 ⟨rfl, h⟩
            refine it_V.at (pc1 := 132) (ls1 := [some (.ref 64), some (.ref x0), some (.int (m (x0 + 2) (Int32.toNatClampNeg (11 : Int32))))]) (st1 := []) (mem1 := m12) rfl rfl rfl rfl ?_
            refine it_V.sN it_cd183 it_m183 1 (pc1 := 163) (ls1 := [some (.ref 64), some (.ref x0), some (.int (m (x0 + 2) (Int32.toNatClampNeg (11 : Int32))))]) (st1 := []) (mem1 := m12) rfl ?_
            refine it_V.weak (l := [none, none, none]) trivial ?_
            exact s_183_163 kc Φ m12 h
          · have h := h.2 c11
            refine it_V.ite (fun c13 => ?_) (fun c13 => ?_)
            · have h := h.1 c13
              refine it_V.sN it_cd183 it_m183 2 (pc1 := 137) (ls1 := [some (.ref 64), some (.ref x0), some (.int (m (x0 + 2) (Int32.toNatClampNeg (11 : Int32))))]) (st1 := [(.ref x0), (.ref x0)]) (mem1 := m) rfl ?_
              refine it_V.getP it_cd183 it_m183 rfl (hx0).1 rfl ?_
              refine it_V.at (pc1 := 140) (ls1 := [some (.ref 64), some (.ref x0), some (.int (m (x0 + 2) (Int32.toNatClampNeg (11 : Int32))))]) (st1 := [(.int (m x0 7)), (.ref x0)]) (mem1 := m) rfl rfl rfl rfl ?_
              refine it_V.call it_cd183 it_m183 rfl it_m139 [(.ref x0), (.int (m x0 7))] [] rfl rfl ⟨Nat.le_of_ble_eq_true rfl, Nat.le_of_ble_eq_true rfl, Nat.le_of_ble_eq_true rfl, Nat.le_of_ble_eq_true rfl, (it_recvP (hx0).1)⟩ (s_139 kc x0 (m x0 7) (hx0) m _ h) ?_
              rintro _ m14 ⟨rfl, h⟩
              refine it_V.at (pc1 := 143) (ls1 := [some (.ref 64), some (.ref x0), some (.int (m (x0 + 2) (Int32.toNatClampNeg (11 : Int32))))]) (st1 := []) (mem1 := m14) rfl rfl rfl rfl ?_
              refine it_V.sN it_cd183 it_m183 1 (pc1 := 163) (ls1 := [some (.ref 64), some (.ref x0), some (.int (m (x0 + 2) (Int32.toNatClampNeg (11 : Int32))))]) (st1 := []) (mem1 := m14) rfl ?_
              refine it_V.weak (l := [none, none, none]) trivial ?_
              exact s_183_163 kc Φ m14 h
            · have h := h.2 c13
              refine it_V.ite (fun c15 => ?_) (fun c15 => ?_)
              · have h := h.1 c15
                refine it_V.sN it_cd183 it_m183 2 (pc1 := 148) (ls1 := [some (.ref 64), some (.ref x0), some (.int (m (x0 + 2) (Int32.toNatClampNeg (11 : Int32))))]) (st1 := [(.ref x0), (.ref x0)]) (mem1 := m) rfl ?_
                refine it_V.getP it_cd183 it_m183 rfl (hx0).1 rfl ?_
                refine it_V.at (pc1 := 151) (ls1 := [some (.ref 64), some (.ref x0), some (.int (m (x0 + 2) (Int32.toNatClampNeg (11 : Int32))))]) (st1 := [(.int (m x0 8)), (.ref x0)]) (mem1 := m) rfl rfl rfl rfl ?_
                refine it_V.call it_cd183 it_m183 rfl it_m139 [(.ref x0), (.int (m x0 8))] [] rfl rfl ⟨Nat.le_of_ble_eq_true rfl, Nat.le_of_ble_eq_true rfl, Nat.le_of_ble_eq_true rfl, Nat.le_of_ble_eq_true rfl, (it_recvP (hx0).1)⟩ (s_139 kc x0 (m x0 8) (hx0) m _ h) ?_
                rintro _ m16 ⟨rfl, h⟩
                refine it_V.at (pc1 := 154) (ls1 := [some (.ref 64), some (.ref x0), some (.int (m (x0 + 2) (Int32.toNatClampNeg (11 : Int32))))]) (st1 := []) (mem1 := m16) rfl rfl rfl rfl ?_
                refine it_V.sN it_cd183 it_m183 1 (pc1 := 163) (ls1 := [some (.ref 64), some (.ref x0), some (.int (m (x0 + 2) (Int32.toNatClampNeg (11 : Int32))))]) (st1 := []) (mem1 := m16) rfl ?_
                refine it_V.weak (l := [none, none, none]) trivial ?_
                exact s_183_163 kc Φ m16 h
              · have h := h.2 c15
                refine it_V.sN it_cd183 it_m183 2 (pc1 := 160) (ls1 := [some (.ref 64), some (.ref x0), some (.int (m (x0 + 2) (Int32.toNatClampNeg (11 : Int32))))]) (st1 := [(.int (10 : Int32)), (.ref x0)]) (mem1 := m) rfl ?_
                refine it_V.call it_cd183 it_m183 rfl it_m136 [(.ref x0), (.int (10 : Int32))] [] rfl rfl ⟨Nat.le_of_ble_eq_true rfl, Nat.le_of_ble_eq_true rfl, Nat.le_of_ble_eq_true rfl, Nat.le_of_ble_eq_true rfl, (it_recvP (hx0).1)⟩ (s_136 kc x0 (10 : Int32) (hx0) m _ h) ?_
                rintro _ m17 ⟨rfl, h⟩
                refine it_V.at (pc1 := 163) (ls1 := [some (.ref 64), some (.ref x0), some (.int (m (x0 + 2) (Int32.toNatClampNeg (11 : Int32))))]) (st1 := []) (mem1 := m17) rfl rfl rfl rfl ?_
                refine it_V.weak (l := [none, none, none]) trivial ?_
                exact s_183_163 kc Φ m17 h
set_option maxRecDepth 100000 in
set_option maxHeartbeats 4000000 in
theorem s_185_67 (kc : it_Kc) (Φ : it_Me → Prop) (m : it_Me) (h : w_185_67 kc Φ m) : it_V kc it_sh0 185 67 [none, none] [] m (it_Pv Φ) := by
  rw [w_185_67] at h
  exact it_V.ret it_cd185 it_m185 rfl rfl ⟨rfl, h⟩
set_option maxRecDepth 100000 in
set_option maxHeartbeats 4000000 in
theorem s_185 (kc : it_Kc) (x0 : Nat) (hx0 : it_isP x0) (m : it_Me) (Φ : it_Me → Prop) (h : w_185 kc x0 m Φ) : it_V kc it_sh0 185 0 (it_loc0 [(.ref 64), (.ref x0)] 2) [] m (it_Pv Φ) := by
  rw [w_185] at h
  refine it_V.at (pc1 := 0) (ls1 := [some (.ref 64), some (.ref x0)]) (st1 := []) (mem1 := m) rfl rfl rfl rfl ?_
  refine it_V.sN it_cd185 it_m185 1 (pc1 := 1) (ls1 := [some (.ref 64), some (.ref x0)]) (st1 := [(.ref x0)]) (mem1 := m) rfl ?_
  refine it_V.getP it_cd185 it_m185 rfl (hx0).1 rfl ?_
  refine it_V.at (pc1 := 4) (ls1 := [some (.ref 64), some (.ref x0)]) (st1 := [(.ref (x0 + 2))]) (mem1 := m) rfl rfl rfl rfl ?_
  refine it_V.sN it_cd185 it_m185 1 (pc1 := 6) (ls1 := [some (.ref 64), some (.ref x0)]) (st1 := [(.int (10 : Int32)), (.ref (x0 + 2))]) (mem1 := m) rfl ?_
  obtain ⟨g1, h⟩ := h
  refine it_V.iald it_cd185 it_m185 rfl ((hx0).2.2.1).2 ((hx0).2.2.1).1 g1 ?_
  refine it_V.at (pc1 := 7) (ls1 := [some (.ref 64), some (.ref x0)]) (st1 := [(.int (m (x0 + 2) (Int32.toNatClampNeg (10 : Int32))))]) (mem1 := m) rfl rfl rfl rfl ?_
  refine it_V.sN it_cd185 it_m185 1 (pc1 := (if (m (x0 + 2) (Int32.toNatClampNeg (10 : Int32))) = (0 : Int32) then 32 else (if (m (x0 + 2) (Int32.toNatClampNeg (10 : Int32))) = (1 : Int32) then 50 else 61))) (ls1 := [some (.ref 64), some (.ref x0)]) (st1 := []) (mem1 := m) rfl ?_
  refine it_V.ite (fun c2 => ?_) (fun c2 => ?_)
  · have h := h.1 c2
    refine it_V.sN it_cd185 it_m185 4 (pc1 := 38) (ls1 := [some (.ref 64), some (.ref x0)]) (st1 := [(.ref x0), (.ref x0), (.ref 9)]) (mem1 := m) rfl ?_
    refine it_V.getP it_cd185 it_m185 rfl (hx0).1 rfl ?_
    refine it_V.at (pc1 := 41) (ls1 := [some (.ref 64), some (.ref x0)]) (st1 := [(.ref (x0 + 2)), (.ref x0), (.ref 9)]) (mem1 := m) rfl rfl rfl rfl ?_
    refine it_V.sN it_cd185 it_m185 1 (pc1 := 43) (ls1 := [some (.ref 64), some (.ref x0)]) (st1 := [(.int (11 : Int32)), (.ref (x0 + 2)), (.ref x0), (.ref 9)]) (mem1 := m) rfl ?_
    obtain ⟨g3, h⟩ := h
    refine it_V.iald it_cd185 it_m185 rfl ((hx0).2.2.1).2 ((hx0).2.2.1).1 g3 ?_
    refine it_V.at (pc1 := 44) (ls1 := [some (.ref 64), some (.ref x0)]) (st1 := [(.int (m (x0 + 2) (Int32.toNatClampNeg (11 : Int32)))), (.ref x0), (.ref 9)]) (mem1 := m) rfl rfl rfl rfl ?_
    refine it_V.call it_cd185 it_m185 rfl it_m78 [(.ref 9), (.ref x0), (.int (m (x0 + 2) (Int32.toNatClampNeg (11 : Int32))))] [] rfl rfl ⟨Nat.le_of_ble_eq_true rfl, Nat.le_of_ble_eq_true rfl, Nat.le_of_ble_eq_true rfl, Nat.le_of_ble_eq_true rfl, rfl⟩ (s_78 kc x0 (m (x0 + 2) (Int32.toNatClampNeg (11 : Int32))) (hx0) m _ h) ?_
    rintro _ m4 ⟨rfl, h⟩
    refine it_V.at (pc1 := 47) (ls1 := [some (.ref 64), some (.ref x0)]) (st1 := []) (mem1 := m4) rfl rfl rfl rfl ?_
    refine it_V.sN it_cd185 it_m185 1 (pc1 := 67) (ls1 := [some (.ref 64), some (.ref x0)]) (st1 := []) (mem1 := m4) rfl ?_
    refine it_V.weak (l := [none, none]) trivial ?_
    exact s_185_67 kc Φ m4 h
  · have h := h.2 c2
    refine it_V.ite (fun c5 => ?_) (fun c5 => ?_)
    · have h := h.1 c5
      refine it_V.sN it_cd185 it_m185 3 (pc1 := 55) (ls1 := [some (.ref 64), some (.ref x0)]) (st1 := [(.ref x0), (.ref 9)]) (mem1 := m) rfl ?_
      refine it_V.call it_cd185 it_m185 rfl it_m76 [(.ref 9), (.ref x0)] [] rfl rfl ⟨Nat.le_of_ble_eq_true rfl, Nat.le_of_ble_eq_true rfl, Nat.le_of_ble_eq_true rfl, Nat.le_of_ble_eq_true rfl, rfl⟩ (s_76 kc x0 (hx0) m _ h) ?_
      rintro _ m6 ⟨rfl, h⟩
      refine it_V.at (pc1 := 58) (ls1 := [some (.ref 64), some (.ref x0)]) (st1 := []) (mem1 := m6) rfl rfl rfl rfl ?_
      refine it_V.sN it_cd185 it_m185 1 (pc1 := 67) (ls1 := [some (.ref 64), some (.ref x0)]) (st1 := []) (mem1 := m6) rfl ?_
      refine it_V.weak (l := [none, none]) trivial ?_
      exact s_185_67 kc Φ m6 h
    · have h := h.2 c5
      refine it_V.sN it_cd185 it_m185 2 (pc1 := 64) (ls1 := [some (.ref 64), some (.ref x0)]) (st1 := [(.int (10 : Int32)), (.ref x0)]) (mem1 := m) rfl ?_
      refine it_V.call it_cd185 it_m185 rfl it_m136 [(.ref x0), (.int (10 : Int32))] [] rfl rfl ⟨Nat.le_of_ble_eq_true rfl, Nat.le_of_ble_eq_true rfl, Nat.le_of_ble_eq_true rfl, Nat.le_of_ble_eq_true rfl, (it_recvP (hx0).1)⟩ (s_136 kc x0 (10 : Int32) (hx0) m _ h) ?_
      rintro _ m7 ⟨rfl, h⟩
      refine it_V.at (pc1 := 67) (ls1 := [some (.ref 64), some (.ref x0)]) (st1 := []) (mem1 := m7) rfl rfl rfl rfl ?_
      refine it_V.weak (l := [none, none]) trivial ?_
      exact s_185_67 kc Φ m7 h
