/-! The formulas are sound for the small machine. Written by wip/whole/gen_wp.py, split_wp.py -/
set_option maxRecDepth 100000 in
set_option maxHeartbeats 4000000 in
theorem s_327_41 (kc : it_Kc) (Φ : it_Me → Prop) (v1 : Int32) (v2 : Int32) (m : it_Me) (h : w_327_41 kc Φ v1 v2 m) : it_V kc it_sh0 327 41 [some (.ref 66), some (.int v1), some (.int v2), none, none, none, none, none] [] m (it_Pv Φ) := by
  rw [w_327_41] at h
  refine it_V.sN it_cd327 it_m327 3 (pc1 := 44) (ls1 := [some (.ref 66), some (.int v1), some (.int v2), none, none, none, none, none]) (st1 := [(.int v2), (.int v1), (.ref 66)]) (mem1 := m) rfl ?_
  refine it_V.call it_cd327 it_m327 rfl it_m321 [(.ref 66), (.int v1), (.int v2)] [] rfl rfl ⟨Nat.le_of_ble_eq_true rfl, Nat.le_of_ble_eq_true rfl, Nat.le_of_ble_eq_true rfl, Nat.le_of_ble_eq_true rfl, rfl⟩ (s_321 kc v1 v2 m _ h) ?_
  rintro _ m1 ⟨rfl, h⟩
  refine it_V.at (pc1 := 47) (ls1 := [some (.ref 66), some (.int v1), some (.int v2), none, none, none, none, none]) (st1 := []) (mem1 := m1) rfl rfl rfl rfl ?_
  exact it_V.ret it_cd327 it_m327 rfl rfl ⟨rfl, h⟩
set_option maxRecDepth 100000 in
set_option maxHeartbeats 4000000 in
theorem s_327_72 (kc : it_Kc) (Φ : it_Me → Prop) (v5 : Int32) (v6 : Int32) (u1 : Int32) (u2 : Int32) (u4 : Int32) (u5 : Int32) (m : it_Me) (h : w_327_72 kc Φ v5 v6 u1 u2 u4 u5 m) : it_V kc it_sh0 327 72 [none, none, none, none, none, some (.int v5), some (.int v6), none] [(.int u5), (.int u4), (.ref 66), (.int u2), (.int u1), (.ref 66)] m (it_Pv Φ) := by
  rw [w_327_72] at h
  refine it_V.sN it_cd327 it_m327 2 (pc1 := 76) (ls1 := [none, none, none, none, none, some (.int v5), some (.int v6), none]) (st1 := [(.int v6), (.int v5), (.int u5), (.int u4), (.ref 66), (.int u2), (.int u1), (.ref 66)]) (mem1 := m) rfl ?_
  refine it_V.call it_cd327 it_m327 rfl it_m328 [(.ref 66), (.int u4), (.int u5), (.int v5), (.int v6)] [(.int u2), (.int u1), (.ref 66)] rfl rfl ⟨Nat.le_of_ble_eq_true rfl, Nat.le_of_ble_eq_true rfl, Nat.le_of_ble_eq_true rfl, Nat.le_of_ble_eq_true rfl, rfl⟩ (s_328 kc u4 u5 v5 v6 m _ h) ?_
  rintro _ m2 ⟨r1, rfl, h⟩
  refine it_V.at (pc1 := 79) (ls1 := [none, none, none, none, none, some (.int v5), some (.int v6), none]) (st1 := [(.int r1), (.int u2), (.int u1), (.ref 66)]) (mem1 := m2) rfl rfl rfl rfl ?_
  refine it_V.call it_cd327 it_m327 rfl it_m323 [(.ref 66), (.int u1), (.int u2), (.int r1)] [] rfl rfl ⟨Nat.le_of_ble_eq_true rfl, Nat.le_of_ble_eq_true rfl, Nat.le_of_ble_eq_true rfl, Nat.le_of_ble_eq_true rfl, rfl⟩ (s_323 kc u1 u2 r1 m2 _ h) ?_
  rintro _ m3 ⟨rfl, h⟩
  refine it_V.at (pc1 := 82) (ls1 := [none, none, none, none, none, some (.int v5), some (.int v6), none]) (st1 := []) (mem1 := m3) rfl rfl rfl rfl ?_
  exact it_V.ret it_cd327 it_m327 rfl rfl ⟨rfl, h⟩
set_option maxRecDepth 100000 in
set_option maxHeartbeats 4000000 in
theorem s_327_71 (kc : it_Kc) (Φ : it_Me → Prop) (v5 : Int32) (v6 : Int32) (u1 : Int32) (u2 : Int32) (u4 : Int32) (m : it_Me) (h : w_327_71 kc Φ v5 v6 u1 u2 u4 m) : it_V kc it_sh0 327 71 [none, none, none, none, none, some (.int v5), some (.int v6), none] [(.int u4), (.ref 66), (.int u2), (.int u1), (.ref 66)] m (it_Pv Φ) := by
  rw [w_327_71] at h
  refine it_V.sN it_cd327 it_m327 1 (pc1 := 72) (ls1 := [none, none, none, none, none, some (.int v5), some (.int v6), none]) (st1 := [(.int (0 : Int32)), (.int u4), (.ref 66), (.int u2), (.int u1), (.ref 66)]) (mem1 := m) rfl ?_
  refine it_V.weak (l := [none, none, none, none, none, some (.int v5), some (.int v6), none]) ⟨rfl, ⟨rfl, trivial⟩⟩ ?_
  exact s_327_72 kc Φ v5 v6 u1 u2 u4 (0 : Int32) m h
set_option maxRecDepth 100000 in
set_option maxHeartbeats 4000000 in
theorem s_327_48 (kc : it_Kc) (Φ : it_Me → Prop) (v1 : Int32) (v3 : Int32) (v4 : Int32) (v5 : Int32) (v6 : Int32) (v7 : Int32) (m : it_Me) (h : w_327_48 kc Φ v1 v3 v4 v5 v6 v7 m) : it_V kc it_sh0 327 48 [some (.ref 66), some (.int v1), none, some (.int v3), some (.int v4), some (.int v5), some (.int v6), some (.int v7)] [] m (it_Pv Φ) := by
  rw [w_327_48] at h
  refine it_V.sN it_cd327 it_m327 8 (pc1 := (if v4 = (5 : Int32) then 60 else 71)) (ls1 := [some (.ref 66), some (.int v1), none, some (.int v3), some (.int v4), some (.int v5), some (.int v6), some (.int v7)]) (st1 := [(.int v4), (.ref 66), (.int v3), (.int v1), (.ref 66)]) (mem1 := m) rfl ?_
  refine it_V.ite (fun c1 => ?_) (fun c1 => ?_)
  · have h := h.1 c1
    refine it_V.sN it_cd327 it_m327 3 (pc1 := (if v7 = (32 : Int32) then 67 else 71)) (ls1 := [some (.ref 66), some (.int v1), none, some (.int v3), some (.int v4), some (.int v5), some (.int v6), some (.int v7)]) (st1 := [(.int v4), (.ref 66), (.int v3), (.int v1), (.ref 66)]) (mem1 := m) rfl ?_
    refine it_V.ite (fun c2 => ?_) (fun c2 => ?_)
    · have h := h.1 c2
      refine it_V.sN it_cd327 it_m327 2 (pc1 := 72) (ls1 := [some (.ref 66), some (.int v1), none, some (.int v3), some (.int v4), some (.int v5), some (.int v6), some (.int v7)]) (st1 := [(.int (1 : Int32)), (.int v4), (.ref 66), (.int v3), (.int v1), (.ref 66)]) (mem1 := m) rfl ?_
      refine it_V.weak (l := [none, none, none, none, none, some (.int v5), some (.int v6), none]) ⟨rfl, ⟨rfl, trivial⟩⟩ ?_
      exact s_327_72 kc Φ v5 v6 v1 v3 v4 (1 : Int32) m h
    · have h := h.2 c2
      refine it_V.weak (l := [none, none, none, none, none, some (.int v5), some (.int v6), none]) ⟨rfl, ⟨rfl, trivial⟩⟩ ?_
      exact s_327_71 kc Φ v5 v6 v1 v3 v4 m h
  · have h := h.2 c1
    refine it_V.weak (l := [none, none, none, none, none, some (.int v5), some (.int v6), none]) ⟨rfl, ⟨rfl, trivial⟩⟩ ?_
    exact s_327_71 kc Φ v5 v6 v1 v3 v4 m h
set_option maxRecDepth 100000 in
set_option maxHeartbeats 4000000 in
theorem s_327_23 (kc : it_Kc) (Φ : it_Me → Prop) (v1 : Int32) (v2 : Int32) (v3 : Int32) (v4 : Int32) (v5 : Int32) (v6 : Int32) (v7 : Int32) (m : it_Me) (h : w_327_23 kc Φ v1 v2 v3 v4 v5 v6 v7 m) : it_V kc it_sh0 327 23 [some (.ref 66), some (.int v1), some (.int v2), some (.int v3), some (.int v4), some (.int v5), some (.int v6), some (.int v7)] [] m (it_Pv Φ) := by
  rw [w_327_23] at h
  refine it_V.sN it_cd327 it_m327 3 (pc1 := (if v4 = (5 : Int32) then 29 else 48)) (ls1 := [some (.ref 66), some (.int v1), some (.int v2), some (.int v3), some (.int v4), some (.int v5), some (.int v6), some (.int v7)]) (st1 := []) (mem1 := m) rfl ?_
  refine it_V.ite (fun c1 => ?_) (fun c1 => ?_)
  · have h := h.1 c1
    refine it_V.sN it_cd327 it_m327 2 (pc1 := (if v7 = 0 then 48 else 34)) (ls1 := [some (.ref 66), some (.int v1), some (.int v2), some (.int v3), some (.int v4), some (.int v5), some (.int v6), some (.int v7)]) (st1 := []) (mem1 := m) rfl ?_
    refine it_V.ite (fun c2 => ?_) (fun c2 => ?_)
    · have h := h.1 c2
      refine it_V.weak (l := [some (.ref 66), some (.int v1), none, some (.int v3), some (.int v4), some (.int v5), some (.int v6), some (.int v7)]) ⟨rfl, ⟨rfl, ⟨rfl, ⟨rfl, ⟨rfl, ⟨rfl, ⟨rfl, trivial⟩⟩⟩⟩⟩⟩⟩ ?_
      exact s_327_48 kc Φ v1 v3 v4 v5 v6 v7 m h
    · have h := h.2 c2
      refine it_V.sN it_cd327 it_m327 3 (pc1 := (if v7 = (32 : Int32) then 48 else 41)) (ls1 := [some (.ref 66), some (.int v1), some (.int v2), some (.int v3), some (.int v4), some (.int v5), some (.int v6), some (.int v7)]) (st1 := []) (mem1 := m) rfl ?_
      refine it_V.ite (fun c3 => ?_) (fun c3 => ?_)
      · have h := h.1 c3
        refine it_V.weak (l := [some (.ref 66), some (.int v1), none, some (.int v3), some (.int v4), some (.int v5), some (.int v6), some (.int v7)]) ⟨rfl, ⟨rfl, ⟨rfl, ⟨rfl, ⟨rfl, ⟨rfl, ⟨rfl, trivial⟩⟩⟩⟩⟩⟩⟩ ?_
        exact s_327_48 kc Φ v1 v3 v4 v5 v6 v7 m h
      · have h := h.2 c3
        refine it_V.weak (l := [some (.ref 66), some (.int v1), some (.int v2), none, none, none, none, none]) ⟨rfl, ⟨rfl, ⟨rfl, trivial⟩⟩⟩ ?_
        exact s_327_41 kc Φ v1 v2 m h
  · have h := h.2 c1
    refine it_V.weak (l := [some (.ref 66), some (.int v1), none, some (.int v3), some (.int v4), some (.int v5), some (.int v6), some (.int v7)]) ⟨rfl, ⟨rfl, ⟨rfl, ⟨rfl, ⟨rfl, ⟨rfl, ⟨rfl, trivial⟩⟩⟩⟩⟩⟩⟩ ?_
    exact s_327_48 kc Φ v1 v3 v4 v5 v6 v7 m h
set_option maxRecDepth 100000 in
set_option maxHeartbeats 4000000 in
theorem s_327 (kc : it_Kc) (x0 : Int32) (x1 : Int32) (x2 : Int32) (x3 : Int32) (x4 : Int32) (m : it_Me) (Φ : it_Me → Prop) (h : w_327 kc x0 x1 x2 x3 x4 m Φ) : it_V kc it_sh0 327 0 (it_loc0 [(.ref 66), (.int x0), (.int x1), (.int x2), (.int x3), (.int x4)] 8) [] m (it_Pv Φ) := by
  rw [w_327] at h
  refine it_V.at (pc1 := 0) (ls1 := [some (.ref 66), some (.int x0), some (.int x1), some (.int x2), some (.int x3), some (.int x4), none, none]) (st1 := []) (mem1 := m) rfl rfl rfl rfl ?_
  refine it_V.sN it_cd327 it_m327 11 (pc1 := (if x3 = (1 : Int32) then 18 else 23)) (ls1 := [some (.ref 66), some (.int x0), some (.int x1), some (.int x2), some (.int x3), some (.int x4), some (.int (it_shr x1 (20 : Int32))), some (.int (it_us x1 (25 : Int32)))]) (st1 := []) (mem1 := m) rfl ?_
  refine it_V.ite (fun c1 => ?_) (fun c1 => ?_)
  · have h := h.1 c1
    refine it_V.sN it_cd327 it_m327 2 (pc1 := (if (it_us x1 (25 : Int32)) = 0 then 23 else 41)) (ls1 := [some (.ref 66), some (.int x0), some (.int x1), some (.int x2), some (.int x3), some (.int x4), some (.int (it_shr x1 (20 : Int32))), some (.int (it_us x1 (25 : Int32)))]) (st1 := []) (mem1 := m) rfl ?_
    refine it_V.ite (fun c2 => ?_) (fun c2 => ?_)
    · have h := h.1 c2
      exact s_327_23 kc Φ x0 x1 x2 x3 x4 (it_shr x1 (20 : Int32)) (it_us x1 (25 : Int32)) m h
    · have h := h.2 c2
      refine it_V.weak (l := [some (.ref 66), some (.int x0), some (.int x1), none, none, none, none, none]) ⟨rfl, ⟨rfl, ⟨rfl, trivial⟩⟩⟩ ?_
      exact s_327_41 kc Φ x0 x1 m h
  · have h := h.2 c1
    exact s_327_23 kc Φ x0 x1 x2 x3 x4 (it_shr x1 (20 : Int32)) (it_us x1 (25 : Int32)) m h
set_option maxRecDepth 100000 in
set_option maxHeartbeats 4000000 in
theorem s_330_117 (kc : it_Kc) (Φ : Int32 → it_Me → Prop) (u0 : Int32) (m : it_Me) (h : w_330_117 kc Φ u0 m) : it_V kc it_sh0 330 117 [none, none, none, none] [(.int u0)] m (it_Pi Φ) := by
  rw [w_330_117] at h
  exact it_V.ret it_cd330 it_m330 rfl rfl ⟨_, rfl, h⟩
set_option maxRecDepth 100000 in
set_option maxHeartbeats 4000000 in
theorem s_330_114 (kc : it_Kc) (Φ : Int32 → it_Me → Prop) (v2 : Int32) (v3 : Int32) (m : it_Me) (h : w_330_114 kc Φ v2 v3 m) : it_V kc it_sh0 330 114 [none, none, some (.int v2), some (.int v3)] [] m (it_Pi Φ) := by
  rw [w_330_114] at h
  refine it_V.sN it_cd330 it_m330 2 (pc1 := 116) (ls1 := [none, none, some (.int v2), some (.int v3)]) (st1 := [(.int v3), (.int v2)]) (mem1 := m) rfl ?_
  obtain ⟨g1, h⟩ := h
  refine it_V.s1 it_cd330 it_m330 (pc1 := 117) (ls1 := [none, none, some (.int v2), some (.int v3)]) (st1 := [(.int (v2 / v3))]) (mem1 := m) (by simp only [it_s1, show it_lk it_c330 116 = some (0, .idiv, 0, 0) from rfl, it_ops, if_neg g1]; rfl) ?_
  refine it_V.weak (l := [none, none, none, none]) trivial ?_
  exact s_330_117 kc Φ (v2 / v3) m h
set_option maxRecDepth 100000 in
set_option maxHeartbeats 4000000 in
theorem s_330_140 (kc : it_Kc) (Φ : Int32 → it_Me → Prop) (u0 : Int32) (m : it_Me) (h : w_330_140 kc Φ u0 m) : it_V kc it_sh0 330 140 [none, none, none, none] [(.int u0)] m (it_Pi Φ) := by
  rw [w_330_140] at h
  exact it_V.ret it_cd330 it_m330 rfl rfl ⟨_, rfl, h⟩
set_option maxRecDepth 100000 in
set_option maxHeartbeats 4000000 in
theorem s_330_161 (kc : it_Kc) (Φ : Int32 → it_Me → Prop) (u0 : Int32) (m : it_Me) (h : w_330_161 kc Φ u0 m) : it_V kc it_sh0 330 161 [none, none, none, none] [(.int u0)] m (it_Pi Φ) := by
  rw [w_330_161] at h
  exact it_V.ret it_cd330 it_m330 rfl rfl ⟨_, rfl, h⟩
set_option maxRecDepth 100000 in
set_option maxHeartbeats 4000000 in
theorem s_330_184 (kc : it_Kc) (Φ : Int32 → it_Me → Prop) (u0 : Int32) (m : it_Me) (h : w_330_184 kc Φ u0 m) : it_V kc it_sh0 330 184 [none, none, none, none] [(.int u0)] m (it_Pi Φ) := by
  rw [w_330_184] at h
  exact it_V.ret it_cd330 it_m330 rfl rfl ⟨_, rfl, h⟩
set_option maxRecDepth 100000 in
set_option maxHeartbeats 4000000 in
theorem s_330 (kc : it_Kc) (x0 : Int32) (x1 : Int32) (x2 : Int32) (m : it_Me) (Φ : Int32 → it_Me → Prop) (h : w_330 kc x0 x1 x2 m Φ) : it_V kc it_sh0 330 0 (it_loc0 [(.ref 66), (.int x0), (.int x1), (.int x2)] 4) [] m (it_Pi Φ) := by
  rw [w_330] at h
  refine it_V.at (pc1 := 0) (ls1 := [some (.ref 66), some (.int x0), some (.int x1), some (.int x2)]) (st1 := []) (mem1 := m) rfl rfl rfl rfl ?_
  refine it_V.sN it_cd330 it_m330 1 (pc1 := 1) (ls1 := [some (.ref 66), some (.int x0), some (.int x1), some (.int x2)]) (st1 := [(.int x0)]) (mem1 := m) rfl ?_
  refine it_V.sN it_cd330 it_m330 1 (pc1 := (if x0 = (0 : Int32) then 44 else (if x0 = (1 : Int32) then 48 else (if x0 = (2 : Int32) then 58 else (if x0 = (3 : Int32) then 72 else (if x0 = (4 : Int32) then 90 else (if x0 = (5 : Int32) then 118 else (if x0 = (6 : Int32) then 141 else 162)))))))) (ls1 := [some (.ref 66), some (.int x0), some (.int x1), some (.int x2)]) (st1 := []) (mem1 := m) rfl ?_
  refine it_V.ite (fun c1 => ?_) (fun c1 => ?_)
  · have h := h.1 c1
    refine it_V.sN it_cd330 it_m330 3 (pc1 := 47) (ls1 := [some (.ref 66), some (.int x0), some (.int x1), some (.int x2)]) (st1 := [(.int (x1 * x2))]) (mem1 := m) rfl ?_
    exact it_V.ret it_cd330 it_m330 rfl rfl ⟨_, rfl, h⟩
  · have h := h.2 c1
    refine it_V.ite (fun c2 => ?_) (fun c2 => ?_)
    · have h := h.1 c2
      refine it_V.sN it_cd330 it_m330 8 (pc1 := 57) (ls1 := [some (.ref 66), some (.int x0), some (.int x1), some (.int x2)]) (st1 := [(.int (Int64.toInt32 (it_lshr ((Int32.toInt64 x1) * (Int32.toInt64 x2)) (32 : Int32))))]) (mem1 := m) rfl ?_
      exact it_V.ret it_cd330 it_m330 rfl rfl ⟨_, rfl, h⟩
    · have h := h.2 c2
      refine it_V.ite (fun c3 => ?_) (fun c3 => ?_)
      · have h := h.1 c3
        refine it_V.sN it_cd330 it_m330 10 (pc1 := 71) (ls1 := [some (.ref 66), some (.int x0), some (.int x1), some (.int x2)]) (st1 := [(.int (Int64.toInt32 (it_lshr ((Int32.toInt64 x1) * ((Int32.toInt64 x2) &&& (4294967295 : Int64))) (32 : Int32))))]) (mem1 := m) rfl ?_
        exact it_V.ret it_cd330 it_m330 rfl rfl ⟨_, rfl, h⟩
      · have h := h.2 c3
        refine it_V.ite (fun c4 => ?_) (fun c4 => ?_)
        · have h := h.1 c4
          refine it_V.sN it_cd330 it_m330 12 (pc1 := 89) (ls1 := [some (.ref 66), some (.int x0), some (.int x1), some (.int x2)]) (st1 := [(.int (Int64.toInt32 (it_lus (((Int32.toInt64 x1) &&& (4294967295 : Int64)) * ((Int32.toInt64 x2) &&& (4294967295 : Int64))) (32 : Int32))))]) (mem1 := m) rfl ?_
          exact it_V.ret it_cd330 it_m330 rfl rfl ⟨_, rfl, h⟩
        · have h := h.2 c4
          refine it_V.ite (fun c5 => ?_) (fun c5 => ?_)
          · have h := h.1 c5
            refine it_V.sN it_cd330 it_m330 2 (pc1 := (if x2 = 0 then 94 else 98)) (ls1 := [some (.ref 66), some (.int x0), some (.int x1), some (.int x2)]) (st1 := []) (mem1 := m) rfl ?_
            refine it_V.ite (fun c6 => ?_) (fun c6 => ?_)
            · have h := h.1 c6
              refine it_V.sN it_cd330 it_m330 2 (pc1 := 117) (ls1 := [some (.ref 66), some (.int x0), some (.int x1), some (.int x2)]) (st1 := [(.int (-1 : Int32))]) (mem1 := m) rfl ?_
              refine it_V.weak (l := [none, none, none, none]) trivial ?_
              exact s_330_117 kc Φ (-1 : Int32) m h
            · have h := h.2 c6
              refine it_V.sN it_cd330 it_m330 3 (pc1 := (if x1 = (-2147483648 : Int32) then 105 else 114)) (ls1 := [some (.ref 66), some (.int x0), some (.int x1), some (.int x2)]) (st1 := []) (mem1 := m) rfl ?_
              refine it_V.ite (fun c7 => ?_) (fun c7 => ?_)
              · have h := h.1 c7
                refine it_V.sN it_cd330 it_m330 3 (pc1 := (if x2 = (-1 : Int32) then 110 else 114)) (ls1 := [some (.ref 66), some (.int x0), some (.int x1), some (.int x2)]) (st1 := []) (mem1 := m) rfl ?_
                refine it_V.ite (fun c8 => ?_) (fun c8 => ?_)
                · have h := h.1 c8
                  refine it_V.sN it_cd330 it_m330 2 (pc1 := 117) (ls1 := [some (.ref 66), some (.int x0), some (.int x1), some (.int x2)]) (st1 := [(.int x1)]) (mem1 := m) rfl ?_
                  refine it_V.weak (l := [none, none, none, none]) trivial ?_
                  exact s_330_117 kc Φ x1 m h
                · have h := h.2 c8
                  refine it_V.weak (l := [none, none, some (.int x1), some (.int x2)]) ⟨rfl, ⟨rfl, trivial⟩⟩ ?_
                  exact s_330_114 kc Φ x1 x2 m h
              · have h := h.2 c7
                refine it_V.weak (l := [none, none, some (.int x1), some (.int x2)]) ⟨rfl, ⟨rfl, trivial⟩⟩ ?_
                exact s_330_114 kc Φ x1 x2 m h
          · have h := h.2 c5
            refine it_V.ite (fun c9 => ?_) (fun c9 => ?_)
            · have h := h.1 c9
              refine it_V.sN it_cd330 it_m330 2 (pc1 := (if x2 = 0 then 122 else 126)) (ls1 := [some (.ref 66), some (.int x0), some (.int x1), some (.int x2)]) (st1 := []) (mem1 := m) rfl ?_
              refine it_V.ite (fun c10 => ?_) (fun c10 => ?_)
              · have h := h.1 c10
                refine it_V.sN it_cd330 it_m330 2 (pc1 := 140) (ls1 := [some (.ref 66), some (.int x0), some (.int x1), some (.int x2)]) (st1 := [(.int (-1 : Int32))]) (mem1 := m) rfl ?_
                refine it_V.weak (l := [none, none, none, none]) trivial ?_
                exact s_330_140 kc Φ (-1 : Int32) m h
              · have h := h.2 c10
                refine it_V.sN it_cd330 it_m330 8 (pc1 := 138) (ls1 := [some (.ref 66), some (.int x0), some (.int x1), some (.int x2)]) (st1 := [(.long ((Int32.toInt64 x2) &&& (4294967295 : Int64))), (.long ((Int32.toInt64 x1) &&& (4294967295 : Int64)))]) (mem1 := m) rfl ?_
                obtain ⟨g11, h⟩ := h
                refine it_V.s1 it_cd330 it_m330 (pc1 := 139) (ls1 := [some (.ref 66), some (.int x0), some (.int x1), some (.int x2)]) (st1 := [(.long (((Int32.toInt64 x1) &&& (4294967295 : Int64)) / ((Int32.toInt64 x2) &&& (4294967295 : Int64))))]) (mem1 := m) (by simp only [it_s1, show it_lk it_c330 138 = some (0, .ldiv, 0, 0) from rfl, it_ops, if_neg g11]; rfl) ?_
                refine it_V.sN it_cd330 it_m330 1 (pc1 := 140) (ls1 := [some (.ref 66), some (.int x0), some (.int x1), some (.int x2)]) (st1 := [(.int (Int64.toInt32 (((Int32.toInt64 x1) &&& (4294967295 : Int64)) / ((Int32.toInt64 x2) &&& (4294967295 : Int64)))))]) (mem1 := m) rfl ?_
                refine it_V.weak (l := [none, none, none, none]) trivial ?_
                exact s_330_140 kc Φ (Int64.toInt32 (((Int32.toInt64 x1) &&& (4294967295 : Int64)) / ((Int32.toInt64 x2) &&& (4294967295 : Int64)))) m h
            · have h := h.2 c9
              refine it_V.ite (fun c12 => ?_) (fun c12 => ?_)
              · have h := h.1 c12
                refine it_V.sN it_cd330 it_m330 2 (pc1 := (if x2 = 0 then 145 else 149)) (ls1 := [some (.ref 66), some (.int x0), some (.int x1), some (.int x2)]) (st1 := []) (mem1 := m) rfl ?_
                refine it_V.ite (fun c13 => ?_) (fun c13 => ?_)
                · have h := h.1 c13
                  refine it_V.sN it_cd330 it_m330 2 (pc1 := 161) (ls1 := [some (.ref 66), some (.int x0), some (.int x1), some (.int x2)]) (st1 := [(.int x1)]) (mem1 := m) rfl ?_
                  refine it_V.weak (l := [none, none, none, none]) trivial ?_
                  exact s_330_161 kc Φ x1 m h
                · have h := h.2 c13
                  refine it_V.sN it_cd330 it_m330 3 (pc1 := (if x2 = (-1 : Int32) then 154 else 158)) (ls1 := [some (.ref 66), some (.int x0), some (.int x1), some (.int x2)]) (st1 := []) (mem1 := m) rfl ?_
                  refine it_V.ite (fun c14 => ?_) (fun c14 => ?_)
                  · have h := h.1 c14
                    refine it_V.sN it_cd330 it_m330 2 (pc1 := 161) (ls1 := [some (.ref 66), some (.int x0), some (.int x1), some (.int x2)]) (st1 := [(.int (0 : Int32))]) (mem1 := m) rfl ?_
                    refine it_V.weak (l := [none, none, none, none]) trivial ?_
                    exact s_330_161 kc Φ (0 : Int32) m h
                  · have h := h.2 c14
                    refine it_V.sN it_cd330 it_m330 2 (pc1 := 160) (ls1 := [some (.ref 66), some (.int x0), some (.int x1), some (.int x2)]) (st1 := [(.int x2), (.int x1)]) (mem1 := m) rfl ?_
                    obtain ⟨g15, h⟩ := h
                    refine it_V.s1 it_cd330 it_m330 (pc1 := 161) (ls1 := [some (.ref 66), some (.int x0), some (.int x1), some (.int x2)]) (st1 := [(.int (it_rem x1 x2))]) (mem1 := m) (by simp only [it_s1, show it_lk it_c330 160 = some (0, .irem, 0, 0) from rfl, it_ops, if_neg g15]; rfl) ?_
                    refine it_V.weak (l := [none, none, none, none]) trivial ?_
                    exact s_330_161 kc Φ (it_rem x1 x2) m h
              · have h := h.2 c12
                refine it_V.sN it_cd330 it_m330 2 (pc1 := (if x2 = 0 then 166 else 170)) (ls1 := [some (.ref 66), some (.int x0), some (.int x1), some (.int x2)]) (st1 := []) (mem1 := m) rfl ?_
                refine it_V.ite (fun c16 => ?_) (fun c16 => ?_)
                · have h := h.1 c16
                  refine it_V.sN it_cd330 it_m330 2 (pc1 := 184) (ls1 := [some (.ref 66), some (.int x0), some (.int x1), some (.int x2)]) (st1 := [(.int x1)]) (mem1 := m) rfl ?_
                  refine it_V.weak (l := [none, none, none, none]) trivial ?_
                  exact s_330_184 kc Φ x1 m h
                · have h := h.2 c16
                  refine it_V.sN it_cd330 it_m330 8 (pc1 := 182) (ls1 := [some (.ref 66), some (.int x0), some (.int x1), some (.int x2)]) (st1 := [(.long ((Int32.toInt64 x2) &&& (4294967295 : Int64))), (.long ((Int32.toInt64 x1) &&& (4294967295 : Int64)))]) (mem1 := m) rfl ?_
                  obtain ⟨g17, h⟩ := h
                  refine it_V.s1 it_cd330 it_m330 (pc1 := 183) (ls1 := [some (.ref 66), some (.int x0), some (.int x1), some (.int x2)]) (st1 := [(.long (it_lrem ((Int32.toInt64 x1) &&& (4294967295 : Int64)) ((Int32.toInt64 x2) &&& (4294967295 : Int64))))]) (mem1 := m) (by simp only [it_s1, show it_lk it_c330 182 = some (0, .lrem, 0, 0) from rfl, it_ops, if_neg g17]; rfl) ?_
                  refine it_V.sN it_cd330 it_m330 1 (pc1 := 184) (ls1 := [some (.ref 66), some (.int x0), some (.int x1), some (.int x2)]) (st1 := [(.int (Int64.toInt32 (it_lrem ((Int32.toInt64 x1) &&& (4294967295 : Int64)) ((Int32.toInt64 x2) &&& (4294967295 : Int64)))))]) (mem1 := m) rfl ?_
                  refine it_V.weak (l := [none, none, none, none]) trivial ?_
                  exact s_330_184 kc Φ (Int64.toInt32 (it_lrem ((Int32.toInt64 x1) &&& (4294967295 : Int64)) ((Int32.toInt64 x2) &&& (4294967295 : Int64)))) m h
set_option maxRecDepth 100000 in
set_option maxHeartbeats 4000000 in
theorem s_329_91 (kc : it_Kc) (Φ : it_Me → Prop) (m : it_Me) (h : w_329_91 kc Φ m) : it_V kc it_sh0 329 91 [none, none, none, none, none, none, none, none] [] m (it_Pv Φ) := by
  rw [w_329_91] at h
  exact it_V.ret it_cd329 it_m329 rfl rfl ⟨rfl, h⟩
set_option maxRecDepth 100000 in
set_option maxHeartbeats 4000000 in
theorem s_329_72 (kc : it_Kc) (Φ : it_Me → Prop) (v5 : Int32) (v6 : Int32) (u1 : Int32) (u2 : Int32) (u4 : Int32) (u5 : Int32) (m : it_Me) (h : w_329_72 kc Φ v5 v6 u1 u2 u4 u5 m) : it_V kc it_sh0 329 72 [none, none, none, none, none, some (.int v5), some (.int v6), none] [(.int u5), (.int u4), (.ref 66), (.int u2), (.int u1), (.ref 66)] m (it_Pv Φ) := by
  rw [w_329_72] at h
  refine it_V.sN it_cd329 it_m329 2 (pc1 := 76) (ls1 := [none, none, none, none, none, some (.int v5), some (.int v6), none]) (st1 := [(.int v6), (.int v5), (.int u5), (.int u4), (.ref 66), (.int u2), (.int u1), (.ref 66)]) (mem1 := m) rfl ?_
  refine it_V.call it_cd329 it_m329 rfl it_m328 [(.ref 66), (.int u4), (.int u5), (.int v5), (.int v6)] [(.int u2), (.int u1), (.ref 66)] rfl rfl ⟨Nat.le_of_ble_eq_true rfl, Nat.le_of_ble_eq_true rfl, Nat.le_of_ble_eq_true rfl, Nat.le_of_ble_eq_true rfl, rfl⟩ (s_328 kc u4 u5 v5 v6 m _ h) ?_
  rintro _ m2 ⟨r1, rfl, h⟩
  refine it_V.at (pc1 := 79) (ls1 := [none, none, none, none, none, some (.int v5), some (.int v6), none]) (st1 := [(.int r1), (.int u2), (.int u1), (.ref 66)]) (mem1 := m2) rfl rfl rfl rfl ?_
  refine it_V.call it_cd329 it_m329 rfl it_m323 [(.ref 66), (.int u1), (.int u2), (.int r1)] [] rfl rfl ⟨Nat.le_of_ble_eq_true rfl, Nat.le_of_ble_eq_true rfl, Nat.le_of_ble_eq_true rfl, Nat.le_of_ble_eq_true rfl, rfl⟩ (s_323 kc u1 u2 r1 m2 _ h) ?_
  rintro _ m3 ⟨rfl, h⟩
  refine it_V.at (pc1 := 82) (ls1 := [none, none, none, none, none, some (.int v5), some (.int v6), none]) (st1 := []) (mem1 := m3) rfl rfl rfl rfl ?_
  refine it_V.sN it_cd329 it_m329 1 (pc1 := 91) (ls1 := [none, none, none, none, none, some (.int v5), some (.int v6), none]) (st1 := []) (mem1 := m3) rfl ?_
  refine it_V.weak (l := [none, none, none, none, none, none, none, none]) trivial ?_
  exact s_329_91 kc Φ m3 h
set_option maxRecDepth 100000 in
set_option maxHeartbeats 4000000 in
theorem s_329_54 (kc : it_Kc) (Φ : it_Me → Prop) (v1 : Int32) (v3 : Int32) (v4 : Int32) (v5 : Int32) (v6 : Int32) (v7 : Int32) (m : it_Me) (h : w_329_54 kc Φ v1 v3 v4 v5 v6 v7 m) : it_V kc it_sh0 329 54 [some (.ref 66), some (.int v1), none, some (.int v3), some (.int v4), some (.int v5), some (.int v6), some (.int v7)] [] m (it_Pv Φ) := by
  rw [w_329_54] at h
  refine it_V.sN it_cd329 it_m329 8 (pc1 := (if v7 = (32 : Int32) then 67 else 71)) (ls1 := [some (.ref 66), some (.int v1), none, some (.int v3), some (.int v4), some (.int v5), some (.int v6), some (.int v7)]) (st1 := [(.int v4), (.ref 66), (.int v3), (.int v1), (.ref 66)]) (mem1 := m) rfl ?_
  refine it_V.ite (fun c1 => ?_) (fun c1 => ?_)
  · have h := h.1 c1
    refine it_V.sN it_cd329 it_m329 2 (pc1 := 72) (ls1 := [some (.ref 66), some (.int v1), none, some (.int v3), some (.int v4), some (.int v5), some (.int v6), some (.int v7)]) (st1 := [(.int (1 : Int32)), (.int v4), (.ref 66), (.int v3), (.int v1), (.ref 66)]) (mem1 := m) rfl ?_
    refine it_V.weak (l := [none, none, none, none, none, some (.int v5), some (.int v6), none]) ⟨rfl, ⟨rfl, trivial⟩⟩ ?_
    exact s_329_72 kc Φ v5 v6 v1 v3 v4 (1 : Int32) m h
  · have h := h.2 c1
    refine it_V.sN it_cd329 it_m329 1 (pc1 := 72) (ls1 := [some (.ref 66), some (.int v1), none, some (.int v3), some (.int v4), some (.int v5), some (.int v6), some (.int v7)]) (st1 := [(.int (0 : Int32)), (.int v4), (.ref 66), (.int v3), (.int v1), (.ref 66)]) (mem1 := m) rfl ?_
    refine it_V.weak (l := [none, none, none, none, none, some (.int v5), some (.int v6), none]) ⟨rfl, ⟨rfl, trivial⟩⟩ ?_
    exact s_329_72 kc Φ v5 v6 v1 v3 v4 (0 : Int32) m h
set_option maxRecDepth 100000 in
set_option maxHeartbeats 4000000 in
theorem s_329_85 (kc : it_Kc) (Φ : it_Me → Prop) (v1 : Int32) (v2 : Int32) (m : it_Me) (h : w_329_85 kc Φ v1 v2 m) : it_V kc it_sh0 329 85 [some (.ref 66), some (.int v1), some (.int v2), none, none, none, none, none] [] m (it_Pv Φ) := by
  rw [w_329_85] at h
  refine it_V.sN it_cd329 it_m329 3 (pc1 := 88) (ls1 := [some (.ref 66), some (.int v1), some (.int v2), none, none, none, none, none]) (st1 := [(.int v2), (.int v1), (.ref 66)]) (mem1 := m) rfl ?_
  refine it_V.call it_cd329 it_m329 rfl it_m321 [(.ref 66), (.int v1), (.int v2)] [] rfl rfl ⟨Nat.le_of_ble_eq_true rfl, Nat.le_of_ble_eq_true rfl, Nat.le_of_ble_eq_true rfl, Nat.le_of_ble_eq_true rfl, rfl⟩ (s_321 kc v1 v2 m _ h) ?_
  rintro _ m1 ⟨rfl, h⟩
  refine it_V.at (pc1 := 91) (ls1 := [some (.ref 66), some (.int v1), some (.int v2), none, none, none, none, none]) (st1 := []) (mem1 := m1) rfl rfl rfl rfl ?_
  refine it_V.weak (l := [none, none, none, none, none, none, none, none]) trivial ?_
  exact s_329_91 kc Φ m1 h
set_option maxRecDepth 100000 in
set_option maxHeartbeats 4000000 in
theorem s_329 (kc : it_Kc) (x0 : Int32) (x1 : Int32) (x2 : Int32) (x3 : Int32) (x4 : Int32) (x5 : Int32) (m : it_Me) (Φ : it_Me → Prop) (h : w_329 kc x0 x1 x2 x3 x4 x5 m Φ) : it_V kc it_sh0 329 0 (it_loc0 [(.ref 66), (.int x0), (.int x1), (.int x2), (.int x3), (.int x4), (.int x5)] 8) [] m (it_Pv Φ) := by
  rw [w_329] at h
  refine it_V.at (pc1 := 0) (ls1 := [some (.ref 66), some (.int x0), some (.int x1), some (.int x2), some (.int x3), some (.int x4), some (.int x5), none]) (st1 := []) (mem1 := m) rfl rfl rfl rfl ?_
  refine it_V.sN it_cd329 it_m329 7 (pc1 := (if (it_us x1 (25 : Int32)) = (1 : Int32) then 12 else 31)) (ls1 := [some (.ref 66), some (.int x0), some (.int x1), some (.int x2), some (.int x3), some (.int x4), some (.int x5), some (.int (it_us x1 (25 : Int32)))]) (st1 := []) (mem1 := m) rfl ?_
  refine it_V.ite (fun c1 => ?_) (fun c1 => ?_)
  · have h := h.1 c1
    refine it_V.sN it_cd329 it_m329 7 (pc1 := 22) (ls1 := [some (.ref 66), some (.int x0), some (.int x1), some (.int x2), some (.int x3), some (.int x4), some (.int x5), some (.int (it_us x1 (25 : Int32)))]) (st1 := [(.int x5), (.int x4), (.int x3), (.ref 66), (.int x2), (.int x0), (.ref 66)]) (mem1 := m) rfl ?_
    refine it_V.call it_cd329 it_m329 rfl it_m330 [(.ref 66), (.int x3), (.int x4), (.int x5)] [(.int x2), (.int x0), (.ref 66)] rfl rfl ⟨Nat.le_of_ble_eq_true rfl, Nat.le_of_ble_eq_true rfl, Nat.le_of_ble_eq_true rfl, Nat.le_of_ble_eq_true rfl, rfl⟩ (s_330 kc x3 x4 x5 m _ h) ?_
    rintro _ m3 ⟨r2, rfl, h⟩
    refine it_V.at (pc1 := 25) (ls1 := [some (.ref 66), some (.int x0), some (.int x1), some (.int x2), some (.int x3), some (.int x4), some (.int x5), some (.int (it_us x1 (25 : Int32)))]) (st1 := [(.int r2), (.int x2), (.int x0), (.ref 66)]) (mem1 := m3) rfl rfl rfl rfl ?_
    refine it_V.call it_cd329 it_m329 rfl it_m323 [(.ref 66), (.int x0), (.int x2), (.int r2)] [] rfl rfl ⟨Nat.le_of_ble_eq_true rfl, Nat.le_of_ble_eq_true rfl, Nat.le_of_ble_eq_true rfl, Nat.le_of_ble_eq_true rfl, rfl⟩ (s_323 kc x0 x2 r2 m3 _ h) ?_
    rintro _ m4 ⟨rfl, h⟩
    refine it_V.at (pc1 := 28) (ls1 := [some (.ref 66), some (.int x0), some (.int x1), some (.int x2), some (.int x3), some (.int x4), some (.int x5), some (.int (it_us x1 (25 : Int32)))]) (st1 := []) (mem1 := m4) rfl rfl rfl rfl ?_
    refine it_V.sN it_cd329 it_m329 1 (pc1 := 91) (ls1 := [some (.ref 66), some (.int x0), some (.int x1), some (.int x2), some (.int x3), some (.int x4), some (.int x5), some (.int (it_us x1 (25 : Int32)))]) (st1 := []) (mem1 := m4) rfl ?_
    refine it_V.weak (l := [none, none, none, none, none, none, none, none]) trivial ?_
    exact s_329_91 kc Φ m4 h
  · have h := h.2 c1
    refine it_V.sN it_cd329 it_m329 2 (pc1 := (if (it_us x1 (25 : Int32)) = 0 then 54 else 36)) (ls1 := [some (.ref 66), some (.int x0), some (.int x1), some (.int x2), some (.int x3), some (.int x4), some (.int x5), some (.int (it_us x1 (25 : Int32)))]) (st1 := []) (mem1 := m) rfl ?_
    refine it_V.ite (fun c5 => ?_) (fun c5 => ?_)
    · have h := h.1 c5
      refine it_V.weak (l := [some (.ref 66), some (.int x0), none, some (.int x2), some (.int x3), some (.int x4), some (.int x5), some (.int (it_us x1 (25 : Int32)))]) ⟨rfl, ⟨rfl, ⟨rfl, ⟨rfl, ⟨rfl, ⟨rfl, ⟨rfl, trivial⟩⟩⟩⟩⟩⟩⟩ ?_
      exact s_329_54 kc Φ x0 x2 x3 x4 x5 (it_us x1 (25 : Int32)) m h
    · have h := h.2 c5
      refine it_V.sN it_cd329 it_m329 3 (pc1 := (if (it_us x1 (25 : Int32)) = (32 : Int32) then 43 else 85)) (ls1 := [some (.ref 66), some (.int x0), some (.int x1), some (.int x2), some (.int x3), some (.int x4), some (.int x5), some (.int (it_us x1 (25 : Int32)))]) (st1 := []) (mem1 := m) rfl ?_
      refine it_V.ite (fun c6 => ?_) (fun c6 => ?_)
      · have h := h.1 c6
        refine it_V.sN it_cd329 it_m329 2 (pc1 := (if x3 = 0 then 54 else 48)) (ls1 := [some (.ref 66), some (.int x0), some (.int x1), some (.int x2), some (.int x3), some (.int x4), some (.int x5), some (.int (it_us x1 (25 : Int32)))]) (st1 := []) (mem1 := m) rfl ?_
        refine it_V.ite (fun c7 => ?_) (fun c7 => ?_)
        · have h := h.1 c7
          refine it_V.weak (l := [some (.ref 66), some (.int x0), none, some (.int x2), some (.int x3), some (.int x4), some (.int x5), some (.int (it_us x1 (25 : Int32)))]) ⟨rfl, ⟨rfl, ⟨rfl, ⟨rfl, ⟨rfl, ⟨rfl, ⟨rfl, trivial⟩⟩⟩⟩⟩⟩⟩ ?_
          exact s_329_54 kc Φ x0 x2 x3 x4 x5 (it_us x1 (25 : Int32)) m h
        · have h := h.2 c7
          refine it_V.sN it_cd329 it_m329 3 (pc1 := (if x3 = (5 : Int32) then 54 else 85)) (ls1 := [some (.ref 66), some (.int x0), some (.int x1), some (.int x2), some (.int x3), some (.int x4), some (.int x5), some (.int (it_us x1 (25 : Int32)))]) (st1 := []) (mem1 := m) rfl ?_
          refine it_V.ite (fun c8 => ?_) (fun c8 => ?_)
          · have h := h.1 c8
            refine it_V.weak (l := [some (.ref 66), some (.int x0), none, some (.int x2), some (.int x3), some (.int x4), some (.int x5), some (.int (it_us x1 (25 : Int32)))]) ⟨rfl, ⟨rfl, ⟨rfl, ⟨rfl, ⟨rfl, ⟨rfl, ⟨rfl, trivial⟩⟩⟩⟩⟩⟩⟩ ?_
            exact s_329_54 kc Φ x0 x2 x3 x4 x5 (it_us x1 (25 : Int32)) m h
          · have h := h.2 c8
            refine it_V.weak (l := [some (.ref 66), some (.int x0), some (.int x1), none, none, none, none, none]) ⟨rfl, ⟨rfl, ⟨rfl, trivial⟩⟩⟩ ?_
            exact s_329_85 kc Φ x0 x1 m h
      · have h := h.2 c6
        refine it_V.weak (l := [some (.ref 66), some (.int x0), some (.int x1), none, none, none, none, none]) ⟨rfl, ⟨rfl, ⟨rfl, trivial⟩⟩⟩ ?_
        exact s_329_85 kc Φ x0 x1 m h
set_option maxRecDepth 100000 in
set_option maxHeartbeats 4000000 in
theorem s_332_160 (kc : it_Kc) (Φ : Int32 → it_Me → Prop) (u0 : Int32) (m : it_Me) (h : w_332_160 kc Φ u0 m) : it_V kc it_sh0 332 160 [none, none, none, none] [(.int u0)] m (it_Pi Φ) := by
  rw [w_332_160] at h
  exact it_V.ret it_cd332 it_m332 rfl rfl ⟨_, rfl, h⟩
set_option maxRecDepth 100000 in
set_option maxHeartbeats 4000000 in
theorem s_332_175 (kc : it_Kc) (Φ : Int32 → it_Me → Prop) (u0 : Int32) (m : it_Me) (h : w_332_175 kc Φ u0 m) : it_V kc it_sh0 332 175 [none, none, none, none] [(.int u0)] m (it_Pi Φ) := by
  rw [w_332_175] at h
  exact it_V.ret it_cd332 it_m332 rfl rfl ⟨_, rfl, h⟩
set_option maxRecDepth 100000 in
set_option maxHeartbeats 4000000 in
theorem s_332 (kc : it_Kc) (x0 : Int32) (x1 : Int32) (x2 : Int32) (m : it_Me) (Φ : Int32 → it_Me → Prop) (h : w_332 kc x0 x1 x2 m Φ) : it_V kc it_sh0 332 0 (it_loc0 [(.ref 66), (.int x0), (.int x1), (.int x2)] 4) [] m (it_Pi Φ) := by
  rw [w_332] at h
  refine it_V.at (pc1 := 0) (ls1 := [some (.ref 66), some (.int x0), some (.int x1), some (.int x2)]) (st1 := []) (mem1 := m) rfl rfl rfl rfl ?_
  refine it_V.sN it_cd332 it_m332 1 (pc1 := 1) (ls1 := [some (.ref 66), some (.int x0), some (.int x1), some (.int x2)]) (st1 := [(.int x0)]) (mem1 := m) rfl ?_
  refine it_V.sN it_cd332 it_m332 1 (pc1 := (if x0 = (0 : Int32) then 116 else (if x0 = (1 : Int32) then 120 else (if x0 = (2 : Int32) then 161 else (if x0 = (3 : Int32) then 161 else (if x0 = (4 : Int32) then 122 else (if x0 = (5 : Int32) then 161 else (if x0 = (6 : Int32) then 161 else (if x0 = (7 : Int32) then 161 else (if x0 = (8 : Int32) then 126 else (if x0 = (9 : Int32) then 161 else (if x0 = (10 : Int32) then 161 else (if x0 = (11 : Int32) then 161 else (if x0 = (12 : Int32) then 130 else (if x0 = (13 : Int32) then 161 else (if x0 = (14 : Int32) then 161 else (if x0 = (15 : Int32) then 161 else (if x0 = (16 : Int32) then 134 else (if x0 = (17 : Int32) then 161 else (if x0 = (18 : Int32) then 161 else (if x0 = (19 : Int32) then 161 else (if x0 = (20 : Int32) then 140 else (if x0 = (21 : Int32) then 161 else (if x0 = (22 : Int32) then 161 else (if x0 = (23 : Int32) then 161 else (if x0 = (24 : Int32) then 146 else 161)))))))))))))))))))))))))) (ls1 := [some (.ref 66), some (.int x0), some (.int x1), some (.int x2)]) (st1 := []) (mem1 := m) rfl ?_
  refine it_V.ite (fun c1 => ?_) (fun c1 => ?_)
  · have h := h.1 c1
    refine it_V.sN it_cd332 it_m332 3 (pc1 := 119) (ls1 := [some (.ref 66), some (.int x0), some (.int x1), some (.int x2)]) (st1 := [(.int (x1 + x2))]) (mem1 := m) rfl ?_
    exact it_V.ret it_cd332 it_m332 rfl rfl ⟨_, rfl, h⟩
  · have h := h.2 c1
    refine it_V.ite (fun c2 => ?_) (fun c2 => ?_)
    · have h := h.1 c2
      refine it_V.sN it_cd332 it_m332 1 (pc1 := 121) (ls1 := [some (.ref 66), some (.int x0), some (.int x1), some (.int x2)]) (st1 := [(.int x2)]) (mem1 := m) rfl ?_
      exact it_V.ret it_cd332 it_m332 rfl rfl ⟨_, rfl, h⟩
    · have h := h.2 c2
      refine it_V.ite (fun c3 => ?_) (fun c3 => ?_)
      · have h := h.1 c3
        refine it_V.sN it_cd332 it_m332 3 (pc1 := 164) (ls1 := [some (.ref 66), some (.int x0), some (.int x1), some (.int x2)]) (st1 := [(.int x2), (.int x1), (.ref 66)]) (mem1 := m) rfl ?_
        refine it_V.call it_cd332 it_m332 rfl it_m247 [(.ref 66), (.int x1), (.int x2)] [] rfl rfl ⟨Nat.le_of_ble_eq_true rfl, Nat.le_of_ble_eq_true rfl, Nat.le_of_ble_eq_true rfl, Nat.le_of_ble_eq_true rfl, rfl⟩ (s_247 kc x1 x2 m _ h) ?_
        rintro _ m5 ⟨r4, rfl, h⟩
        refine it_V.at (pc1 := 167) (ls1 := [some (.ref 66), some (.int x0), some (.int x1), some (.int x2)]) (st1 := [(.int r4)]) (mem1 := m5) rfl rfl rfl rfl ?_
        refine it_V.sN it_cd332 it_m332 1 (pc1 := (if r4 = 0 then 174 else 170)) (ls1 := [some (.ref 66), some (.int x0), some (.int x1), some (.int x2)]) (st1 := []) (mem1 := m5) rfl ?_
        refine it_V.ite (fun c6 => ?_) (fun c6 => ?_)
        · have h := h.1 c6
          refine it_V.sN it_cd332 it_m332 1 (pc1 := 175) (ls1 := [some (.ref 66), some (.int x0), some (.int x1), some (.int x2)]) (st1 := [(.int x1)]) (mem1 := m5) rfl ?_
          refine it_V.weak (l := [none, none, none, none]) trivial ?_
          exact s_332_175 kc Φ x1 m5 h
        · have h := h.2 c6
          refine it_V.sN it_cd332 it_m332 2 (pc1 := 175) (ls1 := [some (.ref 66), some (.int x0), some (.int x1), some (.int x2)]) (st1 := [(.int x2)]) (mem1 := m5) rfl ?_
          refine it_V.weak (l := [none, none, none, none]) trivial ?_
          exact s_332_175 kc Φ x2 m5 h
      · have h := h.2 c3
        refine it_V.ite (fun c7 => ?_) (fun c7 => ?_)
        · have h := h.1 c7
          refine it_V.sN it_cd332 it_m332 3 (pc1 := 164) (ls1 := [some (.ref 66), some (.int x0), some (.int x1), some (.int x2)]) (st1 := [(.int x2), (.int x1), (.ref 66)]) (mem1 := m) rfl ?_
          refine it_V.call it_cd332 it_m332 rfl it_m247 [(.ref 66), (.int x1), (.int x2)] [] rfl rfl ⟨Nat.le_of_ble_eq_true rfl, Nat.le_of_ble_eq_true rfl, Nat.le_of_ble_eq_true rfl, Nat.le_of_ble_eq_true rfl, rfl⟩ (s_247 kc x1 x2 m _ h) ?_
          rintro _ m9 ⟨r8, rfl, h⟩
          refine it_V.at (pc1 := 167) (ls1 := [some (.ref 66), some (.int x0), some (.int x1), some (.int x2)]) (st1 := [(.int r8)]) (mem1 := m9) rfl rfl rfl rfl ?_
          refine it_V.sN it_cd332 it_m332 1 (pc1 := (if r8 = 0 then 174 else 170)) (ls1 := [some (.ref 66), some (.int x0), some (.int x1), some (.int x2)]) (st1 := []) (mem1 := m9) rfl ?_
          refine it_V.ite (fun c10 => ?_) (fun c10 => ?_)
          · have h := h.1 c10
            refine it_V.sN it_cd332 it_m332 1 (pc1 := 175) (ls1 := [some (.ref 66), some (.int x0), some (.int x1), some (.int x2)]) (st1 := [(.int x1)]) (mem1 := m9) rfl ?_
            refine it_V.weak (l := [none, none, none, none]) trivial ?_
            exact s_332_175 kc Φ x1 m9 h
          · have h := h.2 c10
            refine it_V.sN it_cd332 it_m332 2 (pc1 := 175) (ls1 := [some (.ref 66), some (.int x0), some (.int x1), some (.int x2)]) (st1 := [(.int x2)]) (mem1 := m9) rfl ?_
            refine it_V.weak (l := [none, none, none, none]) trivial ?_
            exact s_332_175 kc Φ x2 m9 h
        · have h := h.2 c7
          refine it_V.ite (fun c11 => ?_) (fun c11 => ?_)
          · have h := h.1 c11
            refine it_V.sN it_cd332 it_m332 3 (pc1 := 125) (ls1 := [some (.ref 66), some (.int x0), some (.int x1), some (.int x2)]) (st1 := [(.int (x1 ^^^ x2))]) (mem1 := m) rfl ?_
            exact it_V.ret it_cd332 it_m332 rfl rfl ⟨_, rfl, h⟩
          · have h := h.2 c11
            refine it_V.ite (fun c12 => ?_) (fun c12 => ?_)
            · have h := h.1 c12
              refine it_V.sN it_cd332 it_m332 3 (pc1 := 164) (ls1 := [some (.ref 66), some (.int x0), some (.int x1), some (.int x2)]) (st1 := [(.int x2), (.int x1), (.ref 66)]) (mem1 := m) rfl ?_
              refine it_V.call it_cd332 it_m332 rfl it_m247 [(.ref 66), (.int x1), (.int x2)] [] rfl rfl ⟨Nat.le_of_ble_eq_true rfl, Nat.le_of_ble_eq_true rfl, Nat.le_of_ble_eq_true rfl, Nat.le_of_ble_eq_true rfl, rfl⟩ (s_247 kc x1 x2 m _ h) ?_
              rintro _ m14 ⟨r13, rfl, h⟩
              refine it_V.at (pc1 := 167) (ls1 := [some (.ref 66), some (.int x0), some (.int x1), some (.int x2)]) (st1 := [(.int r13)]) (mem1 := m14) rfl rfl rfl rfl ?_
              refine it_V.sN it_cd332 it_m332 1 (pc1 := (if r13 = 0 then 174 else 170)) (ls1 := [some (.ref 66), some (.int x0), some (.int x1), some (.int x2)]) (st1 := []) (mem1 := m14) rfl ?_
              refine it_V.ite (fun c15 => ?_) (fun c15 => ?_)
              · have h := h.1 c15
                refine it_V.sN it_cd332 it_m332 1 (pc1 := 175) (ls1 := [some (.ref 66), some (.int x0), some (.int x1), some (.int x2)]) (st1 := [(.int x1)]) (mem1 := m14) rfl ?_
                refine it_V.weak (l := [none, none, none, none]) trivial ?_
                exact s_332_175 kc Φ x1 m14 h
              · have h := h.2 c15
                refine it_V.sN it_cd332 it_m332 2 (pc1 := 175) (ls1 := [some (.ref 66), some (.int x0), some (.int x1), some (.int x2)]) (st1 := [(.int x2)]) (mem1 := m14) rfl ?_
                refine it_V.weak (l := [none, none, none, none]) trivial ?_
                exact s_332_175 kc Φ x2 m14 h
            · have h := h.2 c12
              refine it_V.ite (fun c16 => ?_) (fun c16 => ?_)
              · have h := h.1 c16
                refine it_V.sN it_cd332 it_m332 3 (pc1 := 164) (ls1 := [some (.ref 66), some (.int x0), some (.int x1), some (.int x2)]) (st1 := [(.int x2), (.int x1), (.ref 66)]) (mem1 := m) rfl ?_
                refine it_V.call it_cd332 it_m332 rfl it_m247 [(.ref 66), (.int x1), (.int x2)] [] rfl rfl ⟨Nat.le_of_ble_eq_true rfl, Nat.le_of_ble_eq_true rfl, Nat.le_of_ble_eq_true rfl, Nat.le_of_ble_eq_true rfl, rfl⟩ (s_247 kc x1 x2 m _ h) ?_
                rintro _ m18 ⟨r17, rfl, h⟩
                refine it_V.at (pc1 := 167) (ls1 := [some (.ref 66), some (.int x0), some (.int x1), some (.int x2)]) (st1 := [(.int r17)]) (mem1 := m18) rfl rfl rfl rfl ?_
                refine it_V.sN it_cd332 it_m332 1 (pc1 := (if r17 = 0 then 174 else 170)) (ls1 := [some (.ref 66), some (.int x0), some (.int x1), some (.int x2)]) (st1 := []) (mem1 := m18) rfl ?_
                refine it_V.ite (fun c19 => ?_) (fun c19 => ?_)
                · have h := h.1 c19
                  refine it_V.sN it_cd332 it_m332 1 (pc1 := 175) (ls1 := [some (.ref 66), some (.int x0), some (.int x1), some (.int x2)]) (st1 := [(.int x1)]) (mem1 := m18) rfl ?_
                  refine it_V.weak (l := [none, none, none, none]) trivial ?_
                  exact s_332_175 kc Φ x1 m18 h
                · have h := h.2 c19
                  refine it_V.sN it_cd332 it_m332 2 (pc1 := 175) (ls1 := [some (.ref 66), some (.int x0), some (.int x1), some (.int x2)]) (st1 := [(.int x2)]) (mem1 := m18) rfl ?_
                  refine it_V.weak (l := [none, none, none, none]) trivial ?_
                  exact s_332_175 kc Φ x2 m18 h
              · have h := h.2 c16
                refine it_V.ite (fun c20 => ?_) (fun c20 => ?_)
                · have h := h.1 c20
                  refine it_V.sN it_cd332 it_m332 3 (pc1 := 164) (ls1 := [some (.ref 66), some (.int x0), some (.int x1), some (.int x2)]) (st1 := [(.int x2), (.int x1), (.ref 66)]) (mem1 := m) rfl ?_
                  refine it_V.call it_cd332 it_m332 rfl it_m247 [(.ref 66), (.int x1), (.int x2)] [] rfl rfl ⟨Nat.le_of_ble_eq_true rfl, Nat.le_of_ble_eq_true rfl, Nat.le_of_ble_eq_true rfl, Nat.le_of_ble_eq_true rfl, rfl⟩ (s_247 kc x1 x2 m _ h) ?_
                  rintro _ m22 ⟨r21, rfl, h⟩
                  refine it_V.at (pc1 := 167) (ls1 := [some (.ref 66), some (.int x0), some (.int x1), some (.int x2)]) (st1 := [(.int r21)]) (mem1 := m22) rfl rfl rfl rfl ?_
                  refine it_V.sN it_cd332 it_m332 1 (pc1 := (if r21 = 0 then 174 else 170)) (ls1 := [some (.ref 66), some (.int x0), some (.int x1), some (.int x2)]) (st1 := []) (mem1 := m22) rfl ?_
                  refine it_V.ite (fun c23 => ?_) (fun c23 => ?_)
                  · have h := h.1 c23
                    refine it_V.sN it_cd332 it_m332 1 (pc1 := 175) (ls1 := [some (.ref 66), some (.int x0), some (.int x1), some (.int x2)]) (st1 := [(.int x1)]) (mem1 := m22) rfl ?_
                    refine it_V.weak (l := [none, none, none, none]) trivial ?_
                    exact s_332_175 kc Φ x1 m22 h
                  · have h := h.2 c23
                    refine it_V.sN it_cd332 it_m332 2 (pc1 := 175) (ls1 := [some (.ref 66), some (.int x0), some (.int x1), some (.int x2)]) (st1 := [(.int x2)]) (mem1 := m22) rfl ?_
                    refine it_V.weak (l := [none, none, none, none]) trivial ?_
                    exact s_332_175 kc Φ x2 m22 h
                · have h := h.2 c20
                  refine it_V.ite (fun c24 => ?_) (fun c24 => ?_)
                  · have h := h.1 c24
                    refine it_V.sN it_cd332 it_m332 3 (pc1 := 129) (ls1 := [some (.ref 66), some (.int x0), some (.int x1), some (.int x2)]) (st1 := [(.int (x1 ||| x2))]) (mem1 := m) rfl ?_
                    exact it_V.ret it_cd332 it_m332 rfl rfl ⟨_, rfl, h⟩
                  · have h := h.2 c24
                    refine it_V.ite (fun c25 => ?_) (fun c25 => ?_)
                    · have h := h.1 c25
                      refine it_V.sN it_cd332 it_m332 3 (pc1 := 164) (ls1 := [some (.ref 66), some (.int x0), some (.int x1), some (.int x2)]) (st1 := [(.int x2), (.int x1), (.ref 66)]) (mem1 := m) rfl ?_
                      refine it_V.call it_cd332 it_m332 rfl it_m247 [(.ref 66), (.int x1), (.int x2)] [] rfl rfl ⟨Nat.le_of_ble_eq_true rfl, Nat.le_of_ble_eq_true rfl, Nat.le_of_ble_eq_true rfl, Nat.le_of_ble_eq_true rfl, rfl⟩ (s_247 kc x1 x2 m _ h) ?_
                      rintro _ m27 ⟨r26, rfl, h⟩
                      refine it_V.at (pc1 := 167) (ls1 := [some (.ref 66), some (.int x0), some (.int x1), some (.int x2)]) (st1 := [(.int r26)]) (mem1 := m27) rfl rfl rfl rfl ?_
                      refine it_V.sN it_cd332 it_m332 1 (pc1 := (if r26 = 0 then 174 else 170)) (ls1 := [some (.ref 66), some (.int x0), some (.int x1), some (.int x2)]) (st1 := []) (mem1 := m27) rfl ?_
                      refine it_V.ite (fun c28 => ?_) (fun c28 => ?_)
                      · have h := h.1 c28
                        refine it_V.sN it_cd332 it_m332 1 (pc1 := 175) (ls1 := [some (.ref 66), some (.int x0), some (.int x1), some (.int x2)]) (st1 := [(.int x1)]) (mem1 := m27) rfl ?_
                        refine it_V.weak (l := [none, none, none, none]) trivial ?_
                        exact s_332_175 kc Φ x1 m27 h
                      · have h := h.2 c28
                        refine it_V.sN it_cd332 it_m332 2 (pc1 := 175) (ls1 := [some (.ref 66), some (.int x0), some (.int x1), some (.int x2)]) (st1 := [(.int x2)]) (mem1 := m27) rfl ?_
                        refine it_V.weak (l := [none, none, none, none]) trivial ?_
                        exact s_332_175 kc Φ x2 m27 h
                    · have h := h.2 c25
                      refine it_V.ite (fun c29 => ?_) (fun c29 => ?_)
                      · have h := h.1 c29
                        refine it_V.sN it_cd332 it_m332 3 (pc1 := 164) (ls1 := [some (.ref 66), some (.int x0), some (.int x1), some (.int x2)]) (st1 := [(.int x2), (.int x1), (.ref 66)]) (mem1 := m) rfl ?_
                        refine it_V.call it_cd332 it_m332 rfl it_m247 [(.ref 66), (.int x1), (.int x2)] [] rfl rfl ⟨Nat.le_of_ble_eq_true rfl, Nat.le_of_ble_eq_true rfl, Nat.le_of_ble_eq_true rfl, Nat.le_of_ble_eq_true rfl, rfl⟩ (s_247 kc x1 x2 m _ h) ?_
                        rintro _ m31 ⟨r30, rfl, h⟩
                        refine it_V.at (pc1 := 167) (ls1 := [some (.ref 66), some (.int x0), some (.int x1), some (.int x2)]) (st1 := [(.int r30)]) (mem1 := m31) rfl rfl rfl rfl ?_
                        refine it_V.sN it_cd332 it_m332 1 (pc1 := (if r30 = 0 then 174 else 170)) (ls1 := [some (.ref 66), some (.int x0), some (.int x1), some (.int x2)]) (st1 := []) (mem1 := m31) rfl ?_
                        refine it_V.ite (fun c32 => ?_) (fun c32 => ?_)
                        · have h := h.1 c32
                          refine it_V.sN it_cd332 it_m332 1 (pc1 := 175) (ls1 := [some (.ref 66), some (.int x0), some (.int x1), some (.int x2)]) (st1 := [(.int x1)]) (mem1 := m31) rfl ?_
                          refine it_V.weak (l := [none, none, none, none]) trivial ?_
                          exact s_332_175 kc Φ x1 m31 h
                        · have h := h.2 c32
                          refine it_V.sN it_cd332 it_m332 2 (pc1 := 175) (ls1 := [some (.ref 66), some (.int x0), some (.int x1), some (.int x2)]) (st1 := [(.int x2)]) (mem1 := m31) rfl ?_
                          refine it_V.weak (l := [none, none, none, none]) trivial ?_
                          exact s_332_175 kc Φ x2 m31 h
                      · have h := h.2 c29
                        refine it_V.ite (fun c33 => ?_) (fun c33 => ?_)
                        · have h := h.1 c33
                          refine it_V.sN it_cd332 it_m332 3 (pc1 := 164) (ls1 := [some (.ref 66), some (.int x0), some (.int x1), some (.int x2)]) (st1 := [(.int x2), (.int x1), (.ref 66)]) (mem1 := m) rfl ?_
                          refine it_V.call it_cd332 it_m332 rfl it_m247 [(.ref 66), (.int x1), (.int x2)] [] rfl rfl ⟨Nat.le_of_ble_eq_true rfl, Nat.le_of_ble_eq_true rfl, Nat.le_of_ble_eq_true rfl, Nat.le_of_ble_eq_true rfl, rfl⟩ (s_247 kc x1 x2 m _ h) ?_
                          rintro _ m35 ⟨r34, rfl, h⟩
                          refine it_V.at (pc1 := 167) (ls1 := [some (.ref 66), some (.int x0), some (.int x1), some (.int x2)]) (st1 := [(.int r34)]) (mem1 := m35) rfl rfl rfl rfl ?_
                          refine it_V.sN it_cd332 it_m332 1 (pc1 := (if r34 = 0 then 174 else 170)) (ls1 := [some (.ref 66), some (.int x0), some (.int x1), some (.int x2)]) (st1 := []) (mem1 := m35) rfl ?_
                          refine it_V.ite (fun c36 => ?_) (fun c36 => ?_)
                          · have h := h.1 c36
                            refine it_V.sN it_cd332 it_m332 1 (pc1 := 175) (ls1 := [some (.ref 66), some (.int x0), some (.int x1), some (.int x2)]) (st1 := [(.int x1)]) (mem1 := m35) rfl ?_
                            refine it_V.weak (l := [none, none, none, none]) trivial ?_
                            exact s_332_175 kc Φ x1 m35 h
                          · have h := h.2 c36
                            refine it_V.sN it_cd332 it_m332 2 (pc1 := 175) (ls1 := [some (.ref 66), some (.int x0), some (.int x1), some (.int x2)]) (st1 := [(.int x2)]) (mem1 := m35) rfl ?_
                            refine it_V.weak (l := [none, none, none, none]) trivial ?_
                            exact s_332_175 kc Φ x2 m35 h
                        · have h := h.2 c33
                          refine it_V.ite (fun c37 => ?_) (fun c37 => ?_)
                          · have h := h.1 c37
                            refine it_V.sN it_cd332 it_m332 3 (pc1 := 133) (ls1 := [some (.ref 66), some (.int x0), some (.int x1), some (.int x2)]) (st1 := [(.int (x1 &&& x2))]) (mem1 := m) rfl ?_
                            exact it_V.ret it_cd332 it_m332 rfl rfl ⟨_, rfl, h⟩
                          · have h := h.2 c37
                            refine it_V.ite (fun c38 => ?_) (fun c38 => ?_)
                            · have h := h.1 c38
                              refine it_V.sN it_cd332 it_m332 3 (pc1 := 164) (ls1 := [some (.ref 66), some (.int x0), some (.int x1), some (.int x2)]) (st1 := [(.int x2), (.int x1), (.ref 66)]) (mem1 := m) rfl ?_
                              refine it_V.call it_cd332 it_m332 rfl it_m247 [(.ref 66), (.int x1), (.int x2)] [] rfl rfl ⟨Nat.le_of_ble_eq_true rfl, Nat.le_of_ble_eq_true rfl, Nat.le_of_ble_eq_true rfl, Nat.le_of_ble_eq_true rfl, rfl⟩ (s_247 kc x1 x2 m _ h) ?_
                              rintro _ m40 ⟨r39, rfl, h⟩
                              refine it_V.at (pc1 := 167) (ls1 := [some (.ref 66), some (.int x0), some (.int x1), some (.int x2)]) (st1 := [(.int r39)]) (mem1 := m40) rfl rfl rfl rfl ?_
                              refine it_V.sN it_cd332 it_m332 1 (pc1 := (if r39 = 0 then 174 else 170)) (ls1 := [some (.ref 66), some (.int x0), some (.int x1), some (.int x2)]) (st1 := []) (mem1 := m40) rfl ?_
                              refine it_V.ite (fun c41 => ?_) (fun c41 => ?_)
                              · have h := h.1 c41
                                refine it_V.sN it_cd332 it_m332 1 (pc1 := 175) (ls1 := [some (.ref 66), some (.int x0), some (.int x1), some (.int x2)]) (st1 := [(.int x1)]) (mem1 := m40) rfl ?_
                                refine it_V.weak (l := [none, none, none, none]) trivial ?_
                                exact s_332_175 kc Φ x1 m40 h
                              · have h := h.2 c41
                                refine it_V.sN it_cd332 it_m332 2 (pc1 := 175) (ls1 := [some (.ref 66), some (.int x0), some (.int x1), some (.int x2)]) (st1 := [(.int x2)]) (mem1 := m40) rfl ?_
                                refine it_V.weak (l := [none, none, none, none]) trivial ?_
                                exact s_332_175 kc Φ x2 m40 h
                            · have h := h.2 c38
                              refine it_V.ite (fun c42 => ?_) (fun c42 => ?_)
                              · have h := h.1 c42
                                refine it_V.sN it_cd332 it_m332 3 (pc1 := 164) (ls1 := [some (.ref 66), some (.int x0), some (.int x1), some (.int x2)]) (st1 := [(.int x2), (.int x1), (.ref 66)]) (mem1 := m) rfl ?_
                                refine it_V.call it_cd332 it_m332 rfl it_m247 [(.ref 66), (.int x1), (.int x2)] [] rfl rfl ⟨Nat.le_of_ble_eq_true rfl, Nat.le_of_ble_eq_true rfl, Nat.le_of_ble_eq_true rfl, Nat.le_of_ble_eq_true rfl, rfl⟩ (s_247 kc x1 x2 m _ h) ?_
                                rintro _ m44 ⟨r43, rfl, h⟩
                                refine it_V.at (pc1 := 167) (ls1 := [some (.ref 66), some (.int x0), some (.int x1), some (.int x2)]) (st1 := [(.int r43)]) (mem1 := m44) rfl rfl rfl rfl ?_
                                refine it_V.sN it_cd332 it_m332 1 (pc1 := (if r43 = 0 then 174 else 170)) (ls1 := [some (.ref 66), some (.int x0), some (.int x1), some (.int x2)]) (st1 := []) (mem1 := m44) rfl ?_
                                refine it_V.ite (fun c45 => ?_) (fun c45 => ?_)
                                · have h := h.1 c45
                                  refine it_V.sN it_cd332 it_m332 1 (pc1 := 175) (ls1 := [some (.ref 66), some (.int x0), some (.int x1), some (.int x2)]) (st1 := [(.int x1)]) (mem1 := m44) rfl ?_
                                  refine it_V.weak (l := [none, none, none, none]) trivial ?_
                                  exact s_332_175 kc Φ x1 m44 h
                                · have h := h.2 c45
                                  refine it_V.sN it_cd332 it_m332 2 (pc1 := 175) (ls1 := [some (.ref 66), some (.int x0), some (.int x1), some (.int x2)]) (st1 := [(.int x2)]) (mem1 := m44) rfl ?_
                                  refine it_V.weak (l := [none, none, none, none]) trivial ?_
                                  exact s_332_175 kc Φ x2 m44 h
                              · have h := h.2 c42
                                refine it_V.ite (fun c46 => ?_) (fun c46 => ?_)
                                · have h := h.1 c46
                                  refine it_V.sN it_cd332 it_m332 3 (pc1 := 164) (ls1 := [some (.ref 66), some (.int x0), some (.int x1), some (.int x2)]) (st1 := [(.int x2), (.int x1), (.ref 66)]) (mem1 := m) rfl ?_
                                  refine it_V.call it_cd332 it_m332 rfl it_m247 [(.ref 66), (.int x1), (.int x2)] [] rfl rfl ⟨Nat.le_of_ble_eq_true rfl, Nat.le_of_ble_eq_true rfl, Nat.le_of_ble_eq_true rfl, Nat.le_of_ble_eq_true rfl, rfl⟩ (s_247 kc x1 x2 m _ h) ?_
                                  rintro _ m48 ⟨r47, rfl, h⟩
                                  refine it_V.at (pc1 := 167) (ls1 := [some (.ref 66), some (.int x0), some (.int x1), some (.int x2)]) (st1 := [(.int r47)]) (mem1 := m48) rfl rfl rfl rfl ?_
                                  refine it_V.sN it_cd332 it_m332 1 (pc1 := (if r47 = 0 then 174 else 170)) (ls1 := [some (.ref 66), some (.int x0), some (.int x1), some (.int x2)]) (st1 := []) (mem1 := m48) rfl ?_
                                  refine it_V.ite (fun c49 => ?_) (fun c49 => ?_)
                                  · have h := h.1 c49
                                    refine it_V.sN it_cd332 it_m332 1 (pc1 := 175) (ls1 := [some (.ref 66), some (.int x0), some (.int x1), some (.int x2)]) (st1 := [(.int x1)]) (mem1 := m48) rfl ?_
                                    refine it_V.weak (l := [none, none, none, none]) trivial ?_
                                    exact s_332_175 kc Φ x1 m48 h
                                  · have h := h.2 c49
                                    refine it_V.sN it_cd332 it_m332 2 (pc1 := 175) (ls1 := [some (.ref 66), some (.int x0), some (.int x1), some (.int x2)]) (st1 := [(.int x2)]) (mem1 := m48) rfl ?_
                                    refine it_V.weak (l := [none, none, none, none]) trivial ?_
                                    exact s_332_175 kc Φ x2 m48 h
                                · have h := h.2 c46
                                  refine it_V.ite (fun c50 => ?_) (fun c50 => ?_)
                                  · have h := h.1 c50
                                    refine it_V.sN it_cd332 it_m332 3 (pc1 := 139) (ls1 := [some (.ref 66), some (.int x0), some (.int x1), some (.int x2)]) (st1 := [(.int (it_min x1 x2))]) (mem1 := m) rfl ?_
                                    exact it_V.ret it_cd332 it_m332 rfl rfl ⟨_, rfl, h⟩
                                  · have h := h.2 c50
                                    refine it_V.ite (fun c51 => ?_) (fun c51 => ?_)
                                    · have h := h.1 c51
                                      refine it_V.sN it_cd332 it_m332 3 (pc1 := 164) (ls1 := [some (.ref 66), some (.int x0), some (.int x1), some (.int x2)]) (st1 := [(.int x2), (.int x1), (.ref 66)]) (mem1 := m) rfl ?_
                                      refine it_V.call it_cd332 it_m332 rfl it_m247 [(.ref 66), (.int x1), (.int x2)] [] rfl rfl ⟨Nat.le_of_ble_eq_true rfl, Nat.le_of_ble_eq_true rfl, Nat.le_of_ble_eq_true rfl, Nat.le_of_ble_eq_true rfl, rfl⟩ (s_247 kc x1 x2 m _ h) ?_
                                      rintro _ m53 ⟨r52, rfl, h⟩
                                      refine it_V.at (pc1 := 167) (ls1 := [some (.ref 66), some (.int x0), some (.int x1), some (.int x2)]) (st1 := [(.int r52)]) (mem1 := m53) rfl rfl rfl rfl ?_
                                      refine it_V.sN it_cd332 it_m332 1 (pc1 := (if r52 = 0 then 174 else 170)) (ls1 := [some (.ref 66), some (.int x0), some (.int x1), some (.int x2)]) (st1 := []) (mem1 := m53) rfl ?_
                                      refine it_V.ite (fun c54 => ?_) (fun c54 => ?_)
                                      · have h := h.1 c54
                                        refine it_V.sN it_cd332 it_m332 1 (pc1 := 175) (ls1 := [some (.ref 66), some (.int x0), some (.int x1), some (.int x2)]) (st1 := [(.int x1)]) (mem1 := m53) rfl ?_
                                        refine it_V.weak (l := [none, none, none, none]) trivial ?_
                                        exact s_332_175 kc Φ x1 m53 h
                                      · have h := h.2 c54
                                        refine it_V.sN it_cd332 it_m332 2 (pc1 := 175) (ls1 := [some (.ref 66), some (.int x0), some (.int x1), some (.int x2)]) (st1 := [(.int x2)]) (mem1 := m53) rfl ?_
                                        refine it_V.weak (l := [none, none, none, none]) trivial ?_
                                        exact s_332_175 kc Φ x2 m53 h
                                    · have h := h.2 c51
                                      refine it_V.ite (fun c55 => ?_) (fun c55 => ?_)
                                      · have h := h.1 c55
                                        refine it_V.sN it_cd332 it_m332 3 (pc1 := 164) (ls1 := [some (.ref 66), some (.int x0), some (.int x1), some (.int x2)]) (st1 := [(.int x2), (.int x1), (.ref 66)]) (mem1 := m) rfl ?_
                                        refine it_V.call it_cd332 it_m332 rfl it_m247 [(.ref 66), (.int x1), (.int x2)] [] rfl rfl ⟨Nat.le_of_ble_eq_true rfl, Nat.le_of_ble_eq_true rfl, Nat.le_of_ble_eq_true rfl, Nat.le_of_ble_eq_true rfl, rfl⟩ (s_247 kc x1 x2 m _ h) ?_
                                        rintro _ m57 ⟨r56, rfl, h⟩
                                        refine it_V.at (pc1 := 167) (ls1 := [some (.ref 66), some (.int x0), some (.int x1), some (.int x2)]) (st1 := [(.int r56)]) (mem1 := m57) rfl rfl rfl rfl ?_
                                        refine it_V.sN it_cd332 it_m332 1 (pc1 := (if r56 = 0 then 174 else 170)) (ls1 := [some (.ref 66), some (.int x0), some (.int x1), some (.int x2)]) (st1 := []) (mem1 := m57) rfl ?_
                                        refine it_V.ite (fun c58 => ?_) (fun c58 => ?_)
                                        · have h := h.1 c58
                                          refine it_V.sN it_cd332 it_m332 1 (pc1 := 175) (ls1 := [some (.ref 66), some (.int x0), some (.int x1), some (.int x2)]) (st1 := [(.int x1)]) (mem1 := m57) rfl ?_
                                          refine it_V.weak (l := [none, none, none, none]) trivial ?_
                                          exact s_332_175 kc Φ x1 m57 h
                                        · have h := h.2 c58
                                          refine it_V.sN it_cd332 it_m332 2 (pc1 := 175) (ls1 := [some (.ref 66), some (.int x0), some (.int x1), some (.int x2)]) (st1 := [(.int x2)]) (mem1 := m57) rfl ?_
                                          refine it_V.weak (l := [none, none, none, none]) trivial ?_
                                          exact s_332_175 kc Φ x2 m57 h
                                      · have h := h.2 c55
                                        refine it_V.ite (fun c59 => ?_) (fun c59 => ?_)
                                        · have h := h.1 c59
                                          refine it_V.sN it_cd332 it_m332 3 (pc1 := 164) (ls1 := [some (.ref 66), some (.int x0), some (.int x1), some (.int x2)]) (st1 := [(.int x2), (.int x1), (.ref 66)]) (mem1 := m) rfl ?_
                                          refine it_V.call it_cd332 it_m332 rfl it_m247 [(.ref 66), (.int x1), (.int x2)] [] rfl rfl ⟨Nat.le_of_ble_eq_true rfl, Nat.le_of_ble_eq_true rfl, Nat.le_of_ble_eq_true rfl, Nat.le_of_ble_eq_true rfl, rfl⟩ (s_247 kc x1 x2 m _ h) ?_
                                          rintro _ m61 ⟨r60, rfl, h⟩
                                          refine it_V.at (pc1 := 167) (ls1 := [some (.ref 66), some (.int x0), some (.int x1), some (.int x2)]) (st1 := [(.int r60)]) (mem1 := m61) rfl rfl rfl rfl ?_
                                          refine it_V.sN it_cd332 it_m332 1 (pc1 := (if r60 = 0 then 174 else 170)) (ls1 := [some (.ref 66), some (.int x0), some (.int x1), some (.int x2)]) (st1 := []) (mem1 := m61) rfl ?_
                                          refine it_V.ite (fun c62 => ?_) (fun c62 => ?_)
                                          · have h := h.1 c62
                                            refine it_V.sN it_cd332 it_m332 1 (pc1 := 175) (ls1 := [some (.ref 66), some (.int x0), some (.int x1), some (.int x2)]) (st1 := [(.int x1)]) (mem1 := m61) rfl ?_
                                            refine it_V.weak (l := [none, none, none, none]) trivial ?_
                                            exact s_332_175 kc Φ x1 m61 h
                                          · have h := h.2 c62
                                            refine it_V.sN it_cd332 it_m332 2 (pc1 := 175) (ls1 := [some (.ref 66), some (.int x0), some (.int x1), some (.int x2)]) (st1 := [(.int x2)]) (mem1 := m61) rfl ?_
                                            refine it_V.weak (l := [none, none, none, none]) trivial ?_
                                            exact s_332_175 kc Φ x2 m61 h
                                        · have h := h.2 c59
                                          refine it_V.ite (fun c63 => ?_) (fun c63 => ?_)
                                          · have h := h.1 c63
                                            refine it_V.sN it_cd332 it_m332 3 (pc1 := 145) (ls1 := [some (.ref 66), some (.int x0), some (.int x1), some (.int x2)]) (st1 := [(.int (it_max x1 x2))]) (mem1 := m) rfl ?_
                                            exact it_V.ret it_cd332 it_m332 rfl rfl ⟨_, rfl, h⟩
                                          · have h := h.2 c63
                                            refine it_V.ite (fun c64 => ?_) (fun c64 => ?_)
                                            · have h := h.1 c64
                                              refine it_V.sN it_cd332 it_m332 3 (pc1 := 164) (ls1 := [some (.ref 66), some (.int x0), some (.int x1), some (.int x2)]) (st1 := [(.int x2), (.int x1), (.ref 66)]) (mem1 := m) rfl ?_
                                              refine it_V.call it_cd332 it_m332 rfl it_m247 [(.ref 66), (.int x1), (.int x2)] [] rfl rfl ⟨Nat.le_of_ble_eq_true rfl, Nat.le_of_ble_eq_true rfl, Nat.le_of_ble_eq_true rfl, Nat.le_of_ble_eq_true rfl, rfl⟩ (s_247 kc x1 x2 m _ h) ?_
                                              rintro _ m66 ⟨r65, rfl, h⟩
                                              refine it_V.at (pc1 := 167) (ls1 := [some (.ref 66), some (.int x0), some (.int x1), some (.int x2)]) (st1 := [(.int r65)]) (mem1 := m66) rfl rfl rfl rfl ?_
                                              refine it_V.sN it_cd332 it_m332 1 (pc1 := (if r65 = 0 then 174 else 170)) (ls1 := [some (.ref 66), some (.int x0), some (.int x1), some (.int x2)]) (st1 := []) (mem1 := m66) rfl ?_
                                              refine it_V.ite (fun c67 => ?_) (fun c67 => ?_)
                                              · have h := h.1 c67
                                                refine it_V.sN it_cd332 it_m332 1 (pc1 := 175) (ls1 := [some (.ref 66), some (.int x0), some (.int x1), some (.int x2)]) (st1 := [(.int x1)]) (mem1 := m66) rfl ?_
                                                refine it_V.weak (l := [none, none, none, none]) trivial ?_
                                                exact s_332_175 kc Φ x1 m66 h
                                              · have h := h.2 c67
                                                refine it_V.sN it_cd332 it_m332 2 (pc1 := 175) (ls1 := [some (.ref 66), some (.int x0), some (.int x1), some (.int x2)]) (st1 := [(.int x2)]) (mem1 := m66) rfl ?_
                                                refine it_V.weak (l := [none, none, none, none]) trivial ?_
                                                exact s_332_175 kc Φ x2 m66 h
                                            · have h := h.2 c64
                                              refine it_V.ite (fun c68 => ?_) (fun c68 => ?_)
                                              · have h := h.1 c68
                                                refine it_V.sN it_cd332 it_m332 3 (pc1 := 164) (ls1 := [some (.ref 66), some (.int x0), some (.int x1), some (.int x2)]) (st1 := [(.int x2), (.int x1), (.ref 66)]) (mem1 := m) rfl ?_
                                                refine it_V.call it_cd332 it_m332 rfl it_m247 [(.ref 66), (.int x1), (.int x2)] [] rfl rfl ⟨Nat.le_of_ble_eq_true rfl, Nat.le_of_ble_eq_true rfl, Nat.le_of_ble_eq_true rfl, Nat.le_of_ble_eq_true rfl, rfl⟩ (s_247 kc x1 x2 m _ h) ?_
                                                rintro _ m70 ⟨r69, rfl, h⟩
                                                refine it_V.at (pc1 := 167) (ls1 := [some (.ref 66), some (.int x0), some (.int x1), some (.int x2)]) (st1 := [(.int r69)]) (mem1 := m70) rfl rfl rfl rfl ?_
                                                refine it_V.sN it_cd332 it_m332 1 (pc1 := (if r69 = 0 then 174 else 170)) (ls1 := [some (.ref 66), some (.int x0), some (.int x1), some (.int x2)]) (st1 := []) (mem1 := m70) rfl ?_
                                                refine it_V.ite (fun c71 => ?_) (fun c71 => ?_)
                                                · have h := h.1 c71
                                                  refine it_V.sN it_cd332 it_m332 1 (pc1 := 175) (ls1 := [some (.ref 66), some (.int x0), some (.int x1), some (.int x2)]) (st1 := [(.int x1)]) (mem1 := m70) rfl ?_
                                                  refine it_V.weak (l := [none, none, none, none]) trivial ?_
                                                  exact s_332_175 kc Φ x1 m70 h
                                                · have h := h.2 c71
                                                  refine it_V.sN it_cd332 it_m332 2 (pc1 := 175) (ls1 := [some (.ref 66), some (.int x0), some (.int x1), some (.int x2)]) (st1 := [(.int x2)]) (mem1 := m70) rfl ?_
                                                  refine it_V.weak (l := [none, none, none, none]) trivial ?_
                                                  exact s_332_175 kc Φ x2 m70 h
                                              · have h := h.2 c68
                                                refine it_V.ite (fun c72 => ?_) (fun c72 => ?_)
                                                · have h := h.1 c72
                                                  refine it_V.sN it_cd332 it_m332 3 (pc1 := 164) (ls1 := [some (.ref 66), some (.int x0), some (.int x1), some (.int x2)]) (st1 := [(.int x2), (.int x1), (.ref 66)]) (mem1 := m) rfl ?_
                                                  refine it_V.call it_cd332 it_m332 rfl it_m247 [(.ref 66), (.int x1), (.int x2)] [] rfl rfl ⟨Nat.le_of_ble_eq_true rfl, Nat.le_of_ble_eq_true rfl, Nat.le_of_ble_eq_true rfl, Nat.le_of_ble_eq_true rfl, rfl⟩ (s_247 kc x1 x2 m _ h) ?_
                                                  rintro _ m74 ⟨r73, rfl, h⟩
                                                  refine it_V.at (pc1 := 167) (ls1 := [some (.ref 66), some (.int x0), some (.int x1), some (.int x2)]) (st1 := [(.int r73)]) (mem1 := m74) rfl rfl rfl rfl ?_
                                                  refine it_V.sN it_cd332 it_m332 1 (pc1 := (if r73 = 0 then 174 else 170)) (ls1 := [some (.ref 66), some (.int x0), some (.int x1), some (.int x2)]) (st1 := []) (mem1 := m74) rfl ?_
                                                  refine it_V.ite (fun c75 => ?_) (fun c75 => ?_)
                                                  · have h := h.1 c75
                                                    refine it_V.sN it_cd332 it_m332 1 (pc1 := 175) (ls1 := [some (.ref 66), some (.int x0), some (.int x1), some (.int x2)]) (st1 := [(.int x1)]) (mem1 := m74) rfl ?_
                                                    refine it_V.weak (l := [none, none, none, none]) trivial ?_
                                                    exact s_332_175 kc Φ x1 m74 h
                                                  · have h := h.2 c75
                                                    refine it_V.sN it_cd332 it_m332 2 (pc1 := 175) (ls1 := [some (.ref 66), some (.int x0), some (.int x1), some (.int x2)]) (st1 := [(.int x2)]) (mem1 := m74) rfl ?_
                                                    refine it_V.weak (l := [none, none, none, none]) trivial ?_
                                                    exact s_332_175 kc Φ x2 m74 h
                                                · have h := h.2 c72
                                                  refine it_V.ite (fun c76 => ?_) (fun c76 => ?_)
                                                  · have h := h.1 c76
                                                    refine it_V.sN it_cd332 it_m332 3 (pc1 := 149) (ls1 := [some (.ref 66), some (.int x0), some (.int x1), some (.int x2)]) (st1 := [(.int x2), (.int x1), (.ref 66)]) (mem1 := m) rfl ?_
                                                    refine it_V.call it_cd332 it_m332 rfl it_m247 [(.ref 66), (.int x1), (.int x2)] [] rfl rfl ⟨Nat.le_of_ble_eq_true rfl, Nat.le_of_ble_eq_true rfl, Nat.le_of_ble_eq_true rfl, Nat.le_of_ble_eq_true rfl, rfl⟩ (s_247 kc x1 x2 m _ h) ?_
                                                    rintro _ m78 ⟨r77, rfl, h⟩
                                                    refine it_V.at (pc1 := 152) (ls1 := [some (.ref 66), some (.int x0), some (.int x1), some (.int x2)]) (st1 := [(.int r77)]) (mem1 := m78) rfl rfl rfl rfl ?_
                                                    refine it_V.sN it_cd332 it_m332 1 (pc1 := (if r77 = 0 then 159 else 155)) (ls1 := [some (.ref 66), some (.int x0), some (.int x1), some (.int x2)]) (st1 := []) (mem1 := m78) rfl ?_
                                                    refine it_V.ite (fun c79 => ?_) (fun c79 => ?_)
                                                    · have h := h.1 c79
                                                      refine it_V.sN it_cd332 it_m332 1 (pc1 := 160) (ls1 := [some (.ref 66), some (.int x0), some (.int x1), some (.int x2)]) (st1 := [(.int x2)]) (mem1 := m78) rfl ?_
                                                      refine it_V.weak (l := [none, none, none, none]) trivial ?_
                                                      exact s_332_160 kc Φ x2 m78 h
                                                    · have h := h.2 c79
                                                      refine it_V.sN it_cd332 it_m332 2 (pc1 := 160) (ls1 := [some (.ref 66), some (.int x0), some (.int x1), some (.int x2)]) (st1 := [(.int x1)]) (mem1 := m78) rfl ?_
                                                      refine it_V.weak (l := [none, none, none, none]) trivial ?_
                                                      exact s_332_160 kc Φ x1 m78 h
                                                  · have h := h.2 c76
                                                    refine it_V.sN it_cd332 it_m332 3 (pc1 := 164) (ls1 := [some (.ref 66), some (.int x0), some (.int x1), some (.int x2)]) (st1 := [(.int x2), (.int x1), (.ref 66)]) (mem1 := m) rfl ?_
                                                    refine it_V.call it_cd332 it_m332 rfl it_m247 [(.ref 66), (.int x1), (.int x2)] [] rfl rfl ⟨Nat.le_of_ble_eq_true rfl, Nat.le_of_ble_eq_true rfl, Nat.le_of_ble_eq_true rfl, Nat.le_of_ble_eq_true rfl, rfl⟩ (s_247 kc x1 x2 m _ h) ?_
                                                    rintro _ m81 ⟨r80, rfl, h⟩
                                                    refine it_V.at (pc1 := 167) (ls1 := [some (.ref 66), some (.int x0), some (.int x1), some (.int x2)]) (st1 := [(.int r80)]) (mem1 := m81) rfl rfl rfl rfl ?_
                                                    refine it_V.sN it_cd332 it_m332 1 (pc1 := (if r80 = 0 then 174 else 170)) (ls1 := [some (.ref 66), some (.int x0), some (.int x1), some (.int x2)]) (st1 := []) (mem1 := m81) rfl ?_
                                                    refine it_V.ite (fun c82 => ?_) (fun c82 => ?_)
                                                    · have h := h.1 c82
                                                      refine it_V.sN it_cd332 it_m332 1 (pc1 := 175) (ls1 := [some (.ref 66), some (.int x0), some (.int x1), some (.int x2)]) (st1 := [(.int x1)]) (mem1 := m81) rfl ?_
                                                      refine it_V.weak (l := [none, none, none, none]) trivial ?_
                                                      exact s_332_175 kc Φ x1 m81 h
                                                    · have h := h.2 c82
                                                      refine it_V.sN it_cd332 it_m332 2 (pc1 := 175) (ls1 := [some (.ref 66), some (.int x0), some (.int x1), some (.int x2)]) (st1 := [(.int x2)]) (mem1 := m81) rfl ?_
                                                      refine it_V.weak (l := [none, none, none, none]) trivial ?_
                                                      exact s_332_175 kc Φ x2 m81 h
set_option maxRecDepth 100000 in
set_option maxHeartbeats 4000000 in
theorem s_331_88 (kc : it_Kc) (Φ : it_Me → Prop) (v1 : Int32) (v2 : Int32) (m : it_Me) (h : w_331_88 kc Φ v1 v2 m) : it_V kc it_sh0 331 88 [some (.ref 66), some (.int v1), some (.int v2), none, none, none, none, none, none, none] [] m (it_Pv Φ) := by
  rw [w_331_88] at h
  refine it_V.sN it_cd331 it_m331 3 (pc1 := 91) (ls1 := [some (.ref 66), some (.int v1), some (.int v2), none, none, none, none, none, none, none]) (st1 := [(.int v2), (.int v1), (.ref 66)]) (mem1 := m) rfl ?_
  refine it_V.call it_cd331 it_m331 rfl it_m321 [(.ref 66), (.int v1), (.int v2)] [] rfl rfl ⟨Nat.le_of_ble_eq_true rfl, Nat.le_of_ble_eq_true rfl, Nat.le_of_ble_eq_true rfl, Nat.le_of_ble_eq_true rfl, rfl⟩ (s_321 kc v1 v2 m _ h) ?_
  rintro _ m1 ⟨rfl, h⟩
  refine it_V.at (pc1 := 94) (ls1 := [some (.ref 66), some (.int v1), some (.int v2), none, none, none, none, none, none, none]) (st1 := []) (mem1 := m1) rfl rfl rfl rfl ?_
  exact it_V.ret it_cd331 it_m331 rfl rfl ⟨rfl, h⟩
set_option maxRecDepth 100000 in
set_option maxHeartbeats 4000000 in
theorem s_331_162 (kc : it_Kc) (Φ : it_Me → Prop) (m : it_Me) (h : w_331_162 kc Φ m) : it_V kc it_sh0 331 162 [none, none, none, none, none, none, none, none, none, none] [] m (it_Pv Φ) := by
  rw [w_331_162] at h
  exact it_V.ret it_cd331 it_m331 rfl rfl ⟨rfl, h⟩
set_option maxRecDepth 100000 in
set_option maxHeartbeats 4000000 in
theorem s_331_311 (kc : it_Kc) (Φ : it_Me → Prop) (m : it_Me) (h : w_331_311 kc Φ m) : it_V kc it_sh0 331 311 [none, none, none, none, none, none, none, none, none, none] [] m (it_Pv Φ) := by
  rw [w_331_311] at h
  exact it_V.ret it_cd331 it_m331 rfl rfl ⟨rfl, h⟩
set_option maxRecDepth 100000 in
set_option maxHeartbeats 4000000 in
theorem s_331_273 (kc : it_Kc) (Φ : it_Me → Prop) (u1 : Int32) (u2 : Int32) (u3 : Int32) (m : it_Me) (h : w_331_273 kc Φ u1 u2 u3 m) : it_V kc it_sh0 331 273 [none, none, none, none, none, none, none, none, none, none] [(.int u3), (.int u2), (.int u1), (.ref 66)] m (it_Pv Φ) := by
  rw [w_331_273] at h
  refine it_V.call it_cd331 it_m331 rfl it_m323 [(.ref 66), (.int u1), (.int u2), (.int u3)] [] rfl rfl ⟨Nat.le_of_ble_eq_true rfl, Nat.le_of_ble_eq_true rfl, Nat.le_of_ble_eq_true rfl, Nat.le_of_ble_eq_true rfl, rfl⟩ (s_323 kc u1 u2 u3 m _ h) ?_
  rintro _ m1 ⟨rfl, h⟩
  refine it_V.at (pc1 := 276) (ls1 := [none, none, none, none, none, none, none, none, none, none]) (st1 := []) (mem1 := m1) rfl rfl rfl rfl ?_
  refine it_V.sN it_cd331 it_m331 1 (pc1 := 311) (ls1 := [none, none, none, none, none, none, none, none, none, none]) (st1 := []) (mem1 := m1) rfl ?_
  refine it_V.weak (l := [none, none, none, none, none, none, none, none, none, none]) trivial ?_
  exact s_331_311 kc Φ m1 h
set_option maxRecDepth 100000 in
set_option maxHeartbeats 4000000 in
theorem s_331_260 (kc : it_Kc) (Φ : it_Me → Prop) (v1 : Int32) (v3 : Int32) (v9 : Int32) (m : it_Me) (h : w_331_260 kc Φ v1 v3 v9 m) : it_V kc it_sh0 331 260 [some (.ref 66), some (.int v1), none, some (.int v3), none, none, none, none, none, some (.int v9)] [] m (it_Pv Φ) := by
  rw [w_331_260] at h
  refine it_V.sN it_cd331 it_m331 5 (pc1 := (if v9 = 0 then 272 else 268)) (ls1 := [some (.ref 66), some (.int v1), none, some (.int v3), none, none, none, none, none, some (.int v9)]) (st1 := [(.int v3), (.int v1), (.ref 66)]) (mem1 := m) rfl ?_
  refine it_V.ite (fun c1 => ?_) (fun c1 => ?_)
  · have h := h.1 c1
    refine it_V.sN it_cd331 it_m331 1 (pc1 := 273) (ls1 := [some (.ref 66), some (.int v1), none, some (.int v3), none, none, none, none, none, some (.int v9)]) (st1 := [(.int (1 : Int32)), (.int v3), (.int v1), (.ref 66)]) (mem1 := m) rfl ?_
    refine it_V.weak (l := [none, none, none, none, none, none, none, none, none, none]) trivial ?_
    exact s_331_273 kc Φ v1 v3 (1 : Int32) m h
  · have h := h.2 c1
    refine it_V.sN it_cd331 it_m331 2 (pc1 := 273) (ls1 := [some (.ref 66), some (.int v1), none, some (.int v3), none, none, none, none, none, some (.int v9)]) (st1 := [(.int (0 : Int32)), (.int v3), (.int v1), (.ref 66)]) (mem1 := m) rfl ?_
    refine it_V.weak (l := [none, none, none, none, none, none, none, none, none, none]) trivial ?_
    exact s_331_273 kc Φ v1 v3 (0 : Int32) m h
set_option maxRecDepth 100000 in
set_option maxHeartbeats 4000000 in
theorem s_331_238 (kc : it_Kc) (Φ : it_Me → Prop) (v1 : Int32) (v3 : Int32) (v5 : Int32) (v6 : Int32) (u0 : Int32) (m : it_Me) (h : w_331_238 kc Φ v1 v3 v5 v6 u0 m) : it_V kc it_sh0 331 238 [some (.ref 66), some (.int v1), none, some (.int v3), none, some (.int v5), some (.int v6), none, none, none] [(.int u0)] m (it_Pv Φ) := by
  rw [w_331_238] at h
  refine it_V.sN it_cd331 it_m331 5 (pc1 := 246) (ls1 := [some (.ref 66), some (.int v1), none, some (.int v3), none, some (.int v5), some (.int v6), none, none, some (.int u0)]) (st1 := [(.int (0 : Int32)), (.int v1), (.ref 97)]) (mem1 := m) rfl ?_
  obtain ⟨g1, h⟩ := h
  refine it_V.iast it_cd331 it_m331 rfl ((⟨rfl, by decide⟩ : it_isR 97 8)).1 g1 ?_
  refine it_V.at (pc1 := 247) (ls1 := [some (.ref 66), some (.int v1), none, some (.int v3), none, some (.int v5), some (.int v6), none, none, some (.int u0)]) (st1 := []) (mem1 := (it_sv m 97 (Int32.toNatClampNeg v1) (0 : Int32))) rfl rfl rfl rfl ?_
  refine it_V.sN it_cd331 it_m331 2 (pc1 := (if u0 = 0 then 260 else 252)) (ls1 := [some (.ref 66), some (.int v1), none, some (.int v3), none, some (.int v5), some (.int v6), none, none, some (.int u0)]) (st1 := []) (mem1 := (it_sv m 97 (Int32.toNatClampNeg v1) (0 : Int32))) rfl ?_
  refine it_V.ite (fun c2 => ?_) (fun c2 => ?_)
  · have h := h.1 c2
    refine it_V.weak (l := [some (.ref 66), some (.int v1), none, some (.int v3), none, none, none, none, none, some (.int u0)]) ⟨rfl, ⟨rfl, ⟨rfl, ⟨rfl, trivial⟩⟩⟩⟩ ?_
    exact s_331_260 kc Φ v1 v3 u0 (it_sv m 97 (Int32.toNatClampNeg v1) (0 : Int32)) h
  · have h := h.2 c2
    refine it_V.sN it_cd331 it_m331 3 (pc1 := 257) (ls1 := [some (.ref 66), some (.int v1), none, some (.int v3), none, some (.int v5), some (.int v6), none, none, some (.int u0)]) (st1 := [(.int v6), (.int v5), (.ref 66)]) (mem1 := (it_sv m 97 (Int32.toNatClampNeg v1) (0 : Int32))) rfl ?_
    refine it_V.call it_cd331 it_m331 rfl it_m221 [(.ref 66), (.int v5), (.int v6)] [] rfl rfl ⟨Nat.le_of_ble_eq_true rfl, Nat.le_of_ble_eq_true rfl, Nat.le_of_ble_eq_true rfl, Nat.le_of_ble_eq_true rfl, rfl⟩ (s_221 kc v5 v6 (it_sv m 97 (Int32.toNatClampNeg v1) (0 : Int32)) _ h) ?_
    rintro _ m3 ⟨rfl, h⟩
    refine it_V.at (pc1 := 260) (ls1 := [some (.ref 66), some (.int v1), none, some (.int v3), none, some (.int v5), some (.int v6), none, none, some (.int u0)]) (st1 := []) (mem1 := m3) rfl rfl rfl rfl ?_
    refine it_V.weak (l := [some (.ref 66), some (.int v1), none, some (.int v3), none, none, none, none, none, some (.int u0)]) ⟨rfl, ⟨rfl, ⟨rfl, ⟨rfl, trivial⟩⟩⟩⟩ ?_
    exact s_331_260 kc Φ v1 v3 u0 m3 h
set_option maxRecDepth 100000 in
set_option maxHeartbeats 4000000 in
theorem s_331_198 (kc : it_Kc) (Φ : it_Me → Prop) (v1 : Int32) (v3 : Int32) (v5 : Int32) (v6 : Int32) (v7 : Int32) (u1 : Int32) (u2 : Int32) (u3 : Int32) (u4 : Int32) (m : it_Me) (h : w_331_198 kc Φ v1 v3 v5 v6 v7 u1 u2 u3 u4 m) : it_V kc it_sh0 331 198 [some (.ref 66), some (.int v1), none, some (.int v3), none, some (.int v5), some (.int v6), some (.int v7), none, none] [(.int u4), (.int u3), (.int u2), (.int u1), (.ref 66)] m (it_Pv Φ) := by
  rw [w_331_198] at h
  refine it_V.call it_cd331 it_m331 rfl it_m259 [(.ref 66), (.int u1), (.int u2), (.int u3), (.int u4)] [] rfl rfl ⟨Nat.le_of_ble_eq_true rfl, Nat.le_of_ble_eq_true rfl, Nat.le_of_ble_eq_true rfl, Nat.le_of_ble_eq_true rfl, rfl⟩ (s_259 kc u1 u2 u3 u4 m _ h) ?_
  rintro _ m2 ⟨r1, rfl, h⟩
  refine it_V.at (pc1 := 201) (ls1 := [some (.ref 66), some (.int v1), none, some (.int v3), none, some (.int v5), some (.int v6), some (.int v7), none, none]) (st1 := [(.int r1)]) (mem1 := m2) rfl rfl rfl rfl ?_
  refine it_V.sN it_cd331 it_m331 1 (pc1 := (if r1 = 0 then 204 else 216)) (ls1 := [some (.ref 66), some (.int v1), none, some (.int v3), none, some (.int v5), some (.int v6), some (.int v7), none, none]) (st1 := []) (mem1 := m2) rfl ?_
  refine it_V.ite (fun c3 => ?_) (fun c3 => ?_)
  · have h := h.1 c3
    refine it_V.sN it_cd331 it_m331 4 (pc1 := 210) (ls1 := [some (.ref 66), some (.int v1), none, some (.int v3), none, some (.int v5), some (.int v6), some (.int v7), none, none]) (st1 := [(.int v5), (.int (7 : Int32)), (.int v1), (.ref 66)]) (mem1 := m2) rfl ?_
    refine it_V.call it_cd331 it_m331 rfl it_m258 [(.ref 66), (.int v1), (.int (7 : Int32)), (.int v5)] [] rfl rfl ⟨Nat.le_of_ble_eq_true rfl, Nat.le_of_ble_eq_true rfl, Nat.le_of_ble_eq_true rfl, Nat.le_of_ble_eq_true rfl, rfl⟩ (s_258 kc v1 (7 : Int32) v5 m2 _ h) ?_
    rintro _ m4 ⟨rfl, h⟩
    refine it_V.at (pc1 := 213) (ls1 := [some (.ref 66), some (.int v1), none, some (.int v3), none, some (.int v5), some (.int v6), some (.int v7), none, none]) (st1 := []) (mem1 := m4) rfl rfl rfl rfl ?_
    refine it_V.sN it_cd331 it_m331 1 (pc1 := 311) (ls1 := [some (.ref 66), some (.int v1), none, some (.int v3), none, some (.int v5), some (.int v6), some (.int v7), none, none]) (st1 := []) (mem1 := m4) rfl ?_
    refine it_V.weak (l := [none, none, none, none, none, none, none, none, none, none]) trivial ?_
    exact s_331_311 kc Φ m4 h
  · have h := h.2 c3
    refine it_V.sN it_cd331 it_m331 3 (pc1 := (if v7 = (3 : Int32) then 222 else 279)) (ls1 := [some (.ref 66), some (.int v1), none, some (.int v3), none, some (.int v5), some (.int v6), some (.int v7), none, none]) (st1 := []) (mem1 := m2) rfl ?_
    refine it_V.ite (fun c5 => ?_) (fun c5 => ?_)
    · have h := h.1 c5
      refine it_V.sN it_cd331 it_m331 3 (pc1 := 227) (ls1 := [some (.ref 66), some (.int v1), none, some (.int v3), none, some (.int v5), some (.int v6), some (.int v7), none, none]) (st1 := [(.int v1), (.ref 97)]) (mem1 := m2) rfl ?_
      obtain ⟨g6, h⟩ := h
      refine it_V.iald it_cd331 it_m331 rfl ((⟨rfl, by decide⟩ : it_isR 97 8)).2 ((⟨rfl, by decide⟩ : it_isR 97 8)).1 g6 ?_
      refine it_V.at (pc1 := 228) (ls1 := [some (.ref 66), some (.int v1), none, some (.int v3), none, some (.int v5), some (.int v6), some (.int v7), none, none]) (st1 := [(.int (m2 97 (Int32.toNatClampNeg v1)))]) (mem1 := m2) rfl rfl rfl rfl ?_
      refine it_V.sN it_cd331 it_m331 2 (pc1 := (if (m2 97 (Int32.toNatClampNeg v1)) = v5 then 233 else 237)) (ls1 := [some (.ref 66), some (.int v1), none, some (.int v3), none, some (.int v5), some (.int v6), some (.int v7), none, none]) (st1 := []) (mem1 := m2) rfl ?_
      refine it_V.ite (fun c7 => ?_) (fun c7 => ?_)
      · have h := h.1 c7
        refine it_V.sN it_cd331 it_m331 2 (pc1 := 238) (ls1 := [some (.ref 66), some (.int v1), none, some (.int v3), none, some (.int v5), some (.int v6), some (.int v7), none, none]) (st1 := [(.int (1 : Int32))]) (mem1 := m2) rfl ?_
        refine it_V.weak (l := [some (.ref 66), some (.int v1), none, some (.int v3), none, some (.int v5), some (.int v6), none, none, none]) ⟨rfl, ⟨rfl, ⟨rfl, ⟨rfl, ⟨rfl, trivial⟩⟩⟩⟩⟩ ?_
        exact s_331_238 kc Φ v1 v3 v5 v6 (1 : Int32) m2 h
      · have h := h.2 c7
        refine it_V.sN it_cd331 it_m331 1 (pc1 := 238) (ls1 := [some (.ref 66), some (.int v1), none, some (.int v3), none, some (.int v5), some (.int v6), some (.int v7), none, none]) (st1 := [(.int (0 : Int32))]) (mem1 := m2) rfl ?_
        refine it_V.weak (l := [some (.ref 66), some (.int v1), none, some (.int v3), none, some (.int v5), some (.int v6), none, none, none]) ⟨rfl, ⟨rfl, ⟨rfl, ⟨rfl, ⟨rfl, trivial⟩⟩⟩⟩⟩ ?_
        exact s_331_238 kc Φ v1 v3 v5 v6 (0 : Int32) m2 h
    · have h := h.2 c5
      refine it_V.sN it_cd331 it_m331 2 (pc1 := 282) (ls1 := [some (.ref 66), some (.int v1), none, some (.int v3), none, some (.int v5), some (.int v6), some (.int v7), none, none]) (st1 := [(.int v5), (.ref 66)]) (mem1 := m2) rfl ?_
      refine it_V.call it_cd331 it_m331 rfl it_m220 [(.ref 66), (.int v5)] [] rfl rfl ⟨Nat.le_of_ble_eq_true rfl, Nat.le_of_ble_eq_true rfl, Nat.le_of_ble_eq_true rfl, Nat.le_of_ble_eq_true rfl, rfl⟩ (s_220 kc v5 m2 _ h) ?_
      rintro _ m9 ⟨r8, rfl, h⟩
      refine it_V.at (pc1 := 285) (ls1 := [some (.ref 66), some (.int v1), none, some (.int v3), none, some (.int v5), some (.int v6), some (.int v7), none, none]) (st1 := [(.int r8)]) (mem1 := m9) rfl rfl rfl rfl ?_
      refine it_V.sN it_cd331 it_m331 7 (pc1 := 297) (ls1 := [some (.ref 66), some (.int v1), none, some (.int v3), none, some (.int v5), some (.int v6), some (.int v7), none, some (.int r8)]) (st1 := [(.int v6), (.int r8), (.int v7), (.ref 66), (.int v5), (.ref 66)]) (mem1 := m9) rfl ?_
      refine it_V.call it_cd331 it_m331 rfl it_m332 [(.ref 66), (.int v7), (.int r8), (.int v6)] [(.int v5), (.ref 66)] rfl rfl ⟨Nat.le_of_ble_eq_true rfl, Nat.le_of_ble_eq_true rfl, Nat.le_of_ble_eq_true rfl, Nat.le_of_ble_eq_true rfl, rfl⟩ (s_332 kc v7 r8 v6 m9 _ h) ?_
      rintro _ m11 ⟨r10, rfl, h⟩
      refine it_V.at (pc1 := 300) (ls1 := [some (.ref 66), some (.int v1), none, some (.int v3), none, some (.int v5), some (.int v6), some (.int v7), none, some (.int r8)]) (st1 := [(.int r10), (.int v5), (.ref 66)]) (mem1 := m11) rfl rfl rfl rfl ?_
      refine it_V.call it_cd331 it_m331 rfl it_m221 [(.ref 66), (.int v5), (.int r10)] [] rfl rfl ⟨Nat.le_of_ble_eq_true rfl, Nat.le_of_ble_eq_true rfl, Nat.le_of_ble_eq_true rfl, Nat.le_of_ble_eq_true rfl, rfl⟩ (s_221 kc v5 r10 m11 _ h) ?_
      rintro _ m12 ⟨rfl, h⟩
      refine it_V.at (pc1 := 303) (ls1 := [some (.ref 66), some (.int v1), none, some (.int v3), none, some (.int v5), some (.int v6), some (.int v7), none, some (.int r8)]) (st1 := []) (mem1 := m12) rfl rfl rfl rfl ?_
      refine it_V.sN it_cd331 it_m331 4 (pc1 := 308) (ls1 := [some (.ref 66), some (.int v1), none, some (.int v3), none, some (.int v5), some (.int v6), some (.int v7), none, some (.int r8)]) (st1 := [(.int r8), (.int v3), (.int v1), (.ref 66)]) (mem1 := m12) rfl ?_
      refine it_V.call it_cd331 it_m331 rfl it_m323 [(.ref 66), (.int v1), (.int v3), (.int r8)] [] rfl rfl ⟨Nat.le_of_ble_eq_true rfl, Nat.le_of_ble_eq_true rfl, Nat.le_of_ble_eq_true rfl, Nat.le_of_ble_eq_true rfl, rfl⟩ (s_323 kc v1 v3 r8 m12 _ h) ?_
      rintro _ m13 ⟨rfl, h⟩
      refine it_V.at (pc1 := 311) (ls1 := [some (.ref 66), some (.int v1), none, some (.int v3), none, some (.int v5), some (.int v6), some (.int v7), none, some (.int r8)]) (st1 := []) (mem1 := m13) rfl rfl rfl rfl ?_
      refine it_V.weak (l := [none, none, none, none, none, none, none, none, none, none]) trivial ?_
      exact s_331_311 kc Φ m13 h
set_option maxRecDepth 100000 in
set_option maxHeartbeats 4000000 in
theorem s_331_95 (kc : it_Kc) (Φ : it_Me → Prop) (v1 : Int32) (v3 : Int32) (v5 : Int32) (v6 : Int32) (v7 : Int32) (m : it_Me) (h : w_331_95 kc Φ v1 v3 v5 v6 v7 m) : it_V kc it_sh0 331 95 [some (.ref 66), some (.int v1), none, some (.int v3), none, some (.int v5), some (.int v6), some (.int v7), none, none] [] m (it_Pv Φ) := by
  rw [w_331_95] at h
  refine it_V.sN it_cd331 it_m331 3 (pc1 := (if v7 = (2 : Int32) then 101 else 163)) (ls1 := [some (.ref 66), some (.int v1), none, some (.int v3), none, some (.int v5), some (.int v6), some (.int v7), none, none]) (st1 := []) (mem1 := m) rfl ?_
  refine it_V.ite (fun c1 => ?_) (fun c1 => ?_)
  · have h := h.1 c1
    refine it_V.sN it_cd331 it_m331 4 (pc1 := (if (v5 &&& (3 : Int32)) = 0 then 119 else 108)) (ls1 := [some (.ref 66), some (.int v1), none, some (.int v3), none, some (.int v5), some (.int v6), some (.int v7), none, none]) (st1 := []) (mem1 := m) rfl ?_
    refine it_V.ite (fun c2 => ?_) (fun c2 => ?_)
    · have h := h.1 c2
      refine it_V.sN it_cd331 it_m331 5 (pc1 := 125) (ls1 := [some (.ref 66), some (.int v1), none, some (.int v3), none, some (.int v5), some (.int v6), some (.int v7), none, none]) (st1 := [(.int (1 : Int32)), (.int (4 : Int32)), (.int v5), (.int v1), (.ref 66)]) (mem1 := m) rfl ?_
      refine it_V.call it_cd331 it_m331 rfl it_m259 [(.ref 66), (.int v1), (.int v5), (.int (4 : Int32)), (.int (1 : Int32))] [] rfl rfl ⟨Nat.le_of_ble_eq_true rfl, Nat.le_of_ble_eq_true rfl, Nat.le_of_ble_eq_true rfl, Nat.le_of_ble_eq_true rfl, rfl⟩ (s_259 kc v1 v5 (4 : Int32) (1 : Int32) m _ h) ?_
      rintro _ m4 ⟨r3, rfl, h⟩
      refine it_V.at (pc1 := 128) (ls1 := [some (.ref 66), some (.int v1), none, some (.int v3), none, some (.int v5), some (.int v6), some (.int v7), none, none]) (st1 := [(.int r3)]) (mem1 := m4) rfl rfl rfl rfl ?_
      refine it_V.sN it_cd331 it_m331 1 (pc1 := (if r3 = 0 then 131 else 142)) (ls1 := [some (.ref 66), some (.int v1), none, some (.int v3), none, some (.int v5), some (.int v6), some (.int v7), none, none]) (st1 := []) (mem1 := m4) rfl ?_
      refine it_V.ite (fun c5 => ?_) (fun c5 => ?_)
      · have h := h.1 c5
        refine it_V.sN it_cd331 it_m331 4 (pc1 := 136) (ls1 := [some (.ref 66), some (.int v1), none, some (.int v3), none, some (.int v5), some (.int v6), some (.int v7), none, none]) (st1 := [(.int v5), (.int (5 : Int32)), (.int v1), (.ref 66)]) (mem1 := m4) rfl ?_
        refine it_V.call it_cd331 it_m331 rfl it_m258 [(.ref 66), (.int v1), (.int (5 : Int32)), (.int v5)] [] rfl rfl ⟨Nat.le_of_ble_eq_true rfl, Nat.le_of_ble_eq_true rfl, Nat.le_of_ble_eq_true rfl, Nat.le_of_ble_eq_true rfl, rfl⟩ (s_258 kc v1 (5 : Int32) v5 m4 _ h) ?_
        rintro _ m6 ⟨rfl, h⟩
        refine it_V.at (pc1 := 139) (ls1 := [some (.ref 66), some (.int v1), none, some (.int v3), none, some (.int v5), some (.int v6), some (.int v7), none, none]) (st1 := []) (mem1 := m6) rfl rfl rfl rfl ?_
        refine it_V.sN it_cd331 it_m331 1 (pc1 := 162) (ls1 := [some (.ref 66), some (.int v1), none, some (.int v3), none, some (.int v5), some (.int v6), some (.int v7), none, none]) (st1 := []) (mem1 := m6) rfl ?_
        refine it_V.weak (l := [none, none, none, none, none, none, none, none, none, none]) trivial ?_
        exact s_331_162 kc Φ m6 h
      · have h := h.2 c5
        refine it_V.sN it_cd331 it_m331 4 (pc1 := 149) (ls1 := [some (.ref 66), some (.int v1), none, some (.int v3), none, some (.int v5), some (.int v6), some (.int v7), none, none]) (st1 := [(.int v5), (.int v1), (.ref 97)]) (mem1 := m4) rfl ?_
        obtain ⟨g7, h⟩ := h
        refine it_V.iast it_cd331 it_m331 rfl ((⟨rfl, by decide⟩ : it_isR 97 8)).1 g7 ?_
        refine it_V.at (pc1 := 150) (ls1 := [some (.ref 66), some (.int v1), none, some (.int v3), none, some (.int v5), some (.int v6), some (.int v7), none, none]) (st1 := []) (mem1 := (it_sv m4 97 (Int32.toNatClampNeg v1) v5)) rfl rfl rfl rfl ?_
        refine it_V.sN it_cd331 it_m331 5 (pc1 := 156) (ls1 := [some (.ref 66), some (.int v1), none, some (.int v3), none, some (.int v5), some (.int v6), some (.int v7), none, none]) (st1 := [(.int v5), (.ref 66), (.int v3), (.int v1), (.ref 66)]) (mem1 := (it_sv m4 97 (Int32.toNatClampNeg v1) v5)) rfl ?_
        refine it_V.call it_cd331 it_m331 rfl it_m220 [(.ref 66), (.int v5)] [(.int v3), (.int v1), (.ref 66)] rfl rfl ⟨Nat.le_of_ble_eq_true rfl, Nat.le_of_ble_eq_true rfl, Nat.le_of_ble_eq_true rfl, Nat.le_of_ble_eq_true rfl, rfl⟩ (s_220 kc v5 (it_sv m4 97 (Int32.toNatClampNeg v1) v5) _ h) ?_
        rintro _ m9 ⟨r8, rfl, h⟩
        refine it_V.at (pc1 := 159) (ls1 := [some (.ref 66), some (.int v1), none, some (.int v3), none, some (.int v5), some (.int v6), some (.int v7), none, none]) (st1 := [(.int r8), (.int v3), (.int v1), (.ref 66)]) (mem1 := m9) rfl rfl rfl rfl ?_
        refine it_V.call it_cd331 it_m331 rfl it_m323 [(.ref 66), (.int v1), (.int v3), (.int r8)] [] rfl rfl ⟨Nat.le_of_ble_eq_true rfl, Nat.le_of_ble_eq_true rfl, Nat.le_of_ble_eq_true rfl, Nat.le_of_ble_eq_true rfl, rfl⟩ (s_323 kc v1 v3 r8 m9 _ h) ?_
        rintro _ m10 ⟨rfl, h⟩
        refine it_V.at (pc1 := 162) (ls1 := [some (.ref 66), some (.int v1), none, some (.int v3), none, some (.int v5), some (.int v6), some (.int v7), none, none]) (st1 := []) (mem1 := m10) rfl rfl rfl rfl ?_
        refine it_V.weak (l := [none, none, none, none, none, none, none, none, none, none]) trivial ?_
        exact s_331_162 kc Φ m10 h
    · have h := h.2 c2
      refine it_V.sN it_cd331 it_m331 4 (pc1 := 113) (ls1 := [some (.ref 66), some (.int v1), none, some (.int v3), none, some (.int v5), some (.int v6), some (.int v7), none, none]) (st1 := [(.int v5), (.int (4 : Int32)), (.int v1), (.ref 66)]) (mem1 := m) rfl ?_
      refine it_V.call it_cd331 it_m331 rfl it_m258 [(.ref 66), (.int v1), (.int (4 : Int32)), (.int v5)] [] rfl rfl ⟨Nat.le_of_ble_eq_true rfl, Nat.le_of_ble_eq_true rfl, Nat.le_of_ble_eq_true rfl, Nat.le_of_ble_eq_true rfl, rfl⟩ (s_258 kc v1 (4 : Int32) v5 m _ h) ?_
      rintro _ m11 ⟨rfl, h⟩
      refine it_V.at (pc1 := 116) (ls1 := [some (.ref 66), some (.int v1), none, some (.int v3), none, some (.int v5), some (.int v6), some (.int v7), none, none]) (st1 := []) (mem1 := m11) rfl rfl rfl rfl ?_
      refine it_V.sN it_cd331 it_m331 1 (pc1 := 162) (ls1 := [some (.ref 66), some (.int v1), none, some (.int v3), none, some (.int v5), some (.int v6), some (.int v7), none, none]) (st1 := []) (mem1 := m11) rfl ?_
      refine it_V.weak (l := [none, none, none, none, none, none, none, none, none, none]) trivial ?_
      exact s_331_162 kc Φ m11 h
  · have h := h.2 c1
    refine it_V.sN it_cd331 it_m331 4 (pc1 := (if (v5 &&& (3 : Int32)) = 0 then 182 else 170)) (ls1 := [some (.ref 66), some (.int v1), none, some (.int v3), none, some (.int v5), some (.int v6), some (.int v7), none, none]) (st1 := []) (mem1 := m) rfl ?_
    refine it_V.ite (fun c12 => ?_) (fun c12 => ?_)
    · have h := h.1 c12
      refine it_V.sN it_cd331 it_m331 7 (pc1 := (if v7 = (3 : Int32) then 193 else 197)) (ls1 := [some (.ref 66), some (.int v1), none, some (.int v3), none, some (.int v5), some (.int v6), some (.int v7), none, none]) (st1 := [(.int (4 : Int32)), (.int v5), (.int v1), (.ref 66)]) (mem1 := m) rfl ?_
      refine it_V.ite (fun c13 => ?_) (fun c13 => ?_)
      · have h := h.1 c13
        refine it_V.sN it_cd331 it_m331 2 (pc1 := 198) (ls1 := [some (.ref 66), some (.int v1), none, some (.int v3), none, some (.int v5), some (.int v6), some (.int v7), none, none]) (st1 := [(.int (2 : Int32)), (.int (4 : Int32)), (.int v5), (.int v1), (.ref 66)]) (mem1 := m) rfl ?_
        refine it_V.weak (l := [some (.ref 66), some (.int v1), none, some (.int v3), none, some (.int v5), some (.int v6), some (.int v7), none, none]) ⟨rfl, ⟨rfl, ⟨rfl, ⟨rfl, ⟨rfl, ⟨rfl, trivial⟩⟩⟩⟩⟩⟩ ?_
        exact s_331_198 kc Φ v1 v3 v5 v6 v7 v1 v5 (4 : Int32) (2 : Int32) m h
      · have h := h.2 c13
        refine it_V.sN it_cd331 it_m331 1 (pc1 := 198) (ls1 := [some (.ref 66), some (.int v1), none, some (.int v3), none, some (.int v5), some (.int v6), some (.int v7), none, none]) (st1 := [(.int (3 : Int32)), (.int (4 : Int32)), (.int v5), (.int v1), (.ref 66)]) (mem1 := m) rfl ?_
        refine it_V.weak (l := [some (.ref 66), some (.int v1), none, some (.int v3), none, some (.int v5), some (.int v6), some (.int v7), none, none]) ⟨rfl, ⟨rfl, ⟨rfl, ⟨rfl, ⟨rfl, ⟨rfl, trivial⟩⟩⟩⟩⟩⟩ ?_
        exact s_331_198 kc Φ v1 v3 v5 v6 v7 v1 v5 (4 : Int32) (3 : Int32) m h
    · have h := h.2 c12
      refine it_V.sN it_cd331 it_m331 4 (pc1 := 176) (ls1 := [some (.ref 66), some (.int v1), none, some (.int v3), none, some (.int v5), some (.int v6), some (.int v7), none, none]) (st1 := [(.int v5), (.int (6 : Int32)), (.int v1), (.ref 66)]) (mem1 := m) rfl ?_
      refine it_V.call it_cd331 it_m331 rfl it_m258 [(.ref 66), (.int v1), (.int (6 : Int32)), (.int v5)] [] rfl rfl ⟨Nat.le_of_ble_eq_true rfl, Nat.le_of_ble_eq_true rfl, Nat.le_of_ble_eq_true rfl, Nat.le_of_ble_eq_true rfl, rfl⟩ (s_258 kc v1 (6 : Int32) v5 m _ h) ?_
      rintro _ m14 ⟨rfl, h⟩
      refine it_V.at (pc1 := 179) (ls1 := [some (.ref 66), some (.int v1), none, some (.int v3), none, some (.int v5), some (.int v6), some (.int v7), none, none]) (st1 := []) (mem1 := m14) rfl rfl rfl rfl ?_
      refine it_V.sN it_cd331 it_m331 1 (pc1 := 311) (ls1 := [some (.ref 66), some (.int v1), none, some (.int v3), none, some (.int v5), some (.int v6), some (.int v7), none, none]) (st1 := []) (mem1 := m14) rfl ?_
      refine it_V.weak (l := [none, none, none, none, none, none, none, none, none, none]) trivial ?_
      exact s_331_311 kc Φ m14 h
set_option maxRecDepth 100000 in
set_option maxHeartbeats 4000000 in
theorem s_331_59 (kc : it_Kc) (Φ : it_Me → Prop) (v1 : Int32) (v2 : Int32) (v3 : Int32) (v4 : Int32) (v5 : Int32) (v6 : Int32) (v7 : Int32) (u0 : Int32) (m : it_Me) (h : w_331_59 kc Φ v1 v2 v3 v4 v5 v6 v7 u0 m) : it_V kc it_sh0 331 59 [some (.ref 66), some (.int v1), some (.int v2), some (.int v3), some (.int v4), some (.int v5), some (.int v6), some (.int v7), none, none] [(.int u0)] m (it_Pv Φ) := by
  rw [w_331_59] at h
  refine it_V.sN it_cd331 it_m331 4 (pc1 := (if v4 = (2 : Int32) then 67 else 88)) (ls1 := [some (.ref 66), some (.int v1), some (.int v2), some (.int v3), some (.int v4), some (.int v5), some (.int v6), some (.int v7), some (.int u0), none]) (st1 := []) (mem1 := m) rfl ?_
  refine it_V.ite (fun c1 => ?_) (fun c1 => ?_)
  · have h := h.1 c1
    refine it_V.sN it_cd331 it_m331 2 (pc1 := (if u0 = 0 then 88 else 72)) (ls1 := [some (.ref 66), some (.int v1), some (.int v2), some (.int v3), some (.int v4), some (.int v5), some (.int v6), some (.int v7), some (.int u0), none]) (st1 := []) (mem1 := m) rfl ?_
    refine it_V.ite (fun c2 => ?_) (fun c2 => ?_)
    · have h := h.1 c2
      refine it_V.weak (l := [some (.ref 66), some (.int v1), some (.int v2), none, none, none, none, none, none, none]) ⟨rfl, ⟨rfl, ⟨rfl, trivial⟩⟩⟩ ?_
      exact s_331_88 kc Φ v1 v2 m h
    · have h := h.2 c2
      refine it_V.sN it_cd331 it_m331 3 (pc1 := (if v7 = (2 : Int32) then 78 else 95)) (ls1 := [some (.ref 66), some (.int v1), some (.int v2), some (.int v3), some (.int v4), some (.int v5), some (.int v6), some (.int v7), some (.int u0), none]) (st1 := []) (mem1 := m) rfl ?_
      refine it_V.ite (fun c3 => ?_) (fun c3 => ?_)
      · have h := h.1 c3
        refine it_V.sN it_cd331 it_m331 6 (pc1 := (if ((it_us v2 (20 : Int32)) &&& (31 : Int32)) = 0 then 95 else 88)) (ls1 := [some (.ref 66), some (.int v1), some (.int v2), some (.int v3), some (.int v4), some (.int v5), some (.int v6), some (.int v7), some (.int u0), none]) (st1 := []) (mem1 := m) rfl ?_
        refine it_V.ite (fun c4 => ?_) (fun c4 => ?_)
        · have h := h.1 c4
          refine it_V.weak (l := [some (.ref 66), some (.int v1), none, some (.int v3), none, some (.int v5), some (.int v6), some (.int v7), none, none]) ⟨rfl, ⟨rfl, ⟨rfl, ⟨rfl, ⟨rfl, ⟨rfl, trivial⟩⟩⟩⟩⟩⟩ ?_
          exact s_331_95 kc Φ v1 v3 v5 v6 v7 m h
        · have h := h.2 c4
          refine it_V.weak (l := [some (.ref 66), some (.int v1), some (.int v2), none, none, none, none, none, none, none]) ⟨rfl, ⟨rfl, ⟨rfl, trivial⟩⟩⟩ ?_
          exact s_331_88 kc Φ v1 v2 m h
      · have h := h.2 c3
        refine it_V.weak (l := [some (.ref 66), some (.int v1), none, some (.int v3), none, some (.int v5), some (.int v6), some (.int v7), none, none]) ⟨rfl, ⟨rfl, ⟨rfl, ⟨rfl, ⟨rfl, ⟨rfl, trivial⟩⟩⟩⟩⟩⟩ ?_
        exact s_331_95 kc Φ v1 v3 v5 v6 v7 m h
  · have h := h.2 c1
    refine it_V.weak (l := [some (.ref 66), some (.int v1), some (.int v2), none, none, none, none, none, none, none]) ⟨rfl, ⟨rfl, ⟨rfl, trivial⟩⟩⟩ ?_
    exact s_331_88 kc Φ v1 v2 m h
set_option maxRecDepth 100000 in
set_option maxHeartbeats 4000000 in
theorem s_331_54 (kc : it_Kc) (Φ : it_Me → Prop) (v1 : Int32) (v2 : Int32) (v3 : Int32) (v4 : Int32) (v5 : Int32) (v6 : Int32) (v7 : Int32) (m : it_Me) (h : w_331_54 kc Φ v1 v2 v3 v4 v5 v6 v7 m) : it_V kc it_sh0 331 54 [some (.ref 66), some (.int v1), some (.int v2), some (.int v3), some (.int v4), some (.int v5), some (.int v6), some (.int v7), none, none] [] m (it_Pv Φ) := by
  rw [w_331_54] at h
  refine it_V.sN it_cd331 it_m331 2 (pc1 := 59) (ls1 := [some (.ref 66), some (.int v1), some (.int v2), some (.int v3), some (.int v4), some (.int v5), some (.int v6), some (.int v7), none, none]) (st1 := [(.int (1 : Int32))]) (mem1 := m) rfl ?_
  refine it_V.weak (l := [some (.ref 66), some (.int v1), some (.int v2), some (.int v3), some (.int v4), some (.int v5), some (.int v6), some (.int v7), none, none]) ⟨rfl, ⟨rfl, ⟨rfl, ⟨rfl, ⟨rfl, ⟨rfl, ⟨rfl, ⟨rfl, trivial⟩⟩⟩⟩⟩⟩⟩⟩ ?_
  exact s_331_59 kc Φ v1 v2 v3 v4 v5 v6 v7 (1 : Int32) m h
set_option maxRecDepth 100000 in
set_option maxHeartbeats 4000000 in
theorem s_331 (kc : it_Kc) (x0 : Int32) (x1 : Int32) (x2 : Int32) (x3 : Int32) (x4 : Int32) (x5 : Int32) (m : it_Me) (Φ : it_Me → Prop) (h : w_331 kc x0 x1 x2 x3 x4 x5 m Φ) : it_V kc it_sh0 331 0 (it_loc0 [(.ref 66), (.int x0), (.int x1), (.int x2), (.int x3), (.int x4), (.int x5)] 10) [] m (it_Pv Φ) := by
  rw [w_331] at h
  refine it_V.at (pc1 := 0) (ls1 := [some (.ref 66), some (.int x0), some (.int x1), some (.int x2), some (.int x3), some (.int x4), some (.int x5), none, none, none]) (st1 := []) (mem1 := m) rfl rfl rfl rfl ?_
  refine it_V.sN it_cd331 it_m331 7 (pc1 := (if (it_us x1 (27 : Int32)) ≤ (4 : Int32) then 54 else 12)) (ls1 := [some (.ref 66), some (.int x0), some (.int x1), some (.int x2), some (.int x3), some (.int x4), some (.int x5), some (.int (it_us x1 (27 : Int32))), none, none]) (st1 := []) (mem1 := m) rfl ?_
  refine it_V.ite (fun c1 => ?_) (fun c1 => ?_)
  · have h := h.1 c1
    exact s_331_54 kc Φ x0 x1 x2 x3 x4 x5 (it_us x1 (27 : Int32)) m h
  · have h := h.2 c1
    refine it_V.sN it_cd331 it_m331 3 (pc1 := (if (it_us x1 (27 : Int32)) = (8 : Int32) then 54 else 19)) (ls1 := [some (.ref 66), some (.int x0), some (.int x1), some (.int x2), some (.int x3), some (.int x4), some (.int x5), some (.int (it_us x1 (27 : Int32))), none, none]) (st1 := []) (mem1 := m) rfl ?_
    refine it_V.ite (fun c2 => ?_) (fun c2 => ?_)
    · have h := h.1 c2
      exact s_331_54 kc Φ x0 x1 x2 x3 x4 x5 (it_us x1 (27 : Int32)) m h
    · have h := h.2 c2
      refine it_V.sN it_cd331 it_m331 3 (pc1 := (if (it_us x1 (27 : Int32)) = (12 : Int32) then 54 else 26)) (ls1 := [some (.ref 66), some (.int x0), some (.int x1), some (.int x2), some (.int x3), some (.int x4), some (.int x5), some (.int (it_us x1 (27 : Int32))), none, none]) (st1 := []) (mem1 := m) rfl ?_
      refine it_V.ite (fun c3 => ?_) (fun c3 => ?_)
      · have h := h.1 c3
        exact s_331_54 kc Φ x0 x1 x2 x3 x4 x5 (it_us x1 (27 : Int32)) m h
      · have h := h.2 c3
        refine it_V.sN it_cd331 it_m331 3 (pc1 := (if (it_us x1 (27 : Int32)) = (16 : Int32) then 54 else 33)) (ls1 := [some (.ref 66), some (.int x0), some (.int x1), some (.int x2), some (.int x3), some (.int x4), some (.int x5), some (.int (it_us x1 (27 : Int32))), none, none]) (st1 := []) (mem1 := m) rfl ?_
        refine it_V.ite (fun c4 => ?_) (fun c4 => ?_)
        · have h := h.1 c4
          exact s_331_54 kc Φ x0 x1 x2 x3 x4 x5 (it_us x1 (27 : Int32)) m h
        · have h := h.2 c4
          refine it_V.sN it_cd331 it_m331 3 (pc1 := (if (it_us x1 (27 : Int32)) = (20 : Int32) then 54 else 40)) (ls1 := [some (.ref 66), some (.int x0), some (.int x1), some (.int x2), some (.int x3), some (.int x4), some (.int x5), some (.int (it_us x1 (27 : Int32))), none, none]) (st1 := []) (mem1 := m) rfl ?_
          refine it_V.ite (fun c5 => ?_) (fun c5 => ?_)
          · have h := h.1 c5
            exact s_331_54 kc Φ x0 x1 x2 x3 x4 x5 (it_us x1 (27 : Int32)) m h
          · have h := h.2 c5
            refine it_V.sN it_cd331 it_m331 3 (pc1 := (if (it_us x1 (27 : Int32)) = (24 : Int32) then 54 else 47)) (ls1 := [some (.ref 66), some (.int x0), some (.int x1), some (.int x2), some (.int x3), some (.int x4), some (.int x5), some (.int (it_us x1 (27 : Int32))), none, none]) (st1 := []) (mem1 := m) rfl ?_
            refine it_V.ite (fun c6 => ?_) (fun c6 => ?_)
            · have h := h.1 c6
              exact s_331_54 kc Φ x0 x1 x2 x3 x4 x5 (it_us x1 (27 : Int32)) m h
            · have h := h.2 c6
              refine it_V.sN it_cd331 it_m331 3 (pc1 := (if (it_us x1 (27 : Int32)) = (28 : Int32) then 54 else 58)) (ls1 := [some (.ref 66), some (.int x0), some (.int x1), some (.int x2), some (.int x3), some (.int x4), some (.int x5), some (.int (it_us x1 (27 : Int32))), none, none]) (st1 := []) (mem1 := m) rfl ?_
              refine it_V.ite (fun c7 => ?_) (fun c7 => ?_)
              · have h := h.1 c7
                exact s_331_54 kc Φ x0 x1 x2 x3 x4 x5 (it_us x1 (27 : Int32)) m h
              · have h := h.2 c7
                refine it_V.sN it_cd331 it_m331 1 (pc1 := 59) (ls1 := [some (.ref 66), some (.int x0), some (.int x1), some (.int x2), some (.int x3), some (.int x4), some (.int x5), some (.int (it_us x1 (27 : Int32))), none, none]) (st1 := [(.int (0 : Int32))]) (mem1 := m) rfl ?_
                exact s_331_59 kc Φ x0 x1 x2 x3 x4 x5 (it_us x1 (27 : Int32)) (0 : Int32) m h
set_option maxRecDepth 100000 in
set_option maxHeartbeats 4000000 in
theorem s_322_523 (kc : it_Kc) (Φ : it_Me → Prop) (m : it_Me) (h : w_322_523 kc Φ m) : it_V kc it_sh0 322 523 [none, none, none, none, none, none, none, none, none, none] [] m (it_Pv Φ) := by
  rw [w_322_523] at h
  exact it_V.ret it_cd322 it_m322 rfl rfl ⟨rfl, h⟩
set_option maxRecDepth 100000 in
set_option maxHeartbeats 4000000 in
theorem s_322_335 (kc : it_Kc) (Φ : it_Me → Prop) (v1 : Int32) (v2 : Int32) (m : it_Me) (h : w_322_335 kc Φ v1 v2 m) : it_V kc it_sh0 322 335 [some (.ref 66), some (.int v1), some (.int v2), none, none, none, none, none, none, none] [] m (it_Pv Φ) := by
  rw [w_322_335] at h
  refine it_V.sN it_cd322 it_m322 3 (pc1 := 338) (ls1 := [some (.ref 66), some (.int v1), some (.int v2), none, none, none, none, none, none, none]) (st1 := [(.int v2), (.int v1), (.ref 66)]) (mem1 := m) rfl ?_
  refine it_V.call it_cd322 it_m322 rfl it_m321 [(.ref 66), (.int v1), (.int v2)] [] rfl rfl ⟨Nat.le_of_ble_eq_true rfl, Nat.le_of_ble_eq_true rfl, Nat.le_of_ble_eq_true rfl, Nat.le_of_ble_eq_true rfl, rfl⟩ (s_321 kc v1 v2 m _ h) ?_
  rintro _ m1 ⟨rfl, h⟩
  refine it_V.at (pc1 := 341) (ls1 := [some (.ref 66), some (.int v1), some (.int v2), none, none, none, none, none, none, none]) (st1 := []) (mem1 := m1) rfl rfl rfl rfl ?_
  refine it_V.sN it_cd322 it_m322 1 (pc1 := 523) (ls1 := [some (.ref 66), some (.int v1), some (.int v2), none, none, none, none, none, none, none]) (st1 := []) (mem1 := m1) rfl ?_
  refine it_V.weak (l := [none, none, none, none, none, none, none, none, none, none]) trivial ?_
  exact s_322_523 kc Φ m1 h
set_option maxRecDepth 100000 in
set_option maxHeartbeats 4000000 in
theorem s_322 (kc : it_Kc) (x0 : Int32) (x1 : Int32) (m : it_Me) (Φ : it_Me → Prop) (h : w_322 kc x0 x1 m Φ) : it_V kc it_sh0 322 0 (it_loc0 [(.ref 66), (.int x0), (.int x1)] 10) [] m (it_Pv Φ) := by
  rw [w_322] at h
  refine it_V.at (pc1 := 0) (ls1 := [some (.ref 66), some (.int x0), some (.int x1), none, none, none, none, none, none, none]) (st1 := []) (mem1 := m) rfl rfl rfl rfl ?_
  refine it_V.sN it_cd322 it_m322 19 (pc1 := 26) (ls1 := [some (.ref 66), some (.int x0), some (.int x1), some (.int ((it_us x1 (7 : Int32)) &&& (31 : Int32))), some (.int ((it_us x1 (12 : Int32)) &&& (7 : Int32))), none, none, none, none, none]) (st1 := [(.int ((it_us x1 (15 : Int32)) &&& (31 : Int32))), (.int x0), (.ref 66)]) (mem1 := m) rfl ?_
  refine it_V.call it_cd322 it_m322 rfl it_m318 [(.ref 66), (.int x0), (.int ((it_us x1 (15 : Int32)) &&& (31 : Int32)))] [] rfl rfl ⟨Nat.le_of_ble_eq_true rfl, Nat.le_of_ble_eq_true rfl, Nat.le_of_ble_eq_true rfl, Nat.le_of_ble_eq_true rfl, rfl⟩ (s_318 kc x0 ((it_us x1 (15 : Int32)) &&& (31 : Int32)) m _ h) ?_
  rintro _ m2 ⟨r1, rfl, h⟩
  refine it_V.at (pc1 := 29) (ls1 := [some (.ref 66), some (.int x0), some (.int x1), some (.int ((it_us x1 (7 : Int32)) &&& (31 : Int32))), some (.int ((it_us x1 (12 : Int32)) &&& (7 : Int32))), none, none, none, none, none]) (st1 := [(.int r1)]) (mem1 := m2) rfl rfl rfl rfl ?_
  refine it_V.sN it_cd322 it_m322 8 (pc1 := 40) (ls1 := [some (.ref 66), some (.int x0), some (.int x1), some (.int ((it_us x1 (7 : Int32)) &&& (31 : Int32))), some (.int ((it_us x1 (12 : Int32)) &&& (7 : Int32))), some (.int r1), none, none, none, none]) (st1 := [(.int ((it_us x1 (20 : Int32)) &&& (31 : Int32))), (.int x0), (.ref 66)]) (mem1 := m2) rfl ?_
  refine it_V.call it_cd322 it_m322 rfl it_m318 [(.ref 66), (.int x0), (.int ((it_us x1 (20 : Int32)) &&& (31 : Int32)))] [] rfl rfl ⟨Nat.le_of_ble_eq_true rfl, Nat.le_of_ble_eq_true rfl, Nat.le_of_ble_eq_true rfl, Nat.le_of_ble_eq_true rfl, rfl⟩ (s_318 kc x0 ((it_us x1 (20 : Int32)) &&& (31 : Int32)) m2 _ h) ?_
  rintro _ m4 ⟨r3, rfl, h⟩
  refine it_V.at (pc1 := 43) (ls1 := [some (.ref 66), some (.int x0), some (.int x1), some (.int ((it_us x1 (7 : Int32)) &&& (31 : Int32))), some (.int ((it_us x1 (12 : Int32)) &&& (7 : Int32))), some (.int r1), none, none, none, none]) (st1 := [(.int r3)]) (mem1 := m4) rfl rfl rfl rfl ?_
  refine it_V.sN it_cd322 it_m322 4 (pc1 := 50) (ls1 := [some (.ref 66), some (.int x0), some (.int x1), some (.int ((it_us x1 (7 : Int32)) &&& (31 : Int32))), some (.int ((it_us x1 (12 : Int32)) &&& (7 : Int32))), some (.int r1), some (.int r3), none, none, none]) (st1 := [(.int x0), (.ref 94)]) (mem1 := m4) rfl ?_
  obtain ⟨g5, h⟩ := h
  refine it_V.iald it_cd322 it_m322 rfl ((⟨rfl, by decide⟩ : it_isR 94 8)).2 ((⟨rfl, by decide⟩ : it_isR 94 8)).1 g5 ?_
  refine it_V.at (pc1 := 51) (ls1 := [some (.ref 66), some (.int x0), some (.int x1), some (.int ((it_us x1 (7 : Int32)) &&& (31 : Int32))), some (.int ((it_us x1 (12 : Int32)) &&& (7 : Int32))), some (.int r1), some (.int r3), none, none, none]) (st1 := [(.int (m4 94 (Int32.toNatClampNeg x0)))]) (mem1 := m4) rfl rfl rfl rfl ?_
  refine it_V.sN it_cd322 it_m322 4 (pc1 := 57) (ls1 := [some (.ref 66), some (.int x0), some (.int x1), some (.int ((it_us x1 (7 : Int32)) &&& (31 : Int32))), some (.int ((it_us x1 (12 : Int32)) &&& (7 : Int32))), some (.int r1), some (.int r3), some (.int (m4 94 (Int32.toNatClampNeg x0))), none, none]) (st1 := [(.int (x1 &&& (127 : Int32)))]) (mem1 := m4) rfl ?_
  refine it_V.sN it_cd322 it_m322 1 (pc1 := (if (x1 &&& (127 : Int32)) = (3 : Int32) then 323 else (if (x1 &&& (127 : Int32)) = (15 : Int32) then 432 else (if (x1 &&& (127 : Int32)) = (19 : Int32) then 402 else (if (x1 &&& (127 : Int32)) = (23 : Int32) then 178 else (if (x1 &&& (127 : Int32)) = (35 : Int32) then 363 else (if (x1 &&& (127 : Int32)) = (47 : Int32) then 501 else (if (x1 &&& (127 : Int32)) = (51 : Int32) then 416 else (if (x1 &&& (127 : Int32)) = (55 : Int32) then 164 else (if (x1 &&& (127 : Int32)) = (99 : Int32) then 308 else (if (x1 &&& (127 : Int32)) = (103 : Int32) then 261 else (if (x1 &&& (127 : Int32)) = (111 : Int32) then 195 else (if (x1 &&& (127 : Int32)) = (115 : Int32) then 460 else 517))))))))))))) (ls1 := [some (.ref 66), some (.int x0), some (.int x1), some (.int ((it_us x1 (7 : Int32)) &&& (31 : Int32))), some (.int ((it_us x1 (12 : Int32)) &&& (7 : Int32))), some (.int r1), some (.int r3), some (.int (m4 94 (Int32.toNatClampNeg x0))), none, none]) (st1 := []) (mem1 := m4) rfl ?_
  refine it_V.ite (fun c6 => ?_) (fun c6 => ?_)
  · have h := h.1 c6
    refine it_V.sN it_cd322 it_m322 3 (pc1 := (if ((it_us x1 (12 : Int32)) &&& (7 : Int32)) = (3 : Int32) then 335 else 329)) (ls1 := [some (.ref 66), some (.int x0), some (.int x1), some (.int ((it_us x1 (7 : Int32)) &&& (31 : Int32))), some (.int ((it_us x1 (12 : Int32)) &&& (7 : Int32))), some (.int r1), some (.int r3), some (.int (m4 94 (Int32.toNatClampNeg x0))), none, none]) (st1 := []) (mem1 := m4) rfl ?_
    refine it_V.ite (fun c7 => ?_) (fun c7 => ?_)
    · have h := h.1 c7
      refine it_V.weak (l := [some (.ref 66), some (.int x0), some (.int x1), none, none, none, none, none, none, none]) ⟨rfl, ⟨rfl, ⟨rfl, trivial⟩⟩⟩ ?_
      exact s_322_335 kc Φ x0 x1 m4 h
    · have h := h.2 c7
      refine it_V.sN it_cd322 it_m322 3 (pc1 := (if ((it_us x1 (12 : Int32)) &&& (7 : Int32)) ≤ (5 : Int32) then 344 else 335)) (ls1 := [some (.ref 66), some (.int x0), some (.int x1), some (.int ((it_us x1 (7 : Int32)) &&& (31 : Int32))), some (.int ((it_us x1 (12 : Int32)) &&& (7 : Int32))), some (.int r1), some (.int r3), some (.int (m4 94 (Int32.toNatClampNeg x0))), none, none]) (st1 := []) (mem1 := m4) rfl ?_
      refine it_V.ite (fun c8 => ?_) (fun c8 => ?_)
      · have h := h.1 c8
        refine it_V.sN it_cd322 it_m322 10 (pc1 := 357) (ls1 := [some (.ref 66), some (.int x0), some (.int x1), some (.int ((it_us x1 (7 : Int32)) &&& (31 : Int32))), some (.int ((it_us x1 (12 : Int32)) &&& (7 : Int32))), some (.int r1), some (.int r3), some (.int (m4 94 (Int32.toNatClampNeg x0))), none, none]) (st1 := [(.int (4 : Int32)), (.int ((it_us x1 (12 : Int32)) &&& (7 : Int32))), (.int (r1 + (it_shr x1 (20 : Int32)))), (.int ((it_us x1 (7 : Int32)) &&& (31 : Int32))), (.int x0), (.ref 66)]) (mem1 := m4) rfl ?_
        refine it_V.call it_cd322 it_m322 rfl it_m325 [(.ref 66), (.int x0), (.int ((it_us x1 (7 : Int32)) &&& (31 : Int32))), (.int (r1 + (it_shr x1 (20 : Int32)))), (.int ((it_us x1 (12 : Int32)) &&& (7 : Int32))), (.int (4 : Int32))] [] rfl rfl ⟨Nat.le_of_ble_eq_true rfl, Nat.le_of_ble_eq_true rfl, Nat.le_of_ble_eq_true rfl, Nat.le_of_ble_eq_true rfl, rfl⟩ (s_325 kc x0 ((it_us x1 (7 : Int32)) &&& (31 : Int32)) (r1 + (it_shr x1 (20 : Int32))) ((it_us x1 (12 : Int32)) &&& (7 : Int32)) (4 : Int32) m4 _ h) ?_
        rintro _ m9 ⟨rfl, h⟩
        refine it_V.at (pc1 := 360) (ls1 := [some (.ref 66), some (.int x0), some (.int x1), some (.int ((it_us x1 (7 : Int32)) &&& (31 : Int32))), some (.int ((it_us x1 (12 : Int32)) &&& (7 : Int32))), some (.int r1), some (.int r3), some (.int (m4 94 (Int32.toNatClampNeg x0))), none, none]) (st1 := []) (mem1 := m9) rfl rfl rfl rfl ?_
        refine it_V.sN it_cd322 it_m322 1 (pc1 := 523) (ls1 := [some (.ref 66), some (.int x0), some (.int x1), some (.int ((it_us x1 (7 : Int32)) &&& (31 : Int32))), some (.int ((it_us x1 (12 : Int32)) &&& (7 : Int32))), some (.int r1), some (.int r3), some (.int (m4 94 (Int32.toNatClampNeg x0))), none, none]) (st1 := []) (mem1 := m9) rfl ?_
        refine it_V.weak (l := [none, none, none, none, none, none, none, none, none, none]) trivial ?_
        exact s_322_523 kc Φ m9 h
      · have h := h.2 c8
        refine it_V.weak (l := [some (.ref 66), some (.int x0), some (.int x1), none, none, none, none, none, none, none]) ⟨rfl, ⟨rfl, ⟨rfl, trivial⟩⟩⟩ ?_
        exact s_322_335 kc Φ x0 x1 m4 h
  · have h := h.2 c6
    refine it_V.ite (fun c10 => ?_) (fun c10 => ?_)
    · have h := h.1 c10
      refine it_V.sN it_cd322 it_m322 3 (pc1 := (if ((it_us x1 (12 : Int32)) &&& (7 : Int32)) ≤ (1 : Int32) then 447 else 438)) (ls1 := [some (.ref 66), some (.int x0), some (.int x1), some (.int ((it_us x1 (7 : Int32)) &&& (31 : Int32))), some (.int ((it_us x1 (12 : Int32)) &&& (7 : Int32))), some (.int r1), some (.int r3), some (.int (m4 94 (Int32.toNatClampNeg x0))), none, none]) (st1 := []) (mem1 := m4) rfl ?_
      refine it_V.ite (fun c11 => ?_) (fun c11 => ?_)
      · have h := h.1 c11
        refine it_V.sN it_cd322 it_m322 6 (pc1 := 456) (ls1 := [some (.ref 66), some (.int x0), some (.int x1), some (.int ((it_us x1 (7 : Int32)) &&& (31 : Int32))), some (.int ((it_us x1 (12 : Int32)) &&& (7 : Int32))), some (.int r1), some (.int r3), some (.int (m4 94 (Int32.toNatClampNeg x0))), none, none]) (st1 := [(.int ((m4 94 (Int32.toNatClampNeg x0)) + (4 : Int32))), (.int x0), (.ref 94)]) (mem1 := m4) rfl ?_
        obtain ⟨g12, h⟩ := h
        refine it_V.iast it_cd322 it_m322 rfl ((⟨rfl, by decide⟩ : it_isR 94 8)).1 g12 ?_
        refine it_V.at (pc1 := 457) (ls1 := [some (.ref 66), some (.int x0), some (.int x1), some (.int ((it_us x1 (7 : Int32)) &&& (31 : Int32))), some (.int ((it_us x1 (12 : Int32)) &&& (7 : Int32))), some (.int r1), some (.int r3), some (.int (m4 94 (Int32.toNatClampNeg x0))), none, none]) (st1 := []) (mem1 := (it_sv m4 94 (Int32.toNatClampNeg x0) ((m4 94 (Int32.toNatClampNeg x0)) + (4 : Int32)))) rfl rfl rfl rfl ?_
        refine it_V.sN it_cd322 it_m322 1 (pc1 := 523) (ls1 := [some (.ref 66), some (.int x0), some (.int x1), some (.int ((it_us x1 (7 : Int32)) &&& (31 : Int32))), some (.int ((it_us x1 (12 : Int32)) &&& (7 : Int32))), some (.int r1), some (.int r3), some (.int (m4 94 (Int32.toNatClampNeg x0))), none, none]) (st1 := []) (mem1 := (it_sv m4 94 (Int32.toNatClampNeg x0) ((m4 94 (Int32.toNatClampNeg x0)) + (4 : Int32)))) rfl ?_
        refine it_V.weak (l := [none, none, none, none, none, none, none, none, none, none]) trivial ?_
        exact s_322_523 kc Φ (it_sv m4 94 (Int32.toNatClampNeg x0) ((m4 94 (Int32.toNatClampNeg x0)) + (4 : Int32))) h
      · have h := h.2 c11
        refine it_V.sN it_cd322 it_m322 3 (pc1 := 441) (ls1 := [some (.ref 66), some (.int x0), some (.int x1), some (.int ((it_us x1 (7 : Int32)) &&& (31 : Int32))), some (.int ((it_us x1 (12 : Int32)) &&& (7 : Int32))), some (.int r1), some (.int r3), some (.int (m4 94 (Int32.toNatClampNeg x0))), none, none]) (st1 := [(.int x1), (.int x0), (.ref 66)]) (mem1 := m4) rfl ?_
        refine it_V.call it_cd322 it_m322 rfl it_m321 [(.ref 66), (.int x0), (.int x1)] [] rfl rfl ⟨Nat.le_of_ble_eq_true rfl, Nat.le_of_ble_eq_true rfl, Nat.le_of_ble_eq_true rfl, Nat.le_of_ble_eq_true rfl, rfl⟩ (s_321 kc x0 x1 m4 _ h) ?_
        rintro _ m13 ⟨rfl, h⟩
        refine it_V.at (pc1 := 444) (ls1 := [some (.ref 66), some (.int x0), some (.int x1), some (.int ((it_us x1 (7 : Int32)) &&& (31 : Int32))), some (.int ((it_us x1 (12 : Int32)) &&& (7 : Int32))), some (.int r1), some (.int r3), some (.int (m4 94 (Int32.toNatClampNeg x0))), none, none]) (st1 := []) (mem1 := m13) rfl rfl rfl rfl ?_
        refine it_V.sN it_cd322 it_m322 1 (pc1 := 523) (ls1 := [some (.ref 66), some (.int x0), some (.int x1), some (.int ((it_us x1 (7 : Int32)) &&& (31 : Int32))), some (.int ((it_us x1 (12 : Int32)) &&& (7 : Int32))), some (.int r1), some (.int r3), some (.int (m4 94 (Int32.toNatClampNeg x0))), none, none]) (st1 := []) (mem1 := m13) rfl ?_
        refine it_V.weak (l := [none, none, none, none, none, none, none, none, none, none]) trivial ?_
        exact s_322_523 kc Φ m13 h
    · have h := h.2 c10
      refine it_V.ite (fun c14 => ?_) (fun c14 => ?_)
      · have h := h.1 c14
        refine it_V.sN it_cd322 it_m322 6 (pc1 := 410) (ls1 := [some (.ref 66), some (.int x0), some (.int x1), some (.int ((it_us x1 (7 : Int32)) &&& (31 : Int32))), some (.int ((it_us x1 (12 : Int32)) &&& (7 : Int32))), some (.int r1), some (.int r3), some (.int (m4 94 (Int32.toNatClampNeg x0))), none, none]) (st1 := [(.int r1), (.int ((it_us x1 (12 : Int32)) &&& (7 : Int32))), (.int ((it_us x1 (7 : Int32)) &&& (31 : Int32))), (.int x1), (.int x0), (.ref 66)]) (mem1 := m4) rfl ?_
        refine it_V.call it_cd322 it_m322 rfl it_m327 [(.ref 66), (.int x0), (.int x1), (.int ((it_us x1 (7 : Int32)) &&& (31 : Int32))), (.int ((it_us x1 (12 : Int32)) &&& (7 : Int32))), (.int r1)] [] rfl rfl ⟨Nat.le_of_ble_eq_true rfl, Nat.le_of_ble_eq_true rfl, Nat.le_of_ble_eq_true rfl, Nat.le_of_ble_eq_true rfl, rfl⟩ (s_327 kc x0 x1 ((it_us x1 (7 : Int32)) &&& (31 : Int32)) ((it_us x1 (12 : Int32)) &&& (7 : Int32)) r1 m4 _ h) ?_
        rintro _ m15 ⟨rfl, h⟩
        refine it_V.at (pc1 := 413) (ls1 := [some (.ref 66), some (.int x0), some (.int x1), some (.int ((it_us x1 (7 : Int32)) &&& (31 : Int32))), some (.int ((it_us x1 (12 : Int32)) &&& (7 : Int32))), some (.int r1), some (.int r3), some (.int (m4 94 (Int32.toNatClampNeg x0))), none, none]) (st1 := []) (mem1 := m15) rfl rfl rfl rfl ?_
        refine it_V.sN it_cd322 it_m322 1 (pc1 := 523) (ls1 := [some (.ref 66), some (.int x0), some (.int x1), some (.int ((it_us x1 (7 : Int32)) &&& (31 : Int32))), some (.int ((it_us x1 (12 : Int32)) &&& (7 : Int32))), some (.int r1), some (.int r3), some (.int (m4 94 (Int32.toNatClampNeg x0))), none, none]) (st1 := []) (mem1 := m15) rfl ?_
        refine it_V.weak (l := [none, none, none, none, none, none, none, none, none, none]) trivial ?_
        exact s_322_523 kc Φ m15 h
      · have h := h.2 c14
        refine it_V.ite (fun c16 => ?_) (fun c16 => ?_)
        · have h := h.1 c16
          refine it_V.sN it_cd322 it_m322 8 (pc1 := 189) (ls1 := [some (.ref 66), some (.int x0), some (.int x1), some (.int ((it_us x1 (7 : Int32)) &&& (31 : Int32))), some (.int ((it_us x1 (12 : Int32)) &&& (7 : Int32))), some (.int r1), some (.int r3), some (.int (m4 94 (Int32.toNatClampNeg x0))), none, none]) (st1 := [(.int ((m4 94 (Int32.toNatClampNeg x0)) + (x1 &&& (-4096 : Int32)))), (.int ((it_us x1 (7 : Int32)) &&& (31 : Int32))), (.int x0), (.ref 66)]) (mem1 := m4) rfl ?_
          refine it_V.call it_cd322 it_m322 rfl it_m323 [(.ref 66), (.int x0), (.int ((it_us x1 (7 : Int32)) &&& (31 : Int32))), (.int ((m4 94 (Int32.toNatClampNeg x0)) + (x1 &&& (-4096 : Int32))))] [] rfl rfl ⟨Nat.le_of_ble_eq_true rfl, Nat.le_of_ble_eq_true rfl, Nat.le_of_ble_eq_true rfl, Nat.le_of_ble_eq_true rfl, rfl⟩ (s_323 kc x0 ((it_us x1 (7 : Int32)) &&& (31 : Int32)) ((m4 94 (Int32.toNatClampNeg x0)) + (x1 &&& (-4096 : Int32))) m4 _ h) ?_
          rintro _ m17 ⟨rfl, h⟩
          refine it_V.at (pc1 := 192) (ls1 := [some (.ref 66), some (.int x0), some (.int x1), some (.int ((it_us x1 (7 : Int32)) &&& (31 : Int32))), some (.int ((it_us x1 (12 : Int32)) &&& (7 : Int32))), some (.int r1), some (.int r3), some (.int (m4 94 (Int32.toNatClampNeg x0))), none, none]) (st1 := []) (mem1 := m17) rfl rfl rfl rfl ?_
          refine it_V.sN it_cd322 it_m322 1 (pc1 := 523) (ls1 := [some (.ref 66), some (.int x0), some (.int x1), some (.int ((it_us x1 (7 : Int32)) &&& (31 : Int32))), some (.int ((it_us x1 (12 : Int32)) &&& (7 : Int32))), some (.int r1), some (.int r3), some (.int (m4 94 (Int32.toNatClampNeg x0))), none, none]) (st1 := []) (mem1 := m17) rfl ?_
          refine it_V.weak (l := [none, none, none, none, none, none, none, none, none, none]) trivial ?_
          exact s_322_523 kc Φ m17 h
        · have h := h.2 c16
          refine it_V.ite (fun c18 => ?_) (fun c18 => ?_)
          · have h := h.1 c18
            refine it_V.sN it_cd322 it_m322 3 (pc1 := (if ((it_us x1 (12 : Int32)) &&& (7 : Int32)) ≤ (2 : Int32) then 378 else 369)) (ls1 := [some (.ref 66), some (.int x0), some (.int x1), some (.int ((it_us x1 (7 : Int32)) &&& (31 : Int32))), some (.int ((it_us x1 (12 : Int32)) &&& (7 : Int32))), some (.int r1), some (.int r3), some (.int (m4 94 (Int32.toNatClampNeg x0))), none, none]) (st1 := []) (mem1 := m4) rfl ?_
            refine it_V.ite (fun c19 => ?_) (fun c19 => ?_)
            · have h := h.1 c19
              refine it_V.sN it_cd322 it_m322 14 (pc1 := 396) (ls1 := [some (.ref 66), some (.int x0), some (.int x1), some (.int ((it_us x1 (7 : Int32)) &&& (31 : Int32))), some (.int ((it_us x1 (12 : Int32)) &&& (7 : Int32))), some (.int r1), some (.int r3), some (.int (m4 94 (Int32.toNatClampNeg x0))), none, none]) (st1 := [(.int (4 : Int32)), (.int r3), (.int ((it_us x1 (12 : Int32)) &&& (7 : Int32))), (.int (r1 + ((it_shl (it_shr x1 (25 : Int32)) (5 : Int32)) ||| ((it_us x1 (7 : Int32)) &&& (31 : Int32))))), (.int x0), (.ref 66)]) (mem1 := m4) rfl ?_
              refine it_V.call it_cd322 it_m322 rfl it_m326 [(.ref 66), (.int x0), (.int (r1 + ((it_shl (it_shr x1 (25 : Int32)) (5 : Int32)) ||| ((it_us x1 (7 : Int32)) &&& (31 : Int32))))), (.int ((it_us x1 (12 : Int32)) &&& (7 : Int32))), (.int r3), (.int (4 : Int32))] [] rfl rfl ⟨Nat.le_of_ble_eq_true rfl, Nat.le_of_ble_eq_true rfl, Nat.le_of_ble_eq_true rfl, Nat.le_of_ble_eq_true rfl, rfl⟩ (s_326 kc x0 (r1 + ((it_shl (it_shr x1 (25 : Int32)) (5 : Int32)) ||| ((it_us x1 (7 : Int32)) &&& (31 : Int32)))) ((it_us x1 (12 : Int32)) &&& (7 : Int32)) r3 (4 : Int32) m4 _ h) ?_
              rintro _ m20 ⟨rfl, h⟩
              refine it_V.at (pc1 := 399) (ls1 := [some (.ref 66), some (.int x0), some (.int x1), some (.int ((it_us x1 (7 : Int32)) &&& (31 : Int32))), some (.int ((it_us x1 (12 : Int32)) &&& (7 : Int32))), some (.int r1), some (.int r3), some (.int (m4 94 (Int32.toNatClampNeg x0))), none, none]) (st1 := []) (mem1 := m20) rfl rfl rfl rfl ?_
              refine it_V.sN it_cd322 it_m322 1 (pc1 := 523) (ls1 := [some (.ref 66), some (.int x0), some (.int x1), some (.int ((it_us x1 (7 : Int32)) &&& (31 : Int32))), some (.int ((it_us x1 (12 : Int32)) &&& (7 : Int32))), some (.int r1), some (.int r3), some (.int (m4 94 (Int32.toNatClampNeg x0))), none, none]) (st1 := []) (mem1 := m20) rfl ?_
              refine it_V.weak (l := [none, none, none, none, none, none, none, none, none, none]) trivial ?_
              exact s_322_523 kc Φ m20 h
            · have h := h.2 c19
              refine it_V.sN it_cd322 it_m322 3 (pc1 := 372) (ls1 := [some (.ref 66), some (.int x0), some (.int x1), some (.int ((it_us x1 (7 : Int32)) &&& (31 : Int32))), some (.int ((it_us x1 (12 : Int32)) &&& (7 : Int32))), some (.int r1), some (.int r3), some (.int (m4 94 (Int32.toNatClampNeg x0))), none, none]) (st1 := [(.int x1), (.int x0), (.ref 66)]) (mem1 := m4) rfl ?_
              refine it_V.call it_cd322 it_m322 rfl it_m321 [(.ref 66), (.int x0), (.int x1)] [] rfl rfl ⟨Nat.le_of_ble_eq_true rfl, Nat.le_of_ble_eq_true rfl, Nat.le_of_ble_eq_true rfl, Nat.le_of_ble_eq_true rfl, rfl⟩ (s_321 kc x0 x1 m4 _ h) ?_
              rintro _ m21 ⟨rfl, h⟩
              refine it_V.at (pc1 := 375) (ls1 := [some (.ref 66), some (.int x0), some (.int x1), some (.int ((it_us x1 (7 : Int32)) &&& (31 : Int32))), some (.int ((it_us x1 (12 : Int32)) &&& (7 : Int32))), some (.int r1), some (.int r3), some (.int (m4 94 (Int32.toNatClampNeg x0))), none, none]) (st1 := []) (mem1 := m21) rfl rfl rfl rfl ?_
              refine it_V.sN it_cd322 it_m322 1 (pc1 := 523) (ls1 := [some (.ref 66), some (.int x0), some (.int x1), some (.int ((it_us x1 (7 : Int32)) &&& (31 : Int32))), some (.int ((it_us x1 (12 : Int32)) &&& (7 : Int32))), some (.int r1), some (.int r3), some (.int (m4 94 (Int32.toNatClampNeg x0))), none, none]) (st1 := []) (mem1 := m21) rfl ?_
              refine it_V.weak (l := [none, none, none, none, none, none, none, none, none, none]) trivial ?_
              exact s_322_523 kc Φ m21 h
          · have h := h.2 c18
            refine it_V.ite (fun c22 => ?_) (fun c22 => ?_)
            · have h := h.1 c22
              refine it_V.sN it_cd322 it_m322 7 (pc1 := 511) (ls1 := [some (.ref 66), some (.int x0), some (.int x1), some (.int ((it_us x1 (7 : Int32)) &&& (31 : Int32))), some (.int ((it_us x1 (12 : Int32)) &&& (7 : Int32))), some (.int r1), some (.int r3), some (.int (m4 94 (Int32.toNatClampNeg x0))), none, none]) (st1 := [(.int r3), (.int r1), (.int ((it_us x1 (12 : Int32)) &&& (7 : Int32))), (.int ((it_us x1 (7 : Int32)) &&& (31 : Int32))), (.int x1), (.int x0), (.ref 66)]) (mem1 := m4) rfl ?_
              refine it_V.call it_cd322 it_m322 rfl it_m331 [(.ref 66), (.int x0), (.int x1), (.int ((it_us x1 (7 : Int32)) &&& (31 : Int32))), (.int ((it_us x1 (12 : Int32)) &&& (7 : Int32))), (.int r1), (.int r3)] [] rfl rfl ⟨Nat.le_of_ble_eq_true rfl, Nat.le_of_ble_eq_true rfl, Nat.le_of_ble_eq_true rfl, Nat.le_of_ble_eq_true rfl, rfl⟩ (s_331 kc x0 x1 ((it_us x1 (7 : Int32)) &&& (31 : Int32)) ((it_us x1 (12 : Int32)) &&& (7 : Int32)) r1 r3 m4 _ h) ?_
              rintro _ m23 ⟨rfl, h⟩
              refine it_V.at (pc1 := 514) (ls1 := [some (.ref 66), some (.int x0), some (.int x1), some (.int ((it_us x1 (7 : Int32)) &&& (31 : Int32))), some (.int ((it_us x1 (12 : Int32)) &&& (7 : Int32))), some (.int r1), some (.int r3), some (.int (m4 94 (Int32.toNatClampNeg x0))), none, none]) (st1 := []) (mem1 := m23) rfl rfl rfl rfl ?_
              refine it_V.sN it_cd322 it_m322 1 (pc1 := 523) (ls1 := [some (.ref 66), some (.int x0), some (.int x1), some (.int ((it_us x1 (7 : Int32)) &&& (31 : Int32))), some (.int ((it_us x1 (12 : Int32)) &&& (7 : Int32))), some (.int r1), some (.int r3), some (.int (m4 94 (Int32.toNatClampNeg x0))), none, none]) (st1 := []) (mem1 := m23) rfl ?_
              refine it_V.weak (l := [none, none, none, none, none, none, none, none, none, none]) trivial ?_
              exact s_322_523 kc Φ m23 h
            · have h := h.2 c22
              refine it_V.ite (fun c24 => ?_) (fun c24 => ?_)
              · have h := h.1 c24
                refine it_V.sN it_cd322 it_m322 7 (pc1 := 426) (ls1 := [some (.ref 66), some (.int x0), some (.int x1), some (.int ((it_us x1 (7 : Int32)) &&& (31 : Int32))), some (.int ((it_us x1 (12 : Int32)) &&& (7 : Int32))), some (.int r1), some (.int r3), some (.int (m4 94 (Int32.toNatClampNeg x0))), none, none]) (st1 := [(.int r3), (.int r1), (.int ((it_us x1 (12 : Int32)) &&& (7 : Int32))), (.int ((it_us x1 (7 : Int32)) &&& (31 : Int32))), (.int x1), (.int x0), (.ref 66)]) (mem1 := m4) rfl ?_
                refine it_V.call it_cd322 it_m322 rfl it_m329 [(.ref 66), (.int x0), (.int x1), (.int ((it_us x1 (7 : Int32)) &&& (31 : Int32))), (.int ((it_us x1 (12 : Int32)) &&& (7 : Int32))), (.int r1), (.int r3)] [] rfl rfl ⟨Nat.le_of_ble_eq_true rfl, Nat.le_of_ble_eq_true rfl, Nat.le_of_ble_eq_true rfl, Nat.le_of_ble_eq_true rfl, rfl⟩ (s_329 kc x0 x1 ((it_us x1 (7 : Int32)) &&& (31 : Int32)) ((it_us x1 (12 : Int32)) &&& (7 : Int32)) r1 r3 m4 _ h) ?_
                rintro _ m25 ⟨rfl, h⟩
                refine it_V.at (pc1 := 429) (ls1 := [some (.ref 66), some (.int x0), some (.int x1), some (.int ((it_us x1 (7 : Int32)) &&& (31 : Int32))), some (.int ((it_us x1 (12 : Int32)) &&& (7 : Int32))), some (.int r1), some (.int r3), some (.int (m4 94 (Int32.toNatClampNeg x0))), none, none]) (st1 := []) (mem1 := m25) rfl rfl rfl rfl ?_
                refine it_V.sN it_cd322 it_m322 1 (pc1 := 523) (ls1 := [some (.ref 66), some (.int x0), some (.int x1), some (.int ((it_us x1 (7 : Int32)) &&& (31 : Int32))), some (.int ((it_us x1 (12 : Int32)) &&& (7 : Int32))), some (.int r1), some (.int r3), some (.int (m4 94 (Int32.toNatClampNeg x0))), none, none]) (st1 := []) (mem1 := m25) rfl ?_
                refine it_V.weak (l := [none, none, none, none, none, none, none, none, none, none]) trivial ?_
                exact s_322_523 kc Φ m25 h
              · have h := h.2 c24
                refine it_V.ite (fun c26 => ?_) (fun c26 => ?_)
                · have h := h.1 c26
                  refine it_V.sN it_cd322 it_m322 6 (pc1 := 172) (ls1 := [some (.ref 66), some (.int x0), some (.int x1), some (.int ((it_us x1 (7 : Int32)) &&& (31 : Int32))), some (.int ((it_us x1 (12 : Int32)) &&& (7 : Int32))), some (.int r1), some (.int r3), some (.int (m4 94 (Int32.toNatClampNeg x0))), none, none]) (st1 := [(.int (x1 &&& (-4096 : Int32))), (.int ((it_us x1 (7 : Int32)) &&& (31 : Int32))), (.int x0), (.ref 66)]) (mem1 := m4) rfl ?_
                  refine it_V.call it_cd322 it_m322 rfl it_m323 [(.ref 66), (.int x0), (.int ((it_us x1 (7 : Int32)) &&& (31 : Int32))), (.int (x1 &&& (-4096 : Int32)))] [] rfl rfl ⟨Nat.le_of_ble_eq_true rfl, Nat.le_of_ble_eq_true rfl, Nat.le_of_ble_eq_true rfl, Nat.le_of_ble_eq_true rfl, rfl⟩ (s_323 kc x0 ((it_us x1 (7 : Int32)) &&& (31 : Int32)) (x1 &&& (-4096 : Int32)) m4 _ h) ?_
                  rintro _ m27 ⟨rfl, h⟩
                  refine it_V.at (pc1 := 175) (ls1 := [some (.ref 66), some (.int x0), some (.int x1), some (.int ((it_us x1 (7 : Int32)) &&& (31 : Int32))), some (.int ((it_us x1 (12 : Int32)) &&& (7 : Int32))), some (.int r1), some (.int r3), some (.int (m4 94 (Int32.toNatClampNeg x0))), none, none]) (st1 := []) (mem1 := m27) rfl rfl rfl rfl ?_
                  refine it_V.sN it_cd322 it_m322 1 (pc1 := 523) (ls1 := [some (.ref 66), some (.int x0), some (.int x1), some (.int ((it_us x1 (7 : Int32)) &&& (31 : Int32))), some (.int ((it_us x1 (12 : Int32)) &&& (7 : Int32))), some (.int r1), some (.int r3), some (.int (m4 94 (Int32.toNatClampNeg x0))), none, none]) (st1 := []) (mem1 := m27) rfl ?_
                  refine it_V.weak (l := [none, none, none, none, none, none, none, none, none, none]) trivial ?_
                  exact s_322_523 kc Φ m27 h
                · have h := h.2 c26
                  refine it_V.ite (fun c28 => ?_) (fun c28 => ?_)
                  · have h := h.1 c28
                    refine it_V.sN it_cd322 it_m322 6 (pc1 := 317) (ls1 := [some (.ref 66), some (.int x0), some (.int x1), some (.int ((it_us x1 (7 : Int32)) &&& (31 : Int32))), some (.int ((it_us x1 (12 : Int32)) &&& (7 : Int32))), some (.int r1), some (.int r3), some (.int (m4 94 (Int32.toNatClampNeg x0))), none, none]) (st1 := [(.int r3), (.int r1), (.int ((it_us x1 (12 : Int32)) &&& (7 : Int32))), (.int x1), (.int x0), (.ref 66)]) (mem1 := m4) rfl ?_
                    refine it_V.call it_cd322 it_m322 rfl it_m324 [(.ref 66), (.int x0), (.int x1), (.int ((it_us x1 (12 : Int32)) &&& (7 : Int32))), (.int r1), (.int r3)] [] rfl rfl ⟨Nat.le_of_ble_eq_true rfl, Nat.le_of_ble_eq_true rfl, Nat.le_of_ble_eq_true rfl, Nat.le_of_ble_eq_true rfl, rfl⟩ (s_324 kc x0 x1 ((it_us x1 (12 : Int32)) &&& (7 : Int32)) r1 r3 m4 _ h) ?_
                    rintro _ m29 ⟨rfl, h⟩
                    refine it_V.at (pc1 := 320) (ls1 := [some (.ref 66), some (.int x0), some (.int x1), some (.int ((it_us x1 (7 : Int32)) &&& (31 : Int32))), some (.int ((it_us x1 (12 : Int32)) &&& (7 : Int32))), some (.int r1), some (.int r3), some (.int (m4 94 (Int32.toNatClampNeg x0))), none, none]) (st1 := []) (mem1 := m29) rfl rfl rfl rfl ?_
                    refine it_V.sN it_cd322 it_m322 1 (pc1 := 523) (ls1 := [some (.ref 66), some (.int x0), some (.int x1), some (.int ((it_us x1 (7 : Int32)) &&& (31 : Int32))), some (.int ((it_us x1 (12 : Int32)) &&& (7 : Int32))), some (.int r1), some (.int r3), some (.int (m4 94 (Int32.toNatClampNeg x0))), none, none]) (st1 := []) (mem1 := m29) rfl ?_
                    refine it_V.weak (l := [none, none, none, none, none, none, none, none, none, none]) trivial ?_
                    exact s_322_523 kc Φ m29 h
                  · have h := h.2 c28
                    refine it_V.ite (fun c30 => ?_) (fun c30 => ?_)
                    · have h := h.1 c30
                      refine it_V.sN it_cd322 it_m322 2 (pc1 := (if ((it_us x1 (12 : Int32)) &&& (7 : Int32)) = 0 then 275 else 266)) (ls1 := [some (.ref 66), some (.int x0), some (.int x1), some (.int ((it_us x1 (7 : Int32)) &&& (31 : Int32))), some (.int ((it_us x1 (12 : Int32)) &&& (7 : Int32))), some (.int r1), some (.int r3), some (.int (m4 94 (Int32.toNatClampNeg x0))), none, none]) (st1 := []) (mem1 := m4) rfl ?_
                      refine it_V.ite (fun c31 => ?_) (fun c31 => ?_)
                      · have h := h.1 c31
                        refine it_V.sN it_cd322 it_m322 14 (pc1 := 294) (ls1 := [some (.ref 66), some (.int x0), some (.int x1), some (.int ((it_us x1 (7 : Int32)) &&& (31 : Int32))), some (.int ((it_us x1 (12 : Int32)) &&& (7 : Int32))), some (.int r1), some (.int r3), some (.int (m4 94 (Int32.toNatClampNeg x0))), none, some (.int ((r1 + (it_shr x1 (20 : Int32))) &&& (-2 : Int32)))]) (st1 := [(.int ((m4 94 (Int32.toNatClampNeg x0)) + (4 : Int32))), (.int ((it_us x1 (7 : Int32)) &&& (31 : Int32))), (.int x0), (.ref 66)]) (mem1 := m4) rfl ?_
                        refine it_V.call it_cd322 it_m322 rfl it_m319 [(.ref 66), (.int x0), (.int ((it_us x1 (7 : Int32)) &&& (31 : Int32))), (.int ((m4 94 (Int32.toNatClampNeg x0)) + (4 : Int32)))] [] rfl rfl ⟨Nat.le_of_ble_eq_true rfl, Nat.le_of_ble_eq_true rfl, Nat.le_of_ble_eq_true rfl, Nat.le_of_ble_eq_true rfl, rfl⟩ (s_319 kc x0 ((it_us x1 (7 : Int32)) &&& (31 : Int32)) ((m4 94 (Int32.toNatClampNeg x0)) + (4 : Int32)) m4 _ h) ?_
                        rintro _ m32 ⟨rfl, h⟩
                        refine it_V.at (pc1 := 297) (ls1 := [some (.ref 66), some (.int x0), some (.int x1), some (.int ((it_us x1 (7 : Int32)) &&& (31 : Int32))), some (.int ((it_us x1 (12 : Int32)) &&& (7 : Int32))), some (.int r1), some (.int r3), some (.int (m4 94 (Int32.toNatClampNeg x0))), none, some (.int ((r1 + (it_shr x1 (20 : Int32))) &&& (-2 : Int32)))]) (st1 := []) (mem1 := m32) rfl rfl rfl rfl ?_
                        refine it_V.sN it_cd322 it_m322 4 (pc1 := 304) (ls1 := [some (.ref 66), some (.int x0), some (.int x1), some (.int ((it_us x1 (7 : Int32)) &&& (31 : Int32))), some (.int ((it_us x1 (12 : Int32)) &&& (7 : Int32))), some (.int r1), some (.int r3), some (.int (m4 94 (Int32.toNatClampNeg x0))), none, some (.int ((r1 + (it_shr x1 (20 : Int32))) &&& (-2 : Int32)))]) (st1 := [(.int ((r1 + (it_shr x1 (20 : Int32))) &&& (-2 : Int32))), (.int x0), (.ref 94)]) (mem1 := m32) rfl ?_
                        obtain ⟨g33, h⟩ := h
                        refine it_V.iast it_cd322 it_m322 rfl ((⟨rfl, by decide⟩ : it_isR 94 8)).1 g33 ?_
                        refine it_V.at (pc1 := 305) (ls1 := [some (.ref 66), some (.int x0), some (.int x1), some (.int ((it_us x1 (7 : Int32)) &&& (31 : Int32))), some (.int ((it_us x1 (12 : Int32)) &&& (7 : Int32))), some (.int r1), some (.int r3), some (.int (m4 94 (Int32.toNatClampNeg x0))), none, some (.int ((r1 + (it_shr x1 (20 : Int32))) &&& (-2 : Int32)))]) (st1 := []) (mem1 := (it_sv m32 94 (Int32.toNatClampNeg x0) ((r1 + (it_shr x1 (20 : Int32))) &&& (-2 : Int32)))) rfl rfl rfl rfl ?_
                        refine it_V.sN it_cd322 it_m322 1 (pc1 := 523) (ls1 := [some (.ref 66), some (.int x0), some (.int x1), some (.int ((it_us x1 (7 : Int32)) &&& (31 : Int32))), some (.int ((it_us x1 (12 : Int32)) &&& (7 : Int32))), some (.int r1), some (.int r3), some (.int (m4 94 (Int32.toNatClampNeg x0))), none, some (.int ((r1 + (it_shr x1 (20 : Int32))) &&& (-2 : Int32)))]) (st1 := []) (mem1 := (it_sv m32 94 (Int32.toNatClampNeg x0) ((r1 + (it_shr x1 (20 : Int32))) &&& (-2 : Int32)))) rfl ?_
                        refine it_V.weak (l := [none, none, none, none, none, none, none, none, none, none]) trivial ?_
                        exact s_322_523 kc Φ (it_sv m32 94 (Int32.toNatClampNeg x0) ((r1 + (it_shr x1 (20 : Int32))) &&& (-2 : Int32))) h
                      · have h := h.2 c31
                        refine it_V.sN it_cd322 it_m322 3 (pc1 := 269) (ls1 := [some (.ref 66), some (.int x0), some (.int x1), some (.int ((it_us x1 (7 : Int32)) &&& (31 : Int32))), some (.int ((it_us x1 (12 : Int32)) &&& (7 : Int32))), some (.int r1), some (.int r3), some (.int (m4 94 (Int32.toNatClampNeg x0))), none, none]) (st1 := [(.int x1), (.int x0), (.ref 66)]) (mem1 := m4) rfl ?_
                        refine it_V.call it_cd322 it_m322 rfl it_m321 [(.ref 66), (.int x0), (.int x1)] [] rfl rfl ⟨Nat.le_of_ble_eq_true rfl, Nat.le_of_ble_eq_true rfl, Nat.le_of_ble_eq_true rfl, Nat.le_of_ble_eq_true rfl, rfl⟩ (s_321 kc x0 x1 m4 _ h) ?_
                        rintro _ m34 ⟨rfl, h⟩
                        refine it_V.at (pc1 := 272) (ls1 := [some (.ref 66), some (.int x0), some (.int x1), some (.int ((it_us x1 (7 : Int32)) &&& (31 : Int32))), some (.int ((it_us x1 (12 : Int32)) &&& (7 : Int32))), some (.int r1), some (.int r3), some (.int (m4 94 (Int32.toNatClampNeg x0))), none, none]) (st1 := []) (mem1 := m34) rfl rfl rfl rfl ?_
                        refine it_V.sN it_cd322 it_m322 1 (pc1 := 523) (ls1 := [some (.ref 66), some (.int x0), some (.int x1), some (.int ((it_us x1 (7 : Int32)) &&& (31 : Int32))), some (.int ((it_us x1 (12 : Int32)) &&& (7 : Int32))), some (.int r1), some (.int r3), some (.int (m4 94 (Int32.toNatClampNeg x0))), none, none]) (st1 := []) (mem1 := m34) rfl ?_
                        refine it_V.weak (l := [none, none, none, none, none, none, none, none, none, none]) trivial ?_
                        exact s_322_523 kc Φ m34 h
                    · have h := h.2 c30
                      refine it_V.ite (fun c35 => ?_) (fun c35 => ?_)
                      · have h := h.1 c35
                        refine it_V.sN it_cd322 it_m322 36 (pc1 := 244) (ls1 := [some (.ref 66), some (.int x0), some (.int x1), some (.int ((it_us x1 (7 : Int32)) &&& (31 : Int32))), some (.int ((it_us x1 (12 : Int32)) &&& (7 : Int32))), some (.int r1), some (.int r3), some (.int (m4 94 (Int32.toNatClampNeg x0))), some (.int ((((it_shl (it_shr x1 (31 : Int32)) (20 : Int32)) ||| (it_shl ((it_us x1 (12 : Int32)) &&& (255 : Int32)) (12 : Int32))) ||| (it_shl ((it_us x1 (20 : Int32)) &&& (1 : Int32)) (11 : Int32))) ||| (it_shl ((it_us x1 (21 : Int32)) &&& (1023 : Int32)) (1 : Int32)))), none]) (st1 := [(.int ((m4 94 (Int32.toNatClampNeg x0)) + (4 : Int32))), (.int ((it_us x1 (7 : Int32)) &&& (31 : Int32))), (.int x0), (.ref 66)]) (mem1 := m4) rfl ?_
                        refine it_V.call it_cd322 it_m322 rfl it_m319 [(.ref 66), (.int x0), (.int ((it_us x1 (7 : Int32)) &&& (31 : Int32))), (.int ((m4 94 (Int32.toNatClampNeg x0)) + (4 : Int32)))] [] rfl rfl ⟨Nat.le_of_ble_eq_true rfl, Nat.le_of_ble_eq_true rfl, Nat.le_of_ble_eq_true rfl, Nat.le_of_ble_eq_true rfl, rfl⟩ (s_319 kc x0 ((it_us x1 (7 : Int32)) &&& (31 : Int32)) ((m4 94 (Int32.toNatClampNeg x0)) + (4 : Int32)) m4 _ h) ?_
                        rintro _ m36 ⟨rfl, h⟩
                        refine it_V.at (pc1 := 247) (ls1 := [some (.ref 66), some (.int x0), some (.int x1), some (.int ((it_us x1 (7 : Int32)) &&& (31 : Int32))), some (.int ((it_us x1 (12 : Int32)) &&& (7 : Int32))), some (.int r1), some (.int r3), some (.int (m4 94 (Int32.toNatClampNeg x0))), some (.int ((((it_shl (it_shr x1 (31 : Int32)) (20 : Int32)) ||| (it_shl ((it_us x1 (12 : Int32)) &&& (255 : Int32)) (12 : Int32))) ||| (it_shl ((it_us x1 (20 : Int32)) &&& (1 : Int32)) (11 : Int32))) ||| (it_shl ((it_us x1 (21 : Int32)) &&& (1023 : Int32)) (1 : Int32)))), none]) (st1 := []) (mem1 := m36) rfl rfl rfl rfl ?_
                        refine it_V.sN it_cd322 it_m322 6 (pc1 := 257) (ls1 := [some (.ref 66), some (.int x0), some (.int x1), some (.int ((it_us x1 (7 : Int32)) &&& (31 : Int32))), some (.int ((it_us x1 (12 : Int32)) &&& (7 : Int32))), some (.int r1), some (.int r3), some (.int (m4 94 (Int32.toNatClampNeg x0))), some (.int ((((it_shl (it_shr x1 (31 : Int32)) (20 : Int32)) ||| (it_shl ((it_us x1 (12 : Int32)) &&& (255 : Int32)) (12 : Int32))) ||| (it_shl ((it_us x1 (20 : Int32)) &&& (1 : Int32)) (11 : Int32))) ||| (it_shl ((it_us x1 (21 : Int32)) &&& (1023 : Int32)) (1 : Int32)))), none]) (st1 := [(.int ((m4 94 (Int32.toNatClampNeg x0)) + ((((it_shl (it_shr x1 (31 : Int32)) (20 : Int32)) ||| (it_shl ((it_us x1 (12 : Int32)) &&& (255 : Int32)) (12 : Int32))) ||| (it_shl ((it_us x1 (20 : Int32)) &&& (1 : Int32)) (11 : Int32))) ||| (it_shl ((it_us x1 (21 : Int32)) &&& (1023 : Int32)) (1 : Int32))))), (.int x0), (.ref 94)]) (mem1 := m36) rfl ?_
                        obtain ⟨g37, h⟩ := h
                        refine it_V.iast it_cd322 it_m322 rfl ((⟨rfl, by decide⟩ : it_isR 94 8)).1 g37 ?_
                        refine it_V.at (pc1 := 258) (ls1 := [some (.ref 66), some (.int x0), some (.int x1), some (.int ((it_us x1 (7 : Int32)) &&& (31 : Int32))), some (.int ((it_us x1 (12 : Int32)) &&& (7 : Int32))), some (.int r1), some (.int r3), some (.int (m4 94 (Int32.toNatClampNeg x0))), some (.int ((((it_shl (it_shr x1 (31 : Int32)) (20 : Int32)) ||| (it_shl ((it_us x1 (12 : Int32)) &&& (255 : Int32)) (12 : Int32))) ||| (it_shl ((it_us x1 (20 : Int32)) &&& (1 : Int32)) (11 : Int32))) ||| (it_shl ((it_us x1 (21 : Int32)) &&& (1023 : Int32)) (1 : Int32)))), none]) (st1 := []) (mem1 := (it_sv m36 94 (Int32.toNatClampNeg x0) ((m4 94 (Int32.toNatClampNeg x0)) + ((((it_shl (it_shr x1 (31 : Int32)) (20 : Int32)) ||| (it_shl ((it_us x1 (12 : Int32)) &&& (255 : Int32)) (12 : Int32))) ||| (it_shl ((it_us x1 (20 : Int32)) &&& (1 : Int32)) (11 : Int32))) ||| (it_shl ((it_us x1 (21 : Int32)) &&& (1023 : Int32)) (1 : Int32)))))) rfl rfl rfl rfl ?_
                        refine it_V.sN it_cd322 it_m322 1 (pc1 := 523) (ls1 := [some (.ref 66), some (.int x0), some (.int x1), some (.int ((it_us x1 (7 : Int32)) &&& (31 : Int32))), some (.int ((it_us x1 (12 : Int32)) &&& (7 : Int32))), some (.int r1), some (.int r3), some (.int (m4 94 (Int32.toNatClampNeg x0))), some (.int ((((it_shl (it_shr x1 (31 : Int32)) (20 : Int32)) ||| (it_shl ((it_us x1 (12 : Int32)) &&& (255 : Int32)) (12 : Int32))) ||| (it_shl ((it_us x1 (20 : Int32)) &&& (1 : Int32)) (11 : Int32))) ||| (it_shl ((it_us x1 (21 : Int32)) &&& (1023 : Int32)) (1 : Int32)))), none]) (st1 := []) (mem1 := (it_sv m36 94 (Int32.toNatClampNeg x0) ((m4 94 (Int32.toNatClampNeg x0)) + ((((it_shl (it_shr x1 (31 : Int32)) (20 : Int32)) ||| (it_shl ((it_us x1 (12 : Int32)) &&& (255 : Int32)) (12 : Int32))) ||| (it_shl ((it_us x1 (20 : Int32)) &&& (1 : Int32)) (11 : Int32))) ||| (it_shl ((it_us x1 (21 : Int32)) &&& (1023 : Int32)) (1 : Int32)))))) rfl ?_
                        refine it_V.weak (l := [none, none, none, none, none, none, none, none, none, none]) trivial ?_
                        exact s_322_523 kc Φ (it_sv m36 94 (Int32.toNatClampNeg x0) ((m4 94 (Int32.toNatClampNeg x0)) + ((((it_shl (it_shr x1 (31 : Int32)) (20 : Int32)) ||| (it_shl ((it_us x1 (12 : Int32)) &&& (255 : Int32)) (12 : Int32))) ||| (it_shl ((it_us x1 (20 : Int32)) &&& (1 : Int32)) (11 : Int32))) ||| (it_shl ((it_us x1 (21 : Int32)) &&& (1023 : Int32)) (1 : Int32))))) h
                      · have h := h.2 c35
                        refine it_V.ite (fun c38 => ?_) (fun c38 => ?_)
                        · have h := h.1 c38
                          refine it_V.sN it_cd322 it_m322 3 (pc1 := (if x1 = (115 : Int32) then 466 else 474)) (ls1 := [some (.ref 66), some (.int x0), some (.int x1), some (.int ((it_us x1 (7 : Int32)) &&& (31 : Int32))), some (.int ((it_us x1 (12 : Int32)) &&& (7 : Int32))), some (.int r1), some (.int r3), some (.int (m4 94 (Int32.toNatClampNeg x0))), none, none]) (st1 := []) (mem1 := m4) rfl ?_
                          refine it_V.ite (fun c39 => ?_) (fun c39 => ?_)
                          · have h := h.1 c39
                            refine it_V.sN it_cd322 it_m322 2 (pc1 := 468) (ls1 := [some (.ref 66), some (.int x0), some (.int x1), some (.int ((it_us x1 (7 : Int32)) &&& (31 : Int32))), some (.int ((it_us x1 (12 : Int32)) &&& (7 : Int32))), some (.int r1), some (.int r3), some (.int (m4 94 (Int32.toNatClampNeg x0))), none, none]) (st1 := [(.int x0), (.ref 66)]) (mem1 := m4) rfl ?_
                            refine it_V.call it_cd322 it_m322 rfl it_m284 [(.ref 66), (.int x0)] [] rfl rfl ⟨Nat.le_of_ble_eq_true rfl, Nat.le_of_ble_eq_true rfl, Nat.le_of_ble_eq_true rfl, Nat.le_of_ble_eq_true rfl, rfl⟩ (s_284 kc x0 m4 _ h) ?_
                            rintro _ m40 ⟨rfl, h⟩
                            refine it_V.at (pc1 := 471) (ls1 := [some (.ref 66), some (.int x0), some (.int x1), some (.int ((it_us x1 (7 : Int32)) &&& (31 : Int32))), some (.int ((it_us x1 (12 : Int32)) &&& (7 : Int32))), some (.int r1), some (.int r3), some (.int (m4 94 (Int32.toNatClampNeg x0))), none, none]) (st1 := []) (mem1 := m40) rfl rfl rfl rfl ?_
                            refine it_V.sN it_cd322 it_m322 1 (pc1 := 523) (ls1 := [some (.ref 66), some (.int x0), some (.int x1), some (.int ((it_us x1 (7 : Int32)) &&& (31 : Int32))), some (.int ((it_us x1 (12 : Int32)) &&& (7 : Int32))), some (.int r1), some (.int r3), some (.int (m4 94 (Int32.toNatClampNeg x0))), none, none]) (st1 := []) (mem1 := m40) rfl ?_
                            refine it_V.weak (l := [none, none, none, none, none, none, none, none, none, none]) trivial ?_
                            exact s_322_523 kc Φ m40 h
                          · have h := h.2 c39
                            refine it_V.sN it_cd322 it_m322 3 (pc1 := (if x1 = (1048691 : Int32) then 481 else 492)) (ls1 := [some (.ref 66), some (.int x0), some (.int x1), some (.int ((it_us x1 (7 : Int32)) &&& (31 : Int32))), some (.int ((it_us x1 (12 : Int32)) &&& (7 : Int32))), some (.int r1), some (.int r3), some (.int (m4 94 (Int32.toNatClampNeg x0))), none, none]) (st1 := []) (mem1 := m4) rfl ?_
                            refine it_V.ite (fun c41 => ?_) (fun c41 => ?_)
                            · have h := h.1 c41
                              refine it_V.sN it_cd322 it_m322 4 (pc1 := 486) (ls1 := [some (.ref 66), some (.int x0), some (.int x1), some (.int ((it_us x1 (7 : Int32)) &&& (31 : Int32))), some (.int ((it_us x1 (12 : Int32)) &&& (7 : Int32))), some (.int r1), some (.int r3), some (.int (m4 94 (Int32.toNatClampNeg x0))), none, none]) (st1 := [(.int (m4 94 (Int32.toNatClampNeg x0))), (.int (3 : Int32)), (.int x0), (.ref 66)]) (mem1 := m4) rfl ?_
                              refine it_V.call it_cd322 it_m322 rfl it_m258 [(.ref 66), (.int x0), (.int (3 : Int32)), (.int (m4 94 (Int32.toNatClampNeg x0)))] [] rfl rfl ⟨Nat.le_of_ble_eq_true rfl, Nat.le_of_ble_eq_true rfl, Nat.le_of_ble_eq_true rfl, Nat.le_of_ble_eq_true rfl, rfl⟩ (s_258 kc x0 (3 : Int32) (m4 94 (Int32.toNatClampNeg x0)) m4 _ h) ?_
                              rintro _ m42 ⟨rfl, h⟩
                              refine it_V.at (pc1 := 489) (ls1 := [some (.ref 66), some (.int x0), some (.int x1), some (.int ((it_us x1 (7 : Int32)) &&& (31 : Int32))), some (.int ((it_us x1 (12 : Int32)) &&& (7 : Int32))), some (.int r1), some (.int r3), some (.int (m4 94 (Int32.toNatClampNeg x0))), none, none]) (st1 := []) (mem1 := m42) rfl rfl rfl rfl ?_
                              refine it_V.sN it_cd322 it_m322 1 (pc1 := 523) (ls1 := [some (.ref 66), some (.int x0), some (.int x1), some (.int ((it_us x1 (7 : Int32)) &&& (31 : Int32))), some (.int ((it_us x1 (12 : Int32)) &&& (7 : Int32))), some (.int r1), some (.int r3), some (.int (m4 94 (Int32.toNatClampNeg x0))), none, none]) (st1 := []) (mem1 := m42) rfl ?_
                              refine it_V.weak (l := [none, none, none, none, none, none, none, none, none, none]) trivial ?_
                              exact s_322_523 kc Φ m42 h
                            · have h := h.2 c41
                              refine it_V.sN it_cd322 it_m322 3 (pc1 := 495) (ls1 := [some (.ref 66), some (.int x0), some (.int x1), some (.int ((it_us x1 (7 : Int32)) &&& (31 : Int32))), some (.int ((it_us x1 (12 : Int32)) &&& (7 : Int32))), some (.int r1), some (.int r3), some (.int (m4 94 (Int32.toNatClampNeg x0))), none, none]) (st1 := [(.int x1), (.int x0), (.ref 66)]) (mem1 := m4) rfl ?_
                              refine it_V.call it_cd322 it_m322 rfl it_m321 [(.ref 66), (.int x0), (.int x1)] [] rfl rfl ⟨Nat.le_of_ble_eq_true rfl, Nat.le_of_ble_eq_true rfl, Nat.le_of_ble_eq_true rfl, Nat.le_of_ble_eq_true rfl, rfl⟩ (s_321 kc x0 x1 m4 _ h) ?_
                              rintro _ m43 ⟨rfl, h⟩
                              refine it_V.at (pc1 := 498) (ls1 := [some (.ref 66), some (.int x0), some (.int x1), some (.int ((it_us x1 (7 : Int32)) &&& (31 : Int32))), some (.int ((it_us x1 (12 : Int32)) &&& (7 : Int32))), some (.int r1), some (.int r3), some (.int (m4 94 (Int32.toNatClampNeg x0))), none, none]) (st1 := []) (mem1 := m43) rfl rfl rfl rfl ?_
                              refine it_V.sN it_cd322 it_m322 1 (pc1 := 523) (ls1 := [some (.ref 66), some (.int x0), some (.int x1), some (.int ((it_us x1 (7 : Int32)) &&& (31 : Int32))), some (.int ((it_us x1 (12 : Int32)) &&& (7 : Int32))), some (.int r1), some (.int r3), some (.int (m4 94 (Int32.toNatClampNeg x0))), none, none]) (st1 := []) (mem1 := m43) rfl ?_
                              refine it_V.weak (l := [none, none, none, none, none, none, none, none, none, none]) trivial ?_
                              exact s_322_523 kc Φ m43 h
                        · have h := h.2 c38
                          refine it_V.sN it_cd322 it_m322 3 (pc1 := 520) (ls1 := [some (.ref 66), some (.int x0), some (.int x1), some (.int ((it_us x1 (7 : Int32)) &&& (31 : Int32))), some (.int ((it_us x1 (12 : Int32)) &&& (7 : Int32))), some (.int r1), some (.int r3), some (.int (m4 94 (Int32.toNatClampNeg x0))), none, none]) (st1 := [(.int x1), (.int x0), (.ref 66)]) (mem1 := m4) rfl ?_
                          refine it_V.call it_cd322 it_m322 rfl it_m321 [(.ref 66), (.int x0), (.int x1)] [] rfl rfl ⟨Nat.le_of_ble_eq_true rfl, Nat.le_of_ble_eq_true rfl, Nat.le_of_ble_eq_true rfl, Nat.le_of_ble_eq_true rfl, rfl⟩ (s_321 kc x0 x1 m4 _ h) ?_
                          rintro _ m44 ⟨rfl, h⟩
                          refine it_V.at (pc1 := 523) (ls1 := [some (.ref 66), some (.int x0), some (.int x1), some (.int ((it_us x1 (7 : Int32)) &&& (31 : Int32))), some (.int ((it_us x1 (12 : Int32)) &&& (7 : Int32))), some (.int r1), some (.int r3), some (.int (m4 94 (Int32.toNatClampNeg x0))), none, none]) (st1 := []) (mem1 := m44) rfl rfl rfl rfl ?_
                          refine it_V.weak (l := [none, none, none, none, none, none, none, none, none, none]) trivial ?_
                          exact s_322_523 kc Φ m44 h
set_option maxRecDepth 100000 in
set_option maxHeartbeats 4000000 in
theorem s_333 (kc : it_Kc) (x0 : Int32) (x1 : Int32) (x2 : Int32) (m : it_Me) (Φ : Int32 → it_Me → Prop) (h : w_333 kc x0 x1 x2 m Φ) : it_V kc it_sh0 333 0 (it_loc0 [(.int x0), (.int x1), (.int x2)] 3) [] m (it_Pi Φ) := by
  rw [w_333] at h
  refine it_V.at (pc1 := 0) (ls1 := [some (.int x0), some (.int x1), some (.int x2)]) (st1 := []) (mem1 := m) rfl rfl rfl rfl ?_
  refine it_V.sN it_cd333 it_m333 7 (pc1 := 7) (ls1 := [some (.int x0), some (.int x1), some (.int x2)]) (st1 := [(.int (it_shl ((it_us x0 x1) &&& (1 : Int32)) x2))]) (mem1 := m) rfl ?_
  exact it_V.ret it_cd333 it_m333 rfl rfl ⟨_, rfl, h⟩
set_option maxRecDepth 100000 in
set_option maxHeartbeats 4000000 in
theorem s_334 (kc : it_Kc) (x0 : Int32) (x1 : Int32) (x2 : Int32) (m : it_Me) (Φ : it_Me → Prop) (h : w_334 kc x0 x1 x2 m Φ) : it_V kc it_sh0 334 0 (it_loc0 [(.ref 66), (.int x0), (.int x1), (.int x2)] 4) [] m (it_Pv Φ) := by
  rw [w_334] at h
  refine it_V.at (pc1 := 0) (ls1 := [some (.ref 66), some (.int x0), some (.int x1), some (.int x2)]) (st1 := []) (mem1 := m) rfl rfl rfl rfl ?_
  refine it_V.sN it_cd334 it_m334 4 (pc1 := 4) (ls1 := [some (.ref 66), some (.int x0), some (.int x1), some (.int x2)]) (st1 := [(.int x2), (.int x1), (.int x0), (.ref 66)]) (mem1 := m) rfl ?_
  refine it_V.call it_cd334 it_m334 rfl it_m319 [(.ref 66), (.int x0), (.int x1), (.int x2)] [] rfl rfl ⟨Nat.le_of_ble_eq_true rfl, Nat.le_of_ble_eq_true rfl, Nat.le_of_ble_eq_true rfl, Nat.le_of_ble_eq_true rfl, rfl⟩ (s_319 kc x0 x1 x2 m _ h) ?_
  rintro _ m1 ⟨rfl, h⟩
  refine it_V.at (pc1 := 7) (ls1 := [some (.ref 66), some (.int x0), some (.int x1), some (.int x2)]) (st1 := []) (mem1 := m1) rfl rfl rfl rfl ?_
  refine it_V.sN it_cd334 it_m334 4 (pc1 := 13) (ls1 := [some (.ref 66), some (.int x0), some (.int x1), some (.int x2)]) (st1 := [(.int x0), (.ref 94), (.int x0), (.ref 94)]) (mem1 := m1) rfl ?_
  obtain ⟨g2, h⟩ := h
  refine it_V.iald it_cd334 it_m334 rfl ((⟨rfl, by decide⟩ : it_isR 94 8)).2 ((⟨rfl, by decide⟩ : it_isR 94 8)).1 g2 ?_
  refine it_V.at (pc1 := 14) (ls1 := [some (.ref 66), some (.int x0), some (.int x1), some (.int x2)]) (st1 := [(.int (m1 94 (Int32.toNatClampNeg x0))), (.int x0), (.ref 94)]) (mem1 := m1) rfl rfl rfl rfl ?_
  refine it_V.sN it_cd334 it_m334 2 (pc1 := 16) (ls1 := [some (.ref 66), some (.int x0), some (.int x1), some (.int x2)]) (st1 := [(.int ((m1 94 (Int32.toNatClampNeg x0)) + (2 : Int32))), (.int x0), (.ref 94)]) (mem1 := m1) rfl ?_
  obtain ⟨g3, h⟩ := h
  refine it_V.iast it_cd334 it_m334 rfl ((⟨rfl, by decide⟩ : it_isR 94 8)).1 g3 ?_
  refine it_V.at (pc1 := 17) (ls1 := [some (.ref 66), some (.int x0), some (.int x1), some (.int x2)]) (st1 := []) (mem1 := (it_sv m1 94 (Int32.toNatClampNeg x0) ((m1 94 (Int32.toNatClampNeg x0)) + (2 : Int32)))) rfl rfl rfl rfl ?_
  exact it_V.ret it_cd334 it_m334 rfl rfl ⟨rfl, h⟩
set_option maxRecDepth 100000 in
set_option maxHeartbeats 4000000 in
theorem s_337_189 (kc : it_Kc) (Φ : it_Me → Prop) (m : it_Me) (h : w_337_189 kc Φ m) : it_V kc it_sh0 337 189 [none, none, none, none, none, none, none, none] [] m (it_Pv Φ) := by
  rw [w_337_189] at h
  exact it_V.ret it_cd337 it_m337 rfl rfl ⟨rfl, h⟩
set_option maxRecDepth 100000 in
set_option maxHeartbeats 4000000 in
theorem s_337_120 (kc : it_Kc) (Φ : it_Me → Prop) (m : it_Me) (h : w_337_120 kc Φ m) : it_V kc it_sh0 337 120 [none, none, none, none, none, none, none, none] [] m (it_Pv Φ) := by
  rw [w_337_120] at h
  refine it_V.sN it_cd337 it_m337 1 (pc1 := 189) (ls1 := [none, none, none, none, none, none, none, none]) (st1 := []) (mem1 := m) rfl ?_
  refine it_V.weak (l := [none, none, none, none, none, none, none, none]) trivial ?_
  exact s_337_189 kc Φ m h
set_option maxRecDepth 100000 in
set_option maxHeartbeats 4000000 in
theorem s_337 (kc : it_Kc) (x0 : Int32) (x1 : Int32) (x2 : Int32) (m : it_Me) (Φ : it_Me → Prop) (h : w_337 kc x0 x1 x2 m Φ) : it_V kc it_sh0 337 0 (it_loc0 [(.ref 66), (.int x0), (.int x1), (.int x2)] 8) [] m (it_Pv Φ) := by
  rw [w_337] at h
  refine it_V.at (pc1 := 0) (ls1 := [some (.ref 66), some (.int x0), some (.int x1), some (.int x2), none, none, none, none]) (st1 := []) (mem1 := m) rfl rfl rfl rfl ?_
  refine it_V.sN it_cd337 it_m337 26 (pc1 := 36) (ls1 := [some (.ref 66), some (.int x0), some (.int x1), some (.int x2), some (.int ((8 : Int32) + ((it_us x1 (7 : Int32)) &&& (7 : Int32)))), some (.int ((8 : Int32) + ((it_us x1 (2 : Int32)) &&& (7 : Int32)))), none, none]) (st1 := [(.int (2 : Int32)), (.int (6 : Int32)), (.int x1), (.int (it_shl ((it_us x1 (10 : Int32)) &&& (7 : Int32)) (3 : Int32)))]) (mem1 := m) rfl ?_
  refine it_V.call it_cd337 it_m337 rfl it_m333 [(.int x1), (.int (6 : Int32)), (.int (2 : Int32))] [(.int (it_shl ((it_us x1 (10 : Int32)) &&& (7 : Int32)) (3 : Int32)))] rfl rfl ⟨Nat.le_of_ble_eq_true rfl, Nat.le_of_ble_eq_true rfl, Nat.le_of_ble_eq_true rfl, Nat.le_of_ble_eq_true rfl, rfl⟩ (s_333 kc x1 (6 : Int32) (2 : Int32) m _ h) ?_
  rintro _ m2 ⟨r1, rfl, h⟩
  refine it_V.at (pc1 := 39) (ls1 := [some (.ref 66), some (.int x0), some (.int x1), some (.int x2), some (.int ((8 : Int32) + ((it_us x1 (7 : Int32)) &&& (7 : Int32)))), some (.int ((8 : Int32) + ((it_us x1 (2 : Int32)) &&& (7 : Int32)))), none, none]) (st1 := [(.int r1), (.int (it_shl ((it_us x1 (10 : Int32)) &&& (7 : Int32)) (3 : Int32)))]) (mem1 := m2) rfl rfl rfl rfl ?_
  refine it_V.sN it_cd337 it_m337 4 (pc1 := 44) (ls1 := [some (.ref 66), some (.int x0), some (.int x1), some (.int x2), some (.int ((8 : Int32) + ((it_us x1 (7 : Int32)) &&& (7 : Int32)))), some (.int ((8 : Int32) + ((it_us x1 (2 : Int32)) &&& (7 : Int32)))), none, none]) (st1 := [(.int (6 : Int32)), (.int (5 : Int32)), (.int x1), (.int ((it_shl ((it_us x1 (10 : Int32)) &&& (7 : Int32)) (3 : Int32)) ||| r1))]) (mem1 := m2) rfl ?_
  refine it_V.call it_cd337 it_m337 rfl it_m333 [(.int x1), (.int (5 : Int32)), (.int (6 : Int32))] [(.int ((it_shl ((it_us x1 (10 : Int32)) &&& (7 : Int32)) (3 : Int32)) ||| r1))] rfl rfl ⟨Nat.le_of_ble_eq_true rfl, Nat.le_of_ble_eq_true rfl, Nat.le_of_ble_eq_true rfl, Nat.le_of_ble_eq_true rfl, rfl⟩ (s_333 kc x1 (5 : Int32) (6 : Int32) m2 _ h) ?_
  rintro _ m4 ⟨r3, rfl, h⟩
  refine it_V.at (pc1 := 47) (ls1 := [some (.ref 66), some (.int x0), some (.int x1), some (.int x2), some (.int ((8 : Int32) + ((it_us x1 (7 : Int32)) &&& (7 : Int32)))), some (.int ((8 : Int32) + ((it_us x1 (2 : Int32)) &&& (7 : Int32)))), none, none]) (st1 := [(.int r3), (.int ((it_shl ((it_us x1 (10 : Int32)) &&& (7 : Int32)) (3 : Int32)) ||| r1))]) (mem1 := m4) rfl rfl rfl rfl ?_
  refine it_V.sN it_cd337 it_m337 4 (pc1 := (if x2 = 0 then 54 else 123)) (ls1 := [some (.ref 66), some (.int x0), some (.int x1), some (.int x2), some (.int ((8 : Int32) + ((it_us x1 (7 : Int32)) &&& (7 : Int32)))), some (.int ((8 : Int32) + ((it_us x1 (2 : Int32)) &&& (7 : Int32)))), some (.int (((it_shl ((it_us x1 (10 : Int32)) &&& (7 : Int32)) (3 : Int32)) ||| r1) ||| r3)), none]) (st1 := []) (mem1 := m4) rfl ?_
  refine it_V.ite (fun c5 => ?_) (fun c5 => ?_)
  · have h := h.1 c5
    refine it_V.sN it_cd337 it_m337 18 (pc1 := 77) (ls1 := [some (.ref 66), some (.int x0), some (.int x1), some (.int x2), some (.int ((8 : Int32) + ((it_us x1 (7 : Int32)) &&& (7 : Int32)))), some (.int ((8 : Int32) + ((it_us x1 (2 : Int32)) &&& (7 : Int32)))), some (.int (((it_shl ((it_us x1 (10 : Int32)) &&& (7 : Int32)) (3 : Int32)) ||| r1) ||| r3)), none]) (st1 := [(.int (2 : Int32)), (.int (6 : Int32)), (.int x1), (.int ((it_shl ((it_us x1 (11 : Int32)) &&& (3 : Int32)) (4 : Int32)) ||| (it_shl ((it_us x1 (7 : Int32)) &&& (15 : Int32)) (6 : Int32))))]) (mem1 := m4) rfl ?_
    refine it_V.call it_cd337 it_m337 rfl it_m333 [(.int x1), (.int (6 : Int32)), (.int (2 : Int32))] [(.int ((it_shl ((it_us x1 (11 : Int32)) &&& (3 : Int32)) (4 : Int32)) ||| (it_shl ((it_us x1 (7 : Int32)) &&& (15 : Int32)) (6 : Int32))))] rfl rfl ⟨Nat.le_of_ble_eq_true rfl, Nat.le_of_ble_eq_true rfl, Nat.le_of_ble_eq_true rfl, Nat.le_of_ble_eq_true rfl, rfl⟩ (s_333 kc x1 (6 : Int32) (2 : Int32) m4 _ h) ?_
    rintro _ m7 ⟨r6, rfl, h⟩
    refine it_V.at (pc1 := 80) (ls1 := [some (.ref 66), some (.int x0), some (.int x1), some (.int x2), some (.int ((8 : Int32) + ((it_us x1 (7 : Int32)) &&& (7 : Int32)))), some (.int ((8 : Int32) + ((it_us x1 (2 : Int32)) &&& (7 : Int32)))), some (.int (((it_shl ((it_us x1 (10 : Int32)) &&& (7 : Int32)) (3 : Int32)) ||| r1) ||| r3)), none]) (st1 := [(.int r6), (.int ((it_shl ((it_us x1 (11 : Int32)) &&& (3 : Int32)) (4 : Int32)) ||| (it_shl ((it_us x1 (7 : Int32)) &&& (15 : Int32)) (6 : Int32))))]) (mem1 := m7) rfl rfl rfl rfl ?_
    refine it_V.sN it_cd337 it_m337 4 (pc1 := 84) (ls1 := [some (.ref 66), some (.int x0), some (.int x1), some (.int x2), some (.int ((8 : Int32) + ((it_us x1 (7 : Int32)) &&& (7 : Int32)))), some (.int ((8 : Int32) + ((it_us x1 (2 : Int32)) &&& (7 : Int32)))), some (.int (((it_shl ((it_us x1 (10 : Int32)) &&& (7 : Int32)) (3 : Int32)) ||| r1) ||| r3)), none]) (st1 := [(.int (3 : Int32)), (.int (5 : Int32)), (.int x1), (.int (((it_shl ((it_us x1 (11 : Int32)) &&& (3 : Int32)) (4 : Int32)) ||| (it_shl ((it_us x1 (7 : Int32)) &&& (15 : Int32)) (6 : Int32))) ||| r6))]) (mem1 := m7) rfl ?_
    refine it_V.call it_cd337 it_m337 rfl it_m333 [(.int x1), (.int (5 : Int32)), (.int (3 : Int32))] [(.int (((it_shl ((it_us x1 (11 : Int32)) &&& (3 : Int32)) (4 : Int32)) ||| (it_shl ((it_us x1 (7 : Int32)) &&& (15 : Int32)) (6 : Int32))) ||| r6))] rfl rfl ⟨Nat.le_of_ble_eq_true rfl, Nat.le_of_ble_eq_true rfl, Nat.le_of_ble_eq_true rfl, Nat.le_of_ble_eq_true rfl, rfl⟩ (s_333 kc x1 (5 : Int32) (3 : Int32) m7 _ h) ?_
    rintro _ m9 ⟨r8, rfl, h⟩
    refine it_V.at (pc1 := 87) (ls1 := [some (.ref 66), some (.int x0), some (.int x1), some (.int x2), some (.int ((8 : Int32) + ((it_us x1 (7 : Int32)) &&& (7 : Int32)))), some (.int ((8 : Int32) + ((it_us x1 (2 : Int32)) &&& (7 : Int32)))), some (.int (((it_shl ((it_us x1 (10 : Int32)) &&& (7 : Int32)) (3 : Int32)) ||| r1) ||| r3)), none]) (st1 := [(.int r8), (.int (((it_shl ((it_us x1 (11 : Int32)) &&& (3 : Int32)) (4 : Int32)) ||| (it_shl ((it_us x1 (7 : Int32)) &&& (15 : Int32)) (6 : Int32))) ||| r6))]) (mem1 := m9) rfl rfl rfl rfl ?_
    refine it_V.sN it_cd337 it_m337 4 (pc1 := (if ((((it_shl ((it_us x1 (11 : Int32)) &&& (3 : Int32)) (4 : Int32)) ||| (it_shl ((it_us x1 (7 : Int32)) &&& (15 : Int32)) (6 : Int32))) ||| r6) ||| r8) = 0 then 95 else 104)) (ls1 := [some (.ref 66), some (.int x0), some (.int x1), some (.int x2), some (.int ((8 : Int32) + ((it_us x1 (7 : Int32)) &&& (7 : Int32)))), some (.int ((8 : Int32) + ((it_us x1 (2 : Int32)) &&& (7 : Int32)))), some (.int (((it_shl ((it_us x1 (10 : Int32)) &&& (7 : Int32)) (3 : Int32)) ||| r1) ||| r3)), some (.int ((((it_shl ((it_us x1 (11 : Int32)) &&& (3 : Int32)) (4 : Int32)) ||| (it_shl ((it_us x1 (7 : Int32)) &&& (15 : Int32)) (6 : Int32))) ||| r6) ||| r8))]) (st1 := []) (mem1 := m9) rfl ?_
    refine it_V.ite (fun c10 => ?_) (fun c10 => ?_)
    · have h := h.1 c10
      refine it_V.sN it_cd337 it_m337 3 (pc1 := 98) (ls1 := [some (.ref 66), some (.int x0), some (.int x1), some (.int x2), some (.int ((8 : Int32) + ((it_us x1 (7 : Int32)) &&& (7 : Int32)))), some (.int ((8 : Int32) + ((it_us x1 (2 : Int32)) &&& (7 : Int32)))), some (.int (((it_shl ((it_us x1 (10 : Int32)) &&& (7 : Int32)) (3 : Int32)) ||| r1) ||| r3)), some (.int ((((it_shl ((it_us x1 (11 : Int32)) &&& (3 : Int32)) (4 : Int32)) ||| (it_shl ((it_us x1 (7 : Int32)) &&& (15 : Int32)) (6 : Int32))) ||| r6) ||| r8))]) (st1 := [(.int x1), (.int x0), (.ref 66)]) (mem1 := m9) rfl ?_
      refine it_V.call it_cd337 it_m337 rfl it_m321 [(.ref 66), (.int x0), (.int x1)] [] rfl rfl ⟨Nat.le_of_ble_eq_true rfl, Nat.le_of_ble_eq_true rfl, Nat.le_of_ble_eq_true rfl, Nat.le_of_ble_eq_true rfl, rfl⟩ (s_321 kc x0 x1 m9 _ h) ?_
      rintro _ m11 ⟨rfl, h⟩
      refine it_V.at (pc1 := 101) (ls1 := [some (.ref 66), some (.int x0), some (.int x1), some (.int x2), some (.int ((8 : Int32) + ((it_us x1 (7 : Int32)) &&& (7 : Int32)))), some (.int ((8 : Int32) + ((it_us x1 (2 : Int32)) &&& (7 : Int32)))), some (.int (((it_shl ((it_us x1 (10 : Int32)) &&& (7 : Int32)) (3 : Int32)) ||| r1) ||| r3)), some (.int ((((it_shl ((it_us x1 (11 : Int32)) &&& (3 : Int32)) (4 : Int32)) ||| (it_shl ((it_us x1 (7 : Int32)) &&& (15 : Int32)) (6 : Int32))) ||| r6) ||| r8))]) (st1 := []) (mem1 := m11) rfl rfl rfl rfl ?_
      refine it_V.sN it_cd337 it_m337 1 (pc1 := 120) (ls1 := [some (.ref 66), some (.int x0), some (.int x1), some (.int x2), some (.int ((8 : Int32) + ((it_us x1 (7 : Int32)) &&& (7 : Int32)))), some (.int ((8 : Int32) + ((it_us x1 (2 : Int32)) &&& (7 : Int32)))), some (.int (((it_shl ((it_us x1 (10 : Int32)) &&& (7 : Int32)) (3 : Int32)) ||| r1) ||| r3)), some (.int ((((it_shl ((it_us x1 (11 : Int32)) &&& (3 : Int32)) (4 : Int32)) ||| (it_shl ((it_us x1 (7 : Int32)) &&& (15 : Int32)) (6 : Int32))) ||| r6) ||| r8))]) (st1 := []) (mem1 := m11) rfl ?_
      refine it_V.weak (l := [none, none, none, none, none, none, none, none]) trivial ?_
      exact s_337_120 kc Φ m11 h
    · have h := h.2 c10
      refine it_V.sN it_cd337 it_m337 6 (pc1 := 111) (ls1 := [some (.ref 66), some (.int x0), some (.int x1), some (.int x2), some (.int ((8 : Int32) + ((it_us x1 (7 : Int32)) &&& (7 : Int32)))), some (.int ((8 : Int32) + ((it_us x1 (2 : Int32)) &&& (7 : Int32)))), some (.int (((it_shl ((it_us x1 (10 : Int32)) &&& (7 : Int32)) (3 : Int32)) ||| r1) ||| r3)), some (.int ((((it_shl ((it_us x1 (11 : Int32)) &&& (3 : Int32)) (4 : Int32)) ||| (it_shl ((it_us x1 (7 : Int32)) &&& (15 : Int32)) (6 : Int32))) ||| r6) ||| r8))]) (st1 := [(.int (2 : Int32)), (.int x0), (.ref 66), (.int ((8 : Int32) + ((it_us x1 (2 : Int32)) &&& (7 : Int32)))), (.int x0), (.ref 66)]) (mem1 := m9) rfl ?_
      refine it_V.call it_cd337 it_m337 rfl it_m318 [(.ref 66), (.int x0), (.int (2 : Int32))] [(.int ((8 : Int32) + ((it_us x1 (2 : Int32)) &&& (7 : Int32)))), (.int x0), (.ref 66)] rfl rfl ⟨Nat.le_of_ble_eq_true rfl, Nat.le_of_ble_eq_true rfl, Nat.le_of_ble_eq_true rfl, Nat.le_of_ble_eq_true rfl, rfl⟩ (s_318 kc x0 (2 : Int32) m9 _ h) ?_
      rintro _ m13 ⟨r12, rfl, h⟩
      refine it_V.at (pc1 := 114) (ls1 := [some (.ref 66), some (.int x0), some (.int x1), some (.int x2), some (.int ((8 : Int32) + ((it_us x1 (7 : Int32)) &&& (7 : Int32)))), some (.int ((8 : Int32) + ((it_us x1 (2 : Int32)) &&& (7 : Int32)))), some (.int (((it_shl ((it_us x1 (10 : Int32)) &&& (7 : Int32)) (3 : Int32)) ||| r1) ||| r3)), some (.int ((((it_shl ((it_us x1 (11 : Int32)) &&& (3 : Int32)) (4 : Int32)) ||| (it_shl ((it_us x1 (7 : Int32)) &&& (15 : Int32)) (6 : Int32))) ||| r6) ||| r8))]) (st1 := [(.int r12), (.int ((8 : Int32) + ((it_us x1 (2 : Int32)) &&& (7 : Int32)))), (.int x0), (.ref 66)]) (mem1 := m13) rfl rfl rfl rfl ?_
      refine it_V.sN it_cd337 it_m337 2 (pc1 := 117) (ls1 := [some (.ref 66), some (.int x0), some (.int x1), some (.int x2), some (.int ((8 : Int32) + ((it_us x1 (7 : Int32)) &&& (7 : Int32)))), some (.int ((8 : Int32) + ((it_us x1 (2 : Int32)) &&& (7 : Int32)))), some (.int (((it_shl ((it_us x1 (10 : Int32)) &&& (7 : Int32)) (3 : Int32)) ||| r1) ||| r3)), some (.int ((((it_shl ((it_us x1 (11 : Int32)) &&& (3 : Int32)) (4 : Int32)) ||| (it_shl ((it_us x1 (7 : Int32)) &&& (15 : Int32)) (6 : Int32))) ||| r6) ||| r8))]) (st1 := [(.int (r12 + ((((it_shl ((it_us x1 (11 : Int32)) &&& (3 : Int32)) (4 : Int32)) ||| (it_shl ((it_us x1 (7 : Int32)) &&& (15 : Int32)) (6 : Int32))) ||| r6) ||| r8))), (.int ((8 : Int32) + ((it_us x1 (2 : Int32)) &&& (7 : Int32)))), (.int x0), (.ref 66)]) (mem1 := m13) rfl ?_
      refine it_V.call it_cd337 it_m337 rfl it_m334 [(.ref 66), (.int x0), (.int ((8 : Int32) + ((it_us x1 (2 : Int32)) &&& (7 : Int32)))), (.int (r12 + ((((it_shl ((it_us x1 (11 : Int32)) &&& (3 : Int32)) (4 : Int32)) ||| (it_shl ((it_us x1 (7 : Int32)) &&& (15 : Int32)) (6 : Int32))) ||| r6) ||| r8)))] [] rfl rfl ⟨Nat.le_of_ble_eq_true rfl, Nat.le_of_ble_eq_true rfl, Nat.le_of_ble_eq_true rfl, Nat.le_of_ble_eq_true rfl, rfl⟩ (s_334 kc x0 ((8 : Int32) + ((it_us x1 (2 : Int32)) &&& (7 : Int32))) (r12 + ((((it_shl ((it_us x1 (11 : Int32)) &&& (3 : Int32)) (4 : Int32)) ||| (it_shl ((it_us x1 (7 : Int32)) &&& (15 : Int32)) (6 : Int32))) ||| r6) ||| r8)) m13 _ h) ?_
      rintro _ m14 ⟨rfl, h⟩
      refine it_V.at (pc1 := 120) (ls1 := [some (.ref 66), some (.int x0), some (.int x1), some (.int x2), some (.int ((8 : Int32) + ((it_us x1 (7 : Int32)) &&& (7 : Int32)))), some (.int ((8 : Int32) + ((it_us x1 (2 : Int32)) &&& (7 : Int32)))), some (.int (((it_shl ((it_us x1 (10 : Int32)) &&& (7 : Int32)) (3 : Int32)) ||| r1) ||| r3)), some (.int ((((it_shl ((it_us x1 (11 : Int32)) &&& (3 : Int32)) (4 : Int32)) ||| (it_shl ((it_us x1 (7 : Int32)) &&& (15 : Int32)) (6 : Int32))) ||| r6) ||| r8))]) (st1 := []) (mem1 := m14) rfl rfl rfl rfl ?_
      refine it_V.weak (l := [none, none, none, none, none, none, none, none]) trivial ?_
      exact s_337_120 kc Φ m14 h
  · have h := h.2 c5
    refine it_V.sN it_cd337 it_m337 3 (pc1 := (if x2 = (2 : Int32) then 128 else 150)) (ls1 := [some (.ref 66), some (.int x0), some (.int x1), some (.int x2), some (.int ((8 : Int32) + ((it_us x1 (7 : Int32)) &&& (7 : Int32)))), some (.int ((8 : Int32) + ((it_us x1 (2 : Int32)) &&& (7 : Int32)))), some (.int (((it_shl ((it_us x1 (10 : Int32)) &&& (7 : Int32)) (3 : Int32)) ||| r1) ||| r3)), none]) (st1 := []) (mem1 := m4) rfl ?_
    refine it_V.ite (fun c15 => ?_) (fun c15 => ?_)
    · have h := h.1 c15
      refine it_V.sN it_cd337 it_m337 6 (pc1 := 136) (ls1 := [some (.ref 66), some (.int x0), some (.int x1), some (.int x2), some (.int ((8 : Int32) + ((it_us x1 (7 : Int32)) &&& (7 : Int32)))), some (.int ((8 : Int32) + ((it_us x1 (2 : Int32)) &&& (7 : Int32)))), some (.int (((it_shl ((it_us x1 (10 : Int32)) &&& (7 : Int32)) (3 : Int32)) ||| r1) ||| r3)), none]) (st1 := [(.int ((8 : Int32) + ((it_us x1 (7 : Int32)) &&& (7 : Int32)))), (.int x0), (.ref 66), (.int ((8 : Int32) + ((it_us x1 (2 : Int32)) &&& (7 : Int32)))), (.int x0), (.ref 66)]) (mem1 := m4) rfl ?_
      refine it_V.call it_cd337 it_m337 rfl it_m318 [(.ref 66), (.int x0), (.int ((8 : Int32) + ((it_us x1 (7 : Int32)) &&& (7 : Int32))))] [(.int ((8 : Int32) + ((it_us x1 (2 : Int32)) &&& (7 : Int32)))), (.int x0), (.ref 66)] rfl rfl ⟨Nat.le_of_ble_eq_true rfl, Nat.le_of_ble_eq_true rfl, Nat.le_of_ble_eq_true rfl, Nat.le_of_ble_eq_true rfl, rfl⟩ (s_318 kc x0 ((8 : Int32) + ((it_us x1 (7 : Int32)) &&& (7 : Int32))) m4 _ h) ?_
      rintro _ m17 ⟨r16, rfl, h⟩
      refine it_V.at (pc1 := 139) (ls1 := [some (.ref 66), some (.int x0), some (.int x1), some (.int x2), some (.int ((8 : Int32) + ((it_us x1 (7 : Int32)) &&& (7 : Int32)))), some (.int ((8 : Int32) + ((it_us x1 (2 : Int32)) &&& (7 : Int32)))), some (.int (((it_shl ((it_us x1 (10 : Int32)) &&& (7 : Int32)) (3 : Int32)) ||| r1) ||| r3)), none]) (st1 := [(.int r16), (.int ((8 : Int32) + ((it_us x1 (2 : Int32)) &&& (7 : Int32)))), (.int x0), (.ref 66)]) (mem1 := m17) rfl rfl rfl rfl ?_
      refine it_V.sN it_cd337 it_m337 4 (pc1 := 144) (ls1 := [some (.ref 66), some (.int x0), some (.int x1), some (.int x2), some (.int ((8 : Int32) + ((it_us x1 (7 : Int32)) &&& (7 : Int32)))), some (.int ((8 : Int32) + ((it_us x1 (2 : Int32)) &&& (7 : Int32)))), some (.int (((it_shl ((it_us x1 (10 : Int32)) &&& (7 : Int32)) (3 : Int32)) ||| r1) ||| r3)), none]) (st1 := [(.int (2 : Int32)), (.int (2 : Int32)), (.int (r16 + (((it_shl ((it_us x1 (10 : Int32)) &&& (7 : Int32)) (3 : Int32)) ||| r1) ||| r3))), (.int ((8 : Int32) + ((it_us x1 (2 : Int32)) &&& (7 : Int32)))), (.int x0), (.ref 66)]) (mem1 := m17) rfl ?_
      refine it_V.call it_cd337 it_m337 rfl it_m325 [(.ref 66), (.int x0), (.int ((8 : Int32) + ((it_us x1 (2 : Int32)) &&& (7 : Int32)))), (.int (r16 + (((it_shl ((it_us x1 (10 : Int32)) &&& (7 : Int32)) (3 : Int32)) ||| r1) ||| r3))), (.int (2 : Int32)), (.int (2 : Int32))] [] rfl rfl ⟨Nat.le_of_ble_eq_true rfl, Nat.le_of_ble_eq_true rfl, Nat.le_of_ble_eq_true rfl, Nat.le_of_ble_eq_true rfl, rfl⟩ (s_325 kc x0 ((8 : Int32) + ((it_us x1 (2 : Int32)) &&& (7 : Int32))) (r16 + (((it_shl ((it_us x1 (10 : Int32)) &&& (7 : Int32)) (3 : Int32)) ||| r1) ||| r3)) (2 : Int32) (2 : Int32) m17 _ h) ?_
      rintro _ m18 ⟨rfl, h⟩
      refine it_V.at (pc1 := 147) (ls1 := [some (.ref 66), some (.int x0), some (.int x1), some (.int x2), some (.int ((8 : Int32) + ((it_us x1 (7 : Int32)) &&& (7 : Int32)))), some (.int ((8 : Int32) + ((it_us x1 (2 : Int32)) &&& (7 : Int32)))), some (.int (((it_shl ((it_us x1 (10 : Int32)) &&& (7 : Int32)) (3 : Int32)) ||| r1) ||| r3)), none]) (st1 := []) (mem1 := m18) rfl rfl rfl rfl ?_
      refine it_V.sN it_cd337 it_m337 1 (pc1 := 189) (ls1 := [some (.ref 66), some (.int x0), some (.int x1), some (.int x2), some (.int ((8 : Int32) + ((it_us x1 (7 : Int32)) &&& (7 : Int32)))), some (.int ((8 : Int32) + ((it_us x1 (2 : Int32)) &&& (7 : Int32)))), some (.int (((it_shl ((it_us x1 (10 : Int32)) &&& (7 : Int32)) (3 : Int32)) ||| r1) ||| r3)), none]) (st1 := []) (mem1 := m18) rfl ?_
      refine it_V.weak (l := [none, none, none, none, none, none, none, none]) trivial ?_
      exact s_337_189 kc Φ m18 h
    · have h := h.2 c15
      refine it_V.sN it_cd337 it_m337 3 (pc1 := (if x2 = (6 : Int32) then 156 else 183)) (ls1 := [some (.ref 66), some (.int x0), some (.int x1), some (.int x2), some (.int ((8 : Int32) + ((it_us x1 (7 : Int32)) &&& (7 : Int32)))), some (.int ((8 : Int32) + ((it_us x1 (2 : Int32)) &&& (7 : Int32)))), some (.int (((it_shl ((it_us x1 (10 : Int32)) &&& (7 : Int32)) (3 : Int32)) ||| r1) ||| r3)), none]) (st1 := []) (mem1 := m4) rfl ?_
      refine it_V.ite (fun c19 => ?_) (fun c19 => ?_)
      · have h := h.1 c19
        refine it_V.sN it_cd337 it_m337 5 (pc1 := 162) (ls1 := [some (.ref 66), some (.int x0), some (.int x1), some (.int x2), some (.int ((8 : Int32) + ((it_us x1 (7 : Int32)) &&& (7 : Int32)))), some (.int ((8 : Int32) + ((it_us x1 (2 : Int32)) &&& (7 : Int32)))), some (.int (((it_shl ((it_us x1 (10 : Int32)) &&& (7 : Int32)) (3 : Int32)) ||| r1) ||| r3)), none]) (st1 := [(.int ((8 : Int32) + ((it_us x1 (7 : Int32)) &&& (7 : Int32)))), (.int x0), (.ref 66), (.int x0), (.ref 66)]) (mem1 := m4) rfl ?_
        refine it_V.call it_cd337 it_m337 rfl it_m318 [(.ref 66), (.int x0), (.int ((8 : Int32) + ((it_us x1 (7 : Int32)) &&& (7 : Int32))))] [(.int x0), (.ref 66)] rfl rfl ⟨Nat.le_of_ble_eq_true rfl, Nat.le_of_ble_eq_true rfl, Nat.le_of_ble_eq_true rfl, Nat.le_of_ble_eq_true rfl, rfl⟩ (s_318 kc x0 ((8 : Int32) + ((it_us x1 (7 : Int32)) &&& (7 : Int32))) m4 _ h) ?_
        rintro _ m21 ⟨r20, rfl, h⟩
        refine it_V.at (pc1 := 165) (ls1 := [some (.ref 66), some (.int x0), some (.int x1), some (.int x2), some (.int ((8 : Int32) + ((it_us x1 (7 : Int32)) &&& (7 : Int32)))), some (.int ((8 : Int32) + ((it_us x1 (2 : Int32)) &&& (7 : Int32)))), some (.int (((it_shl ((it_us x1 (10 : Int32)) &&& (7 : Int32)) (3 : Int32)) ||| r1) ||| r3)), none]) (st1 := [(.int r20), (.int x0), (.ref 66)]) (mem1 := m21) rfl rfl rfl rfl ?_
        refine it_V.sN it_cd337 it_m337 6 (pc1 := 173) (ls1 := [some (.ref 66), some (.int x0), some (.int x1), some (.int x2), some (.int ((8 : Int32) + ((it_us x1 (7 : Int32)) &&& (7 : Int32)))), some (.int ((8 : Int32) + ((it_us x1 (2 : Int32)) &&& (7 : Int32)))), some (.int (((it_shl ((it_us x1 (10 : Int32)) &&& (7 : Int32)) (3 : Int32)) ||| r1) ||| r3)), none]) (st1 := [(.int ((8 : Int32) + ((it_us x1 (2 : Int32)) &&& (7 : Int32)))), (.int x0), (.ref 66), (.int (2 : Int32)), (.int (r20 + (((it_shl ((it_us x1 (10 : Int32)) &&& (7 : Int32)) (3 : Int32)) ||| r1) ||| r3))), (.int x0), (.ref 66)]) (mem1 := m21) rfl ?_
        refine it_V.call it_cd337 it_m337 rfl it_m318 [(.ref 66), (.int x0), (.int ((8 : Int32) + ((it_us x1 (2 : Int32)) &&& (7 : Int32))))] [(.int (2 : Int32)), (.int (r20 + (((it_shl ((it_us x1 (10 : Int32)) &&& (7 : Int32)) (3 : Int32)) ||| r1) ||| r3))), (.int x0), (.ref 66)] rfl rfl ⟨Nat.le_of_ble_eq_true rfl, Nat.le_of_ble_eq_true rfl, Nat.le_of_ble_eq_true rfl, Nat.le_of_ble_eq_true rfl, rfl⟩ (s_318 kc x0 ((8 : Int32) + ((it_us x1 (2 : Int32)) &&& (7 : Int32))) m21 _ h) ?_
        rintro _ m23 ⟨r22, rfl, h⟩
        refine it_V.at (pc1 := 176) (ls1 := [some (.ref 66), some (.int x0), some (.int x1), some (.int x2), some (.int ((8 : Int32) + ((it_us x1 (7 : Int32)) &&& (7 : Int32)))), some (.int ((8 : Int32) + ((it_us x1 (2 : Int32)) &&& (7 : Int32)))), some (.int (((it_shl ((it_us x1 (10 : Int32)) &&& (7 : Int32)) (3 : Int32)) ||| r1) ||| r3)), none]) (st1 := [(.int r22), (.int (2 : Int32)), (.int (r20 + (((it_shl ((it_us x1 (10 : Int32)) &&& (7 : Int32)) (3 : Int32)) ||| r1) ||| r3))), (.int x0), (.ref 66)]) (mem1 := m23) rfl rfl rfl rfl ?_
        refine it_V.sN it_cd337 it_m337 1 (pc1 := 177) (ls1 := [some (.ref 66), some (.int x0), some (.int x1), some (.int x2), some (.int ((8 : Int32) + ((it_us x1 (7 : Int32)) &&& (7 : Int32)))), some (.int ((8 : Int32) + ((it_us x1 (2 : Int32)) &&& (7 : Int32)))), some (.int (((it_shl ((it_us x1 (10 : Int32)) &&& (7 : Int32)) (3 : Int32)) ||| r1) ||| r3)), none]) (st1 := [(.int (2 : Int32)), (.int r22), (.int (2 : Int32)), (.int (r20 + (((it_shl ((it_us x1 (10 : Int32)) &&& (7 : Int32)) (3 : Int32)) ||| r1) ||| r3))), (.int x0), (.ref 66)]) (mem1 := m23) rfl ?_
        refine it_V.call it_cd337 it_m337 rfl it_m326 [(.ref 66), (.int x0), (.int (r20 + (((it_shl ((it_us x1 (10 : Int32)) &&& (7 : Int32)) (3 : Int32)) ||| r1) ||| r3))), (.int (2 : Int32)), (.int r22), (.int (2 : Int32))] [] rfl rfl ⟨Nat.le_of_ble_eq_true rfl, Nat.le_of_ble_eq_true rfl, Nat.le_of_ble_eq_true rfl, Nat.le_of_ble_eq_true rfl, rfl⟩ (s_326 kc x0 (r20 + (((it_shl ((it_us x1 (10 : Int32)) &&& (7 : Int32)) (3 : Int32)) ||| r1) ||| r3)) (2 : Int32) r22 (2 : Int32) m23 _ h) ?_
        rintro _ m24 ⟨rfl, h⟩
        refine it_V.at (pc1 := 180) (ls1 := [some (.ref 66), some (.int x0), some (.int x1), some (.int x2), some (.int ((8 : Int32) + ((it_us x1 (7 : Int32)) &&& (7 : Int32)))), some (.int ((8 : Int32) + ((it_us x1 (2 : Int32)) &&& (7 : Int32)))), some (.int (((it_shl ((it_us x1 (10 : Int32)) &&& (7 : Int32)) (3 : Int32)) ||| r1) ||| r3)), none]) (st1 := []) (mem1 := m24) rfl rfl rfl rfl ?_
        refine it_V.sN it_cd337 it_m337 1 (pc1 := 189) (ls1 := [some (.ref 66), some (.int x0), some (.int x1), some (.int x2), some (.int ((8 : Int32) + ((it_us x1 (7 : Int32)) &&& (7 : Int32)))), some (.int ((8 : Int32) + ((it_us x1 (2 : Int32)) &&& (7 : Int32)))), some (.int (((it_shl ((it_us x1 (10 : Int32)) &&& (7 : Int32)) (3 : Int32)) ||| r1) ||| r3)), none]) (st1 := []) (mem1 := m24) rfl ?_
        refine it_V.weak (l := [none, none, none, none, none, none, none, none]) trivial ?_
        exact s_337_189 kc Φ m24 h
      · have h := h.2 c19
        refine it_V.sN it_cd337 it_m337 3 (pc1 := 186) (ls1 := [some (.ref 66), some (.int x0), some (.int x1), some (.int x2), some (.int ((8 : Int32) + ((it_us x1 (7 : Int32)) &&& (7 : Int32)))), some (.int ((8 : Int32) + ((it_us x1 (2 : Int32)) &&& (7 : Int32)))), some (.int (((it_shl ((it_us x1 (10 : Int32)) &&& (7 : Int32)) (3 : Int32)) ||| r1) ||| r3)), none]) (st1 := [(.int x1), (.int x0), (.ref 66)]) (mem1 := m4) rfl ?_
        refine it_V.call it_cd337 it_m337 rfl it_m321 [(.ref 66), (.int x0), (.int x1)] [] rfl rfl ⟨Nat.le_of_ble_eq_true rfl, Nat.le_of_ble_eq_true rfl, Nat.le_of_ble_eq_true rfl, Nat.le_of_ble_eq_true rfl, rfl⟩ (s_321 kc x0 x1 m4 _ h) ?_
        rintro _ m25 ⟨rfl, h⟩
        refine it_V.at (pc1 := 189) (ls1 := [some (.ref 66), some (.int x0), some (.int x1), some (.int x2), some (.int ((8 : Int32) + ((it_us x1 (7 : Int32)) &&& (7 : Int32)))), some (.int ((8 : Int32) + ((it_us x1 (2 : Int32)) &&& (7 : Int32)))), some (.int (((it_shl ((it_us x1 (10 : Int32)) &&& (7 : Int32)) (3 : Int32)) ||| r1) ||| r3)), none]) (st1 := []) (mem1 := m25) rfl rfl rfl rfl ?_
        refine it_V.weak (l := [none, none, none, none, none, none, none, none]) trivial ?_
        exact s_337_189 kc Φ m25 h
set_option maxRecDepth 100000 in
set_option maxHeartbeats 4000000 in
theorem s_335 (kc : it_Kc) (x0 : Int32) (m : it_Me) (Φ : Int32 → it_Me → Prop) (h : w_335 kc x0 m Φ) : it_V kc it_sh0 335 0 (it_loc0 [(.int x0)] 1) [] m (it_Pi Φ) := by
  rw [w_335] at h
  refine it_V.at (pc1 := 0) (ls1 := [some (.int x0)]) (st1 := []) (mem1 := m) rfl rfl rfl rfl ?_
  refine it_V.sN it_cd335 it_m335 3 (pc1 := 4) (ls1 := [some (.int x0)]) (st1 := [(.int (5 : Int32)), (.int (12 : Int32)), (.int x0)]) (mem1 := m) rfl ?_
  refine it_V.call it_cd335 it_m335 rfl it_m333 [(.int x0), (.int (12 : Int32)), (.int (5 : Int32))] [] rfl rfl ⟨Nat.le_of_ble_eq_true rfl, Nat.le_of_ble_eq_true rfl, Nat.le_of_ble_eq_true rfl, Nat.le_of_ble_eq_true rfl, rfl⟩ (s_333 kc x0 (12 : Int32) (5 : Int32) m _ h) ?_
  rintro _ m2 ⟨r1, rfl, h⟩
  refine it_V.at (pc1 := 7) (ls1 := [some (.int x0)]) (st1 := [(.int r1)]) (mem1 := m2) rfl rfl rfl rfl ?_
  refine it_V.sN it_cd335 it_m335 7 (pc1 := 15) (ls1 := [some (.int x0)]) (st1 := [(.int ((-r1) ||| ((it_us x0 (2 : Int32)) &&& (31 : Int32))))]) (mem1 := m2) rfl ?_
  exact it_V.ret it_cd335 it_m335 rfl rfl ⟨_, rfl, h⟩
set_option maxRecDepth 100000 in
set_option maxHeartbeats 4000000 in
theorem s_339_197 (kc : it_Kc) (Φ : it_Me → Prop) (m : it_Me) (h : w_339_197 kc Φ m) : it_V kc it_sh0 339 197 [none, none, none, none, none, none, none, none, none] [] m (it_Pv Φ) := by
  rw [w_339_197] at h
  exact it_V.ret it_cd339 it_m339 rfl rfl ⟨rfl, h⟩
set_option maxRecDepth 100000 in
set_option maxHeartbeats 4000000 in
theorem s_339_132 (kc : it_Kc) (Φ : it_Me → Prop) (u1 : Int32) (u2 : Int32) (u3 : Int32) (m : it_Me) (h : w_339_132 kc Φ u1 u2 u3 m) : it_V kc it_sh0 339 132 [none, none, none, none, none, none, none, none, none] [(.int u3), (.int u2), (.int u1), (.ref 66)] m (it_Pv Φ) := by
  rw [w_339_132] at h
  refine it_V.call it_cd339 it_m339 rfl it_m334 [(.ref 66), (.int u1), (.int u2), (.int u3)] [] rfl rfl ⟨Nat.le_of_ble_eq_true rfl, Nat.le_of_ble_eq_true rfl, Nat.le_of_ble_eq_true rfl, Nat.le_of_ble_eq_true rfl, rfl⟩ (s_334 kc u1 u2 u3 m _ h) ?_
  rintro _ m1 ⟨rfl, h⟩
  refine it_V.at (pc1 := 135) (ls1 := [none, none, none, none, none, none, none, none, none]) (st1 := []) (mem1 := m1) rfl rfl rfl rfl ?_
  refine it_V.sN it_cd339 it_m339 1 (pc1 := 197) (ls1 := [none, none, none, none, none, none, none, none, none]) (st1 := []) (mem1 := m1) rfl ?_
  refine it_V.weak (l := [none, none, none, none, none, none, none, none, none]) trivial ?_
  exact s_339_197 kc Φ m1 h
set_option maxRecDepth 100000 in
set_option maxHeartbeats 4000000 in
theorem s_339_194 (kc : it_Kc) (Φ : it_Me → Prop) (u1 : Int32) (u2 : Int32) (u3 : Int32) (m : it_Me) (h : w_339_194 kc Φ u1 u2 u3 m) : it_V kc it_sh0 339 194 [none, none, none, none, none, none, none, none, none] [(.int u3), (.int u2), (.int u1), (.ref 66)] m (it_Pv Φ) := by
  rw [w_339_194] at h
  refine it_V.call it_cd339 it_m339 rfl it_m334 [(.ref 66), (.int u1), (.int u2), (.int u3)] [] rfl rfl ⟨Nat.le_of_ble_eq_true rfl, Nat.le_of_ble_eq_true rfl, Nat.le_of_ble_eq_true rfl, Nat.le_of_ble_eq_true rfl, rfl⟩ (s_334 kc u1 u2 u3 m _ h) ?_
  rintro _ m1 ⟨rfl, h⟩
  refine it_V.at (pc1 := 197) (ls1 := [none, none, none, none, none, none, none, none, none]) (st1 := []) (mem1 := m1) rfl rfl rfl rfl ?_
  refine it_V.weak (l := [none, none, none, none, none, none, none, none, none]) trivial ?_
  exact s_339_197 kc Φ m1 h
set_option maxRecDepth 100000 in
set_option maxHeartbeats 4000000 in
theorem s_339_59 (kc : it_Kc) (Φ : it_Me → Prop) (v1 : Int32) (v2 : Int32) (v3 : Int32) (v4 : Int32) (v5 : Int32) (v6 : Int32) (u0 : Int32) (m : it_Me) (h : w_339_59 kc Φ v1 v2 v3 v4 v5 v6 u0 m) : it_V kc it_sh0 339 59 [some (.ref 66), some (.int v1), some (.int v2), some (.int v3), some (.int v4), some (.int v5), some (.int v6), none, none] [(.int u0)] m (it_Pv Φ) := by
  rw [w_339_59] at h
  refine it_V.sN it_cd339 it_m339 4 (pc1 := (if v6 = (2 : Int32) then 67 else 83)) (ls1 := [some (.ref 66), some (.int v1), some (.int v2), some (.int v3), some (.int v4), some (.int v5), some (.int v6), some (.int u0), none]) (st1 := []) (mem1 := m) rfl ?_
  refine it_V.ite (fun c1 => ?_) (fun c1 => ?_)
  · have h := h.1 c1
    refine it_V.sN it_cd339 it_m339 5 (pc1 := 73) (ls1 := [some (.ref 66), some (.int v1), some (.int v2), some (.int v3), some (.int v4), some (.int v5), some (.int v6), some (.int u0), none]) (st1 := [(.int v2), (.int v4), (.int v3), (.int v1), (.ref 66)]) (mem1 := m) rfl ?_
    refine it_V.call it_cd339 it_m339 rfl it_m335 [(.int v2)] [(.int v4), (.int v3), (.int v1), (.ref 66)] rfl rfl ⟨Nat.le_of_ble_eq_true rfl, Nat.le_of_ble_eq_true rfl, Nat.le_of_ble_eq_true rfl, Nat.le_of_ble_eq_true rfl, rfl⟩ (s_335 kc v2 m _ h) ?_
    rintro _ m3 ⟨r2, rfl, h⟩
    refine it_V.at (pc1 := 76) (ls1 := [some (.ref 66), some (.int v1), some (.int v2), some (.int v3), some (.int v4), some (.int v5), some (.int v6), some (.int u0), none]) (st1 := [(.int r2), (.int v4), (.int v3), (.int v1), (.ref 66)]) (mem1 := m3) rfl rfl rfl rfl ?_
    refine it_V.sN it_cd339 it_m339 1 (pc1 := 77) (ls1 := [some (.ref 66), some (.int v1), some (.int v2), some (.int v3), some (.int v4), some (.int v5), some (.int v6), some (.int u0), none]) (st1 := [(.int (v4 &&& r2)), (.int v3), (.int v1), (.ref 66)]) (mem1 := m3) rfl ?_
    refine it_V.call it_cd339 it_m339 rfl it_m334 [(.ref 66), (.int v1), (.int v3), (.int (v4 &&& r2))] [] rfl rfl ⟨Nat.le_of_ble_eq_true rfl, Nat.le_of_ble_eq_true rfl, Nat.le_of_ble_eq_true rfl, Nat.le_of_ble_eq_true rfl, rfl⟩ (s_334 kc v1 v3 (v4 &&& r2) m3 _ h) ?_
    rintro _ m4 ⟨rfl, h⟩
    refine it_V.at (pc1 := 80) (ls1 := [some (.ref 66), some (.int v1), some (.int v2), some (.int v3), some (.int v4), some (.int v5), some (.int v6), some (.int u0), none]) (st1 := []) (mem1 := m4) rfl rfl rfl rfl ?_
    refine it_V.sN it_cd339 it_m339 1 (pc1 := 197) (ls1 := [some (.ref 66), some (.int v1), some (.int v2), some (.int v3), some (.int v4), some (.int v5), some (.int v6), some (.int u0), none]) (st1 := []) (mem1 := m4) rfl ?_
    refine it_V.weak (l := [none, none, none, none, none, none, none, none, none]) trivial ?_
    exact s_339_197 kc Φ m4 h
  · have h := h.2 c1
    refine it_V.sN it_cd339 it_m339 2 (pc1 := (if u0 = 0 then 97 else 88)) (ls1 := [some (.ref 66), some (.int v1), some (.int v2), some (.int v3), some (.int v4), some (.int v5), some (.int v6), some (.int u0), none]) (st1 := []) (mem1 := m) rfl ?_
    refine it_V.ite (fun c5 => ?_) (fun c5 => ?_)
    · have h := h.1 c5
      refine it_V.sN it_cd339 it_m339 3 (pc1 := (if (2 : Int32) ≤ v6 then 138 else 103)) (ls1 := [some (.ref 66), some (.int v1), some (.int v2), some (.int v3), some (.int v4), some (.int v5), some (.int v6), some (.int u0), none]) (st1 := []) (mem1 := m) rfl ?_
      refine it_V.ite (fun c6 => ?_) (fun c6 => ?_)
      · have h := h.1 c6
        refine it_V.sN it_cd339 it_m339 11 (pc1 := (if ((it_us v2 (5 : Int32)) &&& (3 : Int32)) = 0 then 153 else 161)) (ls1 := [some (.ref 66), some (.int v1), some (.int v2), some (.int v3), some (.int v4), some (.int v5), some (.int v6), some (.int u0), some (.int ((it_us v2 (5 : Int32)) &&& (3 : Int32)))]) (st1 := [(.int v3), (.int v1), (.ref 66)]) (mem1 := m) rfl ?_
        refine it_V.ite (fun c7 => ?_) (fun c7 => ?_)
        · have h := h.1 c7
          refine it_V.sN it_cd339 it_m339 4 (pc1 := 194) (ls1 := [some (.ref 66), some (.int v1), some (.int v2), some (.int v3), some (.int v4), some (.int v5), some (.int v6), some (.int u0), some (.int ((it_us v2 (5 : Int32)) &&& (3 : Int32)))]) (st1 := [(.int (v4 - v5)), (.int v3), (.int v1), (.ref 66)]) (mem1 := m) rfl ?_
          refine it_V.weak (l := [none, none, none, none, none, none, none, none, none]) trivial ?_
          exact s_339_194 kc Φ v1 v3 (v4 - v5) m h
        · have h := h.2 c7
          refine it_V.sN it_cd339 it_m339 3 (pc1 := (if ((it_us v2 (5 : Int32)) &&& (3 : Int32)) = (1 : Int32) then 167 else 175)) (ls1 := [some (.ref 66), some (.int v1), some (.int v2), some (.int v3), some (.int v4), some (.int v5), some (.int v6), some (.int u0), some (.int ((it_us v2 (5 : Int32)) &&& (3 : Int32)))]) (st1 := [(.int v3), (.int v1), (.ref 66)]) (mem1 := m) rfl ?_
          refine it_V.ite (fun c8 => ?_) (fun c8 => ?_)
          · have h := h.1 c8
            refine it_V.sN it_cd339 it_m339 4 (pc1 := 194) (ls1 := [some (.ref 66), some (.int v1), some (.int v2), some (.int v3), some (.int v4), some (.int v5), some (.int v6), some (.int u0), some (.int ((it_us v2 (5 : Int32)) &&& (3 : Int32)))]) (st1 := [(.int (v4 ^^^ v5)), (.int v3), (.int v1), (.ref 66)]) (mem1 := m) rfl ?_
            refine it_V.weak (l := [none, none, none, none, none, none, none, none, none]) trivial ?_
            exact s_339_194 kc Φ v1 v3 (v4 ^^^ v5) m h
          · have h := h.2 c8
            refine it_V.sN it_cd339 it_m339 3 (pc1 := (if ((it_us v2 (5 : Int32)) &&& (3 : Int32)) = (2 : Int32) then 181 else 189)) (ls1 := [some (.ref 66), some (.int v1), some (.int v2), some (.int v3), some (.int v4), some (.int v5), some (.int v6), some (.int u0), some (.int ((it_us v2 (5 : Int32)) &&& (3 : Int32)))]) (st1 := [(.int v3), (.int v1), (.ref 66)]) (mem1 := m) rfl ?_
            refine it_V.ite (fun c9 => ?_) (fun c9 => ?_)
            · have h := h.1 c9
              refine it_V.sN it_cd339 it_m339 4 (pc1 := 194) (ls1 := [some (.ref 66), some (.int v1), some (.int v2), some (.int v3), some (.int v4), some (.int v5), some (.int v6), some (.int u0), some (.int ((it_us v2 (5 : Int32)) &&& (3 : Int32)))]) (st1 := [(.int (v4 ||| v5)), (.int v3), (.int v1), (.ref 66)]) (mem1 := m) rfl ?_
              refine it_V.weak (l := [none, none, none, none, none, none, none, none, none]) trivial ?_
              exact s_339_194 kc Φ v1 v3 (v4 ||| v5) m h
            · have h := h.2 c9
              refine it_V.sN it_cd339 it_m339 3 (pc1 := 194) (ls1 := [some (.ref 66), some (.int v1), some (.int v2), some (.int v3), some (.int v4), some (.int v5), some (.int v6), some (.int u0), some (.int ((it_us v2 (5 : Int32)) &&& (3 : Int32)))]) (st1 := [(.int (v4 &&& v5)), (.int v3), (.int v1), (.ref 66)]) (mem1 := m) rfl ?_
              refine it_V.weak (l := [none, none, none, none, none, none, none, none, none]) trivial ?_
              exact s_339_194 kc Φ v1 v3 (v4 &&& v5) m h
      · have h := h.2 c6
        refine it_V.sN it_cd339 it_m339 11 (pc1 := (if v6 = 0 then 119 else 127)) (ls1 := [some (.ref 66), some (.int v1), some (.int v2), some (.int v3), some (.int v4), some (.int v5), some (.int v6), some (.int u0), some (.int ((it_us v2 (2 : Int32)) &&& (31 : Int32)))]) (st1 := [(.int v3), (.int v1), (.ref 66)]) (mem1 := m) rfl ?_
        refine it_V.ite (fun c10 => ?_) (fun c10 => ?_)
        · have h := h.1 c10
          refine it_V.sN it_cd339 it_m339 4 (pc1 := 132) (ls1 := [some (.ref 66), some (.int v1), some (.int v2), some (.int v3), some (.int v4), some (.int v5), some (.int v6), some (.int u0), some (.int ((it_us v2 (2 : Int32)) &&& (31 : Int32)))]) (st1 := [(.int (it_us v4 ((it_us v2 (2 : Int32)) &&& (31 : Int32)))), (.int v3), (.int v1), (.ref 66)]) (mem1 := m) rfl ?_
          refine it_V.weak (l := [none, none, none, none, none, none, none, none, none]) trivial ?_
          exact s_339_132 kc Φ v1 v3 (it_us v4 ((it_us v2 (2 : Int32)) &&& (31 : Int32))) m h
        · have h := h.2 c10
          refine it_V.sN it_cd339 it_m339 3 (pc1 := 132) (ls1 := [some (.ref 66), some (.int v1), some (.int v2), some (.int v3), some (.int v4), some (.int v5), some (.int v6), some (.int u0), some (.int ((it_us v2 (2 : Int32)) &&& (31 : Int32)))]) (st1 := [(.int (it_shr v4 ((it_us v2 (2 : Int32)) &&& (31 : Int32)))), (.int v3), (.int v1), (.ref 66)]) (mem1 := m) rfl ?_
          refine it_V.weak (l := [none, none, none, none, none, none, none, none, none]) trivial ?_
          exact s_339_132 kc Φ v1 v3 (it_shr v4 ((it_us v2 (2 : Int32)) &&& (31 : Int32))) m h
    · have h := h.2 c5
      refine it_V.sN it_cd339 it_m339 3 (pc1 := 91) (ls1 := [some (.ref 66), some (.int v1), some (.int v2), some (.int v3), some (.int v4), some (.int v5), some (.int v6), some (.int u0), none]) (st1 := [(.int v2), (.int v1), (.ref 66)]) (mem1 := m) rfl ?_
      refine it_V.call it_cd339 it_m339 rfl it_m321 [(.ref 66), (.int v1), (.int v2)] [] rfl rfl ⟨Nat.le_of_ble_eq_true rfl, Nat.le_of_ble_eq_true rfl, Nat.le_of_ble_eq_true rfl, Nat.le_of_ble_eq_true rfl, rfl⟩ (s_321 kc v1 v2 m _ h) ?_
      rintro _ m11 ⟨rfl, h⟩
      refine it_V.at (pc1 := 94) (ls1 := [some (.ref 66), some (.int v1), some (.int v2), some (.int v3), some (.int v4), some (.int v5), some (.int v6), some (.int u0), none]) (st1 := []) (mem1 := m11) rfl rfl rfl rfl ?_
      refine it_V.sN it_cd339 it_m339 1 (pc1 := 197) (ls1 := [some (.ref 66), some (.int v1), some (.int v2), some (.int v3), some (.int v4), some (.int v5), some (.int v6), some (.int u0), none]) (st1 := []) (mem1 := m11) rfl ?_
      refine it_V.weak (l := [none, none, none, none, none, none, none, none, none]) trivial ?_
      exact s_339_197 kc Φ m11 h
set_option maxRecDepth 100000 in
set_option maxHeartbeats 4000000 in
theorem s_339 (kc : it_Kc) (x0 : Int32) (x1 : Int32) (m : it_Me) (Φ : it_Me → Prop) (h : w_339 kc x0 x1 m Φ) : it_V kc it_sh0 339 0 (it_loc0 [(.ref 66), (.int x0), (.int x1)] 9) [] m (it_Pv Φ) := by
  rw [w_339] at h
  refine it_V.at (pc1 := 0) (ls1 := [some (.ref 66), some (.int x0), some (.int x1), none, none, none, none, none, none]) (st1 := []) (mem1 := m) rfl rfl rfl rfl ?_
  refine it_V.sN it_cd339 it_m339 11 (pc1 := 14) (ls1 := [some (.ref 66), some (.int x0), some (.int x1), some (.int ((8 : Int32) + ((it_us x1 (7 : Int32)) &&& (7 : Int32)))), none, none, none, none, none]) (st1 := [(.int ((8 : Int32) + ((it_us x1 (7 : Int32)) &&& (7 : Int32)))), (.int x0), (.ref 66)]) (mem1 := m) rfl ?_
  refine it_V.call it_cd339 it_m339 rfl it_m318 [(.ref 66), (.int x0), (.int ((8 : Int32) + ((it_us x1 (7 : Int32)) &&& (7 : Int32))))] [] rfl rfl ⟨Nat.le_of_ble_eq_true rfl, Nat.le_of_ble_eq_true rfl, Nat.le_of_ble_eq_true rfl, Nat.le_of_ble_eq_true rfl, rfl⟩ (s_318 kc x0 ((8 : Int32) + ((it_us x1 (7 : Int32)) &&& (7 : Int32))) m _ h) ?_
  rintro _ m2 ⟨r1, rfl, h⟩
  refine it_V.at (pc1 := 17) (ls1 := [some (.ref 66), some (.int x0), some (.int x1), some (.int ((8 : Int32) + ((it_us x1 (7 : Int32)) &&& (7 : Int32)))), none, none, none, none, none]) (st1 := [(.int r1)]) (mem1 := m2) rfl rfl rfl rfl ?_
  refine it_V.sN it_cd339 it_m339 10 (pc1 := 30) (ls1 := [some (.ref 66), some (.int x0), some (.int x1), some (.int ((8 : Int32) + ((it_us x1 (7 : Int32)) &&& (7 : Int32)))), some (.int r1), none, none, none, none]) (st1 := [(.int ((8 : Int32) + ((it_us x1 (2 : Int32)) &&& (7 : Int32)))), (.int x0), (.ref 66)]) (mem1 := m2) rfl ?_
  refine it_V.call it_cd339 it_m339 rfl it_m318 [(.ref 66), (.int x0), (.int ((8 : Int32) + ((it_us x1 (2 : Int32)) &&& (7 : Int32))))] [] rfl rfl ⟨Nat.le_of_ble_eq_true rfl, Nat.le_of_ble_eq_true rfl, Nat.le_of_ble_eq_true rfl, Nat.le_of_ble_eq_true rfl, rfl⟩ (s_318 kc x0 ((8 : Int32) + ((it_us x1 (2 : Int32)) &&& (7 : Int32))) m2 _ h) ?_
  rintro _ m4 ⟨r3, rfl, h⟩
  refine it_V.at (pc1 := 33) (ls1 := [some (.ref 66), some (.int x0), some (.int x1), some (.int ((8 : Int32) + ((it_us x1 (7 : Int32)) &&& (7 : Int32)))), some (.int r1), none, none, none, none]) (st1 := [(.int r3)]) (mem1 := m4) rfl rfl rfl rfl ?_
  refine it_V.sN it_cd339 it_m339 10 (pc1 := 47) (ls1 := [some (.ref 66), some (.int x0), some (.int x1), some (.int ((8 : Int32) + ((it_us x1 (7 : Int32)) &&& (7 : Int32)))), some (.int r1), some (.int r3), some (.int ((it_us x1 (10 : Int32)) &&& (3 : Int32))), none, none]) (st1 := [(.int (0 : Int32)), (.int (12 : Int32)), (.int x1)]) (mem1 := m4) rfl ?_
  refine it_V.call it_cd339 it_m339 rfl it_m333 [(.int x1), (.int (12 : Int32)), (.int (0 : Int32))] [] rfl rfl ⟨Nat.le_of_ble_eq_true rfl, Nat.le_of_ble_eq_true rfl, Nat.le_of_ble_eq_true rfl, Nat.le_of_ble_eq_true rfl, rfl⟩ (s_333 kc x1 (12 : Int32) (0 : Int32) m4 _ h) ?_
  rintro _ m6 ⟨r5, rfl, h⟩
  refine it_V.at (pc1 := 50) (ls1 := [some (.ref 66), some (.int x0), some (.int x1), some (.int ((8 : Int32) + ((it_us x1 (7 : Int32)) &&& (7 : Int32)))), some (.int r1), some (.int r3), some (.int ((it_us x1 (10 : Int32)) &&& (3 : Int32))), none, none]) (st1 := [(.int r5)]) (mem1 := m6) rfl rfl rfl rfl ?_
  refine it_V.sN it_cd339 it_m339 2 (pc1 := (if r5 = (1 : Int32) then 54 else 58)) (ls1 := [some (.ref 66), some (.int x0), some (.int x1), some (.int ((8 : Int32) + ((it_us x1 (7 : Int32)) &&& (7 : Int32)))), some (.int r1), some (.int r3), some (.int ((it_us x1 (10 : Int32)) &&& (3 : Int32))), none, none]) (st1 := []) (mem1 := m6) rfl ?_
  refine it_V.ite (fun c7 => ?_) (fun c7 => ?_)
  · have h := h.1 c7
    refine it_V.sN it_cd339 it_m339 2 (pc1 := 59) (ls1 := [some (.ref 66), some (.int x0), some (.int x1), some (.int ((8 : Int32) + ((it_us x1 (7 : Int32)) &&& (7 : Int32)))), some (.int r1), some (.int r3), some (.int ((it_us x1 (10 : Int32)) &&& (3 : Int32))), none, none]) (st1 := [(.int (1 : Int32))]) (mem1 := m6) rfl ?_
    exact s_339_59 kc Φ x0 x1 ((8 : Int32) + ((it_us x1 (7 : Int32)) &&& (7 : Int32))) r1 r3 ((it_us x1 (10 : Int32)) &&& (3 : Int32)) (1 : Int32) m6 h
  · have h := h.2 c7
    refine it_V.sN it_cd339 it_m339 1 (pc1 := 59) (ls1 := [some (.ref 66), some (.int x0), some (.int x1), some (.int ((8 : Int32) + ((it_us x1 (7 : Int32)) &&& (7 : Int32)))), some (.int r1), some (.int r3), some (.int ((it_us x1 (10 : Int32)) &&& (3 : Int32))), none, none]) (st1 := [(.int (0 : Int32))]) (mem1 := m6) rfl ?_
    exact s_339_59 kc Φ x0 x1 ((8 : Int32) + ((it_us x1 (7 : Int32)) &&& (7 : Int32))) r1 r3 ((it_us x1 (10 : Int32)) &&& (3 : Int32)) (0 : Int32) m6 h
set_option maxRecDepth 100000 in
set_option maxHeartbeats 4000000 in
theorem s_338_394 (kc : it_Kc) (Φ : it_Me → Prop) (m : it_Me) (h : w_338_394 kc Φ m) : it_V kc it_sh0 338 394 [none, none, none, none, none, none, none, none] [] m (it_Pv Φ) := by
  rw [w_338_394] at h
  exact it_V.ret it_cd338 it_m338 rfl rfl ⟨rfl, h⟩
set_option maxRecDepth 100000 in
set_option maxHeartbeats 4000000 in
theorem s_338_165 (kc : it_Kc) (Φ : it_Me → Prop) (v1 : Int32) (v5 : Int32) (v6 : Int32) (m : it_Me) (h : w_338_165 kc Φ v1 v5 v6 m) : it_V kc it_sh0 338 165 [some (.ref 66), some (.int v1), none, none, none, some (.int v5), some (.int v6), none] [] m (it_Pv Φ) := by
  rw [w_338_165] at h
  refine it_V.sN it_cd338 it_m338 6 (pc1 := 175) (ls1 := [some (.ref 66), some (.int v1), none, none, none, some (.int v5), some (.int v6), none]) (st1 := [(.int (v5 + v6)), (.int v1), (.ref 94)]) (mem1 := m) rfl ?_
  obtain ⟨g1, h⟩ := h
  refine it_V.iast it_cd338 it_m338 rfl ((⟨rfl, by decide⟩ : it_isR 94 8)).1 g1 ?_
  refine it_V.at (pc1 := 176) (ls1 := [some (.ref 66), some (.int v1), none, none, none, some (.int v5), some (.int v6), none]) (st1 := []) (mem1 := (it_sv m 94 (Int32.toNatClampNeg v1) (v5 + v6))) rfl rfl rfl rfl ?_
  refine it_V.sN it_cd338 it_m338 1 (pc1 := 394) (ls1 := [some (.ref 66), some (.int v1), none, none, none, some (.int v5), some (.int v6), none]) (st1 := []) (mem1 := (it_sv m 94 (Int32.toNatClampNeg v1) (v5 + v6))) rfl ?_
  refine it_V.weak (l := [none, none, none, none, none, none, none, none]) trivial ?_
  exact s_338_394 kc Φ (it_sv m 94 (Int32.toNatClampNeg v1) (v5 + v6)) h
set_option maxRecDepth 100000 in
set_option maxHeartbeats 4000000 in
theorem s_338_392 (kc : it_Kc) (Φ : it_Me → Prop) (u1 : Int32) (u2 : Int32) (u3 : Int32) (m : it_Me) (h : w_338_392 kc Φ u1 u2 u3 m) : it_V kc it_sh0 338 392 [none, none, none, none, none, none, none, none] [(.int u3), (.int u2), (.int u1), (.ref 94)] m (it_Pv Φ) := by
  rw [w_338_392] at h
  refine it_V.sN it_cd338 it_m338 1 (pc1 := 393) (ls1 := [none, none, none, none, none, none, none, none]) (st1 := [(.int (u2 + u3)), (.int u1), (.ref 94)]) (mem1 := m) rfl ?_
  obtain ⟨g1, h⟩ := h
  refine it_V.iast it_cd338 it_m338 rfl ((⟨rfl, by decide⟩ : it_isR 94 8)).1 g1 ?_
  refine it_V.at (pc1 := 394) (ls1 := [none, none, none, none, none, none, none, none]) (st1 := []) (mem1 := (it_sv m 94 (Int32.toNatClampNeg u1) (u2 + u3))) rfl rfl rfl rfl ?_
  refine it_V.weak (l := [none, none, none, none, none, none, none, none]) trivial ?_
  exact s_338_394 kc Φ (it_sv m 94 (Int32.toNatClampNeg u1) (u2 + u3)) h
set_option maxRecDepth 100000 in
set_option maxHeartbeats 4000000 in
theorem s_338_383 (kc : it_Kc) (Φ : it_Me → Prop) (v7 : Int32) (u1 : Int32) (u2 : Int32) (u3 : Int32) (u4 : Int32) (m : it_Me) (h : w_338_383 kc Φ v7 u1 u2 u3 u4 m) : it_V kc it_sh0 338 383 [none, none, none, none, none, none, none, some (.int v7)] [(.int u4), (.int u3), (.int u2), (.int u1), (.ref 94)] m (it_Pv Φ) := by
  rw [w_338_383] at h
  refine it_V.sN it_cd338 it_m338 1 (pc1 := (if u3 = u4 then 386 else 391)) (ls1 := [none, none, none, none, none, none, none, some (.int v7)]) (st1 := [(.int u2), (.int u1), (.ref 94)]) (mem1 := m) rfl ?_
  refine it_V.ite (fun c1 => ?_) (fun c1 => ?_)
  · have h := h.1 c1
    refine it_V.sN it_cd338 it_m338 2 (pc1 := 392) (ls1 := [none, none, none, none, none, none, none, some (.int v7)]) (st1 := [(.int v7), (.int u2), (.int u1), (.ref 94)]) (mem1 := m) rfl ?_
    refine it_V.weak (l := [none, none, none, none, none, none, none, none]) trivial ?_
    exact s_338_392 kc Φ u1 u2 v7 m h
  · have h := h.2 c1
    refine it_V.sN it_cd338 it_m338 1 (pc1 := 392) (ls1 := [none, none, none, none, none, none, none, some (.int v7)]) (st1 := [(.int (2 : Int32)), (.int u2), (.int u1), (.ref 94)]) (mem1 := m) rfl ?_
    refine it_V.weak (l := [none, none, none, none, none, none, none, none]) trivial ?_
    exact s_338_392 kc Φ u1 u2 (2 : Int32) m h
set_option maxRecDepth 100000 in
set_option maxHeartbeats 4000000 in
theorem s_338_372 (kc : it_Kc) (Φ : it_Me → Prop) (v3 : Int32) (v7 : Int32) (u1 : Int32) (u2 : Int32) (u3 : Int32) (m : it_Me) (h : w_338_372 kc Φ v3 v7 u1 u2 u3 m) : it_V kc it_sh0 338 372 [none, none, none, some (.int v3), none, none, none, some (.int v7)] [(.int u3), (.int u2), (.int u1), (.ref 94)] m (it_Pv Φ) := by
  rw [w_338_372] at h
  refine it_V.sN it_cd338 it_m338 3 (pc1 := (if v3 = (6 : Int32) then 378 else 382)) (ls1 := [none, none, none, some (.int v3), none, none, none, some (.int v7)]) (st1 := [(.int u3), (.int u2), (.int u1), (.ref 94)]) (mem1 := m) rfl ?_
  refine it_V.ite (fun c1 => ?_) (fun c1 => ?_)
  · have h := h.1 c1
    refine it_V.sN it_cd338 it_m338 2 (pc1 := 383) (ls1 := [none, none, none, some (.int v3), none, none, none, some (.int v7)]) (st1 := [(.int (1 : Int32)), (.int u3), (.int u2), (.int u1), (.ref 94)]) (mem1 := m) rfl ?_
    refine it_V.weak (l := [none, none, none, none, none, none, none, some (.int v7)]) ⟨rfl, trivial⟩ ?_
    exact s_338_383 kc Φ v7 u1 u2 u3 (1 : Int32) m h
  · have h := h.2 c1
    refine it_V.sN it_cd338 it_m338 1 (pc1 := 383) (ls1 := [none, none, none, some (.int v3), none, none, none, some (.int v7)]) (st1 := [(.int (0 : Int32)), (.int u3), (.int u2), (.int u1), (.ref 94)]) (mem1 := m) rfl ?_
    refine it_V.weak (l := [none, none, none, none, none, none, none, some (.int v7)]) ⟨rfl, trivial⟩ ?_
    exact s_338_383 kc Φ v7 u1 u2 u3 (0 : Int32) m h
set_option maxRecDepth 100000 in
set_option maxHeartbeats 4000000 in
theorem s_338 (kc : it_Kc) (x0 : Int32) (x1 : Int32) (x2 : Int32) (m : it_Me) (Φ : it_Me → Prop) (h : w_338 kc x0 x1 x2 m Φ) : it_V kc it_sh0 338 0 (it_loc0 [(.ref 66), (.int x0), (.int x1), (.int x2)] 8) [] m (it_Pv Φ) := by
  rw [w_338] at h
  refine it_V.at (pc1 := 0) (ls1 := [some (.ref 66), some (.int x0), some (.int x1), some (.int x2), none, none, none, none]) (st1 := []) (mem1 := m) rfl rfl rfl rfl ?_
  refine it_V.sN it_cd338 it_m338 9 (pc1 := 14) (ls1 := [some (.ref 66), some (.int x0), some (.int x1), some (.int x2), some (.int ((it_us x1 (7 : Int32)) &&& (31 : Int32))), none, none, none]) (st1 := [(.int x0), (.ref 94)]) (mem1 := m) rfl ?_
  obtain ⟨g1, h⟩ := h
  refine it_V.iald it_cd338 it_m338 rfl ((⟨rfl, by decide⟩ : it_isR 94 8)).2 ((⟨rfl, by decide⟩ : it_isR 94 8)).1 g1 ?_
  refine it_V.at (pc1 := 15) (ls1 := [some (.ref 66), some (.int x0), some (.int x1), some (.int x2), some (.int ((it_us x1 (7 : Int32)) &&& (31 : Int32))), none, none, none]) (st1 := [(.int (m 94 (Int32.toNatClampNeg x0)))]) (mem1 := m) rfl rfl rfl rfl ?_
  refine it_V.sN it_cd338 it_m338 2 (pc1 := 18) (ls1 := [some (.ref 66), some (.int x0), some (.int x1), some (.int x2), some (.int ((it_us x1 (7 : Int32)) &&& (31 : Int32))), some (.int (m 94 (Int32.toNatClampNeg x0))), none, none]) (st1 := [(.int x2)]) (mem1 := m) rfl ?_
  refine it_V.sN it_cd338 it_m338 1 (pc1 := (if x2 = (0 : Int32) then 56 else (if x2 = (1 : Int32) then 78 else (if x2 = (2 : Int32) then 179 else (if x2 = (3 : Int32) then 193 else (if x2 = (4 : Int32) then 289 else (if x2 = (5 : Int32) then 78 else 298))))))) (ls1 := [some (.ref 66), some (.int x0), some (.int x1), some (.int x2), some (.int ((it_us x1 (7 : Int32)) &&& (31 : Int32))), some (.int (m 94 (Int32.toNatClampNeg x0))), none, none]) (st1 := []) (mem1 := m) rfl ?_
  refine it_V.ite (fun c2 => ?_) (fun c2 => ?_)
  · have h := h.1 c2
    refine it_V.sN it_cd338 it_m338 6 (pc1 := 64) (ls1 := [some (.ref 66), some (.int x0), some (.int x1), some (.int x2), some (.int ((it_us x1 (7 : Int32)) &&& (31 : Int32))), some (.int (m 94 (Int32.toNatClampNeg x0))), none, none]) (st1 := [(.int ((it_us x1 (7 : Int32)) &&& (31 : Int32))), (.int x0), (.ref 66), (.int ((it_us x1 (7 : Int32)) &&& (31 : Int32))), (.int x0), (.ref 66)]) (mem1 := m) rfl ?_
    refine it_V.call it_cd338 it_m338 rfl it_m318 [(.ref 66), (.int x0), (.int ((it_us x1 (7 : Int32)) &&& (31 : Int32)))] [(.int ((it_us x1 (7 : Int32)) &&& (31 : Int32))), (.int x0), (.ref 66)] rfl rfl ⟨Nat.le_of_ble_eq_true rfl, Nat.le_of_ble_eq_true rfl, Nat.le_of_ble_eq_true rfl, Nat.le_of_ble_eq_true rfl, rfl⟩ (s_318 kc x0 ((it_us x1 (7 : Int32)) &&& (31 : Int32)) m _ h) ?_
    rintro _ m4 ⟨r3, rfl, h⟩
    refine it_V.at (pc1 := 67) (ls1 := [some (.ref 66), some (.int x0), some (.int x1), some (.int x2), some (.int ((it_us x1 (7 : Int32)) &&& (31 : Int32))), some (.int (m 94 (Int32.toNatClampNeg x0))), none, none]) (st1 := [(.int r3), (.int ((it_us x1 (7 : Int32)) &&& (31 : Int32))), (.int x0), (.ref 66)]) (mem1 := m4) rfl rfl rfl rfl ?_
    refine it_V.sN it_cd338 it_m338 1 (pc1 := 68) (ls1 := [some (.ref 66), some (.int x0), some (.int x1), some (.int x2), some (.int ((it_us x1 (7 : Int32)) &&& (31 : Int32))), some (.int (m 94 (Int32.toNatClampNeg x0))), none, none]) (st1 := [(.int x1), (.int r3), (.int ((it_us x1 (7 : Int32)) &&& (31 : Int32))), (.int x0), (.ref 66)]) (mem1 := m4) rfl ?_
    refine it_V.call it_cd338 it_m338 rfl it_m335 [(.int x1)] [(.int r3), (.int ((it_us x1 (7 : Int32)) &&& (31 : Int32))), (.int x0), (.ref 66)] rfl rfl ⟨Nat.le_of_ble_eq_true rfl, Nat.le_of_ble_eq_true rfl, Nat.le_of_ble_eq_true rfl, Nat.le_of_ble_eq_true rfl, rfl⟩ (s_335 kc x1 m4 _ h) ?_
    rintro _ m6 ⟨r5, rfl, h⟩
    refine it_V.at (pc1 := 71) (ls1 := [some (.ref 66), some (.int x0), some (.int x1), some (.int x2), some (.int ((it_us x1 (7 : Int32)) &&& (31 : Int32))), some (.int (m 94 (Int32.toNatClampNeg x0))), none, none]) (st1 := [(.int r5), (.int r3), (.int ((it_us x1 (7 : Int32)) &&& (31 : Int32))), (.int x0), (.ref 66)]) (mem1 := m6) rfl rfl rfl rfl ?_
    refine it_V.sN it_cd338 it_m338 1 (pc1 := 72) (ls1 := [some (.ref 66), some (.int x0), some (.int x1), some (.int x2), some (.int ((it_us x1 (7 : Int32)) &&& (31 : Int32))), some (.int (m 94 (Int32.toNatClampNeg x0))), none, none]) (st1 := [(.int (r3 + r5)), (.int ((it_us x1 (7 : Int32)) &&& (31 : Int32))), (.int x0), (.ref 66)]) (mem1 := m6) rfl ?_
    refine it_V.call it_cd338 it_m338 rfl it_m334 [(.ref 66), (.int x0), (.int ((it_us x1 (7 : Int32)) &&& (31 : Int32))), (.int (r3 + r5))] [] rfl rfl ⟨Nat.le_of_ble_eq_true rfl, Nat.le_of_ble_eq_true rfl, Nat.le_of_ble_eq_true rfl, Nat.le_of_ble_eq_true rfl, rfl⟩ (s_334 kc x0 ((it_us x1 (7 : Int32)) &&& (31 : Int32)) (r3 + r5) m6 _ h) ?_
    rintro _ m7 ⟨rfl, h⟩
    refine it_V.at (pc1 := 75) (ls1 := [some (.ref 66), some (.int x0), some (.int x1), some (.int x2), some (.int ((it_us x1 (7 : Int32)) &&& (31 : Int32))), some (.int (m 94 (Int32.toNatClampNeg x0))), none, none]) (st1 := []) (mem1 := m7) rfl rfl rfl rfl ?_
    refine it_V.sN it_cd338 it_m338 1 (pc1 := 394) (ls1 := [some (.ref 66), some (.int x0), some (.int x1), some (.int x2), some (.int ((it_us x1 (7 : Int32)) &&& (31 : Int32))), some (.int (m 94 (Int32.toNatClampNeg x0))), none, none]) (st1 := []) (mem1 := m7) rfl ?_
    refine it_V.weak (l := [none, none, none, none, none, none, none, none]) trivial ?_
    exact s_338_394 kc Φ m7 h
  · have h := h.2 c2
    refine it_V.ite (fun c8 => ?_) (fun c8 => ?_)
    · have h := h.1 c8
      refine it_V.sN it_cd338 it_m338 3 (pc1 := 83) (ls1 := [some (.ref 66), some (.int x0), some (.int x1), some (.int x2), some (.int ((it_us x1 (7 : Int32)) &&& (31 : Int32))), some (.int (m 94 (Int32.toNatClampNeg x0))), none, none]) (st1 := [(.int (11 : Int32)), (.int (12 : Int32)), (.int x1)]) (mem1 := m) rfl ?_
      refine it_V.call it_cd338 it_m338 rfl it_m333 [(.int x1), (.int (12 : Int32)), (.int (11 : Int32))] [] rfl rfl ⟨Nat.le_of_ble_eq_true rfl, Nat.le_of_ble_eq_true rfl, Nat.le_of_ble_eq_true rfl, Nat.le_of_ble_eq_true rfl, rfl⟩ (s_333 kc x1 (12 : Int32) (11 : Int32) m _ h) ?_
      rintro _ m10 ⟨r9, rfl, h⟩
      refine it_V.at (pc1 := 86) (ls1 := [some (.ref 66), some (.int x0), some (.int x1), some (.int x2), some (.int ((it_us x1 (7 : Int32)) &&& (31 : Int32))), some (.int (m 94 (Int32.toNatClampNeg x0))), none, none]) (st1 := [(.int r9)]) (mem1 := m10) rfl rfl rfl rfl ?_
      refine it_V.sN it_cd338 it_m338 4 (pc1 := 91) (ls1 := [some (.ref 66), some (.int x0), some (.int x1), some (.int x2), some (.int ((it_us x1 (7 : Int32)) &&& (31 : Int32))), some (.int (m 94 (Int32.toNatClampNeg x0))), none, none]) (st1 := [(.int (4 : Int32)), (.int (11 : Int32)), (.int x1), (.int (-r9))]) (mem1 := m10) rfl ?_
      refine it_V.call it_cd338 it_m338 rfl it_m333 [(.int x1), (.int (11 : Int32)), (.int (4 : Int32))] [(.int (-r9))] rfl rfl ⟨Nat.le_of_ble_eq_true rfl, Nat.le_of_ble_eq_true rfl, Nat.le_of_ble_eq_true rfl, Nat.le_of_ble_eq_true rfl, rfl⟩ (s_333 kc x1 (11 : Int32) (4 : Int32) m10 _ h) ?_
      rintro _ m12 ⟨r11, rfl, h⟩
      refine it_V.at (pc1 := 94) (ls1 := [some (.ref 66), some (.int x0), some (.int x1), some (.int x2), some (.int ((it_us x1 (7 : Int32)) &&& (31 : Int32))), some (.int (m 94 (Int32.toNatClampNeg x0))), none, none]) (st1 := [(.int r11), (.int (-r9))]) (mem1 := m12) rfl rfl rfl rfl ?_
      refine it_V.sN it_cd338 it_m338 12 (pc1 := 110) (ls1 := [some (.ref 66), some (.int x0), some (.int x1), some (.int x2), some (.int ((it_us x1 (7 : Int32)) &&& (31 : Int32))), some (.int (m 94 (Int32.toNatClampNeg x0))), none, none]) (st1 := [(.int (10 : Int32)), (.int (8 : Int32)), (.int x1), (.int (((-r9) ||| r11) ||| (it_shl ((it_us x1 (9 : Int32)) &&& (3 : Int32)) (8 : Int32))))]) (mem1 := m12) rfl ?_
      refine it_V.call it_cd338 it_m338 rfl it_m333 [(.int x1), (.int (8 : Int32)), (.int (10 : Int32))] [(.int (((-r9) ||| r11) ||| (it_shl ((it_us x1 (9 : Int32)) &&& (3 : Int32)) (8 : Int32))))] rfl rfl ⟨Nat.le_of_ble_eq_true rfl, Nat.le_of_ble_eq_true rfl, Nat.le_of_ble_eq_true rfl, Nat.le_of_ble_eq_true rfl, rfl⟩ (s_333 kc x1 (8 : Int32) (10 : Int32) m12 _ h) ?_
      rintro _ m14 ⟨r13, rfl, h⟩
      refine it_V.at (pc1 := 113) (ls1 := [some (.ref 66), some (.int x0), some (.int x1), some (.int x2), some (.int ((it_us x1 (7 : Int32)) &&& (31 : Int32))), some (.int (m 94 (Int32.toNatClampNeg x0))), none, none]) (st1 := [(.int r13), (.int (((-r9) ||| r11) ||| (it_shl ((it_us x1 (9 : Int32)) &&& (3 : Int32)) (8 : Int32))))]) (mem1 := m14) rfl rfl rfl rfl ?_
      refine it_V.sN it_cd338 it_m338 4 (pc1 := 119) (ls1 := [some (.ref 66), some (.int x0), some (.int x1), some (.int x2), some (.int ((it_us x1 (7 : Int32)) &&& (31 : Int32))), some (.int (m 94 (Int32.toNatClampNeg x0))), none, none]) (st1 := [(.int (6 : Int32)), (.int (7 : Int32)), (.int x1), (.int ((((-r9) ||| r11) ||| (it_shl ((it_us x1 (9 : Int32)) &&& (3 : Int32)) (8 : Int32))) ||| r13))]) (mem1 := m14) rfl ?_
      refine it_V.call it_cd338 it_m338 rfl it_m333 [(.int x1), (.int (7 : Int32)), (.int (6 : Int32))] [(.int ((((-r9) ||| r11) ||| (it_shl ((it_us x1 (9 : Int32)) &&& (3 : Int32)) (8 : Int32))) ||| r13))] rfl rfl ⟨Nat.le_of_ble_eq_true rfl, Nat.le_of_ble_eq_true rfl, Nat.le_of_ble_eq_true rfl, Nat.le_of_ble_eq_true rfl, rfl⟩ (s_333 kc x1 (7 : Int32) (6 : Int32) m14 _ h) ?_
      rintro _ m16 ⟨r15, rfl, h⟩
      refine it_V.at (pc1 := 122) (ls1 := [some (.ref 66), some (.int x0), some (.int x1), some (.int x2), some (.int ((it_us x1 (7 : Int32)) &&& (31 : Int32))), some (.int (m 94 (Int32.toNatClampNeg x0))), none, none]) (st1 := [(.int r15), (.int ((((-r9) ||| r11) ||| (it_shl ((it_us x1 (9 : Int32)) &&& (3 : Int32)) (8 : Int32))) ||| r13))]) (mem1 := m16) rfl rfl rfl rfl ?_
      refine it_V.sN it_cd338 it_m338 4 (pc1 := 128) (ls1 := [some (.ref 66), some (.int x0), some (.int x1), some (.int x2), some (.int ((it_us x1 (7 : Int32)) &&& (31 : Int32))), some (.int (m 94 (Int32.toNatClampNeg x0))), none, none]) (st1 := [(.int (7 : Int32)), (.int (6 : Int32)), (.int x1), (.int (((((-r9) ||| r11) ||| (it_shl ((it_us x1 (9 : Int32)) &&& (3 : Int32)) (8 : Int32))) ||| r13) ||| r15))]) (mem1 := m16) rfl ?_
      refine it_V.call it_cd338 it_m338 rfl it_m333 [(.int x1), (.int (6 : Int32)), (.int (7 : Int32))] [(.int (((((-r9) ||| r11) ||| (it_shl ((it_us x1 (9 : Int32)) &&& (3 : Int32)) (8 : Int32))) ||| r13) ||| r15))] rfl rfl ⟨Nat.le_of_ble_eq_true rfl, Nat.le_of_ble_eq_true rfl, Nat.le_of_ble_eq_true rfl, Nat.le_of_ble_eq_true rfl, rfl⟩ (s_333 kc x1 (6 : Int32) (7 : Int32) m16 _ h) ?_
      rintro _ m18 ⟨r17, rfl, h⟩
      refine it_V.at (pc1 := 131) (ls1 := [some (.ref 66), some (.int x0), some (.int x1), some (.int x2), some (.int ((it_us x1 (7 : Int32)) &&& (31 : Int32))), some (.int (m 94 (Int32.toNatClampNeg x0))), none, none]) (st1 := [(.int r17), (.int (((((-r9) ||| r11) ||| (it_shl ((it_us x1 (9 : Int32)) &&& (3 : Int32)) (8 : Int32))) ||| r13) ||| r15))]) (mem1 := m18) rfl rfl rfl rfl ?_
      refine it_V.sN it_cd338 it_m338 12 (pc1 := 144) (ls1 := [some (.ref 66), some (.int x0), some (.int x1), some (.int x2), some (.int ((it_us x1 (7 : Int32)) &&& (31 : Int32))), some (.int (m 94 (Int32.toNatClampNeg x0))), none, none]) (st1 := [(.int (5 : Int32)), (.int (2 : Int32)), (.int x1), (.int (((((((-r9) ||| r11) ||| (it_shl ((it_us x1 (9 : Int32)) &&& (3 : Int32)) (8 : Int32))) ||| r13) ||| r15) ||| r17) ||| (it_shl ((it_us x1 (3 : Int32)) &&& (7 : Int32)) (1 : Int32))))]) (mem1 := m18) rfl ?_
      refine it_V.call it_cd338 it_m338 rfl it_m333 [(.int x1), (.int (2 : Int32)), (.int (5 : Int32))] [(.int (((((((-r9) ||| r11) ||| (it_shl ((it_us x1 (9 : Int32)) &&& (3 : Int32)) (8 : Int32))) ||| r13) ||| r15) ||| r17) ||| (it_shl ((it_us x1 (3 : Int32)) &&& (7 : Int32)) (1 : Int32))))] rfl rfl ⟨Nat.le_of_ble_eq_true rfl, Nat.le_of_ble_eq_true rfl, Nat.le_of_ble_eq_true rfl, Nat.le_of_ble_eq_true rfl, rfl⟩ (s_333 kc x1 (2 : Int32) (5 : Int32) m18 _ h) ?_
      rintro _ m20 ⟨r19, rfl, h⟩
      refine it_V.at (pc1 := 147) (ls1 := [some (.ref 66), some (.int x0), some (.int x1), some (.int x2), some (.int ((it_us x1 (7 : Int32)) &&& (31 : Int32))), some (.int (m 94 (Int32.toNatClampNeg x0))), none, none]) (st1 := [(.int r19), (.int (((((((-r9) ||| r11) ||| (it_shl ((it_us x1 (9 : Int32)) &&& (3 : Int32)) (8 : Int32))) ||| r13) ||| r15) ||| r17) ||| (it_shl ((it_us x1 (3 : Int32)) &&& (7 : Int32)) (1 : Int32))))]) (mem1 := m20) rfl rfl rfl rfl ?_
      refine it_V.sN it_cd338 it_m338 5 (pc1 := (if x2 = (1 : Int32) then 155 else 165)) (ls1 := [some (.ref 66), some (.int x0), some (.int x1), some (.int x2), some (.int ((it_us x1 (7 : Int32)) &&& (31 : Int32))), some (.int (m 94 (Int32.toNatClampNeg x0))), some (.int ((((((((-r9) ||| r11) ||| (it_shl ((it_us x1 (9 : Int32)) &&& (3 : Int32)) (8 : Int32))) ||| r13) ||| r15) ||| r17) ||| (it_shl ((it_us x1 (3 : Int32)) &&& (7 : Int32)) (1 : Int32))) ||| r19)), none]) (st1 := []) (mem1 := m20) rfl ?_
      refine it_V.ite (fun c21 => ?_) (fun c21 => ?_)
      · have h := h.1 c21
        refine it_V.sN it_cd338 it_m338 6 (pc1 := 162) (ls1 := [some (.ref 66), some (.int x0), some (.int x1), some (.int x2), some (.int ((it_us x1 (7 : Int32)) &&& (31 : Int32))), some (.int (m 94 (Int32.toNatClampNeg x0))), some (.int ((((((((-r9) ||| r11) ||| (it_shl ((it_us x1 (9 : Int32)) &&& (3 : Int32)) (8 : Int32))) ||| r13) ||| r15) ||| r17) ||| (it_shl ((it_us x1 (3 : Int32)) &&& (7 : Int32)) (1 : Int32))) ||| r19)), none]) (st1 := [(.int ((m 94 (Int32.toNatClampNeg x0)) + (2 : Int32))), (.int (1 : Int32)), (.int x0), (.ref 66)]) (mem1 := m20) rfl ?_
        refine it_V.call it_cd338 it_m338 rfl it_m319 [(.ref 66), (.int x0), (.int (1 : Int32)), (.int ((m 94 (Int32.toNatClampNeg x0)) + (2 : Int32)))] [] rfl rfl ⟨Nat.le_of_ble_eq_true rfl, Nat.le_of_ble_eq_true rfl, Nat.le_of_ble_eq_true rfl, Nat.le_of_ble_eq_true rfl, rfl⟩ (s_319 kc x0 (1 : Int32) ((m 94 (Int32.toNatClampNeg x0)) + (2 : Int32)) m20 _ h) ?_
        rintro _ m22 ⟨rfl, h⟩
        refine it_V.at (pc1 := 165) (ls1 := [some (.ref 66), some (.int x0), some (.int x1), some (.int x2), some (.int ((it_us x1 (7 : Int32)) &&& (31 : Int32))), some (.int (m 94 (Int32.toNatClampNeg x0))), some (.int ((((((((-r9) ||| r11) ||| (it_shl ((it_us x1 (9 : Int32)) &&& (3 : Int32)) (8 : Int32))) ||| r13) ||| r15) ||| r17) ||| (it_shl ((it_us x1 (3 : Int32)) &&& (7 : Int32)) (1 : Int32))) ||| r19)), none]) (st1 := []) (mem1 := m22) rfl rfl rfl rfl ?_
        refine it_V.weak (l := [some (.ref 66), some (.int x0), none, none, none, some (.int (m 94 (Int32.toNatClampNeg x0))), some (.int ((((((((-r9) ||| r11) ||| (it_shl ((it_us x1 (9 : Int32)) &&& (3 : Int32)) (8 : Int32))) ||| r13) ||| r15) ||| r17) ||| (it_shl ((it_us x1 (3 : Int32)) &&& (7 : Int32)) (1 : Int32))) ||| r19)), none]) ⟨rfl, ⟨rfl, ⟨rfl, ⟨rfl, trivial⟩⟩⟩⟩ ?_
        exact s_338_165 kc Φ x0 (m 94 (Int32.toNatClampNeg x0)) ((((((((-r9) ||| r11) ||| (it_shl ((it_us x1 (9 : Int32)) &&& (3 : Int32)) (8 : Int32))) ||| r13) ||| r15) ||| r17) ||| (it_shl ((it_us x1 (3 : Int32)) &&& (7 : Int32)) (1 : Int32))) ||| r19) m22 h
      · have h := h.2 c21
        refine it_V.weak (l := [some (.ref 66), some (.int x0), none, none, none, some (.int (m 94 (Int32.toNatClampNeg x0))), some (.int ((((((((-r9) ||| r11) ||| (it_shl ((it_us x1 (9 : Int32)) &&& (3 : Int32)) (8 : Int32))) ||| r13) ||| r15) ||| r17) ||| (it_shl ((it_us x1 (3 : Int32)) &&& (7 : Int32)) (1 : Int32))) ||| r19)), none]) ⟨rfl, ⟨rfl, ⟨rfl, ⟨rfl, trivial⟩⟩⟩⟩ ?_
        exact s_338_165 kc Φ x0 (m 94 (Int32.toNatClampNeg x0)) ((((((((-r9) ||| r11) ||| (it_shl ((it_us x1 (9 : Int32)) &&& (3 : Int32)) (8 : Int32))) ||| r13) ||| r15) ||| r17) ||| (it_shl ((it_us x1 (3 : Int32)) &&& (7 : Int32)) (1 : Int32))) ||| r19) m20 h
    · have h := h.2 c8
      refine it_V.ite (fun c23 => ?_) (fun c23 => ?_)
      · have h := h.1 c23
        refine it_V.sN it_cd338 it_m338 4 (pc1 := 184) (ls1 := [some (.ref 66), some (.int x0), some (.int x1), some (.int x2), some (.int ((it_us x1 (7 : Int32)) &&& (31 : Int32))), some (.int (m 94 (Int32.toNatClampNeg x0))), none, none]) (st1 := [(.int x1), (.int ((it_us x1 (7 : Int32)) &&& (31 : Int32))), (.int x0), (.ref 66)]) (mem1 := m) rfl ?_
        refine it_V.call it_cd338 it_m338 rfl it_m335 [(.int x1)] [(.int ((it_us x1 (7 : Int32)) &&& (31 : Int32))), (.int x0), (.ref 66)] rfl rfl ⟨Nat.le_of_ble_eq_true rfl, Nat.le_of_ble_eq_true rfl, Nat.le_of_ble_eq_true rfl, Nat.le_of_ble_eq_true rfl, rfl⟩ (s_335 kc x1 m _ h) ?_
        rintro _ m25 ⟨r24, rfl, h⟩
        refine it_V.at (pc1 := 187) (ls1 := [some (.ref 66), some (.int x0), some (.int x1), some (.int x2), some (.int ((it_us x1 (7 : Int32)) &&& (31 : Int32))), some (.int (m 94 (Int32.toNatClampNeg x0))), none, none]) (st1 := [(.int r24), (.int ((it_us x1 (7 : Int32)) &&& (31 : Int32))), (.int x0), (.ref 66)]) (mem1 := m25) rfl rfl rfl rfl ?_
        refine it_V.call it_cd338 it_m338 rfl it_m334 [(.ref 66), (.int x0), (.int ((it_us x1 (7 : Int32)) &&& (31 : Int32))), (.int r24)] [] rfl rfl ⟨Nat.le_of_ble_eq_true rfl, Nat.le_of_ble_eq_true rfl, Nat.le_of_ble_eq_true rfl, Nat.le_of_ble_eq_true rfl, rfl⟩ (s_334 kc x0 ((it_us x1 (7 : Int32)) &&& (31 : Int32)) r24 m25 _ h) ?_
        rintro _ m26 ⟨rfl, h⟩
        refine it_V.at (pc1 := 190) (ls1 := [some (.ref 66), some (.int x0), some (.int x1), some (.int x2), some (.int ((it_us x1 (7 : Int32)) &&& (31 : Int32))), some (.int (m 94 (Int32.toNatClampNeg x0))), none, none]) (st1 := []) (mem1 := m26) rfl rfl rfl rfl ?_
        refine it_V.sN it_cd338 it_m338 1 (pc1 := 394) (ls1 := [some (.ref 66), some (.int x0), some (.int x1), some (.int x2), some (.int ((it_us x1 (7 : Int32)) &&& (31 : Int32))), some (.int (m 94 (Int32.toNatClampNeg x0))), none, none]) (st1 := []) (mem1 := m26) rfl ?_
        refine it_V.weak (l := [none, none, none, none, none, none, none, none]) trivial ?_
        exact s_338_394 kc Φ m26 h
      · have h := h.2 c23
        refine it_V.ite (fun c27 => ?_) (fun c27 => ?_)
        · have h := h.1 c27
          refine it_V.sN it_cd338 it_m338 1 (pc1 := 194) (ls1 := [some (.ref 66), some (.int x0), some (.int x1), some (.int x2), some (.int ((it_us x1 (7 : Int32)) &&& (31 : Int32))), some (.int (m 94 (Int32.toNatClampNeg x0))), none, none]) (st1 := [(.int x1)]) (mem1 := m) rfl ?_
          refine it_V.call it_cd338 it_m338 rfl it_m335 [(.int x1)] [] rfl rfl ⟨Nat.le_of_ble_eq_true rfl, Nat.le_of_ble_eq_true rfl, Nat.le_of_ble_eq_true rfl, Nat.le_of_ble_eq_true rfl, rfl⟩ (s_335 kc x1 m _ h) ?_
          rintro _ m29 ⟨r28, rfl, h⟩
          refine it_V.at (pc1 := 197) (ls1 := [some (.ref 66), some (.int x0), some (.int x1), some (.int x2), some (.int ((it_us x1 (7 : Int32)) &&& (31 : Int32))), some (.int (m 94 (Int32.toNatClampNeg x0))), none, none]) (st1 := [(.int r28)]) (mem1 := m29) rfl rfl rfl rfl ?_
          refine it_V.sN it_cd338 it_m338 1 (pc1 := (if r28 = 0 then 200 else 209)) (ls1 := [some (.ref 66), some (.int x0), some (.int x1), some (.int x2), some (.int ((it_us x1 (7 : Int32)) &&& (31 : Int32))), some (.int (m 94 (Int32.toNatClampNeg x0))), none, none]) (st1 := []) (mem1 := m29) rfl ?_
          refine it_V.ite (fun c30 => ?_) (fun c30 => ?_)
          · have h := h.1 c30
            refine it_V.sN it_cd338 it_m338 3 (pc1 := 203) (ls1 := [some (.ref 66), some (.int x0), some (.int x1), some (.int x2), some (.int ((it_us x1 (7 : Int32)) &&& (31 : Int32))), some (.int (m 94 (Int32.toNatClampNeg x0))), none, none]) (st1 := [(.int x1), (.int x0), (.ref 66)]) (mem1 := m29) rfl ?_
            refine it_V.call it_cd338 it_m338 rfl it_m321 [(.ref 66), (.int x0), (.int x1)] [] rfl rfl ⟨Nat.le_of_ble_eq_true rfl, Nat.le_of_ble_eq_true rfl, Nat.le_of_ble_eq_true rfl, Nat.le_of_ble_eq_true rfl, rfl⟩ (s_321 kc x0 x1 m29 _ h) ?_
            rintro _ m31 ⟨rfl, h⟩
            refine it_V.at (pc1 := 206) (ls1 := [some (.ref 66), some (.int x0), some (.int x1), some (.int x2), some (.int ((it_us x1 (7 : Int32)) &&& (31 : Int32))), some (.int (m 94 (Int32.toNatClampNeg x0))), none, none]) (st1 := []) (mem1 := m31) rfl rfl rfl rfl ?_
            refine it_V.sN it_cd338 it_m338 1 (pc1 := 394) (ls1 := [some (.ref 66), some (.int x0), some (.int x1), some (.int x2), some (.int ((it_us x1 (7 : Int32)) &&& (31 : Int32))), some (.int (m 94 (Int32.toNatClampNeg x0))), none, none]) (st1 := []) (mem1 := m31) rfl ?_
            refine it_V.weak (l := [none, none, none, none, none, none, none, none]) trivial ?_
            exact s_338_394 kc Φ m31 h
          · have h := h.2 c30
            refine it_V.sN it_cd338 it_m338 3 (pc1 := (if ((it_us x1 (7 : Int32)) &&& (31 : Int32)) = (2 : Int32) then 215 else 272)) (ls1 := [some (.ref 66), some (.int x0), some (.int x1), some (.int x2), some (.int ((it_us x1 (7 : Int32)) &&& (31 : Int32))), some (.int (m 94 (Int32.toNatClampNeg x0))), none, none]) (st1 := []) (mem1 := m29) rfl ?_
            refine it_V.ite (fun c32 => ?_) (fun c32 => ?_)
            · have h := h.1 c32
              refine it_V.sN it_cd338 it_m338 6 (pc1 := 221) (ls1 := [some (.ref 66), some (.int x0), some (.int x1), some (.int x2), some (.int ((it_us x1 (7 : Int32)) &&& (31 : Int32))), some (.int (m 94 (Int32.toNatClampNeg x0))), none, none]) (st1 := [(.int (2 : Int32)), (.int x0), (.ref 66), (.int (2 : Int32)), (.int x0), (.ref 66)]) (mem1 := m29) rfl ?_
              refine it_V.call it_cd338 it_m338 rfl it_m318 [(.ref 66), (.int x0), (.int (2 : Int32))] [(.int (2 : Int32)), (.int x0), (.ref 66)] rfl rfl ⟨Nat.le_of_ble_eq_true rfl, Nat.le_of_ble_eq_true rfl, Nat.le_of_ble_eq_true rfl, Nat.le_of_ble_eq_true rfl, rfl⟩ (s_318 kc x0 (2 : Int32) m29 _ h) ?_
              rintro _ m34 ⟨r33, rfl, h⟩
              refine it_V.at (pc1 := 224) (ls1 := [some (.ref 66), some (.int x0), some (.int x1), some (.int x2), some (.int ((it_us x1 (7 : Int32)) &&& (31 : Int32))), some (.int (m 94 (Int32.toNatClampNeg x0))), none, none]) (st1 := [(.int r33), (.int (2 : Int32)), (.int x0), (.ref 66)]) (mem1 := m34) rfl rfl rfl rfl ?_
              refine it_V.sN it_cd338 it_m338 3 (pc1 := 229) (ls1 := [some (.ref 66), some (.int x0), some (.int x1), some (.int x2), some (.int ((it_us x1 (7 : Int32)) &&& (31 : Int32))), some (.int (m 94 (Int32.toNatClampNeg x0))), none, none]) (st1 := [(.int (9 : Int32)), (.int (12 : Int32)), (.int x1), (.int r33), (.int (2 : Int32)), (.int x0), (.ref 66)]) (mem1 := m34) rfl ?_
              refine it_V.call it_cd338 it_m338 rfl it_m333 [(.int x1), (.int (12 : Int32)), (.int (9 : Int32))] [(.int r33), (.int (2 : Int32)), (.int x0), (.ref 66)] rfl rfl ⟨Nat.le_of_ble_eq_true rfl, Nat.le_of_ble_eq_true rfl, Nat.le_of_ble_eq_true rfl, Nat.le_of_ble_eq_true rfl, rfl⟩ (s_333 kc x1 (12 : Int32) (9 : Int32) m34 _ h) ?_
              rintro _ m36 ⟨r35, rfl, h⟩
              refine it_V.at (pc1 := 232) (ls1 := [some (.ref 66), some (.int x0), some (.int x1), some (.int x2), some (.int ((it_us x1 (7 : Int32)) &&& (31 : Int32))), some (.int (m 94 (Int32.toNatClampNeg x0))), none, none]) (st1 := [(.int r35), (.int r33), (.int (2 : Int32)), (.int x0), (.ref 66)]) (mem1 := m36) rfl rfl rfl rfl ?_
              refine it_V.sN it_cd338 it_m338 4 (pc1 := 237) (ls1 := [some (.ref 66), some (.int x0), some (.int x1), some (.int x2), some (.int ((it_us x1 (7 : Int32)) &&& (31 : Int32))), some (.int (m 94 (Int32.toNatClampNeg x0))), none, none]) (st1 := [(.int (4 : Int32)), (.int (6 : Int32)), (.int x1), (.int (-r35)), (.int r33), (.int (2 : Int32)), (.int x0), (.ref 66)]) (mem1 := m36) rfl ?_
              refine it_V.call it_cd338 it_m338 rfl it_m333 [(.int x1), (.int (6 : Int32)), (.int (4 : Int32))] [(.int (-r35)), (.int r33), (.int (2 : Int32)), (.int x0), (.ref 66)] rfl rfl ⟨Nat.le_of_ble_eq_true rfl, Nat.le_of_ble_eq_true rfl, Nat.le_of_ble_eq_true rfl, Nat.le_of_ble_eq_true rfl, rfl⟩ (s_333 kc x1 (6 : Int32) (4 : Int32) m36 _ h) ?_
              rintro _ m38 ⟨r37, rfl, h⟩
              refine it_V.at (pc1 := 240) (ls1 := [some (.ref 66), some (.int x0), some (.int x1), some (.int x2), some (.int ((it_us x1 (7 : Int32)) &&& (31 : Int32))), some (.int (m 94 (Int32.toNatClampNeg x0))), none, none]) (st1 := [(.int r37), (.int (-r35)), (.int r33), (.int (2 : Int32)), (.int x0), (.ref 66)]) (mem1 := m38) rfl rfl rfl rfl ?_
              refine it_V.sN it_cd338 it_m338 4 (pc1 := 245) (ls1 := [some (.ref 66), some (.int x0), some (.int x1), some (.int x2), some (.int ((it_us x1 (7 : Int32)) &&& (31 : Int32))), some (.int (m 94 (Int32.toNatClampNeg x0))), none, none]) (st1 := [(.int (6 : Int32)), (.int (5 : Int32)), (.int x1), (.int ((-r35) ||| r37)), (.int r33), (.int (2 : Int32)), (.int x0), (.ref 66)]) (mem1 := m38) rfl ?_
              refine it_V.call it_cd338 it_m338 rfl it_m333 [(.int x1), (.int (5 : Int32)), (.int (6 : Int32))] [(.int ((-r35) ||| r37)), (.int r33), (.int (2 : Int32)), (.int x0), (.ref 66)] rfl rfl ⟨Nat.le_of_ble_eq_true rfl, Nat.le_of_ble_eq_true rfl, Nat.le_of_ble_eq_true rfl, Nat.le_of_ble_eq_true rfl, rfl⟩ (s_333 kc x1 (5 : Int32) (6 : Int32) m38 _ h) ?_
              rintro _ m40 ⟨r39, rfl, h⟩
              refine it_V.at (pc1 := 248) (ls1 := [some (.ref 66), some (.int x0), some (.int x1), some (.int x2), some (.int ((it_us x1 (7 : Int32)) &&& (31 : Int32))), some (.int (m 94 (Int32.toNatClampNeg x0))), none, none]) (st1 := [(.int r39), (.int ((-r35) ||| r37)), (.int r33), (.int (2 : Int32)), (.int x0), (.ref 66)]) (mem1 := m40) rfl rfl rfl rfl ?_
              refine it_V.sN it_cd338 it_m338 12 (pc1 := 261) (ls1 := [some (.ref 66), some (.int x0), some (.int x1), some (.int x2), some (.int ((it_us x1 (7 : Int32)) &&& (31 : Int32))), some (.int (m 94 (Int32.toNatClampNeg x0))), none, none]) (st1 := [(.int (5 : Int32)), (.int (2 : Int32)), (.int x1), (.int ((((-r35) ||| r37) ||| r39) ||| (it_shl ((it_us x1 (3 : Int32)) &&& (3 : Int32)) (7 : Int32)))), (.int r33), (.int (2 : Int32)), (.int x0), (.ref 66)]) (mem1 := m40) rfl ?_
              refine it_V.call it_cd338 it_m338 rfl it_m333 [(.int x1), (.int (2 : Int32)), (.int (5 : Int32))] [(.int ((((-r35) ||| r37) ||| r39) ||| (it_shl ((it_us x1 (3 : Int32)) &&& (3 : Int32)) (7 : Int32)))), (.int r33), (.int (2 : Int32)), (.int x0), (.ref 66)] rfl rfl ⟨Nat.le_of_ble_eq_true rfl, Nat.le_of_ble_eq_true rfl, Nat.le_of_ble_eq_true rfl, Nat.le_of_ble_eq_true rfl, rfl⟩ (s_333 kc x1 (2 : Int32) (5 : Int32) m40 _ h) ?_
              rintro _ m42 ⟨r41, rfl, h⟩
              refine it_V.at (pc1 := 264) (ls1 := [some (.ref 66), some (.int x0), some (.int x1), some (.int x2), some (.int ((it_us x1 (7 : Int32)) &&& (31 : Int32))), some (.int (m 94 (Int32.toNatClampNeg x0))), none, none]) (st1 := [(.int r41), (.int ((((-r35) ||| r37) ||| r39) ||| (it_shl ((it_us x1 (3 : Int32)) &&& (3 : Int32)) (7 : Int32)))), (.int r33), (.int (2 : Int32)), (.int x0), (.ref 66)]) (mem1 := m42) rfl rfl rfl rfl ?_
              refine it_V.sN it_cd338 it_m338 2 (pc1 := 266) (ls1 := [some (.ref 66), some (.int x0), some (.int x1), some (.int x2), some (.int ((it_us x1 (7 : Int32)) &&& (31 : Int32))), some (.int (m 94 (Int32.toNatClampNeg x0))), none, none]) (st1 := [(.int (r33 + (((((-r35) ||| r37) ||| r39) ||| (it_shl ((it_us x1 (3 : Int32)) &&& (3 : Int32)) (7 : Int32))) ||| r41))), (.int (2 : Int32)), (.int x0), (.ref 66)]) (mem1 := m42) rfl ?_
              refine it_V.call it_cd338 it_m338 rfl it_m334 [(.ref 66), (.int x0), (.int (2 : Int32)), (.int (r33 + (((((-r35) ||| r37) ||| r39) ||| (it_shl ((it_us x1 (3 : Int32)) &&& (3 : Int32)) (7 : Int32))) ||| r41)))] [] rfl rfl ⟨Nat.le_of_ble_eq_true rfl, Nat.le_of_ble_eq_true rfl, Nat.le_of_ble_eq_true rfl, Nat.le_of_ble_eq_true rfl, rfl⟩ (s_334 kc x0 (2 : Int32) (r33 + (((((-r35) ||| r37) ||| r39) ||| (it_shl ((it_us x1 (3 : Int32)) &&& (3 : Int32)) (7 : Int32))) ||| r41)) m42 _ h) ?_
              rintro _ m43 ⟨rfl, h⟩
              refine it_V.at (pc1 := 269) (ls1 := [some (.ref 66), some (.int x0), some (.int x1), some (.int x2), some (.int ((it_us x1 (7 : Int32)) &&& (31 : Int32))), some (.int (m 94 (Int32.toNatClampNeg x0))), none, none]) (st1 := []) (mem1 := m43) rfl rfl rfl rfl ?_
              refine it_V.sN it_cd338 it_m338 1 (pc1 := 394) (ls1 := [some (.ref 66), some (.int x0), some (.int x1), some (.int x2), some (.int ((it_us x1 (7 : Int32)) &&& (31 : Int32))), some (.int (m 94 (Int32.toNatClampNeg x0))), none, none]) (st1 := []) (mem1 := m43) rfl ?_
              refine it_V.weak (l := [none, none, none, none, none, none, none, none]) trivial ?_
              exact s_338_394 kc Φ m43 h
            · have h := h.2 c32
              refine it_V.sN it_cd338 it_m338 4 (pc1 := 277) (ls1 := [some (.ref 66), some (.int x0), some (.int x1), some (.int x2), some (.int ((it_us x1 (7 : Int32)) &&& (31 : Int32))), some (.int (m 94 (Int32.toNatClampNeg x0))), none, none]) (st1 := [(.int x1), (.int ((it_us x1 (7 : Int32)) &&& (31 : Int32))), (.int x0), (.ref 66)]) (mem1 := m29) rfl ?_
              refine it_V.call it_cd338 it_m338 rfl it_m335 [(.int x1)] [(.int ((it_us x1 (7 : Int32)) &&& (31 : Int32))), (.int x0), (.ref 66)] rfl rfl ⟨Nat.le_of_ble_eq_true rfl, Nat.le_of_ble_eq_true rfl, Nat.le_of_ble_eq_true rfl, Nat.le_of_ble_eq_true rfl, rfl⟩ (s_335 kc x1 m29 _ h) ?_
              rintro _ m45 ⟨r44, rfl, h⟩
              refine it_V.at (pc1 := 280) (ls1 := [some (.ref 66), some (.int x0), some (.int x1), some (.int x2), some (.int ((it_us x1 (7 : Int32)) &&& (31 : Int32))), some (.int (m 94 (Int32.toNatClampNeg x0))), none, none]) (st1 := [(.int r44), (.int ((it_us x1 (7 : Int32)) &&& (31 : Int32))), (.int x0), (.ref 66)]) (mem1 := m45) rfl rfl rfl rfl ?_
              refine it_V.sN it_cd338 it_m338 2 (pc1 := 283) (ls1 := [some (.ref 66), some (.int x0), some (.int x1), some (.int x2), some (.int ((it_us x1 (7 : Int32)) &&& (31 : Int32))), some (.int (m 94 (Int32.toNatClampNeg x0))), none, none]) (st1 := [(.int (it_shl r44 (12 : Int32))), (.int ((it_us x1 (7 : Int32)) &&& (31 : Int32))), (.int x0), (.ref 66)]) (mem1 := m45) rfl ?_
              refine it_V.call it_cd338 it_m338 rfl it_m334 [(.ref 66), (.int x0), (.int ((it_us x1 (7 : Int32)) &&& (31 : Int32))), (.int (it_shl r44 (12 : Int32)))] [] rfl rfl ⟨Nat.le_of_ble_eq_true rfl, Nat.le_of_ble_eq_true rfl, Nat.le_of_ble_eq_true rfl, Nat.le_of_ble_eq_true rfl, rfl⟩ (s_334 kc x0 ((it_us x1 (7 : Int32)) &&& (31 : Int32)) (it_shl r44 (12 : Int32)) m45 _ h) ?_
              rintro _ m46 ⟨rfl, h⟩
              refine it_V.at (pc1 := 286) (ls1 := [some (.ref 66), some (.int x0), some (.int x1), some (.int x2), some (.int ((it_us x1 (7 : Int32)) &&& (31 : Int32))), some (.int (m 94 (Int32.toNatClampNeg x0))), none, none]) (st1 := []) (mem1 := m46) rfl rfl rfl rfl ?_
              refine it_V.sN it_cd338 it_m338 1 (pc1 := 394) (ls1 := [some (.ref 66), some (.int x0), some (.int x1), some (.int x2), some (.int ((it_us x1 (7 : Int32)) &&& (31 : Int32))), some (.int (m 94 (Int32.toNatClampNeg x0))), none, none]) (st1 := []) (mem1 := m46) rfl ?_
              refine it_V.weak (l := [none, none, none, none, none, none, none, none]) trivial ?_
              exact s_338_394 kc Φ m46 h
        · have h := h.2 c27
          refine it_V.ite (fun c47 => ?_) (fun c47 => ?_)
          · have h := h.1 c47
            refine it_V.sN it_cd338 it_m338 3 (pc1 := 292) (ls1 := [some (.ref 66), some (.int x0), some (.int x1), some (.int x2), some (.int ((it_us x1 (7 : Int32)) &&& (31 : Int32))), some (.int (m 94 (Int32.toNatClampNeg x0))), none, none]) (st1 := [(.int x1), (.int x0), (.ref 66)]) (mem1 := m) rfl ?_
            refine it_V.call it_cd338 it_m338 rfl it_m339 [(.ref 66), (.int x0), (.int x1)] [] rfl rfl ⟨Nat.le_of_ble_eq_true rfl, Nat.le_of_ble_eq_true rfl, Nat.le_of_ble_eq_true rfl, Nat.le_of_ble_eq_true rfl, rfl⟩ (s_339 kc x0 x1 m _ h) ?_
            rintro _ m48 ⟨rfl, h⟩
            refine it_V.at (pc1 := 295) (ls1 := [some (.ref 66), some (.int x0), some (.int x1), some (.int x2), some (.int ((it_us x1 (7 : Int32)) &&& (31 : Int32))), some (.int (m 94 (Int32.toNatClampNeg x0))), none, none]) (st1 := []) (mem1 := m48) rfl rfl rfl rfl ?_
            refine it_V.sN it_cd338 it_m338 1 (pc1 := 394) (ls1 := [some (.ref 66), some (.int x0), some (.int x1), some (.int x2), some (.int ((it_us x1 (7 : Int32)) &&& (31 : Int32))), some (.int (m 94 (Int32.toNatClampNeg x0))), none, none]) (st1 := []) (mem1 := m48) rfl ?_
            refine it_V.weak (l := [none, none, none, none, none, none, none, none]) trivial ?_
            exact s_338_394 kc Φ m48 h
          · have h := h.2 c47
            refine it_V.ite (fun c49 => ?_) (fun c49 => ?_)
            · have h := h.1 c49
              refine it_V.sN it_cd338 it_m338 3 (pc1 := 83) (ls1 := [some (.ref 66), some (.int x0), some (.int x1), some (.int x2), some (.int ((it_us x1 (7 : Int32)) &&& (31 : Int32))), some (.int (m 94 (Int32.toNatClampNeg x0))), none, none]) (st1 := [(.int (11 : Int32)), (.int (12 : Int32)), (.int x1)]) (mem1 := m) rfl ?_
              refine it_V.call it_cd338 it_m338 rfl it_m333 [(.int x1), (.int (12 : Int32)), (.int (11 : Int32))] [] rfl rfl ⟨Nat.le_of_ble_eq_true rfl, Nat.le_of_ble_eq_true rfl, Nat.le_of_ble_eq_true rfl, Nat.le_of_ble_eq_true rfl, rfl⟩ (s_333 kc x1 (12 : Int32) (11 : Int32) m _ h) ?_
              rintro _ m51 ⟨r50, rfl, h⟩
              refine it_V.at (pc1 := 86) (ls1 := [some (.ref 66), some (.int x0), some (.int x1), some (.int x2), some (.int ((it_us x1 (7 : Int32)) &&& (31 : Int32))), some (.int (m 94 (Int32.toNatClampNeg x0))), none, none]) (st1 := [(.int r50)]) (mem1 := m51) rfl rfl rfl rfl ?_
              refine it_V.sN it_cd338 it_m338 4 (pc1 := 91) (ls1 := [some (.ref 66), some (.int x0), some (.int x1), some (.int x2), some (.int ((it_us x1 (7 : Int32)) &&& (31 : Int32))), some (.int (m 94 (Int32.toNatClampNeg x0))), none, none]) (st1 := [(.int (4 : Int32)), (.int (11 : Int32)), (.int x1), (.int (-r50))]) (mem1 := m51) rfl ?_
              refine it_V.call it_cd338 it_m338 rfl it_m333 [(.int x1), (.int (11 : Int32)), (.int (4 : Int32))] [(.int (-r50))] rfl rfl ⟨Nat.le_of_ble_eq_true rfl, Nat.le_of_ble_eq_true rfl, Nat.le_of_ble_eq_true rfl, Nat.le_of_ble_eq_true rfl, rfl⟩ (s_333 kc x1 (11 : Int32) (4 : Int32) m51 _ h) ?_
              rintro _ m53 ⟨r52, rfl, h⟩
              refine it_V.at (pc1 := 94) (ls1 := [some (.ref 66), some (.int x0), some (.int x1), some (.int x2), some (.int ((it_us x1 (7 : Int32)) &&& (31 : Int32))), some (.int (m 94 (Int32.toNatClampNeg x0))), none, none]) (st1 := [(.int r52), (.int (-r50))]) (mem1 := m53) rfl rfl rfl rfl ?_
              refine it_V.sN it_cd338 it_m338 12 (pc1 := 110) (ls1 := [some (.ref 66), some (.int x0), some (.int x1), some (.int x2), some (.int ((it_us x1 (7 : Int32)) &&& (31 : Int32))), some (.int (m 94 (Int32.toNatClampNeg x0))), none, none]) (st1 := [(.int (10 : Int32)), (.int (8 : Int32)), (.int x1), (.int (((-r50) ||| r52) ||| (it_shl ((it_us x1 (9 : Int32)) &&& (3 : Int32)) (8 : Int32))))]) (mem1 := m53) rfl ?_
              refine it_V.call it_cd338 it_m338 rfl it_m333 [(.int x1), (.int (8 : Int32)), (.int (10 : Int32))] [(.int (((-r50) ||| r52) ||| (it_shl ((it_us x1 (9 : Int32)) &&& (3 : Int32)) (8 : Int32))))] rfl rfl ⟨Nat.le_of_ble_eq_true rfl, Nat.le_of_ble_eq_true rfl, Nat.le_of_ble_eq_true rfl, Nat.le_of_ble_eq_true rfl, rfl⟩ (s_333 kc x1 (8 : Int32) (10 : Int32) m53 _ h) ?_
              rintro _ m55 ⟨r54, rfl, h⟩
              refine it_V.at (pc1 := 113) (ls1 := [some (.ref 66), some (.int x0), some (.int x1), some (.int x2), some (.int ((it_us x1 (7 : Int32)) &&& (31 : Int32))), some (.int (m 94 (Int32.toNatClampNeg x0))), none, none]) (st1 := [(.int r54), (.int (((-r50) ||| r52) ||| (it_shl ((it_us x1 (9 : Int32)) &&& (3 : Int32)) (8 : Int32))))]) (mem1 := m55) rfl rfl rfl rfl ?_
              refine it_V.sN it_cd338 it_m338 4 (pc1 := 119) (ls1 := [some (.ref 66), some (.int x0), some (.int x1), some (.int x2), some (.int ((it_us x1 (7 : Int32)) &&& (31 : Int32))), some (.int (m 94 (Int32.toNatClampNeg x0))), none, none]) (st1 := [(.int (6 : Int32)), (.int (7 : Int32)), (.int x1), (.int ((((-r50) ||| r52) ||| (it_shl ((it_us x1 (9 : Int32)) &&& (3 : Int32)) (8 : Int32))) ||| r54))]) (mem1 := m55) rfl ?_
              refine it_V.call it_cd338 it_m338 rfl it_m333 [(.int x1), (.int (7 : Int32)), (.int (6 : Int32))] [(.int ((((-r50) ||| r52) ||| (it_shl ((it_us x1 (9 : Int32)) &&& (3 : Int32)) (8 : Int32))) ||| r54))] rfl rfl ⟨Nat.le_of_ble_eq_true rfl, Nat.le_of_ble_eq_true rfl, Nat.le_of_ble_eq_true rfl, Nat.le_of_ble_eq_true rfl, rfl⟩ (s_333 kc x1 (7 : Int32) (6 : Int32) m55 _ h) ?_
              rintro _ m57 ⟨r56, rfl, h⟩
              refine it_V.at (pc1 := 122) (ls1 := [some (.ref 66), some (.int x0), some (.int x1), some (.int x2), some (.int ((it_us x1 (7 : Int32)) &&& (31 : Int32))), some (.int (m 94 (Int32.toNatClampNeg x0))), none, none]) (st1 := [(.int r56), (.int ((((-r50) ||| r52) ||| (it_shl ((it_us x1 (9 : Int32)) &&& (3 : Int32)) (8 : Int32))) ||| r54))]) (mem1 := m57) rfl rfl rfl rfl ?_
              refine it_V.sN it_cd338 it_m338 4 (pc1 := 128) (ls1 := [some (.ref 66), some (.int x0), some (.int x1), some (.int x2), some (.int ((it_us x1 (7 : Int32)) &&& (31 : Int32))), some (.int (m 94 (Int32.toNatClampNeg x0))), none, none]) (st1 := [(.int (7 : Int32)), (.int (6 : Int32)), (.int x1), (.int (((((-r50) ||| r52) ||| (it_shl ((it_us x1 (9 : Int32)) &&& (3 : Int32)) (8 : Int32))) ||| r54) ||| r56))]) (mem1 := m57) rfl ?_
              refine it_V.call it_cd338 it_m338 rfl it_m333 [(.int x1), (.int (6 : Int32)), (.int (7 : Int32))] [(.int (((((-r50) ||| r52) ||| (it_shl ((it_us x1 (9 : Int32)) &&& (3 : Int32)) (8 : Int32))) ||| r54) ||| r56))] rfl rfl ⟨Nat.le_of_ble_eq_true rfl, Nat.le_of_ble_eq_true rfl, Nat.le_of_ble_eq_true rfl, Nat.le_of_ble_eq_true rfl, rfl⟩ (s_333 kc x1 (6 : Int32) (7 : Int32) m57 _ h) ?_
              rintro _ m59 ⟨r58, rfl, h⟩
              refine it_V.at (pc1 := 131) (ls1 := [some (.ref 66), some (.int x0), some (.int x1), some (.int x2), some (.int ((it_us x1 (7 : Int32)) &&& (31 : Int32))), some (.int (m 94 (Int32.toNatClampNeg x0))), none, none]) (st1 := [(.int r58), (.int (((((-r50) ||| r52) ||| (it_shl ((it_us x1 (9 : Int32)) &&& (3 : Int32)) (8 : Int32))) ||| r54) ||| r56))]) (mem1 := m59) rfl rfl rfl rfl ?_
              refine it_V.sN it_cd338 it_m338 12 (pc1 := 144) (ls1 := [some (.ref 66), some (.int x0), some (.int x1), some (.int x2), some (.int ((it_us x1 (7 : Int32)) &&& (31 : Int32))), some (.int (m 94 (Int32.toNatClampNeg x0))), none, none]) (st1 := [(.int (5 : Int32)), (.int (2 : Int32)), (.int x1), (.int (((((((-r50) ||| r52) ||| (it_shl ((it_us x1 (9 : Int32)) &&& (3 : Int32)) (8 : Int32))) ||| r54) ||| r56) ||| r58) ||| (it_shl ((it_us x1 (3 : Int32)) &&& (7 : Int32)) (1 : Int32))))]) (mem1 := m59) rfl ?_
              refine it_V.call it_cd338 it_m338 rfl it_m333 [(.int x1), (.int (2 : Int32)), (.int (5 : Int32))] [(.int (((((((-r50) ||| r52) ||| (it_shl ((it_us x1 (9 : Int32)) &&& (3 : Int32)) (8 : Int32))) ||| r54) ||| r56) ||| r58) ||| (it_shl ((it_us x1 (3 : Int32)) &&& (7 : Int32)) (1 : Int32))))] rfl rfl ⟨Nat.le_of_ble_eq_true rfl, Nat.le_of_ble_eq_true rfl, Nat.le_of_ble_eq_true rfl, Nat.le_of_ble_eq_true rfl, rfl⟩ (s_333 kc x1 (2 : Int32) (5 : Int32) m59 _ h) ?_
              rintro _ m61 ⟨r60, rfl, h⟩
              refine it_V.at (pc1 := 147) (ls1 := [some (.ref 66), some (.int x0), some (.int x1), some (.int x2), some (.int ((it_us x1 (7 : Int32)) &&& (31 : Int32))), some (.int (m 94 (Int32.toNatClampNeg x0))), none, none]) (st1 := [(.int r60), (.int (((((((-r50) ||| r52) ||| (it_shl ((it_us x1 (9 : Int32)) &&& (3 : Int32)) (8 : Int32))) ||| r54) ||| r56) ||| r58) ||| (it_shl ((it_us x1 (3 : Int32)) &&& (7 : Int32)) (1 : Int32))))]) (mem1 := m61) rfl rfl rfl rfl ?_
              refine it_V.sN it_cd338 it_m338 5 (pc1 := (if x2 = (1 : Int32) then 155 else 165)) (ls1 := [some (.ref 66), some (.int x0), some (.int x1), some (.int x2), some (.int ((it_us x1 (7 : Int32)) &&& (31 : Int32))), some (.int (m 94 (Int32.toNatClampNeg x0))), some (.int ((((((((-r50) ||| r52) ||| (it_shl ((it_us x1 (9 : Int32)) &&& (3 : Int32)) (8 : Int32))) ||| r54) ||| r56) ||| r58) ||| (it_shl ((it_us x1 (3 : Int32)) &&& (7 : Int32)) (1 : Int32))) ||| r60)), none]) (st1 := []) (mem1 := m61) rfl ?_
              refine it_V.ite (fun c62 => ?_) (fun c62 => ?_)
              · have h := h.1 c62
                refine it_V.sN it_cd338 it_m338 6 (pc1 := 162) (ls1 := [some (.ref 66), some (.int x0), some (.int x1), some (.int x2), some (.int ((it_us x1 (7 : Int32)) &&& (31 : Int32))), some (.int (m 94 (Int32.toNatClampNeg x0))), some (.int ((((((((-r50) ||| r52) ||| (it_shl ((it_us x1 (9 : Int32)) &&& (3 : Int32)) (8 : Int32))) ||| r54) ||| r56) ||| r58) ||| (it_shl ((it_us x1 (3 : Int32)) &&& (7 : Int32)) (1 : Int32))) ||| r60)), none]) (st1 := [(.int ((m 94 (Int32.toNatClampNeg x0)) + (2 : Int32))), (.int (1 : Int32)), (.int x0), (.ref 66)]) (mem1 := m61) rfl ?_
                refine it_V.call it_cd338 it_m338 rfl it_m319 [(.ref 66), (.int x0), (.int (1 : Int32)), (.int ((m 94 (Int32.toNatClampNeg x0)) + (2 : Int32)))] [] rfl rfl ⟨Nat.le_of_ble_eq_true rfl, Nat.le_of_ble_eq_true rfl, Nat.le_of_ble_eq_true rfl, Nat.le_of_ble_eq_true rfl, rfl⟩ (s_319 kc x0 (1 : Int32) ((m 94 (Int32.toNatClampNeg x0)) + (2 : Int32)) m61 _ h) ?_
                rintro _ m63 ⟨rfl, h⟩
                refine it_V.at (pc1 := 165) (ls1 := [some (.ref 66), some (.int x0), some (.int x1), some (.int x2), some (.int ((it_us x1 (7 : Int32)) &&& (31 : Int32))), some (.int (m 94 (Int32.toNatClampNeg x0))), some (.int ((((((((-r50) ||| r52) ||| (it_shl ((it_us x1 (9 : Int32)) &&& (3 : Int32)) (8 : Int32))) ||| r54) ||| r56) ||| r58) ||| (it_shl ((it_us x1 (3 : Int32)) &&& (7 : Int32)) (1 : Int32))) ||| r60)), none]) (st1 := []) (mem1 := m63) rfl rfl rfl rfl ?_
                refine it_V.weak (l := [some (.ref 66), some (.int x0), none, none, none, some (.int (m 94 (Int32.toNatClampNeg x0))), some (.int ((((((((-r50) ||| r52) ||| (it_shl ((it_us x1 (9 : Int32)) &&& (3 : Int32)) (8 : Int32))) ||| r54) ||| r56) ||| r58) ||| (it_shl ((it_us x1 (3 : Int32)) &&& (7 : Int32)) (1 : Int32))) ||| r60)), none]) ⟨rfl, ⟨rfl, ⟨rfl, ⟨rfl, trivial⟩⟩⟩⟩ ?_
                exact s_338_165 kc Φ x0 (m 94 (Int32.toNatClampNeg x0)) ((((((((-r50) ||| r52) ||| (it_shl ((it_us x1 (9 : Int32)) &&& (3 : Int32)) (8 : Int32))) ||| r54) ||| r56) ||| r58) ||| (it_shl ((it_us x1 (3 : Int32)) &&& (7 : Int32)) (1 : Int32))) ||| r60) m63 h
              · have h := h.2 c62
                refine it_V.weak (l := [some (.ref 66), some (.int x0), none, none, none, some (.int (m 94 (Int32.toNatClampNeg x0))), some (.int ((((((((-r50) ||| r52) ||| (it_shl ((it_us x1 (9 : Int32)) &&& (3 : Int32)) (8 : Int32))) ||| r54) ||| r56) ||| r58) ||| (it_shl ((it_us x1 (3 : Int32)) &&& (7 : Int32)) (1 : Int32))) ||| r60)), none]) ⟨rfl, ⟨rfl, ⟨rfl, ⟨rfl, trivial⟩⟩⟩⟩ ?_
                exact s_338_165 kc Φ x0 (m 94 (Int32.toNatClampNeg x0)) ((((((((-r50) ||| r52) ||| (it_shl ((it_us x1 (9 : Int32)) &&& (3 : Int32)) (8 : Int32))) ||| r54) ||| r56) ||| r58) ||| (it_shl ((it_us x1 (3 : Int32)) &&& (7 : Int32)) (1 : Int32))) ||| r60) m61 h
            · have h := h.2 c49
              refine it_V.sN it_cd338 it_m338 3 (pc1 := 303) (ls1 := [some (.ref 66), some (.int x0), some (.int x1), some (.int x2), some (.int ((it_us x1 (7 : Int32)) &&& (31 : Int32))), some (.int (m 94 (Int32.toNatClampNeg x0))), none, none]) (st1 := [(.int (8 : Int32)), (.int (12 : Int32)), (.int x1)]) (mem1 := m) rfl ?_
              refine it_V.call it_cd338 it_m338 rfl it_m333 [(.int x1), (.int (12 : Int32)), (.int (8 : Int32))] [] rfl rfl ⟨Nat.le_of_ble_eq_true rfl, Nat.le_of_ble_eq_true rfl, Nat.le_of_ble_eq_true rfl, Nat.le_of_ble_eq_true rfl, rfl⟩ (s_333 kc x1 (12 : Int32) (8 : Int32) m _ h) ?_
              rintro _ m65 ⟨r64, rfl, h⟩
              refine it_V.at (pc1 := 306) (ls1 := [some (.ref 66), some (.int x0), some (.int x1), some (.int x2), some (.int ((it_us x1 (7 : Int32)) &&& (31 : Int32))), some (.int (m 94 (Int32.toNatClampNeg x0))), none, none]) (st1 := [(.int r64)]) (mem1 := m65) rfl rfl rfl rfl ?_
              refine it_V.sN it_cd338 it_m338 28 (pc1 := 336) (ls1 := [some (.ref 66), some (.int x0), some (.int x1), some (.int x2), some (.int ((it_us x1 (7 : Int32)) &&& (31 : Int32))), some (.int (m 94 (Int32.toNatClampNeg x0))), none, none]) (st1 := [(.int (5 : Int32)), (.int (2 : Int32)), (.int x1), (.int ((((-r64) ||| (it_shl ((it_us x1 (10 : Int32)) &&& (3 : Int32)) (3 : Int32))) ||| (it_shl ((it_us x1 (5 : Int32)) &&& (3 : Int32)) (6 : Int32))) ||| (it_shl ((it_us x1 (3 : Int32)) &&& (3 : Int32)) (1 : Int32))))]) (mem1 := m65) rfl ?_
              refine it_V.call it_cd338 it_m338 rfl it_m333 [(.int x1), (.int (2 : Int32)), (.int (5 : Int32))] [(.int ((((-r64) ||| (it_shl ((it_us x1 (10 : Int32)) &&& (3 : Int32)) (3 : Int32))) ||| (it_shl ((it_us x1 (5 : Int32)) &&& (3 : Int32)) (6 : Int32))) ||| (it_shl ((it_us x1 (3 : Int32)) &&& (3 : Int32)) (1 : Int32))))] rfl rfl ⟨Nat.le_of_ble_eq_true rfl, Nat.le_of_ble_eq_true rfl, Nat.le_of_ble_eq_true rfl, Nat.le_of_ble_eq_true rfl, rfl⟩ (s_333 kc x1 (2 : Int32) (5 : Int32) m65 _ h) ?_
              rintro _ m67 ⟨r66, rfl, h⟩
              refine it_V.at (pc1 := 339) (ls1 := [some (.ref 66), some (.int x0), some (.int x1), some (.int x2), some (.int ((it_us x1 (7 : Int32)) &&& (31 : Int32))), some (.int (m 94 (Int32.toNatClampNeg x0))), none, none]) (st1 := [(.int r66), (.int ((((-r64) ||| (it_shl ((it_us x1 (10 : Int32)) &&& (3 : Int32)) (3 : Int32))) ||| (it_shl ((it_us x1 (5 : Int32)) &&& (3 : Int32)) (6 : Int32))) ||| (it_shl ((it_us x1 (3 : Int32)) &&& (3 : Int32)) (1 : Int32))))]) (mem1 := m67) rfl rfl rfl rfl ?_
              refine it_V.sN it_cd338 it_m338 15 (pc1 := 361) (ls1 := [some (.ref 66), some (.int x0), some (.int x1), some (.int x2), some (.int ((it_us x1 (7 : Int32)) &&& (31 : Int32))), some (.int (m 94 (Int32.toNatClampNeg x0))), none, some (.int (((((-r64) ||| (it_shl ((it_us x1 (10 : Int32)) &&& (3 : Int32)) (3 : Int32))) ||| (it_shl ((it_us x1 (5 : Int32)) &&& (3 : Int32)) (6 : Int32))) ||| (it_shl ((it_us x1 (3 : Int32)) &&& (3 : Int32)) (1 : Int32))) ||| r66))]) (st1 := [(.int ((8 : Int32) + ((it_us x1 (7 : Int32)) &&& (7 : Int32)))), (.int x0), (.ref 66), (.int (m 94 (Int32.toNatClampNeg x0))), (.int x0), (.ref 94)]) (mem1 := m67) rfl ?_
              refine it_V.call it_cd338 it_m338 rfl it_m318 [(.ref 66), (.int x0), (.int ((8 : Int32) + ((it_us x1 (7 : Int32)) &&& (7 : Int32))))] [(.int (m 94 (Int32.toNatClampNeg x0))), (.int x0), (.ref 94)] rfl rfl ⟨Nat.le_of_ble_eq_true rfl, Nat.le_of_ble_eq_true rfl, Nat.le_of_ble_eq_true rfl, Nat.le_of_ble_eq_true rfl, rfl⟩ (s_318 kc x0 ((8 : Int32) + ((it_us x1 (7 : Int32)) &&& (7 : Int32))) m67 _ h) ?_
              rintro _ m69 ⟨r68, rfl, h⟩
              refine it_V.at (pc1 := 364) (ls1 := [some (.ref 66), some (.int x0), some (.int x1), some (.int x2), some (.int ((it_us x1 (7 : Int32)) &&& (31 : Int32))), some (.int (m 94 (Int32.toNatClampNeg x0))), none, some (.int (((((-r64) ||| (it_shl ((it_us x1 (10 : Int32)) &&& (3 : Int32)) (3 : Int32))) ||| (it_shl ((it_us x1 (5 : Int32)) &&& (3 : Int32)) (6 : Int32))) ||| (it_shl ((it_us x1 (3 : Int32)) &&& (3 : Int32)) (1 : Int32))) ||| r66))]) (st1 := [(.int r68), (.int (m 94 (Int32.toNatClampNeg x0))), (.int x0), (.ref 94)]) (mem1 := m69) rfl rfl rfl rfl ?_
              refine it_V.sN it_cd338 it_m338 1 (pc1 := (if r68 = 0 then 367 else 371)) (ls1 := [some (.ref 66), some (.int x0), some (.int x1), some (.int x2), some (.int ((it_us x1 (7 : Int32)) &&& (31 : Int32))), some (.int (m 94 (Int32.toNatClampNeg x0))), none, some (.int (((((-r64) ||| (it_shl ((it_us x1 (10 : Int32)) &&& (3 : Int32)) (3 : Int32))) ||| (it_shl ((it_us x1 (5 : Int32)) &&& (3 : Int32)) (6 : Int32))) ||| (it_shl ((it_us x1 (3 : Int32)) &&& (3 : Int32)) (1 : Int32))) ||| r66))]) (st1 := [(.int (m 94 (Int32.toNatClampNeg x0))), (.int x0), (.ref 94)]) (mem1 := m69) rfl ?_
              refine it_V.ite (fun c70 => ?_) (fun c70 => ?_)
              · have h := h.1 c70
                refine it_V.sN it_cd338 it_m338 2 (pc1 := 372) (ls1 := [some (.ref 66), some (.int x0), some (.int x1), some (.int x2), some (.int ((it_us x1 (7 : Int32)) &&& (31 : Int32))), some (.int (m 94 (Int32.toNatClampNeg x0))), none, some (.int (((((-r64) ||| (it_shl ((it_us x1 (10 : Int32)) &&& (3 : Int32)) (3 : Int32))) ||| (it_shl ((it_us x1 (5 : Int32)) &&& (3 : Int32)) (6 : Int32))) ||| (it_shl ((it_us x1 (3 : Int32)) &&& (3 : Int32)) (1 : Int32))) ||| r66))]) (st1 := [(.int (1 : Int32)), (.int (m 94 (Int32.toNatClampNeg x0))), (.int x0), (.ref 94)]) (mem1 := m69) rfl ?_
                refine it_V.weak (l := [none, none, none, some (.int x2), none, none, none, some (.int (((((-r64) ||| (it_shl ((it_us x1 (10 : Int32)) &&& (3 : Int32)) (3 : Int32))) ||| (it_shl ((it_us x1 (5 : Int32)) &&& (3 : Int32)) (6 : Int32))) ||| (it_shl ((it_us x1 (3 : Int32)) &&& (3 : Int32)) (1 : Int32))) ||| r66))]) ⟨rfl, ⟨rfl, trivial⟩⟩ ?_
                exact s_338_372 kc Φ x2 (((((-r64) ||| (it_shl ((it_us x1 (10 : Int32)) &&& (3 : Int32)) (3 : Int32))) ||| (it_shl ((it_us x1 (5 : Int32)) &&& (3 : Int32)) (6 : Int32))) ||| (it_shl ((it_us x1 (3 : Int32)) &&& (3 : Int32)) (1 : Int32))) ||| r66) x0 (m 94 (Int32.toNatClampNeg x0)) (1 : Int32) m69 h
              · have h := h.2 c70
                refine it_V.sN it_cd338 it_m338 1 (pc1 := 372) (ls1 := [some (.ref 66), some (.int x0), some (.int x1), some (.int x2), some (.int ((it_us x1 (7 : Int32)) &&& (31 : Int32))), some (.int (m 94 (Int32.toNatClampNeg x0))), none, some (.int (((((-r64) ||| (it_shl ((it_us x1 (10 : Int32)) &&& (3 : Int32)) (3 : Int32))) ||| (it_shl ((it_us x1 (5 : Int32)) &&& (3 : Int32)) (6 : Int32))) ||| (it_shl ((it_us x1 (3 : Int32)) &&& (3 : Int32)) (1 : Int32))) ||| r66))]) (st1 := [(.int (0 : Int32)), (.int (m 94 (Int32.toNatClampNeg x0))), (.int x0), (.ref 94)]) (mem1 := m69) rfl ?_
                refine it_V.weak (l := [none, none, none, some (.int x2), none, none, none, some (.int (((((-r64) ||| (it_shl ((it_us x1 (10 : Int32)) &&& (3 : Int32)) (3 : Int32))) ||| (it_shl ((it_us x1 (5 : Int32)) &&& (3 : Int32)) (6 : Int32))) ||| (it_shl ((it_us x1 (3 : Int32)) &&& (3 : Int32)) (1 : Int32))) ||| r66))]) ⟨rfl, ⟨rfl, trivial⟩⟩ ?_
                exact s_338_372 kc Φ x2 (((((-r64) ||| (it_shl ((it_us x1 (10 : Int32)) &&& (3 : Int32)) (3 : Int32))) ||| (it_shl ((it_us x1 (5 : Int32)) &&& (3 : Int32)) (6 : Int32))) ||| (it_shl ((it_us x1 (3 : Int32)) &&& (3 : Int32)) (1 : Int32))) ||| r66) x0 (m 94 (Int32.toNatClampNeg x0)) (0 : Int32) m69 h
set_option maxRecDepth 100000 in
set_option maxHeartbeats 4000000 in
theorem s_340_300 (kc : it_Kc) (Φ : it_Me → Prop) (m : it_Me) (h : w_340_300 kc Φ m) : it_V kc it_sh0 340 300 [none, none, none, none, none, none, none, none, none] [] m (it_Pv Φ) := by
  rw [w_340_300] at h
  exact it_V.ret it_cd340 it_m340 rfl rfl ⟨rfl, h⟩
set_option maxRecDepth 100000 in
set_option maxHeartbeats 4000000 in
theorem s_340_219 (kc : it_Kc) (Φ : it_Me → Prop) (u1 : Int32) (u2 : Int32) (u3 : Int32) (m : it_Me) (h : w_340_219 kc Φ u1 u2 u3 m) : it_V kc it_sh0 340 219 [none, none, none, none, none, none, none, none, none] [(.int u3), (.int u2), (.int u1), (.ref 66)] m (it_Pv Φ) := by
  rw [w_340_219] at h
  refine it_V.call it_cd340 it_m340 rfl it_m334 [(.ref 66), (.int u1), (.int u2), (.int u3)] [] rfl rfl ⟨Nat.le_of_ble_eq_true rfl, Nat.le_of_ble_eq_true rfl, Nat.le_of_ble_eq_true rfl, Nat.le_of_ble_eq_true rfl, rfl⟩ (s_334 kc u1 u2 u3 m _ h) ?_
  rintro _ m1 ⟨rfl, h⟩
  refine it_V.at (pc1 := 222) (ls1 := [none, none, none, none, none, none, none, none, none]) (st1 := []) (mem1 := m1) rfl rfl rfl rfl ?_
  refine it_V.sN it_cd340 it_m340 1 (pc1 := 300) (ls1 := [none, none, none, none, none, none, none, none, none]) (st1 := []) (mem1 := m1) rfl ?_
  refine it_V.weak (l := [none, none, none, none, none, none, none, none, none]) trivial ?_
  exact s_340_300 kc Φ m1 h
set_option maxRecDepth 100000 in
set_option maxHeartbeats 4000000 in
theorem s_340_262 (kc : it_Kc) (Φ : it_Me → Prop) (v1 : Int32) (v8 : Int32) (m : it_Me) (h : w_340_262 kc Φ v1 v8 m) : it_V kc it_sh0 340 262 [some (.ref 66), some (.int v1), none, none, none, none, none, none, some (.int v8)] [] m (it_Pv Φ) := by
  rw [w_340_262] at h
  refine it_V.sN it_cd340 it_m340 4 (pc1 := 269) (ls1 := [some (.ref 66), some (.int v1), none, none, none, none, none, none, some (.int v8)]) (st1 := [(.int v8), (.int v1), (.ref 94)]) (mem1 := m) rfl ?_
  obtain ⟨g1, h⟩ := h
  refine it_V.iast it_cd340 it_m340 rfl ((⟨rfl, by decide⟩ : it_isR 94 8)).1 g1 ?_
  refine it_V.at (pc1 := 270) (ls1 := [some (.ref 66), some (.int v1), none, none, none, none, none, none, some (.int v8)]) (st1 := []) (mem1 := (it_sv m 94 (Int32.toNatClampNeg v1) v8)) rfl rfl rfl rfl ?_
  refine it_V.sN it_cd340 it_m340 1 (pc1 := 300) (ls1 := [some (.ref 66), some (.int v1), none, none, none, none, none, none, some (.int v8)]) (st1 := []) (mem1 := (it_sv m 94 (Int32.toNatClampNeg v1) v8)) rfl ?_
  refine it_V.weak (l := [none, none, none, none, none, none, none, none, none]) trivial ?_
  exact s_340_300 kc Φ (it_sv m 94 (Int32.toNatClampNeg v1) v8) h
set_option maxRecDepth 100000 in
set_option maxHeartbeats 4000000 in
theorem s_340_294 (kc : it_Kc) (Φ : it_Me → Prop) (v1 : Int32) (v2 : Int32) (m : it_Me) (h : w_340_294 kc Φ v1 v2 m) : it_V kc it_sh0 340 294 [some (.ref 66), some (.int v1), some (.int v2), none, none, none, none, none, none] [] m (it_Pv Φ) := by
  rw [w_340_294] at h
  refine it_V.sN it_cd340 it_m340 3 (pc1 := 297) (ls1 := [some (.ref 66), some (.int v1), some (.int v2), none, none, none, none, none, none]) (st1 := [(.int v2), (.int v1), (.ref 66)]) (mem1 := m) rfl ?_
  refine it_V.call it_cd340 it_m340 rfl it_m321 [(.ref 66), (.int v1), (.int v2)] [] rfl rfl ⟨Nat.le_of_ble_eq_true rfl, Nat.le_of_ble_eq_true rfl, Nat.le_of_ble_eq_true rfl, Nat.le_of_ble_eq_true rfl, rfl⟩ (s_321 kc v1 v2 m _ h) ?_
  rintro _ m1 ⟨rfl, h⟩
  refine it_V.at (pc1 := 300) (ls1 := [some (.ref 66), some (.int v1), some (.int v2), none, none, none, none, none, none]) (st1 := []) (mem1 := m1) rfl rfl rfl rfl ?_
  refine it_V.weak (l := [none, none, none, none, none, none, none, none, none]) trivial ?_
  exact s_340_300 kc Φ m1 h
set_option maxRecDepth 100000 in
set_option maxHeartbeats 4000000 in
theorem s_340_273 (kc : it_Kc) (Φ : it_Me → Prop) (v1 : Int32) (v2 : Int32) (v3 : Int32) (v6 : Int32) (v7 : Int32) (m : it_Me) (h : w_340_273 kc Φ v1 v2 v3 v6 v7 m) : it_V kc it_sh0 340 273 [some (.ref 66), some (.int v1), some (.int v2), some (.int v3), none, none, some (.int v6), some (.int v7), none] [] m (it_Pv Φ) := by
  rw [w_340_273] at h
  refine it_V.sN it_cd340 it_m340 3 (pc1 := (if v3 = (4 : Int32) then 278 else 294)) (ls1 := [some (.ref 66), some (.int v1), some (.int v2), some (.int v3), none, none, some (.int v6), some (.int v7), none]) (st1 := []) (mem1 := m) rfl ?_
  refine it_V.ite (fun c1 => ?_) (fun c1 => ?_)
  · have h := h.1 c1
    refine it_V.sN it_cd340 it_m340 2 (pc1 := (if v6 = 0 then 294 else 283)) (ls1 := [some (.ref 66), some (.int v1), some (.int v2), some (.int v3), none, none, some (.int v6), some (.int v7), none]) (st1 := []) (mem1 := m) rfl ?_
    refine it_V.ite (fun c2 => ?_) (fun c2 => ?_)
    · have h := h.1 c2
      refine it_V.weak (l := [some (.ref 66), some (.int v1), some (.int v2), none, none, none, none, none, none]) ⟨rfl, ⟨rfl, ⟨rfl, trivial⟩⟩⟩ ?_
      exact s_340_294 kc Φ v1 v2 m h
    · have h := h.2 c2
      refine it_V.sN it_cd340 it_m340 4 (pc1 := 288) (ls1 := [some (.ref 66), some (.int v1), some (.int v2), some (.int v3), none, none, some (.int v6), some (.int v7), none]) (st1 := [(.int v7), (.int (3 : Int32)), (.int v1), (.ref 66)]) (mem1 := m) rfl ?_
      refine it_V.call it_cd340 it_m340 rfl it_m258 [(.ref 66), (.int v1), (.int (3 : Int32)), (.int v7)] [] rfl rfl ⟨Nat.le_of_ble_eq_true rfl, Nat.le_of_ble_eq_true rfl, Nat.le_of_ble_eq_true rfl, Nat.le_of_ble_eq_true rfl, rfl⟩ (s_258 kc v1 (3 : Int32) v7 m _ h) ?_
      rintro _ m3 ⟨rfl, h⟩
      refine it_V.at (pc1 := 291) (ls1 := [some (.ref 66), some (.int v1), some (.int v2), some (.int v3), none, none, some (.int v6), some (.int v7), none]) (st1 := []) (mem1 := m3) rfl rfl rfl rfl ?_
      refine it_V.sN it_cd340 it_m340 1 (pc1 := 300) (ls1 := [some (.ref 66), some (.int v1), some (.int v2), some (.int v3), none, none, some (.int v6), some (.int v7), none]) (st1 := []) (mem1 := m3) rfl ?_
      refine it_V.weak (l := [none, none, none, none, none, none, none, none, none]) trivial ?_
      exact s_340_300 kc Φ m3 h
  · have h := h.2 c1
    refine it_V.weak (l := [some (.ref 66), some (.int v1), some (.int v2), none, none, none, none, none, none]) ⟨rfl, ⟨rfl, ⟨rfl, trivial⟩⟩⟩ ?_
    exact s_340_294 kc Φ v1 v2 m h
set_option maxRecDepth 100000 in
set_option maxHeartbeats 4000000 in
theorem s_340_225 (kc : it_Kc) (Φ : it_Me → Prop) (v1 : Int32) (v2 : Int32) (v3 : Int32) (v4 : Int32) (v6 : Int32) (v7 : Int32) (m : it_Me) (h : w_340_225 kc Φ v1 v2 v3 v4 v6 v7 m) : it_V kc it_sh0 340 225 [some (.ref 66), some (.int v1), some (.int v2), some (.int v3), some (.int v4), none, some (.int v6), some (.int v7), none] [] m (it_Pv Φ) := by
  rw [w_340_225] at h
  refine it_V.sN it_cd340 it_m340 3 (pc1 := (if v3 = (4 : Int32) then 230 else 273)) (ls1 := [some (.ref 66), some (.int v1), some (.int v2), some (.int v3), some (.int v4), none, some (.int v6), some (.int v7), none]) (st1 := []) (mem1 := m) rfl ?_
  refine it_V.ite (fun c1 => ?_) (fun c1 => ?_)
  · have h := h.1 c1
    refine it_V.sN it_cd340 it_m340 2 (pc1 := (if v4 = 0 then 273 else 235)) (ls1 := [some (.ref 66), some (.int v1), some (.int v2), some (.int v3), some (.int v4), none, some (.int v6), some (.int v7), none]) (st1 := []) (mem1 := m) rfl ?_
    refine it_V.ite (fun c2 => ?_) (fun c2 => ?_)
    · have h := h.1 c2
      refine it_V.weak (l := [some (.ref 66), some (.int v1), some (.int v2), some (.int v3), none, none, some (.int v6), some (.int v7), none]) ⟨rfl, ⟨rfl, ⟨rfl, ⟨rfl, ⟨rfl, ⟨rfl, trivial⟩⟩⟩⟩⟩⟩ ?_
      exact s_340_273 kc Φ v1 v2 v3 v6 v7 m h
    · have h := h.2 c2
      refine it_V.sN it_cd340 it_m340 3 (pc1 := 239) (ls1 := [some (.ref 66), some (.int v1), some (.int v2), some (.int v3), some (.int v4), none, some (.int v6), some (.int v7), none]) (st1 := [(.int v4), (.int v1), (.ref 66)]) (mem1 := m) rfl ?_
      refine it_V.call it_cd340 it_m340 rfl it_m318 [(.ref 66), (.int v1), (.int v4)] [] rfl rfl ⟨Nat.le_of_ble_eq_true rfl, Nat.le_of_ble_eq_true rfl, Nat.le_of_ble_eq_true rfl, Nat.le_of_ble_eq_true rfl, rfl⟩ (s_318 kc v1 v4 m _ h) ?_
      rintro _ m4 ⟨r3, rfl, h⟩
      refine it_V.at (pc1 := 242) (ls1 := [some (.ref 66), some (.int v1), some (.int v2), some (.int v3), some (.int v4), none, some (.int v6), some (.int v7), none]) (st1 := [(.int r3)]) (mem1 := m4) rfl rfl rfl rfl ?_
      refine it_V.sN it_cd340 it_m340 5 (pc1 := (if v6 = 0 then 262 else 252)) (ls1 := [some (.ref 66), some (.int v1), some (.int v2), some (.int v3), some (.int v4), none, some (.int v6), some (.int v7), some (.int (r3 &&& (-2 : Int32)))]) (st1 := []) (mem1 := m4) rfl ?_
      refine it_V.ite (fun c5 => ?_) (fun c5 => ?_)
      · have h := h.1 c5
        refine it_V.weak (l := [some (.ref 66), some (.int v1), none, none, none, none, none, none, some (.int (r3 &&& (-2 : Int32)))]) ⟨rfl, ⟨rfl, ⟨rfl, trivial⟩⟩⟩ ?_
        exact s_340_262 kc Φ v1 (r3 &&& (-2 : Int32)) m4 h
      · have h := h.2 c5
        refine it_V.sN it_cd340 it_m340 6 (pc1 := 259) (ls1 := [some (.ref 66), some (.int v1), some (.int v2), some (.int v3), some (.int v4), none, some (.int v6), some (.int v7), some (.int (r3 &&& (-2 : Int32)))]) (st1 := [(.int (v7 + (2 : Int32))), (.int (1 : Int32)), (.int v1), (.ref 66)]) (mem1 := m4) rfl ?_
        refine it_V.call it_cd340 it_m340 rfl it_m319 [(.ref 66), (.int v1), (.int (1 : Int32)), (.int (v7 + (2 : Int32)))] [] rfl rfl ⟨Nat.le_of_ble_eq_true rfl, Nat.le_of_ble_eq_true rfl, Nat.le_of_ble_eq_true rfl, Nat.le_of_ble_eq_true rfl, rfl⟩ (s_319 kc v1 (1 : Int32) (v7 + (2 : Int32)) m4 _ h) ?_
        rintro _ m6 ⟨rfl, h⟩
        refine it_V.at (pc1 := 262) (ls1 := [some (.ref 66), some (.int v1), some (.int v2), some (.int v3), some (.int v4), none, some (.int v6), some (.int v7), some (.int (r3 &&& (-2 : Int32)))]) (st1 := []) (mem1 := m6) rfl rfl rfl rfl ?_
        refine it_V.weak (l := [some (.ref 66), some (.int v1), none, none, none, none, none, none, some (.int (r3 &&& (-2 : Int32)))]) ⟨rfl, ⟨rfl, ⟨rfl, trivial⟩⟩⟩ ?_
        exact s_340_262 kc Φ v1 (r3 &&& (-2 : Int32)) m6 h
  · have h := h.2 c1
    refine it_V.weak (l := [some (.ref 66), some (.int v1), some (.int v2), some (.int v3), none, none, some (.int v6), some (.int v7), none]) ⟨rfl, ⟨rfl, ⟨rfl, ⟨rfl, ⟨rfl, ⟨rfl, trivial⟩⟩⟩⟩⟩⟩ ?_
    exact s_340_273 kc Φ v1 v2 v3 v6 v7 m h
set_option maxRecDepth 100000 in
set_option maxHeartbeats 4000000 in
theorem s_340_126 (kc : it_Kc) (Φ : it_Me → Prop) (v1 : Int32) (v2 : Int32) (v3 : Int32) (v4 : Int32) (v5 : Int32) (v6 : Int32) (v7 : Int32) (m : it_Me) (h : w_340_126 kc Φ v1 v2 v3 v4 v5 v6 v7 m) : it_V kc it_sh0 340 126 [some (.ref 66), some (.int v1), some (.int v2), some (.int v3), some (.int v4), some (.int v5), some (.int v6), some (.int v7), none] [] m (it_Pv Φ) := by
  rw [w_340_126] at h
  refine it_V.sN it_cd340 it_m340 3 (pc1 := (if v3 = (6 : Int32) then 132 else 175)) (ls1 := [some (.ref 66), some (.int v1), some (.int v2), some (.int v3), some (.int v4), some (.int v5), some (.int v6), some (.int v7), none]) (st1 := []) (mem1 := m) rfl ?_
  refine it_V.ite (fun c1 => ?_) (fun c1 => ?_)
  · have h := h.1 c1
    refine it_V.sN it_cd340 it_m340 5 (pc1 := 137) (ls1 := [some (.ref 66), some (.int v1), some (.int v2), some (.int v3), some (.int v4), some (.int v5), some (.int v6), some (.int v7), none]) (st1 := [(.int (2 : Int32)), (.int v1), (.ref 66), (.int v1), (.ref 66)]) (mem1 := m) rfl ?_
    refine it_V.call it_cd340 it_m340 rfl it_m318 [(.ref 66), (.int v1), (.int (2 : Int32))] [(.int v1), (.ref 66)] rfl rfl ⟨Nat.le_of_ble_eq_true rfl, Nat.le_of_ble_eq_true rfl, Nat.le_of_ble_eq_true rfl, Nat.le_of_ble_eq_true rfl, rfl⟩ (s_318 kc v1 (2 : Int32) m _ h) ?_
    rintro _ m3 ⟨r2, rfl, h⟩
    refine it_V.at (pc1 := 140) (ls1 := [some (.ref 66), some (.int v1), some (.int v2), some (.int v3), some (.int v4), some (.int v5), some (.int v6), some (.int v7), none]) (st1 := [(.int r2), (.int v1), (.ref 66)]) (mem1 := m3) rfl rfl rfl rfl ?_
    refine it_V.sN it_cd340 it_m340 20 (pc1 := 165) (ls1 := [some (.ref 66), some (.int v1), some (.int v2), some (.int v3), some (.int v4), some (.int v5), some (.int v6), some (.int v7), none]) (st1 := [(.int v5), (.int v1), (.ref 66), (.int (2 : Int32)), (.int (r2 + ((it_shl ((it_us v2 (9 : Int32)) &&& (15 : Int32)) (2 : Int32)) ||| (it_shl ((it_us v2 (7 : Int32)) &&& (3 : Int32)) (6 : Int32))))), (.int v1), (.ref 66)]) (mem1 := m3) rfl ?_
    refine it_V.call it_cd340 it_m340 rfl it_m318 [(.ref 66), (.int v1), (.int v5)] [(.int (2 : Int32)), (.int (r2 + ((it_shl ((it_us v2 (9 : Int32)) &&& (15 : Int32)) (2 : Int32)) ||| (it_shl ((it_us v2 (7 : Int32)) &&& (3 : Int32)) (6 : Int32))))), (.int v1), (.ref 66)] rfl rfl ⟨Nat.le_of_ble_eq_true rfl, Nat.le_of_ble_eq_true rfl, Nat.le_of_ble_eq_true rfl, Nat.le_of_ble_eq_true rfl, rfl⟩ (s_318 kc v1 v5 m3 _ h) ?_
    rintro _ m5 ⟨r4, rfl, h⟩
    refine it_V.at (pc1 := 168) (ls1 := [some (.ref 66), some (.int v1), some (.int v2), some (.int v3), some (.int v4), some (.int v5), some (.int v6), some (.int v7), none]) (st1 := [(.int r4), (.int (2 : Int32)), (.int (r2 + ((it_shl ((it_us v2 (9 : Int32)) &&& (15 : Int32)) (2 : Int32)) ||| (it_shl ((it_us v2 (7 : Int32)) &&& (3 : Int32)) (6 : Int32))))), (.int v1), (.ref 66)]) (mem1 := m5) rfl rfl rfl rfl ?_
    refine it_V.sN it_cd340 it_m340 1 (pc1 := 169) (ls1 := [some (.ref 66), some (.int v1), some (.int v2), some (.int v3), some (.int v4), some (.int v5), some (.int v6), some (.int v7), none]) (st1 := [(.int (2 : Int32)), (.int r4), (.int (2 : Int32)), (.int (r2 + ((it_shl ((it_us v2 (9 : Int32)) &&& (15 : Int32)) (2 : Int32)) ||| (it_shl ((it_us v2 (7 : Int32)) &&& (3 : Int32)) (6 : Int32))))), (.int v1), (.ref 66)]) (mem1 := m5) rfl ?_
    refine it_V.call it_cd340 it_m340 rfl it_m326 [(.ref 66), (.int v1), (.int (r2 + ((it_shl ((it_us v2 (9 : Int32)) &&& (15 : Int32)) (2 : Int32)) ||| (it_shl ((it_us v2 (7 : Int32)) &&& (3 : Int32)) (6 : Int32))))), (.int (2 : Int32)), (.int r4), (.int (2 : Int32))] [] rfl rfl ⟨Nat.le_of_ble_eq_true rfl, Nat.le_of_ble_eq_true rfl, Nat.le_of_ble_eq_true rfl, Nat.le_of_ble_eq_true rfl, rfl⟩ (s_326 kc v1 (r2 + ((it_shl ((it_us v2 (9 : Int32)) &&& (15 : Int32)) (2 : Int32)) ||| (it_shl ((it_us v2 (7 : Int32)) &&& (3 : Int32)) (6 : Int32)))) (2 : Int32) r4 (2 : Int32) m5 _ h) ?_
    rintro _ m6 ⟨rfl, h⟩
    refine it_V.at (pc1 := 172) (ls1 := [some (.ref 66), some (.int v1), some (.int v2), some (.int v3), some (.int v4), some (.int v5), some (.int v6), some (.int v7), none]) (st1 := []) (mem1 := m6) rfl rfl rfl rfl ?_
    refine it_V.sN it_cd340 it_m340 1 (pc1 := 300) (ls1 := [some (.ref 66), some (.int v1), some (.int v2), some (.int v3), some (.int v4), some (.int v5), some (.int v6), some (.int v7), none]) (st1 := []) (mem1 := m6) rfl ?_
    refine it_V.weak (l := [none, none, none, none, none, none, none, none, none]) trivial ?_
    exact s_340_300 kc Φ m6 h
  · have h := h.2 c1
    refine it_V.sN it_cd340 it_m340 3 (pc1 := (if v3 = (4 : Int32) then 180 else 225)) (ls1 := [some (.ref 66), some (.int v1), some (.int v2), some (.int v3), some (.int v4), some (.int v5), some (.int v6), some (.int v7), none]) (st1 := []) (mem1 := m) rfl ?_
    refine it_V.ite (fun c7 => ?_) (fun c7 => ?_)
    · have h := h.1 c7
      refine it_V.sN it_cd340 it_m340 2 (pc1 := (if v5 = 0 then 225 else 185)) (ls1 := [some (.ref 66), some (.int v1), some (.int v2), some (.int v3), some (.int v4), some (.int v5), some (.int v6), some (.int v7), none]) (st1 := []) (mem1 := m) rfl ?_
      refine it_V.ite (fun c8 => ?_) (fun c8 => ?_)
      · have h := h.1 c8
        refine it_V.weak (l := [some (.ref 66), some (.int v1), some (.int v2), some (.int v3), some (.int v4), none, some (.int v6), some (.int v7), none]) ⟨rfl, ⟨rfl, ⟨rfl, ⟨rfl, ⟨rfl, ⟨rfl, ⟨rfl, trivial⟩⟩⟩⟩⟩⟩⟩ ?_
        exact s_340_225 kc Φ v1 v2 v3 v4 v6 v7 m h
      · have h := h.2 c8
        refine it_V.sN it_cd340 it_m340 5 (pc1 := (if v6 = 0 then 212 else 194)) (ls1 := [some (.ref 66), some (.int v1), some (.int v2), some (.int v3), some (.int v4), some (.int v5), some (.int v6), some (.int v7), none]) (st1 := [(.int v4), (.int v1), (.ref 66)]) (mem1 := m) rfl ?_
        refine it_V.ite (fun c9 => ?_) (fun c9 => ?_)
        · have h := h.1 c9
          refine it_V.sN it_cd340 it_m340 3 (pc1 := 216) (ls1 := [some (.ref 66), some (.int v1), some (.int v2), some (.int v3), some (.int v4), some (.int v5), some (.int v6), some (.int v7), none]) (st1 := [(.int v5), (.int v1), (.ref 66), (.int v4), (.int v1), (.ref 66)]) (mem1 := m) rfl ?_
          refine it_V.call it_cd340 it_m340 rfl it_m318 [(.ref 66), (.int v1), (.int v5)] [(.int v4), (.int v1), (.ref 66)] rfl rfl ⟨Nat.le_of_ble_eq_true rfl, Nat.le_of_ble_eq_true rfl, Nat.le_of_ble_eq_true rfl, Nat.le_of_ble_eq_true rfl, rfl⟩ (s_318 kc v1 v5 m _ h) ?_
          rintro _ m11 ⟨r10, rfl, h⟩
          refine it_V.at (pc1 := 219) (ls1 := [some (.ref 66), some (.int v1), some (.int v2), some (.int v3), some (.int v4), some (.int v5), some (.int v6), some (.int v7), none]) (st1 := [(.int r10), (.int v4), (.int v1), (.ref 66)]) (mem1 := m11) rfl rfl rfl rfl ?_
          refine it_V.weak (l := [none, none, none, none, none, none, none, none, none]) trivial ?_
          exact s_340_219 kc Φ v1 v4 r10 m11 h
        · have h := h.2 c9
          refine it_V.sN it_cd340 it_m340 3 (pc1 := 198) (ls1 := [some (.ref 66), some (.int v1), some (.int v2), some (.int v3), some (.int v4), some (.int v5), some (.int v6), some (.int v7), none]) (st1 := [(.int v4), (.int v1), (.ref 66), (.int v4), (.int v1), (.ref 66)]) (mem1 := m) rfl ?_
          refine it_V.call it_cd340 it_m340 rfl it_m318 [(.ref 66), (.int v1), (.int v4)] [(.int v4), (.int v1), (.ref 66)] rfl rfl ⟨Nat.le_of_ble_eq_true rfl, Nat.le_of_ble_eq_true rfl, Nat.le_of_ble_eq_true rfl, Nat.le_of_ble_eq_true rfl, rfl⟩ (s_318 kc v1 v4 m _ h) ?_
          rintro _ m13 ⟨r12, rfl, h⟩
          refine it_V.at (pc1 := 201) (ls1 := [some (.ref 66), some (.int v1), some (.int v2), some (.int v3), some (.int v4), some (.int v5), some (.int v6), some (.int v7), none]) (st1 := [(.int r12), (.int v4), (.int v1), (.ref 66)]) (mem1 := m13) rfl rfl rfl rfl ?_
          refine it_V.sN it_cd340 it_m340 3 (pc1 := 205) (ls1 := [some (.ref 66), some (.int v1), some (.int v2), some (.int v3), some (.int v4), some (.int v5), some (.int v6), some (.int v7), none]) (st1 := [(.int v5), (.int v1), (.ref 66), (.int r12), (.int v4), (.int v1), (.ref 66)]) (mem1 := m13) rfl ?_
          refine it_V.call it_cd340 it_m340 rfl it_m318 [(.ref 66), (.int v1), (.int v5)] [(.int r12), (.int v4), (.int v1), (.ref 66)] rfl rfl ⟨Nat.le_of_ble_eq_true rfl, Nat.le_of_ble_eq_true rfl, Nat.le_of_ble_eq_true rfl, Nat.le_of_ble_eq_true rfl, rfl⟩ (s_318 kc v1 v5 m13 _ h) ?_
          rintro _ m15 ⟨r14, rfl, h⟩
          refine it_V.at (pc1 := 208) (ls1 := [some (.ref 66), some (.int v1), some (.int v2), some (.int v3), some (.int v4), some (.int v5), some (.int v6), some (.int v7), none]) (st1 := [(.int r14), (.int r12), (.int v4), (.int v1), (.ref 66)]) (mem1 := m15) rfl rfl rfl rfl ?_
          refine it_V.sN it_cd340 it_m340 2 (pc1 := 219) (ls1 := [some (.ref 66), some (.int v1), some (.int v2), some (.int v3), some (.int v4), some (.int v5), some (.int v6), some (.int v7), none]) (st1 := [(.int (r12 + r14)), (.int v4), (.int v1), (.ref 66)]) (mem1 := m15) rfl ?_
          refine it_V.weak (l := [none, none, none, none, none, none, none, none, none]) trivial ?_
          exact s_340_219 kc Φ v1 v4 (r12 + r14) m15 h
    · have h := h.2 c7
      refine it_V.weak (l := [some (.ref 66), some (.int v1), some (.int v2), some (.int v3), some (.int v4), none, some (.int v6), some (.int v7), none]) ⟨rfl, ⟨rfl, ⟨rfl, ⟨rfl, ⟨rfl, ⟨rfl, ⟨rfl, trivial⟩⟩⟩⟩⟩⟩⟩ ?_
      exact s_340_225 kc Φ v1 v2 v3 v4 v6 v7 m h
set_option maxRecDepth 100000 in
set_option maxHeartbeats 4000000 in
theorem s_340_72 (kc : it_Kc) (Φ : it_Me → Prop) (v1 : Int32) (v2 : Int32) (v3 : Int32) (v4 : Int32) (v5 : Int32) (v6 : Int32) (v7 : Int32) (m : it_Me) (h : w_340_72 kc Φ v1 v2 v3 v4 v5 v6 v7 m) : it_V kc it_sh0 340 72 [some (.ref 66), some (.int v1), some (.int v2), some (.int v3), some (.int v4), some (.int v5), some (.int v6), some (.int v7), none] [] m (it_Pv Φ) := by
  rw [w_340_72] at h
  refine it_V.sN it_cd340 it_m340 3 (pc1 := (if v3 = (2 : Int32) then 77 else 126)) (ls1 := [some (.ref 66), some (.int v1), some (.int v2), some (.int v3), some (.int v4), some (.int v5), some (.int v6), some (.int v7), none]) (st1 := []) (mem1 := m) rfl ?_
  refine it_V.ite (fun c1 => ?_) (fun c1 => ?_)
  · have h := h.1 c1
    refine it_V.sN it_cd340 it_m340 2 (pc1 := (if v4 = 0 then 126 else 82)) (ls1 := [some (.ref 66), some (.int v1), some (.int v2), some (.int v3), some (.int v4), some (.int v5), some (.int v6), some (.int v7), none]) (st1 := []) (mem1 := m) rfl ?_
    refine it_V.ite (fun c2 => ?_) (fun c2 => ?_)
    · have h := h.1 c2
      refine it_V.weak (l := [some (.ref 66), some (.int v1), some (.int v2), some (.int v3), some (.int v4), some (.int v5), some (.int v6), some (.int v7), none]) ⟨rfl, ⟨rfl, ⟨rfl, ⟨rfl, ⟨rfl, ⟨rfl, ⟨rfl, ⟨rfl, trivial⟩⟩⟩⟩⟩⟩⟩⟩ ?_
      exact s_340_126 kc Φ v1 v2 v3 v4 v5 v6 v7 m h
    · have h := h.2 c2
      refine it_V.sN it_cd340 it_m340 6 (pc1 := 89) (ls1 := [some (.ref 66), some (.int v1), some (.int v2), some (.int v3), some (.int v4), some (.int v5), some (.int v6), some (.int v7), none]) (st1 := [(.int (2 : Int32)), (.int v1), (.ref 66), (.int v4), (.int v1), (.ref 66)]) (mem1 := m) rfl ?_
      refine it_V.call it_cd340 it_m340 rfl it_m318 [(.ref 66), (.int v1), (.int (2 : Int32))] [(.int v4), (.int v1), (.ref 66)] rfl rfl ⟨Nat.le_of_ble_eq_true rfl, Nat.le_of_ble_eq_true rfl, Nat.le_of_ble_eq_true rfl, Nat.le_of_ble_eq_true rfl, rfl⟩ (s_318 kc v1 (2 : Int32) m _ h) ?_
      rintro _ m4 ⟨r3, rfl, h⟩
      refine it_V.at (pc1 := 92) (ls1 := [some (.ref 66), some (.int v1), some (.int v2), some (.int v3), some (.int v4), some (.int v5), some (.int v6), some (.int v7), none]) (st1 := [(.int r3), (.int v4), (.int v1), (.ref 66)]) (mem1 := m4) rfl rfl rfl rfl ?_
      refine it_V.sN it_cd340 it_m340 3 (pc1 := 96) (ls1 := [some (.ref 66), some (.int v1), some (.int v2), some (.int v3), some (.int v4), some (.int v5), some (.int v6), some (.int v7), none]) (st1 := [(.int (5 : Int32)), (.int (12 : Int32)), (.int v2), (.int r3), (.int v4), (.int v1), (.ref 66)]) (mem1 := m4) rfl ?_
      refine it_V.call it_cd340 it_m340 rfl it_m333 [(.int v2), (.int (12 : Int32)), (.int (5 : Int32))] [(.int r3), (.int v4), (.int v1), (.ref 66)] rfl rfl ⟨Nat.le_of_ble_eq_true rfl, Nat.le_of_ble_eq_true rfl, Nat.le_of_ble_eq_true rfl, Nat.le_of_ble_eq_true rfl, rfl⟩ (s_333 kc v2 (12 : Int32) (5 : Int32) m4 _ h) ?_
      rintro _ m6 ⟨r5, rfl, h⟩
      refine it_V.at (pc1 := 99) (ls1 := [some (.ref 66), some (.int v1), some (.int v2), some (.int v3), some (.int v4), some (.int v5), some (.int v6), some (.int v7), none]) (st1 := [(.int r5), (.int r3), (.int v4), (.int v1), (.ref 66)]) (mem1 := m6) rfl rfl rfl rfl ?_
      refine it_V.sN it_cd340 it_m340 19 (pc1 := 120) (ls1 := [some (.ref 66), some (.int v1), some (.int v2), some (.int v3), some (.int v4), some (.int v5), some (.int v6), some (.int v7), none]) (st1 := [(.int (2 : Int32)), (.int (2 : Int32)), (.int (r3 + ((r5 ||| (it_shl ((it_us v2 (4 : Int32)) &&& (7 : Int32)) (2 : Int32))) ||| (it_shl ((it_us v2 (2 : Int32)) &&& (3 : Int32)) (6 : Int32))))), (.int v4), (.int v1), (.ref 66)]) (mem1 := m6) rfl ?_
      refine it_V.call it_cd340 it_m340 rfl it_m325 [(.ref 66), (.int v1), (.int v4), (.int (r3 + ((r5 ||| (it_shl ((it_us v2 (4 : Int32)) &&& (7 : Int32)) (2 : Int32))) ||| (it_shl ((it_us v2 (2 : Int32)) &&& (3 : Int32)) (6 : Int32))))), (.int (2 : Int32)), (.int (2 : Int32))] [] rfl rfl ⟨Nat.le_of_ble_eq_true rfl, Nat.le_of_ble_eq_true rfl, Nat.le_of_ble_eq_true rfl, Nat.le_of_ble_eq_true rfl, rfl⟩ (s_325 kc v1 v4 (r3 + ((r5 ||| (it_shl ((it_us v2 (4 : Int32)) &&& (7 : Int32)) (2 : Int32))) ||| (it_shl ((it_us v2 (2 : Int32)) &&& (3 : Int32)) (6 : Int32)))) (2 : Int32) (2 : Int32) m6 _ h) ?_
      rintro _ m7 ⟨rfl, h⟩
      refine it_V.at (pc1 := 123) (ls1 := [some (.ref 66), some (.int v1), some (.int v2), some (.int v3), some (.int v4), some (.int v5), some (.int v6), some (.int v7), none]) (st1 := []) (mem1 := m7) rfl rfl rfl rfl ?_
      refine it_V.sN it_cd340 it_m340 1 (pc1 := 300) (ls1 := [some (.ref 66), some (.int v1), some (.int v2), some (.int v3), some (.int v4), some (.int v5), some (.int v6), some (.int v7), none]) (st1 := []) (mem1 := m7) rfl ?_
      refine it_V.weak (l := [none, none, none, none, none, none, none, none, none]) trivial ?_
      exact s_340_300 kc Φ m7 h
  · have h := h.2 c1
    refine it_V.weak (l := [some (.ref 66), some (.int v1), some (.int v2), some (.int v3), some (.int v4), some (.int v5), some (.int v6), some (.int v7), none]) ⟨rfl, ⟨rfl, ⟨rfl, ⟨rfl, ⟨rfl, ⟨rfl, ⟨rfl, ⟨rfl, trivial⟩⟩⟩⟩⟩⟩⟩⟩ ?_
    exact s_340_126 kc Φ v1 v2 v3 v4 v5 v6 v7 m h
set_option maxRecDepth 100000 in
set_option maxHeartbeats 4000000 in
theorem s_340_33 (kc : it_Kc) (Φ : it_Me → Prop) (v1 : Int32) (v2 : Int32) (v3 : Int32) (v4 : Int32) (v5 : Int32) (u0 : Int32) (m : it_Me) (h : w_340_33 kc Φ v1 v2 v3 v4 v5 u0 m) : it_V kc it_sh0 340 33 [some (.ref 66), some (.int v1), some (.int v2), some (.int v3), some (.int v4), some (.int v5), none, none, none] [(.int u0)] m (it_Pv Φ) := by
  rw [w_340_33] at h
  refine it_V.sN it_cd340 it_m340 4 (pc1 := 40) (ls1 := [some (.ref 66), some (.int v1), some (.int v2), some (.int v3), some (.int v4), some (.int v5), some (.int u0), none, none]) (st1 := [(.int v1), (.ref 94)]) (mem1 := m) rfl ?_
  obtain ⟨g1, h⟩ := h
  refine it_V.iald it_cd340 it_m340 rfl ((⟨rfl, by decide⟩ : it_isR 94 8)).2 ((⟨rfl, by decide⟩ : it_isR 94 8)).1 g1 ?_
  refine it_V.at (pc1 := 41) (ls1 := [some (.ref 66), some (.int v1), some (.int v2), some (.int v3), some (.int v4), some (.int v5), some (.int u0), none, none]) (st1 := [(.int (m 94 (Int32.toNatClampNeg v1)))]) (mem1 := m) rfl rfl rfl rfl ?_
  refine it_V.sN it_cd340 it_m340 3 (pc1 := (if v3 = 0 then 47 else 72)) (ls1 := [some (.ref 66), some (.int v1), some (.int v2), some (.int v3), some (.int v4), some (.int v5), some (.int u0), some (.int (m 94 (Int32.toNatClampNeg v1))), none]) (st1 := []) (mem1 := m) rfl ?_
  refine it_V.ite (fun c2 => ?_) (fun c2 => ?_)
  · have h := h.1 c2
    refine it_V.sN it_cd340 it_m340 2 (pc1 := (if u0 = 0 then 52 else 72)) (ls1 := [some (.ref 66), some (.int v1), some (.int v2), some (.int v3), some (.int v4), some (.int v5), some (.int u0), some (.int (m 94 (Int32.toNatClampNeg v1))), none]) (st1 := []) (mem1 := m) rfl ?_
    refine it_V.ite (fun c3 => ?_) (fun c3 => ?_)
    · have h := h.1 c3
      refine it_V.sN it_cd340 it_m340 6 (pc1 := 60) (ls1 := [some (.ref 66), some (.int v1), some (.int v2), some (.int v3), some (.int v4), some (.int v5), some (.int u0), some (.int (m 94 (Int32.toNatClampNeg v1))), none]) (st1 := [(.int v4), (.int v1), (.ref 66), (.int v4), (.int v1), (.ref 66)]) (mem1 := m) rfl ?_
      refine it_V.call it_cd340 it_m340 rfl it_m318 [(.ref 66), (.int v1), (.int v4)] [(.int v4), (.int v1), (.ref 66)] rfl rfl ⟨Nat.le_of_ble_eq_true rfl, Nat.le_of_ble_eq_true rfl, Nat.le_of_ble_eq_true rfl, Nat.le_of_ble_eq_true rfl, rfl⟩ (s_318 kc v1 v4 m _ h) ?_
      rintro _ m5 ⟨r4, rfl, h⟩
      refine it_V.at (pc1 := 63) (ls1 := [some (.ref 66), some (.int v1), some (.int v2), some (.int v3), some (.int v4), some (.int v5), some (.int u0), some (.int (m 94 (Int32.toNatClampNeg v1))), none]) (st1 := [(.int r4), (.int v4), (.int v1), (.ref 66)]) (mem1 := m5) rfl rfl rfl rfl ?_
      refine it_V.sN it_cd340 it_m340 2 (pc1 := 66) (ls1 := [some (.ref 66), some (.int v1), some (.int v2), some (.int v3), some (.int v4), some (.int v5), some (.int u0), some (.int (m 94 (Int32.toNatClampNeg v1))), none]) (st1 := [(.int (it_shl r4 v5)), (.int v4), (.int v1), (.ref 66)]) (mem1 := m5) rfl ?_
      refine it_V.call it_cd340 it_m340 rfl it_m334 [(.ref 66), (.int v1), (.int v4), (.int (it_shl r4 v5))] [] rfl rfl ⟨Nat.le_of_ble_eq_true rfl, Nat.le_of_ble_eq_true rfl, Nat.le_of_ble_eq_true rfl, Nat.le_of_ble_eq_true rfl, rfl⟩ (s_334 kc v1 v4 (it_shl r4 v5) m5 _ h) ?_
      rintro _ m6 ⟨rfl, h⟩
      refine it_V.at (pc1 := 69) (ls1 := [some (.ref 66), some (.int v1), some (.int v2), some (.int v3), some (.int v4), some (.int v5), some (.int u0), some (.int (m 94 (Int32.toNatClampNeg v1))), none]) (st1 := []) (mem1 := m6) rfl rfl rfl rfl ?_
      refine it_V.sN it_cd340 it_m340 1 (pc1 := 300) (ls1 := [some (.ref 66), some (.int v1), some (.int v2), some (.int v3), some (.int v4), some (.int v5), some (.int u0), some (.int (m 94 (Int32.toNatClampNeg v1))), none]) (st1 := []) (mem1 := m6) rfl ?_
      refine it_V.weak (l := [none, none, none, none, none, none, none, none, none]) trivial ?_
      exact s_340_300 kc Φ m6 h
    · have h := h.2 c3
      refine it_V.weak (l := [some (.ref 66), some (.int v1), some (.int v2), some (.int v3), some (.int v4), some (.int v5), some (.int u0), some (.int (m 94 (Int32.toNatClampNeg v1))), none]) ⟨rfl, ⟨rfl, ⟨rfl, ⟨rfl, ⟨rfl, ⟨rfl, ⟨rfl, ⟨rfl, trivial⟩⟩⟩⟩⟩⟩⟩⟩ ?_
      exact s_340_72 kc Φ v1 v2 v3 v4 v5 u0 (m 94 (Int32.toNatClampNeg v1)) m h
  · have h := h.2 c2
    refine it_V.weak (l := [some (.ref 66), some (.int v1), some (.int v2), some (.int v3), some (.int v4), some (.int v5), some (.int u0), some (.int (m 94 (Int32.toNatClampNeg v1))), none]) ⟨rfl, ⟨rfl, ⟨rfl, ⟨rfl, ⟨rfl, ⟨rfl, ⟨rfl, ⟨rfl, trivial⟩⟩⟩⟩⟩⟩⟩⟩ ?_
    exact s_340_72 kc Φ v1 v2 v3 v4 v5 u0 (m 94 (Int32.toNatClampNeg v1)) m h
set_option maxRecDepth 100000 in
set_option maxHeartbeats 4000000 in
theorem s_340 (kc : it_Kc) (x0 : Int32) (x1 : Int32) (x2 : Int32) (m : it_Me) (Φ : it_Me → Prop) (h : w_340 kc x0 x1 x2 m Φ) : it_V kc it_sh0 340 0 (it_loc0 [(.ref 66), (.int x0), (.int x1), (.int x2)] 9) [] m (it_Pv Φ) := by
  rw [w_340] at h
  refine it_V.at (pc1 := 0) (ls1 := [some (.ref 66), some (.int x0), some (.int x1), some (.int x2), none, none, none, none, none]) (st1 := []) (mem1 := m) rfl rfl rfl rfl ?_
  refine it_V.sN it_cd340 it_m340 15 (pc1 := 21) (ls1 := [some (.ref 66), some (.int x0), some (.int x1), some (.int x2), some (.int ((it_us x1 (7 : Int32)) &&& (31 : Int32))), some (.int ((it_us x1 (2 : Int32)) &&& (31 : Int32))), none, none, none]) (st1 := [(.int (0 : Int32)), (.int (12 : Int32)), (.int x1)]) (mem1 := m) rfl ?_
  refine it_V.call it_cd340 it_m340 rfl it_m333 [(.int x1), (.int (12 : Int32)), (.int (0 : Int32))] [] rfl rfl ⟨Nat.le_of_ble_eq_true rfl, Nat.le_of_ble_eq_true rfl, Nat.le_of_ble_eq_true rfl, Nat.le_of_ble_eq_true rfl, rfl⟩ (s_333 kc x1 (12 : Int32) (0 : Int32) m _ h) ?_
  rintro _ m2 ⟨r1, rfl, h⟩
  refine it_V.at (pc1 := 24) (ls1 := [some (.ref 66), some (.int x0), some (.int x1), some (.int x2), some (.int ((it_us x1 (7 : Int32)) &&& (31 : Int32))), some (.int ((it_us x1 (2 : Int32)) &&& (31 : Int32))), none, none, none]) (st1 := [(.int r1)]) (mem1 := m2) rfl rfl rfl rfl ?_
  refine it_V.sN it_cd340 it_m340 2 (pc1 := (if r1 = (1 : Int32) then 28 else 32)) (ls1 := [some (.ref 66), some (.int x0), some (.int x1), some (.int x2), some (.int ((it_us x1 (7 : Int32)) &&& (31 : Int32))), some (.int ((it_us x1 (2 : Int32)) &&& (31 : Int32))), none, none, none]) (st1 := []) (mem1 := m2) rfl ?_
  refine it_V.ite (fun c3 => ?_) (fun c3 => ?_)
  · have h := h.1 c3
    refine it_V.sN it_cd340 it_m340 2 (pc1 := 33) (ls1 := [some (.ref 66), some (.int x0), some (.int x1), some (.int x2), some (.int ((it_us x1 (7 : Int32)) &&& (31 : Int32))), some (.int ((it_us x1 (2 : Int32)) &&& (31 : Int32))), none, none, none]) (st1 := [(.int (1 : Int32))]) (mem1 := m2) rfl ?_
    exact s_340_33 kc Φ x0 x1 x2 ((it_us x1 (7 : Int32)) &&& (31 : Int32)) ((it_us x1 (2 : Int32)) &&& (31 : Int32)) (1 : Int32) m2 h
  · have h := h.2 c3
    refine it_V.sN it_cd340 it_m340 1 (pc1 := 33) (ls1 := [some (.ref 66), some (.int x0), some (.int x1), some (.int x2), some (.int ((it_us x1 (7 : Int32)) &&& (31 : Int32))), some (.int ((it_us x1 (2 : Int32)) &&& (31 : Int32))), none, none, none]) (st1 := [(.int (0 : Int32))]) (mem1 := m2) rfl ?_
    exact s_340_33 kc Φ x0 x1 x2 ((it_us x1 (7 : Int32)) &&& (31 : Int32)) ((it_us x1 (2 : Int32)) &&& (31 : Int32)) (0 : Int32) m2 h
set_option maxRecDepth 100000 in
set_option maxHeartbeats 4000000 in
theorem s_336_63 (kc : it_Kc) (Φ : it_Me → Prop) (m : it_Me) (h : w_336_63 kc Φ m) : it_V kc it_sh0 336 63 [none, none, none, none] [] m (it_Pv Φ) := by
  rw [w_336_63] at h
  exact it_V.ret it_cd336 it_m336 rfl rfl ⟨rfl, h⟩
set_option maxRecDepth 100000 in
set_option maxHeartbeats 4000000 in
theorem s_336 (kc : it_Kc) (x0 : Int32) (x1 : Int32) (m : it_Me) (Φ : it_Me → Prop) (h : w_336 kc x0 x1 m Φ) : it_V kc it_sh0 336 0 (it_loc0 [(.ref 66), (.int x0), (.int x1)] 4) [] m (it_Pv Φ) := by
  rw [w_336] at h
  refine it_V.at (pc1 := 0) (ls1 := [some (.ref 66), some (.int x0), some (.int x1), none]) (st1 := []) (mem1 := m) rfl rfl rfl rfl ?_
  refine it_V.sN it_cd336 it_m336 7 (pc1 := 8) (ls1 := [some (.ref 66), some (.int x0), some (.int x1), some (.int (it_us x1 (13 : Int32)))]) (st1 := [(.int (x1 &&& (3 : Int32)))]) (mem1 := m) rfl ?_
  refine it_V.sN it_cd336 it_m336 1 (pc1 := (if (x1 &&& (3 : Int32)) = (0 : Int32) then 36 else (if (x1 &&& (3 : Int32)) = (1 : Int32) then 46 else 56))) (ls1 := [some (.ref 66), some (.int x0), some (.int x1), some (.int (it_us x1 (13 : Int32)))]) (st1 := []) (mem1 := m) rfl ?_
  refine it_V.ite (fun c1 => ?_) (fun c1 => ?_)
  · have h := h.1 c1
    refine it_V.sN it_cd336 it_m336 4 (pc1 := 40) (ls1 := [some (.ref 66), some (.int x0), some (.int x1), some (.int (it_us x1 (13 : Int32)))]) (st1 := [(.int (it_us x1 (13 : Int32))), (.int x1), (.int x0), (.ref 66)]) (mem1 := m) rfl ?_
    refine it_V.call it_cd336 it_m336 rfl it_m337 [(.ref 66), (.int x0), (.int x1), (.int (it_us x1 (13 : Int32)))] [] rfl rfl ⟨Nat.le_of_ble_eq_true rfl, Nat.le_of_ble_eq_true rfl, Nat.le_of_ble_eq_true rfl, Nat.le_of_ble_eq_true rfl, rfl⟩ (s_337 kc x0 x1 (it_us x1 (13 : Int32)) m _ h) ?_
    rintro _ m2 ⟨rfl, h⟩
    refine it_V.at (pc1 := 43) (ls1 := [some (.ref 66), some (.int x0), some (.int x1), some (.int (it_us x1 (13 : Int32)))]) (st1 := []) (mem1 := m2) rfl rfl rfl rfl ?_
    refine it_V.sN it_cd336 it_m336 1 (pc1 := 63) (ls1 := [some (.ref 66), some (.int x0), some (.int x1), some (.int (it_us x1 (13 : Int32)))]) (st1 := []) (mem1 := m2) rfl ?_
    refine it_V.weak (l := [none, none, none, none]) trivial ?_
    exact s_336_63 kc Φ m2 h
  · have h := h.2 c1
    refine it_V.ite (fun c3 => ?_) (fun c3 => ?_)
    · have h := h.1 c3
      refine it_V.sN it_cd336 it_m336 4 (pc1 := 50) (ls1 := [some (.ref 66), some (.int x0), some (.int x1), some (.int (it_us x1 (13 : Int32)))]) (st1 := [(.int (it_us x1 (13 : Int32))), (.int x1), (.int x0), (.ref 66)]) (mem1 := m) rfl ?_
      refine it_V.call it_cd336 it_m336 rfl it_m338 [(.ref 66), (.int x0), (.int x1), (.int (it_us x1 (13 : Int32)))] [] rfl rfl ⟨Nat.le_of_ble_eq_true rfl, Nat.le_of_ble_eq_true rfl, Nat.le_of_ble_eq_true rfl, Nat.le_of_ble_eq_true rfl, rfl⟩ (s_338 kc x0 x1 (it_us x1 (13 : Int32)) m _ h) ?_
      rintro _ m4 ⟨rfl, h⟩
      refine it_V.at (pc1 := 53) (ls1 := [some (.ref 66), some (.int x0), some (.int x1), some (.int (it_us x1 (13 : Int32)))]) (st1 := []) (mem1 := m4) rfl rfl rfl rfl ?_
      refine it_V.sN it_cd336 it_m336 1 (pc1 := 63) (ls1 := [some (.ref 66), some (.int x0), some (.int x1), some (.int (it_us x1 (13 : Int32)))]) (st1 := []) (mem1 := m4) rfl ?_
      refine it_V.weak (l := [none, none, none, none]) trivial ?_
      exact s_336_63 kc Φ m4 h
    · have h := h.2 c3
      refine it_V.sN it_cd336 it_m336 4 (pc1 := 60) (ls1 := [some (.ref 66), some (.int x0), some (.int x1), some (.int (it_us x1 (13 : Int32)))]) (st1 := [(.int (it_us x1 (13 : Int32))), (.int x1), (.int x0), (.ref 66)]) (mem1 := m) rfl ?_
      refine it_V.call it_cd336 it_m336 rfl it_m340 [(.ref 66), (.int x0), (.int x1), (.int (it_us x1 (13 : Int32)))] [] rfl rfl ⟨Nat.le_of_ble_eq_true rfl, Nat.le_of_ble_eq_true rfl, Nat.le_of_ble_eq_true rfl, Nat.le_of_ble_eq_true rfl, rfl⟩ (s_340 kc x0 x1 (it_us x1 (13 : Int32)) m _ h) ?_
      rintro _ m5 ⟨rfl, h⟩
      refine it_V.at (pc1 := 63) (ls1 := [some (.ref 66), some (.int x0), some (.int x1), some (.int (it_us x1 (13 : Int32)))]) (st1 := []) (mem1 := m5) rfl rfl rfl rfl ?_
      refine it_V.weak (l := [none, none, none, none]) trivial ?_
      exact s_336_63 kc Φ m5 h
