/-! The formulas are sound for the small machine. Written by wip/whole/gen_wp.py, split_wp.py -/
set_option maxRecDepth 100000 in
set_option maxHeartbeats 4000000 in
theorem s_306_82 (kc : it_Kc) (Φ : Int32 → it_Me → Prop) (K40 : Int32 → Int32 → Int32 → Int32 → Int32 → it_Me → Prop) (K90 : Int32 → Int32 → Int32 → Int32 → it_Me → Prop) (hK40 : ∀ (v1 : Int32) (v2 : Int32) (v3 : Int32) (v4 : Int32) (v5 : Int32) (m : it_Me), K40 v1 v2 v3 v4 v5 m → it_V kc it_sh0 306 40 [some (.ref 66), some (.int v1), some (.int v2), some (.int v3), some (.int v4), some (.int v5)] [] m (it_Pi Φ)) (hK90 : ∀ (v1 : Int32) (v2 : Int32) (v3 : Int32) (v4 : Int32) (m : it_Me), K90 v1 v2 v3 v4 m → it_V kc it_sh0 306 90 [some (.ref 66), some (.int v1), some (.int v2), some (.int v3), some (.int v4), none] [] m (it_Pi Φ)) (v1 : Int32) (v2 : Int32) (v3 : Int32) (v5 : Int32) (u0 : Int32) (m : it_Me) (h : w_306_82 kc Φ K40 K90 v1 v2 v3 v5 u0 m) : it_V kc it_sh0 306 82 [some (.ref 66), some (.int v1), some (.int v2), some (.int v3), none, some (.int v5)] [(.int u0)] m (it_Pi Φ) := by
  rw [w_306_82] at h
  refine it_V.sN it_cd306 it_m306 3 (pc1 := 40) (ls1 := [some (.ref 66), some (.int v1), some (.int v2), some (.int v3), some (.int u0), some (.int (v5 + (1 : Int32)))]) (st1 := []) (mem1 := m) rfl ?_
  exact hK40 v1 v2 v3 u0 (v5 + (1 : Int32)) m h
set_option maxRecDepth 100000 in
set_option maxHeartbeats 4000000 in
theorem s_306_40 (kc : it_Kc) (Φ : Int32 → it_Me → Prop) (K90 : Int32 → Int32 → Int32 → Int32 → it_Me → Prop) (hK90 : ∀ (v1 : Int32) (v2 : Int32) (v3 : Int32) (v4 : Int32) (m : it_Me), K90 v1 v2 v3 v4 m → it_V kc it_sh0 306 90 [some (.ref 66), some (.int v1), some (.int v2), some (.int v3), some (.int v4), none] [] m (it_Pi Φ)) : ∀ (n : Nat) (v1 : Int32) (v2 : Int32) (v3 : Int32) (v4 : Int32) (v5 : Int32) (m : it_Me) (h : w_306_40 kc Φ K90 n v1 v2 v3 v4 v5 m), it_V kc it_sh0 306 40 [some (.ref 66), some (.int v1), some (.int v2), some (.int v3), some (.int v4), some (.int v5)] [] m (it_Pi Φ) := by
  intro n
  induction n with
  | zero => intro v1 v2 v3 v4 v5 m h; exact absurd h id
  | succ n ih =>
    intro v1 v2 v3 v4 v5 m h
    rw [w_306_40] at h
    refine it_V.sN it_cd306 it_m306 3 (pc1 := (if v2 ≤ v5 then 90 else 46)) (ls1 := [some (.ref 66), some (.int v1), some (.int v2), some (.int v3), some (.int v4), some (.int v5)]) (st1 := []) (mem1 := m) rfl ?_
    refine it_V.ite (fun c1 => ?_) (fun c1 => ?_)
    · have h := h.1 c1
      refine it_V.weak (l := [some (.ref 66), some (.int v1), some (.int v2), some (.int v3), some (.int v4), none]) ⟨rfl, ⟨rfl, ⟨rfl, ⟨rfl, ⟨rfl, trivial⟩⟩⟩⟩⟩ ?_
      exact hK90 v1 v2 v3 v4 m h
    · have h := h.2 c1
      refine it_V.sN it_cd306 it_m306 2 (pc1 := (if v4 = 0 then 90 else 51)) (ls1 := [some (.ref 66), some (.int v1), some (.int v2), some (.int v3), some (.int v4), some (.int v5)]) (st1 := []) (mem1 := m) rfl ?_
      refine it_V.ite (fun c2 => ?_) (fun c2 => ?_)
      · have h := h.1 c2
        refine it_V.weak (l := [some (.ref 66), some (.int v1), some (.int v2), some (.int v3), some (.int v4), none]) ⟨rfl, ⟨rfl, ⟨rfl, ⟨rfl, ⟨rfl, trivial⟩⟩⟩⟩⟩ ?_
        exact hK90 v1 v2 v3 v4 m h
      · have h := h.2 c2
        refine it_V.sN it_cd306 it_m306 5 (pc1 := 60) (ls1 := [some (.ref 66), some (.int v1), some (.int v2), some (.int v3), some (.int v4), some (.int v5)]) (st1 := [(.int v3), (.ref 84), (.ref 67)]) (mem1 := m) rfl ?_
        obtain ⟨g3, h⟩ := h
        refine it_V.iald it_cd306 it_m306 rfl ((⟨rfl, by decide⟩ : it_isR 84 8)).2 ((⟨rfl, by decide⟩ : it_isR 84 8)).1 g3 ?_
        refine it_V.at (pc1 := 61) (ls1 := [some (.ref 66), some (.int v1), some (.int v2), some (.int v3), some (.int v4), some (.int v5)]) (st1 := [(.int (m 84 (Int32.toNatClampNeg v3))), (.ref 67)]) (mem1 := m) rfl rfl rfl rfl ?_
        refine it_V.sN it_cd306 it_m306 2 (pc1 := 64) (ls1 := [some (.ref 66), some (.int v1), some (.int v2), some (.int v3), some (.int v4), some (.int v5)]) (st1 := [(.int ((m 84 (Int32.toNatClampNeg v3)) + v5)), (.ref 67)]) (mem1 := m) rfl ?_
        obtain ⟨g4, h⟩ := h
        refine it_V.bald (t := 1) (n := 196608) it_cd306 it_m306 rfl rfl (by decide) g4 ?_
        refine it_V.at (pc1 := 65) (ls1 := [some (.ref 66), some (.int v1), some (.int v2), some (.int v3), some (.int v4), some (.int v5)]) (st1 := [(.int (m 67 (Int32.toNatClampNeg ((m 84 (Int32.toNatClampNeg v3)) + v5))))]) (mem1 := m) rfl rfl rfl rfl ?_
        refine it_V.sN it_cd306 it_m306 5 (pc1 := 73) (ls1 := [some (.ref 66), some (.int v1), some (.int v2), some (.int v3), some (.int v4), some (.int v5)]) (st1 := [(.int (v1 + v5)), (.ref 67), (.int (m 67 (Int32.toNatClampNeg ((m 84 (Int32.toNatClampNeg v3)) + v5))))]) (mem1 := m) rfl ?_
        obtain ⟨g5, h⟩ := h
        refine it_V.bald (t := 1) (n := 196608) it_cd306 it_m306 rfl rfl (by decide) g5 ?_
        refine it_V.at (pc1 := 74) (ls1 := [some (.ref 66), some (.int v1), some (.int v2), some (.int v3), some (.int v4), some (.int v5)]) (st1 := [(.int (m 67 (Int32.toNatClampNeg (v1 + v5)))), (.int (m 67 (Int32.toNatClampNeg ((m 84 (Int32.toNatClampNeg v3)) + v5))))]) (mem1 := m) rfl rfl rfl rfl ?_
        refine it_V.sN it_cd306 it_m306 1 (pc1 := (if (m 67 (Int32.toNatClampNeg ((m 84 (Int32.toNatClampNeg v3)) + v5))) = (m 67 (Int32.toNatClampNeg (v1 + v5))) then 77 else 81)) (ls1 := [some (.ref 66), some (.int v1), some (.int v2), some (.int v3), some (.int v4), some (.int v5)]) (st1 := []) (mem1 := m) rfl ?_
        refine it_V.ite (fun c6 => ?_) (fun c6 => ?_)
        · have h := h.1 c6
          refine it_V.sN it_cd306 it_m306 2 (pc1 := 82) (ls1 := [some (.ref 66), some (.int v1), some (.int v2), some (.int v3), some (.int v4), some (.int v5)]) (st1 := [(.int (1 : Int32))]) (mem1 := m) rfl ?_
          refine it_V.weak (l := [some (.ref 66), some (.int v1), some (.int v2), some (.int v3), none, some (.int v5)]) ⟨rfl, ⟨rfl, ⟨rfl, ⟨rfl, ⟨rfl, trivial⟩⟩⟩⟩⟩ ?_
          exact s_306_82 kc Φ _ _ ih hK90 v1 v2 v3 v5 (1 : Int32) m h
        · have h := h.2 c6
          refine it_V.sN it_cd306 it_m306 1 (pc1 := 82) (ls1 := [some (.ref 66), some (.int v1), some (.int v2), some (.int v3), some (.int v4), some (.int v5)]) (st1 := [(.int (0 : Int32))]) (mem1 := m) rfl ?_
          refine it_V.weak (l := [some (.ref 66), some (.int v1), some (.int v2), some (.int v3), none, some (.int v5)]) ⟨rfl, ⟨rfl, ⟨rfl, ⟨rfl, ⟨rfl, trivial⟩⟩⟩⟩⟩ ?_
          exact s_306_82 kc Φ _ _ ih hK90 v1 v2 v3 v5 (0 : Int32) m h
set_option maxRecDepth 100000 in
set_option maxHeartbeats 4000000 in
theorem s_306_90 (kc : it_Kc) (Φ : Int32 → it_Me → Prop) (K2 : Int32 → Int32 → Int32 → it_Me → Prop) (K95 : Int32 → it_Me → Prop) (K103 : it_Me → Prop) (hK2 : ∀ (v1 : Int32) (v2 : Int32) (v3 : Int32) (m : it_Me), K2 v1 v2 v3 m → it_V kc it_sh0 306 2 [some (.ref 66), some (.int v1), some (.int v2), some (.int v3), none, none] [] m (it_Pi Φ)) (hK95 : ∀ (v3 : Int32) (m : it_Me), K95 v3 m → it_V kc it_sh0 306 95 [none, none, none, some (.int v3), none, none] [] m (it_Pi Φ)) (hK103 : ∀ (m : it_Me), K103 m → it_V kc it_sh0 306 103 [none, none, none, none, none, none] [] m (it_Pi Φ)) (v1 : Int32) (v2 : Int32) (v3 : Int32) (v4 : Int32) (m : it_Me) (h : w_306_90 kc Φ K2 K95 K103 v1 v2 v3 v4 m) : it_V kc it_sh0 306 90 [some (.ref 66), some (.int v1), some (.int v2), some (.int v3), some (.int v4), none] [] m (it_Pi Φ) := by
  rw [w_306_90] at h
  refine it_V.sN it_cd306 it_m306 2 (pc1 := (if v4 = 0 then 97 else 95)) (ls1 := [some (.ref 66), some (.int v1), some (.int v2), some (.int v3), some (.int v4), none]) (st1 := []) (mem1 := m) rfl ?_
  refine it_V.ite (fun c1 => ?_) (fun c1 => ?_)
  · have h := h.1 c1
    refine it_V.sN it_cd306 it_m306 2 (pc1 := 2) (ls1 := [some (.ref 66), some (.int v1), some (.int v2), some (.int (v3 + (1 : Int32))), some (.int v4), none]) (st1 := []) (mem1 := m) rfl ?_
    refine it_V.weak (l := [some (.ref 66), some (.int v1), some (.int v2), some (.int (v3 + (1 : Int32))), none, none]) ⟨rfl, ⟨rfl, ⟨rfl, ⟨rfl, trivial⟩⟩⟩⟩ ?_
    exact hK2 v1 v2 (v3 + (1 : Int32)) m h
  · have h := h.2 c1
    refine it_V.weak (l := [none, none, none, some (.int v3), none, none]) ⟨rfl, trivial⟩ ?_
    exact hK95 v3 m h
set_option maxRecDepth 100000 in
set_option maxHeartbeats 4000000 in
theorem s_306_35 (kc : it_Kc) (Φ : Int32 → it_Me → Prop) (K2 : Int32 → Int32 → Int32 → it_Me → Prop) (K95 : Int32 → it_Me → Prop) (K103 : it_Me → Prop) (hK2 : ∀ (v1 : Int32) (v2 : Int32) (v3 : Int32) (m : it_Me), K2 v1 v2 v3 m → it_V kc it_sh0 306 2 [some (.ref 66), some (.int v1), some (.int v2), some (.int v3), none, none] [] m (it_Pi Φ)) (hK95 : ∀ (v3 : Int32) (m : it_Me), K95 v3 m → it_V kc it_sh0 306 95 [none, none, none, some (.int v3), none, none] [] m (it_Pi Φ)) (hK103 : ∀ (m : it_Me), K103 m → it_V kc it_sh0 306 103 [none, none, none, none, none, none] [] m (it_Pi Φ)) (v1 : Int32) (v2 : Int32) (v3 : Int32) (u0 : Int32) (m : it_Me) (h : w_306_35 kc Φ K2 K95 K103 v1 v2 v3 u0 m) : it_V kc it_sh0 306 35 [some (.ref 66), some (.int v1), some (.int v2), some (.int v3), none, none] [(.int u0)] m (it_Pi Φ) := by
  rw [w_306_35] at h
  refine it_V.sN it_cd306 it_m306 3 (pc1 := 40) (ls1 := [some (.ref 66), some (.int v1), some (.int v2), some (.int v3), some (.int u0), some (.int (0 : Int32))]) (st1 := []) (mem1 := m) rfl ?_
  obtain ⟨n, h⟩ := h
  exact s_306_40 kc Φ _ (fun v1 v2 v3 v4 m h => s_306_90 kc Φ _ _ _ hK2 hK95 hK103 v1 v2 v3 v4 m h) n v1 v2 v3 u0 (0 : Int32) m h
set_option maxRecDepth 100000 in
set_option maxHeartbeats 4000000 in
theorem s_306_34 (kc : it_Kc) (Φ : Int32 → it_Me → Prop) (K2 : Int32 → Int32 → Int32 → it_Me → Prop) (K95 : Int32 → it_Me → Prop) (K103 : it_Me → Prop) (hK2 : ∀ (v1 : Int32) (v2 : Int32) (v3 : Int32) (m : it_Me), K2 v1 v2 v3 m → it_V kc it_sh0 306 2 [some (.ref 66), some (.int v1), some (.int v2), some (.int v3), none, none] [] m (it_Pi Φ)) (hK95 : ∀ (v3 : Int32) (m : it_Me), K95 v3 m → it_V kc it_sh0 306 95 [none, none, none, some (.int v3), none, none] [] m (it_Pi Φ)) (hK103 : ∀ (m : it_Me), K103 m → it_V kc it_sh0 306 103 [none, none, none, none, none, none] [] m (it_Pi Φ)) (v1 : Int32) (v2 : Int32) (v3 : Int32) (m : it_Me) (h : w_306_34 kc Φ K2 K95 K103 v1 v2 v3 m) : it_V kc it_sh0 306 34 [some (.ref 66), some (.int v1), some (.int v2), some (.int v3), none, none] [] m (it_Pi Φ) := by
  rw [w_306_34] at h
  refine it_V.sN it_cd306 it_m306 1 (pc1 := 35) (ls1 := [some (.ref 66), some (.int v1), some (.int v2), some (.int v3), none, none]) (st1 := [(.int (0 : Int32))]) (mem1 := m) rfl ?_
  refine it_V.weak (l := [some (.ref 66), some (.int v1), some (.int v2), some (.int v3), none, none]) ⟨rfl, ⟨rfl, ⟨rfl, ⟨rfl, trivial⟩⟩⟩⟩ ?_
  exact s_306_35 kc Φ _ _ _ hK2 hK95 hK103 v1 v2 v3 (0 : Int32) m h
set_option maxRecDepth 100000 in
set_option maxHeartbeats 4000000 in
theorem s_306_2 (kc : it_Kc) (Φ : Int32 → it_Me → Prop) (K95 : Int32 → it_Me → Prop) (K103 : it_Me → Prop) (hK95 : ∀ (v3 : Int32) (m : it_Me), K95 v3 m → it_V kc it_sh0 306 95 [none, none, none, some (.int v3), none, none] [] m (it_Pi Φ)) (hK103 : ∀ (m : it_Me), K103 m → it_V kc it_sh0 306 103 [none, none, none, none, none, none] [] m (it_Pi Φ)) : ∀ (n : Nat) (v1 : Int32) (v2 : Int32) (v3 : Int32) (m : it_Me) (h : w_306_2 kc Φ K95 K103 n v1 v2 v3 m), it_V kc it_sh0 306 2 [some (.ref 66), some (.int v1), some (.int v2), some (.int v3), none, none] [] m (it_Pi Φ) := by
  intro n
  induction n with
  | zero => intro v1 v2 v3 m h; exact absurd h id
  | succ n ih =>
    intro v1 v2 v3 m h
    rw [w_306_2] at h
    refine it_V.sN it_cd306 it_m306 4 (pc1 := (if (m 66 34) ≤ v3 then 103 else 10)) (ls1 := [some (.ref 66), some (.int v1), some (.int v2), some (.int v3), none, none]) (st1 := []) (mem1 := m) rfl ?_
    refine it_V.ite (fun c1 => ?_) (fun c1 => ?_)
    · have h := h.1 c1
      refine it_V.weak (l := [none, none, none, none, none, none]) trivial ?_
      exact hK103 m h
    · have h := h.2 c1
      refine it_V.sN it_cd306 it_m306 3 (pc1 := 15) (ls1 := [some (.ref 66), some (.int v1), some (.int v2), some (.int v3), none, none]) (st1 := [(.int v3), (.ref 84)]) (mem1 := m) rfl ?_
      obtain ⟨g2, h⟩ := h
      refine it_V.iald it_cd306 it_m306 rfl ((⟨rfl, by decide⟩ : it_isR 84 8)).2 ((⟨rfl, by decide⟩ : it_isR 84 8)).1 g2 ?_
      refine it_V.at (pc1 := 16) (ls1 := [some (.ref 66), some (.int v1), some (.int v2), some (.int v3), none, none]) (st1 := [(.int (m 84 (Int32.toNatClampNeg v3)))]) (mem1 := m) rfl rfl rfl rfl ?_
      refine it_V.sN it_cd306 it_m306 2 (pc1 := (if (m 84 (Int32.toNatClampNeg v3)) = (-1 : Int32) then 34 else 20)) (ls1 := [some (.ref 66), some (.int v1), some (.int v2), some (.int v3), none, none]) (st1 := []) (mem1 := m) rfl ?_
      refine it_V.ite (fun c3 => ?_) (fun c3 => ?_)
      · have h := h.1 c3
        refine it_V.weak (l := [some (.ref 66), some (.int v1), some (.int v2), some (.int v3), none, none]) ⟨rfl, ⟨rfl, ⟨rfl, ⟨rfl, trivial⟩⟩⟩⟩ ?_
        exact s_306_34 kc Φ _ _ _ ih hK95 hK103 v1 v2 v3 m h
      · have h := h.2 c3
        refine it_V.sN it_cd306 it_m306 3 (pc1 := 25) (ls1 := [some (.ref 66), some (.int v1), some (.int v2), some (.int v3), none, none]) (st1 := [(.int v3), (.ref 85)]) (mem1 := m) rfl ?_
        obtain ⟨g4, h⟩ := h
        refine it_V.iald it_cd306 it_m306 rfl ((⟨rfl, by decide⟩ : it_isR 85 8)).2 ((⟨rfl, by decide⟩ : it_isR 85 8)).1 g4 ?_
        refine it_V.at (pc1 := 26) (ls1 := [some (.ref 66), some (.int v1), some (.int v2), some (.int v3), none, none]) (st1 := [(.int (m 85 (Int32.toNatClampNeg v3)))]) (mem1 := m) rfl rfl rfl rfl ?_
        refine it_V.sN it_cd306 it_m306 2 (pc1 := (if (m 85 (Int32.toNatClampNeg v3)) = v2 then 30 else 34)) (ls1 := [some (.ref 66), some (.int v1), some (.int v2), some (.int v3), none, none]) (st1 := []) (mem1 := m) rfl ?_
        refine it_V.ite (fun c5 => ?_) (fun c5 => ?_)
        · have h := h.1 c5
          refine it_V.sN it_cd306 it_m306 2 (pc1 := 35) (ls1 := [some (.ref 66), some (.int v1), some (.int v2), some (.int v3), none, none]) (st1 := [(.int (1 : Int32))]) (mem1 := m) rfl ?_
          refine it_V.weak (l := [some (.ref 66), some (.int v1), some (.int v2), some (.int v3), none, none]) ⟨rfl, ⟨rfl, ⟨rfl, ⟨rfl, trivial⟩⟩⟩⟩ ?_
          exact s_306_35 kc Φ _ _ _ ih hK95 hK103 v1 v2 v3 (1 : Int32) m h
        · have h := h.2 c5
          refine it_V.weak (l := [some (.ref 66), some (.int v1), some (.int v2), some (.int v3), none, none]) ⟨rfl, ⟨rfl, ⟨rfl, ⟨rfl, trivial⟩⟩⟩⟩ ?_
          exact s_306_34 kc Φ _ _ _ ih hK95 hK103 v1 v2 v3 m h
set_option maxRecDepth 100000 in
set_option maxHeartbeats 4000000 in
theorem s_306_95 (kc : it_Kc) (Φ : Int32 → it_Me → Prop) (v3 : Int32) (m : it_Me) (h : w_306_95 kc Φ v3 m) : it_V kc it_sh0 306 95 [none, none, none, some (.int v3), none, none] [] m (it_Pi Φ) := by
  rw [w_306_95] at h
  refine it_V.sN it_cd306 it_m306 1 (pc1 := 96) (ls1 := [none, none, none, some (.int v3), none, none]) (st1 := [(.int v3)]) (mem1 := m) rfl ?_
  exact it_V.ret it_cd306 it_m306 rfl rfl ⟨_, rfl, h⟩
set_option maxRecDepth 100000 in
set_option maxHeartbeats 4000000 in
theorem s_306_103 (kc : it_Kc) (Φ : Int32 → it_Me → Prop) (m : it_Me) (h : w_306_103 kc Φ m) : it_V kc it_sh0 306 103 [none, none, none, none, none, none] [] m (it_Pi Φ) := by
  rw [w_306_103] at h
  refine it_V.sN it_cd306 it_m306 1 (pc1 := 104) (ls1 := [none, none, none, none, none, none]) (st1 := [(.int (-1 : Int32))]) (mem1 := m) rfl ?_
  exact it_V.ret it_cd306 it_m306 rfl rfl ⟨_, rfl, h⟩
set_option maxRecDepth 100000 in
set_option maxHeartbeats 4000000 in
theorem s_306 (kc : it_Kc) (x0 : Int32) (x1 : Int32) (m : it_Me) (Φ : Int32 → it_Me → Prop) (h : w_306 kc x0 x1 m Φ) : it_V kc it_sh0 306 0 (it_loc0 [(.ref 66), (.int x0), (.int x1)] 6) [] m (it_Pi Φ) := by
  rw [w_306] at h
  refine it_V.at (pc1 := 0) (ls1 := [some (.ref 66), some (.int x0), some (.int x1), none, none, none]) (st1 := []) (mem1 := m) rfl rfl rfl rfl ?_
  refine it_V.sN it_cd306 it_m306 2 (pc1 := 2) (ls1 := [some (.ref 66), some (.int x0), some (.int x1), some (.int (0 : Int32)), none, none]) (st1 := []) (mem1 := m) rfl ?_
  obtain ⟨n, h⟩ := h
  exact s_306_2 kc Φ _ _ (fun v3 m h => s_306_95 kc Φ v3 m h) (fun m h => s_306_103 kc Φ m h) n x0 x1 (0 : Int32) m h
set_option maxRecDepth 100000 in
set_option maxHeartbeats 4000000 in
theorem s_307_183 (kc : it_Kc) (Φ : it_Me → Prop) (K216 : Int32 → Int32 → Int32 → Int32 → it_Me → Prop) (hK216 : ∀ (v1 : Int32) (v3 : Int32) (v5 : Int32) (v6 : Int32) (m : it_Me), K216 v1 v3 v5 v6 m → it_V kc it_sh0 307 216 [some (.ref 66), some (.int v1), none, some (.int v3), none, some (.int v5), some (.int v6), none, none, none] [] m (it_Pv Φ)) : ∀ (n : Nat) (v1 : Int32) (v3 : Int32) (v5 : Int32) (v6 : Int32) (v7 : Int32) (v8 : Int32) (v9 : Int32) (m : it_Me) (h : w_307_183 kc Φ K216 n v1 v3 v5 v6 v7 v8 v9 m), it_V kc it_sh0 307 183 [some (.ref 66), some (.int v1), none, some (.int v3), none, some (.int v5), some (.int v6), some (.int v7), some (.int v8), some (.int v9)] [] m (it_Pv Φ) := by
  intro n
  induction n with
  | zero => intro v1 v3 v5 v6 v7 v8 v9 m h; exact absurd h id
  | succ n ih =>
    intro v1 v3 v5 v6 v7 v8 v9 m h
    rw [w_307_183] at h
    refine it_V.sN it_cd307 it_m307 3 (pc1 := (if v6 ≤ v9 then 216 else 190)) (ls1 := [some (.ref 66), some (.int v1), none, some (.int v3), none, some (.int v5), some (.int v6), some (.int v7), some (.int v8), some (.int v9)]) (st1 := []) (mem1 := m) rfl ?_
    refine it_V.ite (fun c1 => ?_) (fun c1 => ?_)
    · have h := h.1 c1
      refine it_V.weak (l := [some (.ref 66), some (.int v1), none, some (.int v3), none, some (.int v5), some (.int v6), none, none, none]) ⟨rfl, ⟨rfl, ⟨rfl, ⟨rfl, ⟨rfl, trivial⟩⟩⟩⟩⟩ ?_
      exact hK216 v1 v3 v5 v6 m h
    · have h := h.2 c1
      refine it_V.sN it_cd307 it_m307 10 (pc1 := 208) (ls1 := [some (.ref 66), some (.int v1), none, some (.int v3), none, some (.int v5), some (.int v6), some (.int v7), some (.int v8), some (.int v9)]) (st1 := [(.int (v7 + v9)), (.ref 67), (.int (v8 + v9)), (.ref 67)]) (mem1 := m) rfl ?_
      obtain ⟨g2, h⟩ := h
      refine it_V.bald (t := 1) (n := 196608) it_cd307 it_m307 rfl rfl (by decide) g2 ?_
      refine it_V.at (pc1 := 209) (ls1 := [some (.ref 66), some (.int v1), none, some (.int v3), none, some (.int v5), some (.int v6), some (.int v7), some (.int v8), some (.int v9)]) (st1 := [(.int (m 67 (Int32.toNatClampNeg (v7 + v9)))), (.int (v8 + v9)), (.ref 67)]) (mem1 := m) rfl rfl rfl rfl ?_
      obtain ⟨g3, h⟩ := h
      refine it_V.bast (n := 196608) it_cd307 it_m307 rfl rfl g3 ?_
      refine it_V.at (pc1 := 210) (ls1 := [some (.ref 66), some (.int v1), none, some (.int v3), none, some (.int v5), some (.int v6), some (.int v7), some (.int v8), some (.int v9)]) (st1 := []) (mem1 := (it_sv m 67 (Int32.toNatClampNeg (v8 + v9)) (it_i2b (m 67 (Int32.toNatClampNeg (v7 + v9)))))) rfl rfl rfl rfl ?_
      refine it_V.sN it_cd307 it_m307 2 (pc1 := 183) (ls1 := [some (.ref 66), some (.int v1), none, some (.int v3), none, some (.int v5), some (.int v6), some (.int v7), some (.int v8), some (.int (v9 + (1 : Int32)))]) (st1 := []) (mem1 := (it_sv m 67 (Int32.toNatClampNeg (v8 + v9)) (it_i2b (m 67 (Int32.toNatClampNeg (v7 + v9)))))) rfl ?_
      refine it_V.weak (l := [some (.ref 66), some (.int v1), none, some (.int v3), none, some (.int v5), some (.int v6), some (.int v7), some (.int v8), some (.int (v9 + (1 : Int32)))]) ⟨rfl, ⟨rfl, ⟨rfl, ⟨rfl, ⟨rfl, ⟨rfl, ⟨rfl, ⟨rfl, trivial⟩⟩⟩⟩⟩⟩⟩⟩ ?_
      exact ih v1 v3 v5 v6 v7 v8 (v9 + (1 : Int32)) (it_sv m 67 (Int32.toNatClampNeg (v8 + v9)) (it_i2b (m 67 (Int32.toNatClampNeg (v7 + v9))))) h
set_option maxRecDepth 100000 in
set_option maxHeartbeats 4000000 in
theorem s_307_247 (kc : it_Kc) (Φ : it_Me → Prop) (m : it_Me) (h : w_307_247 kc Φ m) : it_V kc it_sh0 307 247 [none, none, none, none, none, none, none, none, none, none] [] m (it_Pv Φ) := by
  rw [w_307_247] at h
  exact it_V.ret it_cd307 it_m307 rfl rfl ⟨rfl, h⟩
set_option maxRecDepth 100000 in
set_option maxHeartbeats 4000000 in
theorem s_307_64 (kc : it_Kc) (Φ : it_Me → Prop) (v1 : Int32) (m : it_Me) (h : w_307_64 kc Φ v1 m) : it_V kc it_sh0 307 64 [some (.ref 66), some (.int v1), none, none, none, none, none, none, none, none] [] m (it_Pv Φ) := by
  rw [w_307_64] at h
  refine it_V.sN it_cd307 it_m307 3 (pc1 := 68) (ls1 := [some (.ref 66), some (.int v1), none, none, none, none, none, none, none, none]) (st1 := [(.int (11 : Int32)), (.int v1), (.ref 66)]) (mem1 := m) rfl ?_
  refine it_V.call it_cd307 it_m307 rfl it_m282 [(.ref 66), (.int v1), (.int (11 : Int32))] [] rfl rfl ⟨Nat.le_of_ble_eq_true rfl, Nat.le_of_ble_eq_true rfl, Nat.le_of_ble_eq_true rfl, Nat.le_of_ble_eq_true rfl, rfl⟩ (s_282 kc v1 (11 : Int32) m _ h) ?_
  rintro _ m1 ⟨rfl, h⟩
  refine it_V.at (pc1 := 71) (ls1 := [some (.ref 66), some (.int v1), none, none, none, none, none, none, none, none]) (st1 := []) (mem1 := m1) rfl rfl rfl rfl ?_
  refine it_V.sN it_cd307 it_m307 1 (pc1 := 247) (ls1 := [some (.ref 66), some (.int v1), none, none, none, none, none, none, none, none]) (st1 := []) (mem1 := m1) rfl ?_
  refine it_V.weak (l := [none, none, none, none, none, none, none, none, none, none]) trivial ?_
  exact s_307_247 kc Φ m1 h
set_option maxRecDepth 100000 in
set_option maxHeartbeats 4000000 in
theorem s_307_216 (kc : it_Kc) (Φ : it_Me → Prop) (v1 : Int32) (v3 : Int32) (v5 : Int32) (v6 : Int32) (m : it_Me) (h : w_307_216 kc Φ v1 v3 v5 v6 m) : it_V kc it_sh0 307 216 [some (.ref 66), some (.int v1), none, some (.int v3), none, some (.int v5), some (.int v6), none, none, none] [] m (it_Pv Φ) := by
  rw [w_307_216] at h
  refine it_V.sN it_cd307 it_m307 3 (pc1 := 221) (ls1 := [some (.ref 66), some (.int v1), none, some (.int v3), none, some (.int v5), some (.int v6), none, none, none]) (st1 := [(.int (7 : Int32)), (.int v5), (.ref 66)]) (mem1 := m) rfl ?_
  refine it_V.call it_cd307 it_m307 rfl it_m269 [(.int v5), (.int (7 : Int32))] [(.ref 66)] rfl rfl ⟨Nat.le_of_ble_eq_true rfl, Nat.le_of_ble_eq_true rfl, Nat.le_of_ble_eq_true rfl, Nat.le_of_ble_eq_true rfl, rfl⟩ (s_269 kc v5 (7 : Int32) m _ h) ?_
  rintro _ m2 ⟨r1, rfl, h⟩
  refine it_V.at (pc1 := 224) (ls1 := [some (.ref 66), some (.int v1), none, some (.int v3), none, some (.int v5), some (.int v6), none, none, none]) (st1 := [(.int r1), (.ref 66)]) (mem1 := m2) rfl rfl rfl rfl ?_
  refine it_V.sN it_cd307 it_m307 1 (pc1 := 225) (ls1 := [some (.ref 66), some (.int v1), none, some (.int v3), none, some (.int v5), some (.int v6), none, none, none]) (st1 := [(.int (1 : Int32)), (.int r1), (.ref 66)]) (mem1 := m2) rfl ?_
  refine it_V.call it_cd307 it_m307 rfl it_m221 [(.ref 66), (.int r1), (.int (1 : Int32))] [] rfl rfl ⟨Nat.le_of_ble_eq_true rfl, Nat.le_of_ble_eq_true rfl, Nat.le_of_ble_eq_true rfl, Nat.le_of_ble_eq_true rfl, rfl⟩ (s_221 kc r1 (1 : Int32) m2 _ h) ?_
  rintro _ m3 ⟨rfl, h⟩
  refine it_V.at (pc1 := 228) (ls1 := [some (.ref 66), some (.int v1), none, some (.int v3), none, some (.int v5), some (.int v6), none, none, none]) (st1 := []) (mem1 := m3) rfl rfl rfl rfl ?_
  refine it_V.sN it_cd307 it_m307 3 (pc1 := 232) (ls1 := [some (.ref 66), some (.int v1), none, some (.int v3), none, some (.int v5), some (.int v6), none, none, none]) (st1 := [(.int v6), (.int v1), (.ref 66)]) (mem1 := m3) rfl ?_
  refine it_V.call it_cd307 it_m307 rfl it_m281 [(.ref 66), (.int v1), (.int v6)] [] rfl rfl ⟨Nat.le_of_ble_eq_true rfl, Nat.le_of_ble_eq_true rfl, Nat.le_of_ble_eq_true rfl, Nat.le_of_ble_eq_true rfl, rfl⟩ (s_281 kc v1 v6 m3 _ h) ?_
  rintro _ m4 ⟨rfl, h⟩
  refine it_V.at (pc1 := 235) (ls1 := [some (.ref 66), some (.int v1), none, some (.int v3), none, some (.int v5), some (.int v6), none, none, none]) (st1 := []) (mem1 := m4) rfl rfl rfl rfl ?_
  refine it_V.sN it_cd307 it_m307 7 (pc1 := 244) (ls1 := [some (.ref 66), some (.int v1), none, some (.int v3), none, some (.int v5), some (.int v6), none, none, none]) (st1 := [(.int (0 : Int32)), (.int v6), (.int v1), (.int (0 : Int32)), (.int (7 : Int32)), (.int v3), (.ref 66)]) (mem1 := m4) rfl ?_
  refine it_V.call it_cd307 it_m307 rfl it_m274 [(.ref 66), (.int v3), (.int (7 : Int32)), (.int (0 : Int32)), (.int v1), (.int v6), (.int (0 : Int32))] [] rfl rfl ⟨Nat.le_of_ble_eq_true rfl, Nat.le_of_ble_eq_true rfl, Nat.le_of_ble_eq_true rfl, Nat.le_of_ble_eq_true rfl, rfl⟩ (s_274 kc v3 (7 : Int32) (0 : Int32) v1 v6 (0 : Int32) m4 _ h) ?_
  rintro _ m5 ⟨rfl, h⟩
  refine it_V.at (pc1 := 247) (ls1 := [some (.ref 66), some (.int v1), none, some (.int v3), none, some (.int v5), some (.int v6), none, none, none]) (st1 := []) (mem1 := m5) rfl rfl rfl rfl ?_
  refine it_V.weak (l := [none, none, none, none, none, none, none, none, none, none]) trivial ?_
  exact s_307_247 kc Φ m5 h
set_option maxRecDepth 100000 in
set_option maxHeartbeats 4000000 in
theorem s_307_39 (kc : it_Kc) (Φ : it_Me → Prop) (v1 : Int32) (v2 : Int32) (v3 : Int32) (v4 : Int32) (u0 : Int32) (m : it_Me) (h : w_307_39 kc Φ v1 v2 v3 v4 u0 m) : it_V kc it_sh0 307 39 [some (.ref 66), some (.int v1), some (.int v2), some (.int v3), some (.int v4), none, none, none, none, none] [(.int u0)] m (it_Pv Φ) := by
  rw [w_307_39] at h
  refine it_V.sN it_cd307 it_m307 4 (pc1 := (if u0 = (-1 : Int32) then 64 else 47)) (ls1 := [some (.ref 66), some (.int v1), some (.int v2), some (.int v3), some (.int v4), some (.int u0), none, none, none, none]) (st1 := []) (mem1 := m) rfl ?_
  refine it_V.ite (fun c1 => ?_) (fun c1 => ?_)
  · have h := h.1 c1
    refine it_V.weak (l := [some (.ref 66), some (.int v1), none, none, none, none, none, none, none, none]) ⟨rfl, ⟨rfl, trivial⟩⟩ ?_
    exact s_307_64 kc Φ v1 m h
  · have h := h.2 c1
    refine it_V.sN it_cd307 it_m307 4 (pc1 := 53) (ls1 := [some (.ref 66), some (.int v1), some (.int v2), some (.int v3), some (.int v4), some (.int u0), none, none, none, none]) (st1 := [(.int (0 : Int32)), (.int (7 : Int32)), (.int u0), (.ref 66)]) (mem1 := m) rfl ?_
    refine it_V.call it_cd307 it_m307 rfl it_m271 [(.int u0), (.int (7 : Int32)), (.int (0 : Int32))] [(.ref 66)] rfl rfl ⟨Nat.le_of_ble_eq_true rfl, Nat.le_of_ble_eq_true rfl, Nat.le_of_ble_eq_true rfl, Nat.le_of_ble_eq_true rfl, rfl⟩ (s_271 kc u0 (7 : Int32) (0 : Int32) m _ h) ?_
    rintro _ m3 ⟨r2, rfl, h⟩
    refine it_V.at (pc1 := 56) (ls1 := [some (.ref 66), some (.int v1), some (.int v2), some (.int v3), some (.int v4), some (.int u0), none, none, none, none]) (st1 := [(.int r2), (.ref 66)]) (mem1 := m3) rfl rfl rfl rfl ?_
    refine it_V.sN it_cd307 it_m307 2 (pc1 := 58) (ls1 := [some (.ref 66), some (.int v1), some (.int v2), some (.int v3), some (.int v4), some (.int u0), none, none, none, none]) (st1 := [(.int (r2 + (4 : Int32))), (.ref 66)]) (mem1 := m3) rfl ?_
    refine it_V.call it_cd307 it_m307 rfl it_m220 [(.ref 66), (.int (r2 + (4 : Int32)))] [] rfl rfl ⟨Nat.le_of_ble_eq_true rfl, Nat.le_of_ble_eq_true rfl, Nat.le_of_ble_eq_true rfl, Nat.le_of_ble_eq_true rfl, rfl⟩ (s_220 kc (r2 + (4 : Int32)) m3 _ h) ?_
    rintro _ m5 ⟨r4, rfl, h⟩
    refine it_V.at (pc1 := 61) (ls1 := [some (.ref 66), some (.int v1), some (.int v2), some (.int v3), some (.int v4), some (.int u0), none, none, none, none]) (st1 := [(.int r4)]) (mem1 := m5) rfl rfl rfl rfl ?_
    refine it_V.sN it_cd307 it_m307 1 (pc1 := (if r4 = 0 then 64 else 74)) (ls1 := [some (.ref 66), some (.int v1), some (.int v2), some (.int v3), some (.int v4), some (.int u0), none, none, none, none]) (st1 := []) (mem1 := m5) rfl ?_
    refine it_V.ite (fun c6 => ?_) (fun c6 => ?_)
    · have h := h.1 c6
      refine it_V.weak (l := [some (.ref 66), some (.int v1), none, none, none, none, none, none, none, none]) ⟨rfl, ⟨rfl, trivial⟩⟩ ?_
      exact s_307_64 kc Φ v1 m5 h
    · have h := h.2 c6
      refine it_V.sN it_cd307 it_m307 3 (pc1 := (if v3 = v1 then 79 else 89)) (ls1 := [some (.ref 66), some (.int v1), some (.int v2), some (.int v3), some (.int v4), some (.int u0), none, none, none, none]) (st1 := []) (mem1 := m5) rfl ?_
      refine it_V.ite (fun c7 => ?_) (fun c7 => ?_)
      · have h := h.1 c7
        refine it_V.sN it_cd307 it_m307 3 (pc1 := 83) (ls1 := [some (.ref 66), some (.int v1), some (.int v2), some (.int v3), some (.int v4), some (.int u0), none, none, none, none]) (st1 := [(.int (6 : Int32)), (.int v1), (.ref 66)]) (mem1 := m5) rfl ?_
        refine it_V.call it_cd307 it_m307 rfl it_m282 [(.ref 66), (.int v1), (.int (6 : Int32))] [] rfl rfl ⟨Nat.le_of_ble_eq_true rfl, Nat.le_of_ble_eq_true rfl, Nat.le_of_ble_eq_true rfl, Nat.le_of_ble_eq_true rfl, rfl⟩ (s_282 kc v1 (6 : Int32) m5 _ h) ?_
        rintro _ m8 ⟨rfl, h⟩
        refine it_V.at (pc1 := 86) (ls1 := [some (.ref 66), some (.int v1), some (.int v2), some (.int v3), some (.int v4), some (.int u0), none, none, none, none]) (st1 := []) (mem1 := m8) rfl rfl rfl rfl ?_
        refine it_V.sN it_cd307 it_m307 1 (pc1 := 247) (ls1 := [some (.ref 66), some (.int v1), some (.int v2), some (.int v3), some (.int v4), some (.int u0), none, none, none, none]) (st1 := []) (mem1 := m8) rfl ?_
        refine it_V.weak (l := [none, none, none, none, none, none, none, none, none, none]) trivial ?_
        exact s_307_247 kc Φ m8 h
      · have h := h.2 c7
        refine it_V.sN it_cd307 it_m307 3 (pc1 := 94) (ls1 := [some (.ref 66), some (.int v1), some (.int v2), some (.int v3), some (.int v4), some (.int u0), none, none, none, none]) (st1 := [(.int (7 : Int32)), (.int u0), (.ref 66)]) (mem1 := m5) rfl ?_
        refine it_V.call it_cd307 it_m307 rfl it_m269 [(.int u0), (.int (7 : Int32))] [(.ref 66)] rfl rfl ⟨Nat.le_of_ble_eq_true rfl, Nat.le_of_ble_eq_true rfl, Nat.le_of_ble_eq_true rfl, Nat.le_of_ble_eq_true rfl, rfl⟩ (s_269 kc u0 (7 : Int32) m5 _ h) ?_
        rintro _ m10 ⟨r9, rfl, h⟩
        refine it_V.at (pc1 := 97) (ls1 := [some (.ref 66), some (.int v1), some (.int v2), some (.int v3), some (.int v4), some (.int u0), none, none, none, none]) (st1 := [(.int r9), (.ref 66)]) (mem1 := m10) rfl rfl rfl rfl ?_
        refine it_V.call it_cd307 it_m307 rfl it_m220 [(.ref 66), (.int r9)] [] rfl rfl ⟨Nat.le_of_ble_eq_true rfl, Nat.le_of_ble_eq_true rfl, Nat.le_of_ble_eq_true rfl, Nat.le_of_ble_eq_true rfl, rfl⟩ (s_220 kc r9 m10 _ h) ?_
        rintro _ m12 ⟨r11, rfl, h⟩
        refine it_V.at (pc1 := 100) (ls1 := [some (.ref 66), some (.int v1), some (.int v2), some (.int v3), some (.int v4), some (.int u0), none, none, none, none]) (st1 := [(.int r11)]) (mem1 := m12) rfl rfl rfl rfl ?_
        refine it_V.sN it_cd307 it_m307 1 (pc1 := (if r11 = 0 then 112 else 103)) (ls1 := [some (.ref 66), some (.int v1), some (.int v2), some (.int v3), some (.int v4), some (.int u0), none, none, none, none]) (st1 := []) (mem1 := m12) rfl ?_
        refine it_V.ite (fun c13 => ?_) (fun c13 => ?_)
        · have h := h.1 c13
          refine it_V.sN it_cd307 it_m307 5 (pc1 := 119) (ls1 := [some (.ref 66), some (.int v1), some (.int v2), some (.int v3), some (.int v4), some (.int u0), none, none, none, none]) (st1 := [(.int (0 : Int32)), (.int (7 : Int32)), (.int v2), (.ref 66), (.int v4)]) (mem1 := m12) rfl ?_
          refine it_V.call it_cd307 it_m307 rfl it_m270 [(.int v2), (.int (7 : Int32)), (.int (0 : Int32))] [(.ref 66), (.int v4)] rfl rfl ⟨Nat.le_of_ble_eq_true rfl, Nat.le_of_ble_eq_true rfl, Nat.le_of_ble_eq_true rfl, Nat.le_of_ble_eq_true rfl, rfl⟩ (s_270 kc v2 (7 : Int32) (0 : Int32) m12 _ h) ?_
          rintro _ m15 ⟨r14, rfl, h⟩
          refine it_V.at (pc1 := 122) (ls1 := [some (.ref 66), some (.int v1), some (.int v2), some (.int v3), some (.int v4), some (.int u0), none, none, none, none]) (st1 := [(.int r14), (.ref 66), (.int v4)]) (mem1 := m15) rfl rfl rfl rfl ?_
          refine it_V.sN it_cd307 it_m307 2 (pc1 := 124) (ls1 := [some (.ref 66), some (.int v1), some (.int v2), some (.int v3), some (.int v4), some (.int u0), none, none, none, none]) (st1 := [(.int (r14 + (4 : Int32))), (.ref 66), (.int v4)]) (mem1 := m15) rfl ?_
          refine it_V.call it_cd307 it_m307 rfl it_m220 [(.ref 66), (.int (r14 + (4 : Int32)))] [(.int v4)] rfl rfl ⟨Nat.le_of_ble_eq_true rfl, Nat.le_of_ble_eq_true rfl, Nat.le_of_ble_eq_true rfl, Nat.le_of_ble_eq_true rfl, rfl⟩ (s_220 kc (r14 + (4 : Int32)) m15 _ h) ?_
          rintro _ m17 ⟨r16, rfl, h⟩
          refine it_V.at (pc1 := 127) (ls1 := [some (.ref 66), some (.int v1), some (.int v2), some (.int v3), some (.int v4), some (.int u0), none, none, none, none]) (st1 := [(.int r16), (.int v4)]) (mem1 := m17) rfl rfl rfl rfl ?_
          refine it_V.call it_cd307 it_m307 rfl it_m297 [(.int v4), (.int r16)] [] rfl rfl ⟨Nat.le_of_ble_eq_true rfl, Nat.le_of_ble_eq_true rfl, Nat.le_of_ble_eq_true rfl, Nat.le_of_ble_eq_true rfl, rfl⟩ (s_297 kc v4 r16 m17 _ h) ?_
          rintro _ m19 ⟨r18, rfl, h⟩
          refine it_V.at (pc1 := 130) (ls1 := [some (.ref 66), some (.int v1), some (.int v2), some (.int v3), some (.int v4), some (.int u0), none, none, none, none]) (st1 := [(.int r18)]) (mem1 := m19) rfl rfl rfl rfl ?_
          refine it_V.sN it_cd307 it_m307 6 (pc1 := 140) (ls1 := [some (.ref 66), some (.int v1), some (.int v2), some (.int v3), some (.int v4), some (.int u0), some (.int r18), none, none, none]) (st1 := [(.int (0 : Int32)), (.int (7 : Int32)), (.int u0), (.ref 66), (.int r18)]) (mem1 := m19) rfl ?_
          refine it_V.call it_cd307 it_m307 rfl it_m271 [(.int u0), (.int (7 : Int32)), (.int (0 : Int32))] [(.ref 66), (.int r18)] rfl rfl ⟨Nat.le_of_ble_eq_true rfl, Nat.le_of_ble_eq_true rfl, Nat.le_of_ble_eq_true rfl, Nat.le_of_ble_eq_true rfl, rfl⟩ (s_271 kc u0 (7 : Int32) (0 : Int32) m19 _ h) ?_
          rintro _ m21 ⟨r20, rfl, h⟩
          refine it_V.at (pc1 := 143) (ls1 := [some (.ref 66), some (.int v1), some (.int v2), some (.int v3), some (.int v4), some (.int u0), some (.int r18), none, none, none]) (st1 := [(.int r20), (.ref 66), (.int r18)]) (mem1 := m21) rfl rfl rfl rfl ?_
          refine it_V.sN it_cd307 it_m307 2 (pc1 := 145) (ls1 := [some (.ref 66), some (.int v1), some (.int v2), some (.int v3), some (.int v4), some (.int u0), some (.int r18), none, none, none]) (st1 := [(.int (r20 + (4 : Int32))), (.ref 66), (.int r18)]) (mem1 := m21) rfl ?_
          refine it_V.call it_cd307 it_m307 rfl it_m220 [(.ref 66), (.int (r20 + (4 : Int32)))] [(.int r18)] rfl rfl ⟨Nat.le_of_ble_eq_true rfl, Nat.le_of_ble_eq_true rfl, Nat.le_of_ble_eq_true rfl, Nat.le_of_ble_eq_true rfl, rfl⟩ (s_220 kc (r20 + (4 : Int32)) m21 _ h) ?_
          rintro _ m23 ⟨r22, rfl, h⟩
          refine it_V.at (pc1 := 148) (ls1 := [some (.ref 66), some (.int v1), some (.int v2), some (.int v3), some (.int v4), some (.int u0), some (.int r18), none, none, none]) (st1 := [(.int r22), (.int r18)]) (mem1 := m23) rfl rfl rfl rfl ?_
          refine it_V.sN it_cd307 it_m307 6 (pc1 := 158) (ls1 := [some (.ref 66), some (.int v1), some (.int v2), some (.int v3), some (.int v4), some (.int u0), some (.int (it_min r18 r22)), none, none, none]) (st1 := [(.int (0 : Int32)), (.int (7 : Int32)), (.int v2), (.ref 66)]) (mem1 := m23) rfl ?_
          refine it_V.call it_cd307 it_m307 rfl it_m270 [(.int v2), (.int (7 : Int32)), (.int (0 : Int32))] [(.ref 66)] rfl rfl ⟨Nat.le_of_ble_eq_true rfl, Nat.le_of_ble_eq_true rfl, Nat.le_of_ble_eq_true rfl, Nat.le_of_ble_eq_true rfl, rfl⟩ (s_270 kc v2 (7 : Int32) (0 : Int32) m23 _ h) ?_
          rintro _ m25 ⟨r24, rfl, h⟩
          refine it_V.at (pc1 := 161) (ls1 := [some (.ref 66), some (.int v1), some (.int v2), some (.int v3), some (.int v4), some (.int u0), some (.int (it_min r18 r22)), none, none, none]) (st1 := [(.int r24), (.ref 66)]) (mem1 := m25) rfl rfl rfl rfl ?_
          refine it_V.call it_cd307 it_m307 rfl it_m220 [(.ref 66), (.int r24)] [] rfl rfl ⟨Nat.le_of_ble_eq_true rfl, Nat.le_of_ble_eq_true rfl, Nat.le_of_ble_eq_true rfl, Nat.le_of_ble_eq_true rfl, rfl⟩ (s_220 kc r24 m25 _ h) ?_
          rintro _ m27 ⟨r26, rfl, h⟩
          refine it_V.at (pc1 := 164) (ls1 := [some (.ref 66), some (.int v1), some (.int v2), some (.int v3), some (.int v4), some (.int u0), some (.int (it_min r18 r22)), none, none, none]) (st1 := [(.int r26)]) (mem1 := m27) rfl rfl rfl rfl ?_
          refine it_V.sN it_cd307 it_m307 5 (pc1 := 172) (ls1 := [some (.ref 66), some (.int v1), some (.int v2), some (.int v3), some (.int v4), some (.int u0), some (.int (it_min r18 r22)), some (.int r26), none, none]) (st1 := [(.int (0 : Int32)), (.int (7 : Int32)), (.int u0), (.ref 66)]) (mem1 := m27) rfl ?_
          refine it_V.call it_cd307 it_m307 rfl it_m271 [(.int u0), (.int (7 : Int32)), (.int (0 : Int32))] [(.ref 66)] rfl rfl ⟨Nat.le_of_ble_eq_true rfl, Nat.le_of_ble_eq_true rfl, Nat.le_of_ble_eq_true rfl, Nat.le_of_ble_eq_true rfl, rfl⟩ (s_271 kc u0 (7 : Int32) (0 : Int32) m27 _ h) ?_
          rintro _ m29 ⟨r28, rfl, h⟩
          refine it_V.at (pc1 := 175) (ls1 := [some (.ref 66), some (.int v1), some (.int v2), some (.int v3), some (.int v4), some (.int u0), some (.int (it_min r18 r22)), some (.int r26), none, none]) (st1 := [(.int r28), (.ref 66)]) (mem1 := m29) rfl rfl rfl rfl ?_
          refine it_V.call it_cd307 it_m307 rfl it_m220 [(.ref 66), (.int r28)] [] rfl rfl ⟨Nat.le_of_ble_eq_true rfl, Nat.le_of_ble_eq_true rfl, Nat.le_of_ble_eq_true rfl, Nat.le_of_ble_eq_true rfl, rfl⟩ (s_220 kc r28 m29 _ h) ?_
          rintro _ m31 ⟨r30, rfl, h⟩
          refine it_V.at (pc1 := 178) (ls1 := [some (.ref 66), some (.int v1), some (.int v2), some (.int v3), some (.int v4), some (.int u0), some (.int (it_min r18 r22)), some (.int r26), none, none]) (st1 := [(.int r30)]) (mem1 := m31) rfl rfl rfl rfl ?_
          refine it_V.sN it_cd307 it_m307 3 (pc1 := 183) (ls1 := [some (.ref 66), some (.int v1), some (.int v2), some (.int v3), some (.int v4), some (.int u0), some (.int (it_min r18 r22)), some (.int r26), some (.int r30), some (.int (0 : Int32))]) (st1 := []) (mem1 := m31) rfl ?_
          refine it_V.weak (l := [some (.ref 66), some (.int v1), none, some (.int v3), none, some (.int u0), some (.int (it_min r18 r22)), some (.int r26), some (.int r30), some (.int (0 : Int32))]) ⟨rfl, ⟨rfl, ⟨rfl, ⟨rfl, ⟨rfl, ⟨rfl, ⟨rfl, ⟨rfl, trivial⟩⟩⟩⟩⟩⟩⟩⟩ ?_
          obtain ⟨n, h⟩ := h
          exact s_307_183 kc Φ _ (fun v1 v3 v5 v6 m h => s_307_216 kc Φ v1 v3 v5 v6 m h) n v1 v3 u0 (it_min r18 r22) r26 r30 (0 : Int32) m31 h
        · have h := h.2 c13
          refine it_V.sN it_cd307 it_m307 3 (pc1 := 106) (ls1 := [some (.ref 66), some (.int v1), some (.int v2), some (.int v3), some (.int v4), some (.int u0), none, none, none, none]) (st1 := [(.int (2 : Int32)), (.int v1), (.ref 66)]) (mem1 := m12) rfl ?_
          refine it_V.call it_cd307 it_m307 rfl it_m282 [(.ref 66), (.int v1), (.int (2 : Int32))] [] rfl rfl ⟨Nat.le_of_ble_eq_true rfl, Nat.le_of_ble_eq_true rfl, Nat.le_of_ble_eq_true rfl, Nat.le_of_ble_eq_true rfl, rfl⟩ (s_282 kc v1 (2 : Int32) m12 _ h) ?_
          rintro _ m32 ⟨rfl, h⟩
          refine it_V.at (pc1 := 109) (ls1 := [some (.ref 66), some (.int v1), some (.int v2), some (.int v3), some (.int v4), some (.int u0), none, none, none, none]) (st1 := []) (mem1 := m32) rfl rfl rfl rfl ?_
          refine it_V.sN it_cd307 it_m307 1 (pc1 := 247) (ls1 := [some (.ref 66), some (.int v1), some (.int v2), some (.int v3), some (.int v4), some (.int u0), none, none, none, none]) (st1 := []) (mem1 := m32) rfl ?_
          refine it_V.weak (l := [none, none, none, none, none, none, none, none, none, none]) trivial ?_
          exact s_307_247 kc Φ m32 h
set_option maxRecDepth 100000 in
set_option maxHeartbeats 4000000 in
theorem s_307_38 (kc : it_Kc) (Φ : it_Me → Prop) (v1 : Int32) (v2 : Int32) (v3 : Int32) (v4 : Int32) (m : it_Me) (h : w_307_38 kc Φ v1 v2 v3 v4 m) : it_V kc it_sh0 307 38 [some (.ref 66), some (.int v1), some (.int v2), some (.int v3), some (.int v4), none, none, none, none, none] [] m (it_Pv Φ) := by
  rw [w_307_38] at h
  refine it_V.sN it_cd307 it_m307 1 (pc1 := 39) (ls1 := [some (.ref 66), some (.int v1), some (.int v2), some (.int v3), some (.int v4), none, none, none, none, none]) (st1 := [(.int (-1 : Int32))]) (mem1 := m) rfl ?_
  refine it_V.weak (l := [some (.ref 66), some (.int v1), some (.int v2), some (.int v3), some (.int v4), none, none, none, none, none]) ⟨rfl, ⟨rfl, ⟨rfl, ⟨rfl, ⟨rfl, trivial⟩⟩⟩⟩⟩ ?_
  exact s_307_39 kc Φ v1 v2 v3 v4 (-1 : Int32) m h
set_option maxRecDepth 100000 in
set_option maxHeartbeats 4000000 in
theorem s_307 (kc : it_Kc) (x0 : Int32) (x1 : Int32) (x2 : Int32) (x3 : Int32) (m : it_Me) (Φ : it_Me → Prop) (h : w_307 kc x0 x1 x2 x3 m Φ) : it_V kc it_sh0 307 0 (it_loc0 [(.ref 66), (.int x0), (.int x1), (.int x2), (.int x3)] 10) [] m (it_Pv Φ) := by
  rw [w_307] at h
  refine it_V.at (pc1 := 0) (ls1 := [some (.ref 66), some (.int x0), some (.int x1), some (.int x2), some (.int x3), none, none, none, none, none]) (st1 := []) (mem1 := m) rfl rfl rfl rfl ?_
  refine it_V.sN it_cd307 it_m307 2 (pc1 := 2) (ls1 := [some (.ref 66), some (.int x0), some (.int x1), some (.int x2), some (.int x3), none, none, none, none, none]) (st1 := [(.int x2), (.ref 66)]) (mem1 := m) rfl ?_
  refine it_V.call it_cd307 it_m307 rfl it_m341 [(.ref 66), (.int x2)] [] rfl rfl ⟨Nat.le_of_ble_eq_true rfl, Nat.le_of_ble_eq_true rfl, Nat.le_of_ble_eq_true rfl, Nat.le_of_ble_eq_true rfl, rfl⟩ (s_341 kc x2 m _ h) ?_
  rintro _ m2 ⟨r1, rfl, h⟩
  refine it_V.at (pc1 := 5) (ls1 := [some (.ref 66), some (.int x0), some (.int x1), some (.int x2), some (.int x3), none, none, none, none, none]) (st1 := [(.int r1)]) (mem1 := m2) rfl rfl rfl rfl ?_
  refine it_V.sN it_cd307 it_m307 1 (pc1 := (if r1 = 0 then 38 else 8)) (ls1 := [some (.ref 66), some (.int x0), some (.int x1), some (.int x2), some (.int x3), none, none, none, none, none]) (st1 := []) (mem1 := m2) rfl ?_
  refine it_V.ite (fun c3 => ?_) (fun c3 => ?_)
  · have h := h.1 c3
    exact s_307_38 kc Φ x0 x1 x2 x3 m2 h
  · have h := h.2 c3
    refine it_V.sN it_cd307 it_m307 3 (pc1 := 13) (ls1 := [some (.ref 66), some (.int x0), some (.int x1), some (.int x2), some (.int x3), none, none, none, none, none]) (st1 := [(.int x2), (.ref 95)]) (mem1 := m2) rfl ?_
    obtain ⟨g4, h⟩ := h
    refine it_V.iald it_cd307 it_m307 rfl ((⟨rfl, by decide⟩ : it_isR 95 8)).2 ((⟨rfl, by decide⟩ : it_isR 95 8)).1 g4 ?_
    refine it_V.at (pc1 := 14) (ls1 := [some (.ref 66), some (.int x0), some (.int x1), some (.int x2), some (.int x3), none, none, none, none, none]) (st1 := [(.int (m2 95 (Int32.toNatClampNeg x2)))]) (mem1 := m2) rfl rfl rfl rfl ?_
    refine it_V.sN it_cd307 it_m307 2 (pc1 := (if (m2 95 (Int32.toNatClampNeg x2)) = (4 : Int32) then 38 else 18)) (ls1 := [some (.ref 66), some (.int x0), some (.int x1), some (.int x2), some (.int x3), none, none, none, none, none]) (st1 := []) (mem1 := m2) rfl ?_
    refine it_V.ite (fun c5 => ?_) (fun c5 => ?_)
    · have h := h.1 c5
      exact s_307_38 kc Φ x0 x1 x2 x3 m2 h
    · have h := h.2 c5
      refine it_V.sN it_cd307 it_m307 3 (pc1 := 23) (ls1 := [some (.ref 66), some (.int x0), some (.int x1), some (.int x2), some (.int x3), none, none, none, none, none]) (st1 := [(.int x2), (.ref 95)]) (mem1 := m2) rfl ?_
      obtain ⟨g6, h⟩ := h
      refine it_V.iald it_cd307 it_m307 rfl ((⟨rfl, by decide⟩ : it_isR 95 8)).2 ((⟨rfl, by decide⟩ : it_isR 95 8)).1 g6 ?_
      refine it_V.at (pc1 := 24) (ls1 := [some (.ref 66), some (.int x0), some (.int x1), some (.int x2), some (.int x3), none, none, none, none, none]) (st1 := [(.int (m2 95 (Int32.toNatClampNeg x2)))]) (mem1 := m2) rfl rfl rfl rfl ?_
      refine it_V.sN it_cd307 it_m307 2 (pc1 := (if (m2 95 (Int32.toNatClampNeg x2)) = (5 : Int32) then 38 else 28)) (ls1 := [some (.ref 66), some (.int x0), some (.int x1), some (.int x2), some (.int x3), none, none, none, none, none]) (st1 := []) (mem1 := m2) rfl ?_
      refine it_V.ite (fun c7 => ?_) (fun c7 => ?_)
      · have h := h.1 c7
        exact s_307_38 kc Φ x0 x1 x2 x3 m2 h
      · have h := h.2 c7
        refine it_V.sN it_cd307 it_m307 3 (pc1 := 32) (ls1 := [some (.ref 66), some (.int x0), some (.int x1), some (.int x2), some (.int x3), none, none, none, none, none]) (st1 := [(.int (7 : Int32)), (.int x2), (.ref 66)]) (mem1 := m2) rfl ?_
        refine it_V.call it_cd307 it_m307 rfl it_m272 [(.ref 66), (.int x2), (.int (7 : Int32))] [] rfl rfl ⟨Nat.le_of_ble_eq_true rfl, Nat.le_of_ble_eq_true rfl, Nat.le_of_ble_eq_true rfl, Nat.le_of_ble_eq_true rfl, rfl⟩ (s_272 kc x2 (7 : Int32) m2 _ h) ?_
        rintro _ m9 ⟨r8, rfl, h⟩
        refine it_V.at (pc1 := 35) (ls1 := [some (.ref 66), some (.int x0), some (.int x1), some (.int x2), some (.int x3), none, none, none, none, none]) (st1 := [(.int r8)]) (mem1 := m9) rfl rfl rfl rfl ?_
        refine it_V.sN it_cd307 it_m307 1 (pc1 := 39) (ls1 := [some (.ref 66), some (.int x0), some (.int x1), some (.int x2), some (.int x3), none, none, none, none, none]) (st1 := [(.int r8)]) (mem1 := m9) rfl ?_
        exact s_307_39 kc Φ x0 x1 x2 x3 r8 m9 h
set_option maxRecDepth 100000 in
set_option maxHeartbeats 4000000 in
theorem s_305_108 (kc : it_Kc) (Φ : it_Me → Prop) (v1 : Int32) (m : it_Me) (h : w_305_108 kc Φ v1 m) : it_V kc it_sh0 305 108 [some (.ref 66), some (.int v1), none, none, none, none, none, none] [] m (it_Pv Φ) := by
  rw [w_305_108] at h
  refine it_V.sN it_cd305 it_m305 3 (pc1 := 112) (ls1 := [some (.ref 66), some (.int v1), none, none, none, none, none, none]) (st1 := [(.int (7 : Int32)), (.int v1), (.ref 66)]) (mem1 := m) rfl ?_
  refine it_V.call it_cd305 it_m305 rfl it_m282 [(.ref 66), (.int v1), (.int (7 : Int32))] [] rfl rfl ⟨Nat.le_of_ble_eq_true rfl, Nat.le_of_ble_eq_true rfl, Nat.le_of_ble_eq_true rfl, Nat.le_of_ble_eq_true rfl, rfl⟩ (s_282 kc v1 (7 : Int32) m _ h) ?_
  rintro _ m1 ⟨rfl, h⟩
  refine it_V.at (pc1 := 115) (ls1 := [some (.ref 66), some (.int v1), none, none, none, none, none, none]) (st1 := []) (mem1 := m1) rfl rfl rfl rfl ?_
  exact it_V.ret it_cd305 it_m305 rfl rfl ⟨rfl, h⟩
set_option maxRecDepth 100000 in
set_option maxHeartbeats 4000000 in
theorem s_305_149 (kc : it_Kc) (Φ : it_Me → Prop) (m : it_Me) (h : w_305_149 kc Φ m) : it_V kc it_sh0 305 149 [none, none, none, none, none, none, none, none] [] m (it_Pv Φ) := by
  rw [w_305_149] at h
  exact it_V.ret it_cd305 it_m305 rfl rfl ⟨rfl, h⟩
set_option maxRecDepth 100000 in
set_option maxHeartbeats 4000000 in
theorem s_305 (kc : it_Kc) (x0 : Int32) (x1 : Int32) (x2 : Int32) (x3 : Int32) (x4 : Int32) (m : it_Me) (Φ : it_Me → Prop) (h : w_305 kc x0 x1 x2 x3 x4 m Φ) : it_V kc it_sh0 305 0 (it_loc0 [(.ref 66), (.int x0), (.int x1), (.int x2), (.int x3), (.int x4)] 8) [] m (it_Pv Φ) := by
  rw [w_305] at h
  refine it_V.at (pc1 := 0) (ls1 := [some (.ref 66), some (.int x0), some (.int x1), some (.int x2), some (.int x3), some (.int x4), none, none]) (st1 := []) (mem1 := m) rfl rfl rfl rfl ?_
  refine it_V.sN it_cd305 it_m305 3 (pc1 := (if x2 = (1 : Int32) then 5 else 18)) (ls1 := [some (.ref 66), some (.int x0), some (.int x1), some (.int x2), some (.int x3), some (.int x4), none, none]) (st1 := []) (mem1 := m) rfl ?_
  refine it_V.ite (fun c1 => ?_) (fun c1 => ?_)
  · have h := h.1 c1
    refine it_V.sN it_cd305 it_m305 5 (pc1 := 12) (ls1 := [some (.ref 66), some (.int x0), some (.int x1), some (.int x2), some (.int x3), some (.int x4), none, none]) (st1 := [(.int x4), (.int x3), (.int x1), (.int x0), (.ref 66)]) (mem1 := m) rfl ?_
    refine it_V.call it_cd305 it_m305 rfl it_m307 [(.ref 66), (.int x0), (.int x1), (.int x3), (.int x4)] [] rfl rfl ⟨Nat.le_of_ble_eq_true rfl, Nat.le_of_ble_eq_true rfl, Nat.le_of_ble_eq_true rfl, Nat.le_of_ble_eq_true rfl, rfl⟩ (s_307 kc x0 x1 x3 x4 m _ h) ?_
    rintro _ m2 ⟨rfl, h⟩
    refine it_V.at (pc1 := 15) (ls1 := [some (.ref 66), some (.int x0), some (.int x1), some (.int x2), some (.int x3), some (.int x4), none, none]) (st1 := []) (mem1 := m2) rfl rfl rfl rfl ?_
    refine it_V.sN it_cd305 it_m305 1 (pc1 := 149) (ls1 := [some (.ref 66), some (.int x0), some (.int x1), some (.int x2), some (.int x3), some (.int x4), none, none]) (st1 := []) (mem1 := m2) rfl ?_
    refine it_V.weak (l := [none, none, none, none, none, none, none, none]) trivial ?_
    exact s_305_149 kc Φ m2 h
  · have h := h.2 c1
    refine it_V.sN it_cd305 it_m305 3 (pc1 := (if x2 = (2 : Int32) then 23 else 64)) (ls1 := [some (.ref 66), some (.int x0), some (.int x1), some (.int x2), some (.int x3), some (.int x4), none, none]) (st1 := []) (mem1 := m) rfl ?_
    refine it_V.ite (fun c3 => ?_) (fun c3 => ?_)
    · have h := h.1 c3
      refine it_V.sN it_cd305 it_m305 3 (pc1 := 27) (ls1 := [some (.ref 66), some (.int x0), some (.int x1), some (.int x2), some (.int x3), some (.int x4), none, none]) (st1 := [(.int (7 : Int32)), (.int x1), (.ref 66)]) (mem1 := m) rfl ?_
      refine it_V.call it_cd305 it_m305 rfl it_m269 [(.int x1), (.int (7 : Int32))] [(.ref 66)] rfl rfl ⟨Nat.le_of_ble_eq_true rfl, Nat.le_of_ble_eq_true rfl, Nat.le_of_ble_eq_true rfl, Nat.le_of_ble_eq_true rfl, rfl⟩ (s_269 kc x1 (7 : Int32) m _ h) ?_
      rintro _ m5 ⟨r4, rfl, h⟩
      refine it_V.at (pc1 := 30) (ls1 := [some (.ref 66), some (.int x0), some (.int x1), some (.int x2), some (.int x3), some (.int x4), none, none]) (st1 := [(.int r4), (.ref 66)]) (mem1 := m5) rfl rfl rfl rfl ?_
      refine it_V.call it_cd305 it_m305 rfl it_m220 [(.ref 66), (.int r4)] [] rfl rfl ⟨Nat.le_of_ble_eq_true rfl, Nat.le_of_ble_eq_true rfl, Nat.le_of_ble_eq_true rfl, Nat.le_of_ble_eq_true rfl, rfl⟩ (s_220 kc r4 m5 _ h) ?_
      rintro _ m7 ⟨r6, rfl, h⟩
      refine it_V.at (pc1 := 33) (ls1 := [some (.ref 66), some (.int x0), some (.int x1), some (.int x2), some (.int x3), some (.int x4), none, none]) (st1 := [(.int r6)]) (mem1 := m7) rfl rfl rfl rfl ?_
      refine it_V.sN it_cd305 it_m305 1 (pc1 := (if r6 = 0 then 36 else 45)) (ls1 := [some (.ref 66), some (.int x0), some (.int x1), some (.int x2), some (.int x3), some (.int x4), none, none]) (st1 := []) (mem1 := m7) rfl ?_
      refine it_V.ite (fun c8 => ?_) (fun c8 => ?_)
      · have h := h.1 c8
        refine it_V.sN it_cd305 it_m305 3 (pc1 := 39) (ls1 := [some (.ref 66), some (.int x0), some (.int x1), some (.int x2), some (.int x3), some (.int x4), none, none]) (st1 := [(.int (3 : Int32)), (.int x0), (.ref 66)]) (mem1 := m7) rfl ?_
        refine it_V.call it_cd305 it_m305 rfl it_m282 [(.ref 66), (.int x0), (.int (3 : Int32))] [] rfl rfl ⟨Nat.le_of_ble_eq_true rfl, Nat.le_of_ble_eq_true rfl, Nat.le_of_ble_eq_true rfl, Nat.le_of_ble_eq_true rfl, rfl⟩ (s_282 kc x0 (3 : Int32) m7 _ h) ?_
        rintro _ m9 ⟨rfl, h⟩
        refine it_V.at (pc1 := 42) (ls1 := [some (.ref 66), some (.int x0), some (.int x1), some (.int x2), some (.int x3), some (.int x4), none, none]) (st1 := []) (mem1 := m9) rfl rfl rfl rfl ?_
        refine it_V.sN it_cd305 it_m305 1 (pc1 := 149) (ls1 := [some (.ref 66), some (.int x0), some (.int x1), some (.int x2), some (.int x3), some (.int x4), none, none]) (st1 := []) (mem1 := m9) rfl ?_
        refine it_V.weak (l := [none, none, none, none, none, none, none, none]) trivial ?_
        exact s_305_149 kc Φ m9 h
      · have h := h.2 c8
        refine it_V.sN it_cd305 it_m305 3 (pc1 := 49) (ls1 := [some (.ref 66), some (.int x0), some (.int x1), some (.int x2), some (.int x3), some (.int x4), none, none]) (st1 := [(.int (7 : Int32)), (.int x1), (.ref 66)]) (mem1 := m7) rfl ?_
        refine it_V.call it_cd305 it_m305 rfl it_m269 [(.int x1), (.int (7 : Int32))] [(.ref 66)] rfl rfl ⟨Nat.le_of_ble_eq_true rfl, Nat.le_of_ble_eq_true rfl, Nat.le_of_ble_eq_true rfl, Nat.le_of_ble_eq_true rfl, rfl⟩ (s_269 kc x1 (7 : Int32) m7 _ h) ?_
        rintro _ m11 ⟨r10, rfl, h⟩
        refine it_V.at (pc1 := 52) (ls1 := [some (.ref 66), some (.int x0), some (.int x1), some (.int x2), some (.int x3), some (.int x4), none, none]) (st1 := [(.int r10), (.ref 66)]) (mem1 := m11) rfl rfl rfl rfl ?_
        refine it_V.sN it_cd305 it_m305 1 (pc1 := 53) (ls1 := [some (.ref 66), some (.int x0), some (.int x1), some (.int x2), some (.int x3), some (.int x4), none, none]) (st1 := [(.int (0 : Int32)), (.int r10), (.ref 66)]) (mem1 := m11) rfl ?_
        refine it_V.call it_cd305 it_m305 rfl it_m221 [(.ref 66), (.int r10), (.int (0 : Int32))] [] rfl rfl ⟨Nat.le_of_ble_eq_true rfl, Nat.le_of_ble_eq_true rfl, Nat.le_of_ble_eq_true rfl, Nat.le_of_ble_eq_true rfl, rfl⟩ (s_221 kc r10 (0 : Int32) m11 _ h) ?_
        rintro _ m12 ⟨rfl, h⟩
        refine it_V.at (pc1 := 56) (ls1 := [some (.ref 66), some (.int x0), some (.int x1), some (.int x2), some (.int x3), some (.int x4), none, none]) (st1 := []) (mem1 := m12) rfl rfl rfl rfl ?_
        refine it_V.sN it_cd305 it_m305 2 (pc1 := 58) (ls1 := [some (.ref 66), some (.int x0), some (.int x1), some (.int x2), some (.int x3), some (.int x4), none, none]) (st1 := [(.int x0), (.ref 66)]) (mem1 := m12) rfl ?_
        refine it_V.call it_cd305 it_m305 rfl it_m280 [(.ref 66), (.int x0)] [] rfl rfl ⟨Nat.le_of_ble_eq_true rfl, Nat.le_of_ble_eq_true rfl, Nat.le_of_ble_eq_true rfl, Nat.le_of_ble_eq_true rfl, rfl⟩ (s_280 kc x0 m12 _ h) ?_
        rintro _ m13 ⟨rfl, h⟩
        refine it_V.at (pc1 := 61) (ls1 := [some (.ref 66), some (.int x0), some (.int x1), some (.int x2), some (.int x3), some (.int x4), none, none]) (st1 := []) (mem1 := m13) rfl rfl rfl rfl ?_
        refine it_V.sN it_cd305 it_m305 1 (pc1 := 149) (ls1 := [some (.ref 66), some (.int x0), some (.int x1), some (.int x2), some (.int x3), some (.int x4), none, none]) (st1 := []) (mem1 := m13) rfl ?_
        refine it_V.weak (l := [none, none, none, none, none, none, none, none]) trivial ?_
        exact s_305_149 kc Φ m13 h
    · have h := h.2 c3
      refine it_V.sN it_cd305 it_m305 4 (pc1 := 69) (ls1 := [some (.ref 66), some (.int x0), some (.int x1), some (.int x2), some (.int x3), some (.int x4), none, none]) (st1 := [(.int (0 : Int32)), (.int (7 : Int32)), (.int x1), (.ref 66)]) (mem1 := m) rfl ?_
      refine it_V.call it_cd305 it_m305 rfl it_m270 [(.int x1), (.int (7 : Int32)), (.int (0 : Int32))] [(.ref 66)] rfl rfl ⟨Nat.le_of_ble_eq_true rfl, Nat.le_of_ble_eq_true rfl, Nat.le_of_ble_eq_true rfl, Nat.le_of_ble_eq_true rfl, rfl⟩ (s_270 kc x1 (7 : Int32) (0 : Int32) m _ h) ?_
      rintro _ m15 ⟨r14, rfl, h⟩
      refine it_V.at (pc1 := 72) (ls1 := [some (.ref 66), some (.int x0), some (.int x1), some (.int x2), some (.int x3), some (.int x4), none, none]) (st1 := [(.int r14), (.ref 66)]) (mem1 := m15) rfl rfl rfl rfl ?_
      refine it_V.call it_cd305 it_m305 rfl it_m220 [(.ref 66), (.int r14)] [] rfl rfl ⟨Nat.le_of_ble_eq_true rfl, Nat.le_of_ble_eq_true rfl, Nat.le_of_ble_eq_true rfl, Nat.le_of_ble_eq_true rfl, rfl⟩ (s_220 kc r14 m15 _ h) ?_
      rintro _ m17 ⟨r16, rfl, h⟩
      refine it_V.at (pc1 := 75) (ls1 := [some (.ref 66), some (.int x0), some (.int x1), some (.int x2), some (.int x3), some (.int x4), none, none]) (st1 := [(.int r16)]) (mem1 := m17) rfl rfl rfl rfl ?_
      refine it_V.sN it_cd305 it_m305 4 (pc1 := (if x3 < (1 : Int32) then 108 else 83)) (ls1 := [some (.ref 66), some (.int x0), some (.int x1), some (.int x2), some (.int x3), some (.int x4), some (.int r16), none]) (st1 := []) (mem1 := m17) rfl ?_
      refine it_V.ite (fun c18 => ?_) (fun c18 => ?_)
      · have h := h.1 c18
        refine it_V.weak (l := [some (.ref 66), some (.int x0), none, none, none, none, none, none]) ⟨rfl, ⟨rfl, trivial⟩⟩ ?_
        exact s_305_108 kc Φ x0 m17 h
      · have h := h.2 c18
        refine it_V.sN it_cd305 it_m305 3 (pc1 := (if (16 : Int32) < x3 then 108 else 90)) (ls1 := [some (.ref 66), some (.int x0), some (.int x1), some (.int x2), some (.int x3), some (.int x4), some (.int r16), none]) (st1 := []) (mem1 := m17) rfl ?_
        refine it_V.ite (fun c19 => ?_) (fun c19 => ?_)
        · have h := h.1 c19
          refine it_V.weak (l := [some (.ref 66), some (.int x0), none, none, none, none, none, none]) ⟨rfl, ⟨rfl, trivial⟩⟩ ?_
          exact s_305_108 kc Φ x0 m17 h
        · have h := h.2 c19
          refine it_V.sN it_cd305 it_m305 5 (pc1 := 97) (ls1 := [some (.ref 66), some (.int x0), some (.int x1), some (.int x2), some (.int x3), some (.int x4), some (.int r16), none]) (st1 := [(.int (0 : Int32)), (.int (7 : Int32)), (.int x1), (.ref 66), (.int x3)]) (mem1 := m17) rfl ?_
          refine it_V.call it_cd305 it_m305 rfl it_m270 [(.int x1), (.int (7 : Int32)), (.int (0 : Int32))] [(.ref 66), (.int x3)] rfl rfl ⟨Nat.le_of_ble_eq_true rfl, Nat.le_of_ble_eq_true rfl, Nat.le_of_ble_eq_true rfl, Nat.le_of_ble_eq_true rfl, rfl⟩ (s_270 kc x1 (7 : Int32) (0 : Int32) m17 _ h) ?_
          rintro _ m21 ⟨r20, rfl, h⟩
          refine it_V.at (pc1 := 100) (ls1 := [some (.ref 66), some (.int x0), some (.int x1), some (.int x2), some (.int x3), some (.int x4), some (.int r16), none]) (st1 := [(.int r20), (.ref 66), (.int x3)]) (mem1 := m21) rfl rfl rfl rfl ?_
          refine it_V.sN it_cd305 it_m305 2 (pc1 := 102) (ls1 := [some (.ref 66), some (.int x0), some (.int x1), some (.int x2), some (.int x3), some (.int x4), some (.int r16), none]) (st1 := [(.int (r20 + (4 : Int32))), (.ref 66), (.int x3)]) (mem1 := m21) rfl ?_
          refine it_V.call it_cd305 it_m305 rfl it_m220 [(.ref 66), (.int (r20 + (4 : Int32)))] [(.int x3)] rfl rfl ⟨Nat.le_of_ble_eq_true rfl, Nat.le_of_ble_eq_true rfl, Nat.le_of_ble_eq_true rfl, Nat.le_of_ble_eq_true rfl, rfl⟩ (s_220 kc (r20 + (4 : Int32)) m21 _ h) ?_
          rintro _ m23 ⟨r22, rfl, h⟩
          refine it_V.at (pc1 := 105) (ls1 := [some (.ref 66), some (.int x0), some (.int x1), some (.int x2), some (.int x3), some (.int x4), some (.int r16), none]) (st1 := [(.int r22), (.int x3)]) (mem1 := m23) rfl rfl rfl rfl ?_
          refine it_V.sN it_cd305 it_m305 1 (pc1 := (if x3 ≤ r22 then 116 else 108)) (ls1 := [some (.ref 66), some (.int x0), some (.int x1), some (.int x2), some (.int x3), some (.int x4), some (.int r16), none]) (st1 := []) (mem1 := m23) rfl ?_
          refine it_V.ite (fun c24 => ?_) (fun c24 => ?_)
          · have h := h.1 c24
            refine it_V.sN it_cd305 it_m305 3 (pc1 := 121) (ls1 := [some (.ref 66), some (.int x0), some (.int x1), some (.int x2), some (.int x3), some (.int x4), some (.int r16), none]) (st1 := [(.int x3), (.int r16), (.ref 66)]) (mem1 := m23) rfl ?_
            refine it_V.call it_cd305 it_m305 rfl it_m306 [(.ref 66), (.int r16), (.int x3)] [] rfl rfl ⟨Nat.le_of_ble_eq_true rfl, Nat.le_of_ble_eq_true rfl, Nat.le_of_ble_eq_true rfl, Nat.le_of_ble_eq_true rfl, rfl⟩ (s_306 kc r16 x3 m23 _ h) ?_
            rintro _ m26 ⟨r25, rfl, h⟩
            refine it_V.at (pc1 := 124) (ls1 := [some (.ref 66), some (.int x0), some (.int x1), some (.int x2), some (.int x3), some (.int x4), some (.int r16), none]) (st1 := [(.int r25)]) (mem1 := m26) rfl rfl rfl rfl ?_
            refine it_V.sN it_cd305 it_m305 4 (pc1 := (if r25 = (-1 : Int32) then 132 else 142)) (ls1 := [some (.ref 66), some (.int x0), some (.int x1), some (.int x2), some (.int x3), some (.int x4), some (.int r16), some (.int r25)]) (st1 := []) (mem1 := m26) rfl ?_
            refine it_V.ite (fun c27 => ?_) (fun c27 => ?_)
            · have h := h.1 c27
              refine it_V.sN it_cd305 it_m305 3 (pc1 := 136) (ls1 := [some (.ref 66), some (.int x0), some (.int x1), some (.int x2), some (.int x3), some (.int x4), some (.int r16), some (.int r25)]) (st1 := [(.int (11 : Int32)), (.int x0), (.ref 66)]) (mem1 := m26) rfl ?_
              refine it_V.call it_cd305 it_m305 rfl it_m282 [(.ref 66), (.int x0), (.int (11 : Int32))] [] rfl rfl ⟨Nat.le_of_ble_eq_true rfl, Nat.le_of_ble_eq_true rfl, Nat.le_of_ble_eq_true rfl, Nat.le_of_ble_eq_true rfl, rfl⟩ (s_282 kc x0 (11 : Int32) m26 _ h) ?_
              rintro _ m28 ⟨rfl, h⟩
              refine it_V.at (pc1 := 139) (ls1 := [some (.ref 66), some (.int x0), some (.int x1), some (.int x2), some (.int x3), some (.int x4), some (.int r16), some (.int r25)]) (st1 := []) (mem1 := m28) rfl rfl rfl rfl ?_
              refine it_V.sN it_cd305 it_m305 1 (pc1 := 149) (ls1 := [some (.ref 66), some (.int x0), some (.int x1), some (.int x2), some (.int x3), some (.int x4), some (.int r16), some (.int r25)]) (st1 := []) (mem1 := m28) rfl ?_
              refine it_V.weak (l := [none, none, none, none, none, none, none, none]) trivial ?_
              exact s_305_149 kc Φ m28 h
            · have h := h.2 c27
              refine it_V.sN it_cd305 it_m305 3 (pc1 := 146) (ls1 := [some (.ref 66), some (.int x0), some (.int x1), some (.int x2), some (.int x3), some (.int x4), some (.int r16), some (.int r25)]) (st1 := [(.int r25), (.int x0), (.ref 66)]) (mem1 := m26) rfl ?_
              refine it_V.call it_cd305 it_m305 rfl it_m281 [(.ref 66), (.int x0), (.int r25)] [] rfl rfl ⟨Nat.le_of_ble_eq_true rfl, Nat.le_of_ble_eq_true rfl, Nat.le_of_ble_eq_true rfl, Nat.le_of_ble_eq_true rfl, rfl⟩ (s_281 kc x0 r25 m26 _ h) ?_
              rintro _ m29 ⟨rfl, h⟩
              refine it_V.at (pc1 := 149) (ls1 := [some (.ref 66), some (.int x0), some (.int x1), some (.int x2), some (.int x3), some (.int x4), some (.int r16), some (.int r25)]) (st1 := []) (mem1 := m29) rfl rfl rfl rfl ?_
              refine it_V.weak (l := [none, none, none, none, none, none, none, none]) trivial ?_
              exact s_305_149 kc Φ m29 h
          · have h := h.2 c24
            refine it_V.weak (l := [some (.ref 66), some (.int x0), none, none, none, none, none, none]) ⟨rfl, ⟨rfl, trivial⟩⟩ ?_
            exact s_305_108 kc Φ x0 m23 h
set_option maxRecDepth 100000 in
set_option maxHeartbeats 4000000 in
theorem s_296_17 (kc : it_Kc) (Φ : it_Me → Prop) (v1 : Int32) (m : it_Me) (h : w_296_17 kc Φ v1 m) : it_V kc it_sh0 296 17 [some (.ref 66), some (.int v1), none, none, none, none, none, none] [] m (it_Pv Φ) := by
  rw [w_296_17] at h
  refine it_V.sN it_cd296 it_m296 3 (pc1 := 21) (ls1 := [some (.ref 66), some (.int v1), none, none, none, none, none, none]) (st1 := [(.int (11 : Int32)), (.int v1), (.ref 66)]) (mem1 := m) rfl ?_
  refine it_V.call it_cd296 it_m296 rfl it_m282 [(.ref 66), (.int v1), (.int (11 : Int32))] [] rfl rfl ⟨Nat.le_of_ble_eq_true rfl, Nat.le_of_ble_eq_true rfl, Nat.le_of_ble_eq_true rfl, Nat.le_of_ble_eq_true rfl, rfl⟩ (s_282 kc v1 (11 : Int32) m _ h) ?_
  rintro _ m1 ⟨rfl, h⟩
  refine it_V.at (pc1 := 24) (ls1 := [some (.ref 66), some (.int v1), none, none, none, none, none, none]) (st1 := []) (mem1 := m1) rfl rfl rfl rfl ?_
  exact it_V.ret it_cd296 it_m296 rfl rfl ⟨rfl, h⟩
set_option maxRecDepth 100000 in
set_option maxHeartbeats 4000000 in
theorem s_296_68 (kc : it_Kc) (Φ : it_Me → Prop) (m : it_Me) (h : w_296_68 kc Φ m) : it_V kc it_sh0 296 68 [none, none, none, none, none, none, none, none] [] m (it_Pv Φ) := by
  rw [w_296_68] at h
  exact it_V.ret it_cd296 it_m296 rfl rfl ⟨rfl, h⟩
set_option maxRecDepth 100000 in
set_option maxHeartbeats 4000000 in
theorem s_296_39 (kc : it_Kc) (Φ : it_Me → Prop) (v1 : Int32) (m : it_Me) (h : w_296_39 kc Φ v1 m) : it_V kc it_sh0 296 39 [some (.ref 66), some (.int v1), none, none, none, none, none, none] [] m (it_Pv Φ) := by
  rw [w_296_39] at h
  refine it_V.sN it_cd296 it_m296 3 (pc1 := 42) (ls1 := [some (.ref 66), some (.int v1), none, none, none, none, none, none]) (st1 := [(.int (4 : Int32)), (.int v1), (.ref 66)]) (mem1 := m) rfl ?_
  refine it_V.call it_cd296 it_m296 rfl it_m281 [(.ref 66), (.int v1), (.int (4 : Int32))] [] rfl rfl ⟨Nat.le_of_ble_eq_true rfl, Nat.le_of_ble_eq_true rfl, Nat.le_of_ble_eq_true rfl, Nat.le_of_ble_eq_true rfl, rfl⟩ (s_281 kc v1 (4 : Int32) m _ h) ?_
  rintro _ m1 ⟨rfl, h⟩
  refine it_V.at (pc1 := 45) (ls1 := [some (.ref 66), some (.int v1), none, none, none, none, none, none]) (st1 := []) (mem1 := m1) rfl rfl rfl rfl ?_
  refine it_V.sN it_cd296 it_m296 1 (pc1 := 68) (ls1 := [some (.ref 66), some (.int v1), none, none, none, none, none, none]) (st1 := []) (mem1 := m1) rfl ?_
  refine it_V.weak (l := [none, none, none, none, none, none, none, none]) trivial ?_
  exact s_296_68 kc Φ m1 h
set_option maxRecDepth 100000 in
set_option maxHeartbeats 4000000 in
theorem s_296_92 (kc : it_Kc) (Φ : it_Me → Prop) (v1 : Int32) (m : it_Me) (h : w_296_92 kc Φ v1 m) : it_V kc it_sh0 296 92 [some (.ref 66), some (.int v1), none, none, none, none, none, none] [] m (it_Pv Φ) := by
  rw [w_296_92] at h
  refine it_V.sN it_cd296 it_m296 3 (pc1 := 96) (ls1 := [some (.ref 66), some (.int v1), none, none, none, none, none, none]) (st1 := [(.int (10 : Int32)), (.int v1), (.ref 66)]) (mem1 := m) rfl ?_
  refine it_V.call it_cd296 it_m296 rfl it_m282 [(.ref 66), (.int v1), (.int (10 : Int32))] [] rfl rfl ⟨Nat.le_of_ble_eq_true rfl, Nat.le_of_ble_eq_true rfl, Nat.le_of_ble_eq_true rfl, Nat.le_of_ble_eq_true rfl, rfl⟩ (s_282 kc v1 (10 : Int32) m _ h) ?_
  rintro _ m1 ⟨rfl, h⟩
  refine it_V.at (pc1 := 99) (ls1 := [some (.ref 66), some (.int v1), none, none, none, none, none, none]) (st1 := []) (mem1 := m1) rfl rfl rfl rfl ?_
  exact it_V.ret it_cd296 it_m296 rfl rfl ⟨rfl, h⟩
set_option maxRecDepth 100000 in
set_option maxHeartbeats 4000000 in
theorem s_296_345 (kc : it_Kc) (Φ : it_Me → Prop) (m : it_Me) (h : w_296_345 kc Φ m) : it_V kc it_sh0 296 345 [none, none, none, none, none, none, none, none] [] m (it_Pv Φ) := by
  rw [w_296_345] at h
  exact it_V.ret it_cd296 it_m296 rfl rfl ⟨rfl, h⟩
set_option maxRecDepth 100000 in
set_option maxHeartbeats 4000000 in
theorem s_296_115 (kc : it_Kc) (Φ : it_Me → Prop) (v1 : Int32) (v2 : Int32) (v3 : Int32) (v4 : Int32) (v5 : Int32) (u0 : Int32) (m : it_Me) (h : w_296_115 kc Φ v1 v2 v3 v4 v5 u0 m) : it_V kc it_sh0 296 115 [some (.ref 66), some (.int v1), some (.int v2), some (.int v3), some (.int v4), some (.int v5), none, none] [(.int u0)] m (it_Pv Φ) := by
  rw [w_296_115] at h
  refine it_V.sN it_cd296 it_m296 4 (pc1 := (if u0 = (-1 : Int32) then 123 else 131)) (ls1 := [some (.ref 66), some (.int v1), some (.int v2), some (.int v3), some (.int v4), some (.int v5), some (.int u0), none]) (st1 := []) (mem1 := m) rfl ?_
  refine it_V.ite (fun c1 => ?_) (fun c1 => ?_)
  · have h := h.1 c1
    refine it_V.sN it_cd296 it_m296 3 (pc1 := 127) (ls1 := [some (.ref 66), some (.int v1), some (.int v2), some (.int v3), some (.int v4), some (.int v5), some (.int u0), none]) (st1 := [(.int (9 : Int32)), (.int v1), (.ref 66)]) (mem1 := m) rfl ?_
    refine it_V.call it_cd296 it_m296 rfl it_m282 [(.ref 66), (.int v1), (.int (9 : Int32))] [] rfl rfl ⟨Nat.le_of_ble_eq_true rfl, Nat.le_of_ble_eq_true rfl, Nat.le_of_ble_eq_true rfl, Nat.le_of_ble_eq_true rfl, rfl⟩ (s_282 kc v1 (9 : Int32) m _ h) ?_
    rintro _ m2 ⟨rfl, h⟩
    refine it_V.at (pc1 := 130) (ls1 := [some (.ref 66), some (.int v1), some (.int v2), some (.int v3), some (.int v4), some (.int v5), some (.int u0), none]) (st1 := []) (mem1 := m2) rfl rfl rfl rfl ?_
    exact it_V.ret it_cd296 it_m296 rfl rfl ⟨rfl, h⟩
  · have h := h.2 c1
    refine it_V.sN it_cd296 it_m296 1 (pc1 := 132) (ls1 := [some (.ref 66), some (.int v1), some (.int v2), some (.int v3), some (.int v4), some (.int v5), some (.int u0), none]) (st1 := [(.int v2)]) (mem1 := m) rfl ?_
    refine it_V.sN it_cd296 it_m296 1 (pc1 := (if v2 = (0 : Int32) then 180 else (if v2 = (1 : Int32) then 199 else (if v2 = (2 : Int32) then 212 else (if v2 = (3 : Int32) then 223 else (if v2 = (4 : Int32) then 240 else (if v2 = (5 : Int32) then 252 else (if v2 = (6 : Int32) then 267 else (if v2 = (7 : Int32) then 286 else 301))))))))) (ls1 := [some (.ref 66), some (.int v1), some (.int v2), some (.int v3), some (.int v4), some (.int v5), some (.int u0), none]) (st1 := []) (mem1 := m) rfl ?_
    refine it_V.ite (fun c3 => ?_) (fun c3 => ?_)
    · have h := h.1 c3
      refine it_V.sN it_cd296 it_m296 4 (pc1 := 185) (ls1 := [some (.ref 66), some (.int v1), some (.int v2), some (.int v3), some (.int v4), some (.int v5), some (.int u0), none]) (st1 := [(.int v2), (.int u0), (.int v1), (.ref 66)]) (mem1 := m) rfl ?_
      refine it_V.call it_cd296 it_m296 rfl it_m269 [(.int u0), (.int v2)] [(.int v1), (.ref 66)] rfl rfl ⟨Nat.le_of_ble_eq_true rfl, Nat.le_of_ble_eq_true rfl, Nat.le_of_ble_eq_true rfl, Nat.le_of_ble_eq_true rfl, rfl⟩ (s_269 kc u0 v2 m _ h) ?_
      rintro _ m5 ⟨r4, rfl, h⟩
      refine it_V.at (pc1 := 188) (ls1 := [some (.ref 66), some (.int v1), some (.int v2), some (.int v3), some (.int v4), some (.int v5), some (.int u0), none]) (st1 := [(.int r4), (.int v1), (.ref 66)]) (mem1 := m5) rfl rfl rfl rfl ?_
      refine it_V.sN it_cd296 it_m296 3 (pc1 := 193) (ls1 := [some (.ref 66), some (.int v1), some (.int v2), some (.int v3), some (.int v4), some (.int v5), some (.int u0), none]) (st1 := [(.int v5), (.int v4), (.int v3), (.int r4), (.int v1), (.ref 66)]) (mem1 := m5) rfl ?_
      refine it_V.call it_cd296 it_m296 rfl it_m298 [(.ref 66), (.int v1), (.int r4), (.int v3), (.int v4), (.int v5)] [] rfl rfl ⟨Nat.le_of_ble_eq_true rfl, Nat.le_of_ble_eq_true rfl, Nat.le_of_ble_eq_true rfl, Nat.le_of_ble_eq_true rfl, rfl⟩ (s_298 kc v1 r4 v3 v4 v5 m5 _ h) ?_
      rintro _ m6 ⟨rfl, h⟩
      refine it_V.at (pc1 := 196) (ls1 := [some (.ref 66), some (.int v1), some (.int v2), some (.int v3), some (.int v4), some (.int v5), some (.int u0), none]) (st1 := []) (mem1 := m6) rfl rfl rfl rfl ?_
      refine it_V.sN it_cd296 it_m296 1 (pc1 := 345) (ls1 := [some (.ref 66), some (.int v1), some (.int v2), some (.int v3), some (.int v4), some (.int v5), some (.int u0), none]) (st1 := []) (mem1 := m6) rfl ?_
      refine it_V.weak (l := [none, none, none, none, none, none, none, none]) trivial ?_
      exact s_296_345 kc Φ m6 h
    · have h := h.2 c3
      refine it_V.ite (fun c7 => ?_) (fun c7 => ?_)
      · have h := h.1 c7
        refine it_V.sN it_cd296 it_m296 5 (pc1 := 206) (ls1 := [some (.ref 66), some (.int v1), some (.int v2), some (.int v3), some (.int v4), some (.int v5), some (.int u0), none]) (st1 := [(.int v4), (.int v3), (.int u0), (.int v1), (.ref 66)]) (mem1 := m) rfl ?_
        refine it_V.call it_cd296 it_m296 rfl it_m299 [(.ref 66), (.int v1), (.int u0), (.int v3), (.int v4)] [] rfl rfl ⟨Nat.le_of_ble_eq_true rfl, Nat.le_of_ble_eq_true rfl, Nat.le_of_ble_eq_true rfl, Nat.le_of_ble_eq_true rfl, rfl⟩ (s_299 kc v1 u0 v3 v4 m _ h) ?_
        rintro _ m8 ⟨rfl, h⟩
        refine it_V.at (pc1 := 209) (ls1 := [some (.ref 66), some (.int v1), some (.int v2), some (.int v3), some (.int v4), some (.int v5), some (.int u0), none]) (st1 := []) (mem1 := m8) rfl rfl rfl rfl ?_
        refine it_V.sN it_cd296 it_m296 1 (pc1 := 345) (ls1 := [some (.ref 66), some (.int v1), some (.int v2), some (.int v3), some (.int v4), some (.int v5), some (.int u0), none]) (st1 := []) (mem1 := m8) rfl ?_
        refine it_V.weak (l := [none, none, none, none, none, none, none, none]) trivial ?_
        exact s_296_345 kc Φ m8 h
      · have h := h.2 c7
        refine it_V.ite (fun c9 => ?_) (fun c9 => ?_)
        · have h := h.1 c9
          refine it_V.sN it_cd296 it_m296 4 (pc1 := 217) (ls1 := [some (.ref 66), some (.int v1), some (.int v2), some (.int v3), some (.int v4), some (.int v5), some (.int u0), none]) (st1 := [(.int v4), (.int v3), (.int v1), (.ref 66)]) (mem1 := m) rfl ?_
          refine it_V.call it_cd296 it_m296 rfl it_m300 [(.ref 66), (.int v1), (.int v3), (.int v4)] [] rfl rfl ⟨Nat.le_of_ble_eq_true rfl, Nat.le_of_ble_eq_true rfl, Nat.le_of_ble_eq_true rfl, Nat.le_of_ble_eq_true rfl, rfl⟩ (s_300 kc v1 v3 v4 m _ h) ?_
          rintro _ m10 ⟨rfl, h⟩
          refine it_V.at (pc1 := 220) (ls1 := [some (.ref 66), some (.int v1), some (.int v2), some (.int v3), some (.int v4), some (.int v5), some (.int u0), none]) (st1 := []) (mem1 := m10) rfl rfl rfl rfl ?_
          refine it_V.sN it_cd296 it_m296 1 (pc1 := 345) (ls1 := [some (.ref 66), some (.int v1), some (.int v2), some (.int v3), some (.int v4), some (.int v5), some (.int u0), none]) (st1 := []) (mem1 := m10) rfl ?_
          refine it_V.weak (l := [none, none, none, none, none, none, none, none]) trivial ?_
          exact s_296_345 kc Φ m10 h
        · have h := h.2 c9
          refine it_V.ite (fun c11 => ?_) (fun c11 => ?_)
          · have h := h.1 c11
            refine it_V.sN it_cd296 it_m296 4 (pc1 := 228) (ls1 := [some (.ref 66), some (.int v1), some (.int v2), some (.int v3), some (.int v4), some (.int v5), some (.int u0), none]) (st1 := [(.int v2), (.int u0), (.int v1), (.ref 66)]) (mem1 := m) rfl ?_
            refine it_V.call it_cd296 it_m296 rfl it_m269 [(.int u0), (.int v2)] [(.int v1), (.ref 66)] rfl rfl ⟨Nat.le_of_ble_eq_true rfl, Nat.le_of_ble_eq_true rfl, Nat.le_of_ble_eq_true rfl, Nat.le_of_ble_eq_true rfl, rfl⟩ (s_269 kc u0 v2 m _ h) ?_
            rintro _ m13 ⟨r12, rfl, h⟩
            refine it_V.at (pc1 := 231) (ls1 := [some (.ref 66), some (.int v1), some (.int v2), some (.int v3), some (.int v4), some (.int v5), some (.int u0), none]) (st1 := [(.int r12), (.int v1), (.ref 66)]) (mem1 := m13) rfl rfl rfl rfl ?_
            refine it_V.sN it_cd296 it_m296 2 (pc1 := 234) (ls1 := [some (.ref 66), some (.int v1), some (.int v2), some (.int v3), some (.int v4), some (.int v5), some (.int u0), none]) (st1 := [(.int v4), (.int v3), (.int r12), (.int v1), (.ref 66)]) (mem1 := m13) rfl ?_
            refine it_V.call it_cd296 it_m296 rfl it_m301 [(.ref 66), (.int v1), (.int r12), (.int v3), (.int v4)] [] rfl rfl ⟨Nat.le_of_ble_eq_true rfl, Nat.le_of_ble_eq_true rfl, Nat.le_of_ble_eq_true rfl, Nat.le_of_ble_eq_true rfl, rfl⟩ (s_301 kc v1 r12 v3 v4 m13 _ h) ?_
            rintro _ m14 ⟨rfl, h⟩
            refine it_V.at (pc1 := 237) (ls1 := [some (.ref 66), some (.int v1), some (.int v2), some (.int v3), some (.int v4), some (.int v5), some (.int u0), none]) (st1 := []) (mem1 := m14) rfl rfl rfl rfl ?_
            refine it_V.sN it_cd296 it_m296 1 (pc1 := 345) (ls1 := [some (.ref 66), some (.int v1), some (.int v2), some (.int v3), some (.int v4), some (.int v5), some (.int u0), none]) (st1 := []) (mem1 := m14) rfl ?_
            refine it_V.weak (l := [none, none, none, none, none, none, none, none]) trivial ?_
            exact s_296_345 kc Φ m14 h
          · have h := h.2 c11
            refine it_V.ite (fun c15 => ?_) (fun c15 => ?_)
            · have h := h.1 c15
              refine it_V.sN it_cd296 it_m296 4 (pc1 := 246) (ls1 := [some (.ref 66), some (.int v1), some (.int v2), some (.int v3), some (.int v4), some (.int v5), some (.int u0), none]) (st1 := [(.int v4), (.int u0), (.int v1), (.ref 66)]) (mem1 := m) rfl ?_
              refine it_V.call it_cd296 it_m296 rfl it_m302 [(.ref 66), (.int v1), (.int u0), (.int v4)] [] rfl rfl ⟨Nat.le_of_ble_eq_true rfl, Nat.le_of_ble_eq_true rfl, Nat.le_of_ble_eq_true rfl, Nat.le_of_ble_eq_true rfl, rfl⟩ (s_302 kc v1 u0 v4 m _ h) ?_
              rintro _ m16 ⟨rfl, h⟩
              refine it_V.at (pc1 := 249) (ls1 := [some (.ref 66), some (.int v1), some (.int v2), some (.int v3), some (.int v4), some (.int v5), some (.int u0), none]) (st1 := []) (mem1 := m16) rfl rfl rfl rfl ?_
              refine it_V.sN it_cd296 it_m296 1 (pc1 := 345) (ls1 := [some (.ref 66), some (.int v1), some (.int v2), some (.int v3), some (.int v4), some (.int v5), some (.int u0), none]) (st1 := []) (mem1 := m16) rfl ?_
              refine it_V.weak (l := [none, none, none, none, none, none, none, none]) trivial ?_
              exact s_296_345 kc Φ m16 h
            · have h := h.2 c15
              refine it_V.ite (fun c17 => ?_) (fun c17 => ?_)
              · have h := h.1 c17
                refine it_V.sN it_cd296 it_m296 6 (pc1 := 261) (ls1 := [some (.ref 66), some (.int v1), some (.int v2), some (.int v3), some (.int v4), some (.int v5), some (.int u0), none]) (st1 := [(.int v5), (.int v4), (.int v3), (.int u0), (.int v1), (.ref 66)]) (mem1 := m) rfl ?_
                refine it_V.call it_cd296 it_m296 rfl it_m303 [(.ref 66), (.int v1), (.int u0), (.int v3), (.int v4), (.int v5)] [] rfl rfl ⟨Nat.le_of_ble_eq_true rfl, Nat.le_of_ble_eq_true rfl, Nat.le_of_ble_eq_true rfl, Nat.le_of_ble_eq_true rfl, rfl⟩ (s_303 kc v1 u0 v3 v4 v5 m _ h) ?_
                rintro _ m18 ⟨rfl, h⟩
                refine it_V.at (pc1 := 264) (ls1 := [some (.ref 66), some (.int v1), some (.int v2), some (.int v3), some (.int v4), some (.int v5), some (.int u0), none]) (st1 := []) (mem1 := m18) rfl rfl rfl rfl ?_
                refine it_V.sN it_cd296 it_m296 1 (pc1 := 345) (ls1 := [some (.ref 66), some (.int v1), some (.int v2), some (.int v3), some (.int v4), some (.int v5), some (.int u0), none]) (st1 := []) (mem1 := m18) rfl ?_
                refine it_V.weak (l := [none, none, none, none, none, none, none, none]) trivial ?_
                exact s_296_345 kc Φ m18 h
              · have h := h.2 c17
                refine it_V.ite (fun c19 => ?_) (fun c19 => ?_)
                · have h := h.1 c19
                  refine it_V.sN it_cd296 it_m296 4 (pc1 := 272) (ls1 := [some (.ref 66), some (.int v1), some (.int v2), some (.int v3), some (.int v4), some (.int v5), some (.int u0), none]) (st1 := [(.int v2), (.int u0), (.int v1), (.ref 66)]) (mem1 := m) rfl ?_
                  refine it_V.call it_cd296 it_m296 rfl it_m269 [(.int u0), (.int v2)] [(.int v1), (.ref 66)] rfl rfl ⟨Nat.le_of_ble_eq_true rfl, Nat.le_of_ble_eq_true rfl, Nat.le_of_ble_eq_true rfl, Nat.le_of_ble_eq_true rfl, rfl⟩ (s_269 kc u0 v2 m _ h) ?_
                  rintro _ m21 ⟨r20, rfl, h⟩
                  refine it_V.at (pc1 := 275) (ls1 := [some (.ref 66), some (.int v1), some (.int v2), some (.int v3), some (.int v4), some (.int v5), some (.int u0), none]) (st1 := [(.int r20), (.int v1), (.ref 66)]) (mem1 := m21) rfl rfl rfl rfl ?_
                  refine it_V.sN it_cd296 it_m296 3 (pc1 := 280) (ls1 := [some (.ref 66), some (.int v1), some (.int v2), some (.int v3), some (.int v4), some (.int v5), some (.int u0), none]) (st1 := [(.int v5), (.int v4), (.int v3), (.int r20), (.int v1), (.ref 66)]) (mem1 := m21) rfl ?_
                  refine it_V.call it_cd296 it_m296 rfl it_m304 [(.ref 66), (.int v1), (.int r20), (.int v3), (.int v4), (.int v5)] [] rfl rfl ⟨Nat.le_of_ble_eq_true rfl, Nat.le_of_ble_eq_true rfl, Nat.le_of_ble_eq_true rfl, Nat.le_of_ble_eq_true rfl, rfl⟩ (s_304 kc v1 r20 v3 v4 v5 m21 _ h) ?_
                  rintro _ m22 ⟨rfl, h⟩
                  refine it_V.at (pc1 := 283) (ls1 := [some (.ref 66), some (.int v1), some (.int v2), some (.int v3), some (.int v4), some (.int v5), some (.int u0), none]) (st1 := []) (mem1 := m22) rfl rfl rfl rfl ?_
                  refine it_V.sN it_cd296 it_m296 1 (pc1 := 345) (ls1 := [some (.ref 66), some (.int v1), some (.int v2), some (.int v3), some (.int v4), some (.int v5), some (.int u0), none]) (st1 := []) (mem1 := m22) rfl ?_
                  refine it_V.weak (l := [none, none, none, none, none, none, none, none]) trivial ?_
                  exact s_296_345 kc Φ m22 h
                · have h := h.2 c19
                  refine it_V.ite (fun c23 => ?_) (fun c23 => ?_)
                  · have h := h.1 c23
                    refine it_V.sN it_cd296 it_m296 6 (pc1 := 295) (ls1 := [some (.ref 66), some (.int v1), some (.int v2), some (.int v3), some (.int v4), some (.int v5), some (.int u0), none]) (st1 := [(.int v5), (.int v4), (.int v3), (.int u0), (.int v1), (.ref 66)]) (mem1 := m) rfl ?_
                    refine it_V.call it_cd296 it_m296 rfl it_m305 [(.ref 66), (.int v1), (.int u0), (.int v3), (.int v4), (.int v5)] [] rfl rfl ⟨Nat.le_of_ble_eq_true rfl, Nat.le_of_ble_eq_true rfl, Nat.le_of_ble_eq_true rfl, Nat.le_of_ble_eq_true rfl, rfl⟩ (s_305 kc v1 u0 v3 v4 v5 m _ h) ?_
                    rintro _ m24 ⟨rfl, h⟩
                    refine it_V.at (pc1 := 298) (ls1 := [some (.ref 66), some (.int v1), some (.int v2), some (.int v3), some (.int v4), some (.int v5), some (.int u0), none]) (st1 := []) (mem1 := m24) rfl rfl rfl rfl ?_
                    refine it_V.sN it_cd296 it_m296 1 (pc1 := 345) (ls1 := [some (.ref 66), some (.int v1), some (.int v2), some (.int v3), some (.int v4), some (.int v5), some (.int u0), none]) (st1 := []) (mem1 := m24) rfl ?_
                    refine it_V.weak (l := [none, none, none, none, none, none, none, none]) trivial ?_
                    exact s_296_345 kc Φ m24 h
                  · have h := h.2 c23
                    refine it_V.sN it_cd296 it_m296 4 (pc1 := 307) (ls1 := [some (.ref 66), some (.int v1), some (.int v2), some (.int v3), some (.int v4), some (.int v5), some (.int u0), none]) (st1 := [(.int (0 : Int32)), (.int (8 : Int32)), (.int u0), (.ref 66)]) (mem1 := m) rfl ?_
                    refine it_V.call it_cd296 it_m296 rfl it_m270 [(.int u0), (.int (8 : Int32)), (.int (0 : Int32))] [(.ref 66)] rfl rfl ⟨Nat.le_of_ble_eq_true rfl, Nat.le_of_ble_eq_true rfl, Nat.le_of_ble_eq_true rfl, Nat.le_of_ble_eq_true rfl, rfl⟩ (s_270 kc u0 (8 : Int32) (0 : Int32) m _ h) ?_
                    rintro _ m26 ⟨r25, rfl, h⟩
                    refine it_V.at (pc1 := 310) (ls1 := [some (.ref 66), some (.int v1), some (.int v2), some (.int v3), some (.int v4), some (.int v5), some (.int u0), none]) (st1 := [(.int r25), (.ref 66)]) (mem1 := m26) rfl rfl rfl rfl ?_
                    refine it_V.sN it_cd296 it_m296 2 (pc1 := 312) (ls1 := [some (.ref 66), some (.int v1), some (.int v2), some (.int v3), some (.int v4), some (.int v5), some (.int u0), none]) (st1 := [(.int (r25 + (4 : Int32))), (.ref 66)]) (mem1 := m26) rfl ?_
                    refine it_V.call it_cd296 it_m296 rfl it_m220 [(.ref 66), (.int (r25 + (4 : Int32)))] [] rfl rfl ⟨Nat.le_of_ble_eq_true rfl, Nat.le_of_ble_eq_true rfl, Nat.le_of_ble_eq_true rfl, Nat.le_of_ble_eq_true rfl, rfl⟩ (s_220 kc (r25 + (4 : Int32)) m26 _ h) ?_
                    rintro _ m28 ⟨r27, rfl, h⟩
                    refine it_V.at (pc1 := 315) (ls1 := [some (.ref 66), some (.int v1), some (.int v2), some (.int v3), some (.int v4), some (.int v5), some (.int u0), none]) (st1 := [(.int r27)]) (mem1 := m28) rfl rfl rfl rfl ?_
                    refine it_V.sN it_cd296 it_m296 8 (pc1 := 326) (ls1 := [some (.ref 66), some (.int v1), some (.int v2), some (.int v3), some (.int v4), some (.int v5), some (.int u0), some (.int r27)]) (st1 := [(.int (0 : Int32)), (.int (8 : Int32)), (.int u0), (.ref 66), (.ref 66), (.int v1), (.ref 66)]) (mem1 := m28) rfl ?_
                    refine it_V.call it_cd296 it_m296 rfl it_m270 [(.int u0), (.int (8 : Int32)), (.int (0 : Int32))] [(.ref 66), (.ref 66), (.int v1), (.ref 66)] rfl rfl ⟨Nat.le_of_ble_eq_true rfl, Nat.le_of_ble_eq_true rfl, Nat.le_of_ble_eq_true rfl, Nat.le_of_ble_eq_true rfl, rfl⟩ (s_270 kc u0 (8 : Int32) (0 : Int32) m28 _ h) ?_
                    rintro _ m30 ⟨r29, rfl, h⟩
                    refine it_V.at (pc1 := 329) (ls1 := [some (.ref 66), some (.int v1), some (.int v2), some (.int v3), some (.int v4), some (.int v5), some (.int u0), some (.int r27)]) (st1 := [(.int r29), (.ref 66), (.ref 66), (.int v1), (.ref 66)]) (mem1 := m30) rfl rfl rfl rfl ?_
                    refine it_V.call it_cd296 it_m296 rfl it_m220 [(.ref 66), (.int r29)] [(.ref 66), (.int v1), (.ref 66)] rfl rfl ⟨Nat.le_of_ble_eq_true rfl, Nat.le_of_ble_eq_true rfl, Nat.le_of_ble_eq_true rfl, Nat.le_of_ble_eq_true rfl, rfl⟩ (s_220 kc r29 m30 _ h) ?_
                    rintro _ m32 ⟨r31, rfl, h⟩
                    refine it_V.at (pc1 := 332) (ls1 := [some (.ref 66), some (.int v1), some (.int v2), some (.int v3), some (.int v4), some (.int v5), some (.int u0), some (.int r27)]) (st1 := [(.int r31), (.ref 66), (.int v1), (.ref 66)]) (mem1 := m32) rfl rfl rfl rfl ?_
                    refine it_V.sN it_cd296 it_m296 2 (pc1 := 336) (ls1 := [some (.ref 66), some (.int v1), some (.int v2), some (.int v3), some (.int v4), some (.int v5), some (.int u0), some (.int r27)]) (st1 := [(.int r27), (.int v4), (.int r31), (.ref 66), (.int v1), (.ref 66)]) (mem1 := m32) rfl ?_
                    refine it_V.call it_cd296 it_m296 rfl it_m297 [(.int v4), (.int r27)] [(.int r31), (.ref 66), (.int v1), (.ref 66)] rfl rfl ⟨Nat.le_of_ble_eq_true rfl, Nat.le_of_ble_eq_true rfl, Nat.le_of_ble_eq_true rfl, Nat.le_of_ble_eq_true rfl, rfl⟩ (s_297 kc v4 r27 m32 _ h) ?_
                    rintro _ m34 ⟨r33, rfl, h⟩
                    refine it_V.at (pc1 := 339) (ls1 := [some (.ref 66), some (.int v1), some (.int v2), some (.int v3), some (.int v4), some (.int v5), some (.int u0), some (.int r27)]) (st1 := [(.int r33), (.int r31), (.ref 66), (.int v1), (.ref 66)]) (mem1 := m34) rfl rfl rfl rfl ?_
                    refine it_V.call it_cd296 it_m296 rfl it_m222 [(.ref 66), (.int r31), (.int r33)] [(.int v1), (.ref 66)] rfl rfl ⟨Nat.le_of_ble_eq_true rfl, Nat.le_of_ble_eq_true rfl, Nat.le_of_ble_eq_true rfl, Nat.le_of_ble_eq_true rfl, rfl⟩ (s_222 kc r31 r33 m34 _ h) ?_
                    rintro _ m36 ⟨r35, rfl, h⟩
                    refine it_V.at (pc1 := 342) (ls1 := [some (.ref 66), some (.int v1), some (.int v2), some (.int v3), some (.int v4), some (.int v5), some (.int u0), some (.int r27)]) (st1 := [(.int r35), (.int v1), (.ref 66)]) (mem1 := m36) rfl rfl rfl rfl ?_
                    refine it_V.call it_cd296 it_m296 rfl it_m281 [(.ref 66), (.int v1), (.int r35)] [] rfl rfl ⟨Nat.le_of_ble_eq_true rfl, Nat.le_of_ble_eq_true rfl, Nat.le_of_ble_eq_true rfl, Nat.le_of_ble_eq_true rfl, rfl⟩ (s_281 kc v1 r35 m36 _ h) ?_
                    rintro _ m37 ⟨rfl, h⟩
                    refine it_V.at (pc1 := 345) (ls1 := [some (.ref 66), some (.int v1), some (.int v2), some (.int v3), some (.int v4), some (.int v5), some (.int u0), some (.int r27)]) (st1 := []) (mem1 := m37) rfl rfl rfl rfl ?_
                    refine it_V.weak (l := [none, none, none, none, none, none, none, none]) trivial ?_
                    exact s_296_345 kc Φ m37 h
set_option maxRecDepth 100000 in
set_option maxHeartbeats 4000000 in
theorem s_296_100 (kc : it_Kc) (Φ : it_Me → Prop) (v1 : Int32) (v2 : Int32) (v3 : Int32) (v4 : Int32) (v5 : Int32) (m : it_Me) (h : w_296_100 kc Φ v1 v2 v3 v4 v5 m) : it_V kc it_sh0 296 100 [some (.ref 66), some (.int v1), some (.int v2), some (.int v3), some (.int v4), some (.int v5), none, none] [] m (it_Pv Φ) := by
  rw [w_296_100] at h
  refine it_V.sN it_cd296 it_m296 3 (pc1 := (if v2 = (2 : Int32) then 105 else 109)) (ls1 := [some (.ref 66), some (.int v1), some (.int v2), some (.int v3), some (.int v4), some (.int v5), none, none]) (st1 := []) (mem1 := m) rfl ?_
  refine it_V.ite (fun c1 => ?_) (fun c1 => ?_)
  · have h := h.1 c1
    refine it_V.sN it_cd296 it_m296 2 (pc1 := 115) (ls1 := [some (.ref 66), some (.int v1), some (.int v2), some (.int v3), some (.int v4), some (.int v5), none, none]) (st1 := [(.int (0 : Int32))]) (mem1 := m) rfl ?_
    refine it_V.weak (l := [some (.ref 66), some (.int v1), some (.int v2), some (.int v3), some (.int v4), some (.int v5), none, none]) ⟨rfl, ⟨rfl, ⟨rfl, ⟨rfl, ⟨rfl, ⟨rfl, trivial⟩⟩⟩⟩⟩⟩ ?_
    exact s_296_115 kc Φ v1 v2 v3 v4 v5 (0 : Int32) m h
  · have h := h.2 c1
    refine it_V.sN it_cd296 it_m296 3 (pc1 := 112) (ls1 := [some (.ref 66), some (.int v1), some (.int v2), some (.int v3), some (.int v4), some (.int v5), none, none]) (st1 := [(.int v2), (.int v1), (.ref 66)]) (mem1 := m) rfl ?_
    refine it_V.call it_cd296 it_m296 rfl it_m273 [(.ref 66), (.int v1), (.int v2)] [] rfl rfl ⟨Nat.le_of_ble_eq_true rfl, Nat.le_of_ble_eq_true rfl, Nat.le_of_ble_eq_true rfl, Nat.le_of_ble_eq_true rfl, rfl⟩ (s_273 kc v1 v2 m _ h) ?_
    rintro _ m3 ⟨r2, rfl, h⟩
    refine it_V.at (pc1 := 115) (ls1 := [some (.ref 66), some (.int v1), some (.int v2), some (.int v3), some (.int v4), some (.int v5), none, none]) (st1 := [(.int r2)]) (mem1 := m3) rfl rfl rfl rfl ?_
    refine it_V.weak (l := [some (.ref 66), some (.int v1), some (.int v2), some (.int v3), some (.int v4), some (.int v5), none, none]) ⟨rfl, ⟨rfl, ⟨rfl, ⟨rfl, ⟨rfl, ⟨rfl, trivial⟩⟩⟩⟩⟩⟩ ?_
    exact s_296_115 kc Φ v1 v2 v3 v4 v5 r2 m3 h
set_option maxRecDepth 100000 in
set_option maxHeartbeats 4000000 in
theorem s_296 (kc : it_Kc) (x0 : Int32) (x1 : Int32) (x2 : Int32) (x3 : Int32) (x4 : Int32) (m : it_Me) (Φ : it_Me → Prop) (h : w_296 kc x0 x1 x2 x3 x4 m Φ) : it_V kc it_sh0 296 0 (it_loc0 [(.ref 66), (.int x0), (.int x1), (.int x2), (.int x3), (.int x4)] 8) [] m (it_Pv Φ) := by
  rw [w_296] at h
  refine it_V.at (pc1 := 0) (ls1 := [some (.ref 66), some (.int x0), some (.int x1), some (.int x2), some (.int x3), some (.int x4), none, none]) (st1 := []) (mem1 := m) rfl rfl rfl rfl ?_
  refine it_V.sN it_cd296 it_m296 1 (pc1 := 1) (ls1 := [some (.ref 66), some (.int x0), some (.int x1), some (.int x2), some (.int x3), some (.int x4), none, none]) (st1 := [(.int x1)]) (mem1 := m) rfl ?_
  refine it_V.call it_cd296 it_m296 rfl it_m287 [(.int x1)] [] rfl rfl ⟨Nat.le_of_ble_eq_true rfl, Nat.le_of_ble_eq_true rfl, Nat.le_of_ble_eq_true rfl, Nat.le_of_ble_eq_true rfl, rfl⟩ (s_287 kc x1 m _ h) ?_
  rintro _ m2 ⟨r1, rfl, h⟩
  refine it_V.at (pc1 := 4) (ls1 := [some (.ref 66), some (.int x0), some (.int x1), some (.int x2), some (.int x3), some (.int x4), none, none]) (st1 := [(.int r1)]) (mem1 := m2) rfl rfl rfl rfl ?_
  refine it_V.sN it_cd296 it_m296 1 (pc1 := (if r1 = 0 then 17 else 7)) (ls1 := [some (.ref 66), some (.int x0), some (.int x1), some (.int x2), some (.int x3), some (.int x4), none, none]) (st1 := []) (mem1 := m2) rfl ?_
  refine it_V.ite (fun c3 => ?_) (fun c3 => ?_)
  · have h := h.1 c3
    refine it_V.weak (l := [some (.ref 66), some (.int x0), none, none, none, none, none, none]) ⟨rfl, ⟨rfl, trivial⟩⟩ ?_
    exact s_296_17 kc Φ x0 m2 h
  · have h := h.2 c3
    refine it_V.sN it_cd296 it_m296 4 (pc1 := 11) (ls1 := [some (.ref 66), some (.int x0), some (.int x1), some (.int x2), some (.int x3), some (.int x4), none, none]) (st1 := [(.int x2), (.int x1), (.int x0), (.ref 66)]) (mem1 := m2) rfl ?_
    refine it_V.call it_cd296 it_m296 rfl it_m294 [(.ref 66), (.int x0), (.int x1), (.int x2)] [] rfl rfl ⟨Nat.le_of_ble_eq_true rfl, Nat.le_of_ble_eq_true rfl, Nat.le_of_ble_eq_true rfl, Nat.le_of_ble_eq_true rfl, rfl⟩ (s_294 kc x0 x1 x2 m2 _ h) ?_
    rintro _ m5 ⟨r4, rfl, h⟩
    refine it_V.at (pc1 := 14) (ls1 := [some (.ref 66), some (.int x0), some (.int x1), some (.int x2), some (.int x3), some (.int x4), none, none]) (st1 := [(.int r4)]) (mem1 := m5) rfl rfl rfl rfl ?_
    refine it_V.sN it_cd296 it_m296 1 (pc1 := (if r4 = 0 then 25 else 17)) (ls1 := [some (.ref 66), some (.int x0), some (.int x1), some (.int x2), some (.int x3), some (.int x4), none, none]) (st1 := []) (mem1 := m5) rfl ?_
    refine it_V.ite (fun c6 => ?_) (fun c6 => ?_)
    · have h := h.1 c6
      refine it_V.sN it_cd296 it_m296 2 (pc1 := (if x2 = 0 then 29 else 69)) (ls1 := [some (.ref 66), some (.int x0), some (.int x1), some (.int x2), some (.int x3), some (.int x4), none, none]) (st1 := []) (mem1 := m5) rfl ?_
      refine it_V.ite (fun c7 => ?_) (fun c7 => ?_)
      · have h := h.1 c7
        refine it_V.sN it_cd296 it_m296 3 (pc1 := (if x1 = (2 : Int32) then 39 else 34)) (ls1 := [some (.ref 66), some (.int x0), some (.int x1), some (.int x2), some (.int x3), some (.int x4), none, none]) (st1 := []) (mem1 := m5) rfl ?_
        refine it_V.ite (fun c8 => ?_) (fun c8 => ?_)
        · have h := h.1 c8
          refine it_V.weak (l := [some (.ref 66), some (.int x0), none, none, none, none, none, none]) ⟨rfl, ⟨rfl, trivial⟩⟩ ?_
          exact s_296_39 kc Φ x0 m5 h
        · have h := h.2 c8
          refine it_V.sN it_cd296 it_m296 3 (pc1 := (if x1 = (3 : Int32) then 39 else 48)) (ls1 := [some (.ref 66), some (.int x0), some (.int x1), some (.int x2), some (.int x3), some (.int x4), none, none]) (st1 := []) (mem1 := m5) rfl ?_
          refine it_V.ite (fun c9 => ?_) (fun c9 => ?_)
          · have h := h.1 c9
            refine it_V.weak (l := [some (.ref 66), some (.int x0), none, none, none, none, none, none]) ⟨rfl, ⟨rfl, trivial⟩⟩ ?_
            exact s_296_39 kc Φ x0 m5 h
          · have h := h.2 c9
            refine it_V.sN it_cd296 it_m296 3 (pc1 := (if x1 = (6 : Int32) then 54 else 63)) (ls1 := [some (.ref 66), some (.int x0), some (.int x1), some (.int x2), some (.int x3), some (.int x4), none, none]) (st1 := []) (mem1 := m5) rfl ?_
            refine it_V.ite (fun c10 => ?_) (fun c10 => ?_)
            · have h := h.1 c10
              refine it_V.sN it_cd296 it_m296 3 (pc1 := 57) (ls1 := [some (.ref 66), some (.int x0), some (.int x1), some (.int x2), some (.int x3), some (.int x4), none, none]) (st1 := [(.int (2 : Int32)), (.int x0), (.ref 66)]) (mem1 := m5) rfl ?_
              refine it_V.call it_cd296 it_m296 rfl it_m281 [(.ref 66), (.int x0), (.int (2 : Int32))] [] rfl rfl ⟨Nat.le_of_ble_eq_true rfl, Nat.le_of_ble_eq_true rfl, Nat.le_of_ble_eq_true rfl, Nat.le_of_ble_eq_true rfl, rfl⟩ (s_281 kc x0 (2 : Int32) m5 _ h) ?_
              rintro _ m11 ⟨rfl, h⟩
              refine it_V.at (pc1 := 60) (ls1 := [some (.ref 66), some (.int x0), some (.int x1), some (.int x2), some (.int x3), some (.int x4), none, none]) (st1 := []) (mem1 := m11) rfl rfl rfl rfl ?_
              refine it_V.sN it_cd296 it_m296 1 (pc1 := 68) (ls1 := [some (.ref 66), some (.int x0), some (.int x1), some (.int x2), some (.int x3), some (.int x4), none, none]) (st1 := []) (mem1 := m11) rfl ?_
              refine it_V.weak (l := [none, none, none, none, none, none, none, none]) trivial ?_
              exact s_296_68 kc Φ m11 h
            · have h := h.2 c10
              refine it_V.sN it_cd296 it_m296 2 (pc1 := 65) (ls1 := [some (.ref 66), some (.int x0), some (.int x1), some (.int x2), some (.int x3), some (.int x4), none, none]) (st1 := [(.int x0), (.ref 66)]) (mem1 := m5) rfl ?_
              refine it_V.call it_cd296 it_m296 rfl it_m280 [(.ref 66), (.int x0)] [] rfl rfl ⟨Nat.le_of_ble_eq_true rfl, Nat.le_of_ble_eq_true rfl, Nat.le_of_ble_eq_true rfl, Nat.le_of_ble_eq_true rfl, rfl⟩ (s_280 kc x0 m5 _ h) ?_
              rintro _ m12 ⟨rfl, h⟩
              refine it_V.at (pc1 := 68) (ls1 := [some (.ref 66), some (.int x0), some (.int x1), some (.int x2), some (.int x3), some (.int x4), none, none]) (st1 := []) (mem1 := m12) rfl rfl rfl rfl ?_
              refine it_V.weak (l := [none, none, none, none, none, none, none, none]) trivial ?_
              exact s_296_68 kc Φ m12 h
      · have h := h.2 c7
        refine it_V.sN it_cd296 it_m296 2 (pc1 := (if x2 < 0 then 92 else 73)) (ls1 := [some (.ref 66), some (.int x0), some (.int x1), some (.int x2), some (.int x3), some (.int x4), none, none]) (st1 := []) (mem1 := m5) rfl ?_
        refine it_V.ite (fun c13 => ?_) (fun c13 => ?_)
        · have h := h.1 c13
          refine it_V.weak (l := [some (.ref 66), some (.int x0), none, none, none, none, none, none]) ⟨rfl, ⟨rfl, trivial⟩⟩ ?_
          exact s_296_92 kc Φ x0 m5 h
        · have h := h.2 c13
          refine it_V.sN it_cd296 it_m296 4 (pc1 := 77) (ls1 := [some (.ref 66), some (.int x0), some (.int x1), some (.int x2), some (.int x3), some (.int x4), none, none]) (st1 := [(.int x1), (.int x0), (.ref 66), (.int x2)]) (mem1 := m5) rfl ?_
          refine it_V.call it_cd296 it_m296 rfl it_m295 [(.ref 66), (.int x0), (.int x1)] [(.int x2)] rfl rfl ⟨Nat.le_of_ble_eq_true rfl, Nat.le_of_ble_eq_true rfl, Nat.le_of_ble_eq_true rfl, Nat.le_of_ble_eq_true rfl, rfl⟩ (s_295 kc x0 x1 m5 _ h) ?_
          rintro _ m15 ⟨r14, rfl, h⟩
          refine it_V.at (pc1 := 80) (ls1 := [some (.ref 66), some (.int x0), some (.int x1), some (.int x2), some (.int x3), some (.int x4), none, none]) (st1 := [(.int r14), (.int x2)]) (mem1 := m15) rfl rfl rfl rfl ?_
          refine it_V.sN it_cd296 it_m296 1 (pc1 := (if r14 < x2 then 92 else 83)) (ls1 := [some (.ref 66), some (.int x0), some (.int x1), some (.int x2), some (.int x3), some (.int x4), none, none]) (st1 := []) (mem1 := m15) rfl ?_
          refine it_V.ite (fun c16 => ?_) (fun c16 => ?_)
          · have h := h.1 c16
            refine it_V.weak (l := [some (.ref 66), some (.int x0), none, none, none, none, none, none]) ⟨rfl, ⟨rfl, trivial⟩⟩ ?_
            exact s_296_92 kc Φ x0 m15 h
          · have h := h.2 c16
            refine it_V.sN it_cd296 it_m296 2 (pc1 := (if x1 = 0 then 87 else 100)) (ls1 := [some (.ref 66), some (.int x0), some (.int x1), some (.int x2), some (.int x3), some (.int x4), none, none]) (st1 := []) (mem1 := m15) rfl ?_
            refine it_V.ite (fun c17 => ?_) (fun c17 => ?_)
            · have h := h.1 c17
              refine it_V.sN it_cd296 it_m296 3 (pc1 := (if x2 = (4 : Int32) then 92 else 100)) (ls1 := [some (.ref 66), some (.int x0), some (.int x1), some (.int x2), some (.int x3), some (.int x4), none, none]) (st1 := []) (mem1 := m15) rfl ?_
              refine it_V.ite (fun c18 => ?_) (fun c18 => ?_)
              · have h := h.1 c18
                refine it_V.weak (l := [some (.ref 66), some (.int x0), none, none, none, none, none, none]) ⟨rfl, ⟨rfl, trivial⟩⟩ ?_
                exact s_296_92 kc Φ x0 m15 h
              · have h := h.2 c18
                exact s_296_100 kc Φ x0 x1 x2 x3 x4 m15 h
            · have h := h.2 c17
              exact s_296_100 kc Φ x0 x1 x2 x3 x4 m15 h
    · have h := h.2 c6
      refine it_V.weak (l := [some (.ref 66), some (.int x0), none, none, none, none, none, none]) ⟨rfl, ⟨rfl, trivial⟩⟩ ?_
      exact s_296_17 kc Φ x0 m5 h
set_option maxRecDepth 100000 in
set_option maxHeartbeats 4000000 in
theorem s_284_240 (kc : it_Kc) (Φ : it_Me → Prop) (m : it_Me) (h : w_284_240 kc Φ m) : it_V kc it_sh0 284 240 [none, none, none, none, none, none, none] [] m (it_Pv Φ) := by
  rw [w_284_240] at h
  exact it_V.ret it_cd284 it_m284 rfl rfl ⟨rfl, h⟩
set_option maxRecDepth 100000 in
set_option maxHeartbeats 4000000 in
theorem s_284_201 (kc : it_Kc) (Φ : it_Me → Prop) (v2 : Int32) (v3 : Int32) (v4 : Int32) (v5 : Int32) (u1 : Int32) (u2 : Int32) (m : it_Me) (h : w_284_201 kc Φ v2 v3 v4 v5 u1 u2 m) : it_V kc it_sh0 284 201 [none, none, some (.int v2), some (.int v3), some (.int v4), some (.int v5), none] [(.int u2), (.int u1), (.ref 66)] m (it_Pv Φ) := by
  rw [w_284_201] at h
  refine it_V.sN it_cd284 it_m284 4 (pc1 := 207) (ls1 := [none, none, some (.int v2), some (.int v3), some (.int v4), some (.int v5), none]) (st1 := [(.int v5), (.int v4), (.int v3), (.int v2), (.int u2), (.int u1), (.ref 66)]) (mem1 := m) rfl ?_
  refine it_V.call it_cd284 it_m284 rfl it_m289 [(.ref 66), (.int u1), (.int u2), (.int v2), (.int v3), (.int v4), (.int v5)] [] rfl rfl ⟨Nat.le_of_ble_eq_true rfl, Nat.le_of_ble_eq_true rfl, Nat.le_of_ble_eq_true rfl, Nat.le_of_ble_eq_true rfl, rfl⟩ (s_289 kc u1 u2 v2 v3 v4 v5 m _ h) ?_
  rintro _ m1 ⟨rfl, h⟩
  refine it_V.at (pc1 := 210) (ls1 := [none, none, some (.int v2), some (.int v3), some (.int v4), some (.int v5), none]) (st1 := []) (mem1 := m1) rfl rfl rfl rfl ?_
  refine it_V.sN it_cd284 it_m284 1 (pc1 := 240) (ls1 := [none, none, some (.int v2), some (.int v3), some (.int v4), some (.int v5), none]) (st1 := []) (mem1 := m1) rfl ?_
  refine it_V.weak (l := [none, none, none, none, none, none, none]) trivial ?_
  exact s_284_240 kc Φ m1 h
set_option maxRecDepth 100000 in
set_option maxHeartbeats 4000000 in
theorem s_284 (kc : it_Kc) (x0 : Int32) (m : it_Me) (Φ : it_Me → Prop) (h : w_284 kc x0 m Φ) : it_V kc it_sh0 284 0 (it_loc0 [(.ref 66), (.int x0)] 7) [] m (it_Pv Φ) := by
  rw [w_284] at h
  refine it_V.at (pc1 := 0) (ls1 := [some (.ref 66), some (.int x0), none, none, none, none, none]) (st1 := []) (mem1 := m) rfl rfl rfl rfl ?_
  refine it_V.sN it_cd284 it_m284 7 (pc1 := 11) (ls1 := [some (.ref 66), some (.int x0), none, none, none, none, none]) (st1 := [(.int (((32 : Int32) * x0) + (10 : Int32))), (.ref 93)]) (mem1 := m) rfl ?_
  obtain ⟨g1, h⟩ := h
  refine it_V.iald it_cd284 it_m284 rfl ((⟨rfl, by decide⟩ : it_isR 93 256)).2 ((⟨rfl, by decide⟩ : it_isR 93 256)).1 g1 ?_
  refine it_V.at (pc1 := 12) (ls1 := [some (.ref 66), some (.int x0), none, none, none, none, none]) (st1 := [(.int (m 93 (Int32.toNatClampNeg (((32 : Int32) * x0) + (10 : Int32)))))]) (mem1 := m) rfl rfl rfl rfl ?_
  refine it_V.sN it_cd284 it_m284 8 (pc1 := 24) (ls1 := [some (.ref 66), some (.int x0), some (.int (m 93 (Int32.toNatClampNeg (((32 : Int32) * x0) + (10 : Int32))))), none, none, none, none]) (st1 := [(.int (((32 : Int32) * x0) + (11 : Int32))), (.ref 93)]) (mem1 := m) rfl ?_
  obtain ⟨g2, h⟩ := h
  refine it_V.iald it_cd284 it_m284 rfl ((⟨rfl, by decide⟩ : it_isR 93 256)).2 ((⟨rfl, by decide⟩ : it_isR 93 256)).1 g2 ?_
  refine it_V.at (pc1 := 25) (ls1 := [some (.ref 66), some (.int x0), some (.int (m 93 (Int32.toNatClampNeg (((32 : Int32) * x0) + (10 : Int32))))), none, none, none, none]) (st1 := [(.int (m 93 (Int32.toNatClampNeg (((32 : Int32) * x0) + (11 : Int32)))))]) (mem1 := m) rfl rfl rfl rfl ?_
  refine it_V.sN it_cd284 it_m284 8 (pc1 := 37) (ls1 := [some (.ref 66), some (.int x0), some (.int (m 93 (Int32.toNatClampNeg (((32 : Int32) * x0) + (10 : Int32))))), some (.int (m 93 (Int32.toNatClampNeg (((32 : Int32) * x0) + (11 : Int32))))), none, none, none]) (st1 := [(.int (((32 : Int32) * x0) + (12 : Int32))), (.ref 93)]) (mem1 := m) rfl ?_
  obtain ⟨g3, h⟩ := h
  refine it_V.iald it_cd284 it_m284 rfl ((⟨rfl, by decide⟩ : it_isR 93 256)).2 ((⟨rfl, by decide⟩ : it_isR 93 256)).1 g3 ?_
  refine it_V.at (pc1 := 38) (ls1 := [some (.ref 66), some (.int x0), some (.int (m 93 (Int32.toNatClampNeg (((32 : Int32) * x0) + (10 : Int32))))), some (.int (m 93 (Int32.toNatClampNeg (((32 : Int32) * x0) + (11 : Int32))))), none, none, none]) (st1 := [(.int (m 93 (Int32.toNatClampNeg (((32 : Int32) * x0) + (12 : Int32)))))]) (mem1 := m) rfl rfl rfl rfl ?_
  refine it_V.sN it_cd284 it_m284 8 (pc1 := 51) (ls1 := [some (.ref 66), some (.int x0), some (.int (m 93 (Int32.toNatClampNeg (((32 : Int32) * x0) + (10 : Int32))))), some (.int (m 93 (Int32.toNatClampNeg (((32 : Int32) * x0) + (11 : Int32))))), some (.int (m 93 (Int32.toNatClampNeg (((32 : Int32) * x0) + (12 : Int32))))), none, none]) (st1 := [(.int (((32 : Int32) * x0) + (13 : Int32))), (.ref 93)]) (mem1 := m) rfl ?_
  obtain ⟨g4, h⟩ := h
  refine it_V.iald it_cd284 it_m284 rfl ((⟨rfl, by decide⟩ : it_isR 93 256)).2 ((⟨rfl, by decide⟩ : it_isR 93 256)).1 g4 ?_
  refine it_V.at (pc1 := 52) (ls1 := [some (.ref 66), some (.int x0), some (.int (m 93 (Int32.toNatClampNeg (((32 : Int32) * x0) + (10 : Int32))))), some (.int (m 93 (Int32.toNatClampNeg (((32 : Int32) * x0) + (11 : Int32))))), some (.int (m 93 (Int32.toNatClampNeg (((32 : Int32) * x0) + (12 : Int32))))), none, none]) (st1 := [(.int (m 93 (Int32.toNatClampNeg (((32 : Int32) * x0) + (13 : Int32)))))]) (mem1 := m) rfl rfl rfl rfl ?_
  refine it_V.sN it_cd284 it_m284 8 (pc1 := 65) (ls1 := [some (.ref 66), some (.int x0), some (.int (m 93 (Int32.toNatClampNeg (((32 : Int32) * x0) + (10 : Int32))))), some (.int (m 93 (Int32.toNatClampNeg (((32 : Int32) * x0) + (11 : Int32))))), some (.int (m 93 (Int32.toNatClampNeg (((32 : Int32) * x0) + (12 : Int32))))), some (.int (m 93 (Int32.toNatClampNeg (((32 : Int32) * x0) + (13 : Int32))))), none]) (st1 := [(.int (((32 : Int32) * x0) + (14 : Int32))), (.ref 93)]) (mem1 := m) rfl ?_
  obtain ⟨g5, h⟩ := h
  refine it_V.iald it_cd284 it_m284 rfl ((⟨rfl, by decide⟩ : it_isR 93 256)).2 ((⟨rfl, by decide⟩ : it_isR 93 256)).1 g5 ?_
  refine it_V.at (pc1 := 66) (ls1 := [some (.ref 66), some (.int x0), some (.int (m 93 (Int32.toNatClampNeg (((32 : Int32) * x0) + (10 : Int32))))), some (.int (m 93 (Int32.toNatClampNeg (((32 : Int32) * x0) + (11 : Int32))))), some (.int (m 93 (Int32.toNatClampNeg (((32 : Int32) * x0) + (12 : Int32))))), some (.int (m 93 (Int32.toNatClampNeg (((32 : Int32) * x0) + (13 : Int32))))), none]) (st1 := [(.int (m 93 (Int32.toNatClampNeg (((32 : Int32) * x0) + (14 : Int32)))))]) (mem1 := m) rfl rfl rfl rfl ?_
  refine it_V.sN it_cd284 it_m284 5 (pc1 := 74) (ls1 := [some (.ref 66), some (.int x0), some (.int (m 93 (Int32.toNatClampNeg (((32 : Int32) * x0) + (10 : Int32))))), some (.int (m 93 (Int32.toNatClampNeg (((32 : Int32) * x0) + (11 : Int32))))), some (.int (m 93 (Int32.toNatClampNeg (((32 : Int32) * x0) + (12 : Int32))))), some (.int (m 93 (Int32.toNatClampNeg (((32 : Int32) * x0) + (13 : Int32))))), some (.int (m 93 (Int32.toNatClampNeg (((32 : Int32) * x0) + (14 : Int32)))))]) (st1 := [(.int x0), (.ref 94), (.int x0), (.ref 94)]) (mem1 := m) rfl ?_
  obtain ⟨g6, h⟩ := h
  refine it_V.iald it_cd284 it_m284 rfl ((⟨rfl, by decide⟩ : it_isR 94 8)).2 ((⟨rfl, by decide⟩ : it_isR 94 8)).1 g6 ?_
  refine it_V.at (pc1 := 75) (ls1 := [some (.ref 66), some (.int x0), some (.int (m 93 (Int32.toNatClampNeg (((32 : Int32) * x0) + (10 : Int32))))), some (.int (m 93 (Int32.toNatClampNeg (((32 : Int32) * x0) + (11 : Int32))))), some (.int (m 93 (Int32.toNatClampNeg (((32 : Int32) * x0) + (12 : Int32))))), some (.int (m 93 (Int32.toNatClampNeg (((32 : Int32) * x0) + (13 : Int32))))), some (.int (m 93 (Int32.toNatClampNeg (((32 : Int32) * x0) + (14 : Int32)))))]) (st1 := [(.int (m 94 (Int32.toNatClampNeg x0))), (.int x0), (.ref 94)]) (mem1 := m) rfl rfl rfl rfl ?_
  refine it_V.sN it_cd284 it_m284 2 (pc1 := 77) (ls1 := [some (.ref 66), some (.int x0), some (.int (m 93 (Int32.toNatClampNeg (((32 : Int32) * x0) + (10 : Int32))))), some (.int (m 93 (Int32.toNatClampNeg (((32 : Int32) * x0) + (11 : Int32))))), some (.int (m 93 (Int32.toNatClampNeg (((32 : Int32) * x0) + (12 : Int32))))), some (.int (m 93 (Int32.toNatClampNeg (((32 : Int32) * x0) + (13 : Int32))))), some (.int (m 93 (Int32.toNatClampNeg (((32 : Int32) * x0) + (14 : Int32)))))]) (st1 := [(.int ((m 94 (Int32.toNatClampNeg x0)) + (4 : Int32))), (.int x0), (.ref 94)]) (mem1 := m) rfl ?_
  obtain ⟨g7, h⟩ := h
  refine it_V.iast it_cd284 it_m284 rfl ((⟨rfl, by decide⟩ : it_isR 94 8)).1 g7 ?_
  refine it_V.at (pc1 := 78) (ls1 := [some (.ref 66), some (.int x0), some (.int (m 93 (Int32.toNatClampNeg (((32 : Int32) * x0) + (10 : Int32))))), some (.int (m 93 (Int32.toNatClampNeg (((32 : Int32) * x0) + (11 : Int32))))), some (.int (m 93 (Int32.toNatClampNeg (((32 : Int32) * x0) + (12 : Int32))))), some (.int (m 93 (Int32.toNatClampNeg (((32 : Int32) * x0) + (13 : Int32))))), some (.int (m 93 (Int32.toNatClampNeg (((32 : Int32) * x0) + (14 : Int32)))))]) (st1 := []) (mem1 := (it_sv m 94 (Int32.toNatClampNeg x0) ((m 94 (Int32.toNatClampNeg x0)) + (4 : Int32)))) rfl rfl rfl rfl ?_
  refine it_V.sN it_cd284 it_m284 4 (pc1 := 84) (ls1 := [some (.ref 66), some (.int x0), some (.int (m 93 (Int32.toNatClampNeg (((32 : Int32) * x0) + (10 : Int32))))), some (.int (m 93 (Int32.toNatClampNeg (((32 : Int32) * x0) + (11 : Int32))))), some (.int (m 93 (Int32.toNatClampNeg (((32 : Int32) * x0) + (12 : Int32))))), some (.int (m 93 (Int32.toNatClampNeg (((32 : Int32) * x0) + (13 : Int32))))), some (.int (m 93 (Int32.toNatClampNeg (((32 : Int32) * x0) + (14 : Int32)))))]) (st1 := [(.int (0 : Int32)), (.int x0), (.ref 97)]) (mem1 := (it_sv m 94 (Int32.toNatClampNeg x0) ((m 94 (Int32.toNatClampNeg x0)) + (4 : Int32)))) rfl ?_
  obtain ⟨g8, h⟩ := h
  refine it_V.iast it_cd284 it_m284 rfl ((⟨rfl, by decide⟩ : it_isR 97 8)).1 g8 ?_
  refine it_V.at (pc1 := 85) (ls1 := [some (.ref 66), some (.int x0), some (.int (m 93 (Int32.toNatClampNeg (((32 : Int32) * x0) + (10 : Int32))))), some (.int (m 93 (Int32.toNatClampNeg (((32 : Int32) * x0) + (11 : Int32))))), some (.int (m 93 (Int32.toNatClampNeg (((32 : Int32) * x0) + (12 : Int32))))), some (.int (m 93 (Int32.toNatClampNeg (((32 : Int32) * x0) + (13 : Int32))))), some (.int (m 93 (Int32.toNatClampNeg (((32 : Int32) * x0) + (14 : Int32)))))]) (st1 := []) (mem1 := (it_sv (it_sv m 94 (Int32.toNatClampNeg x0) ((m 94 (Int32.toNatClampNeg x0)) + (4 : Int32))) 97 (Int32.toNatClampNeg x0) (0 : Int32))) rfl rfl rfl rfl ?_
  refine it_V.sN it_cd284 it_m284 4 (pc1 := 91) (ls1 := [some (.ref 66), some (.int x0), some (.int (m 93 (Int32.toNatClampNeg (((32 : Int32) * x0) + (10 : Int32))))), some (.int (m 93 (Int32.toNatClampNeg (((32 : Int32) * x0) + (11 : Int32))))), some (.int (m 93 (Int32.toNatClampNeg (((32 : Int32) * x0) + (12 : Int32))))), some (.int (m 93 (Int32.toNatClampNeg (((32 : Int32) * x0) + (13 : Int32))))), some (.int (m 93 (Int32.toNatClampNeg (((32 : Int32) * x0) + (14 : Int32)))))]) (st1 := [(.int (5 : Int32)), (.ref 69), (.int (5 : Int32)), (.ref 69)]) (mem1 := (it_sv (it_sv m 94 (Int32.toNatClampNeg x0) ((m 94 (Int32.toNatClampNeg x0)) + (4 : Int32))) 97 (Int32.toNatClampNeg x0) (0 : Int32))) rfl ?_
  obtain ⟨g9, h⟩ := h
  refine it_V.iald it_cd284 it_m284 rfl ((⟨rfl, by decide⟩ : it_isR 69 12)).2 ((⟨rfl, by decide⟩ : it_isR 69 12)).1 g9 ?_
  refine it_V.at (pc1 := 92) (ls1 := [some (.ref 66), some (.int x0), some (.int (m 93 (Int32.toNatClampNeg (((32 : Int32) * x0) + (10 : Int32))))), some (.int (m 93 (Int32.toNatClampNeg (((32 : Int32) * x0) + (11 : Int32))))), some (.int (m 93 (Int32.toNatClampNeg (((32 : Int32) * x0) + (12 : Int32))))), some (.int (m 93 (Int32.toNatClampNeg (((32 : Int32) * x0) + (13 : Int32))))), some (.int (m 93 (Int32.toNatClampNeg (((32 : Int32) * x0) + (14 : Int32)))))]) (st1 := [(.int ((it_sv (it_sv m 94 (Int32.toNatClampNeg x0) ((m 94 (Int32.toNatClampNeg x0)) + (4 : Int32))) 97 (Int32.toNatClampNeg x0) (0 : Int32)) 69 (Int32.toNatClampNeg (5 : Int32)))), (.int (5 : Int32)), (.ref 69)]) (mem1 := (it_sv (it_sv m 94 (Int32.toNatClampNeg x0) ((m 94 (Int32.toNatClampNeg x0)) + (4 : Int32))) 97 (Int32.toNatClampNeg x0) (0 : Int32))) rfl rfl rfl rfl ?_
  refine it_V.sN it_cd284 it_m284 2 (pc1 := 94) (ls1 := [some (.ref 66), some (.int x0), some (.int (m 93 (Int32.toNatClampNeg (((32 : Int32) * x0) + (10 : Int32))))), some (.int (m 93 (Int32.toNatClampNeg (((32 : Int32) * x0) + (11 : Int32))))), some (.int (m 93 (Int32.toNatClampNeg (((32 : Int32) * x0) + (12 : Int32))))), some (.int (m 93 (Int32.toNatClampNeg (((32 : Int32) * x0) + (13 : Int32))))), some (.int (m 93 (Int32.toNatClampNeg (((32 : Int32) * x0) + (14 : Int32)))))]) (st1 := [(.int (((it_sv (it_sv m 94 (Int32.toNatClampNeg x0) ((m 94 (Int32.toNatClampNeg x0)) + (4 : Int32))) 97 (Int32.toNatClampNeg x0) (0 : Int32)) 69 (Int32.toNatClampNeg (5 : Int32))) + (1 : Int32))), (.int (5 : Int32)), (.ref 69)]) (mem1 := (it_sv (it_sv m 94 (Int32.toNatClampNeg x0) ((m 94 (Int32.toNatClampNeg x0)) + (4 : Int32))) 97 (Int32.toNatClampNeg x0) (0 : Int32))) rfl ?_
  obtain ⟨g10, h⟩ := h
  refine it_V.iast it_cd284 it_m284 rfl ((⟨rfl, by decide⟩ : it_isR 69 12)).1 g10 ?_
  refine it_V.at (pc1 := 95) (ls1 := [some (.ref 66), some (.int x0), some (.int (m 93 (Int32.toNatClampNeg (((32 : Int32) * x0) + (10 : Int32))))), some (.int (m 93 (Int32.toNatClampNeg (((32 : Int32) * x0) + (11 : Int32))))), some (.int (m 93 (Int32.toNatClampNeg (((32 : Int32) * x0) + (12 : Int32))))), some (.int (m 93 (Int32.toNatClampNeg (((32 : Int32) * x0) + (13 : Int32))))), some (.int (m 93 (Int32.toNatClampNeg (((32 : Int32) * x0) + (14 : Int32)))))]) (st1 := []) (mem1 := (it_sv (it_sv (it_sv m 94 (Int32.toNatClampNeg x0) ((m 94 (Int32.toNatClampNeg x0)) + (4 : Int32))) 97 (Int32.toNatClampNeg x0) (0 : Int32)) 69 (Int32.toNatClampNeg (5 : Int32)) (((it_sv (it_sv m 94 (Int32.toNatClampNeg x0) ((m 94 (Int32.toNatClampNeg x0)) + (4 : Int32))) 97 (Int32.toNatClampNeg x0) (0 : Int32)) 69 (Int32.toNatClampNeg (5 : Int32))) + (1 : Int32)))) rfl rfl rfl rfl ?_
  refine it_V.sN it_cd284 it_m284 4 (pc1 := 100) (ls1 := [some (.ref 66), some (.int x0), some (.int (m 93 (Int32.toNatClampNeg (((32 : Int32) * x0) + (10 : Int32))))), some (.int (m 93 (Int32.toNatClampNeg (((32 : Int32) * x0) + (11 : Int32))))), some (.int (m 93 (Int32.toNatClampNeg (((32 : Int32) * x0) + (12 : Int32))))), some (.int (m 93 (Int32.toNatClampNeg (((32 : Int32) * x0) + (13 : Int32))))), some (.int (m 93 (Int32.toNatClampNeg (((32 : Int32) * x0) + (14 : Int32)))))]) (st1 := [(.int (m 93 (Int32.toNatClampNeg (((32 : Int32) * x0) + (14 : Int32))))), (.int (0 : Int32)), (.int x0), (.ref 66)]) (mem1 := (it_sv (it_sv (it_sv m 94 (Int32.toNatClampNeg x0) ((m 94 (Int32.toNatClampNeg x0)) + (4 : Int32))) 97 (Int32.toNatClampNeg x0) (0 : Int32)) 69 (Int32.toNatClampNeg (5 : Int32)) (((it_sv (it_sv m 94 (Int32.toNatClampNeg x0) ((m 94 (Int32.toNatClampNeg x0)) + (4 : Int32))) 97 (Int32.toNatClampNeg x0) (0 : Int32)) 69 (Int32.toNatClampNeg (5 : Int32))) + (1 : Int32)))) rfl ?_
  refine it_V.call it_cd284 it_m284 rfl it_m257 [(.ref 66), (.int x0), (.int (0 : Int32)), (.int (m 93 (Int32.toNatClampNeg (((32 : Int32) * x0) + (14 : Int32)))))] [] rfl rfl ⟨Nat.le_of_ble_eq_true rfl, Nat.le_of_ble_eq_true rfl, Nat.le_of_ble_eq_true rfl, Nat.le_of_ble_eq_true rfl, rfl⟩ (s_257 kc x0 (0 : Int32) (m 93 (Int32.toNatClampNeg (((32 : Int32) * x0) + (14 : Int32)))) (it_sv (it_sv (it_sv m 94 (Int32.toNatClampNeg x0) ((m 94 (Int32.toNatClampNeg x0)) + (4 : Int32))) 97 (Int32.toNatClampNeg x0) (0 : Int32)) 69 (Int32.toNatClampNeg (5 : Int32)) (((it_sv (it_sv m 94 (Int32.toNatClampNeg x0) ((m 94 (Int32.toNatClampNeg x0)) + (4 : Int32))) 97 (Int32.toNatClampNeg x0) (0 : Int32)) 69 (Int32.toNatClampNeg (5 : Int32))) + (1 : Int32))) _ h) ?_
  rintro _ m11 ⟨rfl, h⟩
  refine it_V.at (pc1 := 103) (ls1 := [some (.ref 66), some (.int x0), some (.int (m 93 (Int32.toNatClampNeg (((32 : Int32) * x0) + (10 : Int32))))), some (.int (m 93 (Int32.toNatClampNeg (((32 : Int32) * x0) + (11 : Int32))))), some (.int (m 93 (Int32.toNatClampNeg (((32 : Int32) * x0) + (12 : Int32))))), some (.int (m 93 (Int32.toNatClampNeg (((32 : Int32) * x0) + (13 : Int32))))), some (.int (m 93 (Int32.toNatClampNeg (((32 : Int32) * x0) + (14 : Int32)))))]) (st1 := []) (mem1 := m11) rfl rfl rfl rfl ?_
  refine it_V.sN it_cd284 it_m284 1 (pc1 := 105) (ls1 := [some (.ref 66), some (.int x0), some (.int (m 93 (Int32.toNatClampNeg (((32 : Int32) * x0) + (10 : Int32))))), some (.int (m 93 (Int32.toNatClampNeg (((32 : Int32) * x0) + (11 : Int32))))), some (.int (m 93 (Int32.toNatClampNeg (((32 : Int32) * x0) + (12 : Int32))))), some (.int (m 93 (Int32.toNatClampNeg (((32 : Int32) * x0) + (13 : Int32))))), some (.int (m 93 (Int32.toNatClampNeg (((32 : Int32) * x0) + (14 : Int32)))))]) (st1 := [(.int (m 93 (Int32.toNatClampNeg (((32 : Int32) * x0) + (14 : Int32)))))]) (mem1 := m11) rfl ?_
  refine it_V.sN it_cd284 it_m284 1 (pc1 := (if (m 93 (Int32.toNatClampNeg (((32 : Int32) * x0) + (14 : Int32)))) = (0 : Int32) then 148 else (if (m 93 (Int32.toNatClampNeg (((32 : Int32) * x0) + (14 : Int32)))) = (1 : Int32) then 160 else (if (m 93 (Int32.toNatClampNeg (((32 : Int32) * x0) + (14 : Int32)))) = (2 : Int32) then 174 else (if (m 93 (Int32.toNatClampNeg (((32 : Int32) * x0) + (14 : Int32)))) = (3 : Int32) then 188 else (if (m 93 (Int32.toNatClampNeg (((32 : Int32) * x0) + (14 : Int32)))) = (4 : Int32) then 188 else (if (m 93 (Int32.toNatClampNeg (((32 : Int32) * x0) + (14 : Int32)))) = (5 : Int32) then 213 else (if (m 93 (Int32.toNatClampNeg (((32 : Int32) * x0) + (14 : Int32)))) = (6 : Int32) then 223 else 233)))))))) (ls1 := [some (.ref 66), some (.int x0), some (.int (m 93 (Int32.toNatClampNeg (((32 : Int32) * x0) + (10 : Int32))))), some (.int (m 93 (Int32.toNatClampNeg (((32 : Int32) * x0) + (11 : Int32))))), some (.int (m 93 (Int32.toNatClampNeg (((32 : Int32) * x0) + (12 : Int32))))), some (.int (m 93 (Int32.toNatClampNeg (((32 : Int32) * x0) + (13 : Int32))))), some (.int (m 93 (Int32.toNatClampNeg (((32 : Int32) * x0) + (14 : Int32)))))]) (st1 := []) (mem1 := m11) rfl ?_
  refine it_V.ite (fun c12 => ?_) (fun c12 => ?_)
  · have h := h.1 c12
    refine it_V.sN it_cd284 it_m284 5 (pc1 := 154) (ls1 := [some (.ref 66), some (.int x0), some (.int (m 93 (Int32.toNatClampNeg (((32 : Int32) * x0) + (10 : Int32))))), some (.int (m 93 (Int32.toNatClampNeg (((32 : Int32) * x0) + (11 : Int32))))), some (.int (m 93 (Int32.toNatClampNeg (((32 : Int32) * x0) + (12 : Int32))))), some (.int (m 93 (Int32.toNatClampNeg (((32 : Int32) * x0) + (13 : Int32))))), some (.int (m 93 (Int32.toNatClampNeg (((32 : Int32) * x0) + (14 : Int32)))))]) (st1 := [(.int (m 93 (Int32.toNatClampNeg (((32 : Int32) * x0) + (12 : Int32))))), (.int (m 93 (Int32.toNatClampNeg (((32 : Int32) * x0) + (11 : Int32))))), (.int (m 93 (Int32.toNatClampNeg (((32 : Int32) * x0) + (10 : Int32))))), (.int x0), (.ref 66)]) (mem1 := m11) rfl ?_
    refine it_V.call it_cd284 it_m284 rfl it_m285 [(.ref 66), (.int x0), (.int (m 93 (Int32.toNatClampNeg (((32 : Int32) * x0) + (10 : Int32))))), (.int (m 93 (Int32.toNatClampNeg (((32 : Int32) * x0) + (11 : Int32))))), (.int (m 93 (Int32.toNatClampNeg (((32 : Int32) * x0) + (12 : Int32)))))] [] rfl rfl ⟨Nat.le_of_ble_eq_true rfl, Nat.le_of_ble_eq_true rfl, Nat.le_of_ble_eq_true rfl, Nat.le_of_ble_eq_true rfl, rfl⟩ (s_285 kc x0 (m 93 (Int32.toNatClampNeg (((32 : Int32) * x0) + (10 : Int32)))) (m 93 (Int32.toNatClampNeg (((32 : Int32) * x0) + (11 : Int32)))) (m 93 (Int32.toNatClampNeg (((32 : Int32) * x0) + (12 : Int32)))) m11 _ h) ?_
    rintro _ m13 ⟨rfl, h⟩
    refine it_V.at (pc1 := 157) (ls1 := [some (.ref 66), some (.int x0), some (.int (m 93 (Int32.toNatClampNeg (((32 : Int32) * x0) + (10 : Int32))))), some (.int (m 93 (Int32.toNatClampNeg (((32 : Int32) * x0) + (11 : Int32))))), some (.int (m 93 (Int32.toNatClampNeg (((32 : Int32) * x0) + (12 : Int32))))), some (.int (m 93 (Int32.toNatClampNeg (((32 : Int32) * x0) + (13 : Int32))))), some (.int (m 93 (Int32.toNatClampNeg (((32 : Int32) * x0) + (14 : Int32)))))]) (st1 := []) (mem1 := m13) rfl rfl rfl rfl ?_
    refine it_V.sN it_cd284 it_m284 1 (pc1 := 240) (ls1 := [some (.ref 66), some (.int x0), some (.int (m 93 (Int32.toNatClampNeg (((32 : Int32) * x0) + (10 : Int32))))), some (.int (m 93 (Int32.toNatClampNeg (((32 : Int32) * x0) + (11 : Int32))))), some (.int (m 93 (Int32.toNatClampNeg (((32 : Int32) * x0) + (12 : Int32))))), some (.int (m 93 (Int32.toNatClampNeg (((32 : Int32) * x0) + (13 : Int32))))), some (.int (m 93 (Int32.toNatClampNeg (((32 : Int32) * x0) + (14 : Int32)))))]) (st1 := []) (mem1 := m13) rfl ?_
    refine it_V.weak (l := [none, none, none, none, none, none, none]) trivial ?_
    exact s_284_240 kc Φ m13 h
  · have h := h.2 c12
    refine it_V.ite (fun c14 => ?_) (fun c14 => ?_)
    · have h := h.1 c14
      refine it_V.sN it_cd284 it_m284 6 (pc1 := 168) (ls1 := [some (.ref 66), some (.int x0), some (.int (m 93 (Int32.toNatClampNeg (((32 : Int32) * x0) + (10 : Int32))))), some (.int (m 93 (Int32.toNatClampNeg (((32 : Int32) * x0) + (11 : Int32))))), some (.int (m 93 (Int32.toNatClampNeg (((32 : Int32) * x0) + (12 : Int32))))), some (.int (m 93 (Int32.toNatClampNeg (((32 : Int32) * x0) + (13 : Int32))))), some (.int (m 93 (Int32.toNatClampNeg (((32 : Int32) * x0) + (14 : Int32)))))]) (st1 := [(.int (m 93 (Int32.toNatClampNeg (((32 : Int32) * x0) + (13 : Int32))))), (.int (m 93 (Int32.toNatClampNeg (((32 : Int32) * x0) + (12 : Int32))))), (.int (m 93 (Int32.toNatClampNeg (((32 : Int32) * x0) + (11 : Int32))))), (.int (m 93 (Int32.toNatClampNeg (((32 : Int32) * x0) + (10 : Int32))))), (.int x0), (.ref 66)]) (mem1 := m11) rfl ?_
      refine it_V.call it_cd284 it_m284 rfl it_m288 [(.ref 66), (.int x0), (.int (m 93 (Int32.toNatClampNeg (((32 : Int32) * x0) + (10 : Int32))))), (.int (m 93 (Int32.toNatClampNeg (((32 : Int32) * x0) + (11 : Int32))))), (.int (m 93 (Int32.toNatClampNeg (((32 : Int32) * x0) + (12 : Int32))))), (.int (m 93 (Int32.toNatClampNeg (((32 : Int32) * x0) + (13 : Int32)))))] [] rfl rfl ⟨Nat.le_of_ble_eq_true rfl, Nat.le_of_ble_eq_true rfl, Nat.le_of_ble_eq_true rfl, Nat.le_of_ble_eq_true rfl, rfl⟩ (s_288 kc x0 (m 93 (Int32.toNatClampNeg (((32 : Int32) * x0) + (10 : Int32)))) (m 93 (Int32.toNatClampNeg (((32 : Int32) * x0) + (11 : Int32)))) (m 93 (Int32.toNatClampNeg (((32 : Int32) * x0) + (12 : Int32)))) (m 93 (Int32.toNatClampNeg (((32 : Int32) * x0) + (13 : Int32)))) m11 _ h) ?_
      rintro _ m15 ⟨rfl, h⟩
      refine it_V.at (pc1 := 171) (ls1 := [some (.ref 66), some (.int x0), some (.int (m 93 (Int32.toNatClampNeg (((32 : Int32) * x0) + (10 : Int32))))), some (.int (m 93 (Int32.toNatClampNeg (((32 : Int32) * x0) + (11 : Int32))))), some (.int (m 93 (Int32.toNatClampNeg (((32 : Int32) * x0) + (12 : Int32))))), some (.int (m 93 (Int32.toNatClampNeg (((32 : Int32) * x0) + (13 : Int32))))), some (.int (m 93 (Int32.toNatClampNeg (((32 : Int32) * x0) + (14 : Int32)))))]) (st1 := []) (mem1 := m15) rfl rfl rfl rfl ?_
      refine it_V.sN it_cd284 it_m284 1 (pc1 := 240) (ls1 := [some (.ref 66), some (.int x0), some (.int (m 93 (Int32.toNatClampNeg (((32 : Int32) * x0) + (10 : Int32))))), some (.int (m 93 (Int32.toNatClampNeg (((32 : Int32) * x0) + (11 : Int32))))), some (.int (m 93 (Int32.toNatClampNeg (((32 : Int32) * x0) + (12 : Int32))))), some (.int (m 93 (Int32.toNatClampNeg (((32 : Int32) * x0) + (13 : Int32))))), some (.int (m 93 (Int32.toNatClampNeg (((32 : Int32) * x0) + (14 : Int32)))))]) (st1 := []) (mem1 := m15) rfl ?_
      refine it_V.weak (l := [none, none, none, none, none, none, none]) trivial ?_
      exact s_284_240 kc Φ m15 h
    · have h := h.2 c14
      refine it_V.ite (fun c16 => ?_) (fun c16 => ?_)
      · have h := h.1 c16
        refine it_V.sN it_cd284 it_m284 6 (pc1 := 182) (ls1 := [some (.ref 66), some (.int x0), some (.int (m 93 (Int32.toNatClampNeg (((32 : Int32) * x0) + (10 : Int32))))), some (.int (m 93 (Int32.toNatClampNeg (((32 : Int32) * x0) + (11 : Int32))))), some (.int (m 93 (Int32.toNatClampNeg (((32 : Int32) * x0) + (12 : Int32))))), some (.int (m 93 (Int32.toNatClampNeg (((32 : Int32) * x0) + (13 : Int32))))), some (.int (m 93 (Int32.toNatClampNeg (((32 : Int32) * x0) + (14 : Int32)))))]) (st1 := [(.int (m 93 (Int32.toNatClampNeg (((32 : Int32) * x0) + (13 : Int32))))), (.int (m 93 (Int32.toNatClampNeg (((32 : Int32) * x0) + (12 : Int32))))), (.int (m 93 (Int32.toNatClampNeg (((32 : Int32) * x0) + (11 : Int32))))), (.int (m 93 (Int32.toNatClampNeg (((32 : Int32) * x0) + (10 : Int32))))), (.int x0), (.ref 66)]) (mem1 := m11) rfl ?_
        refine it_V.call it_cd284 it_m284 rfl it_m296 [(.ref 66), (.int x0), (.int (m 93 (Int32.toNatClampNeg (((32 : Int32) * x0) + (10 : Int32))))), (.int (m 93 (Int32.toNatClampNeg (((32 : Int32) * x0) + (11 : Int32))))), (.int (m 93 (Int32.toNatClampNeg (((32 : Int32) * x0) + (12 : Int32))))), (.int (m 93 (Int32.toNatClampNeg (((32 : Int32) * x0) + (13 : Int32)))))] [] rfl rfl ⟨Nat.le_of_ble_eq_true rfl, Nat.le_of_ble_eq_true rfl, Nat.le_of_ble_eq_true rfl, Nat.le_of_ble_eq_true rfl, rfl⟩ (s_296 kc x0 (m 93 (Int32.toNatClampNeg (((32 : Int32) * x0) + (10 : Int32)))) (m 93 (Int32.toNatClampNeg (((32 : Int32) * x0) + (11 : Int32)))) (m 93 (Int32.toNatClampNeg (((32 : Int32) * x0) + (12 : Int32)))) (m 93 (Int32.toNatClampNeg (((32 : Int32) * x0) + (13 : Int32)))) m11 _ h) ?_
        rintro _ m17 ⟨rfl, h⟩
        refine it_V.at (pc1 := 185) (ls1 := [some (.ref 66), some (.int x0), some (.int (m 93 (Int32.toNatClampNeg (((32 : Int32) * x0) + (10 : Int32))))), some (.int (m 93 (Int32.toNatClampNeg (((32 : Int32) * x0) + (11 : Int32))))), some (.int (m 93 (Int32.toNatClampNeg (((32 : Int32) * x0) + (12 : Int32))))), some (.int (m 93 (Int32.toNatClampNeg (((32 : Int32) * x0) + (13 : Int32))))), some (.int (m 93 (Int32.toNatClampNeg (((32 : Int32) * x0) + (14 : Int32)))))]) (st1 := []) (mem1 := m17) rfl rfl rfl rfl ?_
        refine it_V.sN it_cd284 it_m284 1 (pc1 := 240) (ls1 := [some (.ref 66), some (.int x0), some (.int (m 93 (Int32.toNatClampNeg (((32 : Int32) * x0) + (10 : Int32))))), some (.int (m 93 (Int32.toNatClampNeg (((32 : Int32) * x0) + (11 : Int32))))), some (.int (m 93 (Int32.toNatClampNeg (((32 : Int32) * x0) + (12 : Int32))))), some (.int (m 93 (Int32.toNatClampNeg (((32 : Int32) * x0) + (13 : Int32))))), some (.int (m 93 (Int32.toNatClampNeg (((32 : Int32) * x0) + (14 : Int32)))))]) (st1 := []) (mem1 := m17) rfl ?_
        refine it_V.weak (l := [none, none, none, none, none, none, none]) trivial ?_
        exact s_284_240 kc Φ m17 h
      · have h := h.2 c16
        refine it_V.ite (fun c18 => ?_) (fun c18 => ?_)
        · have h := h.1 c18
          refine it_V.sN it_cd284 it_m284 5 (pc1 := (if (m 93 (Int32.toNatClampNeg (((32 : Int32) * x0) + (14 : Int32)))) = (3 : Int32) then 196 else 200)) (ls1 := [some (.ref 66), some (.int x0), some (.int (m 93 (Int32.toNatClampNeg (((32 : Int32) * x0) + (10 : Int32))))), some (.int (m 93 (Int32.toNatClampNeg (((32 : Int32) * x0) + (11 : Int32))))), some (.int (m 93 (Int32.toNatClampNeg (((32 : Int32) * x0) + (12 : Int32))))), some (.int (m 93 (Int32.toNatClampNeg (((32 : Int32) * x0) + (13 : Int32))))), some (.int (m 93 (Int32.toNatClampNeg (((32 : Int32) * x0) + (14 : Int32)))))]) (st1 := [(.int x0), (.ref 66)]) (mem1 := m11) rfl ?_
          refine it_V.ite (fun c19 => ?_) (fun c19 => ?_)
          · have h := h.1 c19
            refine it_V.sN it_cd284 it_m284 2 (pc1 := 201) (ls1 := [some (.ref 66), some (.int x0), some (.int (m 93 (Int32.toNatClampNeg (((32 : Int32) * x0) + (10 : Int32))))), some (.int (m 93 (Int32.toNatClampNeg (((32 : Int32) * x0) + (11 : Int32))))), some (.int (m 93 (Int32.toNatClampNeg (((32 : Int32) * x0) + (12 : Int32))))), some (.int (m 93 (Int32.toNatClampNeg (((32 : Int32) * x0) + (13 : Int32))))), some (.int (m 93 (Int32.toNatClampNeg (((32 : Int32) * x0) + (14 : Int32)))))]) (st1 := [(.int (1 : Int32)), (.int x0), (.ref 66)]) (mem1 := m11) rfl ?_
            refine it_V.weak (l := [none, none, some (.int (m 93 (Int32.toNatClampNeg (((32 : Int32) * x0) + (10 : Int32))))), some (.int (m 93 (Int32.toNatClampNeg (((32 : Int32) * x0) + (11 : Int32))))), some (.int (m 93 (Int32.toNatClampNeg (((32 : Int32) * x0) + (12 : Int32))))), some (.int (m 93 (Int32.toNatClampNeg (((32 : Int32) * x0) + (13 : Int32))))), none]) ⟨rfl, ⟨rfl, ⟨rfl, ⟨rfl, trivial⟩⟩⟩⟩ ?_
            exact s_284_201 kc Φ (m 93 (Int32.toNatClampNeg (((32 : Int32) * x0) + (10 : Int32)))) (m 93 (Int32.toNatClampNeg (((32 : Int32) * x0) + (11 : Int32)))) (m 93 (Int32.toNatClampNeg (((32 : Int32) * x0) + (12 : Int32)))) (m 93 (Int32.toNatClampNeg (((32 : Int32) * x0) + (13 : Int32)))) x0 (1 : Int32) m11 h
          · have h := h.2 c19
            refine it_V.sN it_cd284 it_m284 1 (pc1 := 201) (ls1 := [some (.ref 66), some (.int x0), some (.int (m 93 (Int32.toNatClampNeg (((32 : Int32) * x0) + (10 : Int32))))), some (.int (m 93 (Int32.toNatClampNeg (((32 : Int32) * x0) + (11 : Int32))))), some (.int (m 93 (Int32.toNatClampNeg (((32 : Int32) * x0) + (12 : Int32))))), some (.int (m 93 (Int32.toNatClampNeg (((32 : Int32) * x0) + (13 : Int32))))), some (.int (m 93 (Int32.toNatClampNeg (((32 : Int32) * x0) + (14 : Int32)))))]) (st1 := [(.int (0 : Int32)), (.int x0), (.ref 66)]) (mem1 := m11) rfl ?_
            refine it_V.weak (l := [none, none, some (.int (m 93 (Int32.toNatClampNeg (((32 : Int32) * x0) + (10 : Int32))))), some (.int (m 93 (Int32.toNatClampNeg (((32 : Int32) * x0) + (11 : Int32))))), some (.int (m 93 (Int32.toNatClampNeg (((32 : Int32) * x0) + (12 : Int32))))), some (.int (m 93 (Int32.toNatClampNeg (((32 : Int32) * x0) + (13 : Int32))))), none]) ⟨rfl, ⟨rfl, ⟨rfl, ⟨rfl, trivial⟩⟩⟩⟩ ?_
            exact s_284_201 kc Φ (m 93 (Int32.toNatClampNeg (((32 : Int32) * x0) + (10 : Int32)))) (m 93 (Int32.toNatClampNeg (((32 : Int32) * x0) + (11 : Int32)))) (m 93 (Int32.toNatClampNeg (((32 : Int32) * x0) + (12 : Int32)))) (m 93 (Int32.toNatClampNeg (((32 : Int32) * x0) + (13 : Int32)))) x0 (0 : Int32) m11 h
        · have h := h.2 c18
          refine it_V.ite (fun c20 => ?_) (fun c20 => ?_)
          · have h := h.1 c20
            refine it_V.sN it_cd284 it_m284 5 (pc1 := (if (m 93 (Int32.toNatClampNeg (((32 : Int32) * x0) + (14 : Int32)))) = (3 : Int32) then 196 else 200)) (ls1 := [some (.ref 66), some (.int x0), some (.int (m 93 (Int32.toNatClampNeg (((32 : Int32) * x0) + (10 : Int32))))), some (.int (m 93 (Int32.toNatClampNeg (((32 : Int32) * x0) + (11 : Int32))))), some (.int (m 93 (Int32.toNatClampNeg (((32 : Int32) * x0) + (12 : Int32))))), some (.int (m 93 (Int32.toNatClampNeg (((32 : Int32) * x0) + (13 : Int32))))), some (.int (m 93 (Int32.toNatClampNeg (((32 : Int32) * x0) + (14 : Int32)))))]) (st1 := [(.int x0), (.ref 66)]) (mem1 := m11) rfl ?_
            refine it_V.ite (fun c21 => ?_) (fun c21 => ?_)
            · have h := h.1 c21
              refine it_V.sN it_cd284 it_m284 2 (pc1 := 201) (ls1 := [some (.ref 66), some (.int x0), some (.int (m 93 (Int32.toNatClampNeg (((32 : Int32) * x0) + (10 : Int32))))), some (.int (m 93 (Int32.toNatClampNeg (((32 : Int32) * x0) + (11 : Int32))))), some (.int (m 93 (Int32.toNatClampNeg (((32 : Int32) * x0) + (12 : Int32))))), some (.int (m 93 (Int32.toNatClampNeg (((32 : Int32) * x0) + (13 : Int32))))), some (.int (m 93 (Int32.toNatClampNeg (((32 : Int32) * x0) + (14 : Int32)))))]) (st1 := [(.int (1 : Int32)), (.int x0), (.ref 66)]) (mem1 := m11) rfl ?_
              refine it_V.weak (l := [none, none, some (.int (m 93 (Int32.toNatClampNeg (((32 : Int32) * x0) + (10 : Int32))))), some (.int (m 93 (Int32.toNatClampNeg (((32 : Int32) * x0) + (11 : Int32))))), some (.int (m 93 (Int32.toNatClampNeg (((32 : Int32) * x0) + (12 : Int32))))), some (.int (m 93 (Int32.toNatClampNeg (((32 : Int32) * x0) + (13 : Int32))))), none]) ⟨rfl, ⟨rfl, ⟨rfl, ⟨rfl, trivial⟩⟩⟩⟩ ?_
              exact s_284_201 kc Φ (m 93 (Int32.toNatClampNeg (((32 : Int32) * x0) + (10 : Int32)))) (m 93 (Int32.toNatClampNeg (((32 : Int32) * x0) + (11 : Int32)))) (m 93 (Int32.toNatClampNeg (((32 : Int32) * x0) + (12 : Int32)))) (m 93 (Int32.toNatClampNeg (((32 : Int32) * x0) + (13 : Int32)))) x0 (1 : Int32) m11 h
            · have h := h.2 c21
              refine it_V.sN it_cd284 it_m284 1 (pc1 := 201) (ls1 := [some (.ref 66), some (.int x0), some (.int (m 93 (Int32.toNatClampNeg (((32 : Int32) * x0) + (10 : Int32))))), some (.int (m 93 (Int32.toNatClampNeg (((32 : Int32) * x0) + (11 : Int32))))), some (.int (m 93 (Int32.toNatClampNeg (((32 : Int32) * x0) + (12 : Int32))))), some (.int (m 93 (Int32.toNatClampNeg (((32 : Int32) * x0) + (13 : Int32))))), some (.int (m 93 (Int32.toNatClampNeg (((32 : Int32) * x0) + (14 : Int32)))))]) (st1 := [(.int (0 : Int32)), (.int x0), (.ref 66)]) (mem1 := m11) rfl ?_
              refine it_V.weak (l := [none, none, some (.int (m 93 (Int32.toNatClampNeg (((32 : Int32) * x0) + (10 : Int32))))), some (.int (m 93 (Int32.toNatClampNeg (((32 : Int32) * x0) + (11 : Int32))))), some (.int (m 93 (Int32.toNatClampNeg (((32 : Int32) * x0) + (12 : Int32))))), some (.int (m 93 (Int32.toNatClampNeg (((32 : Int32) * x0) + (13 : Int32))))), none]) ⟨rfl, ⟨rfl, ⟨rfl, ⟨rfl, trivial⟩⟩⟩⟩ ?_
              exact s_284_201 kc Φ (m 93 (Int32.toNatClampNeg (((32 : Int32) * x0) + (10 : Int32)))) (m 93 (Int32.toNatClampNeg (((32 : Int32) * x0) + (11 : Int32)))) (m 93 (Int32.toNatClampNeg (((32 : Int32) * x0) + (12 : Int32)))) (m 93 (Int32.toNatClampNeg (((32 : Int32) * x0) + (13 : Int32)))) x0 (0 : Int32) m11 h
          · have h := h.2 c20
            refine it_V.ite (fun c22 => ?_) (fun c22 => ?_)
            · have h := h.1 c22
              refine it_V.sN it_cd284 it_m284 4 (pc1 := 217) (ls1 := [some (.ref 66), some (.int x0), some (.int (m 93 (Int32.toNatClampNeg (((32 : Int32) * x0) + (10 : Int32))))), some (.int (m 93 (Int32.toNatClampNeg (((32 : Int32) * x0) + (11 : Int32))))), some (.int (m 93 (Int32.toNatClampNeg (((32 : Int32) * x0) + (12 : Int32))))), some (.int (m 93 (Int32.toNatClampNeg (((32 : Int32) * x0) + (13 : Int32))))), some (.int (m 93 (Int32.toNatClampNeg (((32 : Int32) * x0) + (14 : Int32)))))]) (st1 := [(.int (m 93 (Int32.toNatClampNeg (((32 : Int32) * x0) + (11 : Int32))))), (.int (m 93 (Int32.toNatClampNeg (((32 : Int32) * x0) + (10 : Int32))))), (.int x0), (.ref 66)]) (mem1 := m11) rfl ?_
              refine it_V.call it_cd284 it_m284 rfl it_m290 [(.ref 66), (.int x0), (.int (m 93 (Int32.toNatClampNeg (((32 : Int32) * x0) + (10 : Int32))))), (.int (m 93 (Int32.toNatClampNeg (((32 : Int32) * x0) + (11 : Int32)))))] [] rfl rfl ⟨Nat.le_of_ble_eq_true rfl, Nat.le_of_ble_eq_true rfl, Nat.le_of_ble_eq_true rfl, Nat.le_of_ble_eq_true rfl, rfl⟩ (s_290 kc x0 (m 93 (Int32.toNatClampNeg (((32 : Int32) * x0) + (10 : Int32)))) (m 93 (Int32.toNatClampNeg (((32 : Int32) * x0) + (11 : Int32)))) m11 _ h) ?_
              rintro _ m23 ⟨rfl, h⟩
              refine it_V.at (pc1 := 220) (ls1 := [some (.ref 66), some (.int x0), some (.int (m 93 (Int32.toNatClampNeg (((32 : Int32) * x0) + (10 : Int32))))), some (.int (m 93 (Int32.toNatClampNeg (((32 : Int32) * x0) + (11 : Int32))))), some (.int (m 93 (Int32.toNatClampNeg (((32 : Int32) * x0) + (12 : Int32))))), some (.int (m 93 (Int32.toNatClampNeg (((32 : Int32) * x0) + (13 : Int32))))), some (.int (m 93 (Int32.toNatClampNeg (((32 : Int32) * x0) + (14 : Int32)))))]) (st1 := []) (mem1 := m23) rfl rfl rfl rfl ?_
              refine it_V.sN it_cd284 it_m284 1 (pc1 := 240) (ls1 := [some (.ref 66), some (.int x0), some (.int (m 93 (Int32.toNatClampNeg (((32 : Int32) * x0) + (10 : Int32))))), some (.int (m 93 (Int32.toNatClampNeg (((32 : Int32) * x0) + (11 : Int32))))), some (.int (m 93 (Int32.toNatClampNeg (((32 : Int32) * x0) + (12 : Int32))))), some (.int (m 93 (Int32.toNatClampNeg (((32 : Int32) * x0) + (13 : Int32))))), some (.int (m 93 (Int32.toNatClampNeg (((32 : Int32) * x0) + (14 : Int32)))))]) (st1 := []) (mem1 := m23) rfl ?_
              refine it_V.weak (l := [none, none, none, none, none, none, none]) trivial ?_
              exact s_284_240 kc Φ m23 h
            · have h := h.2 c22
              refine it_V.ite (fun c24 => ?_) (fun c24 => ?_)
              · have h := h.1 c24
                refine it_V.sN it_cd284 it_m284 4 (pc1 := 227) (ls1 := [some (.ref 66), some (.int x0), some (.int (m 93 (Int32.toNatClampNeg (((32 : Int32) * x0) + (10 : Int32))))), some (.int (m 93 (Int32.toNatClampNeg (((32 : Int32) * x0) + (11 : Int32))))), some (.int (m 93 (Int32.toNatClampNeg (((32 : Int32) * x0) + (12 : Int32))))), some (.int (m 93 (Int32.toNatClampNeg (((32 : Int32) * x0) + (13 : Int32))))), some (.int (m 93 (Int32.toNatClampNeg (((32 : Int32) * x0) + (14 : Int32)))))]) (st1 := [(.int (m 93 (Int32.toNatClampNeg (((32 : Int32) * x0) + (11 : Int32))))), (.int (m 93 (Int32.toNatClampNeg (((32 : Int32) * x0) + (10 : Int32))))), (.int x0), (.ref 66)]) (mem1 := m11) rfl ?_
                refine it_V.call it_cd284 it_m284 rfl it_m293 [(.ref 66), (.int x0), (.int (m 93 (Int32.toNatClampNeg (((32 : Int32) * x0) + (10 : Int32))))), (.int (m 93 (Int32.toNatClampNeg (((32 : Int32) * x0) + (11 : Int32)))))] [] rfl rfl ⟨Nat.le_of_ble_eq_true rfl, Nat.le_of_ble_eq_true rfl, Nat.le_of_ble_eq_true rfl, Nat.le_of_ble_eq_true rfl, rfl⟩ (s_293 kc x0 (m 93 (Int32.toNatClampNeg (((32 : Int32) * x0) + (10 : Int32)))) (m 93 (Int32.toNatClampNeg (((32 : Int32) * x0) + (11 : Int32)))) m11 _ h) ?_
                rintro _ m25 ⟨rfl, h⟩
                refine it_V.at (pc1 := 230) (ls1 := [some (.ref 66), some (.int x0), some (.int (m 93 (Int32.toNatClampNeg (((32 : Int32) * x0) + (10 : Int32))))), some (.int (m 93 (Int32.toNatClampNeg (((32 : Int32) * x0) + (11 : Int32))))), some (.int (m 93 (Int32.toNatClampNeg (((32 : Int32) * x0) + (12 : Int32))))), some (.int (m 93 (Int32.toNatClampNeg (((32 : Int32) * x0) + (13 : Int32))))), some (.int (m 93 (Int32.toNatClampNeg (((32 : Int32) * x0) + (14 : Int32)))))]) (st1 := []) (mem1 := m25) rfl rfl rfl rfl ?_
                refine it_V.sN it_cd284 it_m284 1 (pc1 := 240) (ls1 := [some (.ref 66), some (.int x0), some (.int (m 93 (Int32.toNatClampNeg (((32 : Int32) * x0) + (10 : Int32))))), some (.int (m 93 (Int32.toNatClampNeg (((32 : Int32) * x0) + (11 : Int32))))), some (.int (m 93 (Int32.toNatClampNeg (((32 : Int32) * x0) + (12 : Int32))))), some (.int (m 93 (Int32.toNatClampNeg (((32 : Int32) * x0) + (13 : Int32))))), some (.int (m 93 (Int32.toNatClampNeg (((32 : Int32) * x0) + (14 : Int32)))))]) (st1 := []) (mem1 := m25) rfl ?_
                refine it_V.weak (l := [none, none, none, none, none, none, none]) trivial ?_
                exact s_284_240 kc Φ m25 h
              · have h := h.2 c24
                refine it_V.sN it_cd284 it_m284 3 (pc1 := 237) (ls1 := [some (.ref 66), some (.int x0), some (.int (m 93 (Int32.toNatClampNeg (((32 : Int32) * x0) + (10 : Int32))))), some (.int (m 93 (Int32.toNatClampNeg (((32 : Int32) * x0) + (11 : Int32))))), some (.int (m 93 (Int32.toNatClampNeg (((32 : Int32) * x0) + (12 : Int32))))), some (.int (m 93 (Int32.toNatClampNeg (((32 : Int32) * x0) + (13 : Int32))))), some (.int (m 93 (Int32.toNatClampNeg (((32 : Int32) * x0) + (14 : Int32)))))]) (st1 := [(.int (10 : Int32)), (.int x0), (.ref 66)]) (mem1 := m11) rfl ?_
                refine it_V.call it_cd284 it_m284 rfl it_m282 [(.ref 66), (.int x0), (.int (10 : Int32))] [] rfl rfl ⟨Nat.le_of_ble_eq_true rfl, Nat.le_of_ble_eq_true rfl, Nat.le_of_ble_eq_true rfl, Nat.le_of_ble_eq_true rfl, rfl⟩ (s_282 kc x0 (10 : Int32) m11 _ h) ?_
                rintro _ m26 ⟨rfl, h⟩
                refine it_V.at (pc1 := 240) (ls1 := [some (.ref 66), some (.int x0), some (.int (m 93 (Int32.toNatClampNeg (((32 : Int32) * x0) + (10 : Int32))))), some (.int (m 93 (Int32.toNatClampNeg (((32 : Int32) * x0) + (11 : Int32))))), some (.int (m 93 (Int32.toNatClampNeg (((32 : Int32) * x0) + (12 : Int32))))), some (.int (m 93 (Int32.toNatClampNeg (((32 : Int32) * x0) + (13 : Int32))))), some (.int (m 93 (Int32.toNatClampNeg (((32 : Int32) * x0) + (14 : Int32)))))]) (st1 := []) (mem1 := m26) rfl rfl rfl rfl ?_
                refine it_V.weak (l := [none, none, none, none, none, none, none]) trivial ?_
                exact s_284_240 kc Φ m26 h
set_option maxRecDepth 100000 in
set_option maxHeartbeats 4000000 in
theorem s_308_107 (kc : it_Kc) (Φ : it_Me → Prop) (K2 : Int32 → it_Me → Prop) (K113 : it_Me → Prop) (hK2 : ∀ (v1 : Int32) (m : it_Me), K2 v1 m → it_V kc it_sh0 308 2 [some (.ref 66), some (.int v1), none, none] [] m (it_Pv Φ)) (hK113 : ∀ (m : it_Me), K113 m → it_V kc it_sh0 308 113 [none, none, none, none] [] m (it_Pv Φ)) (v1 : Int32) (m : it_Me) (h : w_308_107 kc Φ K2 K113 v1 m) : it_V kc it_sh0 308 107 [some (.ref 66), some (.int v1), none, none] [] m (it_Pv Φ) := by
  rw [w_308_107] at h
  refine it_V.sN it_cd308 it_m308 2 (pc1 := 2) (ls1 := [some (.ref 66), some (.int (v1 + (1 : Int32))), none, none]) (st1 := []) (mem1 := m) rfl ?_
  refine it_V.weak (l := [some (.ref 66), some (.int (v1 + (1 : Int32))), none, none]) ⟨rfl, ⟨rfl, trivial⟩⟩ ?_
  exact hK2 (v1 + (1 : Int32)) m h
set_option maxRecDepth 100000 in
set_option maxHeartbeats 4000000 in
theorem s_308_31 (kc : it_Kc) (Φ : it_Me → Prop) (K2 : Int32 → it_Me → Prop) (K113 : it_Me → Prop) (hK2 : ∀ (v1 : Int32) (m : it_Me), K2 v1 m → it_V kc it_sh0 308 2 [some (.ref 66), some (.int v1), none, none] [] m (it_Pv Φ)) (hK113 : ∀ (m : it_Me), K113 m → it_V kc it_sh0 308 113 [none, none, none, none] [] m (it_Pv Φ)) (v1 : Int32) (v2 : Int32) (u0 : Int32) (m : it_Me) (h : w_308_31 kc Φ K2 K113 v1 v2 u0 m) : it_V kc it_sh0 308 31 [some (.ref 66), some (.int v1), some (.int v2), none] [(.int u0)] m (it_Pv Φ) := by
  rw [w_308_31] at h
  refine it_V.sN it_cd308 it_m308 4 (pc1 := (if v2 = (-1 : Int32) then 107 else 37)) (ls1 := [some (.ref 66), some (.int v1), some (.int v2), some (.int u0)]) (st1 := []) (mem1 := m) rfl ?_
  refine it_V.ite (fun c1 => ?_) (fun c1 => ?_)
  · have h := h.1 c1
    refine it_V.weak (l := [some (.ref 66), some (.int v1), none, none]) ⟨rfl, ⟨rfl, trivial⟩⟩ ?_
    exact s_308_107 kc Φ _ _ hK2 hK113 v1 m h
  · have h := h.2 c1
    refine it_V.sN it_cd308 it_m308 2 (pc1 := 39) (ls1 := [some (.ref 66), some (.int v1), some (.int v2), some (.int u0)]) (st1 := [(.int u0), (.ref 66)]) (mem1 := m) rfl ?_
    refine it_V.call it_cd308 it_m308 rfl it_m220 [(.ref 66), (.int u0)] [] rfl rfl ⟨Nat.le_of_ble_eq_true rfl, Nat.le_of_ble_eq_true rfl, Nat.le_of_ble_eq_true rfl, Nat.le_of_ble_eq_true rfl, rfl⟩ (s_220 kc u0 m _ h) ?_
    rintro _ m3 ⟨r2, rfl, h⟩
    refine it_V.at (pc1 := 42) (ls1 := [some (.ref 66), some (.int v1), some (.int v2), some (.int u0)]) (st1 := [(.int r2)]) (mem1 := m3) rfl rfl rfl rfl ?_
    refine it_V.sN it_cd308 it_m308 2 (pc1 := (if r2 = (1 : Int32) then 46 else 107)) (ls1 := [some (.ref 66), some (.int v1), some (.int v2), some (.int u0)]) (st1 := []) (mem1 := m3) rfl ?_
    refine it_V.ite (fun c4 => ?_) (fun c4 => ?_)
    · have h := h.1 c4
      refine it_V.sN it_cd308 it_m308 7 (pc1 := 55) (ls1 := [some (.ref 66), some (.int v1), some (.int v2), some (.int u0)]) (st1 := [(.int (u0 + (4 : Int32))), (.ref 66), (.int (m3 66 6)), (.ref 66)]) (mem1 := m3) rfl ?_
      refine it_V.call it_cd308 it_m308 rfl it_m220 [(.ref 66), (.int (u0 + (4 : Int32)))] [(.int (m3 66 6)), (.ref 66)] rfl rfl ⟨Nat.le_of_ble_eq_true rfl, Nat.le_of_ble_eq_true rfl, Nat.le_of_ble_eq_true rfl, Nat.le_of_ble_eq_true rfl, rfl⟩ (s_220 kc (u0 + (4 : Int32)) m3 _ h) ?_
      rintro _ m6 ⟨r5, rfl, h⟩
      refine it_V.at (pc1 := 58) (ls1 := [some (.ref 66), some (.int v1), some (.int v2), some (.int u0)]) (st1 := [(.int r5), (.int (m3 66 6)), (.ref 66)]) (mem1 := m6) rfl rfl rfl rfl ?_
      refine it_V.sN it_cd308 it_m308 5 (pc1 := 64) (ls1 := [some (.ref 66), some (.int v1), some (.int v2), some (.int u0)]) (st1 := [(.int (u0 + (8 : Int32))), (.ref 66), (.int ((m3 66 6) - r5)), (.ref 66)]) (mem1 := m6) rfl ?_
      refine it_V.call it_cd308 it_m308 rfl it_m220 [(.ref 66), (.int (u0 + (8 : Int32)))] [(.int ((m3 66 6) - r5)), (.ref 66)] rfl rfl ⟨Nat.le_of_ble_eq_true rfl, Nat.le_of_ble_eq_true rfl, Nat.le_of_ble_eq_true rfl, Nat.le_of_ble_eq_true rfl, rfl⟩ (s_220 kc (u0 + (8 : Int32)) m6 _ h) ?_
      rintro _ m8 ⟨r7, rfl, h⟩
      refine it_V.at (pc1 := 67) (ls1 := [some (.ref 66), some (.int v1), some (.int v2), some (.int u0)]) (st1 := [(.int r7), (.int ((m3 66 6) - r5)), (.ref 66)]) (mem1 := m8) rfl rfl rfl rfl ?_
      refine it_V.call it_cd308 it_m308 rfl it_m247 [(.ref 66), (.int ((m3 66 6) - r5)), (.int r7)] [] rfl rfl ⟨Nat.le_of_ble_eq_true rfl, Nat.le_of_ble_eq_true rfl, Nat.le_of_ble_eq_true rfl, Nat.le_of_ble_eq_true rfl, rfl⟩ (s_247 kc ((m3 66 6) - r5) r7 m8 _ h) ?_
      rintro _ m10 ⟨r9, rfl, h⟩
      refine it_V.at (pc1 := 70) (ls1 := [some (.ref 66), some (.int v1), some (.int v2), some (.int u0)]) (st1 := [(.int r9)]) (mem1 := m10) rfl rfl rfl rfl ?_
      refine it_V.sN it_cd308 it_m308 1 (pc1 := (if r9 = 0 then 73 else 107)) (ls1 := [some (.ref 66), some (.int v1), some (.int v2), some (.int u0)]) (st1 := []) (mem1 := m10) rfl ?_
      refine it_V.ite (fun c11 => ?_) (fun c11 => ?_)
      · have h := h.1 c11
        refine it_V.sN it_cd308 it_m308 3 (pc1 := 76) (ls1 := [some (.ref 66), some (.int v1), some (.int v2), some (.int u0)]) (st1 := [(.int (0 : Int32)), (.int u0), (.ref 66)]) (mem1 := m10) rfl ?_
        refine it_V.call it_cd308 it_m308 rfl it_m221 [(.ref 66), (.int u0), (.int (0 : Int32))] [] rfl rfl ⟨Nat.le_of_ble_eq_true rfl, Nat.le_of_ble_eq_true rfl, Nat.le_of_ble_eq_true rfl, Nat.le_of_ble_eq_true rfl, rfl⟩ (s_221 kc u0 (0 : Int32) m10 _ h) ?_
        rintro _ m12 ⟨rfl, h⟩
        refine it_V.at (pc1 := 79) (ls1 := [some (.ref 66), some (.int v1), some (.int v2), some (.int u0)]) (st1 := []) (mem1 := m12) rfl rfl rfl rfl ?_
        refine it_V.sN it_cd308 it_m308 10 (pc1 := 91) (ls1 := [some (.ref 66), some (.int v1), some (.int v2), some (.int u0)]) (st1 := [(.int (u0 + (4 : Int32))), (.ref 66), (.int (m12 66 6)), (.int (0 : Int32)), (.int (0 : Int32)), (.int v1), (.ref 66)]) (mem1 := m12) rfl ?_
        refine it_V.call it_cd308 it_m308 rfl it_m220 [(.ref 66), (.int (u0 + (4 : Int32)))] [(.int (m12 66 6)), (.int (0 : Int32)), (.int (0 : Int32)), (.int v1), (.ref 66)] rfl rfl ⟨Nat.le_of_ble_eq_true rfl, Nat.le_of_ble_eq_true rfl, Nat.le_of_ble_eq_true rfl, Nat.le_of_ble_eq_true rfl, rfl⟩ (s_220 kc (u0 + (4 : Int32)) m12 _ h) ?_
        rintro _ m14 ⟨r13, rfl, h⟩
        refine it_V.at (pc1 := 94) (ls1 := [some (.ref 66), some (.int v1), some (.int v2), some (.int u0)]) (st1 := [(.int r13), (.int (m12 66 6)), (.int (0 : Int32)), (.int (0 : Int32)), (.int v1), (.ref 66)]) (mem1 := m14) rfl rfl rfl rfl ?_
        refine it_V.sN it_cd308 it_m308 4 (pc1 := 99) (ls1 := [some (.ref 66), some (.int v1), some (.int v2), some (.int u0)]) (st1 := [(.int (u0 + (8 : Int32))), (.ref 66), (.int r13), (.int (m12 66 6)), (.int (0 : Int32)), (.int (0 : Int32)), (.int v1), (.ref 66)]) (mem1 := m14) rfl ?_
        refine it_V.call it_cd308 it_m308 rfl it_m220 [(.ref 66), (.int (u0 + (8 : Int32)))] [(.int r13), (.int (m12 66 6)), (.int (0 : Int32)), (.int (0 : Int32)), (.int v1), (.ref 66)] rfl rfl ⟨Nat.le_of_ble_eq_true rfl, Nat.le_of_ble_eq_true rfl, Nat.le_of_ble_eq_true rfl, Nat.le_of_ble_eq_true rfl, rfl⟩ (s_220 kc (u0 + (8 : Int32)) m14 _ h) ?_
        rintro _ m16 ⟨r15, rfl, h⟩
        refine it_V.at (pc1 := 102) (ls1 := [some (.ref 66), some (.int v1), some (.int v2), some (.int u0)]) (st1 := [(.int r15), (.int r13), (.int (m12 66 6)), (.int (0 : Int32)), (.int (0 : Int32)), (.int v1), (.ref 66)]) (mem1 := m16) rfl rfl rfl rfl ?_
        refine it_V.sN it_cd308 it_m308 2 (pc1 := 104) (ls1 := [some (.ref 66), some (.int v1), some (.int v2), some (.int u0)]) (st1 := [(.int (0 : Int32)), (.int (r13 + r15)), (.int (m12 66 6)), (.int (0 : Int32)), (.int (0 : Int32)), (.int v1), (.ref 66)]) (mem1 := m16) rfl ?_
        refine it_V.call it_cd308 it_m308 rfl it_m274 [(.ref 66), (.int v1), (.int (0 : Int32)), (.int (0 : Int32)), (.int (m12 66 6)), (.int (r13 + r15)), (.int (0 : Int32))] [] rfl rfl ⟨Nat.le_of_ble_eq_true rfl, Nat.le_of_ble_eq_true rfl, Nat.le_of_ble_eq_true rfl, Nat.le_of_ble_eq_true rfl, rfl⟩ (s_274 kc v1 (0 : Int32) (0 : Int32) (m12 66 6) (r13 + r15) (0 : Int32) m16 _ h) ?_
        rintro _ m17 ⟨rfl, h⟩
        refine it_V.at (pc1 := 107) (ls1 := [some (.ref 66), some (.int v1), some (.int v2), some (.int u0)]) (st1 := []) (mem1 := m17) rfl rfl rfl rfl ?_
        refine it_V.weak (l := [some (.ref 66), some (.int v1), none, none]) ⟨rfl, ⟨rfl, trivial⟩⟩ ?_
        exact s_308_107 kc Φ _ _ hK2 hK113 v1 m17 h
      · have h := h.2 c11
        refine it_V.weak (l := [some (.ref 66), some (.int v1), none, none]) ⟨rfl, ⟨rfl, trivial⟩⟩ ?_
        exact s_308_107 kc Φ _ _ hK2 hK113 v1 m10 h
    · have h := h.2 c4
      refine it_V.weak (l := [some (.ref 66), some (.int v1), none, none]) ⟨rfl, ⟨rfl, trivial⟩⟩ ?_
      exact s_308_107 kc Φ _ _ hK2 hK113 v1 m3 h
set_option maxRecDepth 100000 in
set_option maxHeartbeats 4000000 in
theorem s_308_2 (kc : it_Kc) (Φ : it_Me → Prop) (K113 : it_Me → Prop) (hK113 : ∀ (m : it_Me), K113 m → it_V kc it_sh0 308 113 [none, none, none, none] [] m (it_Pv Φ)) : ∀ (n : Nat) (v1 : Int32) (m : it_Me) (h : w_308_2 kc Φ K113 n v1 m), it_V kc it_sh0 308 2 [some (.ref 66), some (.int v1), none, none] [] m (it_Pv Φ) := by
  intro n
  induction n with
  | zero => intro v1 m h; exact absurd h id
  | succ n ih =>
    intro v1 m h
    rw [w_308_2] at h
    refine it_V.sN it_cd308 it_m308 4 (pc1 := (if (m 66 34) ≤ v1 then 113 else 10)) (ls1 := [some (.ref 66), some (.int v1), none, none]) (st1 := []) (mem1 := m) rfl ?_
    refine it_V.ite (fun c1 => ?_) (fun c1 => ?_)
    · have h := h.1 c1
      refine it_V.weak (l := [none, none, none, none]) trivial ?_
      exact hK113 m h
    · have h := h.2 c1
      refine it_V.sN it_cd308 it_m308 3 (pc1 := 13) (ls1 := [some (.ref 66), some (.int v1), none, none]) (st1 := [(.int (0 : Int32)), (.int v1), (.ref 66)]) (mem1 := m) rfl ?_
      refine it_V.call it_cd308 it_m308 rfl it_m272 [(.ref 66), (.int v1), (.int (0 : Int32))] [] rfl rfl ⟨Nat.le_of_ble_eq_true rfl, Nat.le_of_ble_eq_true rfl, Nat.le_of_ble_eq_true rfl, Nat.le_of_ble_eq_true rfl, rfl⟩ (s_272 kc v1 (0 : Int32) m _ h) ?_
      rintro _ m3 ⟨r2, rfl, h⟩
      refine it_V.at (pc1 := 16) (ls1 := [some (.ref 66), some (.int v1), none, none]) (st1 := [(.int r2)]) (mem1 := m3) rfl rfl rfl rfl ?_
      refine it_V.sN it_cd308 it_m308 4 (pc1 := (if r2 = (-1 : Int32) then 22 else 26)) (ls1 := [some (.ref 66), some (.int v1), some (.int r2), none]) (st1 := []) (mem1 := m3) rfl ?_
      refine it_V.ite (fun c4 => ?_) (fun c4 => ?_)
      · have h := h.1 c4
        refine it_V.sN it_cd308 it_m308 2 (pc1 := 31) (ls1 := [some (.ref 66), some (.int v1), some (.int r2), none]) (st1 := [(.int (0 : Int32))]) (mem1 := m3) rfl ?_
        refine it_V.weak (l := [some (.ref 66), some (.int v1), some (.int r2), none]) ⟨rfl, ⟨rfl, ⟨rfl, trivial⟩⟩⟩ ?_
        exact s_308_31 kc Φ _ _ ih hK113 v1 r2 (0 : Int32) m3 h
      · have h := h.2 c4
        refine it_V.sN it_cd308 it_m308 2 (pc1 := 28) (ls1 := [some (.ref 66), some (.int v1), some (.int r2), none]) (st1 := [(.int (0 : Int32)), (.int r2)]) (mem1 := m3) rfl ?_
        refine it_V.call it_cd308 it_m308 rfl it_m269 [(.int r2), (.int (0 : Int32))] [] rfl rfl ⟨Nat.le_of_ble_eq_true rfl, Nat.le_of_ble_eq_true rfl, Nat.le_of_ble_eq_true rfl, Nat.le_of_ble_eq_true rfl, rfl⟩ (s_269 kc r2 (0 : Int32) m3 _ h) ?_
        rintro _ m6 ⟨r5, rfl, h⟩
        refine it_V.at (pc1 := 31) (ls1 := [some (.ref 66), some (.int v1), some (.int r2), none]) (st1 := [(.int r5)]) (mem1 := m6) rfl rfl rfl rfl ?_
        refine it_V.weak (l := [some (.ref 66), some (.int v1), some (.int r2), none]) ⟨rfl, ⟨rfl, ⟨rfl, trivial⟩⟩⟩ ?_
        exact s_308_31 kc Φ _ _ ih hK113 v1 r2 r5 m6 h
set_option maxRecDepth 100000 in
set_option maxHeartbeats 4000000 in
theorem s_308_113 (kc : it_Kc) (Φ : it_Me → Prop) (m : it_Me) (h : w_308_113 kc Φ m) : it_V kc it_sh0 308 113 [none, none, none, none] [] m (it_Pv Φ) := by
  rw [w_308_113] at h
  exact it_V.ret it_cd308 it_m308 rfl rfl ⟨rfl, h⟩
set_option maxRecDepth 100000 in
set_option maxHeartbeats 4000000 in
theorem s_308 (kc : it_Kc) (m : it_Me) (Φ : it_Me → Prop) (h : w_308 kc m Φ) : it_V kc it_sh0 308 0 (it_loc0 [(.ref 66)] 4) [] m (it_Pv Φ) := by
  rw [w_308] at h
  refine it_V.at (pc1 := 0) (ls1 := [some (.ref 66), none, none, none]) (st1 := []) (mem1 := m) rfl rfl rfl rfl ?_
  refine it_V.sN it_cd308 it_m308 2 (pc1 := 2) (ls1 := [some (.ref 66), some (.int (0 : Int32)), none, none]) (st1 := []) (mem1 := m) rfl ?_
  obtain ⟨n, h⟩ := h
  exact s_308_2 kc Φ _ (fun m h => s_308_113 kc Φ m h) n (0 : Int32) m h
set_option maxRecDepth 100000 in
set_option maxHeartbeats 4000000 in
theorem s_309_106 (kc : it_Kc) (Φ : Int32 → it_Me → Prop) (K4 : Int32 → Int32 → Int32 → it_Me → Prop) (K112 : Int32 → it_Me → Prop) (hK4 : ∀ (v1 : Int32) (v2 : Int32) (v3 : Int32) (m : it_Me), K4 v1 v2 v3 m → it_V kc it_sh0 309 4 [some (.ref 66), some (.int v1), some (.int v2), some (.int v3), none, none] [] m (it_Pi Φ)) (hK112 : ∀ (v2 : Int32) (m : it_Me), K112 v2 m → it_V kc it_sh0 309 112 [none, none, some (.int v2), none, none, none] [] m (it_Pi Φ)) (v1 : Int32) (v2 : Int32) (v3 : Int32) (m : it_Me) (h : w_309_106 kc Φ K4 K112 v1 v2 v3 m) : it_V kc it_sh0 309 106 [some (.ref 66), some (.int v1), some (.int v2), some (.int v3), none, none] [] m (it_Pi Φ) := by
  rw [w_309_106] at h
  refine it_V.sN it_cd309 it_m309 2 (pc1 := 4) (ls1 := [some (.ref 66), some (.int v1), some (.int v2), some (.int (v3 + (1 : Int32))), none, none]) (st1 := []) (mem1 := m) rfl ?_
  refine it_V.weak (l := [some (.ref 66), some (.int v1), some (.int v2), some (.int (v3 + (1 : Int32))), none, none]) ⟨rfl, ⟨rfl, ⟨rfl, ⟨rfl, trivial⟩⟩⟩⟩ ?_
  exact hK4 v1 v2 (v3 + (1 : Int32)) m h
set_option maxRecDepth 100000 in
set_option maxHeartbeats 4000000 in
theorem s_309_105 (kc : it_Kc) (Φ : Int32 → it_Me → Prop) (K4 : Int32 → Int32 → Int32 → it_Me → Prop) (K112 : Int32 → it_Me → Prop) (hK4 : ∀ (v1 : Int32) (v2 : Int32) (v3 : Int32) (m : it_Me), K4 v1 v2 v3 m → it_V kc it_sh0 309 4 [some (.ref 66), some (.int v1), some (.int v2), some (.int v3), none, none] [] m (it_Pi Φ)) (hK112 : ∀ (v2 : Int32) (m : it_Me), K112 v2 m → it_V kc it_sh0 309 112 [none, none, some (.int v2), none, none, none] [] m (it_Pi Φ)) (v1 : Int32) (v3 : Int32) (u0 : Int32) (m : it_Me) (h : w_309_105 kc Φ K4 K112 v1 v3 u0 m) : it_V kc it_sh0 309 105 [some (.ref 66), some (.int v1), none, some (.int v3), none, none] [(.int u0)] m (it_Pi Φ) := by
  rw [w_309_105] at h
  refine it_V.sN it_cd309 it_m309 1 (pc1 := 106) (ls1 := [some (.ref 66), some (.int v1), some (.int u0), some (.int v3), none, none]) (st1 := []) (mem1 := m) rfl ?_
  refine it_V.weak (l := [some (.ref 66), some (.int v1), some (.int u0), some (.int v3), none, none]) ⟨rfl, ⟨rfl, ⟨rfl, ⟨rfl, trivial⟩⟩⟩⟩ ?_
  exact s_309_106 kc Φ _ _ hK4 hK112 v1 u0 v3 m h
set_option maxRecDepth 100000 in
set_option maxHeartbeats 4000000 in
theorem s_309_100 (kc : it_Kc) (Φ : Int32 → it_Me → Prop) (K4 : Int32 → Int32 → Int32 → it_Me → Prop) (K112 : Int32 → it_Me → Prop) (hK4 : ∀ (v1 : Int32) (v2 : Int32) (v3 : Int32) (m : it_Me), K4 v1 v2 v3 m → it_V kc it_sh0 309 4 [some (.ref 66), some (.int v1), some (.int v2), some (.int v3), none, none] [] m (it_Pi Φ)) (hK112 : ∀ (v2 : Int32) (m : it_Me), K112 v2 m → it_V kc it_sh0 309 112 [none, none, some (.int v2), none, none, none] [] m (it_Pi Φ)) (v1 : Int32) (v3 : Int32) (m : it_Me) (h : w_309_100 kc Φ K4 K112 v1 v3 m) : it_V kc it_sh0 309 100 [some (.ref 66), some (.int v1), none, some (.int v3), none, none] [] m (it_Pi Φ) := by
  rw [w_309_100] at h
  refine it_V.sN it_cd309 it_m309 2 (pc1 := 105) (ls1 := [some (.ref 66), some (.int v1), none, some (.int v3), none, none]) (st1 := [(.int v3)]) (mem1 := m) rfl ?_
  refine it_V.weak (l := [some (.ref 66), some (.int v1), none, some (.int v3), none, none]) ⟨rfl, ⟨rfl, ⟨rfl, trivial⟩⟩⟩ ?_
  exact s_309_105 kc Φ _ _ hK4 hK112 v1 v3 v3 m h
set_option maxRecDepth 100000 in
set_option maxHeartbeats 4000000 in
theorem s_309_97 (kc : it_Kc) (Φ : Int32 → it_Me → Prop) (K4 : Int32 → Int32 → Int32 → it_Me → Prop) (K112 : Int32 → it_Me → Prop) (hK4 : ∀ (v1 : Int32) (v2 : Int32) (v3 : Int32) (m : it_Me), K4 v1 v2 v3 m → it_V kc it_sh0 309 4 [some (.ref 66), some (.int v1), some (.int v2), some (.int v3), none, none] [] m (it_Pi Φ)) (hK112 : ∀ (v2 : Int32) (m : it_Me), K112 v2 m → it_V kc it_sh0 309 112 [none, none, some (.int v2), none, none, none] [] m (it_Pi Φ)) (v1 : Int32) (v2 : Int32) (v3 : Int32) (u0 : Int32) (u1 : Int32) (m : it_Me) (h : w_309_97 kc Φ K4 K112 v1 v2 v3 u0 u1 m) : it_V kc it_sh0 309 97 [some (.ref 66), some (.int v1), some (.int v2), some (.int v3), none, none] [(.int u1), (.int u0)] m (it_Pi Φ) := by
  rw [w_309_97] at h
  refine it_V.sN it_cd309 it_m309 1 (pc1 := (if u1 ≤ u0 then 104 else 100)) (ls1 := [some (.ref 66), some (.int v1), some (.int v2), some (.int v3), none, none]) (st1 := []) (mem1 := m) rfl ?_
  refine it_V.ite (fun c1 => ?_) (fun c1 => ?_)
  · have h := h.1 c1
    refine it_V.sN it_cd309 it_m309 1 (pc1 := 105) (ls1 := [some (.ref 66), some (.int v1), some (.int v2), some (.int v3), none, none]) (st1 := [(.int v2)]) (mem1 := m) rfl ?_
    refine it_V.weak (l := [some (.ref 66), some (.int v1), none, some (.int v3), none, none]) ⟨rfl, ⟨rfl, ⟨rfl, trivial⟩⟩⟩ ?_
    exact s_309_105 kc Φ _ _ hK4 hK112 v1 v3 v2 m h
  · have h := h.2 c1
    refine it_V.weak (l := [some (.ref 66), some (.int v1), none, some (.int v3), none, none]) ⟨rfl, ⟨rfl, ⟨rfl, trivial⟩⟩⟩ ?_
    exact s_309_100 kc Φ _ _ hK4 hK112 v1 v3 m h
set_option maxRecDepth 100000 in
set_option maxHeartbeats 4000000 in
theorem s_309_69 (kc : it_Kc) (Φ : Int32 → it_Me → Prop) (K4 : Int32 → Int32 → Int32 → it_Me → Prop) (K112 : Int32 → it_Me → Prop) (hK4 : ∀ (v1 : Int32) (v2 : Int32) (v3 : Int32) (m : it_Me), K4 v1 v2 v3 m → it_V kc it_sh0 309 4 [some (.ref 66), some (.int v1), some (.int v2), some (.int v3), none, none] [] m (it_Pi Φ)) (hK112 : ∀ (v2 : Int32) (m : it_Me), K112 v2 m → it_V kc it_sh0 309 112 [none, none, some (.int v2), none, none, none] [] m (it_Pi Φ)) (v1 : Int32) (v2 : Int32) (v3 : Int32) (u0 : Int32) (m : it_Me) (h : w_309_69 kc Φ K4 K112 v1 v2 v3 u0 m) : it_V kc it_sh0 309 69 [some (.ref 66), some (.int v1), some (.int v2), some (.int v3), none, none] [(.int u0)] m (it_Pi Φ) := by
  rw [w_309_69] at h
  refine it_V.sN it_cd309 it_m309 4 (pc1 := (if v2 = (-1 : Int32) then 100 else 76)) (ls1 := [some (.ref 66), some (.int v1), some (.int v2), some (.int v3), none, some (.int u0)]) (st1 := []) (mem1 := m) rfl ?_
  refine it_V.ite (fun c1 => ?_) (fun c1 => ?_)
  · have h := h.1 c1
    refine it_V.weak (l := [some (.ref 66), some (.int v1), none, some (.int v3), none, none]) ⟨rfl, ⟨rfl, ⟨rfl, trivial⟩⟩⟩ ?_
    exact s_309_100 kc Φ _ _ hK4 hK112 v1 v3 m h
  · have h := h.2 c1
    refine it_V.sN it_cd309 it_m309 3 (pc1 := (if v1 = 0 then 91 else 82)) (ls1 := [some (.ref 66), some (.int v1), some (.int v2), some (.int v3), none, some (.int u0)]) (st1 := [(.int u0)]) (mem1 := m) rfl ?_
    refine it_V.ite (fun c2 => ?_) (fun c2 => ?_)
    · have h := h.1 c2
      refine it_V.sN it_cd309 it_m309 3 (pc1 := 96) (ls1 := [some (.ref 66), some (.int v1), some (.int v2), some (.int v3), none, some (.int u0)]) (st1 := [(.int v2), (.ref 112), (.int u0)]) (mem1 := m) rfl ?_
      obtain ⟨g3, h⟩ := h
      refine it_V.iald it_cd309 it_m309 rfl ((⟨rfl, by decide⟩ : it_isR 112 8)).2 ((⟨rfl, by decide⟩ : it_isR 112 8)).1 g3 ?_
      refine it_V.at (pc1 := 97) (ls1 := [some (.ref 66), some (.int v1), some (.int v2), some (.int v3), none, some (.int u0)]) (st1 := [(.int (m 112 (Int32.toNatClampNeg v2))), (.int u0)]) (mem1 := m) rfl rfl rfl rfl ?_
      refine it_V.weak (l := [some (.ref 66), some (.int v1), some (.int v2), some (.int v3), none, none]) ⟨rfl, ⟨rfl, ⟨rfl, ⟨rfl, trivial⟩⟩⟩⟩ ?_
      exact s_309_97 kc Φ _ _ hK4 hK112 v1 v2 v3 u0 (m 112 (Int32.toNatClampNeg v2)) m h
    · have h := h.2 c2
      refine it_V.sN it_cd309 it_m309 3 (pc1 := 87) (ls1 := [some (.ref 66), some (.int v1), some (.int v2), some (.int v3), none, some (.int u0)]) (st1 := [(.int v2), (.ref 111), (.int u0)]) (mem1 := m) rfl ?_
      obtain ⟨g4, h⟩ := h
      refine it_V.iald it_cd309 it_m309 rfl ((⟨rfl, by decide⟩ : it_isR 111 8)).2 ((⟨rfl, by decide⟩ : it_isR 111 8)).1 g4 ?_
      refine it_V.at (pc1 := 88) (ls1 := [some (.ref 66), some (.int v1), some (.int v2), some (.int v3), none, some (.int u0)]) (st1 := [(.int (m 111 (Int32.toNatClampNeg v2))), (.int u0)]) (mem1 := m) rfl rfl rfl rfl ?_
      refine it_V.sN it_cd309 it_m309 1 (pc1 := 97) (ls1 := [some (.ref 66), some (.int v1), some (.int v2), some (.int v3), none, some (.int u0)]) (st1 := [(.int (m 111 (Int32.toNatClampNeg v2))), (.int u0)]) (mem1 := m) rfl ?_
      refine it_V.weak (l := [some (.ref 66), some (.int v1), some (.int v2), some (.int v3), none, none]) ⟨rfl, ⟨rfl, ⟨rfl, ⟨rfl, trivial⟩⟩⟩⟩ ?_
      exact s_309_97 kc Φ _ _ hK4 hK112 v1 v2 v3 u0 (m 111 (Int32.toNatClampNeg v2)) m h
set_option maxRecDepth 100000 in
set_option maxHeartbeats 4000000 in
theorem s_309_43 (kc : it_Kc) (Φ : Int32 → it_Me → Prop) (K4 : Int32 → Int32 → Int32 → it_Me → Prop) (K112 : Int32 → it_Me → Prop) (hK4 : ∀ (v1 : Int32) (v2 : Int32) (v3 : Int32) (m : it_Me), K4 v1 v2 v3 m → it_V kc it_sh0 309 4 [some (.ref 66), some (.int v1), some (.int v2), some (.int v3), none, none] [] m (it_Pi Φ)) (hK112 : ∀ (v2 : Int32) (m : it_Me), K112 v2 m → it_V kc it_sh0 309 112 [none, none, some (.int v2), none, none, none] [] m (it_Pi Φ)) (v1 : Int32) (v2 : Int32) (v3 : Int32) (u1 : Int32) (u2 : Int32) (m : it_Me) (h : w_309_43 kc Φ K4 K112 v1 v2 v3 u1 u2 m) : it_V kc it_sh0 309 43 [some (.ref 66), some (.int v1), some (.int v2), some (.int v3), none, none] [(.int u2), (.int u1), (.ref 66)] m (it_Pi Φ) := by
  rw [w_309_43] at h
  refine it_V.sN it_cd309 it_m309 1 (pc1 := 44) (ls1 := [some (.ref 66), some (.int v1), some (.int v2), some (.int v3), none, none]) (st1 := [(.int (u1 + u2)), (.ref 66)]) (mem1 := m) rfl ?_
  refine it_V.call it_cd309 it_m309 rfl it_m220 [(.ref 66), (.int (u1 + u2))] [] rfl rfl ⟨Nat.le_of_ble_eq_true rfl, Nat.le_of_ble_eq_true rfl, Nat.le_of_ble_eq_true rfl, Nat.le_of_ble_eq_true rfl, rfl⟩ (s_220 kc (u1 + u2) m _ h) ?_
  rintro _ m2 ⟨r1, rfl, h⟩
  refine it_V.at (pc1 := 47) (ls1 := [some (.ref 66), some (.int v1), some (.int v2), some (.int v3), none, none]) (st1 := [(.int r1)]) (mem1 := m2) rfl rfl rfl rfl ?_
  refine it_V.sN it_cd309 it_m309 1 (pc1 := (if r1 = 0 then 106 else 50)) (ls1 := [some (.ref 66), some (.int v1), some (.int v2), some (.int v3), none, none]) (st1 := []) (mem1 := m2) rfl ?_
  refine it_V.ite (fun c3 => ?_) (fun c3 => ?_)
  · have h := h.1 c3
    refine it_V.weak (l := [some (.ref 66), some (.int v1), some (.int v2), some (.int v3), none, none]) ⟨rfl, ⟨rfl, ⟨rfl, ⟨rfl, trivial⟩⟩⟩⟩ ?_
    exact s_309_106 kc Φ _ _ hK4 hK112 v1 v2 v3 m2 h
  · have h := h.2 c3
    refine it_V.sN it_cd309 it_m309 2 (pc1 := (if v1 = 0 then 63 else 54)) (ls1 := [some (.ref 66), some (.int v1), some (.int v2), some (.int v3), none, none]) (st1 := []) (mem1 := m2) rfl ?_
    refine it_V.ite (fun c4 => ?_) (fun c4 => ?_)
    · have h := h.1 c4
      refine it_V.sN it_cd309 it_m309 3 (pc1 := 68) (ls1 := [some (.ref 66), some (.int v1), some (.int v2), some (.int v3), none, none]) (st1 := [(.int v3), (.ref 112)]) (mem1 := m2) rfl ?_
      obtain ⟨g5, h⟩ := h
      refine it_V.iald it_cd309 it_m309 rfl ((⟨rfl, by decide⟩ : it_isR 112 8)).2 ((⟨rfl, by decide⟩ : it_isR 112 8)).1 g5 ?_
      refine it_V.at (pc1 := 69) (ls1 := [some (.ref 66), some (.int v1), some (.int v2), some (.int v3), none, none]) (st1 := [(.int (m2 112 (Int32.toNatClampNeg v3)))]) (mem1 := m2) rfl rfl rfl rfl ?_
      refine it_V.weak (l := [some (.ref 66), some (.int v1), some (.int v2), some (.int v3), none, none]) ⟨rfl, ⟨rfl, ⟨rfl, ⟨rfl, trivial⟩⟩⟩⟩ ?_
      exact s_309_69 kc Φ _ _ hK4 hK112 v1 v2 v3 (m2 112 (Int32.toNatClampNeg v3)) m2 h
    · have h := h.2 c4
      refine it_V.sN it_cd309 it_m309 3 (pc1 := 59) (ls1 := [some (.ref 66), some (.int v1), some (.int v2), some (.int v3), none, none]) (st1 := [(.int v3), (.ref 111)]) (mem1 := m2) rfl ?_
      obtain ⟨g6, h⟩ := h
      refine it_V.iald it_cd309 it_m309 rfl ((⟨rfl, by decide⟩ : it_isR 111 8)).2 ((⟨rfl, by decide⟩ : it_isR 111 8)).1 g6 ?_
      refine it_V.at (pc1 := 60) (ls1 := [some (.ref 66), some (.int v1), some (.int v2), some (.int v3), none, none]) (st1 := [(.int (m2 111 (Int32.toNatClampNeg v3)))]) (mem1 := m2) rfl rfl rfl rfl ?_
      refine it_V.sN it_cd309 it_m309 1 (pc1 := 69) (ls1 := [some (.ref 66), some (.int v1), some (.int v2), some (.int v3), none, none]) (st1 := [(.int (m2 111 (Int32.toNatClampNeg v3)))]) (mem1 := m2) rfl ?_
      refine it_V.weak (l := [some (.ref 66), some (.int v1), some (.int v2), some (.int v3), none, none]) ⟨rfl, ⟨rfl, ⟨rfl, ⟨rfl, trivial⟩⟩⟩⟩ ?_
      exact s_309_69 kc Φ _ _ hK4 hK112 v1 v2 v3 (m2 111 (Int32.toNatClampNeg v3)) m2 h
set_option maxRecDepth 100000 in
set_option maxHeartbeats 4000000 in
theorem s_309_4 (kc : it_Kc) (Φ : Int32 → it_Me → Prop) (K112 : Int32 → it_Me → Prop) (hK112 : ∀ (v2 : Int32) (m : it_Me), K112 v2 m → it_V kc it_sh0 309 112 [none, none, some (.int v2), none, none, none] [] m (it_Pi Φ)) : ∀ (n : Nat) (v1 : Int32) (v2 : Int32) (v3 : Int32) (m : it_Me) (h : w_309_4 kc Φ K112 n v1 v2 v3 m), it_V kc it_sh0 309 4 [some (.ref 66), some (.int v1), some (.int v2), some (.int v3), none, none] [] m (it_Pi Φ) := by
  intro n
  induction n with
  | zero => intro v1 v2 v3 m h; exact absurd h id
  | succ n ih =>
    intro v1 v2 v3 m h
    rw [w_309_4] at h
    refine it_V.sN it_cd309 it_m309 4 (pc1 := (if (m 66 34) ≤ v3 then 112 else 12)) (ls1 := [some (.ref 66), some (.int v1), some (.int v2), some (.int v3), none, none]) (st1 := []) (mem1 := m) rfl ?_
    refine it_V.ite (fun c1 => ?_) (fun c1 => ?_)
    · have h := h.1 c1
      refine it_V.weak (l := [none, none, some (.int v2), none, none, none]) ⟨rfl, trivial⟩ ?_
      exact hK112 v2 m h
    · have h := h.2 c1
      refine it_V.sN it_cd309 it_m309 3 (pc1 := 15) (ls1 := [some (.ref 66), some (.int v1), some (.int v2), some (.int v3), none, none]) (st1 := [(.int (1 : Int32)), (.int v3), (.ref 66)]) (mem1 := m) rfl ?_
      refine it_V.call it_cd309 it_m309 rfl it_m272 [(.ref 66), (.int v3), (.int (1 : Int32))] [] rfl rfl ⟨Nat.le_of_ble_eq_true rfl, Nat.le_of_ble_eq_true rfl, Nat.le_of_ble_eq_true rfl, Nat.le_of_ble_eq_true rfl, rfl⟩ (s_272 kc v3 (1 : Int32) m _ h) ?_
      rintro _ m3 ⟨r2, rfl, h⟩
      refine it_V.at (pc1 := 18) (ls1 := [some (.ref 66), some (.int v1), some (.int v2), some (.int v3), none, none]) (st1 := [(.int r2)]) (mem1 := m3) rfl rfl rfl rfl ?_
      refine it_V.sN it_cd309 it_m309 4 (pc1 := (if r2 = (-1 : Int32) then 106 else 26)) (ls1 := [some (.ref 66), some (.int v1), some (.int v2), some (.int v3), some (.int r2), none]) (st1 := []) (mem1 := m3) rfl ?_
      refine it_V.ite (fun c4 => ?_) (fun c4 => ?_)
      · have h := h.1 c4
        refine it_V.weak (l := [some (.ref 66), some (.int v1), some (.int v2), some (.int v3), none, none]) ⟨rfl, ⟨rfl, ⟨rfl, ⟨rfl, trivial⟩⟩⟩⟩ ?_
        exact s_309_106 kc Φ _ _ ih hK112 v1 v2 v3 m3 h
      · have h := h.2 c4
        refine it_V.sN it_cd309 it_m309 3 (pc1 := 30) (ls1 := [some (.ref 66), some (.int v1), some (.int v2), some (.int v3), some (.int r2), none]) (st1 := [(.int (1 : Int32)), (.int r2), (.ref 66)]) (mem1 := m3) rfl ?_
        refine it_V.call it_cd309 it_m309 rfl it_m269 [(.int r2), (.int (1 : Int32))] [(.ref 66)] rfl rfl ⟨Nat.le_of_ble_eq_true rfl, Nat.le_of_ble_eq_true rfl, Nat.le_of_ble_eq_true rfl, Nat.le_of_ble_eq_true rfl, rfl⟩ (s_269 kc r2 (1 : Int32) m3 _ h) ?_
        rintro _ m6 ⟨r5, rfl, h⟩
        refine it_V.at (pc1 := 33) (ls1 := [some (.ref 66), some (.int v1), some (.int v2), some (.int v3), some (.int r2), none]) (st1 := [(.int r5), (.ref 66)]) (mem1 := m6) rfl rfl rfl rfl ?_
        refine it_V.sN it_cd309 it_m309 2 (pc1 := (if v1 = 0 then 41 else 37)) (ls1 := [some (.ref 66), some (.int v1), some (.int v2), some (.int v3), some (.int r2), none]) (st1 := [(.int r5), (.ref 66)]) (mem1 := m6) rfl ?_
        refine it_V.ite (fun c7 => ?_) (fun c7 => ?_)
        · have h := h.1 c7
          refine it_V.sN it_cd309 it_m309 1 (pc1 := 43) (ls1 := [some (.ref 66), some (.int v1), some (.int v2), some (.int v3), some (.int r2), none]) (st1 := [(.int (8 : Int32)), (.int r5), (.ref 66)]) (mem1 := m6) rfl ?_
          refine it_V.weak (l := [some (.ref 66), some (.int v1), some (.int v2), some (.int v3), none, none]) ⟨rfl, ⟨rfl, ⟨rfl, ⟨rfl, trivial⟩⟩⟩⟩ ?_
          exact s_309_43 kc Φ _ _ ih hK112 v1 v2 v3 r5 (8 : Int32) m6 h
        · have h := h.2 c7
          refine it_V.sN it_cd309 it_m309 2 (pc1 := 43) (ls1 := [some (.ref 66), some (.int v1), some (.int v2), some (.int v3), some (.int r2), none]) (st1 := [(.int (0 : Int32)), (.int r5), (.ref 66)]) (mem1 := m6) rfl ?_
          refine it_V.weak (l := [some (.ref 66), some (.int v1), some (.int v2), some (.int v3), none, none]) ⟨rfl, ⟨rfl, ⟨rfl, ⟨rfl, trivial⟩⟩⟩⟩ ?_
          exact s_309_43 kc Φ _ _ ih hK112 v1 v2 v3 r5 (0 : Int32) m6 h
set_option maxRecDepth 100000 in
set_option maxHeartbeats 4000000 in
theorem s_309_112 (kc : it_Kc) (Φ : Int32 → it_Me → Prop) (v2 : Int32) (m : it_Me) (h : w_309_112 kc Φ v2 m) : it_V kc it_sh0 309 112 [none, none, some (.int v2), none, none, none] [] m (it_Pi Φ) := by
  rw [w_309_112] at h
  refine it_V.sN it_cd309 it_m309 1 (pc1 := 113) (ls1 := [none, none, some (.int v2), none, none, none]) (st1 := [(.int v2)]) (mem1 := m) rfl ?_
  exact it_V.ret it_cd309 it_m309 rfl rfl ⟨_, rfl, h⟩
set_option maxRecDepth 100000 in
set_option maxHeartbeats 4000000 in
theorem s_309 (kc : it_Kc) (x0 : Int32) (m : it_Me) (Φ : Int32 → it_Me → Prop) (h : w_309 kc x0 m Φ) : it_V kc it_sh0 309 0 (it_loc0 [(.ref 66), (.int x0)] 6) [] m (it_Pi Φ) := by
  rw [w_309] at h
  refine it_V.at (pc1 := 0) (ls1 := [some (.ref 66), some (.int x0), none, none, none, none]) (st1 := []) (mem1 := m) rfl rfl rfl rfl ?_
  refine it_V.sN it_cd309 it_m309 4 (pc1 := 4) (ls1 := [some (.ref 66), some (.int x0), some (.int (-1 : Int32)), some (.int (0 : Int32)), none, none]) (st1 := []) (mem1 := m) rfl ?_
  obtain ⟨n, h⟩ := h
  exact s_309_4 kc Φ _ (fun v2 m h => s_309_112 kc Φ v2 m h) n x0 (-1 : Int32) (0 : Int32) m h
set_option maxRecDepth 100000 in
set_option maxHeartbeats 4000000 in
theorem s_310_190 (kc : it_Kc) (Φ : it_Me → Prop) (m : it_Me) (h : w_310_190 kc Φ m) : it_V kc it_sh0 310 190 [none, none, none, none, none, none, none] [] m (it_Pv Φ) := by
  rw [w_310_190] at h
  exact it_V.ret it_cd310 it_m310 rfl rfl ⟨rfl, h⟩
set_option maxRecDepth 100000 in
set_option maxHeartbeats 4000000 in
theorem s_310_165 (kc : it_Kc) (Φ : it_Me → Prop) (v1 : Int32) (v3 : Int32) (v4 : Int32) (m : it_Me) (h : w_310_165 kc Φ v1 v3 v4 m) : it_V kc it_sh0 310 165 [some (.ref 66), some (.int v1), none, some (.int v3), some (.int v4), none, none] [] m (it_Pv Φ) := by
  rw [w_310_165] at h
  refine it_V.sN it_cd310 it_m310 3 (pc1 := 168) (ls1 := [some (.ref 66), some (.int v1), none, some (.int v3), some (.int v4), none, none]) (st1 := [(.int (0 : Int32)), (.int v3), (.ref 66)]) (mem1 := m) rfl ?_
  refine it_V.call it_cd310 it_m310 rfl it_m221 [(.ref 66), (.int v3), (.int (0 : Int32))] [] rfl rfl ⟨Nat.le_of_ble_eq_true rfl, Nat.le_of_ble_eq_true rfl, Nat.le_of_ble_eq_true rfl, Nat.le_of_ble_eq_true rfl, rfl⟩ (s_221 kc v3 (0 : Int32) m _ h) ?_
  rintro _ m1 ⟨rfl, h⟩
  refine it_V.at (pc1 := 171) (ls1 := [some (.ref 66), some (.int v1), none, some (.int v3), some (.int v4), none, none]) (st1 := []) (mem1 := m1) rfl rfl rfl rfl ?_
  refine it_V.sN it_cd310 it_m310 5 (pc1 := 176) (ls1 := [some (.ref 66), some (.int v1), none, some (.int v3), some (.int v4), none, none]) (st1 := [(.int (0 : Int32)), (.int (v3 + (4 : Int32))), (.ref 66)]) (mem1 := m1) rfl ?_
  refine it_V.call it_cd310 it_m310 rfl it_m221 [(.ref 66), (.int (v3 + (4 : Int32))), (.int (0 : Int32))] [] rfl rfl ⟨Nat.le_of_ble_eq_true rfl, Nat.le_of_ble_eq_true rfl, Nat.le_of_ble_eq_true rfl, Nat.le_of_ble_eq_true rfl, rfl⟩ (s_221 kc (v3 + (4 : Int32)) (0 : Int32) m1 _ h) ?_
  rintro _ m2 ⟨rfl, h⟩
  refine it_V.at (pc1 := 179) (ls1 := [some (.ref 66), some (.int v1), none, some (.int v3), some (.int v4), none, none]) (st1 := []) (mem1 := m2) rfl rfl rfl rfl ?_
  refine it_V.sN it_cd310 it_m310 7 (pc1 := 187) (ls1 := [some (.ref 66), some (.int v1), none, some (.int v3), some (.int v4), none, none]) (st1 := [(.int (0 : Int32)), (.int (0 : Int32)), (.int v4), (.int (1 : Int32)), (.int (1 : Int32)), (.int v1), (.ref 66)]) (mem1 := m2) rfl ?_
  refine it_V.call it_cd310 it_m310 rfl it_m274 [(.ref 66), (.int v1), (.int (1 : Int32)), (.int (1 : Int32)), (.int v4), (.int (0 : Int32)), (.int (0 : Int32))] [] rfl rfl ⟨Nat.le_of_ble_eq_true rfl, Nat.le_of_ble_eq_true rfl, Nat.le_of_ble_eq_true rfl, Nat.le_of_ble_eq_true rfl, rfl⟩ (s_274 kc v1 (1 : Int32) (1 : Int32) v4 (0 : Int32) (0 : Int32) m2 _ h) ?_
  rintro _ m3 ⟨rfl, h⟩
  refine it_V.at (pc1 := 190) (ls1 := [some (.ref 66), some (.int v1), none, some (.int v3), some (.int v4), none, none]) (st1 := []) (mem1 := m3) rfl rfl rfl rfl ?_
  refine it_V.weak (l := [none, none, none, none, none, none, none]) trivial ?_
  exact s_310_190 kc Φ m3 h
set_option maxRecDepth 100000 in
set_option maxHeartbeats 4000000 in
theorem s_310_150 (kc : it_Kc) (Φ : it_Me → Prop) (v1 : Int32) (v3 : Int32) (v4 : Int32) (v5 : Int32) (m : it_Me) (h : w_310_150 kc Φ v1 v3 v4 v5 m) : it_V kc it_sh0 310 150 [some (.ref 66), some (.int v1), none, some (.int v3), some (.int v4), some (.int v5), none] [] m (it_Pv Φ) := by
  rw [w_310_150] at h
  refine it_V.sN it_cd310 it_m310 2 (pc1 := (if v5 = 0 then 165 else 155)) (ls1 := [some (.ref 66), some (.int v1), none, some (.int v3), some (.int v4), some (.int v5), none]) (st1 := []) (mem1 := m) rfl ?_
  refine it_V.ite (fun c1 => ?_) (fun c1 => ?_)
  · have h := h.1 c1
    refine it_V.weak (l := [some (.ref 66), some (.int v1), none, some (.int v3), some (.int v4), none, none]) ⟨rfl, ⟨rfl, ⟨rfl, ⟨rfl, trivial⟩⟩⟩⟩ ?_
    exact s_310_165 kc Φ v1 v3 v4 m h
  · have h := h.2 c1
    refine it_V.sN it_cd310 it_m310 3 (pc1 := 159) (ls1 := [some (.ref 66), some (.int v1), none, some (.int v3), some (.int v4), some (.int v5), none]) (st1 := [(.int v3), (.ref 66), (.int v4)]) (mem1 := m) rfl ?_
    refine it_V.call it_cd310 it_m310 rfl it_m220 [(.ref 66), (.int v3)] [(.int v4)] rfl rfl ⟨Nat.le_of_ble_eq_true rfl, Nat.le_of_ble_eq_true rfl, Nat.le_of_ble_eq_true rfl, Nat.le_of_ble_eq_true rfl, rfl⟩ (s_220 kc v3 m _ h) ?_
    rintro _ m3 ⟨r2, rfl, h⟩
    refine it_V.at (pc1 := 162) (ls1 := [some (.ref 66), some (.int v1), none, some (.int v3), some (.int v4), some (.int v5), none]) (st1 := [(.int r2), (.int v4)]) (mem1 := m3) rfl rfl rfl rfl ?_
    refine it_V.sN it_cd310 it_m310 1 (pc1 := (if v4 = r2 then 165 else 190)) (ls1 := [some (.ref 66), some (.int v1), none, some (.int v3), some (.int v4), some (.int v5), none]) (st1 := []) (mem1 := m3) rfl ?_
    refine it_V.ite (fun c4 => ?_) (fun c4 => ?_)
    · have h := h.1 c4
      refine it_V.weak (l := [some (.ref 66), some (.int v1), none, some (.int v3), some (.int v4), none, none]) ⟨rfl, ⟨rfl, ⟨rfl, ⟨rfl, trivial⟩⟩⟩⟩ ?_
      exact s_310_165 kc Φ v1 v3 v4 m3 h
    · have h := h.2 c4
      refine it_V.weak (l := [none, none, none, none, none, none, none]) trivial ?_
      exact s_310_190 kc Φ m3 h
set_option maxRecDepth 100000 in
set_option maxHeartbeats 4000000 in
theorem s_310_128 (kc : it_Kc) (Φ : it_Me → Prop) (v1 : Int32) (v3 : Int32) (v4 : Int32) (v5 : Int32) (m : it_Me) (h : w_310_128 kc Φ v1 v3 v4 v5 m) : it_V kc it_sh0 310 128 [some (.ref 66), some (.int v1), none, some (.int v3), some (.int v4), some (.int v5), none] [] m (it_Pv Φ) := by
  rw [w_310_128] at h
  refine it_V.sN it_cd310 it_m310 4 (pc1 := 134) (ls1 := [some (.ref 66), some (.int v1), none, some (.int v3), some (.int v4), some (.int v5), none]) (st1 := [(.int (3 : Int32)), (.ref 69), (.int (3 : Int32)), (.ref 69)]) (mem1 := m) rfl ?_
  obtain ⟨g1, h⟩ := h
  refine it_V.iald it_cd310 it_m310 rfl ((⟨rfl, by decide⟩ : it_isR 69 12)).2 ((⟨rfl, by decide⟩ : it_isR 69 12)).1 g1 ?_
  refine it_V.at (pc1 := 135) (ls1 := [some (.ref 66), some (.int v1), none, some (.int v3), some (.int v4), some (.int v5), none]) (st1 := [(.int (m 69 (Int32.toNatClampNeg (3 : Int32)))), (.int (3 : Int32)), (.ref 69)]) (mem1 := m) rfl rfl rfl rfl ?_
  refine it_V.sN it_cd310 it_m310 2 (pc1 := 137) (ls1 := [some (.ref 66), some (.int v1), none, some (.int v3), some (.int v4), some (.int v5), none]) (st1 := [(.int ((m 69 (Int32.toNatClampNeg (3 : Int32))) + (1 : Int32))), (.int (3 : Int32)), (.ref 69)]) (mem1 := m) rfl ?_
  obtain ⟨g2, h⟩ := h
  refine it_V.iast it_cd310 it_m310 rfl ((⟨rfl, by decide⟩ : it_isR 69 12)).1 g2 ?_
  refine it_V.at (pc1 := 138) (ls1 := [some (.ref 66), some (.int v1), none, some (.int v3), some (.int v4), some (.int v5), none]) (st1 := []) (mem1 := (it_sv m 69 (Int32.toNatClampNeg (3 : Int32)) ((m 69 (Int32.toNatClampNeg (3 : Int32))) + (1 : Int32)))) rfl rfl rfl rfl ?_
  refine it_V.sN it_cd310 it_m310 6 (pc1 := 147) (ls1 := [some (.ref 66), some (.int v1), none, some (.int v3), some (.int (v4 + (1 : Int32))), some (.int v5), none]) (st1 := [(.int (v4 + (1 : Int32))), (.int (v3 + (4 : Int32))), (.ref 66)]) (mem1 := (it_sv m 69 (Int32.toNatClampNeg (3 : Int32)) ((m 69 (Int32.toNatClampNeg (3 : Int32))) + (1 : Int32)))) rfl ?_
  refine it_V.call it_cd310 it_m310 rfl it_m221 [(.ref 66), (.int (v3 + (4 : Int32))), (.int (v4 + (1 : Int32)))] [] rfl rfl ⟨Nat.le_of_ble_eq_true rfl, Nat.le_of_ble_eq_true rfl, Nat.le_of_ble_eq_true rfl, Nat.le_of_ble_eq_true rfl, rfl⟩ (s_221 kc (v3 + (4 : Int32)) (v4 + (1 : Int32)) (it_sv m 69 (Int32.toNatClampNeg (3 : Int32)) ((m 69 (Int32.toNatClampNeg (3 : Int32))) + (1 : Int32))) _ h) ?_
  rintro _ m3 ⟨rfl, h⟩
  refine it_V.at (pc1 := 150) (ls1 := [some (.ref 66), some (.int v1), none, some (.int v3), some (.int (v4 + (1 : Int32))), some (.int v5), none]) (st1 := []) (mem1 := m3) rfl rfl rfl rfl ?_
  refine it_V.weak (l := [some (.ref 66), some (.int v1), none, some (.int v3), some (.int (v4 + (1 : Int32))), some (.int v5), none]) ⟨rfl, ⟨rfl, ⟨rfl, ⟨rfl, ⟨rfl, trivial⟩⟩⟩⟩⟩ ?_
  exact s_310_150 kc Φ v1 v3 (v4 + (1 : Int32)) v5 m3 h
set_option maxRecDepth 100000 in
set_option maxHeartbeats 4000000 in
theorem s_310_70 (kc : it_Kc) (Φ : it_Me → Prop) (v1 : Int32) (v2 : Int32) (v3 : Int32) (v4 : Int32) (u0 : Int32) (m : it_Me) (h : w_310_70 kc Φ v1 v2 v3 v4 u0 m) : it_V kc it_sh0 310 70 [some (.ref 66), some (.int v1), some (.int v2), some (.int v3), some (.int v4), none, none] [(.int u0)] m (it_Pv Φ) := by
  rw [w_310_70] at h
  refine it_V.sN it_cd310 it_m310 3 (pc1 := (if u0 = 0 then 150 else 77)) (ls1 := [some (.ref 66), some (.int v1), some (.int v2), some (.int v3), some (.int v4), some (.int u0), none]) (st1 := []) (mem1 := m) rfl ?_
  refine it_V.ite (fun c1 => ?_) (fun c1 => ?_)
  · have h := h.1 c1
    refine it_V.weak (l := [some (.ref 66), some (.int v1), none, some (.int v3), some (.int v4), some (.int u0), none]) ⟨rfl, ⟨rfl, ⟨rfl, ⟨rfl, ⟨rfl, trivial⟩⟩⟩⟩⟩ ?_
    exact s_310_150 kc Φ v1 v3 v4 u0 m h
  · have h := h.2 c1
    refine it_V.sN it_cd310 it_m310 5 (pc1 := 82) (ls1 := [some (.ref 66), some (.int v1), some (.int v2), some (.int v3), some (.int v4), some (.int u0), none]) (st1 := [(.int (1 : Int32)), (.int (1 : Int32)), (.int v2), (.ref 66), (.ref 66)]) (mem1 := m) rfl ?_
    refine it_V.call it_cd310 it_m310 rfl it_m270 [(.int v2), (.int (1 : Int32)), (.int (1 : Int32))] [(.ref 66), (.ref 66)] rfl rfl ⟨Nat.le_of_ble_eq_true rfl, Nat.le_of_ble_eq_true rfl, Nat.le_of_ble_eq_true rfl, Nat.le_of_ble_eq_true rfl, rfl⟩ (s_270 kc v2 (1 : Int32) (1 : Int32) m _ h) ?_
    rintro _ m3 ⟨r2, rfl, h⟩
    refine it_V.at (pc1 := 85) (ls1 := [some (.ref 66), some (.int v1), some (.int v2), some (.int v3), some (.int v4), some (.int u0), none]) (st1 := [(.int r2), (.ref 66), (.ref 66)]) (mem1 := m3) rfl rfl rfl rfl ?_
    refine it_V.call it_cd310 it_m310 rfl it_m220 [(.ref 66), (.int r2)] [(.ref 66)] rfl rfl ⟨Nat.le_of_ble_eq_true rfl, Nat.le_of_ble_eq_true rfl, Nat.le_of_ble_eq_true rfl, Nat.le_of_ble_eq_true rfl, rfl⟩ (s_220 kc r2 m3 _ h) ?_
    rintro _ m5 ⟨r4, rfl, h⟩
    refine it_V.at (pc1 := 88) (ls1 := [some (.ref 66), some (.int v1), some (.int v2), some (.int v3), some (.int v4), some (.int u0), none]) (st1 := [(.int r4), (.ref 66)]) (mem1 := m5) rfl rfl rfl rfl ?_
    refine it_V.sN it_cd310 it_m310 2 (pc1 := 91) (ls1 := [some (.ref 66), some (.int v1), some (.int v2), some (.int v3), some (.int v4), some (.int u0), none]) (st1 := [(.int (r4 + v4)), (.ref 66)]) (mem1 := m5) rfl ?_
    refine it_V.call it_cd310 it_m310 rfl it_m218 [(.ref 66), (.int (r4 + v4))] [] rfl rfl ⟨Nat.le_of_ble_eq_true rfl, Nat.le_of_ble_eq_true rfl, Nat.le_of_ble_eq_true rfl, Nat.le_of_ble_eq_true rfl, rfl⟩ (s_218 kc (r4 + v4) m5 _ h) ?_
    rintro _ m7 ⟨r6, rfl, h⟩
    refine it_V.at (pc1 := 94) (ls1 := [some (.ref 66), some (.int v1), some (.int v2), some (.int v3), some (.int v4), some (.int u0), none]) (st1 := [(.int r6)]) (mem1 := m7) rfl rfl rfl rfl ?_
    refine it_V.sN it_cd310 it_m310 4 (pc1 := 101) (ls1 := [some (.ref 66), some (.int v1), some (.int v2), some (.int v3), some (.int v4), some (.int u0), some (.int r6)]) (st1 := [(.int (3 : Int32)), (.ref 69)]) (mem1 := m7) rfl ?_
    obtain ⟨g8, h⟩ := h
    refine it_V.iald it_cd310 it_m310 rfl ((⟨rfl, by decide⟩ : it_isR 69 12)).2 ((⟨rfl, by decide⟩ : it_isR 69 12)).1 g8 ?_
    refine it_V.at (pc1 := 102) (ls1 := [some (.ref 66), some (.int v1), some (.int v2), some (.int v3), some (.int v4), some (.int u0), some (.int r6)]) (st1 := [(.int (m7 69 (Int32.toNatClampNeg (3 : Int32))))]) (mem1 := m7) rfl rfl rfl rfl ?_
    refine it_V.sN it_cd310 it_m310 6 (pc1 := (if 0 ≤ (lg_cmp ((Int32.toInt64 (m7 69 (Int32.toNatClampNeg (3 : Int32)))) &&& (4294967295 : Int64)) (4000 : Int64)) then 128 else 114)) (ls1 := [some (.ref 66), some (.int v1), some (.int v2), some (.int v3), some (.int v4), some (.int u0), some (.int r6)]) (st1 := []) (mem1 := m7) rfl ?_
    refine it_V.ite (fun c9 => ?_) (fun c9 => ?_)
    · have h := h.1 c9
      refine it_V.weak (l := [some (.ref 66), some (.int v1), none, some (.int v3), some (.int v4), some (.int u0), none]) ⟨rfl, ⟨rfl, ⟨rfl, ⟨rfl, ⟨rfl, trivial⟩⟩⟩⟩⟩ ?_
      exact s_310_128 kc Φ v1 v3 v4 u0 m7 h
    · have h := h.2 c9
      refine it_V.sN it_cd310 it_m310 5 (pc1 := 123) (ls1 := [some (.ref 66), some (.int v1), some (.int v2), some (.int v3), some (.int v4), some (.int u0), some (.int r6)]) (st1 := [(.int (3 : Int32)), (.ref 69), (.ref 70)]) (mem1 := m7) rfl ?_
      obtain ⟨g10, h⟩ := h
      refine it_V.iald it_cd310 it_m310 rfl ((⟨rfl, by decide⟩ : it_isR 69 12)).2 ((⟨rfl, by decide⟩ : it_isR 69 12)).1 g10 ?_
      refine it_V.at (pc1 := 124) (ls1 := [some (.ref 66), some (.int v1), some (.int v2), some (.int v3), some (.int v4), some (.int u0), some (.int r6)]) (st1 := [(.int (m7 69 (Int32.toNatClampNeg (3 : Int32)))), (.ref 70)]) (mem1 := m7) rfl rfl rfl rfl ?_
      refine it_V.sN it_cd310 it_m310 2 (pc1 := 127) (ls1 := [some (.ref 66), some (.int v1), some (.int v2), some (.int v3), some (.int v4), some (.int u0), some (.int r6)]) (st1 := [(.int (it_i2b r6)), (.int (m7 69 (Int32.toNatClampNeg (3 : Int32)))), (.ref 70)]) (mem1 := m7) rfl ?_
      obtain ⟨g11, h⟩ := h
      refine it_V.bast (n := 4000) it_cd310 it_m310 rfl rfl g11 ?_
      refine it_V.at (pc1 := 128) (ls1 := [some (.ref 66), some (.int v1), some (.int v2), some (.int v3), some (.int v4), some (.int u0), some (.int r6)]) (st1 := []) (mem1 := (it_sv m7 70 (Int32.toNatClampNeg (m7 69 (Int32.toNatClampNeg (3 : Int32)))) (it_i2b (it_i2b r6)))) rfl rfl rfl rfl ?_
      refine it_V.weak (l := [some (.ref 66), some (.int v1), none, some (.int v3), some (.int v4), some (.int u0), none]) ⟨rfl, ⟨rfl, ⟨rfl, ⟨rfl, ⟨rfl, trivial⟩⟩⟩⟩⟩ ?_
      exact s_310_128 kc Φ v1 v3 v4 u0 (it_sv m7 70 (Int32.toNatClampNeg (m7 69 (Int32.toNatClampNeg (3 : Int32)))) (it_i2b (it_i2b r6))) h
set_option maxRecDepth 100000 in
set_option maxHeartbeats 4000000 in
theorem s_310_19 (kc : it_Kc) (Φ : it_Me → Prop) (u0 : Int32) (m : it_Me) (h : w_310_19 kc Φ u0 m) : it_V kc it_sh0 310 19 [some (.ref 66), none, none, none, none, none, none] [(.int u0)] m (it_Pv Φ) := by
  rw [w_310_19] at h
  refine it_V.sN it_cd310 it_m310 4 (pc1 := (if u0 = (-1 : Int32) then 25 else 26)) (ls1 := [some (.ref 66), some (.int u0), none, none, none, none, none]) (st1 := []) (mem1 := m) rfl ?_
  refine it_V.ite (fun c1 => ?_) (fun c1 => ?_)
  · have h := h.1 c1
    exact it_V.ret it_cd310 it_m310 rfl rfl ⟨rfl, h⟩
  · have h := h.2 c1
    refine it_V.sN it_cd310 it_m310 3 (pc1 := 29) (ls1 := [some (.ref 66), some (.int u0), none, none, none, none, none]) (st1 := [(.int (1 : Int32)), (.int u0), (.ref 66)]) (mem1 := m) rfl ?_
    refine it_V.call it_cd310 it_m310 rfl it_m272 [(.ref 66), (.int u0), (.int (1 : Int32))] [] rfl rfl ⟨Nat.le_of_ble_eq_true rfl, Nat.le_of_ble_eq_true rfl, Nat.le_of_ble_eq_true rfl, Nat.le_of_ble_eq_true rfl, rfl⟩ (s_272 kc u0 (1 : Int32) m _ h) ?_
    rintro _ m3 ⟨r2, rfl, h⟩
    refine it_V.at (pc1 := 32) (ls1 := [some (.ref 66), some (.int u0), none, none, none, none, none]) (st1 := [(.int r2)]) (mem1 := m3) rfl rfl rfl rfl ?_
    refine it_V.sN it_cd310 it_m310 3 (pc1 := 35) (ls1 := [some (.ref 66), some (.int u0), some (.int r2), none, none, none, none]) (st1 := [(.int (1 : Int32)), (.int r2)]) (mem1 := m3) rfl ?_
    refine it_V.call it_cd310 it_m310 rfl it_m269 [(.int r2), (.int (1 : Int32))] [] rfl rfl ⟨Nat.le_of_ble_eq_true rfl, Nat.le_of_ble_eq_true rfl, Nat.le_of_ble_eq_true rfl, Nat.le_of_ble_eq_true rfl, rfl⟩ (s_269 kc r2 (1 : Int32) m3 _ h) ?_
    rintro _ m5 ⟨r4, rfl, h⟩
    refine it_V.at (pc1 := 38) (ls1 := [some (.ref 66), some (.int u0), some (.int r2), none, none, none, none]) (st1 := [(.int r4)]) (mem1 := m5) rfl rfl rfl rfl ?_
    refine it_V.sN it_cd310 it_m310 5 (pc1 := 43) (ls1 := [some (.ref 66), some (.int u0), some (.int r2), some (.int r4), none, none, none]) (st1 := [(.int (r4 + (4 : Int32))), (.ref 66)]) (mem1 := m5) rfl ?_
    refine it_V.call it_cd310 it_m310 rfl it_m220 [(.ref 66), (.int (r4 + (4 : Int32)))] [] rfl rfl ⟨Nat.le_of_ble_eq_true rfl, Nat.le_of_ble_eq_true rfl, Nat.le_of_ble_eq_true rfl, Nat.le_of_ble_eq_true rfl, rfl⟩ (s_220 kc (r4 + (4 : Int32)) m5 _ h) ?_
    rintro _ m7 ⟨r6, rfl, h⟩
    refine it_V.at (pc1 := 46) (ls1 := [some (.ref 66), some (.int u0), some (.int r2), some (.int r4), none, none, none]) (st1 := [(.int r6)]) (mem1 := m7) rfl rfl rfl rfl ?_
    refine it_V.sN it_cd310 it_m310 6 (pc1 := 54) (ls1 := [some (.ref 66), some (.int u0), some (.int r2), some (.int r4), some (.int r6), none, none]) (st1 := [(.int (1 : Int32)), (.int (1 : Int32)), (.int r2), (.ref 66), (.int r6)]) (mem1 := m7) rfl ?_
    refine it_V.call it_cd310 it_m310 rfl it_m270 [(.int r2), (.int (1 : Int32)), (.int (1 : Int32))] [(.ref 66), (.int r6)] rfl rfl ⟨Nat.le_of_ble_eq_true rfl, Nat.le_of_ble_eq_true rfl, Nat.le_of_ble_eq_true rfl, Nat.le_of_ble_eq_true rfl, rfl⟩ (s_270 kc r2 (1 : Int32) (1 : Int32) m7 _ h) ?_
    rintro _ m9 ⟨r8, rfl, h⟩
    refine it_V.at (pc1 := 57) (ls1 := [some (.ref 66), some (.int u0), some (.int r2), some (.int r4), some (.int r6), none, none]) (st1 := [(.int r8), (.ref 66), (.int r6)]) (mem1 := m9) rfl rfl rfl rfl ?_
    refine it_V.sN it_cd310 it_m310 2 (pc1 := 59) (ls1 := [some (.ref 66), some (.int u0), some (.int r2), some (.int r4), some (.int r6), none, none]) (st1 := [(.int (r8 + (4 : Int32))), (.ref 66), (.int r6)]) (mem1 := m9) rfl ?_
    refine it_V.call it_cd310 it_m310 rfl it_m220 [(.ref 66), (.int (r8 + (4 : Int32)))] [(.int r6)] rfl rfl ⟨Nat.le_of_ble_eq_true rfl, Nat.le_of_ble_eq_true rfl, Nat.le_of_ble_eq_true rfl, Nat.le_of_ble_eq_true rfl, rfl⟩ (s_220 kc (r8 + (4 : Int32)) m9 _ h) ?_
    rintro _ m11 ⟨r10, rfl, h⟩
    refine it_V.at (pc1 := 62) (ls1 := [some (.ref 66), some (.int u0), some (.int r2), some (.int r4), some (.int r6), none, none]) (st1 := [(.int r10), (.int r6)]) (mem1 := m11) rfl rfl rfl rfl ?_
    refine it_V.sN it_cd310 it_m310 1 (pc1 := (if r10 ≤ r6 then 69 else 65)) (ls1 := [some (.ref 66), some (.int u0), some (.int r2), some (.int r4), some (.int r6), none, none]) (st1 := []) (mem1 := m11) rfl ?_
    refine it_V.ite (fun c12 => ?_) (fun c12 => ?_)
    · have h := h.1 c12
      refine it_V.sN it_cd310 it_m310 1 (pc1 := 70) (ls1 := [some (.ref 66), some (.int u0), some (.int r2), some (.int r4), some (.int r6), none, none]) (st1 := [(.int (0 : Int32))]) (mem1 := m11) rfl ?_
      refine it_V.weak (l := [some (.ref 66), some (.int u0), some (.int r2), some (.int r4), some (.int r6), none, none]) ⟨rfl, ⟨rfl, ⟨rfl, ⟨rfl, ⟨rfl, trivial⟩⟩⟩⟩⟩ ?_
      exact s_310_70 kc Φ u0 r2 r4 r6 (0 : Int32) m11 h
    · have h := h.2 c12
      refine it_V.sN it_cd310 it_m310 2 (pc1 := 70) (ls1 := [some (.ref 66), some (.int u0), some (.int r2), some (.int r4), some (.int r6), none, none]) (st1 := [(.int (1 : Int32))]) (mem1 := m11) rfl ?_
      refine it_V.weak (l := [some (.ref 66), some (.int u0), some (.int r2), some (.int r4), some (.int r6), none, none]) ⟨rfl, ⟨rfl, ⟨rfl, ⟨rfl, ⟨rfl, trivial⟩⟩⟩⟩⟩ ?_
      exact s_310_70 kc Φ u0 r2 r4 r6 (1 : Int32) m11 h
set_option maxRecDepth 100000 in
set_option maxHeartbeats 4000000 in
theorem s_310 (kc : it_Kc) (m : it_Me) (Φ : it_Me → Prop) (h : w_310 kc m Φ) : it_V kc it_sh0 310 0 (it_loc0 [(.ref 66)] 7) [] m (it_Pv Φ) := by
  rw [w_310] at h
  refine it_V.at (pc1 := 0) (ls1 := [some (.ref 66), none, none, none, none, none, none]) (st1 := []) (mem1 := m) rfl rfl rfl rfl ?_
  refine it_V.sN it_cd310 it_m310 5 (pc1 := (if ((m 66 6) &&& (7 : Int32)) = 0 then 10 else 18)) (ls1 := [some (.ref 66), none, none, none, none, none, none]) (st1 := []) (mem1 := m) rfl ?_
  refine it_V.ite (fun c1 => ?_) (fun c1 => ?_)
  · have h := h.1 c1
    refine it_V.sN it_cd310 it_m310 2 (pc1 := 12) (ls1 := [some (.ref 66), none, none, none, none, none, none]) (st1 := [(.int (1 : Int32)), (.ref 66)]) (mem1 := m) rfl ?_
    refine it_V.call it_cd310 it_m310 rfl it_m309 [(.ref 66), (.int (1 : Int32))] [] rfl rfl ⟨Nat.le_of_ble_eq_true rfl, Nat.le_of_ble_eq_true rfl, Nat.le_of_ble_eq_true rfl, Nat.le_of_ble_eq_true rfl, rfl⟩ (s_309 kc (1 : Int32) m _ h) ?_
    rintro _ m3 ⟨r2, rfl, h⟩
    refine it_V.at (pc1 := 15) (ls1 := [some (.ref 66), none, none, none, none, none, none]) (st1 := [(.int r2)]) (mem1 := m3) rfl rfl rfl rfl ?_
    refine it_V.sN it_cd310 it_m310 1 (pc1 := 19) (ls1 := [some (.ref 66), none, none, none, none, none, none]) (st1 := [(.int r2)]) (mem1 := m3) rfl ?_
    exact s_310_19 kc Φ r2 m3 h
  · have h := h.2 c1
    refine it_V.sN it_cd310 it_m310 1 (pc1 := 19) (ls1 := [some (.ref 66), none, none, none, none, none, none]) (st1 := [(.int (-1 : Int32))]) (mem1 := m) rfl ?_
    exact s_310_19 kc Φ (-1 : Int32) m h
set_option maxRecDepth 100000 in
set_option maxHeartbeats 4000000 in
theorem s_311_109 (kc : it_Kc) (Φ : it_Me → Prop) (K2 : Int32 → it_Me → Prop) (K115 : it_Me → Prop) (hK2 : ∀ (v1 : Int32) (m : it_Me), K2 v1 m → it_V kc it_sh0 311 2 [some (.ref 66), some (.int v1), none, none, none] [] m (it_Pv Φ)) (hK115 : ∀ (m : it_Me), K115 m → it_V kc it_sh0 311 115 [none, none, none, none, none] [] m (it_Pv Φ)) (v1 : Int32) (m : it_Me) (h : w_311_109 kc Φ K2 K115 v1 m) : it_V kc it_sh0 311 109 [some (.ref 66), some (.int v1), none, none, none] [] m (it_Pv Φ) := by
  rw [w_311_109] at h
  refine it_V.sN it_cd311 it_m311 2 (pc1 := 2) (ls1 := [some (.ref 66), some (.int (v1 + (1 : Int32))), none, none, none]) (st1 := []) (mem1 := m) rfl ?_
  refine it_V.weak (l := [some (.ref 66), some (.int (v1 + (1 : Int32))), none, none, none]) ⟨rfl, ⟨rfl, trivial⟩⟩ ?_
  exact hK2 (v1 + (1 : Int32)) m h
set_option maxRecDepth 100000 in
set_option maxHeartbeats 4000000 in
theorem s_311_33 (kc : it_Kc) (Φ : it_Me → Prop) (K2 : Int32 → it_Me → Prop) (K115 : it_Me → Prop) (hK2 : ∀ (v1 : Int32) (m : it_Me), K2 v1 m → it_V kc it_sh0 311 2 [some (.ref 66), some (.int v1), none, none, none] [] m (it_Pv Φ)) (hK115 : ∀ (m : it_Me), K115 m → it_V kc it_sh0 311 115 [none, none, none, none, none] [] m (it_Pv Φ)) (v1 : Int32) (v2 : Int32) (u0 : Int32) (m : it_Me) (h : w_311_33 kc Φ K2 K115 v1 v2 u0 m) : it_V kc it_sh0 311 33 [some (.ref 66), some (.int v1), some (.int v2), none, none] [(.int u0)] m (it_Pv Φ) := by
  rw [w_311_33] at h
  refine it_V.sN it_cd311 it_m311 4 (pc1 := (if v2 = (-1 : Int32) then 109 else 39)) (ls1 := [some (.ref 66), some (.int v1), some (.int v2), some (.int u0), none]) (st1 := []) (mem1 := m) rfl ?_
  refine it_V.ite (fun c1 => ?_) (fun c1 => ?_)
  · have h := h.1 c1
    refine it_V.weak (l := [some (.ref 66), some (.int v1), none, none, none]) ⟨rfl, ⟨rfl, trivial⟩⟩ ?_
    exact s_311_109 kc Φ _ _ hK2 hK115 v1 m h
  · have h := h.2 c1
    refine it_V.sN it_cd311 it_m311 2 (pc1 := 41) (ls1 := [some (.ref 66), some (.int v1), some (.int v2), some (.int u0), none]) (st1 := [(.int u0), (.ref 66)]) (mem1 := m) rfl ?_
    refine it_V.call it_cd311 it_m311 rfl it_m220 [(.ref 66), (.int u0)] [] rfl rfl ⟨Nat.le_of_ble_eq_true rfl, Nat.le_of_ble_eq_true rfl, Nat.le_of_ble_eq_true rfl, Nat.le_of_ble_eq_true rfl, rfl⟩ (s_220 kc u0 m _ h) ?_
    rintro _ m3 ⟨r2, rfl, h⟩
    refine it_V.at (pc1 := 44) (ls1 := [some (.ref 66), some (.int v1), some (.int v2), some (.int u0), none]) (st1 := [(.int r2)]) (mem1 := m3) rfl rfl rfl rfl ?_
    refine it_V.sN it_cd311 it_m311 1 (pc1 := (if r2 = 0 then 109 else 47)) (ls1 := [some (.ref 66), some (.int v1), some (.int v2), some (.int u0), none]) (st1 := []) (mem1 := m3) rfl ?_
    refine it_V.ite (fun c4 => ?_) (fun c4 => ?_)
    · have h := h.1 c4
      refine it_V.weak (l := [some (.ref 66), some (.int v1), none, none, none]) ⟨rfl, ⟨rfl, trivial⟩⟩ ?_
      exact s_311_109 kc Φ _ _ hK2 hK115 v1 m3 h
    · have h := h.2 c4
      refine it_V.sN it_cd311 it_m311 4 (pc1 := 52) (ls1 := [some (.ref 66), some (.int v1), some (.int v2), some (.int u0), none]) (st1 := [(.int (u0 + (8 : Int32))), (.ref 66)]) (mem1 := m3) rfl ?_
      refine it_V.call it_cd311 it_m311 rfl it_m220 [(.ref 66), (.int (u0 + (8 : Int32)))] [] rfl rfl ⟨Nat.le_of_ble_eq_true rfl, Nat.le_of_ble_eq_true rfl, Nat.le_of_ble_eq_true rfl, Nat.le_of_ble_eq_true rfl, rfl⟩ (s_220 kc (u0 + (8 : Int32)) m3 _ h) ?_
      rintro _ m6 ⟨r5, rfl, h⟩
      refine it_V.at (pc1 := 55) (ls1 := [some (.ref 66), some (.int v1), some (.int v2), some (.int u0), none]) (st1 := [(.int r5)]) (mem1 := m6) rfl rfl rfl rfl ?_
      refine it_V.sN it_cd311 it_m311 3 (pc1 := (if r5 = (m6 66 6) then 62 else 109)) (ls1 := [some (.ref 66), some (.int v1), some (.int v2), some (.int u0), none]) (st1 := []) (mem1 := m6) rfl ?_
      refine it_V.ite (fun c7 => ?_) (fun c7 => ?_)
      · have h := h.1 c7
        refine it_V.sN it_cd311 it_m311 2 (pc1 := 64) (ls1 := [some (.ref 66), some (.int v1), some (.int v2), some (.int u0), none]) (st1 := [(.int u0), (.ref 66)]) (mem1 := m6) rfl ?_
        refine it_V.call it_cd311 it_m311 rfl it_m220 [(.ref 66), (.int u0)] [] rfl rfl ⟨Nat.le_of_ble_eq_true rfl, Nat.le_of_ble_eq_true rfl, Nat.le_of_ble_eq_true rfl, Nat.le_of_ble_eq_true rfl, rfl⟩ (s_220 kc u0 m6 _ h) ?_
        rintro _ m9 ⟨r8, rfl, h⟩
        refine it_V.at (pc1 := 67) (ls1 := [some (.ref 66), some (.int v1), some (.int v2), some (.int u0), none]) (st1 := [(.int r8)]) (mem1 := m9) rfl rfl rfl rfl ?_
        refine it_V.sN it_cd311 it_m311 13 (pc1 := 84) (ls1 := [some (.ref 66), some (.int v1), some (.int v2), some (.int u0), some (.int (r8 - (1 : Int32)))]) (st1 := [(.int (u0 + (4 : Int32))), (.ref 66), (.int (m9 66 6)), (.int (u0 + (8 : Int32))), (.ref 66)]) (mem1 := m9) rfl ?_
        refine it_V.call it_cd311 it_m311 rfl it_m220 [(.ref 66), (.int (u0 + (4 : Int32)))] [(.int (m9 66 6)), (.int (u0 + (8 : Int32))), (.ref 66)] rfl rfl ⟨Nat.le_of_ble_eq_true rfl, Nat.le_of_ble_eq_true rfl, Nat.le_of_ble_eq_true rfl, Nat.le_of_ble_eq_true rfl, rfl⟩ (s_220 kc (u0 + (4 : Int32)) m9 _ h) ?_
        rintro _ m11 ⟨r10, rfl, h⟩
        refine it_V.at (pc1 := 87) (ls1 := [some (.ref 66), some (.int v1), some (.int v2), some (.int u0), some (.int (r8 - (1 : Int32)))]) (st1 := [(.int r10), (.int (m9 66 6)), (.int (u0 + (8 : Int32))), (.ref 66)]) (mem1 := m11) rfl rfl rfl rfl ?_
        refine it_V.sN it_cd311 it_m311 1 (pc1 := 88) (ls1 := [some (.ref 66), some (.int v1), some (.int v2), some (.int u0), some (.int (r8 - (1 : Int32)))]) (st1 := [(.int ((m9 66 6) + r10)), (.int (u0 + (8 : Int32))), (.ref 66)]) (mem1 := m11) rfl ?_
        refine it_V.call it_cd311 it_m311 rfl it_m221 [(.ref 66), (.int (u0 + (8 : Int32))), (.int ((m9 66 6) + r10))] [] rfl rfl ⟨Nat.le_of_ble_eq_true rfl, Nat.le_of_ble_eq_true rfl, Nat.le_of_ble_eq_true rfl, Nat.le_of_ble_eq_true rfl, rfl⟩ (s_221 kc (u0 + (8 : Int32)) ((m9 66 6) + r10) m11 _ h) ?_
        rintro _ m12 ⟨rfl, h⟩
        refine it_V.at (pc1 := 91) (ls1 := [some (.ref 66), some (.int v1), some (.int v2), some (.int u0), some (.int (r8 - (1 : Int32)))]) (st1 := []) (mem1 := m12) rfl rfl rfl rfl ?_
        refine it_V.sN it_cd311 it_m311 8 (pc1 := 104) (ls1 := [some (.ref 66), some (.int v1), some (.int v2), some (.int u0), some (.int (r8 - (1 : Int32)))]) (st1 := [(.int (r8 - (1 : Int32))), (.ref 73), (.int (r8 - (1 : Int32))), (.int (0 : Int32)), (.int (6 : Int32)), (.int v1), (.ref 66)]) (mem1 := m12) rfl ?_
        obtain ⟨g13, h⟩ := h
        refine it_V.iald it_cd311 it_m311 rfl ((⟨rfl, by decide⟩ : it_isR 73 2)).2 ((⟨rfl, by decide⟩ : it_isR 73 2)).1 g13 ?_
        refine it_V.at (pc1 := 105) (ls1 := [some (.ref 66), some (.int v1), some (.int v2), some (.int u0), some (.int (r8 - (1 : Int32)))]) (st1 := [(.int (m12 73 (Int32.toNatClampNeg (r8 - (1 : Int32))))), (.int (r8 - (1 : Int32))), (.int (0 : Int32)), (.int (6 : Int32)), (.int v1), (.ref 66)]) (mem1 := m12) rfl rfl rfl rfl ?_
        refine it_V.sN it_cd311 it_m311 1 (pc1 := 106) (ls1 := [some (.ref 66), some (.int v1), some (.int v2), some (.int u0), some (.int (r8 - (1 : Int32)))]) (st1 := [(.int (0 : Int32)), (.int (m12 73 (Int32.toNatClampNeg (r8 - (1 : Int32))))), (.int (r8 - (1 : Int32))), (.int (0 : Int32)), (.int (6 : Int32)), (.int v1), (.ref 66)]) (mem1 := m12) rfl ?_
        refine it_V.call it_cd311 it_m311 rfl it_m274 [(.ref 66), (.int v1), (.int (6 : Int32)), (.int (0 : Int32)), (.int (r8 - (1 : Int32))), (.int (m12 73 (Int32.toNatClampNeg (r8 - (1 : Int32))))), (.int (0 : Int32))] [] rfl rfl ⟨Nat.le_of_ble_eq_true rfl, Nat.le_of_ble_eq_true rfl, Nat.le_of_ble_eq_true rfl, Nat.le_of_ble_eq_true rfl, rfl⟩ (s_274 kc v1 (6 : Int32) (0 : Int32) (r8 - (1 : Int32)) (m12 73 (Int32.toNatClampNeg (r8 - (1 : Int32)))) (0 : Int32) m12 _ h) ?_
        rintro _ m14 ⟨rfl, h⟩
        refine it_V.at (pc1 := 109) (ls1 := [some (.ref 66), some (.int v1), some (.int v2), some (.int u0), some (.int (r8 - (1 : Int32)))]) (st1 := []) (mem1 := m14) rfl rfl rfl rfl ?_
        refine it_V.weak (l := [some (.ref 66), some (.int v1), none, none, none]) ⟨rfl, ⟨rfl, trivial⟩⟩ ?_
        exact s_311_109 kc Φ _ _ hK2 hK115 v1 m14 h
      · have h := h.2 c7
        refine it_V.weak (l := [some (.ref 66), some (.int v1), none, none, none]) ⟨rfl, ⟨rfl, trivial⟩⟩ ?_
        exact s_311_109 kc Φ _ _ hK2 hK115 v1 m6 h
set_option maxRecDepth 100000 in
set_option maxHeartbeats 4000000 in
theorem s_311_2 (kc : it_Kc) (Φ : it_Me → Prop) (K115 : it_Me → Prop) (hK115 : ∀ (m : it_Me), K115 m → it_V kc it_sh0 311 115 [none, none, none, none, none] [] m (it_Pv Φ)) : ∀ (n : Nat) (v1 : Int32) (m : it_Me) (h : w_311_2 kc Φ K115 n v1 m), it_V kc it_sh0 311 2 [some (.ref 66), some (.int v1), none, none, none] [] m (it_Pv Φ) := by
  intro n
  induction n with
  | zero => intro v1 m h; exact absurd h id
  | succ n ih =>
    intro v1 m h
    rw [w_311_2] at h
    refine it_V.sN it_cd311 it_m311 4 (pc1 := (if (m 66 34) ≤ v1 then 115 else 10)) (ls1 := [some (.ref 66), some (.int v1), none, none, none]) (st1 := []) (mem1 := m) rfl ?_
    refine it_V.ite (fun c1 => ?_) (fun c1 => ?_)
    · have h := h.1 c1
      refine it_V.weak (l := [none, none, none, none, none]) trivial ?_
      exact hK115 m h
    · have h := h.2 c1
      refine it_V.sN it_cd311 it_m311 3 (pc1 := 14) (ls1 := [some (.ref 66), some (.int v1), none, none, none]) (st1 := [(.int (6 : Int32)), (.int v1), (.ref 66)]) (mem1 := m) rfl ?_
      refine it_V.call it_cd311 it_m311 rfl it_m272 [(.ref 66), (.int v1), (.int (6 : Int32))] [] rfl rfl ⟨Nat.le_of_ble_eq_true rfl, Nat.le_of_ble_eq_true rfl, Nat.le_of_ble_eq_true rfl, Nat.le_of_ble_eq_true rfl, rfl⟩ (s_272 kc v1 (6 : Int32) m _ h) ?_
      rintro _ m3 ⟨r2, rfl, h⟩
      refine it_V.at (pc1 := 17) (ls1 := [some (.ref 66), some (.int v1), none, none, none]) (st1 := [(.int r2)]) (mem1 := m3) rfl rfl rfl rfl ?_
      refine it_V.sN it_cd311 it_m311 4 (pc1 := (if r2 = (-1 : Int32) then 23 else 27)) (ls1 := [some (.ref 66), some (.int v1), some (.int r2), none, none]) (st1 := []) (mem1 := m3) rfl ?_
      refine it_V.ite (fun c4 => ?_) (fun c4 => ?_)
      · have h := h.1 c4
        refine it_V.sN it_cd311 it_m311 2 (pc1 := 33) (ls1 := [some (.ref 66), some (.int v1), some (.int r2), none, none]) (st1 := [(.int (0 : Int32))]) (mem1 := m3) rfl ?_
        refine it_V.weak (l := [some (.ref 66), some (.int v1), some (.int r2), none, none]) ⟨rfl, ⟨rfl, ⟨rfl, trivial⟩⟩⟩ ?_
        exact s_311_33 kc Φ _ _ ih hK115 v1 r2 (0 : Int32) m3 h
      · have h := h.2 c4
        refine it_V.sN it_cd311 it_m311 2 (pc1 := 30) (ls1 := [some (.ref 66), some (.int v1), some (.int r2), none, none]) (st1 := [(.int (6 : Int32)), (.int r2)]) (mem1 := m3) rfl ?_
        refine it_V.call it_cd311 it_m311 rfl it_m269 [(.int r2), (.int (6 : Int32))] [] rfl rfl ⟨Nat.le_of_ble_eq_true rfl, Nat.le_of_ble_eq_true rfl, Nat.le_of_ble_eq_true rfl, Nat.le_of_ble_eq_true rfl, rfl⟩ (s_269 kc r2 (6 : Int32) m3 _ h) ?_
        rintro _ m6 ⟨r5, rfl, h⟩
        refine it_V.at (pc1 := 33) (ls1 := [some (.ref 66), some (.int v1), some (.int r2), none, none]) (st1 := [(.int r5)]) (mem1 := m6) rfl rfl rfl rfl ?_
        refine it_V.weak (l := [some (.ref 66), some (.int v1), some (.int r2), none, none]) ⟨rfl, ⟨rfl, ⟨rfl, trivial⟩⟩⟩ ?_
        exact s_311_33 kc Φ _ _ ih hK115 v1 r2 r5 m6 h
set_option maxRecDepth 100000 in
set_option maxHeartbeats 4000000 in
theorem s_311_115 (kc : it_Kc) (Φ : it_Me → Prop) (m : it_Me) (h : w_311_115 kc Φ m) : it_V kc it_sh0 311 115 [none, none, none, none, none] [] m (it_Pv Φ) := by
  rw [w_311_115] at h
  exact it_V.ret it_cd311 it_m311 rfl rfl ⟨rfl, h⟩
set_option maxRecDepth 100000 in
set_option maxHeartbeats 4000000 in
theorem s_311 (kc : it_Kc) (m : it_Me) (Φ : it_Me → Prop) (h : w_311 kc m Φ) : it_V kc it_sh0 311 0 (it_loc0 [(.ref 66)] 5) [] m (it_Pv Φ) := by
  rw [w_311] at h
  refine it_V.at (pc1 := 0) (ls1 := [some (.ref 66), none, none, none, none]) (st1 := []) (mem1 := m) rfl rfl rfl rfl ?_
  refine it_V.sN it_cd311 it_m311 2 (pc1 := 2) (ls1 := [some (.ref 66), some (.int (0 : Int32)), none, none, none]) (st1 := []) (mem1 := m) rfl ?_
  obtain ⟨n, h⟩ := h
  exact s_311_2 kc Φ _ (fun m h => s_311_115 kc Φ m h) n (0 : Int32) m h
set_option maxRecDepth 100000 in
set_option maxHeartbeats 4000000 in
theorem s_312_24 (kc : it_Kc) (Φ : Int32 → it_Me → Prop) (u0 : Int32) (m : it_Me) (h : w_312_24 kc Φ u0 m) : it_V kc it_sh0 312 24 [none, none] [(.int u0)] m (it_Pi Φ) := by
  rw [w_312_24] at h
  exact it_V.retZ it_cd312 it_m312 rfl rfl h.1 ⟨_, rfl, h.2⟩
set_option maxRecDepth 100000 in
set_option maxHeartbeats 4000000 in
theorem s_312_23 (kc : it_Kc) (Φ : Int32 → it_Me → Prop) (m : it_Me) (h : w_312_23 kc Φ m) : it_V kc it_sh0 312 23 [none, none] [] m (it_Pi Φ) := by
  rw [w_312_23] at h
  refine it_V.sN it_cd312 it_m312 1 (pc1 := 24) (ls1 := [none, none]) (st1 := [(.int (0 : Int32))]) (mem1 := m) rfl ?_
  refine it_V.weak (l := [none, none]) trivial ?_
  exact s_312_24 kc Φ (0 : Int32) m h
set_option maxRecDepth 100000 in
set_option maxHeartbeats 4000000 in
theorem s_312 (kc : it_Kc) (x0 : Int32) (m : it_Me) (Φ : Int32 → it_Me → Prop) (h : w_312 kc x0 m Φ) : it_V kc it_sh0 312 0 (it_loc0 [(.ref 66), (.int x0)] 2) [] m (it_Pi Φ) := by
  rw [w_312] at h
  refine it_V.at (pc1 := 0) (ls1 := [some (.ref 66), some (.int x0)]) (st1 := []) (mem1 := m) rfl rfl rfl rfl ?_
  refine it_V.sN it_cd312 it_m312 3 (pc1 := 5) (ls1 := [some (.ref 66), some (.int x0)]) (st1 := [(.int x0), (.ref 95)]) (mem1 := m) rfl ?_
  obtain ⟨g1, h⟩ := h
  refine it_V.iald it_cd312 it_m312 rfl ((⟨rfl, by decide⟩ : it_isR 95 8)).2 ((⟨rfl, by decide⟩ : it_isR 95 8)).1 g1 ?_
  refine it_V.at (pc1 := 6) (ls1 := [some (.ref 66), some (.int x0)]) (st1 := [(.int (m 95 (Int32.toNatClampNeg x0)))]) (mem1 := m) rfl rfl rfl rfl ?_
  refine it_V.sN it_cd312 it_m312 2 (pc1 := (if (m 95 (Int32.toNatClampNeg x0)) = (1 : Int32) then 10 else 23)) (ls1 := [some (.ref 66), some (.int x0)]) (st1 := []) (mem1 := m) rfl ?_
  refine it_V.ite (fun c2 => ?_) (fun c2 => ?_)
  · have h := h.1 c2
    refine it_V.sN it_cd312 it_m312 3 (pc1 := 15) (ls1 := [some (.ref 66), some (.int x0)]) (st1 := [(.int x0), (.ref 96)]) (mem1 := m) rfl ?_
    obtain ⟨g3, h⟩ := h
    refine it_V.bald (t := 2) (n := 8) it_cd312 it_m312 rfl rfl (by decide) g3 ?_
    refine it_V.at (pc1 := 16) (ls1 := [some (.ref 66), some (.int x0)]) (st1 := [(.int (m 96 (Int32.toNatClampNeg x0)))]) (mem1 := m) rfl rfl rfl rfl ?_
    refine it_V.sN it_cd312 it_m312 1 (pc1 := (if (m 96 (Int32.toNatClampNeg x0)) = 0 then 19 else 23)) (ls1 := [some (.ref 66), some (.int x0)]) (st1 := []) (mem1 := m) rfl ?_
    refine it_V.ite (fun c4 => ?_) (fun c4 => ?_)
    · have h := h.1 c4
      refine it_V.sN it_cd312 it_m312 2 (pc1 := 24) (ls1 := [some (.ref 66), some (.int x0)]) (st1 := [(.int (1 : Int32))]) (mem1 := m) rfl ?_
      refine it_V.weak (l := [none, none]) trivial ?_
      exact s_312_24 kc Φ (1 : Int32) m h
    · have h := h.2 c4
      refine it_V.weak (l := [none, none]) trivial ?_
      exact s_312_23 kc Φ m h
  · have h := h.2 c2
    refine it_V.weak (l := [none, none]) trivial ?_
    exact s_312_23 kc Φ m h
set_option maxRecDepth 100000 in
set_option maxHeartbeats 4000000 in
theorem s_313 (kc : it_Kc) (x0 : Int32) (m : it_Me) (Φ : it_Me → Prop) (h : w_313 kc x0 m Φ) : it_V kc it_sh0 313 0 (it_loc0 [(.ref 66), (.int x0)] 2) [] m (it_Pv Φ) := by
  rw [w_313] at h
  refine it_V.at (pc1 := 0) (ls1 := [some (.ref 66), some (.int x0)]) (st1 := []) (mem1 := m) rfl rfl rfl rfl ?_
  refine it_V.sN it_cd313 it_m313 10 (pc1 := 16) (ls1 := [some (.ref 66), some (.int x0)]) (st1 := [(.int (0 : Int32)), (.int x0), (.ref 97)]) (mem1 := (it_sv (it_sv m 66 70 x0) 66 71 (0 : Int32))) rfl ?_
  obtain ⟨g1, h⟩ := h
  refine it_V.iast it_cd313 it_m313 rfl ((⟨rfl, by decide⟩ : it_isR 97 8)).1 g1 ?_
  refine it_V.at (pc1 := 17) (ls1 := [some (.ref 66), some (.int x0)]) (st1 := []) (mem1 := (it_sv (it_sv (it_sv m 66 70 x0) 66 71 (0 : Int32)) 97 (Int32.toNatClampNeg x0) (0 : Int32))) rfl rfl rfl rfl ?_
  exact it_V.ret it_cd313 it_m313 rfl rfl ⟨rfl, h⟩
set_option maxRecDepth 100000 in
set_option maxHeartbeats 4000000 in
theorem s_315_118 (kc : it_Kc) (Φ : it_Me → Prop) (K143 : Int32 → it_Me → Prop) (hK143 : ∀ (v1 : Int32) (m : it_Me), K143 v1 m → it_V kc it_sh0 315 143 [some (.ref 66), some (.int v1), none, none] [] m (it_Pv Φ)) : ∀ (n : Nat) (v1 : Int32) (v2 : Int32) (m : it_Me) (h : w_315_118 kc Φ K143 n v1 v2 m), it_V kc it_sh0 315 118 [some (.ref 66), some (.int v1), some (.int v2), none] [] m (it_Pv Φ) := by
  intro n
  induction n with
  | zero => intro v1 v2 m h; exact absurd h id
  | succ n ih =>
    intro v1 v2 m h
    rw [w_315_118] at h
    refine it_V.sN it_cd315 it_m315 4 (pc1 := (if (m 66 34) ≤ v2 then 143 else 126)) (ls1 := [some (.ref 66), some (.int v1), some (.int v2), none]) (st1 := []) (mem1 := m) rfl ?_
    refine it_V.ite (fun c1 => ?_) (fun c1 => ?_)
    · have h := h.1 c1
      refine it_V.weak (l := [some (.ref 66), some (.int v1), none, none]) ⟨rfl, ⟨rfl, trivial⟩⟩ ?_
      exact hK143 v1 m h
    · have h := h.2 c1
      refine it_V.sN it_cd315 it_m315 4 (pc1 := 132) (ls1 := [some (.ref 66), some (.int v1), some (.int v2), none]) (st1 := [(.int v2), (.ref 108), (.int v1)]) (mem1 := m) rfl ?_
      obtain ⟨g2, h⟩ := h
      refine it_V.iald it_cd315 it_m315 rfl ((⟨rfl, by decide⟩ : it_isR 108 8)).2 ((⟨rfl, by decide⟩ : it_isR 108 8)).1 g2 ?_
      refine it_V.at (pc1 := 133) (ls1 := [some (.ref 66), some (.int v1), some (.int v2), none]) (st1 := [(.int (m 108 (Int32.toNatClampNeg v2))), (.int v1)]) (mem1 := m) rfl rfl rfl rfl ?_
      refine it_V.sN it_cd315 it_m315 4 (pc1 := 118) (ls1 := [some (.ref 66), some (.int (it_max v1 (m 108 (Int32.toNatClampNeg v2)))), some (.int (v2 + (1 : Int32))), none]) (st1 := []) (mem1 := m) rfl ?_
      refine it_V.weak (l := [some (.ref 66), some (.int (it_max v1 (m 108 (Int32.toNatClampNeg v2)))), some (.int (v2 + (1 : Int32))), none]) ⟨rfl, ⟨rfl, ⟨rfl, trivial⟩⟩⟩ ?_
      exact ih (it_max v1 (m 108 (Int32.toNatClampNeg v2))) (v2 + (1 : Int32)) m h
set_option maxRecDepth 100000 in
set_option maxHeartbeats 4000000 in
theorem s_315_240 (kc : it_Kc) (Φ : it_Me → Prop) (K159 : Int32 → Int32 → it_Me → Prop) (K247 : Int32 → it_Me → Prop) (hK159 : ∀ (v1 : Int32) (v2 : Int32) (m : it_Me), K159 v1 v2 m → it_V kc it_sh0 315 159 [some (.ref 66), some (.int v1), some (.int v2), none] [] m (it_Pv Φ)) (hK247 : ∀ (v1 : Int32) (m : it_Me), K247 v1 m → it_V kc it_sh0 315 247 [some (.ref 66), some (.int v1), none, none] [] m (it_Pv Φ)) (v2 : Int32) (u0 : Int32) (m : it_Me) (h : w_315_240 kc Φ K159 K247 v2 u0 m) : it_V kc it_sh0 315 240 [some (.ref 66), none, some (.int v2), none] [(.int u0)] m (it_Pv Φ) := by
  rw [w_315_240] at h
  refine it_V.sN it_cd315 it_m315 3 (pc1 := 159) (ls1 := [some (.ref 66), some (.int u0), some (.int (v2 + (1 : Int32))), none]) (st1 := []) (mem1 := m) rfl ?_
  refine it_V.weak (l := [some (.ref 66), some (.int u0), some (.int (v2 + (1 : Int32))), none]) ⟨rfl, ⟨rfl, ⟨rfl, trivial⟩⟩⟩ ?_
  exact hK159 u0 (v2 + (1 : Int32)) m h
set_option maxRecDepth 100000 in
set_option maxHeartbeats 4000000 in
theorem s_315_239 (kc : it_Kc) (Φ : it_Me → Prop) (K159 : Int32 → Int32 → it_Me → Prop) (K247 : Int32 → it_Me → Prop) (hK159 : ∀ (v1 : Int32) (v2 : Int32) (m : it_Me), K159 v1 v2 m → it_V kc it_sh0 315 159 [some (.ref 66), some (.int v1), some (.int v2), none] [] m (it_Pv Φ)) (hK247 : ∀ (v1 : Int32) (m : it_Me), K247 v1 m → it_V kc it_sh0 315 247 [some (.ref 66), some (.int v1), none, none] [] m (it_Pv Φ)) (v1 : Int32) (v2 : Int32) (m : it_Me) (h : w_315_239 kc Φ K159 K247 v1 v2 m) : it_V kc it_sh0 315 239 [some (.ref 66), some (.int v1), some (.int v2), none] [] m (it_Pv Φ) := by
  rw [w_315_239] at h
  refine it_V.sN it_cd315 it_m315 1 (pc1 := 240) (ls1 := [some (.ref 66), some (.int v1), some (.int v2), none]) (st1 := [(.int v1)]) (mem1 := m) rfl ?_
  refine it_V.weak (l := [some (.ref 66), none, some (.int v2), none]) ⟨rfl, ⟨rfl, trivial⟩⟩ ?_
  exact s_315_240 kc Φ _ _ hK159 hK247 v2 v1 m h
set_option maxRecDepth 100000 in
set_option maxHeartbeats 4000000 in
theorem s_315_222 (kc : it_Kc) (Φ : it_Me → Prop) (K159 : Int32 → Int32 → it_Me → Prop) (K247 : Int32 → it_Me → Prop) (hK159 : ∀ (v1 : Int32) (v2 : Int32) (m : it_Me), K159 v1 v2 m → it_V kc it_sh0 315 159 [some (.ref 66), some (.int v1), some (.int v2), none] [] m (it_Pv Φ)) (hK247 : ∀ (v1 : Int32) (m : it_Me), K247 v1 m → it_V kc it_sh0 315 247 [some (.ref 66), some (.int v1), none, none] [] m (it_Pv Φ)) (v1 : Int32) (v2 : Int32) (u0 : Int32) (m : it_Me) (h : w_315_222 kc Φ K159 K247 v1 v2 u0 m) : it_V kc it_sh0 315 222 [some (.ref 66), some (.int v1), some (.int v2), none] [(.int u0)] m (it_Pv Φ) := by
  rw [w_315_222] at h
  refine it_V.sN it_cd315 it_m315 3 (pc1 := 225) (ls1 := [some (.ref 66), some (.int v1), some (.int v2), some (.int u0)]) (st1 := [(.int v2), (.ref 66)]) (mem1 := m) rfl ?_
  refine it_V.call it_cd315 it_m315 rfl it_m312 [(.ref 66), (.int v2)] [] rfl rfl ⟨Nat.le_of_ble_eq_true rfl, Nat.le_of_ble_eq_true rfl, Nat.le_of_ble_eq_true rfl, Nat.le_of_ble_eq_true rfl, rfl⟩ (s_312 kc v2 m _ h) ?_
  rintro _ m2 ⟨r1, rfl, h⟩
  refine it_V.at (pc1 := 228) (ls1 := [some (.ref 66), some (.int v1), some (.int v2), some (.int u0)]) (st1 := [(.int r1)]) (mem1 := m2) rfl rfl rfl rfl ?_
  refine it_V.sN it_cd315 it_m315 1 (pc1 := (if r1 = 0 then 239 else 231)) (ls1 := [some (.ref 66), some (.int v1), some (.int v2), some (.int u0)]) (st1 := []) (mem1 := m2) rfl ?_
  refine it_V.ite (fun c3 => ?_) (fun c3 => ?_)
  · have h := h.1 c3
    refine it_V.weak (l := [some (.ref 66), some (.int v1), some (.int v2), none]) ⟨rfl, ⟨rfl, ⟨rfl, trivial⟩⟩⟩ ?_
    exact s_315_239 kc Φ _ _ hK159 hK247 v1 v2 m2 h
  · have h := h.2 c3
    refine it_V.sN it_cd315 it_m315 2 (pc1 := (if u0 = 0 then 239 else 235)) (ls1 := [some (.ref 66), some (.int v1), some (.int v2), some (.int u0)]) (st1 := []) (mem1 := m2) rfl ?_
    refine it_V.ite (fun c4 => ?_) (fun c4 => ?_)
    · have h := h.1 c4
      refine it_V.weak (l := [some (.ref 66), some (.int v1), some (.int v2), none]) ⟨rfl, ⟨rfl, ⟨rfl, trivial⟩⟩⟩ ?_
      exact s_315_239 kc Φ _ _ hK159 hK247 v1 v2 m2 h
    · have h := h.2 c4
      refine it_V.sN it_cd315 it_m315 2 (pc1 := 240) (ls1 := [some (.ref 66), some (.int v1), some (.int v2), some (.int u0)]) (st1 := [(.int v2)]) (mem1 := m2) rfl ?_
      refine it_V.weak (l := [some (.ref 66), none, some (.int v2), none]) ⟨rfl, ⟨rfl, trivial⟩⟩ ?_
      exact s_315_240 kc Φ _ _ hK159 hK247 v2 v2 m2 h
set_option maxRecDepth 100000 in
set_option maxHeartbeats 4000000 in
theorem s_315_217 (kc : it_Kc) (Φ : it_Me → Prop) (K159 : Int32 → Int32 → it_Me → Prop) (K247 : Int32 → it_Me → Prop) (hK159 : ∀ (v1 : Int32) (v2 : Int32) (m : it_Me), K159 v1 v2 m → it_V kc it_sh0 315 159 [some (.ref 66), some (.int v1), some (.int v2), none] [] m (it_Pv Φ)) (hK247 : ∀ (v1 : Int32) (m : it_Me), K247 v1 m → it_V kc it_sh0 315 247 [some (.ref 66), some (.int v1), none, none] [] m (it_Pv Φ)) (v1 : Int32) (v2 : Int32) (m : it_Me) (h : w_315_217 kc Φ K159 K247 v1 v2 m) : it_V kc it_sh0 315 217 [some (.ref 66), some (.int v1), some (.int v2), none] [] m (it_Pv Φ) := by
  rw [w_315_217] at h
  refine it_V.sN it_cd315 it_m315 2 (pc1 := 222) (ls1 := [some (.ref 66), some (.int v1), some (.int v2), none]) (st1 := [(.int (1 : Int32))]) (mem1 := m) rfl ?_
  refine it_V.weak (l := [some (.ref 66), some (.int v1), some (.int v2), none]) ⟨rfl, ⟨rfl, ⟨rfl, trivial⟩⟩⟩ ?_
  exact s_315_222 kc Φ _ _ hK159 hK247 v1 v2 (1 : Int32) m h
set_option maxRecDepth 100000 in
set_option maxHeartbeats 4000000 in
theorem s_315_221 (kc : it_Kc) (Φ : it_Me → Prop) (K159 : Int32 → Int32 → it_Me → Prop) (K247 : Int32 → it_Me → Prop) (hK159 : ∀ (v1 : Int32) (v2 : Int32) (m : it_Me), K159 v1 v2 m → it_V kc it_sh0 315 159 [some (.ref 66), some (.int v1), some (.int v2), none] [] m (it_Pv Φ)) (hK247 : ∀ (v1 : Int32) (m : it_Me), K247 v1 m → it_V kc it_sh0 315 247 [some (.ref 66), some (.int v1), none, none] [] m (it_Pv Φ)) (v1 : Int32) (v2 : Int32) (m : it_Me) (h : w_315_221 kc Φ K159 K247 v1 v2 m) : it_V kc it_sh0 315 221 [some (.ref 66), some (.int v1), some (.int v2), none] [] m (it_Pv Φ) := by
  rw [w_315_221] at h
  refine it_V.sN it_cd315 it_m315 1 (pc1 := 222) (ls1 := [some (.ref 66), some (.int v1), some (.int v2), none]) (st1 := [(.int (0 : Int32))]) (mem1 := m) rfl ?_
  refine it_V.weak (l := [some (.ref 66), some (.int v1), some (.int v2), none]) ⟨rfl, ⟨rfl, ⟨rfl, trivial⟩⟩⟩ ?_
  exact s_315_222 kc Φ _ _ hK159 hK247 v1 v2 (0 : Int32) m h
set_option maxRecDepth 100000 in
set_option maxHeartbeats 4000000 in
theorem s_315_159 (kc : it_Kc) (Φ : it_Me → Prop) (K247 : Int32 → it_Me → Prop) (hK247 : ∀ (v1 : Int32) (m : it_Me), K247 v1 m → it_V kc it_sh0 315 247 [some (.ref 66), some (.int v1), none, none] [] m (it_Pv Φ)) : ∀ (n : Nat) (v1 : Int32) (v2 : Int32) (m : it_Me) (h : w_315_159 kc Φ K247 n v1 v2 m), it_V kc it_sh0 315 159 [some (.ref 66), some (.int v1), some (.int v2), none] [] m (it_Pv Φ) := by
  intro n
  induction n with
  | zero => intro v1 v2 m h; exact absurd h id
  | succ n ih =>
    intro v1 v2 m h
    rw [w_315_159] at h
    refine it_V.sN it_cd315 it_m315 4 (pc1 := (if (m 66 34) ≤ v2 then 247 else 167)) (ls1 := [some (.ref 66), some (.int v1), some (.int v2), none]) (st1 := []) (mem1 := m) rfl ?_
    refine it_V.ite (fun c1 => ?_) (fun c1 => ?_)
    · have h := h.1 c1
      refine it_V.weak (l := [some (.ref 66), some (.int v1), none, none]) ⟨rfl, ⟨rfl, trivial⟩⟩ ?_
      exact hK247 v1 m h
    · have h := h.2 c1
      refine it_V.sN it_cd315 it_m315 3 (pc1 := (if v1 = (-1 : Int32) then 217 else 172)) (ls1 := [some (.ref 66), some (.int v1), some (.int v2), none]) (st1 := []) (mem1 := m) rfl ?_
      refine it_V.ite (fun c2 => ?_) (fun c2 => ?_)
      · have h := h.1 c2
        refine it_V.weak (l := [some (.ref 66), some (.int v1), some (.int v2), none]) ⟨rfl, ⟨rfl, ⟨rfl, trivial⟩⟩⟩ ?_
        exact s_315_217 kc Φ _ _ ih hK247 v1 v2 m h
      · have h := h.2 c2
        refine it_V.sN it_cd315 it_m315 3 (pc1 := 177) (ls1 := [some (.ref 66), some (.int v1), some (.int v2), none]) (st1 := [(.int v2), (.ref 106)]) (mem1 := m) rfl ?_
        obtain ⟨g3, h⟩ := h
        refine it_V.iald it_cd315 it_m315 rfl ((⟨rfl, by decide⟩ : it_isR 106 8)).2 ((⟨rfl, by decide⟩ : it_isR 106 8)).1 g3 ?_
        refine it_V.at (pc1 := 178) (ls1 := [some (.ref 66), some (.int v1), some (.int v2), none]) (st1 := [(.int (m 106 (Int32.toNatClampNeg v2)))]) (mem1 := m) rfl rfl rfl rfl ?_
        refine it_V.sN it_cd315 it_m315 3 (pc1 := 183) (ls1 := [some (.ref 66), some (.int v1), some (.int v2), none]) (st1 := [(.int v1), (.ref 106), (.int (m 106 (Int32.toNatClampNeg v2)))]) (mem1 := m) rfl ?_
        obtain ⟨g4, h⟩ := h
        refine it_V.iald it_cd315 it_m315 rfl ((⟨rfl, by decide⟩ : it_isR 106 8)).2 ((⟨rfl, by decide⟩ : it_isR 106 8)).1 g4 ?_
        refine it_V.at (pc1 := 184) (ls1 := [some (.ref 66), some (.int v1), some (.int v2), none]) (st1 := [(.int (m 106 (Int32.toNatClampNeg v1))), (.int (m 106 (Int32.toNatClampNeg v2)))]) (mem1 := m) rfl rfl rfl rfl ?_
        refine it_V.sN it_cd315 it_m315 1 (pc1 := (if (m 106 (Int32.toNatClampNeg v2)) < (m 106 (Int32.toNatClampNeg v1)) then 217 else 187)) (ls1 := [some (.ref 66), some (.int v1), some (.int v2), none]) (st1 := []) (mem1 := m) rfl ?_
        refine it_V.ite (fun c5 => ?_) (fun c5 => ?_)
        · have h := h.1 c5
          refine it_V.weak (l := [some (.ref 66), some (.int v1), some (.int v2), none]) ⟨rfl, ⟨rfl, ⟨rfl, trivial⟩⟩⟩ ?_
          exact s_315_217 kc Φ _ _ ih hK247 v1 v2 m h
        · have h := h.2 c5
          refine it_V.sN it_cd315 it_m315 3 (pc1 := 192) (ls1 := [some (.ref 66), some (.int v1), some (.int v2), none]) (st1 := [(.int v2), (.ref 106)]) (mem1 := m) rfl ?_
          obtain ⟨g6, h⟩ := h
          refine it_V.iald it_cd315 it_m315 rfl ((⟨rfl, by decide⟩ : it_isR 106 8)).2 ((⟨rfl, by decide⟩ : it_isR 106 8)).1 g6 ?_
          refine it_V.at (pc1 := 193) (ls1 := [some (.ref 66), some (.int v1), some (.int v2), none]) (st1 := [(.int (m 106 (Int32.toNatClampNeg v2)))]) (mem1 := m) rfl rfl rfl rfl ?_
          refine it_V.sN it_cd315 it_m315 3 (pc1 := 198) (ls1 := [some (.ref 66), some (.int v1), some (.int v2), none]) (st1 := [(.int v1), (.ref 106), (.int (m 106 (Int32.toNatClampNeg v2)))]) (mem1 := m) rfl ?_
          obtain ⟨g7, h⟩ := h
          refine it_V.iald it_cd315 it_m315 rfl ((⟨rfl, by decide⟩ : it_isR 106 8)).2 ((⟨rfl, by decide⟩ : it_isR 106 8)).1 g7 ?_
          refine it_V.at (pc1 := 199) (ls1 := [some (.ref 66), some (.int v1), some (.int v2), none]) (st1 := [(.int (m 106 (Int32.toNatClampNeg v1))), (.int (m 106 (Int32.toNatClampNeg v2)))]) (mem1 := m) rfl rfl rfl rfl ?_
          refine it_V.sN it_cd315 it_m315 1 (pc1 := (if (m 106 (Int32.toNatClampNeg v2)) = (m 106 (Int32.toNatClampNeg v1)) then 202 else 221)) (ls1 := [some (.ref 66), some (.int v1), some (.int v2), none]) (st1 := []) (mem1 := m) rfl ?_
          refine it_V.ite (fun c8 => ?_) (fun c8 => ?_)
          · have h := h.1 c8
            refine it_V.sN it_cd315 it_m315 3 (pc1 := 207) (ls1 := [some (.ref 66), some (.int v1), some (.int v2), none]) (st1 := [(.int v2), (.ref 108)]) (mem1 := m) rfl ?_
            obtain ⟨g9, h⟩ := h
            refine it_V.iald it_cd315 it_m315 rfl ((⟨rfl, by decide⟩ : it_isR 108 8)).2 ((⟨rfl, by decide⟩ : it_isR 108 8)).1 g9 ?_
            refine it_V.at (pc1 := 208) (ls1 := [some (.ref 66), some (.int v1), some (.int v2), none]) (st1 := [(.int (m 108 (Int32.toNatClampNeg v2)))]) (mem1 := m) rfl rfl rfl rfl ?_
            refine it_V.sN it_cd315 it_m315 3 (pc1 := 213) (ls1 := [some (.ref 66), some (.int v1), some (.int v2), none]) (st1 := [(.int v1), (.ref 108), (.int (m 108 (Int32.toNatClampNeg v2)))]) (mem1 := m) rfl ?_
            obtain ⟨g10, h⟩ := h
            refine it_V.iald it_cd315 it_m315 rfl ((⟨rfl, by decide⟩ : it_isR 108 8)).2 ((⟨rfl, by decide⟩ : it_isR 108 8)).1 g10 ?_
            refine it_V.at (pc1 := 214) (ls1 := [some (.ref 66), some (.int v1), some (.int v2), none]) (st1 := [(.int (m 108 (Int32.toNatClampNeg v1))), (.int (m 108 (Int32.toNatClampNeg v2)))]) (mem1 := m) rfl rfl rfl rfl ?_
            refine it_V.sN it_cd315 it_m315 1 (pc1 := (if (m 108 (Int32.toNatClampNeg v1)) ≤ (m 108 (Int32.toNatClampNeg v2)) then 221 else 217)) (ls1 := [some (.ref 66), some (.int v1), some (.int v2), none]) (st1 := []) (mem1 := m) rfl ?_
            refine it_V.ite (fun c11 => ?_) (fun c11 => ?_)
            · have h := h.1 c11
              refine it_V.weak (l := [some (.ref 66), some (.int v1), some (.int v2), none]) ⟨rfl, ⟨rfl, ⟨rfl, trivial⟩⟩⟩ ?_
              exact s_315_221 kc Φ _ _ ih hK247 v1 v2 m h
            · have h := h.2 c11
              refine it_V.weak (l := [some (.ref 66), some (.int v1), some (.int v2), none]) ⟨rfl, ⟨rfl, ⟨rfl, trivial⟩⟩⟩ ?_
              exact s_315_217 kc Φ _ _ ih hK247 v1 v2 m h
          · have h := h.2 c8
            refine it_V.weak (l := [some (.ref 66), some (.int v1), some (.int v2), none]) ⟨rfl, ⟨rfl, ⟨rfl, trivial⟩⟩⟩ ?_
            exact s_315_221 kc Φ _ _ ih hK247 v1 v2 m h
set_option maxRecDepth 100000 in
set_option maxHeartbeats 4000000 in
theorem s_315_247 (kc : it_Kc) (Φ : it_Me → Prop) (v1 : Int32) (m : it_Me) (h : w_315_247 kc Φ v1 m) : it_V kc it_sh0 315 247 [some (.ref 66), some (.int v1), none, none] [] m (it_Pv Φ) := by
  rw [w_315_247] at h
  refine it_V.sN it_cd315 it_m315 2 (pc1 := 249) (ls1 := [some (.ref 66), some (.int v1), none, none]) (st1 := [(.int v1), (.ref 66)]) (mem1 := m) rfl ?_
  refine it_V.call it_cd315 it_m315 rfl it_m313 [(.ref 66), (.int v1)] [] rfl rfl ⟨Nat.le_of_ble_eq_true rfl, Nat.le_of_ble_eq_true rfl, Nat.le_of_ble_eq_true rfl, Nat.le_of_ble_eq_true rfl, rfl⟩ (s_313 kc v1 m _ h) ?_
  rintro _ m1 ⟨rfl, h⟩
  refine it_V.at (pc1 := 252) (ls1 := [some (.ref 66), some (.int v1), none, none]) (st1 := []) (mem1 := m1) rfl rfl rfl rfl ?_
  exact it_V.ret it_cd315 it_m315 rfl rfl ⟨rfl, h⟩
set_option maxRecDepth 100000 in
set_option maxHeartbeats 4000000 in
theorem s_315_155 (kc : it_Kc) (Φ : it_Me → Prop) (m : it_Me) (h : w_315_155 kc Φ m) : it_V kc it_sh0 315 155 [some (.ref 66), none, none, none] [] m (it_Pv Φ) := by
  rw [w_315_155] at h
  refine it_V.sN it_cd315 it_m315 4 (pc1 := 159) (ls1 := [some (.ref 66), some (.int (-1 : Int32)), some (.int (0 : Int32)), none]) (st1 := []) (mem1 := m) rfl ?_
  refine it_V.weak (l := [some (.ref 66), some (.int (-1 : Int32)), some (.int (0 : Int32)), none]) ⟨rfl, ⟨rfl, ⟨rfl, trivial⟩⟩⟩ ?_
  obtain ⟨n, h⟩ := h
  exact s_315_159 kc Φ _ (fun v1 m h => s_315_247 kc Φ v1 m h) n (-1 : Int32) (0 : Int32) m h
set_option maxRecDepth 100000 in
set_option maxHeartbeats 4000000 in
theorem s_315_143 (kc : it_Kc) (Φ : it_Me → Prop) (v1 : Int32) (m : it_Me) (h : w_315_143 kc Φ v1 m) : it_V kc it_sh0 315 143 [some (.ref 66), some (.int v1), none, none] [] m (it_Pv Φ) := by
  rw [w_315_143] at h
  refine it_V.sN it_cd315 it_m315 7 (pc1 := 154) (ls1 := [some (.ref 66), some (.int v1), none, none]) (st1 := [(.int (v1 + (1 : Int32))), (.int (m 66 70)), (.ref 108)]) (mem1 := m) rfl ?_
  obtain ⟨g1, h⟩ := h
  refine it_V.iast it_cd315 it_m315 rfl ((⟨rfl, by decide⟩ : it_isR 108 8)).1 g1 ?_
  refine it_V.at (pc1 := 155) (ls1 := [some (.ref 66), some (.int v1), none, none]) (st1 := []) (mem1 := (it_sv m 108 (Int32.toNatClampNeg (m 66 70)) (v1 + (1 : Int32)))) rfl rfl rfl rfl ?_
  refine it_V.weak (l := [some (.ref 66), none, none, none]) ⟨rfl, trivial⟩ ?_
  exact s_315_155 kc Φ (it_sv m 108 (Int32.toNatClampNeg (m 66 70)) (v1 + (1 : Int32))) h
set_option maxRecDepth 100000 in
set_option maxHeartbeats 4000000 in
theorem s_315_114 (kc : it_Kc) (Φ : it_Me → Prop) (m : it_Me) (h : w_315_114 kc Φ m) : it_V kc it_sh0 315 114 [some (.ref 66), none, none, none] [] m (it_Pv Φ) := by
  rw [w_315_114] at h
  refine it_V.sN it_cd315 it_m315 4 (pc1 := 118) (ls1 := [some (.ref 66), some (.int (0 : Int32)), some (.int (0 : Int32)), none]) (st1 := []) (mem1 := m) rfl ?_
  refine it_V.weak (l := [some (.ref 66), some (.int (0 : Int32)), some (.int (0 : Int32)), none]) ⟨rfl, ⟨rfl, ⟨rfl, trivial⟩⟩⟩ ?_
  obtain ⟨n, h⟩ := h
  exact s_315_118 kc Φ _ (fun v1 m h => s_315_143 kc Φ v1 m h) n (0 : Int32) (0 : Int32) m h
set_option maxRecDepth 100000 in
set_option maxHeartbeats 4000000 in
theorem s_315_46 (kc : it_Kc) (Φ : it_Me → Prop) (m : it_Me) (h : w_315_46 kc Φ m) : it_V kc it_sh0 315 46 [some (.ref 66), none, none, none] [] m (it_Pv Φ) := by
  rw [w_315_46] at h
  refine it_V.sN it_cd315 it_m315 4 (pc1 := (if (m 66 70) = (-1 : Int32) then 155 else 54)) (ls1 := [some (.ref 66), none, none, none]) (st1 := []) (mem1 := m) rfl ?_
  refine it_V.ite (fun c1 => ?_) (fun c1 => ?_)
  · have h := h.1 c1
    refine it_V.weak (l := [some (.ref 66), none, none, none]) ⟨rfl, trivial⟩ ?_
    exact s_315_155 kc Φ m h
  · have h := h.2 c1
    refine it_V.sN it_cd315 it_m315 4 (pc1 := 62) (ls1 := [some (.ref 66), none, none, none]) (st1 := [(.int (m 66 70)), (.ref 107)]) (mem1 := m) rfl ?_
    obtain ⟨g2, h⟩ := h
    refine it_V.iald it_cd315 it_m315 rfl ((⟨rfl, by decide⟩ : it_isR 107 8)).2 ((⟨rfl, by decide⟩ : it_isR 107 8)).1 g2 ?_
    refine it_V.at (pc1 := 63) (ls1 := [some (.ref 66), none, none, none]) (st1 := [(.int (m 107 (Int32.toNatClampNeg (m 66 70))))]) (mem1 := m) rfl rfl rfl rfl ?_
    refine it_V.sN it_cd315 it_m315 6 (pc1 := 75) (ls1 := [some (.ref 66), none, none, none]) (st1 := [(.int (m 66 70)), (.ref 106), (.int (m 66 8)), (.int (m 107 (Int32.toNatClampNeg (m 66 70))))]) (mem1 := m) rfl ?_
    obtain ⟨g3, h⟩ := h
    refine it_V.iald it_cd315 it_m315 rfl ((⟨rfl, by decide⟩ : it_isR 106 8)).2 ((⟨rfl, by decide⟩ : it_isR 106 8)).1 g3 ?_
    refine it_V.at (pc1 := 76) (ls1 := [some (.ref 66), none, none, none]) (st1 := [(.int (m 106 (Int32.toNatClampNeg (m 66 70)))), (.int (m 66 8)), (.int (m 107 (Int32.toNatClampNeg (m 66 70))))]) (mem1 := m) rfl rfl rfl rfl ?_
    refine it_V.sN it_cd315 it_m315 2 (pc1 := (if (m 107 (Int32.toNatClampNeg (m 66 70))) < (it_shl (m 66 8) (m 106 (Int32.toNatClampNeg (m 66 70)))) then 114 else 80)) (ls1 := [some (.ref 66), none, none, none]) (st1 := []) (mem1 := m) rfl ?_
    refine it_V.ite (fun c4 => ?_) (fun c4 => ?_)
    · have h := h.1 c4
      refine it_V.weak (l := [some (.ref 66), none, none, none]) ⟨rfl, trivial⟩ ?_
      exact s_315_114 kc Φ m h
    · have h := h.2 c4
      refine it_V.sN it_cd315 it_m315 9 (pc1 := 97) (ls1 := [some (.ref 66), none, none, none]) (st1 := [(.int (m 66 70)), (.ref 106), (.int (2 : Int32)), (.int (m 66 70)), (.ref 106)]) (mem1 := m) rfl ?_
      obtain ⟨g5, h⟩ := h
      refine it_V.iald it_cd315 it_m315 rfl ((⟨rfl, by decide⟩ : it_isR 106 8)).2 ((⟨rfl, by decide⟩ : it_isR 106 8)).1 g5 ?_
      refine it_V.at (pc1 := 98) (ls1 := [some (.ref 66), none, none, none]) (st1 := [(.int (m 106 (Int32.toNatClampNeg (m 66 70)))), (.int (2 : Int32)), (.int (m 66 70)), (.ref 106)]) (mem1 := m) rfl rfl rfl rfl ?_
      refine it_V.sN it_cd315 it_m315 3 (pc1 := 103) (ls1 := [some (.ref 66), none, none, none]) (st1 := [(.int (it_min (2 : Int32) ((m 106 (Int32.toNatClampNeg (m 66 70))) + (1 : Int32)))), (.int (m 66 70)), (.ref 106)]) (mem1 := m) rfl ?_
      obtain ⟨g6, h⟩ := h
      refine it_V.iast it_cd315 it_m315 rfl ((⟨rfl, by decide⟩ : it_isR 106 8)).1 g6 ?_
      refine it_V.at (pc1 := 104) (ls1 := [some (.ref 66), none, none, none]) (st1 := []) (mem1 := (it_sv m 106 (Int32.toNatClampNeg (m 66 70)) (it_min (2 : Int32) ((m 106 (Int32.toNatClampNeg (m 66 70))) + (1 : Int32))))) rfl rfl rfl rfl ?_
      refine it_V.sN it_cd315 it_m315 5 (pc1 := 113) (ls1 := [some (.ref 66), none, none, none]) (st1 := [(.int (0 : Int32)), (.int ((it_sv m 106 (Int32.toNatClampNeg (m 66 70)) (it_min (2 : Int32) ((m 106 (Int32.toNatClampNeg (m 66 70))) + (1 : Int32)))) 66 70)), (.ref 107)]) (mem1 := (it_sv m 106 (Int32.toNatClampNeg (m 66 70)) (it_min (2 : Int32) ((m 106 (Int32.toNatClampNeg (m 66 70))) + (1 : Int32))))) rfl ?_
      obtain ⟨g7, h⟩ := h
      refine it_V.iast it_cd315 it_m315 rfl ((⟨rfl, by decide⟩ : it_isR 107 8)).1 g7 ?_
      refine it_V.at (pc1 := 114) (ls1 := [some (.ref 66), none, none, none]) (st1 := []) (mem1 := (it_sv (it_sv m 106 (Int32.toNatClampNeg (m 66 70)) (it_min (2 : Int32) ((m 106 (Int32.toNatClampNeg (m 66 70))) + (1 : Int32)))) 107 (Int32.toNatClampNeg ((it_sv m 106 (Int32.toNatClampNeg (m 66 70)) (it_min (2 : Int32) ((m 106 (Int32.toNatClampNeg (m 66 70))) + (1 : Int32)))) 66 70)) (0 : Int32))) rfl rfl rfl rfl ?_
      refine it_V.weak (l := [some (.ref 66), none, none, none]) ⟨rfl, trivial⟩ ?_
      exact s_315_114 kc Φ (it_sv (it_sv m 106 (Int32.toNatClampNeg (m 66 70)) (it_min (2 : Int32) ((m 106 (Int32.toNatClampNeg (m 66 70))) + (1 : Int32)))) 107 (Int32.toNatClampNeg ((it_sv m 106 (Int32.toNatClampNeg (m 66 70)) (it_min (2 : Int32) ((m 106 (Int32.toNatClampNeg (m 66 70))) + (1 : Int32)))) 66 70)) (0 : Int32)) h
set_option maxRecDepth 100000 in
set_option maxHeartbeats 4000000 in
theorem s_315 (kc : it_Kc) (m : it_Me) (Φ : it_Me → Prop) (h : w_315 kc m Φ) : it_V kc it_sh0 315 0 (it_loc0 [(.ref 66)] 4) [] m (it_Pv Φ) := by
  rw [w_315] at h
  refine it_V.at (pc1 := 0) (ls1 := [some (.ref 66), none, none, none]) (st1 := []) (mem1 := m) rfl rfl rfl rfl ?_
  refine it_V.sN it_cd315 it_m315 4 (pc1 := (if (m 66 70) = (-1 : Int32) then 46 else 8)) (ls1 := [some (.ref 66), none, none, none]) (st1 := []) (mem1 := m) rfl ?_
  refine it_V.ite (fun c1 => ?_) (fun c1 => ?_)
  · have h := h.1 c1
    exact s_315_46 kc Φ m h
  · have h := h.2 c1
    refine it_V.sN it_cd315 it_m315 3 (pc1 := 13) (ls1 := [some (.ref 66), none, none, none]) (st1 := [(.int (m 66 70)), (.ref 66)]) (mem1 := m) rfl ?_
    refine it_V.call it_cd315 it_m315 rfl it_m312 [(.ref 66), (.int (m 66 70))] [] rfl rfl ⟨Nat.le_of_ble_eq_true rfl, Nat.le_of_ble_eq_true rfl, Nat.le_of_ble_eq_true rfl, Nat.le_of_ble_eq_true rfl, rfl⟩ (s_312 kc (m 66 70) m _ h) ?_
    rintro _ m3 ⟨r2, rfl, h⟩
    refine it_V.at (pc1 := 16) (ls1 := [some (.ref 66), none, none, none]) (st1 := [(.int r2)]) (mem1 := m3) rfl rfl rfl rfl ?_
    refine it_V.sN it_cd315 it_m315 1 (pc1 := (if r2 = 0 then 46 else 19)) (ls1 := [some (.ref 66), none, none, none]) (st1 := []) (mem1 := m3) rfl ?_
    refine it_V.ite (fun c4 => ?_) (fun c4 => ?_)
    · have h := h.1 c4
      exact s_315_46 kc Φ m3 h
    · have h := h.2 c4
      refine it_V.sN it_cd315 it_m315 4 (pc1 := 27) (ls1 := [some (.ref 66), none, none, none]) (st1 := [(.int (m3 66 70)), (.ref 107)]) (mem1 := m3) rfl ?_
      obtain ⟨g5, h⟩ := h
      refine it_V.iald it_cd315 it_m315 rfl ((⟨rfl, by decide⟩ : it_isR 107 8)).2 ((⟨rfl, by decide⟩ : it_isR 107 8)).1 g5 ?_
      refine it_V.at (pc1 := 28) (ls1 := [some (.ref 66), none, none, none]) (st1 := [(.int (m3 107 (Int32.toNatClampNeg (m3 66 70))))]) (mem1 := m3) rfl rfl rfl rfl ?_
      refine it_V.sN it_cd315 it_m315 6 (pc1 := 40) (ls1 := [some (.ref 66), none, none, none]) (st1 := [(.int (m3 66 70)), (.ref 106), (.int (m3 66 8)), (.int (m3 107 (Int32.toNatClampNeg (m3 66 70))))]) (mem1 := m3) rfl ?_
      obtain ⟨g6, h⟩ := h
      refine it_V.iald it_cd315 it_m315 rfl ((⟨rfl, by decide⟩ : it_isR 106 8)).2 ((⟨rfl, by decide⟩ : it_isR 106 8)).1 g6 ?_
      refine it_V.at (pc1 := 41) (ls1 := [some (.ref 66), none, none, none]) (st1 := [(.int (m3 106 (Int32.toNatClampNeg (m3 66 70)))), (.int (m3 66 8)), (.int (m3 107 (Int32.toNatClampNeg (m3 66 70))))]) (mem1 := m3) rfl rfl rfl rfl ?_
      refine it_V.sN it_cd315 it_m315 2 (pc1 := (if (it_shl (m3 66 8) (m3 106 (Int32.toNatClampNeg (m3 66 70)))) ≤ (m3 107 (Int32.toNatClampNeg (m3 66 70))) then 46 else 45)) (ls1 := [some (.ref 66), none, none, none]) (st1 := []) (mem1 := m3) rfl ?_
      refine it_V.ite (fun c7 => ?_) (fun c7 => ?_)
      · have h := h.1 c7
        exact s_315_46 kc Φ m3 h
      · have h := h.2 c7
        exact it_V.ret it_cd315 it_m315 rfl rfl ⟨rfl, h⟩
set_option maxRecDepth 100000 in
set_option maxHeartbeats 4000000 in
theorem s_314_139 (kc : it_Kc) (Φ : Int32 → it_Me → Prop) (K153 : Int32 → it_Me → Prop) (hK153 : ∀ (v2 : Int32) (m : it_Me), K153 v2 m → it_V kc it_sh0 314 153 [some (.ref 66), none, some (.int v2)] [] m (it_Pi Φ)) : ∀ (n : Nat) (v2 : Int32) (m : it_Me) (h : w_314_139 kc Φ K153 n v2 m), it_V kc it_sh0 314 139 [some (.ref 66), none, some (.int v2)] [] m (it_Pi Φ) := by
  intro n
  induction n with
  | zero => intro v2 m h; exact absurd h id
  | succ n ih =>
    intro v2 m h
    rw [w_314_139] at h
    refine it_V.sN it_cd314 it_m314 2 (pc1 := 141) (ls1 := [some (.ref 66), none, some (.int v2)]) (st1 := [(.int v2), (.ref 66)]) (mem1 := m) rfl ?_
    refine it_V.call it_cd314 it_m314 rfl it_m312 [(.ref 66), (.int v2)] [] rfl rfl ⟨Nat.le_of_ble_eq_true rfl, Nat.le_of_ble_eq_true rfl, Nat.le_of_ble_eq_true rfl, Nat.le_of_ble_eq_true rfl, rfl⟩ (s_312 kc v2 m _ h) ?_
    rintro _ m2 ⟨r1, rfl, h⟩
    refine it_V.at (pc1 := 144) (ls1 := [some (.ref 66), none, some (.int v2)]) (st1 := [(.int r1)]) (mem1 := m2) rfl rfl rfl rfl ?_
    refine it_V.sN it_cd314 it_m314 1 (pc1 := (if r1 = 0 then 147 else 153)) (ls1 := [some (.ref 66), none, some (.int v2)]) (st1 := []) (mem1 := m2) rfl ?_
    refine it_V.ite (fun c3 => ?_) (fun c3 => ?_)
    · have h := h.1 c3
      refine it_V.sN it_cd314 it_m314 2 (pc1 := 139) (ls1 := [some (.ref 66), none, some (.int (v2 + (1 : Int32)))]) (st1 := []) (mem1 := m2) rfl ?_
      refine it_V.weak (l := [some (.ref 66), none, some (.int (v2 + (1 : Int32)))]) ⟨rfl, ⟨rfl, trivial⟩⟩ ?_
      exact ih (v2 + (1 : Int32)) m2 h
    · have h := h.2 c3
      refine it_V.weak (l := [some (.ref 66), none, some (.int v2)]) ⟨rfl, ⟨rfl, trivial⟩⟩ ?_
      exact hK153 v2 m2 h
set_option maxRecDepth 100000 in
set_option maxHeartbeats 4000000 in
theorem s_314_101 (kc : it_Kc) (Φ : Int32 → it_Me → Prop) (K121 : Int32 → it_Me → Prop) (hK121 : ∀ (v2 : Int32) (m : it_Me), K121 v2 m → it_V kc it_sh0 314 121 [some (.ref 66), none, some (.int v2)] [] m (it_Pi Φ)) : ∀ (n : Nat) (v2 : Int32) (m : it_Me) (h : w_314_101 kc Φ K121 n v2 m), it_V kc it_sh0 314 101 [some (.ref 66), none, some (.int v2)] [] m (it_Pi Φ) := by
  intro n
  induction n with
  | zero => intro v2 m h; exact absurd h id
  | succ n ih =>
    intro v2 m h
    rw [w_314_101] at h
    refine it_V.sN it_cd314 it_m314 2 (pc1 := 103) (ls1 := [some (.ref 66), none, some (.int v2)]) (st1 := [(.int v2), (.ref 66)]) (mem1 := m) rfl ?_
    refine it_V.call it_cd314 it_m314 rfl it_m312 [(.ref 66), (.int v2)] [] rfl rfl ⟨Nat.le_of_ble_eq_true rfl, Nat.le_of_ble_eq_true rfl, Nat.le_of_ble_eq_true rfl, Nat.le_of_ble_eq_true rfl, rfl⟩ (s_312 kc v2 m _ h) ?_
    rintro _ m2 ⟨r1, rfl, h⟩
    refine it_V.at (pc1 := 106) (ls1 := [some (.ref 66), none, some (.int v2)]) (st1 := [(.int r1)]) (mem1 := m2) rfl rfl rfl rfl ?_
    refine it_V.sN it_cd314 it_m314 1 (pc1 := (if r1 = 0 then 109 else 121)) (ls1 := [some (.ref 66), none, some (.int v2)]) (st1 := []) (mem1 := m2) rfl ?_
    refine it_V.ite (fun c3 => ?_) (fun c3 => ?_)
    · have h := h.1 c3
      refine it_V.sN it_cd314 it_m314 5 (pc1 := 116) (ls1 := [some (.ref 66), none, some (.int v2)]) (st1 := [(.int (m2 66 34)), (.int (v2 + (1 : Int32)))]) (mem1 := m2) rfl ?_
      obtain ⟨g4, h⟩ := h
      refine it_V.s1 it_cd314 it_m314 (pc1 := 117) (ls1 := [some (.ref 66), none, some (.int v2)]) (st1 := [(.int (it_rem (v2 + (1 : Int32)) (m2 66 34)))]) (mem1 := m2) (by simp only [it_s1, show it_lk it_c314 116 = some (0, .irem, 0, 0) from rfl, it_ops, if_neg g4]; rfl) ?_
      refine it_V.sN it_cd314 it_m314 2 (pc1 := 101) (ls1 := [some (.ref 66), none, some (.int (it_rem (v2 + (1 : Int32)) (m2 66 34)))]) (st1 := []) (mem1 := m2) rfl ?_
      refine it_V.weak (l := [some (.ref 66), none, some (.int (it_rem (v2 + (1 : Int32)) (m2 66 34)))]) ⟨rfl, ⟨rfl, trivial⟩⟩ ?_
      exact ih (it_rem (v2 + (1 : Int32)) (m2 66 34)) m2 h
    · have h := h.2 c3
      refine it_V.weak (l := [some (.ref 66), none, some (.int v2)]) ⟨rfl, ⟨rfl, trivial⟩⟩ ?_
      exact hK121 v2 m2 h
set_option maxRecDepth 100000 in
set_option maxHeartbeats 4000000 in
theorem s_314_26 (kc : it_Kc) (Φ : Int32 → it_Me → Prop) (K4 : Int32 → Int32 → it_Me → Prop) (K34 : Int32 → it_Me → Prop) (hK4 : ∀ (v1 : Int32) (v2 : Int32) (m : it_Me), K4 v1 v2 m → it_V kc it_sh0 314 4 [some (.ref 66), some (.int v1), some (.int v2)] [] m (it_Pi Φ)) (hK34 : ∀ (v1 : Int32) (m : it_Me), K34 v1 m → it_V kc it_sh0 314 34 [some (.ref 66), some (.int v1), none] [] m (it_Pi Φ)) (v2 : Int32) (u0 : Int32) (u1 : Int32) (m : it_Me) (h : w_314_26 kc Φ K4 K34 v2 u0 u1 m) : it_V kc it_sh0 314 26 [some (.ref 66), none, some (.int v2)] [(.int u1), (.int u0)] m (it_Pi Φ) := by
  rw [w_314_26] at h
  refine it_V.sN it_cd314 it_m314 4 (pc1 := 4) (ls1 := [some (.ref 66), some (.int (u0 + u1)), some (.int (v2 + (1 : Int32)))]) (st1 := []) (mem1 := m) rfl ?_
  exact hK4 (u0 + u1) (v2 + (1 : Int32)) m h
set_option maxRecDepth 100000 in
set_option maxHeartbeats 4000000 in
theorem s_314_4 (kc : it_Kc) (Φ : Int32 → it_Me → Prop) (K34 : Int32 → it_Me → Prop) (hK34 : ∀ (v1 : Int32) (m : it_Me), K34 v1 m → it_V kc it_sh0 314 34 [some (.ref 66), some (.int v1), none] [] m (it_Pi Φ)) : ∀ (n : Nat) (v1 : Int32) (v2 : Int32) (m : it_Me) (h : w_314_4 kc Φ K34 n v1 v2 m), it_V kc it_sh0 314 4 [some (.ref 66), some (.int v1), some (.int v2)] [] m (it_Pi Φ) := by
  intro n
  induction n with
  | zero => intro v1 v2 m h; exact absurd h id
  | succ n ih =>
    intro v1 v2 m h
    rw [w_314_4] at h
    refine it_V.sN it_cd314 it_m314 4 (pc1 := (if (m 66 34) ≤ v2 then 34 else 12)) (ls1 := [some (.ref 66), some (.int v1), some (.int v2)]) (st1 := []) (mem1 := m) rfl ?_
    refine it_V.ite (fun c1 => ?_) (fun c1 => ?_)
    · have h := h.1 c1
      refine it_V.weak (l := [some (.ref 66), some (.int v1), none]) ⟨rfl, ⟨rfl, trivial⟩⟩ ?_
      exact hK34 v1 m h
    · have h := h.2 c1
      refine it_V.sN it_cd314 it_m314 3 (pc1 := 15) (ls1 := [some (.ref 66), some (.int v1), some (.int v2)]) (st1 := [(.int v2), (.ref 66), (.int v1)]) (mem1 := m) rfl ?_
      refine it_V.call it_cd314 it_m314 rfl it_m312 [(.ref 66), (.int v2)] [(.int v1)] rfl rfl ⟨Nat.le_of_ble_eq_true rfl, Nat.le_of_ble_eq_true rfl, Nat.le_of_ble_eq_true rfl, Nat.le_of_ble_eq_true rfl, rfl⟩ (s_312 kc v2 m _ h) ?_
      rintro _ m3 ⟨r2, rfl, h⟩
      refine it_V.at (pc1 := 18) (ls1 := [some (.ref 66), some (.int v1), some (.int v2)]) (st1 := [(.int r2), (.int v1)]) (mem1 := m3) rfl rfl rfl rfl ?_
      refine it_V.sN it_cd314 it_m314 1 (pc1 := (if r2 = 0 then 25 else 21)) (ls1 := [some (.ref 66), some (.int v1), some (.int v2)]) (st1 := [(.int v1)]) (mem1 := m3) rfl ?_
      refine it_V.ite (fun c4 => ?_) (fun c4 => ?_)
      · have h := h.1 c4
        refine it_V.sN it_cd314 it_m314 1 (pc1 := 26) (ls1 := [some (.ref 66), some (.int v1), some (.int v2)]) (st1 := [(.int (0 : Int32)), (.int v1)]) (mem1 := m3) rfl ?_
        refine it_V.weak (l := [some (.ref 66), none, some (.int v2)]) ⟨rfl, ⟨rfl, trivial⟩⟩ ?_
        exact s_314_26 kc Φ _ _ ih hK34 v2 v1 (0 : Int32) m3 h
      · have h := h.2 c4
        refine it_V.sN it_cd314 it_m314 2 (pc1 := 26) (ls1 := [some (.ref 66), some (.int v1), some (.int v2)]) (st1 := [(.int (1 : Int32)), (.int v1)]) (mem1 := m3) rfl ?_
        refine it_V.weak (l := [some (.ref 66), none, some (.int v2)]) ⟨rfl, ⟨rfl, trivial⟩⟩ ?_
        exact s_314_26 kc Φ _ _ ih hK34 v2 v1 (1 : Int32) m3 h
set_option maxRecDepth 100000 in
set_option maxHeartbeats 4000000 in
theorem s_314_173 (kc : it_Kc) (Φ : Int32 → it_Me → Prop) (m : it_Me) (h : w_314_173 kc Φ m) : it_V kc it_sh0 314 173 [some (.ref 66), none, none] [] m (it_Pi Φ) := by
  rw [w_314_173] at h
  refine it_V.sN it_cd314 it_m314 2 (pc1 := 177) (ls1 := [some (.ref 66), none, none]) (st1 := [(.int (m 66 70))]) (mem1 := m) rfl ?_
  exact it_V.ret it_cd314 it_m314 rfl rfl ⟨_, rfl, h⟩
set_option maxRecDepth 100000 in
set_option maxHeartbeats 4000000 in
theorem s_314_121 (kc : it_Kc) (Φ : Int32 → it_Me → Prop) (v2 : Int32) (m : it_Me) (h : w_314_121 kc Φ v2 m) : it_V kc it_sh0 314 121 [some (.ref 66), none, some (.int v2)] [] m (it_Pi Φ) := by
  rw [w_314_121] at h
  refine it_V.sN it_cd314 it_m314 2 (pc1 := 123) (ls1 := [some (.ref 66), none, some (.int v2)]) (st1 := [(.int v2), (.ref 66)]) (mem1 := m) rfl ?_
  refine it_V.call it_cd314 it_m314 rfl it_m313 [(.ref 66), (.int v2)] [] rfl rfl ⟨Nat.le_of_ble_eq_true rfl, Nat.le_of_ble_eq_true rfl, Nat.le_of_ble_eq_true rfl, Nat.le_of_ble_eq_true rfl, rfl⟩ (s_313 kc v2 m _ h) ?_
  rintro _ m1 ⟨rfl, h⟩
  refine it_V.at (pc1 := 126) (ls1 := [some (.ref 66), none, some (.int v2)]) (st1 := []) (mem1 := m1) rfl rfl rfl rfl ?_
  refine it_V.sN it_cd314 it_m314 1 (pc1 := 173) (ls1 := [some (.ref 66), none, some (.int v2)]) (st1 := []) (mem1 := m1) rfl ?_
  refine it_V.weak (l := [some (.ref 66), none, none]) ⟨rfl, trivial⟩ ?_
  exact s_314_173 kc Φ m1 h
set_option maxRecDepth 100000 in
set_option maxHeartbeats 4000000 in
theorem s_314_100 (kc : it_Kc) (Φ : Int32 → it_Me → Prop) (u0 : Int32) (m : it_Me) (h : w_314_100 kc Φ u0 m) : it_V kc it_sh0 314 100 [some (.ref 66), none, none] [(.int u0)] m (it_Pi Φ) := by
  rw [w_314_100] at h
  refine it_V.sN it_cd314 it_m314 1 (pc1 := 101) (ls1 := [some (.ref 66), none, some (.int u0)]) (st1 := []) (mem1 := m) rfl ?_
  refine it_V.weak (l := [some (.ref 66), none, some (.int u0)]) ⟨rfl, ⟨rfl, trivial⟩⟩ ?_
  obtain ⟨n, h⟩ := h
  exact s_314_101 kc Φ _ (fun v2 m h => s_314_121 kc Φ v2 m h) n u0 m h
set_option maxRecDepth 100000 in
set_option maxHeartbeats 4000000 in
theorem s_314_77 (kc : it_Kc) (Φ : Int32 → it_Me → Prop) (m : it_Me) (h : w_314_77 kc Φ m) : it_V kc it_sh0 314 77 [some (.ref 66), none, none] [] m (it_Pi Φ) := by
  rw [w_314_77] at h
  refine it_V.sN it_cd314 it_m314 4 (pc1 := (if (m 66 70) = (-1 : Int32) then 85 else 89)) (ls1 := [some (.ref 66), none, none]) (st1 := []) (mem1 := m) rfl ?_
  refine it_V.ite (fun c1 => ?_) (fun c1 => ?_)
  · have h := h.1 c1
    refine it_V.sN it_cd314 it_m314 2 (pc1 := 100) (ls1 := [some (.ref 66), none, none]) (st1 := [(.int (0 : Int32))]) (mem1 := m) rfl ?_
    refine it_V.weak (l := [some (.ref 66), none, none]) ⟨rfl, trivial⟩ ?_
    exact s_314_100 kc Φ (0 : Int32) m h
  · have h := h.2 c1
    refine it_V.sN it_cd314 it_m314 6 (pc1 := 99) (ls1 := [some (.ref 66), none, none]) (st1 := [(.int (m 66 34)), (.int ((m 66 70) + (1 : Int32)))]) (mem1 := m) rfl ?_
    obtain ⟨g2, h⟩ := h
    refine it_V.s1 it_cd314 it_m314 (pc1 := 100) (ls1 := [some (.ref 66), none, none]) (st1 := [(.int (it_rem ((m 66 70) + (1 : Int32)) (m 66 34)))]) (mem1 := m) (by simp only [it_s1, show it_lk it_c314 99 = some (0, .irem, 0, 0) from rfl, it_ops, if_neg g2]; rfl) ?_
    refine it_V.weak (l := [some (.ref 66), none, none]) ⟨rfl, trivial⟩ ?_
    exact s_314_100 kc Φ (it_rem ((m 66 70) + (1 : Int32)) (m 66 34)) m h
set_option maxRecDepth 100000 in
set_option maxHeartbeats 4000000 in
theorem s_314_166 (kc : it_Kc) (Φ : Int32 → it_Me → Prop) (m : it_Me) (h : w_314_166 kc Φ m) : it_V kc it_sh0 314 166 [some (.ref 66), none, none] [] m (it_Pi Φ) := by
  rw [w_314_166] at h
  refine it_V.sN it_cd314 it_m314 1 (pc1 := 173) (ls1 := [some (.ref 66), none, none]) (st1 := []) (mem1 := m) rfl ?_
  refine it_V.weak (l := [some (.ref 66), none, none]) ⟨rfl, trivial⟩ ?_
  exact s_314_173 kc Φ m h
set_option maxRecDepth 100000 in
set_option maxHeartbeats 4000000 in
theorem s_314_153 (kc : it_Kc) (Φ : Int32 → it_Me → Prop) (v2 : Int32) (m : it_Me) (h : w_314_153 kc Φ v2 m) : it_V kc it_sh0 314 153 [some (.ref 66), none, some (.int v2)] [] m (it_Pi Φ) := by
  rw [w_314_153] at h
  refine it_V.sN it_cd314 it_m314 4 (pc1 := (if v2 = (m 66 70) then 166 else 161)) (ls1 := [some (.ref 66), none, some (.int v2)]) (st1 := []) (mem1 := m) rfl ?_
  refine it_V.ite (fun c1 => ?_) (fun c1 => ?_)
  · have h := h.1 c1
    refine it_V.weak (l := [some (.ref 66), none, none]) ⟨rfl, trivial⟩ ?_
    exact s_314_166 kc Φ m h
  · have h := h.2 c1
    refine it_V.sN it_cd314 it_m314 2 (pc1 := 163) (ls1 := [some (.ref 66), none, some (.int v2)]) (st1 := [(.int v2), (.ref 66)]) (mem1 := m) rfl ?_
    refine it_V.call it_cd314 it_m314 rfl it_m313 [(.ref 66), (.int v2)] [] rfl rfl ⟨Nat.le_of_ble_eq_true rfl, Nat.le_of_ble_eq_true rfl, Nat.le_of_ble_eq_true rfl, Nat.le_of_ble_eq_true rfl, rfl⟩ (s_313 kc v2 m _ h) ?_
    rintro _ m2 ⟨rfl, h⟩
    refine it_V.at (pc1 := 166) (ls1 := [some (.ref 66), none, some (.int v2)]) (st1 := []) (mem1 := m2) rfl rfl rfl rfl ?_
    refine it_V.weak (l := [some (.ref 66), none, none]) ⟨rfl, trivial⟩ ?_
    exact s_314_166 kc Φ m2 h
set_option maxRecDepth 100000 in
set_option maxHeartbeats 4000000 in
theorem s_314_34 (kc : it_Kc) (Φ : Int32 → it_Me → Prop) (v1 : Int32) (m : it_Me) (h : w_314_34 kc Φ v1 m) : it_V kc it_sh0 314 34 [some (.ref 66), some (.int v1), none] [] m (it_Pi Φ) := by
  rw [w_314_34] at h
  refine it_V.sN it_cd314 it_m314 2 (pc1 := (if v1 = 0 then 38 else 40)) (ls1 := [some (.ref 66), some (.int v1), none]) (st1 := []) (mem1 := m) rfl ?_
  refine it_V.ite (fun c1 => ?_) (fun c1 => ?_)
  · have h := h.1 c1
    refine it_V.sN it_cd314 it_m314 1 (pc1 := 39) (ls1 := [some (.ref 66), some (.int v1), none]) (st1 := [(.int (-1 : Int32))]) (mem1 := m) rfl ?_
    exact it_V.ret it_cd314 it_m314 rfl rfl ⟨_, rfl, h⟩
  · have h := h.2 c1
    refine it_V.sN it_cd314 it_m314 3 (pc1 := (if (m 66 7) = 0 then 47 else 129)) (ls1 := [some (.ref 66), some (.int v1), none]) (st1 := []) (mem1 := m) rfl ?_
    refine it_V.ite (fun c2 => ?_) (fun c2 => ?_)
    · have h := h.1 c2
      refine it_V.sN it_cd314 it_m314 4 (pc1 := (if (m 66 70) = (-1 : Int32) then 77 else 55)) (ls1 := [some (.ref 66), some (.int v1), none]) (st1 := []) (mem1 := m) rfl ?_
      refine it_V.ite (fun c3 => ?_) (fun c3 => ?_)
      · have h := h.1 c3
        refine it_V.weak (l := [some (.ref 66), none, none]) ⟨rfl, trivial⟩ ?_
        exact s_314_77 kc Φ m h
      · have h := h.2 c3
        refine it_V.sN it_cd314 it_m314 3 (pc1 := 60) (ls1 := [some (.ref 66), some (.int v1), none]) (st1 := [(.int (m 66 70)), (.ref 66)]) (mem1 := m) rfl ?_
        refine it_V.call it_cd314 it_m314 rfl it_m312 [(.ref 66), (.int (m 66 70))] [] rfl rfl ⟨Nat.le_of_ble_eq_true rfl, Nat.le_of_ble_eq_true rfl, Nat.le_of_ble_eq_true rfl, Nat.le_of_ble_eq_true rfl, rfl⟩ (s_312 kc (m 66 70) m _ h) ?_
        rintro _ m5 ⟨r4, rfl, h⟩
        refine it_V.at (pc1 := 63) (ls1 := [some (.ref 66), some (.int v1), none]) (st1 := [(.int r4)]) (mem1 := m5) rfl rfl rfl rfl ?_
        refine it_V.sN it_cd314 it_m314 1 (pc1 := (if r4 = 0 then 77 else 66)) (ls1 := [some (.ref 66), some (.int v1), none]) (st1 := []) (mem1 := m5) rfl ?_
        refine it_V.ite (fun c6 => ?_) (fun c6 => ?_)
        · have h := h.1 c6
          refine it_V.weak (l := [some (.ref 66), none, none]) ⟨rfl, trivial⟩ ?_
          exact s_314_77 kc Φ m5 h
        · have h := h.2 c6
          refine it_V.sN it_cd314 it_m314 5 (pc1 := (if (m5 66 71) < (m5 66 8) then 173 else 77)) (ls1 := [some (.ref 66), some (.int v1), none]) (st1 := []) (mem1 := m5) rfl ?_
          refine it_V.ite (fun c7 => ?_) (fun c7 => ?_)
          · have h := h.1 c7
            refine it_V.weak (l := [some (.ref 66), none, none]) ⟨rfl, trivial⟩ ?_
            exact s_314_173 kc Φ m5 h
          · have h := h.2 c7
            refine it_V.weak (l := [some (.ref 66), none, none]) ⟨rfl, trivial⟩ ?_
            exact s_314_77 kc Φ m5 h
    · have h := h.2 c2
      refine it_V.sN it_cd314 it_m314 4 (pc1 := (if (m 66 7) = (1 : Int32) then 137 else 169)) (ls1 := [some (.ref 66), some (.int v1), none]) (st1 := []) (mem1 := m) rfl ?_
      refine it_V.ite (fun c8 => ?_) (fun c8 => ?_)
      · have h := h.1 c8
        refine it_V.sN it_cd314 it_m314 2 (pc1 := 139) (ls1 := [some (.ref 66), some (.int v1), some (.int (0 : Int32))]) (st1 := []) (mem1 := m) rfl ?_
        refine it_V.weak (l := [some (.ref 66), none, some (.int (0 : Int32))]) ⟨rfl, ⟨rfl, trivial⟩⟩ ?_
        obtain ⟨n, h⟩ := h
        exact s_314_139 kc Φ _ (fun v2 m h => s_314_153 kc Φ v2 m h) n (0 : Int32) m h
      · have h := h.2 c8
        refine it_V.sN it_cd314 it_m314 1 (pc1 := 170) (ls1 := [some (.ref 66), some (.int v1), none]) (st1 := [(.ref 66)]) (mem1 := m) rfl ?_
        refine it_V.call it_cd314 it_m314 rfl it_m315 [(.ref 66)] [] rfl rfl ⟨Nat.le_of_ble_eq_true rfl, Nat.le_of_ble_eq_true rfl, Nat.le_of_ble_eq_true rfl, Nat.le_of_ble_eq_true rfl, rfl⟩ (s_315 kc m _ h) ?_
        rintro _ m9 ⟨rfl, h⟩
        refine it_V.at (pc1 := 173) (ls1 := [some (.ref 66), some (.int v1), none]) (st1 := []) (mem1 := m9) rfl rfl rfl rfl ?_
        refine it_V.weak (l := [some (.ref 66), none, none]) ⟨rfl, trivial⟩ ?_
        exact s_314_173 kc Φ m9 h
set_option maxRecDepth 100000 in
set_option maxHeartbeats 4000000 in
theorem s_314 (kc : it_Kc) (m : it_Me) (Φ : Int32 → it_Me → Prop) (h : w_314 kc m Φ) : it_V kc it_sh0 314 0 (it_loc0 [(.ref 66)] 3) [] m (it_Pi Φ) := by
  rw [w_314] at h
  refine it_V.at (pc1 := 0) (ls1 := [some (.ref 66), none, none]) (st1 := []) (mem1 := m) rfl rfl rfl rfl ?_
  refine it_V.sN it_cd314 it_m314 4 (pc1 := 4) (ls1 := [some (.ref 66), some (.int (0 : Int32)), some (.int (0 : Int32))]) (st1 := []) (mem1 := m) rfl ?_
  obtain ⟨n, h⟩ := h
  exact s_314_4 kc Φ _ (fun v1 m h => s_314_34 kc Φ v1 m h) n (0 : Int32) (0 : Int32) m h
set_option maxRecDepth 100000 in
set_option maxHeartbeats 4000000 in
theorem s_318 (kc : it_Kc) (x0 : Int32) (x1 : Int32) (m : it_Me) (Φ : Int32 → it_Me → Prop) (h : w_318 kc x0 x1 m Φ) : it_V kc it_sh0 318 0 (it_loc0 [(.ref 66), (.int x0), (.int x1)] 3) [] m (it_Pi Φ) := by
  rw [w_318] at h
  refine it_V.at (pc1 := 0) (ls1 := [some (.ref 66), some (.int x0), some (.int x1)]) (st1 := []) (mem1 := m) rfl rfl rfl rfl ?_
  refine it_V.sN it_cd318 it_m318 7 (pc1 := 10) (ls1 := [some (.ref 66), some (.int x0), some (.int x1)]) (st1 := [(.int (((32 : Int32) * x0) + x1)), (.ref 93)]) (mem1 := m) rfl ?_
  obtain ⟨g1, h⟩ := h
  refine it_V.iald it_cd318 it_m318 rfl ((⟨rfl, by decide⟩ : it_isR 93 256)).2 ((⟨rfl, by decide⟩ : it_isR 93 256)).1 g1 ?_
  refine it_V.at (pc1 := 11) (ls1 := [some (.ref 66), some (.int x0), some (.int x1)]) (st1 := [(.int (m 93 (Int32.toNatClampNeg (((32 : Int32) * x0) + x1))))]) (mem1 := m) rfl rfl rfl rfl ?_
  exact it_V.ret it_cd318 it_m318 rfl rfl ⟨_, rfl, h⟩
set_option maxRecDepth 100000 in
set_option maxHeartbeats 4000000 in
theorem s_319_16 (kc : it_Kc) (Φ : it_Me → Prop) (m : it_Me) (h : w_319_16 kc Φ m) : it_V kc it_sh0 319 16 [none, none, none, none] [] m (it_Pv Φ) := by
  rw [w_319_16] at h
  exact it_V.ret it_cd319 it_m319 rfl rfl ⟨rfl, h⟩
set_option maxRecDepth 100000 in
set_option maxHeartbeats 4000000 in
theorem s_319 (kc : it_Kc) (x0 : Int32) (x1 : Int32) (x2 : Int32) (m : it_Me) (Φ : it_Me → Prop) (h : w_319 kc x0 x1 x2 m Φ) : it_V kc it_sh0 319 0 (it_loc0 [(.ref 66), (.int x0), (.int x1), (.int x2)] 4) [] m (it_Pv Φ) := by
  rw [w_319] at h
  refine it_V.at (pc1 := 0) (ls1 := [some (.ref 66), some (.int x0), some (.int x1), some (.int x2)]) (st1 := []) (mem1 := m) rfl rfl rfl rfl ?_
  refine it_V.sN it_cd319 it_m319 2 (pc1 := (if x1 = 0 then 16 else 4)) (ls1 := [some (.ref 66), some (.int x0), some (.int x1), some (.int x2)]) (st1 := []) (mem1 := m) rfl ?_
  refine it_V.ite (fun c1 => ?_) (fun c1 => ?_)
  · have h := h.1 c1
    refine it_V.weak (l := [none, none, none, none]) trivial ?_
    exact s_319_16 kc Φ m h
  · have h := h.2 c1
    refine it_V.sN it_cd319 it_m319 8 (pc1 := 15) (ls1 := [some (.ref 66), some (.int x0), some (.int x1), some (.int x2)]) (st1 := [(.int x2), (.int (((32 : Int32) * x0) + x1)), (.ref 93)]) (mem1 := m) rfl ?_
    obtain ⟨g2, h⟩ := h
    refine it_V.iast it_cd319 it_m319 rfl ((⟨rfl, by decide⟩ : it_isR 93 256)).1 g2 ?_
    refine it_V.at (pc1 := 16) (ls1 := [some (.ref 66), some (.int x0), some (.int x1), some (.int x2)]) (st1 := []) (mem1 := (it_sv m 93 (Int32.toNatClampNeg (((32 : Int32) * x0) + x1)) x2)) rfl rfl rfl rfl ?_
    refine it_V.weak (l := [none, none, none, none]) trivial ?_
    exact s_319_16 kc Φ (it_sv m 93 (Int32.toNatClampNeg (((32 : Int32) * x0) + x1)) x2) h
set_option maxRecDepth 100000 in
set_option maxHeartbeats 4000000 in
theorem s_321 (kc : it_Kc) (x0 : Int32) (x1 : Int32) (m : it_Me) (Φ : it_Me → Prop) (h : w_321 kc x0 x1 m Φ) : it_V kc it_sh0 321 0 (it_loc0 [(.ref 66), (.int x0), (.int x1)] 3) [] m (it_Pv Φ) := by
  rw [w_321] at h
  refine it_V.at (pc1 := 0) (ls1 := [some (.ref 66), some (.int x0), some (.int x1)]) (st1 := []) (mem1 := m) rfl rfl rfl rfl ?_
  refine it_V.sN it_cd321 it_m321 4 (pc1 := 4) (ls1 := [some (.ref 66), some (.int x0), some (.int x1)]) (st1 := [(.int x1), (.int (2 : Int32)), (.int x0), (.ref 66)]) (mem1 := m) rfl ?_
  refine it_V.call it_cd321 it_m321 rfl it_m258 [(.ref 66), (.int x0), (.int (2 : Int32)), (.int x1)] [] rfl rfl ⟨Nat.le_of_ble_eq_true rfl, Nat.le_of_ble_eq_true rfl, Nat.le_of_ble_eq_true rfl, Nat.le_of_ble_eq_true rfl, rfl⟩ (s_258 kc x0 (2 : Int32) x1 m _ h) ?_
  rintro _ m1 ⟨rfl, h⟩
  refine it_V.at (pc1 := 7) (ls1 := [some (.ref 66), some (.int x0), some (.int x1)]) (st1 := []) (mem1 := m1) rfl rfl rfl rfl ?_
  exact it_V.ret it_cd321 it_m321 rfl rfl ⟨rfl, h⟩
set_option maxRecDepth 100000 in
set_option maxHeartbeats 4000000 in
theorem s_323 (kc : it_Kc) (x0 : Int32) (x1 : Int32) (x2 : Int32) (m : it_Me) (Φ : it_Me → Prop) (h : w_323 kc x0 x1 x2 m Φ) : it_V kc it_sh0 323 0 (it_loc0 [(.ref 66), (.int x0), (.int x1), (.int x2)] 4) [] m (it_Pv Φ) := by
  rw [w_323] at h
  refine it_V.at (pc1 := 0) (ls1 := [some (.ref 66), some (.int x0), some (.int x1), some (.int x2)]) (st1 := []) (mem1 := m) rfl rfl rfl rfl ?_
  refine it_V.sN it_cd323 it_m323 4 (pc1 := 4) (ls1 := [some (.ref 66), some (.int x0), some (.int x1), some (.int x2)]) (st1 := [(.int x2), (.int x1), (.int x0), (.ref 66)]) (mem1 := m) rfl ?_
  refine it_V.call it_cd323 it_m323 rfl it_m319 [(.ref 66), (.int x0), (.int x1), (.int x2)] [] rfl rfl ⟨Nat.le_of_ble_eq_true rfl, Nat.le_of_ble_eq_true rfl, Nat.le_of_ble_eq_true rfl, Nat.le_of_ble_eq_true rfl, rfl⟩ (s_319 kc x0 x1 x2 m _ h) ?_
  rintro _ m1 ⟨rfl, h⟩
  refine it_V.at (pc1 := 7) (ls1 := [some (.ref 66), some (.int x0), some (.int x1), some (.int x2)]) (st1 := []) (mem1 := m1) rfl rfl rfl rfl ?_
  refine it_V.sN it_cd323 it_m323 4 (pc1 := 13) (ls1 := [some (.ref 66), some (.int x0), some (.int x1), some (.int x2)]) (st1 := [(.int x0), (.ref 94), (.int x0), (.ref 94)]) (mem1 := m1) rfl ?_
  obtain ⟨g2, h⟩ := h
  refine it_V.iald it_cd323 it_m323 rfl ((⟨rfl, by decide⟩ : it_isR 94 8)).2 ((⟨rfl, by decide⟩ : it_isR 94 8)).1 g2 ?_
  refine it_V.at (pc1 := 14) (ls1 := [some (.ref 66), some (.int x0), some (.int x1), some (.int x2)]) (st1 := [(.int (m1 94 (Int32.toNatClampNeg x0))), (.int x0), (.ref 94)]) (mem1 := m1) rfl rfl rfl rfl ?_
  refine it_V.sN it_cd323 it_m323 2 (pc1 := 16) (ls1 := [some (.ref 66), some (.int x0), some (.int x1), some (.int x2)]) (st1 := [(.int ((m1 94 (Int32.toNatClampNeg x0)) + (4 : Int32))), (.int x0), (.ref 94)]) (mem1 := m1) rfl ?_
  obtain ⟨g3, h⟩ := h
  refine it_V.iast it_cd323 it_m323 rfl ((⟨rfl, by decide⟩ : it_isR 94 8)).1 g3 ?_
  refine it_V.at (pc1 := 17) (ls1 := [some (.ref 66), some (.int x0), some (.int x1), some (.int x2)]) (st1 := []) (mem1 := (it_sv m1 94 (Int32.toNatClampNeg x0) ((m1 94 (Int32.toNatClampNeg x0)) + (4 : Int32)))) rfl rfl rfl rfl ?_
  exact it_V.ret it_cd323 it_m323 rfl rfl ⟨rfl, h⟩
set_option maxRecDepth 100000 in
set_option maxHeartbeats 4000000 in
theorem s_324_10 (kc : it_Kc) (Φ : it_Me → Prop) (v1 : Int32) (v2 : Int32) (m : it_Me) (h : w_324_10 kc Φ v1 v2 m) : it_V kc it_sh0 324 10 [some (.ref 66), some (.int v1), some (.int v2), none, none, none, none, none] [] m (it_Pv Φ) := by
  rw [w_324_10] at h
  refine it_V.sN it_cd324 it_m324 3 (pc1 := 13) (ls1 := [some (.ref 66), some (.int v1), some (.int v2), none, none, none, none, none]) (st1 := [(.int v2), (.int v1), (.ref 66)]) (mem1 := m) rfl ?_
  refine it_V.call it_cd324 it_m324 rfl it_m321 [(.ref 66), (.int v1), (.int v2)] [] rfl rfl ⟨Nat.le_of_ble_eq_true rfl, Nat.le_of_ble_eq_true rfl, Nat.le_of_ble_eq_true rfl, Nat.le_of_ble_eq_true rfl, rfl⟩ (s_321 kc v1 v2 m _ h) ?_
  rintro _ m1 ⟨rfl, h⟩
  refine it_V.at (pc1 := 16) (ls1 := [some (.ref 66), some (.int v1), some (.int v2), none, none, none, none, none]) (st1 := []) (mem1 := m1) rfl rfl rfl rfl ?_
  exact it_V.ret it_cd324 it_m324 rfl rfl ⟨rfl, h⟩
set_option maxRecDepth 100000 in
set_option maxHeartbeats 4000000 in
theorem s_324_137 (kc : it_Kc) (Φ : it_Me → Prop) (u1 : Int32) (u2 : Int32) (u3 : Int32) (m : it_Me) (h : w_324_137 kc Φ u1 u2 u3 m) : it_V kc it_sh0 324 137 [none, none, none, none, none, none, none, none] [(.int u3), (.int u2), (.int u1), (.ref 94)] m (it_Pv Φ) := by
  rw [w_324_137] at h
  refine it_V.sN it_cd324 it_m324 1 (pc1 := 138) (ls1 := [none, none, none, none, none, none, none, none]) (st1 := [(.int (u2 + u3)), (.int u1), (.ref 94)]) (mem1 := m) rfl ?_
  obtain ⟨g1, h⟩ := h
  refine it_V.iast it_cd324 it_m324 rfl ((⟨rfl, by decide⟩ : it_isR 94 8)).1 g1 ?_
  refine it_V.at (pc1 := 139) (ls1 := [none, none, none, none, none, none, none, none]) (st1 := []) (mem1 := (it_sv m 94 (Int32.toNatClampNeg u1) (u2 + u3))) rfl rfl rfl rfl ?_
  exact it_V.ret it_cd324 it_m324 rfl rfl ⟨rfl, h⟩
set_option maxRecDepth 100000 in
set_option maxHeartbeats 4000000 in
theorem s_324_128 (kc : it_Kc) (Φ : it_Me → Prop) (v7 : Int32) (u1 : Int32) (u2 : Int32) (u3 : Int32) (u4 : Int32) (m : it_Me) (h : w_324_128 kc Φ v7 u1 u2 u3 u4 m) : it_V kc it_sh0 324 128 [none, none, none, none, none, none, none, some (.int v7)] [(.int u4), (.int u3), (.int u2), (.int u1), (.ref 94)] m (it_Pv Φ) := by
  rw [w_324_128] at h
  refine it_V.sN it_cd324 it_m324 1 (pc1 := (if u3 = u4 then 136 else 131)) (ls1 := [none, none, none, none, none, none, none, some (.int v7)]) (st1 := [(.int u2), (.int u1), (.ref 94)]) (mem1 := m) rfl ?_
  refine it_V.ite (fun c1 => ?_) (fun c1 => ?_)
  · have h := h.1 c1
    refine it_V.sN it_cd324 it_m324 1 (pc1 := 137) (ls1 := [none, none, none, none, none, none, none, some (.int v7)]) (st1 := [(.int (4 : Int32)), (.int u2), (.int u1), (.ref 94)]) (mem1 := m) rfl ?_
    refine it_V.weak (l := [none, none, none, none, none, none, none, none]) trivial ?_
    exact s_324_137 kc Φ u1 u2 (4 : Int32) m h
  · have h := h.2 c1
    refine it_V.sN it_cd324 it_m324 2 (pc1 := 137) (ls1 := [none, none, none, none, none, none, none, some (.int v7)]) (st1 := [(.int v7), (.int u2), (.int u1), (.ref 94)]) (mem1 := m) rfl ?_
    refine it_V.weak (l := [none, none, none, none, none, none, none, none]) trivial ?_
    exact s_324_137 kc Φ u1 u2 v7 m h
set_option maxRecDepth 100000 in
set_option maxHeartbeats 4000000 in
theorem s_324_66 (kc : it_Kc) (Φ : it_Me → Prop) (v1 : Int32) (v2 : Int32) (v3 : Int32) (u0 : Int32) (m : it_Me) (h : w_324_66 kc Φ v1 v2 v3 u0 m) : it_V kc it_sh0 324 66 [some (.ref 66), some (.int v1), some (.int v2), some (.int v3), none, none, none, none] [(.int u0)] m (it_Pv Φ) := by
  rw [w_324_66] at h
  refine it_V.sN it_cd324 it_m324 35 (pc1 := 113) (ls1 := [some (.ref 66), some (.int v1), some (.int v2), some (.int v3), none, none, some (.int u0), some (.int ((((it_shl (it_shr v2 (31 : Int32)) (12 : Int32)) ||| (it_shl ((it_us v2 (7 : Int32)) &&& (1 : Int32)) (11 : Int32))) ||| (it_shl ((it_us v2 (25 : Int32)) &&& (63 : Int32)) (5 : Int32))) ||| (it_shl ((it_us v2 (8 : Int32)) &&& (15 : Int32)) (1 : Int32))))]) (st1 := [(.int v1), (.ref 94), (.int v1), (.ref 94)]) (mem1 := m) rfl ?_
  obtain ⟨g1, h⟩ := h
  refine it_V.iald it_cd324 it_m324 rfl ((⟨rfl, by decide⟩ : it_isR 94 8)).2 ((⟨rfl, by decide⟩ : it_isR 94 8)).1 g1 ?_
  refine it_V.at (pc1 := 114) (ls1 := [some (.ref 66), some (.int v1), some (.int v2), some (.int v3), none, none, some (.int u0), some (.int ((((it_shl (it_shr v2 (31 : Int32)) (12 : Int32)) ||| (it_shl ((it_us v2 (7 : Int32)) &&& (1 : Int32)) (11 : Int32))) ||| (it_shl ((it_us v2 (25 : Int32)) &&& (63 : Int32)) (5 : Int32))) ||| (it_shl ((it_us v2 (8 : Int32)) &&& (15 : Int32)) (1 : Int32))))]) (st1 := [(.int (m 94 (Int32.toNatClampNeg v1))), (.int v1), (.ref 94)]) (mem1 := m) rfl rfl rfl rfl ?_
  refine it_V.sN it_cd324 it_m324 6 (pc1 := (if (v3 &&& (1 : Int32)) = (1 : Int32) then 123 else 127)) (ls1 := [some (.ref 66), some (.int v1), some (.int v2), some (.int v3), none, none, some (.int u0), some (.int ((((it_shl (it_shr v2 (31 : Int32)) (12 : Int32)) ||| (it_shl ((it_us v2 (7 : Int32)) &&& (1 : Int32)) (11 : Int32))) ||| (it_shl ((it_us v2 (25 : Int32)) &&& (63 : Int32)) (5 : Int32))) ||| (it_shl ((it_us v2 (8 : Int32)) &&& (15 : Int32)) (1 : Int32))))]) (st1 := [(.int u0), (.int (m 94 (Int32.toNatClampNeg v1))), (.int v1), (.ref 94)]) (mem1 := m) rfl ?_
  refine it_V.ite (fun c2 => ?_) (fun c2 => ?_)
  · have h := h.1 c2
    refine it_V.sN it_cd324 it_m324 2 (pc1 := 128) (ls1 := [some (.ref 66), some (.int v1), some (.int v2), some (.int v3), none, none, some (.int u0), some (.int ((((it_shl (it_shr v2 (31 : Int32)) (12 : Int32)) ||| (it_shl ((it_us v2 (7 : Int32)) &&& (1 : Int32)) (11 : Int32))) ||| (it_shl ((it_us v2 (25 : Int32)) &&& (63 : Int32)) (5 : Int32))) ||| (it_shl ((it_us v2 (8 : Int32)) &&& (15 : Int32)) (1 : Int32))))]) (st1 := [(.int (1 : Int32)), (.int u0), (.int (m 94 (Int32.toNatClampNeg v1))), (.int v1), (.ref 94)]) (mem1 := m) rfl ?_
    refine it_V.weak (l := [none, none, none, none, none, none, none, some (.int ((((it_shl (it_shr v2 (31 : Int32)) (12 : Int32)) ||| (it_shl ((it_us v2 (7 : Int32)) &&& (1 : Int32)) (11 : Int32))) ||| (it_shl ((it_us v2 (25 : Int32)) &&& (63 : Int32)) (5 : Int32))) ||| (it_shl ((it_us v2 (8 : Int32)) &&& (15 : Int32)) (1 : Int32))))]) ⟨rfl, trivial⟩ ?_
    exact s_324_128 kc Φ ((((it_shl (it_shr v2 (31 : Int32)) (12 : Int32)) ||| (it_shl ((it_us v2 (7 : Int32)) &&& (1 : Int32)) (11 : Int32))) ||| (it_shl ((it_us v2 (25 : Int32)) &&& (63 : Int32)) (5 : Int32))) ||| (it_shl ((it_us v2 (8 : Int32)) &&& (15 : Int32)) (1 : Int32))) v1 (m 94 (Int32.toNatClampNeg v1)) u0 (1 : Int32) m h
  · have h := h.2 c2
    refine it_V.sN it_cd324 it_m324 1 (pc1 := 128) (ls1 := [some (.ref 66), some (.int v1), some (.int v2), some (.int v3), none, none, some (.int u0), some (.int ((((it_shl (it_shr v2 (31 : Int32)) (12 : Int32)) ||| (it_shl ((it_us v2 (7 : Int32)) &&& (1 : Int32)) (11 : Int32))) ||| (it_shl ((it_us v2 (25 : Int32)) &&& (63 : Int32)) (5 : Int32))) ||| (it_shl ((it_us v2 (8 : Int32)) &&& (15 : Int32)) (1 : Int32))))]) (st1 := [(.int (0 : Int32)), (.int u0), (.int (m 94 (Int32.toNatClampNeg v1))), (.int v1), (.ref 94)]) (mem1 := m) rfl ?_
    refine it_V.weak (l := [none, none, none, none, none, none, none, some (.int ((((it_shl (it_shr v2 (31 : Int32)) (12 : Int32)) ||| (it_shl ((it_us v2 (7 : Int32)) &&& (1 : Int32)) (11 : Int32))) ||| (it_shl ((it_us v2 (25 : Int32)) &&& (63 : Int32)) (5 : Int32))) ||| (it_shl ((it_us v2 (8 : Int32)) &&& (15 : Int32)) (1 : Int32))))]) ⟨rfl, trivial⟩ ?_
    exact s_324_128 kc Φ ((((it_shl (it_shr v2 (31 : Int32)) (12 : Int32)) ||| (it_shl ((it_us v2 (7 : Int32)) &&& (1 : Int32)) (11 : Int32))) ||| (it_shl ((it_us v2 (25 : Int32)) &&& (63 : Int32)) (5 : Int32))) ||| (it_shl ((it_us v2 (8 : Int32)) &&& (15 : Int32)) (1 : Int32))) v1 (m 94 (Int32.toNatClampNeg v1)) u0 (0 : Int32) m h
set_option maxRecDepth 100000 in
set_option maxHeartbeats 4000000 in
theorem s_324 (kc : it_Kc) (x0 : Int32) (x1 : Int32) (x2 : Int32) (x3 : Int32) (x4 : Int32) (m : it_Me) (Φ : it_Me → Prop) (h : w_324 kc x0 x1 x2 x3 x4 m Φ) : it_V kc it_sh0 324 0 (it_loc0 [(.ref 66), (.int x0), (.int x1), (.int x2), (.int x3), (.int x4)] 8) [] m (it_Pv Φ) := by
  rw [w_324] at h
  refine it_V.at (pc1 := 0) (ls1 := [some (.ref 66), some (.int x0), some (.int x1), some (.int x2), some (.int x3), some (.int x4), none, none]) (st1 := []) (mem1 := m) rfl rfl rfl rfl ?_
  refine it_V.sN it_cd324 it_m324 3 (pc1 := (if x2 = (2 : Int32) then 10 else 5)) (ls1 := [some (.ref 66), some (.int x0), some (.int x1), some (.int x2), some (.int x3), some (.int x4), none, none]) (st1 := []) (mem1 := m) rfl ?_
  refine it_V.ite (fun c1 => ?_) (fun c1 => ?_)
  · have h := h.1 c1
    refine it_V.weak (l := [some (.ref 66), some (.int x0), some (.int x1), none, none, none, none, none]) ⟨rfl, ⟨rfl, ⟨rfl, trivial⟩⟩⟩ ?_
    exact s_324_10 kc Φ x0 x1 m h
  · have h := h.2 c1
    refine it_V.sN it_cd324 it_m324 3 (pc1 := (if x2 = (3 : Int32) then 10 else 17)) (ls1 := [some (.ref 66), some (.int x0), some (.int x1), some (.int x2), some (.int x3), some (.int x4), none, none]) (st1 := []) (mem1 := m) rfl ?_
    refine it_V.ite (fun c2 => ?_) (fun c2 => ?_)
    · have h := h.1 c2
      refine it_V.weak (l := [some (.ref 66), some (.int x0), some (.int x1), none, none, none, none, none]) ⟨rfl, ⟨rfl, ⟨rfl, trivial⟩⟩⟩ ?_
      exact s_324_10 kc Φ x0 x1 m h
    · have h := h.2 c2
      refine it_V.sN it_cd324 it_m324 3 (pc1 := (if (2 : Int32) ≤ x2 then 37 else 22)) (ls1 := [some (.ref 66), some (.int x0), some (.int x1), some (.int x2), some (.int x3), some (.int x4), none, none]) (st1 := []) (mem1 := m) rfl ?_
      refine it_V.ite (fun c3 => ?_) (fun c3 => ?_)
      · have h := h.1 c3
        refine it_V.sN it_cd324 it_m324 3 (pc1 := (if (6 : Int32) ≤ x2 then 58 else 43)) (ls1 := [some (.ref 66), some (.int x0), some (.int x1), some (.int x2), some (.int x3), some (.int x4), none, none]) (st1 := []) (mem1 := m) rfl ?_
        refine it_V.ite (fun c4 => ?_) (fun c4 => ?_)
        · have h := h.1 c4
          refine it_V.sN it_cd324 it_m324 3 (pc1 := 63) (ls1 := [some (.ref 66), some (.int x0), some (.int x1), some (.int x2), some (.int x3), some (.int x4), none, none]) (st1 := [(.int x4), (.int x3), (.ref 66)]) (mem1 := m) rfl ?_
          refine it_V.call it_cd324 it_m324 rfl it_m247 [(.ref 66), (.int x3), (.int x4)] [] rfl rfl ⟨Nat.le_of_ble_eq_true rfl, Nat.le_of_ble_eq_true rfl, Nat.le_of_ble_eq_true rfl, Nat.le_of_ble_eq_true rfl, rfl⟩ (s_247 kc x3 x4 m _ h) ?_
          rintro _ m6 ⟨r5, rfl, h⟩
          refine it_V.at (pc1 := 66) (ls1 := [some (.ref 66), some (.int x0), some (.int x1), some (.int x2), some (.int x3), some (.int x4), none, none]) (st1 := [(.int r5)]) (mem1 := m6) rfl rfl rfl rfl ?_
          refine it_V.weak (l := [some (.ref 66), some (.int x0), some (.int x1), some (.int x2), none, none, none, none]) ⟨rfl, ⟨rfl, ⟨rfl, ⟨rfl, trivial⟩⟩⟩⟩ ?_
          exact s_324_66 kc Φ x0 x1 x2 r5 m6 h
        · have h := h.2 c4
          refine it_V.sN it_cd324 it_m324 3 (pc1 := (if x4 ≤ x3 then 54 else 50)) (ls1 := [some (.ref 66), some (.int x0), some (.int x1), some (.int x2), some (.int x3), some (.int x4), none, none]) (st1 := []) (mem1 := m) rfl ?_
          refine it_V.ite (fun c7 => ?_) (fun c7 => ?_)
          · have h := h.1 c7
            refine it_V.sN it_cd324 it_m324 2 (pc1 := 66) (ls1 := [some (.ref 66), some (.int x0), some (.int x1), some (.int x2), some (.int x3), some (.int x4), none, none]) (st1 := [(.int (0 : Int32))]) (mem1 := m) rfl ?_
            refine it_V.weak (l := [some (.ref 66), some (.int x0), some (.int x1), some (.int x2), none, none, none, none]) ⟨rfl, ⟨rfl, ⟨rfl, ⟨rfl, trivial⟩⟩⟩⟩ ?_
            exact s_324_66 kc Φ x0 x1 x2 (0 : Int32) m h
          · have h := h.2 c7
            refine it_V.sN it_cd324 it_m324 2 (pc1 := 66) (ls1 := [some (.ref 66), some (.int x0), some (.int x1), some (.int x2), some (.int x3), some (.int x4), none, none]) (st1 := [(.int (1 : Int32))]) (mem1 := m) rfl ?_
            refine it_V.weak (l := [some (.ref 66), some (.int x0), some (.int x1), some (.int x2), none, none, none, none]) ⟨rfl, ⟨rfl, ⟨rfl, ⟨rfl, trivial⟩⟩⟩⟩ ?_
            exact s_324_66 kc Φ x0 x1 x2 (1 : Int32) m h
      · have h := h.2 c3
        refine it_V.sN it_cd324 it_m324 3 (pc1 := (if x3 = x4 then 29 else 33)) (ls1 := [some (.ref 66), some (.int x0), some (.int x1), some (.int x2), some (.int x3), some (.int x4), none, none]) (st1 := []) (mem1 := m) rfl ?_
        refine it_V.ite (fun c8 => ?_) (fun c8 => ?_)
        · have h := h.1 c8
          refine it_V.sN it_cd324 it_m324 2 (pc1 := 66) (ls1 := [some (.ref 66), some (.int x0), some (.int x1), some (.int x2), some (.int x3), some (.int x4), none, none]) (st1 := [(.int (1 : Int32))]) (mem1 := m) rfl ?_
          refine it_V.weak (l := [some (.ref 66), some (.int x0), some (.int x1), some (.int x2), none, none, none, none]) ⟨rfl, ⟨rfl, ⟨rfl, ⟨rfl, trivial⟩⟩⟩⟩ ?_
          exact s_324_66 kc Φ x0 x1 x2 (1 : Int32) m h
        · have h := h.2 c8
          refine it_V.sN it_cd324 it_m324 2 (pc1 := 66) (ls1 := [some (.ref 66), some (.int x0), some (.int x1), some (.int x2), some (.int x3), some (.int x4), none, none]) (st1 := [(.int (0 : Int32))]) (mem1 := m) rfl ?_
          refine it_V.weak (l := [some (.ref 66), some (.int x0), some (.int x1), some (.int x2), none, none, none, none]) ⟨rfl, ⟨rfl, ⟨rfl, ⟨rfl, trivial⟩⟩⟩⟩ ?_
          exact s_324_66 kc Φ x0 x1 x2 (0 : Int32) m h
set_option maxRecDepth 100000 in
set_option maxHeartbeats 4000000 in
theorem s_325_130 (kc : it_Kc) (Φ : it_Me → Prop) (m : it_Me) (h : w_325_130 kc Φ m) : it_V kc it_sh0 325 130 [none, none, none, none, none, none, none, none] [] m (it_Pv Φ) := by
  rw [w_325_130] at h
  exact it_V.ret it_cd325 it_m325 rfl rfl ⟨rfl, h⟩
set_option maxRecDepth 100000 in
set_option maxHeartbeats 4000000 in
theorem s_325_109 (kc : it_Kc) (Φ : it_Me → Prop) (v1 : Int32) (v2 : Int32) (v5 : Int32) (u0 : Int32) (m : it_Me) (h : w_325_109 kc Φ v1 v2 v5 u0 m) : it_V kc it_sh0 325 109 [some (.ref 66), some (.int v1), some (.int v2), none, none, some (.int v5), none, none] [(.int u0)] m (it_Pv Φ) := by
  rw [w_325_109] at h
  refine it_V.sN it_cd325 it_m325 5 (pc1 := 116) (ls1 := [some (.ref 66), some (.int v1), some (.int v2), none, none, some (.int v5), none, some (.int u0)]) (st1 := [(.int u0), (.int v2), (.int v1), (.ref 66)]) (mem1 := m) rfl ?_
  refine it_V.call it_cd325 it_m325 rfl it_m319 [(.ref 66), (.int v1), (.int v2), (.int u0)] [] rfl rfl ⟨Nat.le_of_ble_eq_true rfl, Nat.le_of_ble_eq_true rfl, Nat.le_of_ble_eq_true rfl, Nat.le_of_ble_eq_true rfl, rfl⟩ (s_319 kc v1 v2 u0 m _ h) ?_
  rintro _ m1 ⟨rfl, h⟩
  refine it_V.at (pc1 := 119) (ls1 := [some (.ref 66), some (.int v1), some (.int v2), none, none, some (.int v5), none, some (.int u0)]) (st1 := []) (mem1 := m1) rfl rfl rfl rfl ?_
  refine it_V.sN it_cd325 it_m325 4 (pc1 := 125) (ls1 := [some (.ref 66), some (.int v1), some (.int v2), none, none, some (.int v5), none, some (.int u0)]) (st1 := [(.int v1), (.ref 94), (.int v1), (.ref 94)]) (mem1 := m1) rfl ?_
  obtain ⟨g2, h⟩ := h
  refine it_V.iald it_cd325 it_m325 rfl ((⟨rfl, by decide⟩ : it_isR 94 8)).2 ((⟨rfl, by decide⟩ : it_isR 94 8)).1 g2 ?_
  refine it_V.at (pc1 := 126) (ls1 := [some (.ref 66), some (.int v1), some (.int v2), none, none, some (.int v5), none, some (.int u0)]) (st1 := [(.int (m1 94 (Int32.toNatClampNeg v1))), (.int v1), (.ref 94)]) (mem1 := m1) rfl rfl rfl rfl ?_
  refine it_V.sN it_cd325 it_m325 2 (pc1 := 129) (ls1 := [some (.ref 66), some (.int v1), some (.int v2), none, none, some (.int v5), none, some (.int u0)]) (st1 := [(.int ((m1 94 (Int32.toNatClampNeg v1)) + v5)), (.int v1), (.ref 94)]) (mem1 := m1) rfl ?_
  obtain ⟨g3, h⟩ := h
  refine it_V.iast it_cd325 it_m325 rfl ((⟨rfl, by decide⟩ : it_isR 94 8)).1 g3 ?_
  refine it_V.at (pc1 := 130) (ls1 := [some (.ref 66), some (.int v1), some (.int v2), none, none, some (.int v5), none, some (.int u0)]) (st1 := []) (mem1 := (it_sv m1 94 (Int32.toNatClampNeg v1) ((m1 94 (Int32.toNatClampNeg v1)) + v5))) rfl rfl rfl rfl ?_
  refine it_V.weak (l := [none, none, none, none, none, none, none, none]) trivial ?_
  exact s_325_130 kc Φ (it_sv m1 94 (Int32.toNatClampNeg v1) ((m1 94 (Int32.toNatClampNeg v1)) + v5)) h
set_option maxRecDepth 100000 in
set_option maxHeartbeats 4000000 in
theorem s_325_82 (kc : it_Kc) (Φ : it_Me → Prop) (v1 : Int32) (v2 : Int32) (v4 : Int32) (v5 : Int32) (u0 : Int32) (m : it_Me) (h : w_325_82 kc Φ v1 v2 v4 v5 u0 m) : it_V kc it_sh0 325 82 [some (.ref 66), some (.int v1), some (.int v2), none, some (.int v4), some (.int v5), none, none] [(.int u0)] m (it_Pv Φ) := by
  rw [w_325_82] at h
  refine it_V.sN it_cd325 it_m325 3 (pc1 := (if v4 = 0 then 89 else 95)) (ls1 := [some (.ref 66), some (.int v1), some (.int v2), none, some (.int v4), some (.int v5), none, some (.int u0)]) (st1 := []) (mem1 := m) rfl ?_
  refine it_V.ite (fun c1 => ?_) (fun c1 => ?_)
  · have h := h.1 c1
    refine it_V.sN it_cd325 it_m325 3 (pc1 := 109) (ls1 := [some (.ref 66), some (.int v1), some (.int v2), none, some (.int v4), some (.int v5), none, some (.int u0)]) (st1 := [(.int (it_i2b u0))]) (mem1 := m) rfl ?_
    refine it_V.weak (l := [some (.ref 66), some (.int v1), some (.int v2), none, none, some (.int v5), none, none]) ⟨rfl, ⟨rfl, ⟨rfl, ⟨rfl, trivial⟩⟩⟩⟩ ?_
    exact s_325_109 kc Φ v1 v2 v5 (it_i2b u0) m h
  · have h := h.2 c1
    refine it_V.sN it_cd325 it_m325 3 (pc1 := (if v4 = (1 : Int32) then 101 else 107)) (ls1 := [some (.ref 66), some (.int v1), some (.int v2), none, some (.int v4), some (.int v5), none, some (.int u0)]) (st1 := []) (mem1 := m) rfl ?_
    refine it_V.ite (fun c2 => ?_) (fun c2 => ?_)
    · have h := h.1 c2
      refine it_V.sN it_cd325 it_m325 3 (pc1 := 109) (ls1 := [some (.ref 66), some (.int v1), some (.int v2), none, some (.int v4), some (.int v5), none, some (.int u0)]) (st1 := [(.int (it_i2s u0))]) (mem1 := m) rfl ?_
      refine it_V.weak (l := [some (.ref 66), some (.int v1), some (.int v2), none, none, some (.int v5), none, none]) ⟨rfl, ⟨rfl, ⟨rfl, ⟨rfl, trivial⟩⟩⟩⟩ ?_
      exact s_325_109 kc Φ v1 v2 v5 (it_i2s u0) m h
    · have h := h.2 c2
      refine it_V.sN it_cd325 it_m325 1 (pc1 := 109) (ls1 := [some (.ref 66), some (.int v1), some (.int v2), none, some (.int v4), some (.int v5), none, some (.int u0)]) (st1 := [(.int u0)]) (mem1 := m) rfl ?_
      refine it_V.weak (l := [some (.ref 66), some (.int v1), some (.int v2), none, none, some (.int v5), none, none]) ⟨rfl, ⟨rfl, ⟨rfl, ⟨rfl, trivial⟩⟩⟩⟩ ?_
      exact s_325_109 kc Φ v1 v2 v5 u0 m h
set_option maxRecDepth 100000 in
set_option maxHeartbeats 4000000 in
theorem s_325 (kc : it_Kc) (x0 : Int32) (x1 : Int32) (x2 : Int32) (x3 : Int32) (x4 : Int32) (m : it_Me) (Φ : it_Me → Prop) (h : w_325 kc x0 x1 x2 x3 x4 m Φ) : it_V kc it_sh0 325 0 (it_loc0 [(.ref 66), (.int x0), (.int x1), (.int x2), (.int x3), (.int x4)] 8) [] m (it_Pv Φ) := by
  rw [w_325] at h
  refine it_V.at (pc1 := 0) (ls1 := [some (.ref 66), some (.int x0), some (.int x1), some (.int x2), some (.int x3), some (.int x4), none, none]) (st1 := []) (mem1 := m) rfl rfl rfl rfl ?_
  refine it_V.sN it_cd325 it_m325 12 (pc1 := (if (x2 &&& ((it_shl (1 : Int32) (x3 &&& (3 : Int32))) - (1 : Int32))) = 0 then 27 else 17)) (ls1 := [some (.ref 66), some (.int x0), some (.int x1), some (.int x2), some (.int x3), some (.int x4), some (.int (it_shl (1 : Int32) (x3 &&& (3 : Int32)))), none]) (st1 := []) (mem1 := m) rfl ?_
  refine it_V.ite (fun c1 => ?_) (fun c1 => ?_)
  · have h := h.1 c1
    refine it_V.sN it_cd325 it_m325 5 (pc1 := 33) (ls1 := [some (.ref 66), some (.int x0), some (.int x1), some (.int x2), some (.int x3), some (.int x4), some (.int (it_shl (1 : Int32) (x3 &&& (3 : Int32)))), none]) (st1 := [(.int (1 : Int32)), (.int (it_shl (1 : Int32) (x3 &&& (3 : Int32)))), (.int x2), (.int x0), (.ref 66)]) (mem1 := m) rfl ?_
    refine it_V.call it_cd325 it_m325 rfl it_m259 [(.ref 66), (.int x0), (.int x2), (.int (it_shl (1 : Int32) (x3 &&& (3 : Int32)))), (.int (1 : Int32))] [] rfl rfl ⟨Nat.le_of_ble_eq_true rfl, Nat.le_of_ble_eq_true rfl, Nat.le_of_ble_eq_true rfl, Nat.le_of_ble_eq_true rfl, rfl⟩ (s_259 kc x0 x2 (it_shl (1 : Int32) (x3 &&& (3 : Int32))) (1 : Int32) m _ h) ?_
    rintro _ m3 ⟨r2, rfl, h⟩
    refine it_V.at (pc1 := 36) (ls1 := [some (.ref 66), some (.int x0), some (.int x1), some (.int x2), some (.int x3), some (.int x4), some (.int (it_shl (1 : Int32) (x3 &&& (3 : Int32)))), none]) (st1 := [(.int r2)]) (mem1 := m3) rfl rfl rfl rfl ?_
    refine it_V.sN it_cd325 it_m325 1 (pc1 := (if r2 = 0 then 39 else 49)) (ls1 := [some (.ref 66), some (.int x0), some (.int x1), some (.int x2), some (.int x3), some (.int x4), some (.int (it_shl (1 : Int32) (x3 &&& (3 : Int32)))), none]) (st1 := []) (mem1 := m3) rfl ?_
    refine it_V.ite (fun c4 => ?_) (fun c4 => ?_)
    · have h := h.1 c4
      refine it_V.sN it_cd325 it_m325 4 (pc1 := 43) (ls1 := [some (.ref 66), some (.int x0), some (.int x1), some (.int x2), some (.int x3), some (.int x4), some (.int (it_shl (1 : Int32) (x3 &&& (3 : Int32)))), none]) (st1 := [(.int x2), (.int (5 : Int32)), (.int x0), (.ref 66)]) (mem1 := m3) rfl ?_
      refine it_V.call it_cd325 it_m325 rfl it_m258 [(.ref 66), (.int x0), (.int (5 : Int32)), (.int x2)] [] rfl rfl ⟨Nat.le_of_ble_eq_true rfl, Nat.le_of_ble_eq_true rfl, Nat.le_of_ble_eq_true rfl, Nat.le_of_ble_eq_true rfl, rfl⟩ (s_258 kc x0 (5 : Int32) x2 m3 _ h) ?_
      rintro _ m5 ⟨rfl, h⟩
      refine it_V.at (pc1 := 46) (ls1 := [some (.ref 66), some (.int x0), some (.int x1), some (.int x2), some (.int x3), some (.int x4), some (.int (it_shl (1 : Int32) (x3 &&& (3 : Int32)))), none]) (st1 := []) (mem1 := m5) rfl rfl rfl rfl ?_
      refine it_V.sN it_cd325 it_m325 1 (pc1 := 130) (ls1 := [some (.ref 66), some (.int x0), some (.int x1), some (.int x2), some (.int x3), some (.int x4), some (.int (it_shl (1 : Int32) (x3 &&& (3 : Int32)))), none]) (st1 := []) (mem1 := m5) rfl ?_
      refine it_V.weak (l := [none, none, none, none, none, none, none, none]) trivial ?_
      exact s_325_130 kc Φ m5 h
    · have h := h.2 c4
      refine it_V.sN it_cd325 it_m325 3 (pc1 := (if (it_shl (1 : Int32) (x3 &&& (3 : Int32))) = (1 : Int32) then 55 else 63)) (ls1 := [some (.ref 66), some (.int x0), some (.int x1), some (.int x2), some (.int x3), some (.int x4), some (.int (it_shl (1 : Int32) (x3 &&& (3 : Int32)))), none]) (st1 := []) (mem1 := m3) rfl ?_
      refine it_V.ite (fun c6 => ?_) (fun c6 => ?_)
      · have h := h.1 c6
        refine it_V.sN it_cd325 it_m325 2 (pc1 := 57) (ls1 := [some (.ref 66), some (.int x0), some (.int x1), some (.int x2), some (.int x3), some (.int x4), some (.int (it_shl (1 : Int32) (x3 &&& (3 : Int32)))), none]) (st1 := [(.int x2), (.ref 66)]) (mem1 := m3) rfl ?_
        refine it_V.call it_cd325 it_m325 rfl it_m218 [(.ref 66), (.int x2)] [] rfl rfl ⟨Nat.le_of_ble_eq_true rfl, Nat.le_of_ble_eq_true rfl, Nat.le_of_ble_eq_true rfl, Nat.le_of_ble_eq_true rfl, rfl⟩ (s_218 kc x2 m3 _ h) ?_
        rintro _ m8 ⟨r7, rfl, h⟩
        refine it_V.at (pc1 := 60) (ls1 := [some (.ref 66), some (.int x0), some (.int x1), some (.int x2), some (.int x3), some (.int x4), some (.int (it_shl (1 : Int32) (x3 &&& (3 : Int32)))), none]) (st1 := [(.int r7)]) (mem1 := m8) rfl rfl rfl rfl ?_
        refine it_V.sN it_cd325 it_m325 1 (pc1 := 82) (ls1 := [some (.ref 66), some (.int x0), some (.int x1), some (.int x2), some (.int x3), some (.int x4), some (.int (it_shl (1 : Int32) (x3 &&& (3 : Int32)))), none]) (st1 := [(.int r7)]) (mem1 := m8) rfl ?_
        refine it_V.weak (l := [some (.ref 66), some (.int x0), some (.int x1), none, some (.int x3), some (.int x4), none, none]) ⟨rfl, ⟨rfl, ⟨rfl, ⟨rfl, ⟨rfl, trivial⟩⟩⟩⟩⟩ ?_
        exact s_325_82 kc Φ x0 x1 x3 x4 r7 m8 h
      · have h := h.2 c6
        refine it_V.sN it_cd325 it_m325 3 (pc1 := (if (it_shl (1 : Int32) (x3 &&& (3 : Int32))) = (2 : Int32) then 69 else 77)) (ls1 := [some (.ref 66), some (.int x0), some (.int x1), some (.int x2), some (.int x3), some (.int x4), some (.int (it_shl (1 : Int32) (x3 &&& (3 : Int32)))), none]) (st1 := []) (mem1 := m3) rfl ?_
        refine it_V.ite (fun c9 => ?_) (fun c9 => ?_)
        · have h := h.1 c9
          refine it_V.sN it_cd325 it_m325 2 (pc1 := 71) (ls1 := [some (.ref 66), some (.int x0), some (.int x1), some (.int x2), some (.int x3), some (.int x4), some (.int (it_shl (1 : Int32) (x3 &&& (3 : Int32)))), none]) (st1 := [(.int x2), (.ref 66)]) (mem1 := m3) rfl ?_
          refine it_V.call it_cd325 it_m325 rfl it_m219 [(.ref 66), (.int x2)] [] rfl rfl ⟨Nat.le_of_ble_eq_true rfl, Nat.le_of_ble_eq_true rfl, Nat.le_of_ble_eq_true rfl, Nat.le_of_ble_eq_true rfl, rfl⟩ (s_219 kc x2 m3 _ h) ?_
          rintro _ m11 ⟨r10, rfl, h⟩
          refine it_V.at (pc1 := 74) (ls1 := [some (.ref 66), some (.int x0), some (.int x1), some (.int x2), some (.int x3), some (.int x4), some (.int (it_shl (1 : Int32) (x3 &&& (3 : Int32)))), none]) (st1 := [(.int r10)]) (mem1 := m11) rfl rfl rfl rfl ?_
          refine it_V.sN it_cd325 it_m325 1 (pc1 := 82) (ls1 := [some (.ref 66), some (.int x0), some (.int x1), some (.int x2), some (.int x3), some (.int x4), some (.int (it_shl (1 : Int32) (x3 &&& (3 : Int32)))), none]) (st1 := [(.int r10)]) (mem1 := m11) rfl ?_
          refine it_V.weak (l := [some (.ref 66), some (.int x0), some (.int x1), none, some (.int x3), some (.int x4), none, none]) ⟨rfl, ⟨rfl, ⟨rfl, ⟨rfl, ⟨rfl, trivial⟩⟩⟩⟩⟩ ?_
          exact s_325_82 kc Φ x0 x1 x3 x4 r10 m11 h
        · have h := h.2 c9
          refine it_V.sN it_cd325 it_m325 2 (pc1 := 79) (ls1 := [some (.ref 66), some (.int x0), some (.int x1), some (.int x2), some (.int x3), some (.int x4), some (.int (it_shl (1 : Int32) (x3 &&& (3 : Int32)))), none]) (st1 := [(.int x2), (.ref 66)]) (mem1 := m3) rfl ?_
          refine it_V.call it_cd325 it_m325 rfl it_m220 [(.ref 66), (.int x2)] [] rfl rfl ⟨Nat.le_of_ble_eq_true rfl, Nat.le_of_ble_eq_true rfl, Nat.le_of_ble_eq_true rfl, Nat.le_of_ble_eq_true rfl, rfl⟩ (s_220 kc x2 m3 _ h) ?_
          rintro _ m13 ⟨r12, rfl, h⟩
          refine it_V.at (pc1 := 82) (ls1 := [some (.ref 66), some (.int x0), some (.int x1), some (.int x2), some (.int x3), some (.int x4), some (.int (it_shl (1 : Int32) (x3 &&& (3 : Int32)))), none]) (st1 := [(.int r12)]) (mem1 := m13) rfl rfl rfl rfl ?_
          refine it_V.weak (l := [some (.ref 66), some (.int x0), some (.int x1), none, some (.int x3), some (.int x4), none, none]) ⟨rfl, ⟨rfl, ⟨rfl, ⟨rfl, ⟨rfl, trivial⟩⟩⟩⟩⟩ ?_
          exact s_325_82 kc Φ x0 x1 x3 x4 r12 m13 h
  · have h := h.2 c1
    refine it_V.sN it_cd325 it_m325 4 (pc1 := 21) (ls1 := [some (.ref 66), some (.int x0), some (.int x1), some (.int x2), some (.int x3), some (.int x4), some (.int (it_shl (1 : Int32) (x3 &&& (3 : Int32)))), none]) (st1 := [(.int x2), (.int (4 : Int32)), (.int x0), (.ref 66)]) (mem1 := m) rfl ?_
    refine it_V.call it_cd325 it_m325 rfl it_m258 [(.ref 66), (.int x0), (.int (4 : Int32)), (.int x2)] [] rfl rfl ⟨Nat.le_of_ble_eq_true rfl, Nat.le_of_ble_eq_true rfl, Nat.le_of_ble_eq_true rfl, Nat.le_of_ble_eq_true rfl, rfl⟩ (s_258 kc x0 (4 : Int32) x2 m _ h) ?_
    rintro _ m14 ⟨rfl, h⟩
    refine it_V.at (pc1 := 24) (ls1 := [some (.ref 66), some (.int x0), some (.int x1), some (.int x2), some (.int x3), some (.int x4), some (.int (it_shl (1 : Int32) (x3 &&& (3 : Int32)))), none]) (st1 := []) (mem1 := m14) rfl rfl rfl rfl ?_
    refine it_V.sN it_cd325 it_m325 1 (pc1 := 130) (ls1 := [some (.ref 66), some (.int x0), some (.int x1), some (.int x2), some (.int x3), some (.int x4), some (.int (it_shl (1 : Int32) (x3 &&& (3 : Int32)))), none]) (st1 := []) (mem1 := m14) rfl ?_
    refine it_V.weak (l := [none, none, none, none, none, none, none, none]) trivial ?_
    exact s_325_130 kc Φ m14 h
set_option maxRecDepth 100000 in
set_option maxHeartbeats 4000000 in
theorem s_326_51 (kc : it_Kc) (Φ : it_Me → Prop) (K82 : Int32 → Int32 → it_Me → Prop) (hK82 : ∀ (v1 : Int32) (v5 : Int32) (m : it_Me), K82 v1 v5 m → it_V kc it_sh0 326 82 [some (.ref 66), some (.int v1), none, none, none, some (.int v5), none, none] [] m (it_Pv Φ)) : ∀ (n : Nat) (v1 : Int32) (v2 : Int32) (v4 : Int32) (v5 : Int32) (v6 : Int32) (v7 : Int32) (m : it_Me) (h : w_326_51 kc Φ K82 n v1 v2 v4 v5 v6 v7 m), it_V kc it_sh0 326 51 [some (.ref 66), some (.int v1), some (.int v2), none, some (.int v4), some (.int v5), some (.int v6), some (.int v7)] [] m (it_Pv Φ) := by
  intro n
  induction n with
  | zero => intro v1 v2 v4 v5 v6 v7 m h; exact absurd h id
  | succ n ih =>
    intro v1 v2 v4 v5 v6 v7 m h
    rw [w_326_51] at h
    refine it_V.sN it_cd326 it_m326 3 (pc1 := (if v6 ≤ v7 then 82 else 58)) (ls1 := [some (.ref 66), some (.int v1), some (.int v2), none, some (.int v4), some (.int v5), some (.int v6), some (.int v7)]) (st1 := []) (mem1 := m) rfl ?_
    refine it_V.ite (fun c1 => ?_) (fun c1 => ?_)
    · have h := h.1 c1
      refine it_V.weak (l := [some (.ref 66), some (.int v1), none, none, none, some (.int v5), none, none]) ⟨rfl, ⟨rfl, ⟨rfl, trivial⟩⟩⟩ ?_
      exact hK82 v1 v5 m h
    · have h := h.2 c1
      refine it_V.sN it_cd326 it_m326 11 (pc1 := 75) (ls1 := [some (.ref 66), some (.int v1), some (.int v2), none, some (.int v4), some (.int v5), some (.int v6), some (.int v7)]) (st1 := [(.int (it_i2b (it_shr v4 ((8 : Int32) * v7)))), (.int (v2 + v7)), (.ref 67)]) (mem1 := m) rfl ?_
      obtain ⟨g2, h⟩ := h
      refine it_V.bast (n := 196608) it_cd326 it_m326 rfl rfl g2 ?_
      refine it_V.at (pc1 := 76) (ls1 := [some (.ref 66), some (.int v1), some (.int v2), none, some (.int v4), some (.int v5), some (.int v6), some (.int v7)]) (st1 := []) (mem1 := (it_sv m 67 (Int32.toNatClampNeg (v2 + v7)) (it_i2b (it_i2b (it_shr v4 ((8 : Int32) * v7)))))) rfl rfl rfl rfl ?_
      refine it_V.sN it_cd326 it_m326 2 (pc1 := 51) (ls1 := [some (.ref 66), some (.int v1), some (.int v2), none, some (.int v4), some (.int v5), some (.int v6), some (.int (v7 + (1 : Int32)))]) (st1 := []) (mem1 := (it_sv m 67 (Int32.toNatClampNeg (v2 + v7)) (it_i2b (it_i2b (it_shr v4 ((8 : Int32) * v7)))))) rfl ?_
      refine it_V.weak (l := [some (.ref 66), some (.int v1), some (.int v2), none, some (.int v4), some (.int v5), some (.int v6), some (.int (v7 + (1 : Int32)))]) ⟨rfl, ⟨rfl, ⟨rfl, ⟨rfl, ⟨rfl, ⟨rfl, ⟨rfl, trivial⟩⟩⟩⟩⟩⟩⟩ ?_
      exact ih v1 v2 v4 v5 v6 (v7 + (1 : Int32)) (it_sv m 67 (Int32.toNatClampNeg (v2 + v7)) (it_i2b (it_i2b (it_shr v4 ((8 : Int32) * v7))))) h
set_option maxRecDepth 100000 in
set_option maxHeartbeats 4000000 in
theorem s_326_93 (kc : it_Kc) (Φ : it_Me → Prop) (m : it_Me) (h : w_326_93 kc Φ m) : it_V kc it_sh0 326 93 [none, none, none, none, none, none, none, none] [] m (it_Pv Φ) := by
  rw [w_326_93] at h
  exact it_V.ret it_cd326 it_m326 rfl rfl ⟨rfl, h⟩
set_option maxRecDepth 100000 in
set_option maxHeartbeats 4000000 in
theorem s_326_82 (kc : it_Kc) (Φ : it_Me → Prop) (v1 : Int32) (v5 : Int32) (m : it_Me) (h : w_326_82 kc Φ v1 v5 m) : it_V kc it_sh0 326 82 [some (.ref 66), some (.int v1), none, none, none, some (.int v5), none, none] [] m (it_Pv Φ) := by
  rw [w_326_82] at h
  refine it_V.sN it_cd326 it_m326 4 (pc1 := 88) (ls1 := [some (.ref 66), some (.int v1), none, none, none, some (.int v5), none, none]) (st1 := [(.int v1), (.ref 94), (.int v1), (.ref 94)]) (mem1 := m) rfl ?_
  obtain ⟨g1, h⟩ := h
  refine it_V.iald it_cd326 it_m326 rfl ((⟨rfl, by decide⟩ : it_isR 94 8)).2 ((⟨rfl, by decide⟩ : it_isR 94 8)).1 g1 ?_
  refine it_V.at (pc1 := 89) (ls1 := [some (.ref 66), some (.int v1), none, none, none, some (.int v5), none, none]) (st1 := [(.int (m 94 (Int32.toNatClampNeg v1))), (.int v1), (.ref 94)]) (mem1 := m) rfl rfl rfl rfl ?_
  refine it_V.sN it_cd326 it_m326 2 (pc1 := 92) (ls1 := [some (.ref 66), some (.int v1), none, none, none, some (.int v5), none, none]) (st1 := [(.int ((m 94 (Int32.toNatClampNeg v1)) + v5)), (.int v1), (.ref 94)]) (mem1 := m) rfl ?_
  obtain ⟨g2, h⟩ := h
  refine it_V.iast it_cd326 it_m326 rfl ((⟨rfl, by decide⟩ : it_isR 94 8)).1 g2 ?_
  refine it_V.at (pc1 := 93) (ls1 := [some (.ref 66), some (.int v1), none, none, none, some (.int v5), none, none]) (st1 := []) (mem1 := (it_sv m 94 (Int32.toNatClampNeg v1) ((m 94 (Int32.toNatClampNeg v1)) + v5))) rfl rfl rfl rfl ?_
  refine it_V.weak (l := [none, none, none, none, none, none, none, none]) trivial ?_
  exact s_326_93 kc Φ (it_sv m 94 (Int32.toNatClampNeg v1) ((m 94 (Int32.toNatClampNeg v1)) + v5)) h
set_option maxRecDepth 100000 in
set_option maxHeartbeats 4000000 in
theorem s_326 (kc : it_Kc) (x0 : Int32) (x1 : Int32) (x2 : Int32) (x3 : Int32) (x4 : Int32) (m : it_Me) (Φ : it_Me → Prop) (h : w_326 kc x0 x1 x2 x3 x4 m Φ) : it_V kc it_sh0 326 0 (it_loc0 [(.ref 66), (.int x0), (.int x1), (.int x2), (.int x3), (.int x4)] 8) [] m (it_Pv Φ) := by
  rw [w_326] at h
  refine it_V.at (pc1 := 0) (ls1 := [some (.ref 66), some (.int x0), some (.int x1), some (.int x2), some (.int x3), some (.int x4), none, none]) (st1 := []) (mem1 := m) rfl rfl rfl rfl ?_
  refine it_V.sN it_cd326 it_m326 10 (pc1 := (if (x1 &&& ((it_shl (1 : Int32) x2) - (1 : Int32))) = 0 then 25 else 14)) (ls1 := [some (.ref 66), some (.int x0), some (.int x1), some (.int x2), some (.int x3), some (.int x4), some (.int (it_shl (1 : Int32) x2)), none]) (st1 := []) (mem1 := m) rfl ?_
  refine it_V.ite (fun c1 => ?_) (fun c1 => ?_)
  · have h := h.1 c1
    refine it_V.sN it_cd326 it_m326 5 (pc1 := 31) (ls1 := [some (.ref 66), some (.int x0), some (.int x1), some (.int x2), some (.int x3), some (.int x4), some (.int (it_shl (1 : Int32) x2)), none]) (st1 := [(.int (2 : Int32)), (.int (it_shl (1 : Int32) x2)), (.int x1), (.int x0), (.ref 66)]) (mem1 := m) rfl ?_
    refine it_V.call it_cd326 it_m326 rfl it_m259 [(.ref 66), (.int x0), (.int x1), (.int (it_shl (1 : Int32) x2)), (.int (2 : Int32))] [] rfl rfl ⟨Nat.le_of_ble_eq_true rfl, Nat.le_of_ble_eq_true rfl, Nat.le_of_ble_eq_true rfl, Nat.le_of_ble_eq_true rfl, rfl⟩ (s_259 kc x0 x1 (it_shl (1 : Int32) x2) (2 : Int32) m _ h) ?_
    rintro _ m3 ⟨r2, rfl, h⟩
    refine it_V.at (pc1 := 34) (ls1 := [some (.ref 66), some (.int x0), some (.int x1), some (.int x2), some (.int x3), some (.int x4), some (.int (it_shl (1 : Int32) x2)), none]) (st1 := [(.int r2)]) (mem1 := m3) rfl rfl rfl rfl ?_
    refine it_V.sN it_cd326 it_m326 1 (pc1 := (if r2 = 0 then 37 else 48)) (ls1 := [some (.ref 66), some (.int x0), some (.int x1), some (.int x2), some (.int x3), some (.int x4), some (.int (it_shl (1 : Int32) x2)), none]) (st1 := []) (mem1 := m3) rfl ?_
    refine it_V.ite (fun c4 => ?_) (fun c4 => ?_)
    · have h := h.1 c4
      refine it_V.sN it_cd326 it_m326 4 (pc1 := 42) (ls1 := [some (.ref 66), some (.int x0), some (.int x1), some (.int x2), some (.int x3), some (.int x4), some (.int (it_shl (1 : Int32) x2)), none]) (st1 := [(.int x1), (.int (7 : Int32)), (.int x0), (.ref 66)]) (mem1 := m3) rfl ?_
      refine it_V.call it_cd326 it_m326 rfl it_m258 [(.ref 66), (.int x0), (.int (7 : Int32)), (.int x1)] [] rfl rfl ⟨Nat.le_of_ble_eq_true rfl, Nat.le_of_ble_eq_true rfl, Nat.le_of_ble_eq_true rfl, Nat.le_of_ble_eq_true rfl, rfl⟩ (s_258 kc x0 (7 : Int32) x1 m3 _ h) ?_
      rintro _ m5 ⟨rfl, h⟩
      refine it_V.at (pc1 := 45) (ls1 := [some (.ref 66), some (.int x0), some (.int x1), some (.int x2), some (.int x3), some (.int x4), some (.int (it_shl (1 : Int32) x2)), none]) (st1 := []) (mem1 := m5) rfl rfl rfl rfl ?_
      refine it_V.sN it_cd326 it_m326 1 (pc1 := 93) (ls1 := [some (.ref 66), some (.int x0), some (.int x1), some (.int x2), some (.int x3), some (.int x4), some (.int (it_shl (1 : Int32) x2)), none]) (st1 := []) (mem1 := m5) rfl ?_
      refine it_V.weak (l := [none, none, none, none, none, none, none, none]) trivial ?_
      exact s_326_93 kc Φ m5 h
    · have h := h.2 c4
      refine it_V.sN it_cd326 it_m326 2 (pc1 := 51) (ls1 := [some (.ref 66), some (.int x0), some (.int x1), some (.int x2), some (.int x3), some (.int x4), some (.int (it_shl (1 : Int32) x2)), some (.int (0 : Int32))]) (st1 := []) (mem1 := m3) rfl ?_
      refine it_V.weak (l := [some (.ref 66), some (.int x0), some (.int x1), none, some (.int x3), some (.int x4), some (.int (it_shl (1 : Int32) x2)), some (.int (0 : Int32))]) ⟨rfl, ⟨rfl, ⟨rfl, ⟨rfl, ⟨rfl, ⟨rfl, ⟨rfl, trivial⟩⟩⟩⟩⟩⟩⟩ ?_
      obtain ⟨n, h⟩ := h
      exact s_326_51 kc Φ _ (fun v1 v5 m h => s_326_82 kc Φ v1 v5 m h) n x0 x1 x3 x4 (it_shl (1 : Int32) x2) (0 : Int32) m3 h
  · have h := h.2 c1
    refine it_V.sN it_cd326 it_m326 4 (pc1 := 19) (ls1 := [some (.ref 66), some (.int x0), some (.int x1), some (.int x2), some (.int x3), some (.int x4), some (.int (it_shl (1 : Int32) x2)), none]) (st1 := [(.int x1), (.int (6 : Int32)), (.int x0), (.ref 66)]) (mem1 := m) rfl ?_
    refine it_V.call it_cd326 it_m326 rfl it_m258 [(.ref 66), (.int x0), (.int (6 : Int32)), (.int x1)] [] rfl rfl ⟨Nat.le_of_ble_eq_true rfl, Nat.le_of_ble_eq_true rfl, Nat.le_of_ble_eq_true rfl, Nat.le_of_ble_eq_true rfl, rfl⟩ (s_258 kc x0 (6 : Int32) x1 m _ h) ?_
    rintro _ m6 ⟨rfl, h⟩
    refine it_V.at (pc1 := 22) (ls1 := [some (.ref 66), some (.int x0), some (.int x1), some (.int x2), some (.int x3), some (.int x4), some (.int (it_shl (1 : Int32) x2)), none]) (st1 := []) (mem1 := m6) rfl rfl rfl rfl ?_
    refine it_V.sN it_cd326 it_m326 1 (pc1 := 93) (ls1 := [some (.ref 66), some (.int x0), some (.int x1), some (.int x2), some (.int x3), some (.int x4), some (.int (it_shl (1 : Int32) x2)), none]) (st1 := []) (mem1 := m6) rfl ?_
    refine it_V.weak (l := [none, none, none, none, none, none, none, none]) trivial ?_
    exact s_326_93 kc Φ m6 h
set_option maxRecDepth 100000 in
set_option maxHeartbeats 4000000 in
theorem s_328_59 (kc : it_Kc) (Φ : Int32 → it_Me → Prop) (u0 : Int32) (m : it_Me) (h : w_328_59 kc Φ u0 m) : it_V kc it_sh0 328 59 [none, none, none, none, none] [(.int u0)] m (it_Pi Φ) := by
  rw [w_328_59] at h
  exact it_V.ret it_cd328 it_m328 rfl rfl ⟨_, rfl, h⟩
set_option maxRecDepth 100000 in
set_option maxHeartbeats 4000000 in
theorem s_328_76 (kc : it_Kc) (Φ : Int32 → it_Me → Prop) (u0 : Int32) (m : it_Me) (h : w_328_76 kc Φ u0 m) : it_V kc it_sh0 328 76 [none, none, none, none, none] [(.int u0)] m (it_Pi Φ) := by
  rw [w_328_76] at h
  exact it_V.ret it_cd328 it_m328 rfl rfl ⟨_, rfl, h⟩
set_option maxRecDepth 100000 in
set_option maxHeartbeats 4000000 in
theorem s_328_92 (kc : it_Kc) (Φ : Int32 → it_Me → Prop) (u0 : Int32) (m : it_Me) (h : w_328_92 kc Φ u0 m) : it_V kc it_sh0 328 92 [none, none, none, none, none] [(.int u0)] m (it_Pi Φ) := by
  rw [w_328_92] at h
  exact it_V.ret it_cd328 it_m328 rfl rfl ⟨_, rfl, h⟩
set_option maxRecDepth 100000 in
set_option maxHeartbeats 4000000 in
theorem s_328_113 (kc : it_Kc) (Φ : Int32 → it_Me → Prop) (u0 : Int32) (m : it_Me) (h : w_328_113 kc Φ u0 m) : it_V kc it_sh0 328 113 [none, none, none, none, none] [(.int u0)] m (it_Pi Φ) := by
  rw [w_328_113] at h
  exact it_V.ret it_cd328 it_m328 rfl rfl ⟨_, rfl, h⟩
set_option maxRecDepth 100000 in
set_option maxHeartbeats 4000000 in
theorem s_328 (kc : it_Kc) (x0 : Int32) (x1 : Int32) (x2 : Int32) (x3 : Int32) (m : it_Me) (Φ : Int32 → it_Me → Prop) (h : w_328 kc x0 x1 x2 x3 m Φ) : it_V kc it_sh0 328 0 (it_loc0 [(.ref 66), (.int x0), (.int x1), (.int x2), (.int x3)] 5) [] m (it_Pi Φ) := by
  rw [w_328] at h
  refine it_V.at (pc1 := 0) (ls1 := [some (.ref 66), some (.int x0), some (.int x1), some (.int x2), some (.int x3)]) (st1 := []) (mem1 := m) rfl rfl rfl rfl ?_
  refine it_V.sN it_cd328 it_m328 1 (pc1 := 1) (ls1 := [some (.ref 66), some (.int x0), some (.int x1), some (.int x2), some (.int x3)]) (st1 := [(.int x0)]) (mem1 := m) rfl ?_
  refine it_V.sN it_cd328 it_m328 1 (pc1 := (if x0 = (0 : Int32) then 44 else (if x0 = (1 : Int32) then 60 else (if x0 = (2 : Int32) then 65 else (if x0 = (3 : Int32) then 77 else (if x0 = (4 : Int32) then 93 else (if x0 = (5 : Int32) then 98 else (if x0 = (6 : Int32) then 114 else 119)))))))) (ls1 := [some (.ref 66), some (.int x0), some (.int x1), some (.int x2), some (.int x3)]) (st1 := []) (mem1 := m) rfl ?_
  refine it_V.ite (fun c1 => ?_) (fun c1 => ?_)
  · have h := h.1 c1
    refine it_V.sN it_cd328 it_m328 2 (pc1 := (if x1 = 0 then 55 else 48)) (ls1 := [some (.ref 66), some (.int x0), some (.int x1), some (.int x2), some (.int x3)]) (st1 := []) (mem1 := m) rfl ?_
    refine it_V.ite (fun c2 => ?_) (fun c2 => ?_)
    · have h := h.1 c2
      refine it_V.sN it_cd328 it_m328 3 (pc1 := 59) (ls1 := [some (.ref 66), some (.int x0), some (.int x1), some (.int x2), some (.int x3)]) (st1 := [(.int (x2 + x3))]) (mem1 := m) rfl ?_
      refine it_V.weak (l := [none, none, none, none, none]) trivial ?_
      exact s_328_59 kc Φ (x2 + x3) m h
    · have h := h.2 c2
      refine it_V.sN it_cd328 it_m328 4 (pc1 := 59) (ls1 := [some (.ref 66), some (.int x0), some (.int x1), some (.int x2), some (.int x3)]) (st1 := [(.int (x2 - x3))]) (mem1 := m) rfl ?_
      refine it_V.weak (l := [none, none, none, none, none]) trivial ?_
      exact s_328_59 kc Φ (x2 - x3) m h
  · have h := h.2 c1
    refine it_V.ite (fun c3 => ?_) (fun c3 => ?_)
    · have h := h.1 c3
      refine it_V.sN it_cd328 it_m328 3 (pc1 := 64) (ls1 := [some (.ref 66), some (.int x0), some (.int x1), some (.int x2), some (.int x3)]) (st1 := [(.int (it_shl x2 x3))]) (mem1 := m) rfl ?_
      exact it_V.ret it_cd328 it_m328 rfl rfl ⟨_, rfl, h⟩
    · have h := h.2 c3
      refine it_V.ite (fun c4 => ?_) (fun c4 => ?_)
      · have h := h.1 c4
        refine it_V.sN it_cd328 it_m328 3 (pc1 := (if x3 ≤ x2 then 75 else 71)) (ls1 := [some (.ref 66), some (.int x0), some (.int x1), some (.int x2), some (.int x3)]) (st1 := []) (mem1 := m) rfl ?_
        refine it_V.ite (fun c5 => ?_) (fun c5 => ?_)
        · have h := h.1 c5
          refine it_V.sN it_cd328 it_m328 1 (pc1 := 76) (ls1 := [some (.ref 66), some (.int x0), some (.int x1), some (.int x2), some (.int x3)]) (st1 := [(.int (0 : Int32))]) (mem1 := m) rfl ?_
          refine it_V.weak (l := [none, none, none, none, none]) trivial ?_
          exact s_328_76 kc Φ (0 : Int32) m h
        · have h := h.2 c5
          refine it_V.sN it_cd328 it_m328 2 (pc1 := 76) (ls1 := [some (.ref 66), some (.int x0), some (.int x1), some (.int x2), some (.int x3)]) (st1 := [(.int (1 : Int32))]) (mem1 := m) rfl ?_
          refine it_V.weak (l := [none, none, none, none, none]) trivial ?_
          exact s_328_76 kc Φ (1 : Int32) m h
      · have h := h.2 c4
        refine it_V.ite (fun c6 => ?_) (fun c6 => ?_)
        · have h := h.1 c6
          refine it_V.sN it_cd328 it_m328 3 (pc1 := 81) (ls1 := [some (.ref 66), some (.int x0), some (.int x1), some (.int x2), some (.int x3)]) (st1 := [(.int x3), (.int x2), (.ref 66)]) (mem1 := m) rfl ?_
          refine it_V.call it_cd328 it_m328 rfl it_m247 [(.ref 66), (.int x2), (.int x3)] [] rfl rfl ⟨Nat.le_of_ble_eq_true rfl, Nat.le_of_ble_eq_true rfl, Nat.le_of_ble_eq_true rfl, Nat.le_of_ble_eq_true rfl, rfl⟩ (s_247 kc x2 x3 m _ h) ?_
          rintro _ m8 ⟨r7, rfl, h⟩
          refine it_V.at (pc1 := 84) (ls1 := [some (.ref 66), some (.int x0), some (.int x1), some (.int x2), some (.int x3)]) (st1 := [(.int r7)]) (mem1 := m8) rfl rfl rfl rfl ?_
          refine it_V.sN it_cd328 it_m328 1 (pc1 := (if r7 = 0 then 91 else 87)) (ls1 := [some (.ref 66), some (.int x0), some (.int x1), some (.int x2), some (.int x3)]) (st1 := []) (mem1 := m8) rfl ?_
          refine it_V.ite (fun c9 => ?_) (fun c9 => ?_)
          · have h := h.1 c9
            refine it_V.sN it_cd328 it_m328 1 (pc1 := 92) (ls1 := [some (.ref 66), some (.int x0), some (.int x1), some (.int x2), some (.int x3)]) (st1 := [(.int (0 : Int32))]) (mem1 := m8) rfl ?_
            refine it_V.weak (l := [none, none, none, none, none]) trivial ?_
            exact s_328_92 kc Φ (0 : Int32) m8 h
          · have h := h.2 c9
            refine it_V.sN it_cd328 it_m328 2 (pc1 := 92) (ls1 := [some (.ref 66), some (.int x0), some (.int x1), some (.int x2), some (.int x3)]) (st1 := [(.int (1 : Int32))]) (mem1 := m8) rfl ?_
            refine it_V.weak (l := [none, none, none, none, none]) trivial ?_
            exact s_328_92 kc Φ (1 : Int32) m8 h
        · have h := h.2 c6
          refine it_V.ite (fun c10 => ?_) (fun c10 => ?_)
          · have h := h.1 c10
            refine it_V.sN it_cd328 it_m328 3 (pc1 := 97) (ls1 := [some (.ref 66), some (.int x0), some (.int x1), some (.int x2), some (.int x3)]) (st1 := [(.int (x2 ^^^ x3))]) (mem1 := m) rfl ?_
            exact it_V.ret it_cd328 it_m328 rfl rfl ⟨_, rfl, h⟩
          · have h := h.2 c10
            refine it_V.ite (fun c11 => ?_) (fun c11 => ?_)
            · have h := h.1 c11
              refine it_V.sN it_cd328 it_m328 2 (pc1 := (if x1 = 0 then 109 else 102)) (ls1 := [some (.ref 66), some (.int x0), some (.int x1), some (.int x2), some (.int x3)]) (st1 := []) (mem1 := m) rfl ?_
              refine it_V.ite (fun c12 => ?_) (fun c12 => ?_)
              · have h := h.1 c12
                refine it_V.sN it_cd328 it_m328 3 (pc1 := 113) (ls1 := [some (.ref 66), some (.int x0), some (.int x1), some (.int x2), some (.int x3)]) (st1 := [(.int (it_us x2 x3))]) (mem1 := m) rfl ?_
                refine it_V.weak (l := [none, none, none, none, none]) trivial ?_
                exact s_328_113 kc Φ (it_us x2 x3) m h
              · have h := h.2 c12
                refine it_V.sN it_cd328 it_m328 4 (pc1 := 113) (ls1 := [some (.ref 66), some (.int x0), some (.int x1), some (.int x2), some (.int x3)]) (st1 := [(.int (it_shr x2 x3))]) (mem1 := m) rfl ?_
                refine it_V.weak (l := [none, none, none, none, none]) trivial ?_
                exact s_328_113 kc Φ (it_shr x2 x3) m h
            · have h := h.2 c11
              refine it_V.ite (fun c13 => ?_) (fun c13 => ?_)
              · have h := h.1 c13
                refine it_V.sN it_cd328 it_m328 3 (pc1 := 118) (ls1 := [some (.ref 66), some (.int x0), some (.int x1), some (.int x2), some (.int x3)]) (st1 := [(.int (x2 ||| x3))]) (mem1 := m) rfl ?_
                exact it_V.ret it_cd328 it_m328 rfl rfl ⟨_, rfl, h⟩
              · have h := h.2 c13
                refine it_V.sN it_cd328 it_m328 3 (pc1 := 123) (ls1 := [some (.ref 66), some (.int x0), some (.int x1), some (.int x2), some (.int x3)]) (st1 := [(.int (x2 &&& x3))]) (mem1 := m) rfl ?_
                exact it_V.ret it_cd328 it_m328 rfl rfl ⟨_, rfl, h⟩
