/-! The formulas are sound for the small machine. Written by wip/whole/gen_wp.py, split_wp.py -/
set_option maxRecDepth 100000 in
set_option maxHeartbeats 4000000 in
theorem s_245_37 (kc : it_Kc) (Φ : Int32 → it_Me → Prop) (K11 : Int32 → Int32 → Int32 → it_Me → Prop) (K45 : Int32 → Int32 → it_Me → Prop) (hK11 : ∀ (v1 : Int32) (v2 : Int32) (v3 : Int32) (m : it_Me), K11 v1 v2 v3 m → it_V kc it_sh0 245 11 [some (.ref 66), some (.int v1), some (.int v2), some (.int v3), none, none, none, none, none, none] [] m (it_Pi Φ)) (hK45 : ∀ (v1 : Int32) (v2 : Int32) (m : it_Me), K45 v1 v2 m → it_V kc it_sh0 245 45 [some (.ref 66), some (.int v1), some (.int v2), none, none, none, none, none, none, none] [] m (it_Pi Φ)) (v1 : Int32) (v3 : Int32) (u0 : Int32) (u1 : Int32) (m : it_Me) (h : w_245_37 kc Φ K11 K45 v1 v3 u0 u1 m) : it_V kc it_sh0 245 37 [some (.ref 66), some (.int v1), none, some (.int v3), none, none, none, none, none, none] [(.int u1), (.int u0)] m (it_Pi Φ) := by
  rw [w_245_37] at h
  refine it_V.sN it_cd245 it_m245 4 (pc1 := 11) (ls1 := [some (.ref 66), some (.int v1), some (.int (u0 ^^^ u1)), some (.int (v3 + (4 : Int32))), none, none, none, none, none, none]) (st1 := []) (mem1 := m) rfl ?_
  refine it_V.weak (l := [some (.ref 66), some (.int v1), some (.int (u0 ^^^ u1)), some (.int (v3 + (4 : Int32))), none, none, none, none, none, none]) ⟨rfl, ⟨rfl, ⟨rfl, ⟨rfl, trivial⟩⟩⟩⟩ ?_
  exact hK11 v1 (u0 ^^^ u1) (v3 + (4 : Int32)) m h
set_option maxRecDepth 100000 in
set_option maxHeartbeats 4000000 in
theorem s_245_11 (kc : it_Kc) (Φ : Int32 → it_Me → Prop) (K45 : Int32 → Int32 → it_Me → Prop) (hK45 : ∀ (v1 : Int32) (v2 : Int32) (m : it_Me), K45 v1 v2 m → it_V kc it_sh0 245 45 [some (.ref 66), some (.int v1), some (.int v2), none, none, none, none, none, none, none] [] m (it_Pi Φ)) : ∀ (n : Nat) (v1 : Int32) (v2 : Int32) (v3 : Int32) (m : it_Me) (h : w_245_11 kc Φ K45 n v1 v2 v3 m), it_V kc it_sh0 245 11 [some (.ref 66), some (.int v1), some (.int v2), some (.int v3), none, none, none, none, none, none] [] m (it_Pi Φ) := by
  intro n
  induction n with
  | zero => intro v1 v2 v3 m h; exact absurd h id
  | succ n ih =>
    intro v1 v2 v3 m h
    rw [w_245_11] at h
    refine it_V.sN it_cd245 it_m245 4 (pc1 := (if (m 66 18) ≤ v3 then 45 else 19)) (ls1 := [some (.ref 66), some (.int v1), some (.int v2), some (.int v3), none, none, none, none, none, none]) (st1 := []) (mem1 := m) rfl ?_
    refine it_V.ite (fun c1 => ?_) (fun c1 => ?_)
    · have h := h.1 c1
      refine it_V.weak (l := [some (.ref 66), some (.int v1), some (.int v2), none, none, none, none, none, none, none]) ⟨rfl, ⟨rfl, ⟨rfl, trivial⟩⟩⟩ ?_
      exact hK45 v1 v2 m h
    · have h := h.2 c1
      refine it_V.sN it_cd245 it_m245 4 (pc1 := (if v3 = (12 : Int32) then 26 else 30)) (ls1 := [some (.ref 66), some (.int v1), some (.int v2), some (.int v3), none, none, none, none, none, none]) (st1 := [(.int v2)]) (mem1 := m) rfl ?_
      refine it_V.ite (fun c2 => ?_) (fun c2 => ?_)
      · have h := h.1 c2
        refine it_V.sN it_cd245 it_m245 2 (pc1 := 37) (ls1 := [some (.ref 66), some (.int v1), some (.int v2), some (.int v3), none, none, none, none, none, none]) (st1 := [(.int (0 : Int32)), (.int v2)]) (mem1 := m) rfl ?_
        refine it_V.weak (l := [some (.ref 66), some (.int v1), none, some (.int v3), none, none, none, none, none, none]) ⟨rfl, ⟨rfl, ⟨rfl, trivial⟩⟩⟩ ?_
        exact s_245_37 kc Φ _ _ ih hK45 v1 v3 v2 (0 : Int32) m h
      · have h := h.2 c2
        refine it_V.sN it_cd245 it_m245 4 (pc1 := 34) (ls1 := [some (.ref 66), some (.int v1), some (.int v2), some (.int v3), none, none, none, none, none, none]) (st1 := [(.int (v1 + v3)), (.ref 66), (.int v2)]) (mem1 := m) rfl ?_
        refine it_V.call it_cd245 it_m245 rfl it_m220 [(.ref 66), (.int (v1 + v3))] [(.int v2)] rfl rfl ⟨Nat.le_of_ble_eq_true rfl, Nat.le_of_ble_eq_true rfl, Nat.le_of_ble_eq_true rfl, Nat.le_of_ble_eq_true rfl, rfl⟩ (s_220 kc (v1 + v3) m _ h) ?_
        rintro _ m4 ⟨r3, rfl, h⟩
        refine it_V.at (pc1 := 37) (ls1 := [some (.ref 66), some (.int v1), some (.int v2), some (.int v3), none, none, none, none, none, none]) (st1 := [(.int r3), (.int v2)]) (mem1 := m4) rfl rfl rfl rfl ?_
        refine it_V.weak (l := [some (.ref 66), some (.int v1), none, some (.int v3), none, none, none, none, none, none]) ⟨rfl, ⟨rfl, ⟨rfl, trivial⟩⟩⟩ ?_
        exact s_245_37 kc Φ _ _ ih hK45 v1 v3 v2 r3 m4 h
set_option maxRecDepth 100000 in
set_option maxHeartbeats 4000000 in
theorem s_245_324 (kc : it_Kc) (Φ : Int32 → it_Me → Prop) (K89 : Int32 → Int32 → Int32 → Int32 → Int32 → Int32 → it_Me → Prop) (K136 : it_Me → Prop) (K331 : Int32 → Int32 → Int32 → Int32 → it_Me → Prop) (hK89 : ∀ (v1 : Int32) (v2 : Int32) (v3 : Int32) (v4 : Int32) (v5 : Int32) (v6 : Int32) (m : it_Me), K89 v1 v2 v3 v4 v5 v6 m → it_V kc it_sh0 245 89 [some (.ref 66), some (.int v1), some (.int v2), some (.int v3), some (.int v4), some (.int v5), some (.int v6), none, none, none] [] m (it_Pi Φ)) (hK136 : ∀ (m : it_Me), K136 m → it_V kc it_sh0 245 136 [none, none, none, none, none, none, none, none, none, none] [] m (it_Pi Φ)) (hK331 : ∀ (v1 : Int32) (v2 : Int32) (v3 : Int32) (v4 : Int32) (m : it_Me), K331 v1 v2 v3 v4 m → it_V kc it_sh0 245 331 [some (.ref 66), some (.int v1), some (.int v2), some (.int v3), some (.int v4), none, none, none, none, none] [] m (it_Pi Φ)) (v1 : Int32) (v2 : Int32) (v3 : Int32) (v4 : Int32) (v6 : Int32) (v9 : Int32) (m : it_Me) (h : w_245_324 kc Φ K89 K136 K331 v1 v2 v3 v4 v6 v9 m) : it_V kc it_sh0 245 324 [some (.ref 66), some (.int v1), some (.int v2), some (.int v3), some (.int v4), none, some (.int v6), none, none, some (.int v9)] [] m (it_Pi Φ) := by
  rw [w_245_324] at h
  refine it_V.sN it_cd245 it_m245 3 (pc1 := 89) (ls1 := [some (.ref 66), some (.int v1), some (.int v2), some (.int v3), some (.int v4), some (.int v9), some (.int v6), none, none, some (.int v9)]) (st1 := []) (mem1 := m) rfl ?_
  refine it_V.weak (l := [some (.ref 66), some (.int v1), some (.int v2), some (.int v3), some (.int v4), some (.int v9), some (.int v6), none, none, none]) ⟨rfl, ⟨rfl, ⟨rfl, ⟨rfl, ⟨rfl, ⟨rfl, ⟨rfl, trivial⟩⟩⟩⟩⟩⟩⟩ ?_
  exact hK89 v1 v2 v3 v4 v9 v6 m h
set_option maxRecDepth 100000 in
set_option maxHeartbeats 4000000 in
theorem s_245_273 (kc : it_Kc) (Φ : Int32 → it_Me → Prop) (K89 : Int32 → Int32 → Int32 → Int32 → Int32 → Int32 → it_Me → Prop) (K136 : it_Me → Prop) (K331 : Int32 → Int32 → Int32 → Int32 → it_Me → Prop) (hK89 : ∀ (v1 : Int32) (v2 : Int32) (v3 : Int32) (v4 : Int32) (v5 : Int32) (v6 : Int32) (m : it_Me), K89 v1 v2 v3 v4 v5 v6 m → it_V kc it_sh0 245 89 [some (.ref 66), some (.int v1), some (.int v2), some (.int v3), some (.int v4), some (.int v5), some (.int v6), none, none, none] [] m (it_Pi Φ)) (hK136 : ∀ (m : it_Me), K136 m → it_V kc it_sh0 245 136 [none, none, none, none, none, none, none, none, none, none] [] m (it_Pi Φ)) (hK331 : ∀ (v1 : Int32) (v2 : Int32) (v3 : Int32) (v4 : Int32) (m : it_Me), K331 v1 v2 v3 v4 m → it_V kc it_sh0 245 331 [some (.ref 66), some (.int v1), some (.int v2), some (.int v3), some (.int v4), none, none, none, none, none] [] m (it_Pi Φ)) (v1 : Int32) (v2 : Int32) (v3 : Int32) (v4 : Int32) (v5 : Int32) (v6 : Int32) (v7 : Int32) (v8 : Int32) (v9 : Int32) (m : it_Me) (h : w_245_273 kc Φ K89 K136 K331 v1 v2 v3 v4 v5 v6 v7 v8 v9 m) : it_V kc it_sh0 245 273 [some (.ref 66), some (.int v1), some (.int v2), some (.int v3), some (.int v4), some (.int v5), some (.int v6), some (.int v7), some (.int v8), some (.int v9)] [] m (it_Pi Φ) := by
  rw [w_245_273] at h
  refine it_V.sN it_cd245 it_m245 3 (pc1 := (if v7 = (8 : Int32) then 280 else 324)) (ls1 := [some (.ref 66), some (.int v1), some (.int v2), some (.int v3), some (.int v4), some (.int v5), some (.int v6), some (.int v7), some (.int v8), some (.int v9)]) (st1 := []) (mem1 := m) rfl ?_
  refine it_V.ite (fun c1 => ?_) (fun c1 => ?_)
  · have h := h.1 c1
    refine it_V.sN it_cd245 it_m245 3 (pc1 := (if v8 < (8 : Int32) then 324 else 287)) (ls1 := [some (.ref 66), some (.int v1), some (.int v2), some (.int v3), some (.int v4), some (.int v5), some (.int v6), some (.int v7), some (.int v8), some (.int v9)]) (st1 := []) (mem1 := m) rfl ?_
    refine it_V.ite (fun c2 => ?_) (fun c2 => ?_)
    · have h := h.1 c2
      refine it_V.weak (l := [some (.ref 66), some (.int v1), some (.int v2), some (.int v3), some (.int v4), none, some (.int v6), none, none, some (.int v9)]) ⟨rfl, ⟨rfl, ⟨rfl, ⟨rfl, ⟨rfl, ⟨rfl, ⟨rfl, trivial⟩⟩⟩⟩⟩⟩⟩ ?_
      exact s_245_324 kc Φ _ _ _ hK89 hK136 hK331 v1 v2 v3 v4 v6 v9 m h
    · have h := h.2 c2
      refine it_V.sN it_cd245 it_m245 3 (pc1 := (if (64 : Int32) < v8 then 324 else 294)) (ls1 := [some (.ref 66), some (.int v1), some (.int v2), some (.int v3), some (.int v4), some (.int v5), some (.int v6), some (.int v7), some (.int v8), some (.int v9)]) (st1 := []) (mem1 := m) rfl ?_
      refine it_V.ite (fun c3 => ?_) (fun c3 => ?_)
      · have h := h.1 c3
        refine it_V.weak (l := [some (.ref 66), some (.int v1), some (.int v2), some (.int v3), some (.int v4), none, some (.int v6), none, none, some (.int v9)]) ⟨rfl, ⟨rfl, ⟨rfl, ⟨rfl, ⟨rfl, ⟨rfl, ⟨rfl, trivial⟩⟩⟩⟩⟩⟩⟩ ?_
        exact s_245_324 kc Φ _ _ _ hK89 hK136 hK331 v1 v2 v3 v4 v6 v9 m h
      · have h := h.2 c3
        refine it_V.sN it_cd245 it_m245 2 (pc1 := 298) (ls1 := [some (.ref 66), some (.int v1), some (.int v2), some (.int v3), some (.int v4), some (.int v5), some (.int v6), some (.int v7), some (.int v8), some (.int v9)]) (st1 := [(.int (8 : Int32)), (.int v8)]) (mem1 := m) rfl ?_
        obtain ⟨g4, h⟩ := h
        refine it_V.s1 it_cd245 it_m245 (pc1 := 299) (ls1 := [some (.ref 66), some (.int v1), some (.int v2), some (.int v3), some (.int v4), some (.int v5), some (.int v6), some (.int v7), some (.int v8), some (.int v9)]) (st1 := [(.int (it_rem v8 (8 : Int32)))]) (mem1 := m) (by simp only [it_s1, show it_lk it_c245 298 = some (0, .irem, 0, 0) from rfl, it_ops, if_neg g4]; rfl) ?_
        refine it_V.sN it_cd245 it_m245 1 (pc1 := (if (it_rem v8 (8 : Int32)) = 0 then 302 else 324)) (ls1 := [some (.ref 66), some (.int v1), some (.int v2), some (.int v3), some (.int v4), some (.int v5), some (.int v6), some (.int v7), some (.int v8), some (.int v9)]) (st1 := []) (mem1 := m) rfl ?_
        refine it_V.ite (fun c5 => ?_) (fun c5 => ?_)
        · have h := h.1 c5
          refine it_V.sN it_cd245 it_m245 4 (pc1 := (if (m 66 27) = (-1 : Int32) then 310 else 324)) (ls1 := [some (.ref 66), some (.int v1), some (.int v2), some (.int v3), some (.int v4), some (.int v5), some (.int v6), some (.int v7), some (.int v8), some (.int v9)]) (st1 := []) (mem1 := m) rfl ?_
          refine it_V.ite (fun c6 => ?_) (fun c6 => ?_)
          · have h := h.1 c6
            refine it_V.sN it_cd245 it_m245 8 (pc1 := 324) (ls1 := [some (.ref 66), some (.int v1), some (.int v2), some (.int v3), some (.int v4), some (.int v5), some (.int v6), some (.int v7), some (.int v8), some (.int v9)]) (st1 := []) (mem1 := (it_sv (it_sv m 66 27 (v5 + (4 : Int32))) 66 28 v8)) rfl ?_
            refine it_V.weak (l := [some (.ref 66), some (.int v1), some (.int v2), some (.int v3), some (.int v4), none, some (.int v6), none, none, some (.int v9)]) ⟨rfl, ⟨rfl, ⟨rfl, ⟨rfl, ⟨rfl, ⟨rfl, ⟨rfl, trivial⟩⟩⟩⟩⟩⟩⟩ ?_
            exact s_245_324 kc Φ _ _ _ hK89 hK136 hK331 v1 v2 v3 v4 v6 v9 (it_sv (it_sv m 66 27 (v5 + (4 : Int32))) 66 28 v8) h
          · have h := h.2 c6
            refine it_V.weak (l := [some (.ref 66), some (.int v1), some (.int v2), some (.int v3), some (.int v4), none, some (.int v6), none, none, some (.int v9)]) ⟨rfl, ⟨rfl, ⟨rfl, ⟨rfl, ⟨rfl, ⟨rfl, ⟨rfl, trivial⟩⟩⟩⟩⟩⟩⟩ ?_
            exact s_245_324 kc Φ _ _ _ hK89 hK136 hK331 v1 v2 v3 v4 v6 v9 m h
        · have h := h.2 c5
          refine it_V.weak (l := [some (.ref 66), some (.int v1), some (.int v2), some (.int v3), some (.int v4), none, some (.int v6), none, none, some (.int v9)]) ⟨rfl, ⟨rfl, ⟨rfl, ⟨rfl, ⟨rfl, ⟨rfl, ⟨rfl, trivial⟩⟩⟩⟩⟩⟩⟩ ?_
          exact s_245_324 kc Φ _ _ _ hK89 hK136 hK331 v1 v2 v3 v4 v6 v9 m h
  · have h := h.2 c1
    refine it_V.weak (l := [some (.ref 66), some (.int v1), some (.int v2), some (.int v3), some (.int v4), none, some (.int v6), none, none, some (.int v9)]) ⟨rfl, ⟨rfl, ⟨rfl, ⟨rfl, ⟨rfl, ⟨rfl, ⟨rfl, trivial⟩⟩⟩⟩⟩⟩⟩ ?_
    exact s_245_324 kc Φ _ _ _ hK89 hK136 hK331 v1 v2 v3 v4 v6 v9 m h
set_option maxRecDepth 100000 in
set_option maxHeartbeats 4000000 in
theorem s_245_229 (kc : it_Kc) (Φ : Int32 → it_Me → Prop) (K89 : Int32 → Int32 → Int32 → Int32 → Int32 → Int32 → it_Me → Prop) (K136 : it_Me → Prop) (K331 : Int32 → Int32 → Int32 → Int32 → it_Me → Prop) (hK89 : ∀ (v1 : Int32) (v2 : Int32) (v3 : Int32) (v4 : Int32) (v5 : Int32) (v6 : Int32) (m : it_Me), K89 v1 v2 v3 v4 v5 v6 m → it_V kc it_sh0 245 89 [some (.ref 66), some (.int v1), some (.int v2), some (.int v3), some (.int v4), some (.int v5), some (.int v6), none, none, none] [] m (it_Pi Φ)) (hK136 : ∀ (m : it_Me), K136 m → it_V kc it_sh0 245 136 [none, none, none, none, none, none, none, none, none, none] [] m (it_Pi Φ)) (hK331 : ∀ (v1 : Int32) (v2 : Int32) (v3 : Int32) (v4 : Int32) (m : it_Me), K331 v1 v2 v3 v4 m → it_V kc it_sh0 245 331 [some (.ref 66), some (.int v1), some (.int v2), some (.int v3), some (.int v4), none, none, none, none, none] [] m (it_Pi Φ)) (v1 : Int32) (v2 : Int32) (v3 : Int32) (v4 : Int32) (v5 : Int32) (v6 : Int32) (v7 : Int32) (v8 : Int32) (v9 : Int32) (u1 : Int32) (m : it_Me) (h : w_245_229 kc Φ K89 K136 K331 v1 v2 v3 v4 v5 v6 v7 v8 v9 u1 m) : it_V kc it_sh0 245 229 [some (.ref 66), some (.int v1), some (.int v2), some (.int v3), some (.int v4), some (.int v5), some (.int v6), some (.int v7), some (.int v8), some (.int v9)] [(.int u1), (.ref 66)] m (it_Pi Φ) := by
  rw [w_245_229] at h
  refine it_V.sN it_cd245 it_m245 4 (pc1 := (if v7 = (3 : Int32) then 238 else 273)) (ls1 := [some (.ref 66), some (.int v1), some (.int v2), some (.int v3), some (.int v4), some (.int v5), some (.int v6), some (.int v7), some (.int v8), some (.int v9)]) (st1 := []) (mem1 := (it_sv m 66 26 u1)) rfl ?_
  refine it_V.ite (fun c1 => ?_) (fun c1 => ?_)
  · have h := h.1 c1
    refine it_V.sN it_cd245 it_m245 3 (pc1 := (if v8 < (1 : Int32) then 273 else 244)) (ls1 := [some (.ref 66), some (.int v1), some (.int v2), some (.int v3), some (.int v4), some (.int v5), some (.int v6), some (.int v7), some (.int v8), some (.int v9)]) (st1 := []) (mem1 := (it_sv m 66 26 u1)) rfl ?_
    refine it_V.ite (fun c2 => ?_) (fun c2 => ?_)
    · have h := h.1 c2
      exact s_245_273 kc Φ _ _ _ hK89 hK136 hK331 v1 v2 v3 v4 v5 v6 v7 v8 v9 (it_sv m 66 26 u1) h
    · have h := h.2 c2
      refine it_V.sN it_cd245 it_m245 3 (pc1 := (if (16 : Int32) < v8 then 273 else 251)) (ls1 := [some (.ref 66), some (.int v1), some (.int v2), some (.int v3), some (.int v4), some (.int v5), some (.int v6), some (.int v7), some (.int v8), some (.int v9)]) (st1 := []) (mem1 := (it_sv m 66 26 u1)) rfl ?_
      refine it_V.ite (fun c3 => ?_) (fun c3 => ?_)
      · have h := h.1 c3
        exact s_245_273 kc Φ _ _ _ hK89 hK136 hK331 v1 v2 v3 v4 v5 v6 v7 v8 v9 (it_sv m 66 26 u1) h
      · have h := h.2 c3
        refine it_V.sN it_cd245 it_m245 4 (pc1 := (if ((it_sv m 66 26 u1) 66 24) = (-1 : Int32) then 259 else 273)) (ls1 := [some (.ref 66), some (.int v1), some (.int v2), some (.int v3), some (.int v4), some (.int v5), some (.int v6), some (.int v7), some (.int v8), some (.int v9)]) (st1 := []) (mem1 := (it_sv m 66 26 u1)) rfl ?_
        refine it_V.ite (fun c4 => ?_) (fun c4 => ?_)
        · have h := h.1 c4
          refine it_V.sN it_cd245 it_m245 8 (pc1 := 273) (ls1 := [some (.ref 66), some (.int v1), some (.int v2), some (.int v3), some (.int v4), some (.int v5), some (.int v6), some (.int v7), some (.int v8), some (.int v9)]) (st1 := []) (mem1 := (it_sv (it_sv (it_sv m 66 26 u1) 66 24 (v5 + (4 : Int32))) 66 25 v8)) rfl ?_
          exact s_245_273 kc Φ _ _ _ hK89 hK136 hK331 v1 v2 v3 v4 v5 v6 v7 v8 v9 (it_sv (it_sv (it_sv m 66 26 u1) 66 24 (v5 + (4 : Int32))) 66 25 v8) h
        · have h := h.2 c4
          exact s_245_273 kc Φ _ _ _ hK89 hK136 hK331 v1 v2 v3 v4 v5 v6 v7 v8 v9 (it_sv m 66 26 u1) h
  · have h := h.2 c1
    exact s_245_273 kc Φ _ _ _ hK89 hK136 hK331 v1 v2 v3 v4 v5 v6 v7 v8 v9 (it_sv m 66 26 u1) h
set_option maxRecDepth 100000 in
set_option maxHeartbeats 4000000 in
theorem s_245_225 (kc : it_Kc) (Φ : Int32 → it_Me → Prop) (K89 : Int32 → Int32 → Int32 → Int32 → Int32 → Int32 → it_Me → Prop) (K136 : it_Me → Prop) (K331 : Int32 → Int32 → Int32 → Int32 → it_Me → Prop) (hK89 : ∀ (v1 : Int32) (v2 : Int32) (v3 : Int32) (v4 : Int32) (v5 : Int32) (v6 : Int32) (m : it_Me), K89 v1 v2 v3 v4 v5 v6 m → it_V kc it_sh0 245 89 [some (.ref 66), some (.int v1), some (.int v2), some (.int v3), some (.int v4), some (.int v5), some (.int v6), none, none, none] [] m (it_Pi Φ)) (hK136 : ∀ (m : it_Me), K136 m → it_V kc it_sh0 245 136 [none, none, none, none, none, none, none, none, none, none] [] m (it_Pi Φ)) (hK331 : ∀ (v1 : Int32) (v2 : Int32) (v3 : Int32) (v4 : Int32) (m : it_Me), K331 v1 v2 v3 v4 m → it_V kc it_sh0 245 331 [some (.ref 66), some (.int v1), some (.int v2), some (.int v3), some (.int v4), none, none, none, none, none] [] m (it_Pi Φ)) (v1 : Int32) (v2 : Int32) (v3 : Int32) (v4 : Int32) (v5 : Int32) (v6 : Int32) (v7 : Int32) (v8 : Int32) (v9 : Int32) (m : it_Me) (h : w_245_225 kc Φ K89 K136 K331 v1 v2 v3 v4 v5 v6 v7 v8 v9 m) : it_V kc it_sh0 245 225 [some (.ref 66), some (.int v1), some (.int v2), some (.int v3), some (.int v4), some (.int v5), some (.int v6), some (.int v7), some (.int v8), some (.int v9)] [(.ref 66)] m (it_Pi Φ) := by
  rw [w_245_225] at h
  refine it_V.sN it_cd245 it_m245 2 (pc1 := 229) (ls1 := [some (.ref 66), some (.int v1), some (.int v2), some (.int v3), some (.int v4), some (.int v5), some (.int v6), some (.int v7), some (.int v8), some (.int v9)]) (st1 := [(.int (m 66 26)), (.ref 66)]) (mem1 := m) rfl ?_
  exact s_245_229 kc Φ _ _ _ hK89 hK136 hK331 v1 v2 v3 v4 v5 v6 v7 v8 v9 (m 66 26) m h
set_option maxRecDepth 100000 in
set_option maxHeartbeats 4000000 in
theorem s_245_194 (kc : it_Kc) (Φ : Int32 → it_Me → Prop) (K89 : Int32 → Int32 → Int32 → Int32 → Int32 → Int32 → it_Me → Prop) (K136 : it_Me → Prop) (K331 : Int32 → Int32 → Int32 → Int32 → it_Me → Prop) (hK89 : ∀ (v1 : Int32) (v2 : Int32) (v3 : Int32) (v4 : Int32) (v5 : Int32) (v6 : Int32) (m : it_Me), K89 v1 v2 v3 v4 v5 v6 m → it_V kc it_sh0 245 89 [some (.ref 66), some (.int v1), some (.int v2), some (.int v3), some (.int v4), some (.int v5), some (.int v6), none, none, none] [] m (it_Pi Φ)) (hK136 : ∀ (m : it_Me), K136 m → it_V kc it_sh0 245 136 [none, none, none, none, none, none, none, none, none, none] [] m (it_Pi Φ)) (hK331 : ∀ (v1 : Int32) (v2 : Int32) (v3 : Int32) (v4 : Int32) (m : it_Me), K331 v1 v2 v3 v4 m → it_V kc it_sh0 245 331 [some (.ref 66), some (.int v1), some (.int v2), some (.int v3), some (.int v4), none, none, none, none, none] [] m (it_Pi Φ)) (v1 : Int32) (v2 : Int32) (v3 : Int32) (v5 : Int32) (v6 : Int32) (v7 : Int32) (v8 : Int32) (v9 : Int32) (u0 : Int32) (m : it_Me) (h : w_245_194 kc Φ K89 K136 K331 v1 v2 v3 v5 v6 v7 v8 v9 u0 m) : it_V kc it_sh0 245 194 [some (.ref 66), some (.int v1), some (.int v2), some (.int v3), none, some (.int v5), some (.int v6), some (.int v7), some (.int v8), some (.int v9)] [(.int u0)] m (it_Pi Φ) := by
  rw [w_245_194] at h
  refine it_V.sN it_cd245 it_m245 5 (pc1 := (if v7 = (7 : Int32) then 204 else 225)) (ls1 := [some (.ref 66), some (.int v1), some (.int v2), some (.int v3), some (.int u0), some (.int v5), some (.int v6), some (.int v7), some (.int v8), some (.int v9)]) (st1 := [(.ref 66)]) (mem1 := m) rfl ?_
  refine it_V.ite (fun c1 => ?_) (fun c1 => ?_)
  · have h := h.1 c1
    refine it_V.sN it_cd245 it_m245 3 (pc1 := (if v8 = (4 : Int32) then 210 else 225)) (ls1 := [some (.ref 66), some (.int v1), some (.int v2), some (.int v3), some (.int u0), some (.int v5), some (.int v6), some (.int v7), some (.int v8), some (.int v9)]) (st1 := [(.ref 66)]) (mem1 := m) rfl ?_
    refine it_V.ite (fun c2 => ?_) (fun c2 => ?_)
    · have h := h.1 c2
      refine it_V.sN it_cd245 it_m245 4 (pc1 := (if (m 66 26) = (-1 : Int32) then 218 else 225)) (ls1 := [some (.ref 66), some (.int v1), some (.int v2), some (.int v3), some (.int u0), some (.int v5), some (.int v6), some (.int v7), some (.int v8), some (.int v9)]) (st1 := [(.ref 66)]) (mem1 := m) rfl ?_
      refine it_V.ite (fun c3 => ?_) (fun c3 => ?_)
      · have h := h.1 c3
        refine it_V.sN it_cd245 it_m245 4 (pc1 := 229) (ls1 := [some (.ref 66), some (.int v1), some (.int v2), some (.int v3), some (.int u0), some (.int v5), some (.int v6), some (.int v7), some (.int v8), some (.int v9)]) (st1 := [(.int (v5 + (4 : Int32))), (.ref 66)]) (mem1 := m) rfl ?_
        exact s_245_229 kc Φ _ _ _ hK89 hK136 hK331 v1 v2 v3 u0 v5 v6 v7 v8 v9 (v5 + (4 : Int32)) m h
      · have h := h.2 c3
        exact s_245_225 kc Φ _ _ _ hK89 hK136 hK331 v1 v2 v3 u0 v5 v6 v7 v8 v9 m h
    · have h := h.2 c2
      exact s_245_225 kc Φ _ _ _ hK89 hK136 hK331 v1 v2 v3 u0 v5 v6 v7 v8 v9 m h
  · have h := h.2 c1
    exact s_245_225 kc Φ _ _ _ hK89 hK136 hK331 v1 v2 v3 u0 v5 v6 v7 v8 v9 m h
set_option maxRecDepth 100000 in
set_option maxHeartbeats 4000000 in
theorem s_245_192 (kc : it_Kc) (Φ : Int32 → it_Me → Prop) (K89 : Int32 → Int32 → Int32 → Int32 → Int32 → Int32 → it_Me → Prop) (K136 : it_Me → Prop) (K331 : Int32 → Int32 → Int32 → Int32 → it_Me → Prop) (hK89 : ∀ (v1 : Int32) (v2 : Int32) (v3 : Int32) (v4 : Int32) (v5 : Int32) (v6 : Int32) (m : it_Me), K89 v1 v2 v3 v4 v5 v6 m → it_V kc it_sh0 245 89 [some (.ref 66), some (.int v1), some (.int v2), some (.int v3), some (.int v4), some (.int v5), some (.int v6), none, none, none] [] m (it_Pi Φ)) (hK136 : ∀ (m : it_Me), K136 m → it_V kc it_sh0 245 136 [none, none, none, none, none, none, none, none, none, none] [] m (it_Pi Φ)) (hK331 : ∀ (v1 : Int32) (v2 : Int32) (v3 : Int32) (v4 : Int32) (m : it_Me), K331 v1 v2 v3 v4 m → it_V kc it_sh0 245 331 [some (.ref 66), some (.int v1), some (.int v2), some (.int v3), some (.int v4), none, none, none, none, none] [] m (it_Pi Φ)) (v1 : Int32) (v2 : Int32) (v3 : Int32) (v4 : Int32) (v5 : Int32) (v6 : Int32) (v7 : Int32) (v8 : Int32) (v9 : Int32) (m : it_Me) (h : w_245_192 kc Φ K89 K136 K331 v1 v2 v3 v4 v5 v6 v7 v8 v9 m) : it_V kc it_sh0 245 192 [some (.ref 66), some (.int v1), some (.int v2), some (.int v3), some (.int v4), some (.int v5), some (.int v6), some (.int v7), some (.int v8), some (.int v9)] [] m (it_Pi Φ) := by
  rw [w_245_192] at h
  refine it_V.sN it_cd245 it_m245 1 (pc1 := 194) (ls1 := [some (.ref 66), some (.int v1), some (.int v2), some (.int v3), some (.int v4), some (.int v5), some (.int v6), some (.int v7), some (.int v8), some (.int v9)]) (st1 := [(.int v4)]) (mem1 := m) rfl ?_
  refine it_V.weak (l := [some (.ref 66), some (.int v1), some (.int v2), some (.int v3), none, some (.int v5), some (.int v6), some (.int v7), some (.int v8), some (.int v9)]) ⟨rfl, ⟨rfl, ⟨rfl, ⟨rfl, ⟨rfl, ⟨rfl, ⟨rfl, ⟨rfl, ⟨rfl, trivial⟩⟩⟩⟩⟩⟩⟩⟩⟩ ?_
  exact s_245_194 kc Φ _ _ _ hK89 hK136 hK331 v1 v2 v3 v5 v6 v7 v8 v9 v4 m h
set_option maxRecDepth 100000 in
set_option maxHeartbeats 4000000 in
theorem s_245_164 (kc : it_Kc) (Φ : Int32 → it_Me → Prop) (K89 : Int32 → Int32 → Int32 → Int32 → Int32 → Int32 → it_Me → Prop) (K136 : it_Me → Prop) (K331 : Int32 → Int32 → Int32 → Int32 → it_Me → Prop) (hK89 : ∀ (v1 : Int32) (v2 : Int32) (v3 : Int32) (v4 : Int32) (v5 : Int32) (v6 : Int32) (m : it_Me), K89 v1 v2 v3 v4 v5 v6 m → it_V kc it_sh0 245 89 [some (.ref 66), some (.int v1), some (.int v2), some (.int v3), some (.int v4), some (.int v5), some (.int v6), none, none, none] [] m (it_Pi Φ)) (hK136 : ∀ (m : it_Me), K136 m → it_V kc it_sh0 245 136 [none, none, none, none, none, none, none, none, none, none] [] m (it_Pi Φ)) (hK331 : ∀ (v1 : Int32) (v2 : Int32) (v3 : Int32) (v4 : Int32) (m : it_Me), K331 v1 v2 v3 v4 m → it_V kc it_sh0 245 331 [some (.ref 66), some (.int v1), some (.int v2), some (.int v3), some (.int v4), none, none, none, none, none] [] m (it_Pi Φ)) (v1 : Int32) (v2 : Int32) (v4 : Int32) (v5 : Int32) (v6 : Int32) (v7 : Int32) (v8 : Int32) (v9 : Int32) (u0 : Int32) (m : it_Me) (h : w_245_164 kc Φ K89 K136 K331 v1 v2 v4 v5 v6 v7 v8 v9 u0 m) : it_V kc it_sh0 245 164 [some (.ref 66), some (.int v1), some (.int v2), none, some (.int v4), some (.int v5), some (.int v6), some (.int v7), some (.int v8), some (.int v9)] [(.int u0)] m (it_Pi Φ) := by
  rw [w_245_164] at h
  refine it_V.sN it_cd245 it_m245 4 (pc1 := (if v7 = (9 : Int32) then 172 else 192)) (ls1 := [some (.ref 66), some (.int v1), some (.int v2), some (.int u0), some (.int v4), some (.int v5), some (.int v6), some (.int v7), some (.int v8), some (.int v9)]) (st1 := []) (mem1 := m) rfl ?_
  refine it_V.ite (fun c1 => ?_) (fun c1 => ?_)
  · have h := h.1 c1
    refine it_V.sN it_cd245 it_m245 3 (pc1 := (if v8 = (20 : Int32) then 179 else 192)) (ls1 := [some (.ref 66), some (.int v1), some (.int v2), some (.int u0), some (.int v4), some (.int v5), some (.int v6), some (.int v7), some (.int v8), some (.int v9)]) (st1 := []) (mem1 := m) rfl ?_
    refine it_V.ite (fun c2 => ?_) (fun c2 => ?_)
    · have h := h.1 c2
      refine it_V.sN it_cd245 it_m245 3 (pc1 := (if v4 = (-1 : Int32) then 185 else 192)) (ls1 := [some (.ref 66), some (.int v1), some (.int v2), some (.int u0), some (.int v4), some (.int v5), some (.int v6), some (.int v7), some (.int v8), some (.int v9)]) (st1 := []) (mem1 := m) rfl ?_
      refine it_V.ite (fun c3 => ?_) (fun c3 => ?_)
      · have h := h.1 c3
        refine it_V.sN it_cd245 it_m245 4 (pc1 := 194) (ls1 := [some (.ref 66), some (.int v1), some (.int v2), some (.int u0), some (.int v4), some (.int v5), some (.int v6), some (.int v7), some (.int v8), some (.int v9)]) (st1 := [(.int (v5 + (4 : Int32)))]) (mem1 := m) rfl ?_
        refine it_V.weak (l := [some (.ref 66), some (.int v1), some (.int v2), some (.int u0), none, some (.int v5), some (.int v6), some (.int v7), some (.int v8), some (.int v9)]) ⟨rfl, ⟨rfl, ⟨rfl, ⟨rfl, ⟨rfl, ⟨rfl, ⟨rfl, ⟨rfl, ⟨rfl, trivial⟩⟩⟩⟩⟩⟩⟩⟩⟩ ?_
        exact s_245_194 kc Φ _ _ _ hK89 hK136 hK331 v1 v2 u0 v5 v6 v7 v8 v9 (v5 + (4 : Int32)) m h
      · have h := h.2 c3
        exact s_245_192 kc Φ _ _ _ hK89 hK136 hK331 v1 v2 u0 v4 v5 v6 v7 v8 v9 m h
    · have h := h.2 c2
      exact s_245_192 kc Φ _ _ _ hK89 hK136 hK331 v1 v2 u0 v4 v5 v6 v7 v8 v9 m h
  · have h := h.2 c1
    exact s_245_192 kc Φ _ _ _ hK89 hK136 hK331 v1 v2 u0 v4 v5 v6 v7 v8 v9 m h
set_option maxRecDepth 100000 in
set_option maxHeartbeats 4000000 in
theorem s_245_163 (kc : it_Kc) (Φ : Int32 → it_Me → Prop) (K89 : Int32 → Int32 → Int32 → Int32 → Int32 → Int32 → it_Me → Prop) (K136 : it_Me → Prop) (K331 : Int32 → Int32 → Int32 → Int32 → it_Me → Prop) (hK89 : ∀ (v1 : Int32) (v2 : Int32) (v3 : Int32) (v4 : Int32) (v5 : Int32) (v6 : Int32) (m : it_Me), K89 v1 v2 v3 v4 v5 v6 m → it_V kc it_sh0 245 89 [some (.ref 66), some (.int v1), some (.int v2), some (.int v3), some (.int v4), some (.int v5), some (.int v6), none, none, none] [] m (it_Pi Φ)) (hK136 : ∀ (m : it_Me), K136 m → it_V kc it_sh0 245 136 [none, none, none, none, none, none, none, none, none, none] [] m (it_Pi Φ)) (hK331 : ∀ (v1 : Int32) (v2 : Int32) (v3 : Int32) (v4 : Int32) (m : it_Me), K331 v1 v2 v3 v4 m → it_V kc it_sh0 245 331 [some (.ref 66), some (.int v1), some (.int v2), some (.int v3), some (.int v4), none, none, none, none, none] [] m (it_Pi Φ)) (v1 : Int32) (v2 : Int32) (v3 : Int32) (v4 : Int32) (v5 : Int32) (v6 : Int32) (v7 : Int32) (v8 : Int32) (v9 : Int32) (m : it_Me) (h : w_245_163 kc Φ K89 K136 K331 v1 v2 v3 v4 v5 v6 v7 v8 v9 m) : it_V kc it_sh0 245 163 [some (.ref 66), some (.int v1), some (.int v2), some (.int v3), some (.int v4), some (.int v5), some (.int v6), some (.int v7), some (.int v8), some (.int v9)] [] m (it_Pi Φ) := by
  rw [w_245_163] at h
  refine it_V.sN it_cd245 it_m245 1 (pc1 := 164) (ls1 := [some (.ref 66), some (.int v1), some (.int v2), some (.int v3), some (.int v4), some (.int v5), some (.int v6), some (.int v7), some (.int v8), some (.int v9)]) (st1 := [(.int v3)]) (mem1 := m) rfl ?_
  refine it_V.weak (l := [some (.ref 66), some (.int v1), some (.int v2), none, some (.int v4), some (.int v5), some (.int v6), some (.int v7), some (.int v8), some (.int v9)]) ⟨rfl, ⟨rfl, ⟨rfl, ⟨rfl, ⟨rfl, ⟨rfl, ⟨rfl, ⟨rfl, ⟨rfl, trivial⟩⟩⟩⟩⟩⟩⟩⟩⟩ ?_
  exact s_245_164 kc Φ _ _ _ hK89 hK136 hK331 v1 v2 v4 v5 v6 v7 v8 v9 v3 m h
set_option maxRecDepth 100000 in
set_option maxHeartbeats 4000000 in
theorem s_245_89 (kc : it_Kc) (Φ : Int32 → it_Me → Prop) (K136 : it_Me → Prop) (K331 : Int32 → Int32 → Int32 → Int32 → it_Me → Prop) (hK136 : ∀ (m : it_Me), K136 m → it_V kc it_sh0 245 136 [none, none, none, none, none, none, none, none, none, none] [] m (it_Pi Φ)) (hK331 : ∀ (v1 : Int32) (v2 : Int32) (v3 : Int32) (v4 : Int32) (m : it_Me), K331 v1 v2 v3 v4 m → it_V kc it_sh0 245 331 [some (.ref 66), some (.int v1), some (.int v2), some (.int v3), some (.int v4), none, none, none, none, none] [] m (it_Pi Φ)) : ∀ (n : Nat) (v1 : Int32) (v2 : Int32) (v3 : Int32) (v4 : Int32) (v5 : Int32) (v6 : Int32) (m : it_Me) (h : w_245_89 kc Φ K136 K331 n v1 v2 v3 v4 v5 v6 m), it_V kc it_sh0 245 89 [some (.ref 66), some (.int v1), some (.int v2), some (.int v3), some (.int v4), some (.int v5), some (.int v6), none, none, none] [] m (it_Pi Φ) := by
  intro n
  induction n with
  | zero => intro v1 v2 v3 v4 v5 v6 m h; exact absurd h id
  | succ n ih =>
    intro v1 v2 v3 v4 v5 v6 m h
    rw [w_245_89] at h
    refine it_V.sN it_cd245 it_m245 3 (pc1 := (if v6 ≤ v5 then 331 else 96)) (ls1 := [some (.ref 66), some (.int v1), some (.int v2), some (.int v3), some (.int v4), some (.int v5), some (.int v6), none, none, none]) (st1 := []) (mem1 := m) rfl ?_
    refine it_V.ite (fun c1 => ?_) (fun c1 => ?_)
    · have h := h.1 c1
      refine it_V.weak (l := [some (.ref 66), some (.int v1), some (.int v2), some (.int v3), some (.int v4), none, none, none, none, none]) ⟨rfl, ⟨rfl, ⟨rfl, ⟨rfl, ⟨rfl, trivial⟩⟩⟩⟩⟩ ?_
      exact hK331 v1 v2 v3 v4 m h
    · have h := h.2 c1
      refine it_V.sN it_cd245 it_m245 2 (pc1 := 99) (ls1 := [some (.ref 66), some (.int v1), some (.int v2), some (.int v3), some (.int v4), some (.int v5), some (.int v6), none, none, none]) (st1 := [(.int v5), (.ref 66)]) (mem1 := m) rfl ?_
      refine it_V.call it_cd245 it_m245 rfl it_m219 [(.ref 66), (.int v5)] [] rfl rfl ⟨Nat.le_of_ble_eq_true rfl, Nat.le_of_ble_eq_true rfl, Nat.le_of_ble_eq_true rfl, Nat.le_of_ble_eq_true rfl, rfl⟩ (s_219 kc v5 m _ h) ?_
      rintro _ m3 ⟨r2, rfl, h⟩
      refine it_V.at (pc1 := 102) (ls1 := [some (.ref 66), some (.int v1), some (.int v2), some (.int v3), some (.int v4), some (.int v5), some (.int v6), none, none, none]) (st1 := [(.int r2)]) (mem1 := m3) rfl rfl rfl rfl ?_
      refine it_V.sN it_cd245 it_m245 5 (pc1 := 109) (ls1 := [some (.ref 66), some (.int v1), some (.int v2), some (.int v3), some (.int v4), some (.int v5), some (.int v6), some (.int r2), none, none]) (st1 := [(.int (v5 + (2 : Int32))), (.ref 66)]) (mem1 := m3) rfl ?_
      refine it_V.call it_cd245 it_m245 rfl it_m219 [(.ref 66), (.int (v5 + (2 : Int32)))] [] rfl rfl ⟨Nat.le_of_ble_eq_true rfl, Nat.le_of_ble_eq_true rfl, Nat.le_of_ble_eq_true rfl, Nat.le_of_ble_eq_true rfl, rfl⟩ (s_219 kc (v5 + (2 : Int32)) m3 _ h) ?_
      rintro _ m5 ⟨r4, rfl, h⟩
      refine it_V.at (pc1 := 112) (ls1 := [some (.ref 66), some (.int v1), some (.int v2), some (.int v3), some (.int v4), some (.int v5), some (.int v6), some (.int r2), none, none]) (st1 := [(.int r4)]) (mem1 := m5) rfl rfl rfl rfl ?_
      refine it_V.sN it_cd245 it_m245 8 (pc1 := 123) (ls1 := [some (.ref 66), some (.int v1), some (.int v2), some (.int v3), some (.int v4), some (.int v5), some (.int v6), some (.int r2), some (.int r4), none]) (st1 := [(.int (4 : Int32)), (.int (r4 + (3 : Int32))), (.int (v5 + (4 : Int32)))]) (mem1 := m5) rfl ?_
      obtain ⟨g6, h⟩ := h
      refine it_V.s1 it_cd245 it_m245 (pc1 := 124) (ls1 := [some (.ref 66), some (.int v1), some (.int v2), some (.int v3), some (.int v4), some (.int v5), some (.int v6), some (.int r2), some (.int r4), none]) (st1 := [(.int ((r4 + (3 : Int32)) / (4 : Int32))), (.int (v5 + (4 : Int32)))]) (mem1 := m5) (by simp only [it_s1, show it_lk it_c245 123 = some (0, .idiv, 0, 0) from rfl, it_ops, if_neg g6]; rfl) ?_
      refine it_V.sN it_cd245 it_m245 7 (pc1 := (if ((v5 + (4 : Int32)) + (((r4 + (3 : Int32)) / (4 : Int32)) * (4 : Int32))) ≤ v6 then 138 else 136)) (ls1 := [some (.ref 66), some (.int v1), some (.int v2), some (.int v3), some (.int v4), some (.int v5), some (.int v6), some (.int r2), some (.int r4), some (.int ((v5 + (4 : Int32)) + (((r4 + (3 : Int32)) / (4 : Int32)) * (4 : Int32))))]) (st1 := []) (mem1 := m5) rfl ?_
      refine it_V.ite (fun c7 => ?_) (fun c7 => ?_)
      · have h := h.1 c7
        refine it_V.sN it_cd245 it_m245 3 (pc1 := (if r2 = (1 : Int32) then 144 else 163)) (ls1 := [some (.ref 66), some (.int v1), some (.int v2), some (.int v3), some (.int v4), some (.int v5), some (.int v6), some (.int r2), some (.int r4), some (.int ((v5 + (4 : Int32)) + (((r4 + (3 : Int32)) / (4 : Int32)) * (4 : Int32))))]) (st1 := []) (mem1 := m5) rfl ?_
        refine it_V.ite (fun c8 => ?_) (fun c8 => ?_)
        · have h := h.1 c8
          refine it_V.sN it_cd245 it_m245 3 (pc1 := (if r4 = (12 : Int32) then 151 else 163)) (ls1 := [some (.ref 66), some (.int v1), some (.int v2), some (.int v3), some (.int v4), some (.int v5), some (.int v6), some (.int r2), some (.int r4), some (.int ((v5 + (4 : Int32)) + (((r4 + (3 : Int32)) / (4 : Int32)) * (4 : Int32))))]) (st1 := []) (mem1 := m5) rfl ?_
          refine it_V.ite (fun c9 => ?_) (fun c9 => ?_)
          · have h := h.1 c9
            refine it_V.sN it_cd245 it_m245 3 (pc1 := (if v3 = (-1 : Int32) then 156 else 163)) (ls1 := [some (.ref 66), some (.int v1), some (.int v2), some (.int v3), some (.int v4), some (.int v5), some (.int v6), some (.int r2), some (.int r4), some (.int ((v5 + (4 : Int32)) + (((r4 + (3 : Int32)) / (4 : Int32)) * (4 : Int32))))]) (st1 := []) (mem1 := m5) rfl ?_
            refine it_V.ite (fun c10 => ?_) (fun c10 => ?_)
            · have h := h.1 c10
              refine it_V.sN it_cd245 it_m245 4 (pc1 := 164) (ls1 := [some (.ref 66), some (.int v1), some (.int v2), some (.int v3), some (.int v4), some (.int v5), some (.int v6), some (.int r2), some (.int r4), some (.int ((v5 + (4 : Int32)) + (((r4 + (3 : Int32)) / (4 : Int32)) * (4 : Int32))))]) (st1 := [(.int (v5 + (4 : Int32)))]) (mem1 := m5) rfl ?_
              refine it_V.weak (l := [some (.ref 66), some (.int v1), some (.int v2), none, some (.int v4), some (.int v5), some (.int v6), some (.int r2), some (.int r4), some (.int ((v5 + (4 : Int32)) + (((r4 + (3 : Int32)) / (4 : Int32)) * (4 : Int32))))]) ⟨rfl, ⟨rfl, ⟨rfl, ⟨rfl, ⟨rfl, ⟨rfl, ⟨rfl, ⟨rfl, ⟨rfl, trivial⟩⟩⟩⟩⟩⟩⟩⟩⟩ ?_
              exact s_245_164 kc Φ _ _ _ ih hK136 hK331 v1 v2 v4 v5 v6 r2 r4 ((v5 + (4 : Int32)) + (((r4 + (3 : Int32)) / (4 : Int32)) * (4 : Int32))) (v5 + (4 : Int32)) m5 h
            · have h := h.2 c10
              exact s_245_163 kc Φ _ _ _ ih hK136 hK331 v1 v2 v3 v4 v5 v6 r2 r4 ((v5 + (4 : Int32)) + (((r4 + (3 : Int32)) / (4 : Int32)) * (4 : Int32))) m5 h
          · have h := h.2 c9
            exact s_245_163 kc Φ _ _ _ ih hK136 hK331 v1 v2 v3 v4 v5 v6 r2 r4 ((v5 + (4 : Int32)) + (((r4 + (3 : Int32)) / (4 : Int32)) * (4 : Int32))) m5 h
        · have h := h.2 c8
          exact s_245_163 kc Φ _ _ _ ih hK136 hK331 v1 v2 v3 v4 v5 v6 r2 r4 ((v5 + (4 : Int32)) + (((r4 + (3 : Int32)) / (4 : Int32)) * (4 : Int32))) m5 h
      · have h := h.2 c7
        refine it_V.weak (l := [none, none, none, none, none, none, none, none, none, none]) trivial ?_
        exact hK136 m5 h
set_option maxRecDepth 100000 in
set_option maxHeartbeats 4000000 in
theorem s_245_136 (kc : it_Kc) (Φ : Int32 → it_Me → Prop) (m : it_Me) (h : w_245_136 kc Φ m) : it_V kc it_sh0 245 136 [none, none, none, none, none, none, none, none, none, none] [] m (it_Pi Φ) := by
  rw [w_245_136] at h
  refine it_V.sN it_cd245 it_m245 1 (pc1 := 137) (ls1 := [none, none, none, none, none, none, none, none, none, none]) (st1 := [(.int (0 : Int32))]) (mem1 := m) rfl ?_
  exact it_V.ret it_cd245 it_m245 rfl rfl ⟨_, rfl, h⟩
set_option maxRecDepth 100000 in
set_option maxHeartbeats 4000000 in
theorem s_245_368 (kc : it_Kc) (Φ : Int32 → it_Me → Prop) (m : it_Me) (h : w_245_368 kc Φ m) : it_V kc it_sh0 245 368 [none, none, none, none, none, none, none, none, none, none] [] m (it_Pi Φ) := by
  rw [w_245_368] at h
  refine it_V.sN it_cd245 it_m245 1 (pc1 := 369) (ls1 := [none, none, none, none, none, none, none, none, none, none]) (st1 := [(.int (0 : Int32))]) (mem1 := m) rfl ?_
  exact it_V.ret it_cd245 it_m245 rfl rfl ⟨_, rfl, h⟩
set_option maxRecDepth 100000 in
set_option maxHeartbeats 4000000 in
theorem s_245_439 (kc : it_Kc) (Φ : Int32 → it_Me → Prop) (u1 : Int32) (m : it_Me) (h : w_245_439 kc Φ u1 m) : it_V kc it_sh0 245 439 [none, none, none, none, none, none, none, none, none, none] [(.int u1), (.ref 66)] m (it_Pi Φ) := by
  rw [w_245_439] at h
  refine it_V.sN it_cd245 it_m245 2 (pc1 := 443) (ls1 := [none, none, none, none, none, none, none, none, none, none]) (st1 := [(.int (1 : Int32))]) (mem1 := (it_sv m 66 23 u1)) rfl ?_
  exact it_V.ret it_cd245 it_m245 rfl rfl ⟨_, rfl, h⟩
set_option maxRecDepth 100000 in
set_option maxHeartbeats 4000000 in
theorem s_245_416 (kc : it_Kc) (Φ : Int32 → it_Me → Prop) (v4 : Int32) (u1 : Int32) (m : it_Me) (h : w_245_416 kc Φ v4 u1 m) : it_V kc it_sh0 245 416 [some (.ref 66), none, none, none, some (.int v4), none, none, none, none, none] [(.int u1), (.ref 66)] m (it_Pi Φ) := by
  rw [w_245_416] at h
  refine it_V.sN it_cd245 it_m245 5 (pc1 := (if v4 = (-1 : Int32) then 438 else 426)) (ls1 := [some (.ref 66), none, none, none, some (.int v4), none, none, none, none, none]) (st1 := [(.ref 66)]) (mem1 := (it_sv m 66 22 u1)) rfl ?_
  refine it_V.ite (fun c1 => ?_) (fun c1 => ?_)
  · have h := h.1 c1
    refine it_V.sN it_cd245 it_m245 1 (pc1 := 439) (ls1 := [some (.ref 66), none, none, none, some (.int v4), none, none, none, none, none]) (st1 := [(.int (0 : Int32)), (.ref 66)]) (mem1 := (it_sv m 66 22 u1)) rfl ?_
    refine it_V.weak (l := [none, none, none, none, none, none, none, none, none, none]) trivial ?_
    exact s_245_439 kc Φ (0 : Int32) (it_sv m 66 22 u1) h
  · have h := h.2 c1
    refine it_V.sN it_cd245 it_m245 4 (pc1 := 432) (ls1 := [some (.ref 66), none, none, none, some (.int v4), none, none, none, none, none]) (st1 := [(.int (v4 + (16 : Int32))), (.ref 66), (.ref 66)]) (mem1 := (it_sv m 66 22 u1)) rfl ?_
    refine it_V.call it_cd245 it_m245 rfl it_m220 [(.ref 66), (.int (v4 + (16 : Int32)))] [(.ref 66)] rfl rfl ⟨Nat.le_of_ble_eq_true rfl, Nat.le_of_ble_eq_true rfl, Nat.le_of_ble_eq_true rfl, Nat.le_of_ble_eq_true rfl, rfl⟩ (s_220 kc (v4 + (16 : Int32)) (it_sv m 66 22 u1) _ h) ?_
    rintro _ m3 ⟨r2, rfl, h⟩
    refine it_V.at (pc1 := 435) (ls1 := [some (.ref 66), none, none, none, some (.int v4), none, none, none, none, none]) (st1 := [(.int r2), (.ref 66)]) (mem1 := m3) rfl rfl rfl rfl ?_
    refine it_V.sN it_cd245 it_m245 1 (pc1 := 439) (ls1 := [some (.ref 66), none, none, none, some (.int v4), none, none, none, none, none]) (st1 := [(.int r2), (.ref 66)]) (mem1 := m3) rfl ?_
    refine it_V.weak (l := [none, none, none, none, none, none, none, none, none, none]) trivial ?_
    exact s_245_439 kc Φ r2 m3 h
set_option maxRecDepth 100000 in
set_option maxHeartbeats 4000000 in
theorem s_245_343 (kc : it_Kc) (Φ : Int32 → it_Me → Prop) (v1 : Int32) (v2 : Int32) (v4 : Int32) (u0 : Int32) (m : it_Me) (h : w_245_343 kc Φ v1 v2 v4 u0 m) : it_V kc it_sh0 245 343 [some (.ref 66), some (.int v1), some (.int v2), none, some (.int v4), none, none, none, none, none] [(.int u0)] m (it_Pi Φ) := by
  rw [w_245_343] at h
  refine it_V.sN it_cd245 it_m245 3 (pc1 := (if v2 = 0 then 349 else 368)) (ls1 := [some (.ref 66), some (.int v1), some (.int v2), none, some (.int v4), none, none, some (.int u0), none, none]) (st1 := []) (mem1 := m) rfl ?_
  refine it_V.ite (fun c1 => ?_) (fun c1 => ?_)
  · have h := h.1 c1
    refine it_V.sN it_cd245 it_m245 4 (pc1 := 354) (ls1 := [some (.ref 66), some (.int v1), some (.int v2), none, some (.int v4), none, none, some (.int u0), none, none]) (st1 := [(.int (v1 + (8 : Int32))), (.ref 66)]) (mem1 := m) rfl ?_
    refine it_V.call it_cd245 it_m245 rfl it_m220 [(.ref 66), (.int (v1 + (8 : Int32)))] [] rfl rfl ⟨Nat.le_of_ble_eq_true rfl, Nat.le_of_ble_eq_true rfl, Nat.le_of_ble_eq_true rfl, Nat.le_of_ble_eq_true rfl, rfl⟩ (s_220 kc (v1 + (8 : Int32)) m _ h) ?_
    rintro _ m3 ⟨r2, rfl, h⟩
    refine it_V.at (pc1 := 357) (ls1 := [some (.ref 66), some (.int v1), some (.int v2), none, some (.int v4), none, none, some (.int u0), none, none]) (st1 := [(.int r2)]) (mem1 := m3) rfl rfl rfl rfl ?_
    refine it_V.sN it_cd245 it_m245 3 (pc1 := (if (r2 &&& (1 : Int32)) = 0 then 368 else 362)) (ls1 := [some (.ref 66), some (.int v1), some (.int v2), none, some (.int v4), none, none, some (.int u0), none, none]) (st1 := []) (mem1 := m3) rfl ?_
    refine it_V.ite (fun c4 => ?_) (fun c4 => ?_)
    · have h := h.1 c4
      refine it_V.weak (l := [none, none, none, none, none, none, none, none, none, none]) trivial ?_
      exact s_245_368 kc Φ m3 h
    · have h := h.2 c4
      refine it_V.sN it_cd245 it_m245 3 (pc1 := (if u0 = (-1 : Int32) then 368 else 370)) (ls1 := [some (.ref 66), some (.int v1), some (.int v2), none, some (.int v4), none, none, some (.int u0), none, none]) (st1 := []) (mem1 := m3) rfl ?_
      refine it_V.ite (fun c5 => ?_) (fun c5 => ?_)
      · have h := h.1 c5
        refine it_V.weak (l := [none, none, none, none, none, none, none, none, none, none]) trivial ?_
        exact s_245_368 kc Φ m3 h
      · have h := h.2 c5
        refine it_V.sN it_cd245 it_m245 3 (pc1 := 374) (ls1 := [some (.ref 66), some (.int v1), some (.int v2), none, some (.int v4), none, none, some (.int u0), none, none]) (st1 := [(.int u0), (.ref 66), (.ref 66)]) (mem1 := m3) rfl ?_
        refine it_V.call it_cd245 it_m245 rfl it_m220 [(.ref 66), (.int u0)] [(.ref 66)] rfl rfl ⟨Nat.le_of_ble_eq_true rfl, Nat.le_of_ble_eq_true rfl, Nat.le_of_ble_eq_true rfl, Nat.le_of_ble_eq_true rfl, rfl⟩ (s_220 kc u0 m3 _ h) ?_
        rintro _ m7 ⟨r6, rfl, h⟩
        refine it_V.at (pc1 := 377) (ls1 := [some (.ref 66), some (.int v1), some (.int v2), none, some (.int v4), none, none, some (.int u0), none, none]) (st1 := [(.int r6), (.ref 66)]) (mem1 := m7) rfl rfl rfl rfl ?_
        refine it_V.sN it_cd245 it_m245 6 (pc1 := 387) (ls1 := [some (.ref 66), some (.int v1), some (.int v2), none, some (.int v4), none, none, some (.int u0), none, none]) (st1 := [(.int (u0 + (8 : Int32))), (.ref 66), (.ref 66)]) (mem1 := (it_sv m7 66 20 r6)) rfl ?_
        refine it_V.call it_cd245 it_m245 rfl it_m220 [(.ref 66), (.int (u0 + (8 : Int32)))] [(.ref 66)] rfl rfl ⟨Nat.le_of_ble_eq_true rfl, Nat.le_of_ble_eq_true rfl, Nat.le_of_ble_eq_true rfl, Nat.le_of_ble_eq_true rfl, rfl⟩ (s_220 kc (u0 + (8 : Int32)) (it_sv m7 66 20 r6) _ h) ?_
        rintro _ m9 ⟨r8, rfl, h⟩
        refine it_V.at (pc1 := 390) (ls1 := [some (.ref 66), some (.int v1), some (.int v2), none, some (.int v4), none, none, some (.int u0), none, none]) (st1 := [(.int r8), (.ref 66)]) (mem1 := m9) rfl rfl rfl rfl ?_
        refine it_V.sN it_cd245 it_m245 5 (pc1 := (if v4 = (-1 : Int32) then 412 else 400)) (ls1 := [some (.ref 66), some (.int v1), some (.int v2), none, some (.int v4), none, none, some (.int u0), none, none]) (st1 := [(.ref 66)]) (mem1 := (it_sv m9 66 21 r8)) rfl ?_
        refine it_V.ite (fun c10 => ?_) (fun c10 => ?_)
        · have h := h.1 c10
          refine it_V.sN it_cd245 it_m245 2 (pc1 := 416) (ls1 := [some (.ref 66), some (.int v1), some (.int v2), none, some (.int v4), none, none, some (.int u0), none, none]) (st1 := [(.int ((it_sv m9 66 21 r8) 66 19)), (.ref 66)]) (mem1 := (it_sv m9 66 21 r8)) rfl ?_
          refine it_V.weak (l := [some (.ref 66), none, none, none, some (.int v4), none, none, none, none, none]) ⟨rfl, ⟨rfl, trivial⟩⟩ ?_
          exact s_245_416 kc Φ v4 ((it_sv m9 66 21 r8) 66 19) (it_sv m9 66 21 r8) h
        · have h := h.2 c10
          refine it_V.sN it_cd245 it_m245 4 (pc1 := 406) (ls1 := [some (.ref 66), some (.int v1), some (.int v2), none, some (.int v4), none, none, some (.int u0), none, none]) (st1 := [(.int (v4 + (12 : Int32))), (.ref 66), (.ref 66)]) (mem1 := (it_sv m9 66 21 r8)) rfl ?_
          refine it_V.call it_cd245 it_m245 rfl it_m220 [(.ref 66), (.int (v4 + (12 : Int32)))] [(.ref 66)] rfl rfl ⟨Nat.le_of_ble_eq_true rfl, Nat.le_of_ble_eq_true rfl, Nat.le_of_ble_eq_true rfl, Nat.le_of_ble_eq_true rfl, rfl⟩ (s_220 kc (v4 + (12 : Int32)) (it_sv m9 66 21 r8) _ h) ?_
          rintro _ m12 ⟨r11, rfl, h⟩
          refine it_V.at (pc1 := 409) (ls1 := [some (.ref 66), some (.int v1), some (.int v2), none, some (.int v4), none, none, some (.int u0), none, none]) (st1 := [(.int r11), (.ref 66)]) (mem1 := m12) rfl rfl rfl rfl ?_
          refine it_V.sN it_cd245 it_m245 1 (pc1 := 416) (ls1 := [some (.ref 66), some (.int v1), some (.int v2), none, some (.int v4), none, none, some (.int u0), none, none]) (st1 := [(.int r11), (.ref 66)]) (mem1 := m12) rfl ?_
          refine it_V.weak (l := [some (.ref 66), none, none, none, some (.int v4), none, none, none, none, none]) ⟨rfl, ⟨rfl, trivial⟩⟩ ?_
          exact s_245_416 kc Φ v4 r11 m12 h
  · have h := h.2 c1
    refine it_V.weak (l := [none, none, none, none, none, none, none, none, none, none]) trivial ?_
    exact s_245_368 kc Φ m h
set_option maxRecDepth 100000 in
set_option maxHeartbeats 4000000 in
theorem s_245_331 (kc : it_Kc) (Φ : Int32 → it_Me → Prop) (v1 : Int32) (v2 : Int32) (v3 : Int32) (v4 : Int32) (m : it_Me) (h : w_245_331 kc Φ v1 v2 v3 v4 m) : it_V kc it_sh0 245 331 [some (.ref 66), some (.int v1), some (.int v2), some (.int v3), some (.int v4), none, none, none, none, none] [] m (it_Pi Φ) := by
  rw [w_245_331] at h
  refine it_V.sN it_cd245 it_m245 3 (pc1 := (if v4 = (-1 : Int32) then 342 else 337)) (ls1 := [some (.ref 66), some (.int v1), some (.int v2), some (.int v3), some (.int v4), none, none, none, none, none]) (st1 := []) (mem1 := m) rfl ?_
  refine it_V.ite (fun c1 => ?_) (fun c1 => ?_)
  · have h := h.1 c1
    refine it_V.sN it_cd245 it_m245 1 (pc1 := 343) (ls1 := [some (.ref 66), some (.int v1), some (.int v2), some (.int v3), some (.int v4), none, none, none, none, none]) (st1 := [(.int v3)]) (mem1 := m) rfl ?_
    refine it_V.weak (l := [some (.ref 66), some (.int v1), some (.int v2), none, some (.int v4), none, none, none, none, none]) ⟨rfl, ⟨rfl, ⟨rfl, ⟨rfl, trivial⟩⟩⟩⟩ ?_
    exact s_245_343 kc Φ v1 v2 v4 v3 m h
  · have h := h.2 c1
    refine it_V.sN it_cd245 it_m245 2 (pc1 := 343) (ls1 := [some (.ref 66), some (.int v1), some (.int v2), some (.int v3), some (.int v4), none, none, none, none, none]) (st1 := [(.int v4)]) (mem1 := m) rfl ?_
    refine it_V.weak (l := [some (.ref 66), some (.int v1), some (.int v2), none, some (.int v4), none, none, none, none, none]) ⟨rfl, ⟨rfl, ⟨rfl, ⟨rfl, trivial⟩⟩⟩⟩ ?_
    exact s_245_343 kc Φ v1 v2 v4 v4 m h
set_option maxRecDepth 100000 in
set_option maxHeartbeats 4000000 in
theorem s_245_45 (kc : it_Kc) (Φ : Int32 → it_Me → Prop) (v1 : Int32) (v2 : Int32) (m : it_Me) (h : w_245_45 kc Φ v1 v2 m) : it_V kc it_sh0 245 45 [some (.ref 66), some (.int v1), some (.int v2), none, none, none, none, none, none, none] [] m (it_Pi Φ) := by
  rw [w_245_45] at h
  refine it_V.sN it_cd245 it_m245 28 (pc1 := 89) (ls1 := [some (.ref 66), some (.int v1), some (.int v2), some (.int (-1 : Int32)), some (.int (-1 : Int32)), some (.int (v1 + (16 : Int32))), some (.int (v1 + ((it_sv (it_sv (it_sv (it_sv (it_sv m 66 24 (-1 : Int32)) 66 25 (0 : Int32)) 66 26 (-1 : Int32)) 66 27 (-1 : Int32)) 66 28 (0 : Int32)) 66 18))), none, none, none]) (st1 := []) (mem1 := (it_sv (it_sv (it_sv (it_sv (it_sv m 66 24 (-1 : Int32)) 66 25 (0 : Int32)) 66 26 (-1 : Int32)) 66 27 (-1 : Int32)) 66 28 (0 : Int32))) rfl ?_
  refine it_V.weak (l := [some (.ref 66), some (.int v1), some (.int v2), some (.int (-1 : Int32)), some (.int (-1 : Int32)), some (.int (v1 + (16 : Int32))), some (.int (v1 + ((it_sv (it_sv (it_sv (it_sv (it_sv m 66 24 (-1 : Int32)) 66 25 (0 : Int32)) 66 26 (-1 : Int32)) 66 27 (-1 : Int32)) 66 28 (0 : Int32)) 66 18))), none, none, none]) ⟨rfl, ⟨rfl, ⟨rfl, ⟨rfl, ⟨rfl, ⟨rfl, ⟨rfl, trivial⟩⟩⟩⟩⟩⟩⟩ ?_
  obtain ⟨n, h⟩ := h
  exact s_245_89 kc Φ _ _ (fun m h => s_245_136 kc Φ m h) (fun v1 v2 v3 v4 m h => s_245_331 kc Φ v1 v2 v3 v4 m h) n v1 v2 (-1 : Int32) (-1 : Int32) (v1 + (16 : Int32)) (v1 + ((it_sv (it_sv (it_sv (it_sv (it_sv m 66 24 (-1 : Int32)) 66 25 (0 : Int32)) 66 26 (-1 : Int32)) 66 27 (-1 : Int32)) 66 28 (0 : Int32)) 66 18)) (it_sv (it_sv (it_sv (it_sv (it_sv m 66 24 (-1 : Int32)) 66 25 (0 : Int32)) 66 26 (-1 : Int32)) 66 27 (-1 : Int32)) 66 28 (0 : Int32)) h
set_option maxRecDepth 100000 in
set_option maxHeartbeats 4000000 in
theorem s_245 (kc : it_Kc) (x0 : Int32) (m : it_Me) (Φ : Int32 → it_Me → Prop) (h : w_245 kc x0 m Φ) : it_V kc it_sh0 245 0 (it_loc0 [(.ref 66), (.int x0)] 10) [] m (it_Pi Φ) := by
  rw [w_245] at h
  refine it_V.at (pc1 := 0) (ls1 := [some (.ref 66), some (.int x0), none, none, none, none, none, none, none, none]) (st1 := []) (mem1 := m) rfl rfl rfl rfl ?_
  refine it_V.sN it_cd245 it_m245 4 (pc1 := 5) (ls1 := [some (.ref 66), some (.int x0), none, none, none, none, none, none, none, none]) (st1 := [(.int (x0 + (12 : Int32))), (.ref 66)]) (mem1 := m) rfl ?_
  refine it_V.call it_cd245 it_m245 rfl it_m220 [(.ref 66), (.int (x0 + (12 : Int32)))] [] rfl rfl ⟨Nat.le_of_ble_eq_true rfl, Nat.le_of_ble_eq_true rfl, Nat.le_of_ble_eq_true rfl, Nat.le_of_ble_eq_true rfl, rfl⟩ (s_220 kc (x0 + (12 : Int32)) m _ h) ?_
  rintro _ m2 ⟨r1, rfl, h⟩
  refine it_V.at (pc1 := 8) (ls1 := [some (.ref 66), some (.int x0), none, none, none, none, none, none, none, none]) (st1 := [(.int r1)]) (mem1 := m2) rfl rfl rfl rfl ?_
  refine it_V.sN it_cd245 it_m245 3 (pc1 := 11) (ls1 := [some (.ref 66), some (.int x0), some (.int r1), some (.int (0 : Int32)), none, none, none, none, none, none]) (st1 := []) (mem1 := m2) rfl ?_
  obtain ⟨n, h⟩ := h
  exact s_245_11 kc Φ _ (fun v1 v2 m h => s_245_45 kc Φ v1 v2 m h) n x0 r1 (0 : Int32) m2 h
set_option maxRecDepth 100000 in
set_option maxHeartbeats 4000000 in
theorem s_246_43 (kc : it_Kc) (Φ : Int32 → it_Me → Prop) (m : it_Me) (h : w_246_43 kc Φ m) : it_V kc it_sh0 246 43 [none, none, none, none, none] [] m (it_Pi Φ) := by
  rw [w_246_43] at h
  refine it_V.sN it_cd246 it_m246 1 (pc1 := 44) (ls1 := [none, none, none, none, none]) (st1 := [(.int (0 : Int32))]) (mem1 := m) rfl ?_
  exact it_V.ret it_cd246 it_m246 rfl rfl ⟨_, rfl, h⟩
set_option maxRecDepth 100000 in
set_option maxHeartbeats 4000000 in
theorem s_246_112 (kc : it_Kc) (Φ : Int32 → it_Me → Prop) (u0 : Int32) (m : it_Me) (h : w_246_112 kc Φ u0 m) : it_V kc it_sh0 246 112 [none, none, none, none, none] [(.int u0)] m (it_Pi Φ) := by
  rw [w_246_112] at h
  exact it_V.retZ it_cd246 it_m246 rfl rfl h.1 ⟨_, rfl, h.2⟩
set_option maxRecDepth 100000 in
set_option maxHeartbeats 4000000 in
theorem s_246_111 (kc : it_Kc) (Φ : Int32 → it_Me → Prop) (m : it_Me) (h : w_246_111 kc Φ m) : it_V kc it_sh0 246 111 [none, none, none, none, none] [] m (it_Pi Φ) := by
  rw [w_246_111] at h
  refine it_V.sN it_cd246 it_m246 1 (pc1 := 112) (ls1 := [none, none, none, none, none]) (st1 := [(.int (0 : Int32))]) (mem1 := m) rfl ?_
  refine it_V.weak (l := [none, none, none, none, none]) trivial ?_
  exact s_246_112 kc Φ (0 : Int32) m h
set_option maxRecDepth 100000 in
set_option maxHeartbeats 4000000 in
theorem s_246 (kc : it_Kc) (x0 : Int32) (m : it_Me) (Φ : Int32 → it_Me → Prop) (h : w_246 kc x0 m Φ) : it_V kc it_sh0 246 0 (it_loc0 [(.ref 66), (.int x0)] 5) [] m (it_Pi Φ) := by
  rw [w_246] at h
  refine it_V.at (pc1 := 0) (ls1 := [some (.ref 66), some (.int x0), none, none, none]) (st1 := []) (mem1 := m) rfl rfl rfl rfl ?_
  refine it_V.sN it_cd246 it_m246 8 (pc1 := 14) (ls1 := [some (.ref 66), some (.int x0), some (.long ((Int32.toInt64 (m 66 22)) &&& (4294967295 : Int64))), none, none]) (st1 := [(.long (4 : Int64)), (.long ((Int32.toInt64 (m 66 22)) &&& (4294967295 : Int64)))]) (mem1 := m) rfl ?_
  obtain ⟨g1, h⟩ := h
  refine it_V.s1 it_cd246 it_m246 (pc1 := 15) (ls1 := [some (.ref 66), some (.int x0), some (.long ((Int32.toInt64 (m 66 22)) &&& (4294967295 : Int64))), none, none]) (st1 := [(.long (it_lrem ((Int32.toInt64 (m 66 22)) &&& (4294967295 : Int64)) (4 : Int64)))]) (mem1 := m) (by simp only [it_s1, show it_lk it_c246 14 = some (0, .lrem, 0, 0) from rfl, it_ops, if_neg g1]; rfl) ?_
  refine it_V.sN it_cd246 it_m246 3 (pc1 := (if (lg_cmp (it_lrem ((Int32.toInt64 (m 66 22)) &&& (4294967295 : Int64)) (4 : Int64)) (0 : Int64)) = 0 then 20 else 43)) (ls1 := [some (.ref 66), some (.int x0), some (.long ((Int32.toInt64 (m 66 22)) &&& (4294967295 : Int64))), none, none]) (st1 := []) (mem1 := m) rfl ?_
  refine it_V.ite (fun c2 => ?_) (fun c2 => ?_)
  · have h := h.1 c2
    refine it_V.sN it_cd246 it_m246 6 (pc1 := (if (lg_cmp ((Int32.toInt64 (m 66 22)) &&& (4294967295 : Int64)) (Int32.toInt64 (m 66 18))) < 0 then 43 else 30)) (ls1 := [some (.ref 66), some (.int x0), some (.long ((Int32.toInt64 (m 66 22)) &&& (4294967295 : Int64))), none, none]) (st1 := []) (mem1 := m) rfl ?_
    refine it_V.ite (fun c3 => ?_) (fun c3 => ?_)
    · have h := h.1 c3
      refine it_V.weak (l := [none, none, none, none, none]) trivial ?_
      exact s_246_43 kc Φ m h
    · have h := h.2 c3
      refine it_V.sN it_cd246 it_m246 8 (pc1 := (if (lg_cmp ((Int32.toInt64 (m 66 22)) &&& (4294967295 : Int64)) (Int32.toInt64 ((m 66 19) - (12 : Int32)))) ≤ 0 then 45 else 43)) (ls1 := [some (.ref 66), some (.int x0), some (.long ((Int32.toInt64 (m 66 22)) &&& (4294967295 : Int64))), none, none]) (st1 := []) (mem1 := m) rfl ?_
      refine it_V.ite (fun c4 => ?_) (fun c4 => ?_)
      · have h := h.1 c4
        refine it_V.sN it_cd246 it_m246 7 (pc1 := 54) (ls1 := [some (.ref 66), some (.int x0), some (.long ((Int32.toInt64 (m 66 22)) &&& (4294967295 : Int64))), none, some (.int (x0 + (Int64.toInt32 ((Int32.toInt64 (m 66 22)) &&& (4294967295 : Int64)))))]) (st1 := [(.int (x0 + (Int64.toInt32 ((Int32.toInt64 (m 66 22)) &&& (4294967295 : Int64))))), (.ref 66)]) (mem1 := m) rfl ?_
        refine it_V.call it_cd246 it_m246 rfl it_m219 [(.ref 66), (.int (x0 + (Int64.toInt32 ((Int32.toInt64 (m 66 22)) &&& (4294967295 : Int64)))))] [] rfl rfl ⟨Nat.le_of_ble_eq_true rfl, Nat.le_of_ble_eq_true rfl, Nat.le_of_ble_eq_true rfl, Nat.le_of_ble_eq_true rfl, rfl⟩ (s_219 kc (x0 + (Int64.toInt32 ((Int32.toInt64 (m 66 22)) &&& (4294967295 : Int64)))) m _ h) ?_
        rintro _ m6 ⟨r5, rfl, h⟩
        refine it_V.at (pc1 := 57) (ls1 := [some (.ref 66), some (.int x0), some (.long ((Int32.toInt64 (m 66 22)) &&& (4294967295 : Int64))), none, some (.int (x0 + (Int64.toInt32 ((Int32.toInt64 (m 66 22)) &&& (4294967295 : Int64)))))]) (st1 := [(.int r5)]) (mem1 := m6) rfl rfl rfl rfl ?_
        refine it_V.sN it_cd246 it_m246 2 (pc1 := (if r5 = (128 : Int32) then 63 else 111)) (ls1 := [some (.ref 66), some (.int x0), some (.long ((Int32.toInt64 (m 66 22)) &&& (4294967295 : Int64))), none, some (.int (x0 + (Int64.toInt32 ((Int32.toInt64 (m 66 22)) &&& (4294967295 : Int64)))))]) (st1 := []) (mem1 := m6) rfl ?_
        refine it_V.ite (fun c7 => ?_) (fun c7 => ?_)
        · have h := h.1 c7
          refine it_V.sN it_cd246 it_m246 4 (pc1 := 68) (ls1 := [some (.ref 66), some (.int x0), some (.long ((Int32.toInt64 (m 66 22)) &&& (4294967295 : Int64))), none, some (.int (x0 + (Int64.toInt32 ((Int32.toInt64 (m 66 22)) &&& (4294967295 : Int64)))))]) (st1 := [(.int ((x0 + (Int64.toInt32 ((Int32.toInt64 (m 66 22)) &&& (4294967295 : Int64)))) + (2 : Int32))), (.ref 66)]) (mem1 := m6) rfl ?_
          refine it_V.call it_cd246 it_m246 rfl it_m219 [(.ref 66), (.int ((x0 + (Int64.toInt32 ((Int32.toInt64 (m 66 22)) &&& (4294967295 : Int64)))) + (2 : Int32)))] [] rfl rfl ⟨Nat.le_of_ble_eq_true rfl, Nat.le_of_ble_eq_true rfl, Nat.le_of_ble_eq_true rfl, Nat.le_of_ble_eq_true rfl, rfl⟩ (s_219 kc ((x0 + (Int64.toInt32 ((Int32.toInt64 (m 66 22)) &&& (4294967295 : Int64)))) + (2 : Int32)) m6 _ h) ?_
          rintro _ m9 ⟨r8, rfl, h⟩
          refine it_V.at (pc1 := 71) (ls1 := [some (.ref 66), some (.int x0), some (.long ((Int32.toInt64 (m 66 22)) &&& (4294967295 : Int64))), none, some (.int (x0 + (Int64.toInt32 ((Int32.toInt64 (m 66 22)) &&& (4294967295 : Int64)))))]) (st1 := [(.int r8)]) (mem1 := m9) rfl rfl rfl rfl ?_
          refine it_V.sN it_cd246 it_m246 2 (pc1 := (if r8 = (8 : Int32) then 76 else 111)) (ls1 := [some (.ref 66), some (.int x0), some (.long ((Int32.toInt64 (m 66 22)) &&& (4294967295 : Int64))), none, some (.int (x0 + (Int64.toInt32 ((Int32.toInt64 (m 66 22)) &&& (4294967295 : Int64)))))]) (st1 := []) (mem1 := m9) rfl ?_
          refine it_V.ite (fun c10 => ?_) (fun c10 => ?_)
          · have h := h.1 c10
            refine it_V.sN it_cd246 it_m246 4 (pc1 := 81) (ls1 := [some (.ref 66), some (.int x0), some (.long ((Int32.toInt64 (m 66 22)) &&& (4294967295 : Int64))), none, some (.int (x0 + (Int64.toInt32 ((Int32.toInt64 (m 66 22)) &&& (4294967295 : Int64)))))]) (st1 := [(.int ((x0 + (Int64.toInt32 ((Int32.toInt64 (m 66 22)) &&& (4294967295 : Int64)))) + (4 : Int32))), (.ref 66)]) (mem1 := m9) rfl ?_
            refine it_V.call it_cd246 it_m246 rfl it_m220 [(.ref 66), (.int ((x0 + (Int64.toInt32 ((Int32.toInt64 (m 66 22)) &&& (4294967295 : Int64)))) + (4 : Int32)))] [] rfl rfl ⟨Nat.le_of_ble_eq_true rfl, Nat.le_of_ble_eq_true rfl, Nat.le_of_ble_eq_true rfl, Nat.le_of_ble_eq_true rfl, rfl⟩ (s_220 kc ((x0 + (Int64.toInt32 ((Int32.toInt64 (m 66 22)) &&& (4294967295 : Int64)))) + (4 : Int32)) m9 _ h) ?_
            rintro _ m12 ⟨r11, rfl, h⟩
            refine it_V.at (pc1 := 84) (ls1 := [some (.ref 66), some (.int x0), some (.long ((Int32.toInt64 (m 66 22)) &&& (4294967295 : Int64))), none, some (.int (x0 + (Int64.toInt32 ((Int32.toInt64 (m 66 22)) &&& (4294967295 : Int64)))))]) (st1 := [(.int r11)]) (mem1 := m12) rfl rfl rfl rfl ?_
            refine it_V.sN it_cd246 it_m246 2 (pc1 := (if r11 = (1 : Int32) then 88 else 111)) (ls1 := [some (.ref 66), some (.int x0), some (.long ((Int32.toInt64 (m 66 22)) &&& (4294967295 : Int64))), none, some (.int (x0 + (Int64.toInt32 ((Int32.toInt64 (m 66 22)) &&& (4294967295 : Int64)))))]) (st1 := []) (mem1 := m12) rfl ?_
            refine it_V.ite (fun c13 => ?_) (fun c13 => ?_)
            · have h := h.1 c13
              refine it_V.sN it_cd246 it_m246 4 (pc1 := 94) (ls1 := [some (.ref 66), some (.int x0), some (.long ((Int32.toInt64 (m 66 22)) &&& (4294967295 : Int64))), none, some (.int (x0 + (Int64.toInt32 ((Int32.toInt64 (m 66 22)) &&& (4294967295 : Int64)))))]) (st1 := [(.int ((x0 + (Int64.toInt32 ((Int32.toInt64 (m 66 22)) &&& (4294967295 : Int64)))) + (8 : Int32))), (.ref 66)]) (mem1 := m12) rfl ?_
              refine it_V.call it_cd246 it_m246 rfl it_m220 [(.ref 66), (.int ((x0 + (Int64.toInt32 ((Int32.toInt64 (m 66 22)) &&& (4294967295 : Int64)))) + (8 : Int32)))] [] rfl rfl ⟨Nat.le_of_ble_eq_true rfl, Nat.le_of_ble_eq_true rfl, Nat.le_of_ble_eq_true rfl, Nat.le_of_ble_eq_true rfl, rfl⟩ (s_220 kc ((x0 + (Int64.toInt32 ((Int32.toInt64 (m 66 22)) &&& (4294967295 : Int64)))) + (8 : Int32)) m12 _ h) ?_
              rintro _ m15 ⟨r14, rfl, h⟩
              refine it_V.at (pc1 := 97) (ls1 := [some (.ref 66), some (.int x0), some (.long ((Int32.toInt64 (m 66 22)) &&& (4294967295 : Int64))), none, some (.int (x0 + (Int64.toInt32 ((Int32.toInt64 (m 66 22)) &&& (4294967295 : Int64)))))]) (st1 := [(.int r14)]) (mem1 := m15) rfl rfl rfl rfl ?_
              refine it_V.sN it_cd246 it_m246 4 (pc1 := 101) (ls1 := [some (.ref 66), some (.int x0), some (.long ((Int32.toInt64 (m 66 22)) &&& (4294967295 : Int64))), none, some (.int (x0 + (Int64.toInt32 ((Int32.toInt64 (m 66 22)) &&& (4294967295 : Int64)))))]) (st1 := [(.int (Int64.toInt32 ((Int32.toInt64 (m 66 22)) &&& (4294967295 : Int64)))), (.int x0), (.ref 66), (.int r14)]) (mem1 := m15) rfl ?_
              refine it_V.call it_cd246 it_m246 rfl it_m222 [(.ref 66), (.int x0), (.int (Int64.toInt32 ((Int32.toInt64 (m 66 22)) &&& (4294967295 : Int64))))] [(.int r14)] rfl rfl ⟨Nat.le_of_ble_eq_true rfl, Nat.le_of_ble_eq_true rfl, Nat.le_of_ble_eq_true rfl, Nat.le_of_ble_eq_true rfl, rfl⟩ (s_222 kc x0 (Int64.toInt32 ((Int32.toInt64 (m 66 22)) &&& (4294967295 : Int64))) m15 _ h) ?_
              rintro _ m17 ⟨r16, rfl, h⟩
              refine it_V.at (pc1 := 104) (ls1 := [some (.ref 66), some (.int x0), some (.long ((Int32.toInt64 (m 66 22)) &&& (4294967295 : Int64))), none, some (.int (x0 + (Int64.toInt32 ((Int32.toInt64 (m 66 22)) &&& (4294967295 : Int64)))))]) (st1 := [(.int r16), (.int r14)]) (mem1 := m17) rfl rfl rfl rfl ?_
              refine it_V.sN it_cd246 it_m246 1 (pc1 := (if r14 = r16 then 107 else 111)) (ls1 := [some (.ref 66), some (.int x0), some (.long ((Int32.toInt64 (m 66 22)) &&& (4294967295 : Int64))), none, some (.int (x0 + (Int64.toInt32 ((Int32.toInt64 (m 66 22)) &&& (4294967295 : Int64)))))]) (st1 := []) (mem1 := m17) rfl ?_
              refine it_V.ite (fun c18 => ?_) (fun c18 => ?_)
              · have h := h.1 c18
                refine it_V.sN it_cd246 it_m246 2 (pc1 := 112) (ls1 := [some (.ref 66), some (.int x0), some (.long ((Int32.toInt64 (m 66 22)) &&& (4294967295 : Int64))), none, some (.int (x0 + (Int64.toInt32 ((Int32.toInt64 (m 66 22)) &&& (4294967295 : Int64)))))]) (st1 := [(.int (1 : Int32))]) (mem1 := m17) rfl ?_
                refine it_V.weak (l := [none, none, none, none, none]) trivial ?_
                exact s_246_112 kc Φ (1 : Int32) m17 h
              · have h := h.2 c18
                refine it_V.weak (l := [none, none, none, none, none]) trivial ?_
                exact s_246_111 kc Φ m17 h
            · have h := h.2 c13
              refine it_V.weak (l := [none, none, none, none, none]) trivial ?_
              exact s_246_111 kc Φ m12 h
          · have h := h.2 c10
            refine it_V.weak (l := [none, none, none, none, none]) trivial ?_
            exact s_246_111 kc Φ m9 h
        · have h := h.2 c7
          refine it_V.weak (l := [none, none, none, none, none]) trivial ?_
          exact s_246_111 kc Φ m6 h
      · have h := h.2 c4
        refine it_V.weak (l := [none, none, none, none, none]) trivial ?_
        exact s_246_43 kc Φ m h
  · have h := h.2 c2
    refine it_V.weak (l := [none, none, none, none, none]) trivial ?_
    exact s_246_43 kc Φ m h
set_option maxRecDepth 100000 in
set_option maxHeartbeats 4000000 in
theorem s_247_21 (kc : it_Kc) (Φ : Int32 → it_Me → Prop) (u0 : Int32) (m : it_Me) (h : w_247_21 kc Φ u0 m) : it_V kc it_sh0 247 21 [none, none, none] [(.int u0)] m (it_Pi Φ) := by
  rw [w_247_21] at h
  exact it_V.retZ it_cd247 it_m247 rfl rfl h.1 ⟨_, rfl, h.2⟩
set_option maxRecDepth 100000 in
set_option maxHeartbeats 4000000 in
theorem s_247 (kc : it_Kc) (x0 : Int32) (x1 : Int32) (m : it_Me) (Φ : Int32 → it_Me → Prop) (h : w_247 kc x0 x1 m Φ) : it_V kc it_sh0 247 0 (it_loc0 [(.ref 66), (.int x0), (.int x1)] 3) [] m (it_Pi Φ) := by
  rw [w_247] at h
  refine it_V.at (pc1 := 0) (ls1 := [some (.ref 66), some (.int x0), some (.int x1)]) (st1 := []) (mem1 := m) rfl rfl rfl rfl ?_
  refine it_V.sN it_cd247 it_m247 10 (pc1 := (if 0 ≤ (lg_cmp ((Int32.toInt64 x0) &&& (4294967295 : Int64)) ((Int32.toInt64 x1) &&& (4294967295 : Int64))) then 20 else 16)) (ls1 := [some (.ref 66), some (.int x0), some (.int x1)]) (st1 := []) (mem1 := m) rfl ?_
  refine it_V.ite (fun c1 => ?_) (fun c1 => ?_)
  · have h := h.1 c1
    refine it_V.sN it_cd247 it_m247 1 (pc1 := 21) (ls1 := [some (.ref 66), some (.int x0), some (.int x1)]) (st1 := [(.int (0 : Int32))]) (mem1 := m) rfl ?_
    refine it_V.weak (l := [none, none, none]) trivial ?_
    exact s_247_21 kc Φ (0 : Int32) m h
  · have h := h.2 c1
    refine it_V.sN it_cd247 it_m247 2 (pc1 := 21) (ls1 := [some (.ref 66), some (.int x0), some (.int x1)]) (st1 := [(.int (1 : Int32))]) (mem1 := m) rfl ?_
    refine it_V.weak (l := [none, none, none]) trivial ?_
    exact s_247_21 kc Φ (1 : Int32) m h
set_option maxRecDepth 100000 in
set_option maxHeartbeats 4000000 in
theorem s_248_118 (kc : it_Kc) (Φ : it_Me → Prop) (K8 : Int32 → Int32 → it_Me → Prop) (K123 : it_Me → Prop) (hK8 : ∀ (v1 : Int32) (v2 : Int32) (m : it_Me), K8 v1 v2 m → it_V kc it_sh0 248 8 [some (.ref 66), some (.int v1), some (.int v2), none] [] m (it_Pv Φ)) (hK123 : ∀ (m : it_Me), K123 m → it_V kc it_sh0 248 123 [none, none, none, none] [] m (it_Pv Φ)) (v1 : Int32) (v3 : Int32) (m : it_Me) (h : w_248_118 kc Φ K8 K123 v1 v3 m) : it_V kc it_sh0 248 118 [some (.ref 66), some (.int v1), none, some (.int v3)] [] m (it_Pv Φ) := by
  rw [w_248_118] at h
  refine it_V.sN it_cd248 it_m248 3 (pc1 := 8) (ls1 := [some (.ref 66), some (.int v1), some (.int v3), some (.int v3)]) (st1 := []) (mem1 := m) rfl ?_
  refine it_V.weak (l := [some (.ref 66), some (.int v1), some (.int v3), none]) ⟨rfl, ⟨rfl, ⟨rfl, trivial⟩⟩⟩ ?_
  exact hK8 v1 v3 m h
set_option maxRecDepth 100000 in
set_option maxHeartbeats 4000000 in
theorem s_248_59 (kc : it_Kc) (Φ : it_Me → Prop) (K8 : Int32 → Int32 → it_Me → Prop) (K123 : it_Me → Prop) (hK8 : ∀ (v1 : Int32) (v2 : Int32) (m : it_Me), K8 v1 v2 m → it_V kc it_sh0 248 8 [some (.ref 66), some (.int v1), some (.int v2), none] [] m (it_Pv Φ)) (hK123 : ∀ (m : it_Me), K123 m → it_V kc it_sh0 248 123 [none, none, none, none] [] m (it_Pv Φ)) (v1 : Int32) (v2 : Int32) (v3 : Int32) (m : it_Me) (h : w_248_59 kc Φ K8 K123 v1 v2 v3 m) : it_V kc it_sh0 248 59 [some (.ref 66), some (.int v1), some (.int v2), some (.int v3)] [] m (it_Pv Φ) := by
  rw [w_248_59] at h
  refine it_V.sN it_cd248 it_m248 5 (pc1 := 68) (ls1 := [some (.ref 66), some (.int v1), some (.int v2), some (.int v3)]) (st1 := [(.int v2), (.int (m 66 33)), (.ref 75)]) (mem1 := m) rfl ?_
  obtain ⟨g1, h⟩ := h
  refine it_V.iast it_cd248 it_m248 rfl ((⟨rfl, by decide⟩ : it_isR 75 2048)).1 g1 ?_
  refine it_V.at (pc1 := 69) (ls1 := [some (.ref 66), some (.int v1), some (.int v2), some (.int v3)]) (st1 := []) (mem1 := (it_sv m 75 (Int32.toNatClampNeg (m 66 33)) v2)) rfl rfl rfl rfl ?_
  refine it_V.sN it_cd248 it_m248 6 (pc1 := 81) (ls1 := [some (.ref 66), some (.int v1), some (.int v2), some (.int v3)]) (st1 := [(.int ((it_sv m 75 (Int32.toNatClampNeg (m 66 33)) v2) 66 24)), (.int ((it_sv m 75 (Int32.toNatClampNeg (m 66 33)) v2) 66 33)), (.ref 76)]) (mem1 := (it_sv m 75 (Int32.toNatClampNeg (m 66 33)) v2)) rfl ?_
  obtain ⟨g2, h⟩ := h
  refine it_V.iast it_cd248 it_m248 rfl ((⟨rfl, by decide⟩ : it_isR 76 2048)).1 g2 ?_
  refine it_V.at (pc1 := 82) (ls1 := [some (.ref 66), some (.int v1), some (.int v2), some (.int v3)]) (st1 := []) (mem1 := (it_sv (it_sv m 75 (Int32.toNatClampNeg (m 66 33)) v2) 76 (Int32.toNatClampNeg ((it_sv m 75 (Int32.toNatClampNeg (m 66 33)) v2) 66 33)) ((it_sv m 75 (Int32.toNatClampNeg (m 66 33)) v2) 66 24))) rfl rfl rfl rfl ?_
  refine it_V.sN it_cd248 it_m248 6 (pc1 := 94) (ls1 := [some (.ref 66), some (.int v1), some (.int v2), some (.int v3)]) (st1 := [(.int ((it_sv (it_sv m 75 (Int32.toNatClampNeg (m 66 33)) v2) 76 (Int32.toNatClampNeg ((it_sv m 75 (Int32.toNatClampNeg (m 66 33)) v2) 66 33)) ((it_sv m 75 (Int32.toNatClampNeg (m 66 33)) v2) 66 24)) 66 25)), (.int ((it_sv (it_sv m 75 (Int32.toNatClampNeg (m 66 33)) v2) 76 (Int32.toNatClampNeg ((it_sv m 75 (Int32.toNatClampNeg (m 66 33)) v2) 66 33)) ((it_sv m 75 (Int32.toNatClampNeg (m 66 33)) v2) 66 24)) 66 33)), (.ref 77)]) (mem1 := (it_sv (it_sv m 75 (Int32.toNatClampNeg (m 66 33)) v2) 76 (Int32.toNatClampNeg ((it_sv m 75 (Int32.toNatClampNeg (m 66 33)) v2) 66 33)) ((it_sv m 75 (Int32.toNatClampNeg (m 66 33)) v2) 66 24))) rfl ?_
  obtain ⟨g3, h⟩ := h
  refine it_V.iast it_cd248 it_m248 rfl ((⟨rfl, by decide⟩ : it_isR 77 2048)).1 g3 ?_
  refine it_V.at (pc1 := 95) (ls1 := [some (.ref 66), some (.int v1), some (.int v2), some (.int v3)]) (st1 := []) (mem1 := (it_sv (it_sv (it_sv m 75 (Int32.toNatClampNeg (m 66 33)) v2) 76 (Int32.toNatClampNeg ((it_sv m 75 (Int32.toNatClampNeg (m 66 33)) v2) 66 33)) ((it_sv m 75 (Int32.toNatClampNeg (m 66 33)) v2) 66 24)) 77 (Int32.toNatClampNeg ((it_sv (it_sv m 75 (Int32.toNatClampNeg (m 66 33)) v2) 76 (Int32.toNatClampNeg ((it_sv m 75 (Int32.toNatClampNeg (m 66 33)) v2) 66 33)) ((it_sv m 75 (Int32.toNatClampNeg (m 66 33)) v2) 66 24)) 66 33)) ((it_sv (it_sv m 75 (Int32.toNatClampNeg (m 66 33)) v2) 76 (Int32.toNatClampNeg ((it_sv m 75 (Int32.toNatClampNeg (m 66 33)) v2) 66 33)) ((it_sv m 75 (Int32.toNatClampNeg (m 66 33)) v2) 66 24)) 66 25))) rfl rfl rfl rfl ?_
  refine it_V.sN it_cd248 it_m248 6 (pc1 := 107) (ls1 := [some (.ref 66), some (.int v1), some (.int v2), some (.int v3)]) (st1 := [(.int ((it_sv (it_sv (it_sv m 75 (Int32.toNatClampNeg (m 66 33)) v2) 76 (Int32.toNatClampNeg ((it_sv m 75 (Int32.toNatClampNeg (m 66 33)) v2) 66 33)) ((it_sv m 75 (Int32.toNatClampNeg (m 66 33)) v2) 66 24)) 77 (Int32.toNatClampNeg ((it_sv (it_sv m 75 (Int32.toNatClampNeg (m 66 33)) v2) 76 (Int32.toNatClampNeg ((it_sv m 75 (Int32.toNatClampNeg (m 66 33)) v2) 66 33)) ((it_sv m 75 (Int32.toNatClampNeg (m 66 33)) v2) 66 24)) 66 33)) ((it_sv (it_sv m 75 (Int32.toNatClampNeg (m 66 33)) v2) 76 (Int32.toNatClampNeg ((it_sv m 75 (Int32.toNatClampNeg (m 66 33)) v2) 66 33)) ((it_sv m 75 (Int32.toNatClampNeg (m 66 33)) v2) 66 24)) 66 25)) 66 23)), (.int ((it_sv (it_sv (it_sv m 75 (Int32.toNatClampNeg (m 66 33)) v2) 76 (Int32.toNatClampNeg ((it_sv m 75 (Int32.toNatClampNeg (m 66 33)) v2) 66 33)) ((it_sv m 75 (Int32.toNatClampNeg (m 66 33)) v2) 66 24)) 77 (Int32.toNatClampNeg ((it_sv (it_sv m 75 (Int32.toNatClampNeg (m 66 33)) v2) 76 (Int32.toNatClampNeg ((it_sv m 75 (Int32.toNatClampNeg (m 66 33)) v2) 66 33)) ((it_sv m 75 (Int32.toNatClampNeg (m 66 33)) v2) 66 24)) 66 33)) ((it_sv (it_sv m 75 (Int32.toNatClampNeg (m 66 33)) v2) 76 (Int32.toNatClampNeg ((it_sv m 75 (Int32.toNatClampNeg (m 66 33)) v2) 66 33)) ((it_sv m 75 (Int32.toNatClampNeg (m 66 33)) v2) 66 24)) 66 25)) 66 33)), (.ref 78)]) (mem1 := (it_sv (it_sv (it_sv m 75 (Int32.toNatClampNeg (m 66 33)) v2) 76 (Int32.toNatClampNeg ((it_sv m 75 (Int32.toNatClampNeg (m 66 33)) v2) 66 33)) ((it_sv m 75 (Int32.toNatClampNeg (m 66 33)) v2) 66 24)) 77 (Int32.toNatClampNeg ((it_sv (it_sv m 75 (Int32.toNatClampNeg (m 66 33)) v2) 76 (Int32.toNatClampNeg ((it_sv m 75 (Int32.toNatClampNeg (m 66 33)) v2) 66 33)) ((it_sv m 75 (Int32.toNatClampNeg (m 66 33)) v2) 66 24)) 66 33)) ((it_sv (it_sv m 75 (Int32.toNatClampNeg (m 66 33)) v2) 76 (Int32.toNatClampNeg ((it_sv m 75 (Int32.toNatClampNeg (m 66 33)) v2) 66 33)) ((it_sv m 75 (Int32.toNatClampNeg (m 66 33)) v2) 66 24)) 66 25))) rfl ?_
  obtain ⟨g4, h⟩ := h
  refine it_V.iast it_cd248 it_m248 rfl ((⟨rfl, by decide⟩ : it_isR 78 2048)).1 g4 ?_
  refine it_V.at (pc1 := 108) (ls1 := [some (.ref 66), some (.int v1), some (.int v2), some (.int v3)]) (st1 := []) (mem1 := (it_sv (it_sv (it_sv (it_sv m 75 (Int32.toNatClampNeg (m 66 33)) v2) 76 (Int32.toNatClampNeg ((it_sv m 75 (Int32.toNatClampNeg (m 66 33)) v2) 66 33)) ((it_sv m 75 (Int32.toNatClampNeg (m 66 33)) v2) 66 24)) 77 (Int32.toNatClampNeg ((it_sv (it_sv m 75 (Int32.toNatClampNeg (m 66 33)) v2) 76 (Int32.toNatClampNeg ((it_sv m 75 (Int32.toNatClampNeg (m 66 33)) v2) 66 33)) ((it_sv m 75 (Int32.toNatClampNeg (m 66 33)) v2) 66 24)) 66 33)) ((it_sv (it_sv m 75 (Int32.toNatClampNeg (m 66 33)) v2) 76 (Int32.toNatClampNeg ((it_sv m 75 (Int32.toNatClampNeg (m 66 33)) v2) 66 33)) ((it_sv m 75 (Int32.toNatClampNeg (m 66 33)) v2) 66 24)) 66 25)) 78 (Int32.toNatClampNeg ((it_sv (it_sv (it_sv m 75 (Int32.toNatClampNeg (m 66 33)) v2) 76 (Int32.toNatClampNeg ((it_sv m 75 (Int32.toNatClampNeg (m 66 33)) v2) 66 33)) ((it_sv m 75 (Int32.toNatClampNeg (m 66 33)) v2) 66 24)) 77 (Int32.toNatClampNeg ((it_sv (it_sv m 75 (Int32.toNatClampNeg (m 66 33)) v2) 76 (Int32.toNatClampNeg ((it_sv m 75 (Int32.toNatClampNeg (m 66 33)) v2) 66 33)) ((it_sv m 75 (Int32.toNatClampNeg (m 66 33)) v2) 66 24)) 66 33)) ((it_sv (it_sv m 75 (Int32.toNatClampNeg (m 66 33)) v2) 76 (Int32.toNatClampNeg ((it_sv m 75 (Int32.toNatClampNeg (m 66 33)) v2) 66 33)) ((it_sv m 75 (Int32.toNatClampNeg (m 66 33)) v2) 66 24)) 66 25)) 66 33)) ((it_sv (it_sv (it_sv m 75 (Int32.toNatClampNeg (m 66 33)) v2) 76 (Int32.toNatClampNeg ((it_sv m 75 (Int32.toNatClampNeg (m 66 33)) v2) 66 33)) ((it_sv m 75 (Int32.toNatClampNeg (m 66 33)) v2) 66 24)) 77 (Int32.toNatClampNeg ((it_sv (it_sv m 75 (Int32.toNatClampNeg (m 66 33)) v2) 76 (Int32.toNatClampNeg ((it_sv m 75 (Int32.toNatClampNeg (m 66 33)) v2) 66 33)) ((it_sv m 75 (Int32.toNatClampNeg (m 66 33)) v2) 66 24)) 66 33)) ((it_sv (it_sv m 75 (Int32.toNatClampNeg (m 66 33)) v2) 76 (Int32.toNatClampNeg ((it_sv m 75 (Int32.toNatClampNeg (m 66 33)) v2) 66 33)) ((it_sv m 75 (Int32.toNatClampNeg (m 66 33)) v2) 66 24)) 66 25)) 66 23))) rfl rfl rfl rfl ?_
  refine it_V.sN it_cd248 it_m248 6 (pc1 := 118) (ls1 := [some (.ref 66), some (.int v1), some (.int v2), some (.int v3)]) (st1 := []) (mem1 := (it_sv (it_sv (it_sv (it_sv (it_sv m 75 (Int32.toNatClampNeg (m 66 33)) v2) 76 (Int32.toNatClampNeg ((it_sv m 75 (Int32.toNatClampNeg (m 66 33)) v2) 66 33)) ((it_sv m 75 (Int32.toNatClampNeg (m 66 33)) v2) 66 24)) 77 (Int32.toNatClampNeg ((it_sv (it_sv m 75 (Int32.toNatClampNeg (m 66 33)) v2) 76 (Int32.toNatClampNeg ((it_sv m 75 (Int32.toNatClampNeg (m 66 33)) v2) 66 33)) ((it_sv m 75 (Int32.toNatClampNeg (m 66 33)) v2) 66 24)) 66 33)) ((it_sv (it_sv m 75 (Int32.toNatClampNeg (m 66 33)) v2) 76 (Int32.toNatClampNeg ((it_sv m 75 (Int32.toNatClampNeg (m 66 33)) v2) 66 33)) ((it_sv m 75 (Int32.toNatClampNeg (m 66 33)) v2) 66 24)) 66 25)) 78 (Int32.toNatClampNeg ((it_sv (it_sv (it_sv m 75 (Int32.toNatClampNeg (m 66 33)) v2) 76 (Int32.toNatClampNeg ((it_sv m 75 (Int32.toNatClampNeg (m 66 33)) v2) 66 33)) ((it_sv m 75 (Int32.toNatClampNeg (m 66 33)) v2) 66 24)) 77 (Int32.toNatClampNeg ((it_sv (it_sv m 75 (Int32.toNatClampNeg (m 66 33)) v2) 76 (Int32.toNatClampNeg ((it_sv m 75 (Int32.toNatClampNeg (m 66 33)) v2) 66 33)) ((it_sv m 75 (Int32.toNatClampNeg (m 66 33)) v2) 66 24)) 66 33)) ((it_sv (it_sv m 75 (Int32.toNatClampNeg (m 66 33)) v2) 76 (Int32.toNatClampNeg ((it_sv m 75 (Int32.toNatClampNeg (m 66 33)) v2) 66 33)) ((it_sv m 75 (Int32.toNatClampNeg (m 66 33)) v2) 66 24)) 66 25)) 66 33)) ((it_sv (it_sv (it_sv m 75 (Int32.toNatClampNeg (m 66 33)) v2) 76 (Int32.toNatClampNeg ((it_sv m 75 (Int32.toNatClampNeg (m 66 33)) v2) 66 33)) ((it_sv m 75 (Int32.toNatClampNeg (m 66 33)) v2) 66 24)) 77 (Int32.toNatClampNeg ((it_sv (it_sv m 75 (Int32.toNatClampNeg (m 66 33)) v2) 76 (Int32.toNatClampNeg ((it_sv m 75 (Int32.toNatClampNeg (m 66 33)) v2) 66 33)) ((it_sv m 75 (Int32.toNatClampNeg (m 66 33)) v2) 66 24)) 66 33)) ((it_sv (it_sv m 75 (Int32.toNatClampNeg (m 66 33)) v2) 76 (Int32.toNatClampNeg ((it_sv m 75 (Int32.toNatClampNeg (m 66 33)) v2) 66 33)) ((it_sv m 75 (Int32.toNatClampNeg (m 66 33)) v2) 66 24)) 66 25)) 66 23)) 66 33 (((it_sv (it_sv (it_sv (it_sv m 75 (Int32.toNatClampNeg (m 66 33)) v2) 76 (Int32.toNatClampNeg ((it_sv m 75 (Int32.toNatClampNeg (m 66 33)) v2) 66 33)) ((it_sv m 75 (Int32.toNatClampNeg (m 66 33)) v2) 66 24)) 77 (Int32.toNatClampNeg ((it_sv (it_sv m 75 (Int32.toNatClampNeg (m 66 33)) v2) 76 (Int32.toNatClampNeg ((it_sv m 75 (Int32.toNatClampNeg (m 66 33)) v2) 66 33)) ((it_sv m 75 (Int32.toNatClampNeg (m 66 33)) v2) 66 24)) 66 33)) ((it_sv (it_sv m 75 (Int32.toNatClampNeg (m 66 33)) v2) 76 (Int32.toNatClampNeg ((it_sv m 75 (Int32.toNatClampNeg (m 66 33)) v2) 66 33)) ((it_sv m 75 (Int32.toNatClampNeg (m 66 33)) v2) 66 24)) 66 25)) 78 (Int32.toNatClampNeg ((it_sv (it_sv (it_sv m 75 (Int32.toNatClampNeg (m 66 33)) v2) 76 (Int32.toNatClampNeg ((it_sv m 75 (Int32.toNatClampNeg (m 66 33)) v2) 66 33)) ((it_sv m 75 (Int32.toNatClampNeg (m 66 33)) v2) 66 24)) 77 (Int32.toNatClampNeg ((it_sv (it_sv m 75 (Int32.toNatClampNeg (m 66 33)) v2) 76 (Int32.toNatClampNeg ((it_sv m 75 (Int32.toNatClampNeg (m 66 33)) v2) 66 33)) ((it_sv m 75 (Int32.toNatClampNeg (m 66 33)) v2) 66 24)) 66 33)) ((it_sv (it_sv m 75 (Int32.toNatClampNeg (m 66 33)) v2) 76 (Int32.toNatClampNeg ((it_sv m 75 (Int32.toNatClampNeg (m 66 33)) v2) 66 33)) ((it_sv m 75 (Int32.toNatClampNeg (m 66 33)) v2) 66 24)) 66 25)) 66 33)) ((it_sv (it_sv (it_sv m 75 (Int32.toNatClampNeg (m 66 33)) v2) 76 (Int32.toNatClampNeg ((it_sv m 75 (Int32.toNatClampNeg (m 66 33)) v2) 66 33)) ((it_sv m 75 (Int32.toNatClampNeg (m 66 33)) v2) 66 24)) 77 (Int32.toNatClampNeg ((it_sv (it_sv m 75 (Int32.toNatClampNeg (m 66 33)) v2) 76 (Int32.toNatClampNeg ((it_sv m 75 (Int32.toNatClampNeg (m 66 33)) v2) 66 33)) ((it_sv m 75 (Int32.toNatClampNeg (m 66 33)) v2) 66 24)) 66 33)) ((it_sv (it_sv m 75 (Int32.toNatClampNeg (m 66 33)) v2) 76 (Int32.toNatClampNeg ((it_sv m 75 (Int32.toNatClampNeg (m 66 33)) v2) 66 33)) ((it_sv m 75 (Int32.toNatClampNeg (m 66 33)) v2) 66 24)) 66 25)) 66 23)) 66 33) + (1 : Int32)))) rfl ?_
  refine it_V.weak (l := [some (.ref 66), some (.int v1), none, some (.int v3)]) ⟨rfl, ⟨rfl, ⟨rfl, trivial⟩⟩⟩ ?_
  exact s_248_118 kc Φ _ _ hK8 hK123 v1 v3 (it_sv (it_sv (it_sv (it_sv (it_sv m 75 (Int32.toNatClampNeg (m 66 33)) v2) 76 (Int32.toNatClampNeg ((it_sv m 75 (Int32.toNatClampNeg (m 66 33)) v2) 66 33)) ((it_sv m 75 (Int32.toNatClampNeg (m 66 33)) v2) 66 24)) 77 (Int32.toNatClampNeg ((it_sv (it_sv m 75 (Int32.toNatClampNeg (m 66 33)) v2) 76 (Int32.toNatClampNeg ((it_sv m 75 (Int32.toNatClampNeg (m 66 33)) v2) 66 33)) ((it_sv m 75 (Int32.toNatClampNeg (m 66 33)) v2) 66 24)) 66 33)) ((it_sv (it_sv m 75 (Int32.toNatClampNeg (m 66 33)) v2) 76 (Int32.toNatClampNeg ((it_sv m 75 (Int32.toNatClampNeg (m 66 33)) v2) 66 33)) ((it_sv m 75 (Int32.toNatClampNeg (m 66 33)) v2) 66 24)) 66 25)) 78 (Int32.toNatClampNeg ((it_sv (it_sv (it_sv m 75 (Int32.toNatClampNeg (m 66 33)) v2) 76 (Int32.toNatClampNeg ((it_sv m 75 (Int32.toNatClampNeg (m 66 33)) v2) 66 33)) ((it_sv m 75 (Int32.toNatClampNeg (m 66 33)) v2) 66 24)) 77 (Int32.toNatClampNeg ((it_sv (it_sv m 75 (Int32.toNatClampNeg (m 66 33)) v2) 76 (Int32.toNatClampNeg ((it_sv m 75 (Int32.toNatClampNeg (m 66 33)) v2) 66 33)) ((it_sv m 75 (Int32.toNatClampNeg (m 66 33)) v2) 66 24)) 66 33)) ((it_sv (it_sv m 75 (Int32.toNatClampNeg (m 66 33)) v2) 76 (Int32.toNatClampNeg ((it_sv m 75 (Int32.toNatClampNeg (m 66 33)) v2) 66 33)) ((it_sv m 75 (Int32.toNatClampNeg (m 66 33)) v2) 66 24)) 66 25)) 66 33)) ((it_sv (it_sv (it_sv m 75 (Int32.toNatClampNeg (m 66 33)) v2) 76 (Int32.toNatClampNeg ((it_sv m 75 (Int32.toNatClampNeg (m 66 33)) v2) 66 33)) ((it_sv m 75 (Int32.toNatClampNeg (m 66 33)) v2) 66 24)) 77 (Int32.toNatClampNeg ((it_sv (it_sv m 75 (Int32.toNatClampNeg (m 66 33)) v2) 76 (Int32.toNatClampNeg ((it_sv m 75 (Int32.toNatClampNeg (m 66 33)) v2) 66 33)) ((it_sv m 75 (Int32.toNatClampNeg (m 66 33)) v2) 66 24)) 66 33)) ((it_sv (it_sv m 75 (Int32.toNatClampNeg (m 66 33)) v2) 76 (Int32.toNatClampNeg ((it_sv m 75 (Int32.toNatClampNeg (m 66 33)) v2) 66 33)) ((it_sv m 75 (Int32.toNatClampNeg (m 66 33)) v2) 66 24)) 66 25)) 66 23)) 66 33 (((it_sv (it_sv (it_sv (it_sv m 75 (Int32.toNatClampNeg (m 66 33)) v2) 76 (Int32.toNatClampNeg ((it_sv m 75 (Int32.toNatClampNeg (m 66 33)) v2) 66 33)) ((it_sv m 75 (Int32.toNatClampNeg (m 66 33)) v2) 66 24)) 77 (Int32.toNatClampNeg ((it_sv (it_sv m 75 (Int32.toNatClampNeg (m 66 33)) v2) 76 (Int32.toNatClampNeg ((it_sv m 75 (Int32.toNatClampNeg (m 66 33)) v2) 66 33)) ((it_sv m 75 (Int32.toNatClampNeg (m 66 33)) v2) 66 24)) 66 33)) ((it_sv (it_sv m 75 (Int32.toNatClampNeg (m 66 33)) v2) 76 (Int32.toNatClampNeg ((it_sv m 75 (Int32.toNatClampNeg (m 66 33)) v2) 66 33)) ((it_sv m 75 (Int32.toNatClampNeg (m 66 33)) v2) 66 24)) 66 25)) 78 (Int32.toNatClampNeg ((it_sv (it_sv (it_sv m 75 (Int32.toNatClampNeg (m 66 33)) v2) 76 (Int32.toNatClampNeg ((it_sv m 75 (Int32.toNatClampNeg (m 66 33)) v2) 66 33)) ((it_sv m 75 (Int32.toNatClampNeg (m 66 33)) v2) 66 24)) 77 (Int32.toNatClampNeg ((it_sv (it_sv m 75 (Int32.toNatClampNeg (m 66 33)) v2) 76 (Int32.toNatClampNeg ((it_sv m 75 (Int32.toNatClampNeg (m 66 33)) v2) 66 33)) ((it_sv m 75 (Int32.toNatClampNeg (m 66 33)) v2) 66 24)) 66 33)) ((it_sv (it_sv m 75 (Int32.toNatClampNeg (m 66 33)) v2) 76 (Int32.toNatClampNeg ((it_sv m 75 (Int32.toNatClampNeg (m 66 33)) v2) 66 33)) ((it_sv m 75 (Int32.toNatClampNeg (m 66 33)) v2) 66 24)) 66 25)) 66 33)) ((it_sv (it_sv (it_sv m 75 (Int32.toNatClampNeg (m 66 33)) v2) 76 (Int32.toNatClampNeg ((it_sv m 75 (Int32.toNatClampNeg (m 66 33)) v2) 66 33)) ((it_sv m 75 (Int32.toNatClampNeg (m 66 33)) v2) 66 24)) 77 (Int32.toNatClampNeg ((it_sv (it_sv m 75 (Int32.toNatClampNeg (m 66 33)) v2) 76 (Int32.toNatClampNeg ((it_sv m 75 (Int32.toNatClampNeg (m 66 33)) v2) 66 33)) ((it_sv m 75 (Int32.toNatClampNeg (m 66 33)) v2) 66 24)) 66 33)) ((it_sv (it_sv m 75 (Int32.toNatClampNeg (m 66 33)) v2) 76 (Int32.toNatClampNeg ((it_sv m 75 (Int32.toNatClampNeg (m 66 33)) v2) 66 33)) ((it_sv m 75 (Int32.toNatClampNeg (m 66 33)) v2) 66 24)) 66 25)) 66 23)) 66 33) + (1 : Int32))) h
set_option maxRecDepth 100000 in
set_option maxHeartbeats 4000000 in
theorem s_248_8 (kc : it_Kc) (Φ : it_Me → Prop) (K123 : it_Me → Prop) (hK123 : ∀ (m : it_Me), K123 m → it_V kc it_sh0 248 123 [none, none, none, none] [] m (it_Pv Φ)) : ∀ (n : Nat) (v1 : Int32) (v2 : Int32) (m : it_Me) (h : w_248_8 kc Φ K123 n v1 v2 m), it_V kc it_sh0 248 8 [some (.ref 66), some (.int v1), some (.int v2), none] [] m (it_Pv Φ) := by
  intro n
  induction n with
  | zero => intro v1 v2 m h; exact absurd h id
  | succ n ih =>
    intro v1 v2 m h
    rw [w_248_8] at h
    refine it_V.sN it_cd248 it_m248 2 (pc1 := 10) (ls1 := [some (.ref 66), some (.int v1), some (.int v2), none]) (st1 := [(.int v2), (.ref 66)]) (mem1 := m) rfl ?_
    refine it_V.call it_cd248 it_m248 rfl it_m244 [(.ref 66), (.int v2)] [] rfl rfl ⟨Nat.le_of_ble_eq_true rfl, Nat.le_of_ble_eq_true rfl, Nat.le_of_ble_eq_true rfl, Nat.le_of_ble_eq_true rfl, rfl⟩ (s_244 kc v2 m _ h) ?_
    rintro _ m2 ⟨r1, rfl, h⟩
    refine it_V.at (pc1 := 13) (ls1 := [some (.ref 66), some (.int v1), some (.int v2), none]) (st1 := [(.int r1)]) (mem1 := m2) rfl rfl rfl rfl ?_
    refine it_V.sN it_cd248 it_m248 1 (pc1 := (if r1 = 0 then 123 else 16)) (ls1 := [some (.ref 66), some (.int v1), some (.int v2), none]) (st1 := []) (mem1 := m2) rfl ?_
    refine it_V.ite (fun c3 => ?_) (fun c3 => ?_)
    · have h := h.1 c3
      refine it_V.weak (l := [none, none, none, none]) trivial ?_
      exact hK123 m2 h
    · have h := h.2 c3
      refine it_V.sN it_cd248 it_m248 7 (pc1 := 25) (ls1 := [some (.ref 66), some (.int v1), some (.int v2), some (.int (v2 + (m2 66 19)))]) (st1 := [(.int v2), (.ref 66)]) (mem1 := m2) rfl ?_
      refine it_V.call it_cd248 it_m248 rfl it_m245 [(.ref 66), (.int v2)] [] rfl rfl ⟨Nat.le_of_ble_eq_true rfl, Nat.le_of_ble_eq_true rfl, Nat.le_of_ble_eq_true rfl, Nat.le_of_ble_eq_true rfl, rfl⟩ (s_245 kc v2 m2 _ h) ?_
      rintro _ m5 ⟨r4, rfl, h⟩
      refine it_V.at (pc1 := 28) (ls1 := [some (.ref 66), some (.int v1), some (.int v2), some (.int (v2 + (m2 66 19)))]) (st1 := [(.int r4)]) (mem1 := m5) rfl rfl rfl rfl ?_
      refine it_V.sN it_cd248 it_m248 1 (pc1 := (if r4 = 0 then 118 else 31)) (ls1 := [some (.ref 66), some (.int v1), some (.int v2), some (.int (v2 + (m2 66 19)))]) (st1 := []) (mem1 := m5) rfl ?_
      refine it_V.ite (fun c6 => ?_) (fun c6 => ?_)
      · have h := h.1 c6
        refine it_V.weak (l := [some (.ref 66), some (.int v1), none, some (.int (v2 + (m2 66 19)))]) ⟨rfl, ⟨rfl, ⟨rfl, trivial⟩⟩⟩ ?_
        exact s_248_118 kc Φ _ _ ih hK123 v1 (v2 + (m2 66 19)) m5 h
      · have h := h.2 c6
        refine it_V.sN it_cd248 it_m248 8 (pc1 := (if 0 < (lg_cmp ((Int32.toInt64 (m5 66 21)) &&& (4294967295 : Int64)) (15872 : Int64)) then 118 else 47)) (ls1 := [some (.ref 66), some (.int v1), some (.int v2), some (.int (v2 + (m2 66 19)))]) (st1 := []) (mem1 := m5) rfl ?_
        refine it_V.ite (fun c7 => ?_) (fun c7 => ?_)
        · have h := h.1 c7
          refine it_V.weak (l := [some (.ref 66), some (.int v1), none, some (.int (v2 + (m2 66 19)))]) ⟨rfl, ⟨rfl, ⟨rfl, trivial⟩⟩⟩ ?_
          exact s_248_118 kc Φ _ _ ih hK123 v1 (v2 + (m2 66 19)) m5 h
        · have h := h.2 c7
          refine it_V.sN it_cd248 it_m248 2 (pc1 := (if v1 = 0 then 59 else 51)) (ls1 := [some (.ref 66), some (.int v1), some (.int v2), some (.int (v2 + (m2 66 19)))]) (st1 := []) (mem1 := m5) rfl ?_
          refine it_V.ite (fun c8 => ?_) (fun c8 => ?_)
          · have h := h.1 c8
            exact s_248_59 kc Φ _ _ ih hK123 v1 v2 (v2 + (m2 66 19)) m5 h
          · have h := h.2 c8
            refine it_V.sN it_cd248 it_m248 2 (pc1 := 53) (ls1 := [some (.ref 66), some (.int v1), some (.int v2), some (.int (v2 + (m2 66 19)))]) (st1 := [(.int v2), (.ref 66)]) (mem1 := m5) rfl ?_
            refine it_V.call it_cd248 it_m248 rfl it_m246 [(.ref 66), (.int v2)] [] rfl rfl ⟨Nat.le_of_ble_eq_true rfl, Nat.le_of_ble_eq_true rfl, Nat.le_of_ble_eq_true rfl, Nat.le_of_ble_eq_true rfl, rfl⟩ (s_246 kc v2 m5 _ h) ?_
            rintro _ m10 ⟨r9, rfl, h⟩
            refine it_V.at (pc1 := 56) (ls1 := [some (.ref 66), some (.int v1), some (.int v2), some (.int (v2 + (m2 66 19)))]) (st1 := [(.int r9)]) (mem1 := m10) rfl rfl rfl rfl ?_
            refine it_V.sN it_cd248 it_m248 1 (pc1 := (if r9 = 0 then 118 else 59)) (ls1 := [some (.ref 66), some (.int v1), some (.int v2), some (.int (v2 + (m2 66 19)))]) (st1 := []) (mem1 := m10) rfl ?_
            refine it_V.ite (fun c11 => ?_) (fun c11 => ?_)
            · have h := h.1 c11
              refine it_V.weak (l := [some (.ref 66), some (.int v1), none, some (.int (v2 + (m2 66 19)))]) ⟨rfl, ⟨rfl, ⟨rfl, trivial⟩⟩⟩ ?_
              exact s_248_118 kc Φ _ _ ih hK123 v1 (v2 + (m2 66 19)) m10 h
            · have h := h.2 c11
              exact s_248_59 kc Φ _ _ ih hK123 v1 v2 (v2 + (m2 66 19)) m10 h
set_option maxRecDepth 100000 in
set_option maxHeartbeats 4000000 in
theorem s_248_123 (kc : it_Kc) (Φ : it_Me → Prop) (m : it_Me) (h : w_248_123 kc Φ m) : it_V kc it_sh0 248 123 [none, none, none, none] [] m (it_Pv Φ) := by
  rw [w_248_123] at h
  exact it_V.ret it_cd248 it_m248 rfl rfl ⟨rfl, h⟩
set_option maxRecDepth 100000 in
set_option maxHeartbeats 4000000 in
theorem s_248 (kc : it_Kc) (x0 : Int32) (m : it_Me) (Φ : it_Me → Prop) (h : w_248 kc x0 m Φ) : it_V kc it_sh0 248 0 (it_loc0 [(.ref 66), (.int x0)] 4) [] m (it_Pv Φ) := by
  rw [w_248] at h
  refine it_V.at (pc1 := 0) (ls1 := [some (.ref 66), some (.int x0), none, none]) (st1 := []) (mem1 := m) rfl rfl rfl rfl ?_
  refine it_V.sN it_cd248 it_m248 5 (pc1 := 8) (ls1 := [some (.ref 66), some (.int x0), some (.int (65536 : Int32)), none]) (st1 := []) (mem1 := (it_sv m 66 33 (0 : Int32))) rfl ?_
  obtain ⟨n, h⟩ := h
  exact s_248_8 kc Φ _ (fun m h => s_248_123 kc Φ m h) n x0 (65536 : Int32) (it_sv m 66 33 (0 : Int32)) h
set_option maxRecDepth 100000 in
set_option maxHeartbeats 4000000 in
theorem s_249_90 (kc : it_Kc) (Φ : Int32 → it_Me → Prop) (K39 : Int32 → Int32 → Int32 → Int32 → it_Me → Prop) (K97 : Int32 → Int32 → Int32 → it_Me → Prop) (hK39 : ∀ (v1 : Int32) (v2 : Int32) (v3 : Int32) (v4 : Int32) (m : it_Me), K39 v1 v2 v3 v4 m → it_V kc it_sh0 249 39 [some (.ref 66), some (.int v1), some (.int v2), some (.int v3), some (.int v4)] [] m (it_Pi Φ)) (hK97 : ∀ (v1 : Int32) (v2 : Int32) (v3 : Int32) (m : it_Me), K97 v1 v2 v3 m → it_V kc it_sh0 249 97 [some (.ref 66), some (.int v1), some (.int v2), some (.int v3), none] [] m (it_Pi Φ)) (v1 : Int32) (v2 : Int32) (v4 : Int32) (u0 : Int32) (m : it_Me) (h : w_249_90 kc Φ K39 K97 v1 v2 v4 u0 m) : it_V kc it_sh0 249 90 [some (.ref 66), some (.int v1), some (.int v2), none, some (.int v4)] [(.int u0)] m (it_Pi Φ) := by
  rw [w_249_90] at h
  refine it_V.sN it_cd249 it_m249 3 (pc1 := 39) (ls1 := [some (.ref 66), some (.int v1), some (.int v2), some (.int u0), some (.int (v4 + (1 : Int32)))]) (st1 := []) (mem1 := m) rfl ?_
  exact hK39 v1 v2 u0 (v4 + (1 : Int32)) m h
set_option maxRecDepth 100000 in
set_option maxHeartbeats 4000000 in
theorem s_249_39 (kc : it_Kc) (Φ : Int32 → it_Me → Prop) (K97 : Int32 → Int32 → Int32 → it_Me → Prop) (hK97 : ∀ (v1 : Int32) (v2 : Int32) (v3 : Int32) (m : it_Me), K97 v1 v2 v3 m → it_V kc it_sh0 249 97 [some (.ref 66), some (.int v1), some (.int v2), some (.int v3), none] [] m (it_Pi Φ)) : ∀ (n : Nat) (v1 : Int32) (v2 : Int32) (v3 : Int32) (v4 : Int32) (m : it_Me) (h : w_249_39 kc Φ K97 n v1 v2 v3 v4 m), it_V kc it_sh0 249 39 [some (.ref 66), some (.int v1), some (.int v2), some (.int v3), some (.int v4)] [] m (it_Pi Φ) := by
  intro n
  induction n with
  | zero => intro v1 v2 v3 v4 m h; exact absurd h id
  | succ n ih =>
    intro v1 v2 v3 v4 m h
    rw [w_249_39] at h
    refine it_V.sN it_cd249 it_m249 4 (pc1 := 46) (ls1 := [some (.ref 66), some (.int v1), some (.int v2), some (.int v3), some (.int v4)]) (st1 := [(.int v1), (.ref 77), (.int v4)]) (mem1 := m) rfl ?_
    obtain ⟨g1, h⟩ := h
    refine it_V.iald it_cd249 it_m249 rfl ((⟨rfl, by decide⟩ : it_isR 77 2048)).2 ((⟨rfl, by decide⟩ : it_isR 77 2048)).1 g1 ?_
    refine it_V.at (pc1 := 47) (ls1 := [some (.ref 66), some (.int v1), some (.int v2), some (.int v3), some (.int v4)]) (st1 := [(.int (m 77 (Int32.toNatClampNeg v1))), (.int v4)]) (mem1 := m) rfl rfl rfl rfl ?_
    refine it_V.sN it_cd249 it_m249 1 (pc1 := (if (m 77 (Int32.toNatClampNeg v1)) ≤ v4 then 97 else 50)) (ls1 := [some (.ref 66), some (.int v1), some (.int v2), some (.int v3), some (.int v4)]) (st1 := []) (mem1 := m) rfl ?_
    refine it_V.ite (fun c2 => ?_) (fun c2 => ?_)
    · have h := h.1 c2
      refine it_V.weak (l := [some (.ref 66), some (.int v1), some (.int v2), some (.int v3), none]) ⟨rfl, ⟨rfl, ⟨rfl, ⟨rfl, trivial⟩⟩⟩⟩ ?_
      exact hK97 v1 v2 v3 m h
    · have h := h.2 c2
      refine it_V.sN it_cd249 it_m249 2 (pc1 := (if v3 = 0 then 97 else 54)) (ls1 := [some (.ref 66), some (.int v1), some (.int v2), some (.int v3), some (.int v4)]) (st1 := []) (mem1 := m) rfl ?_
      refine it_V.ite (fun c3 => ?_) (fun c3 => ?_)
      · have h := h.1 c3
        refine it_V.weak (l := [some (.ref 66), some (.int v1), some (.int v2), some (.int v3), none]) ⟨rfl, ⟨rfl, ⟨rfl, ⟨rfl, trivial⟩⟩⟩⟩ ?_
        exact hK97 v1 v2 v3 m h
      · have h := h.2 c3
        refine it_V.sN it_cd249 it_m249 5 (pc1 := 63) (ls1 := [some (.ref 66), some (.int v1), some (.int v2), some (.int v3), some (.int v4)]) (st1 := [(.int v2), (.ref 76), (.ref 67)]) (mem1 := m) rfl ?_
        obtain ⟨g4, h⟩ := h
        refine it_V.iald it_cd249 it_m249 rfl ((⟨rfl, by decide⟩ : it_isR 76 2048)).2 ((⟨rfl, by decide⟩ : it_isR 76 2048)).1 g4 ?_
        refine it_V.at (pc1 := 64) (ls1 := [some (.ref 66), some (.int v1), some (.int v2), some (.int v3), some (.int v4)]) (st1 := [(.int (m 76 (Int32.toNatClampNeg v2))), (.ref 67)]) (mem1 := m) rfl rfl rfl rfl ?_
        refine it_V.sN it_cd249 it_m249 2 (pc1 := 67) (ls1 := [some (.ref 66), some (.int v1), some (.int v2), some (.int v3), some (.int v4)]) (st1 := [(.int ((m 76 (Int32.toNatClampNeg v2)) + v4)), (.ref 67)]) (mem1 := m) rfl ?_
        obtain ⟨g5, h⟩ := h
        refine it_V.bald (t := 1) (n := 196608) it_cd249 it_m249 rfl rfl (by decide) g5 ?_
        refine it_V.at (pc1 := 68) (ls1 := [some (.ref 66), some (.int v1), some (.int v2), some (.int v3), some (.int v4)]) (st1 := [(.int (m 67 (Int32.toNatClampNeg ((m 76 (Int32.toNatClampNeg v2)) + v4))))]) (mem1 := m) rfl rfl rfl rfl ?_
        refine it_V.sN it_cd249 it_m249 5 (pc1 := 77) (ls1 := [some (.ref 66), some (.int v1), some (.int v2), some (.int v3), some (.int v4)]) (st1 := [(.int v1), (.ref 76), (.ref 67), (.int (m 67 (Int32.toNatClampNeg ((m 76 (Int32.toNatClampNeg v2)) + v4))))]) (mem1 := m) rfl ?_
        obtain ⟨g6, h⟩ := h
        refine it_V.iald it_cd249 it_m249 rfl ((⟨rfl, by decide⟩ : it_isR 76 2048)).2 ((⟨rfl, by decide⟩ : it_isR 76 2048)).1 g6 ?_
        refine it_V.at (pc1 := 78) (ls1 := [some (.ref 66), some (.int v1), some (.int v2), some (.int v3), some (.int v4)]) (st1 := [(.int (m 76 (Int32.toNatClampNeg v1))), (.ref 67), (.int (m 67 (Int32.toNatClampNeg ((m 76 (Int32.toNatClampNeg v2)) + v4))))]) (mem1 := m) rfl rfl rfl rfl ?_
        refine it_V.sN it_cd249 it_m249 2 (pc1 := 81) (ls1 := [some (.ref 66), some (.int v1), some (.int v2), some (.int v3), some (.int v4)]) (st1 := [(.int ((m 76 (Int32.toNatClampNeg v1)) + v4)), (.ref 67), (.int (m 67 (Int32.toNatClampNeg ((m 76 (Int32.toNatClampNeg v2)) + v4))))]) (mem1 := m) rfl ?_
        obtain ⟨g7, h⟩ := h
        refine it_V.bald (t := 1) (n := 196608) it_cd249 it_m249 rfl rfl (by decide) g7 ?_
        refine it_V.at (pc1 := 82) (ls1 := [some (.ref 66), some (.int v1), some (.int v2), some (.int v3), some (.int v4)]) (st1 := [(.int (m 67 (Int32.toNatClampNeg ((m 76 (Int32.toNatClampNeg v1)) + v4)))), (.int (m 67 (Int32.toNatClampNeg ((m 76 (Int32.toNatClampNeg v2)) + v4))))]) (mem1 := m) rfl rfl rfl rfl ?_
        refine it_V.sN it_cd249 it_m249 1 (pc1 := (if (m 67 (Int32.toNatClampNeg ((m 76 (Int32.toNatClampNeg v2)) + v4))) = (m 67 (Int32.toNatClampNeg ((m 76 (Int32.toNatClampNeg v1)) + v4))) then 85 else 89)) (ls1 := [some (.ref 66), some (.int v1), some (.int v2), some (.int v3), some (.int v4)]) (st1 := []) (mem1 := m) rfl ?_
        refine it_V.ite (fun c8 => ?_) (fun c8 => ?_)
        · have h := h.1 c8
          refine it_V.sN it_cd249 it_m249 2 (pc1 := 90) (ls1 := [some (.ref 66), some (.int v1), some (.int v2), some (.int v3), some (.int v4)]) (st1 := [(.int (1 : Int32))]) (mem1 := m) rfl ?_
          refine it_V.weak (l := [some (.ref 66), some (.int v1), some (.int v2), none, some (.int v4)]) ⟨rfl, ⟨rfl, ⟨rfl, ⟨rfl, trivial⟩⟩⟩⟩ ?_
          exact s_249_90 kc Φ _ _ ih hK97 v1 v2 v4 (1 : Int32) m h
        · have h := h.2 c8
          refine it_V.sN it_cd249 it_m249 1 (pc1 := 90) (ls1 := [some (.ref 66), some (.int v1), some (.int v2), some (.int v3), some (.int v4)]) (st1 := [(.int (0 : Int32))]) (mem1 := m) rfl ?_
          refine it_V.weak (l := [some (.ref 66), some (.int v1), some (.int v2), none, some (.int v4)]) ⟨rfl, ⟨rfl, ⟨rfl, ⟨rfl, trivial⟩⟩⟩⟩ ?_
          exact s_249_90 kc Φ _ _ ih hK97 v1 v2 v4 (0 : Int32) m h
set_option maxRecDepth 100000 in
set_option maxHeartbeats 4000000 in
theorem s_249_142 (kc : it_Kc) (Φ : Int32 → it_Me → Prop) (K2 : Int32 → Int32 → it_Me → Prop) (K140 : it_Me → Prop) (K148 : it_Me → Prop) (hK2 : ∀ (v1 : Int32) (v2 : Int32) (m : it_Me), K2 v1 v2 m → it_V kc it_sh0 249 2 [some (.ref 66), some (.int v1), some (.int v2), none, none] [] m (it_Pi Φ)) (hK140 : ∀ (m : it_Me), K140 m → it_V kc it_sh0 249 140 [none, none, none, none, none] [] m (it_Pi Φ)) (hK148 : ∀ (m : it_Me), K148 m → it_V kc it_sh0 249 148 [none, none, none, none, none] [] m (it_Pi Φ)) (v1 : Int32) (v2 : Int32) (m : it_Me) (h : w_249_142 kc Φ K2 K140 K148 v1 v2 m) : it_V kc it_sh0 249 142 [some (.ref 66), some (.int v1), some (.int v2), none, none] [] m (it_Pi Φ) := by
  rw [w_249_142] at h
  refine it_V.sN it_cd249 it_m249 2 (pc1 := 2) (ls1 := [some (.ref 66), some (.int v1), some (.int (v2 + (1 : Int32))), none, none]) (st1 := []) (mem1 := m) rfl ?_
  refine it_V.weak (l := [some (.ref 66), some (.int v1), some (.int (v2 + (1 : Int32))), none, none]) ⟨rfl, ⟨rfl, ⟨rfl, trivial⟩⟩⟩ ?_
  exact hK2 v1 (v2 + (1 : Int32)) m h
set_option maxRecDepth 100000 in
set_option maxHeartbeats 4000000 in
theorem s_249_97 (kc : it_Kc) (Φ : Int32 → it_Me → Prop) (K2 : Int32 → Int32 → it_Me → Prop) (K140 : it_Me → Prop) (K148 : it_Me → Prop) (hK2 : ∀ (v1 : Int32) (v2 : Int32) (m : it_Me), K2 v1 v2 m → it_V kc it_sh0 249 2 [some (.ref 66), some (.int v1), some (.int v2), none, none] [] m (it_Pi Φ)) (hK140 : ∀ (m : it_Me), K140 m → it_V kc it_sh0 249 140 [none, none, none, none, none] [] m (it_Pi Φ)) (hK148 : ∀ (m : it_Me), K148 m → it_V kc it_sh0 249 148 [none, none, none, none, none] [] m (it_Pi Φ)) (v1 : Int32) (v2 : Int32) (v3 : Int32) (m : it_Me) (h : w_249_97 kc Φ K2 K140 K148 v1 v2 v3 m) : it_V kc it_sh0 249 97 [some (.ref 66), some (.int v1), some (.int v2), some (.int v3), none] [] m (it_Pi Φ) := by
  rw [w_249_97] at h
  refine it_V.sN it_cd249 it_m249 2 (pc1 := (if v3 = 0 then 142 else 101)) (ls1 := [some (.ref 66), some (.int v1), some (.int v2), some (.int v3), none]) (st1 := []) (mem1 := m) rfl ?_
  refine it_V.ite (fun c1 => ?_) (fun c1 => ?_)
  · have h := h.1 c1
    refine it_V.weak (l := [some (.ref 66), some (.int v1), some (.int v2), none, none]) ⟨rfl, ⟨rfl, ⟨rfl, trivial⟩⟩⟩ ?_
    exact s_249_142 kc Φ _ _ _ hK2 hK140 hK148 v1 v2 m h
  · have h := h.2 c1
    refine it_V.sN it_cd249 it_m249 4 (pc1 := 107) (ls1 := [some (.ref 66), some (.int v1), some (.int v2), some (.int v3), none]) (st1 := [(.int v1), (.ref 78), (.ref 66)]) (mem1 := m) rfl ?_
    obtain ⟨g2, h⟩ := h
    refine it_V.iald it_cd249 it_m249 rfl ((⟨rfl, by decide⟩ : it_isR 78 2048)).2 ((⟨rfl, by decide⟩ : it_isR 78 2048)).1 g2 ?_
    refine it_V.at (pc1 := 108) (ls1 := [some (.ref 66), some (.int v1), some (.int v2), some (.int v3), none]) (st1 := [(.int (m 78 (Int32.toNatClampNeg v1))), (.ref 66)]) (mem1 := m) rfl rfl rfl rfl ?_
    refine it_V.sN it_cd249 it_m249 3 (pc1 := 113) (ls1 := [some (.ref 66), some (.int v1), some (.int v2), some (.int v3), none]) (st1 := [(.int v2), (.ref 78), (.int (m 78 (Int32.toNatClampNeg v1))), (.ref 66)]) (mem1 := m) rfl ?_
    obtain ⟨g3, h⟩ := h
    refine it_V.iald it_cd249 it_m249 rfl ((⟨rfl, by decide⟩ : it_isR 78 2048)).2 ((⟨rfl, by decide⟩ : it_isR 78 2048)).1 g3 ?_
    refine it_V.at (pc1 := 114) (ls1 := [some (.ref 66), some (.int v1), some (.int v2), some (.int v3), none]) (st1 := [(.int (m 78 (Int32.toNatClampNeg v2))), (.int (m 78 (Int32.toNatClampNeg v1))), (.ref 66)]) (mem1 := m) rfl rfl rfl rfl ?_
    refine it_V.call it_cd249 it_m249 rfl it_m247 [(.ref 66), (.int (m 78 (Int32.toNatClampNeg v1))), (.int (m 78 (Int32.toNatClampNeg v2)))] [] rfl rfl ⟨Nat.le_of_ble_eq_true rfl, Nat.le_of_ble_eq_true rfl, Nat.le_of_ble_eq_true rfl, Nat.le_of_ble_eq_true rfl, rfl⟩ (s_247 kc (m 78 (Int32.toNatClampNeg v1)) (m 78 (Int32.toNatClampNeg v2)) m _ h) ?_
    rintro _ m5 ⟨r4, rfl, h⟩
    refine it_V.at (pc1 := 117) (ls1 := [some (.ref 66), some (.int v1), some (.int v2), some (.int v3), none]) (st1 := [(.int r4)]) (mem1 := m5) rfl rfl rfl rfl ?_
    refine it_V.sN it_cd249 it_m249 1 (pc1 := (if r4 = 0 then 120 else 140)) (ls1 := [some (.ref 66), some (.int v1), some (.int v2), some (.int v3), none]) (st1 := []) (mem1 := m5) rfl ?_
    refine it_V.ite (fun c6 => ?_) (fun c6 => ?_)
    · have h := h.1 c6
      refine it_V.sN it_cd249 it_m249 3 (pc1 := 125) (ls1 := [some (.ref 66), some (.int v1), some (.int v2), some (.int v3), none]) (st1 := [(.int v1), (.ref 78)]) (mem1 := m5) rfl ?_
      obtain ⟨g7, h⟩ := h
      refine it_V.iald it_cd249 it_m249 rfl ((⟨rfl, by decide⟩ : it_isR 78 2048)).2 ((⟨rfl, by decide⟩ : it_isR 78 2048)).1 g7 ?_
      refine it_V.at (pc1 := 126) (ls1 := [some (.ref 66), some (.int v1), some (.int v2), some (.int v3), none]) (st1 := [(.int (m5 78 (Int32.toNatClampNeg v1)))]) (mem1 := m5) rfl rfl rfl rfl ?_
      refine it_V.sN it_cd249 it_m249 3 (pc1 := 131) (ls1 := [some (.ref 66), some (.int v1), some (.int v2), some (.int v3), none]) (st1 := [(.int v2), (.ref 78), (.int (m5 78 (Int32.toNatClampNeg v1)))]) (mem1 := m5) rfl ?_
      obtain ⟨g8, h⟩ := h
      refine it_V.iald it_cd249 it_m249 rfl ((⟨rfl, by decide⟩ : it_isR 78 2048)).2 ((⟨rfl, by decide⟩ : it_isR 78 2048)).1 g8 ?_
      refine it_V.at (pc1 := 132) (ls1 := [some (.ref 66), some (.int v1), some (.int v2), some (.int v3), none]) (st1 := [(.int (m5 78 (Int32.toNatClampNeg v2))), (.int (m5 78 (Int32.toNatClampNeg v1)))]) (mem1 := m5) rfl rfl rfl rfl ?_
      refine it_V.sN it_cd249 it_m249 1 (pc1 := (if (m5 78 (Int32.toNatClampNeg v1)) = (m5 78 (Int32.toNatClampNeg v2)) then 135 else 142)) (ls1 := [some (.ref 66), some (.int v1), some (.int v2), some (.int v3), none]) (st1 := []) (mem1 := m5) rfl ?_
      refine it_V.ite (fun c9 => ?_) (fun c9 => ?_)
      · have h := h.1 c9
        refine it_V.sN it_cd249 it_m249 3 (pc1 := (if v1 ≤ v2 then 142 else 140)) (ls1 := [some (.ref 66), some (.int v1), some (.int v2), some (.int v3), none]) (st1 := []) (mem1 := m5) rfl ?_
        refine it_V.ite (fun c10 => ?_) (fun c10 => ?_)
        · have h := h.1 c10
          refine it_V.weak (l := [some (.ref 66), some (.int v1), some (.int v2), none, none]) ⟨rfl, ⟨rfl, ⟨rfl, trivial⟩⟩⟩ ?_
          exact s_249_142 kc Φ _ _ _ hK2 hK140 hK148 v1 v2 m5 h
        · have h := h.2 c10
          refine it_V.weak (l := [none, none, none, none, none]) trivial ?_
          exact hK140 m5 h
      · have h := h.2 c9
        refine it_V.weak (l := [some (.ref 66), some (.int v1), some (.int v2), none, none]) ⟨rfl, ⟨rfl, ⟨rfl, trivial⟩⟩⟩ ?_
        exact s_249_142 kc Φ _ _ _ hK2 hK140 hK148 v1 v2 m5 h
    · have h := h.2 c6
      refine it_V.weak (l := [none, none, none, none, none]) trivial ?_
      exact hK140 m5 h
set_option maxRecDepth 100000 in
set_option maxHeartbeats 4000000 in
theorem s_249_35 (kc : it_Kc) (Φ : Int32 → it_Me → Prop) (K2 : Int32 → Int32 → it_Me → Prop) (K140 : it_Me → Prop) (K148 : it_Me → Prop) (hK2 : ∀ (v1 : Int32) (v2 : Int32) (m : it_Me), K2 v1 v2 m → it_V kc it_sh0 249 2 [some (.ref 66), some (.int v1), some (.int v2), none, none] [] m (it_Pi Φ)) (hK140 : ∀ (m : it_Me), K140 m → it_V kc it_sh0 249 140 [none, none, none, none, none] [] m (it_Pi Φ)) (hK148 : ∀ (m : it_Me), K148 m → it_V kc it_sh0 249 148 [none, none, none, none, none] [] m (it_Pi Φ)) (v1 : Int32) (v2 : Int32) (u0 : Int32) (m : it_Me) (h : w_249_35 kc Φ K2 K140 K148 v1 v2 u0 m) : it_V kc it_sh0 249 35 [some (.ref 66), some (.int v1), some (.int v2), none, none] [(.int u0)] m (it_Pi Φ) := by
  rw [w_249_35] at h
  refine it_V.sN it_cd249 it_m249 3 (pc1 := 39) (ls1 := [some (.ref 66), some (.int v1), some (.int v2), some (.int u0), some (.int (0 : Int32))]) (st1 := []) (mem1 := m) rfl ?_
  obtain ⟨n, h⟩ := h
  exact s_249_39 kc Φ _ (fun v1 v2 v3 m h => s_249_97 kc Φ _ _ _ hK2 hK140 hK148 v1 v2 v3 m h) n v1 v2 u0 (0 : Int32) m h
set_option maxRecDepth 100000 in
set_option maxHeartbeats 4000000 in
theorem s_249_34 (kc : it_Kc) (Φ : Int32 → it_Me → Prop) (K2 : Int32 → Int32 → it_Me → Prop) (K140 : it_Me → Prop) (K148 : it_Me → Prop) (hK2 : ∀ (v1 : Int32) (v2 : Int32) (m : it_Me), K2 v1 v2 m → it_V kc it_sh0 249 2 [some (.ref 66), some (.int v1), some (.int v2), none, none] [] m (it_Pi Φ)) (hK140 : ∀ (m : it_Me), K140 m → it_V kc it_sh0 249 140 [none, none, none, none, none] [] m (it_Pi Φ)) (hK148 : ∀ (m : it_Me), K148 m → it_V kc it_sh0 249 148 [none, none, none, none, none] [] m (it_Pi Φ)) (v1 : Int32) (v2 : Int32) (m : it_Me) (h : w_249_34 kc Φ K2 K140 K148 v1 v2 m) : it_V kc it_sh0 249 34 [some (.ref 66), some (.int v1), some (.int v2), none, none] [] m (it_Pi Φ) := by
  rw [w_249_34] at h
  refine it_V.sN it_cd249 it_m249 1 (pc1 := 35) (ls1 := [some (.ref 66), some (.int v1), some (.int v2), none, none]) (st1 := [(.int (0 : Int32))]) (mem1 := m) rfl ?_
  refine it_V.weak (l := [some (.ref 66), some (.int v1), some (.int v2), none, none]) ⟨rfl, ⟨rfl, ⟨rfl, trivial⟩⟩⟩ ?_
  exact s_249_35 kc Φ _ _ _ hK2 hK140 hK148 v1 v2 (0 : Int32) m h
set_option maxRecDepth 100000 in
set_option maxHeartbeats 4000000 in
theorem s_249_2 (kc : it_Kc) (Φ : Int32 → it_Me → Prop) (K140 : it_Me → Prop) (K148 : it_Me → Prop) (hK140 : ∀ (m : it_Me), K140 m → it_V kc it_sh0 249 140 [none, none, none, none, none] [] m (it_Pi Φ)) (hK148 : ∀ (m : it_Me), K148 m → it_V kc it_sh0 249 148 [none, none, none, none, none] [] m (it_Pi Φ)) : ∀ (n : Nat) (v1 : Int32) (v2 : Int32) (m : it_Me) (h : w_249_2 kc Φ K140 K148 n v1 v2 m), it_V kc it_sh0 249 2 [some (.ref 66), some (.int v1), some (.int v2), none, none] [] m (it_Pi Φ) := by
  intro n
  induction n with
  | zero => intro v1 v2 m h; exact absurd h id
  | succ n ih =>
    intro v1 v2 m h
    rw [w_249_2] at h
    refine it_V.sN it_cd249 it_m249 4 (pc1 := (if (m 66 33) ≤ v2 then 148 else 10)) (ls1 := [some (.ref 66), some (.int v1), some (.int v2), none, none]) (st1 := []) (mem1 := m) rfl ?_
    refine it_V.ite (fun c1 => ?_) (fun c1 => ?_)
    · have h := h.1 c1
      refine it_V.weak (l := [none, none, none, none, none]) trivial ?_
      exact hK148 m h
    · have h := h.2 c1
      refine it_V.sN it_cd249 it_m249 3 (pc1 := (if v2 = v1 then 34 else 15)) (ls1 := [some (.ref 66), some (.int v1), some (.int v2), none, none]) (st1 := []) (mem1 := m) rfl ?_
      refine it_V.ite (fun c2 => ?_) (fun c2 => ?_)
      · have h := h.1 c2
        refine it_V.weak (l := [some (.ref 66), some (.int v1), some (.int v2), none, none]) ⟨rfl, ⟨rfl, ⟨rfl, trivial⟩⟩⟩ ?_
        exact s_249_34 kc Φ _ _ _ ih hK140 hK148 v1 v2 m h
      · have h := h.2 c2
        refine it_V.sN it_cd249 it_m249 3 (pc1 := 20) (ls1 := [some (.ref 66), some (.int v1), some (.int v2), none, none]) (st1 := [(.int v2), (.ref 77)]) (mem1 := m) rfl ?_
        obtain ⟨g3, h⟩ := h
        refine it_V.iald it_cd249 it_m249 rfl ((⟨rfl, by decide⟩ : it_isR 77 2048)).2 ((⟨rfl, by decide⟩ : it_isR 77 2048)).1 g3 ?_
        refine it_V.at (pc1 := 21) (ls1 := [some (.ref 66), some (.int v1), some (.int v2), none, none]) (st1 := [(.int (m 77 (Int32.toNatClampNeg v2)))]) (mem1 := m) rfl rfl rfl rfl ?_
        refine it_V.sN it_cd249 it_m249 3 (pc1 := 26) (ls1 := [some (.ref 66), some (.int v1), some (.int v2), none, none]) (st1 := [(.int v1), (.ref 77), (.int (m 77 (Int32.toNatClampNeg v2)))]) (mem1 := m) rfl ?_
        obtain ⟨g4, h⟩ := h
        refine it_V.iald it_cd249 it_m249 rfl ((⟨rfl, by decide⟩ : it_isR 77 2048)).2 ((⟨rfl, by decide⟩ : it_isR 77 2048)).1 g4 ?_
        refine it_V.at (pc1 := 27) (ls1 := [some (.ref 66), some (.int v1), some (.int v2), none, none]) (st1 := [(.int (m 77 (Int32.toNatClampNeg v1))), (.int (m 77 (Int32.toNatClampNeg v2)))]) (mem1 := m) rfl rfl rfl rfl ?_
        refine it_V.sN it_cd249 it_m249 1 (pc1 := (if (m 77 (Int32.toNatClampNeg v2)) = (m 77 (Int32.toNatClampNeg v1)) then 30 else 34)) (ls1 := [some (.ref 66), some (.int v1), some (.int v2), none, none]) (st1 := []) (mem1 := m) rfl ?_
        refine it_V.ite (fun c5 => ?_) (fun c5 => ?_)
        · have h := h.1 c5
          refine it_V.sN it_cd249 it_m249 2 (pc1 := 35) (ls1 := [some (.ref 66), some (.int v1), some (.int v2), none, none]) (st1 := [(.int (1 : Int32))]) (mem1 := m) rfl ?_
          refine it_V.weak (l := [some (.ref 66), some (.int v1), some (.int v2), none, none]) ⟨rfl, ⟨rfl, ⟨rfl, trivial⟩⟩⟩ ?_
          exact s_249_35 kc Φ _ _ _ ih hK140 hK148 v1 v2 (1 : Int32) m h
        · have h := h.2 c5
          refine it_V.weak (l := [some (.ref 66), some (.int v1), some (.int v2), none, none]) ⟨rfl, ⟨rfl, ⟨rfl, trivial⟩⟩⟩ ?_
          exact s_249_34 kc Φ _ _ _ ih hK140 hK148 v1 v2 m h
set_option maxRecDepth 100000 in
set_option maxHeartbeats 4000000 in
theorem s_249_140 (kc : it_Kc) (Φ : Int32 → it_Me → Prop) (m : it_Me) (h : w_249_140 kc Φ m) : it_V kc it_sh0 249 140 [none, none, none, none, none] [] m (it_Pi Φ) := by
  rw [w_249_140] at h
  refine it_V.sN it_cd249 it_m249 1 (pc1 := 141) (ls1 := [none, none, none, none, none]) (st1 := [(.int (1 : Int32))]) (mem1 := m) rfl ?_
  exact it_V.ret it_cd249 it_m249 rfl rfl ⟨_, rfl, h⟩
set_option maxRecDepth 100000 in
set_option maxHeartbeats 4000000 in
theorem s_249_148 (kc : it_Kc) (Φ : Int32 → it_Me → Prop) (m : it_Me) (h : w_249_148 kc Φ m) : it_V kc it_sh0 249 148 [none, none, none, none, none] [] m (it_Pi Φ) := by
  rw [w_249_148] at h
  refine it_V.sN it_cd249 it_m249 1 (pc1 := 149) (ls1 := [none, none, none, none, none]) (st1 := [(.int (0 : Int32))]) (mem1 := m) rfl ?_
  exact it_V.ret it_cd249 it_m249 rfl rfl ⟨_, rfl, h⟩
set_option maxRecDepth 100000 in
set_option maxHeartbeats 4000000 in
theorem s_249 (kc : it_Kc) (x0 : Int32) (m : it_Me) (Φ : Int32 → it_Me → Prop) (h : w_249 kc x0 m Φ) : it_V kc it_sh0 249 0 (it_loc0 [(.ref 66), (.int x0)] 5) [] m (it_Pi Φ) := by
  rw [w_249] at h
  refine it_V.at (pc1 := 0) (ls1 := [some (.ref 66), some (.int x0), none, none, none]) (st1 := []) (mem1 := m) rfl rfl rfl rfl ?_
  refine it_V.sN it_cd249 it_m249 2 (pc1 := 2) (ls1 := [some (.ref 66), some (.int x0), some (.int (0 : Int32)), none, none]) (st1 := []) (mem1 := m) rfl ?_
  obtain ⟨n, h⟩ := h
  exact s_249_2 kc Φ _ _ (fun m h => s_249_140 kc Φ m h) (fun m h => s_249_148 kc Φ m h) n x0 (0 : Int32) m h
