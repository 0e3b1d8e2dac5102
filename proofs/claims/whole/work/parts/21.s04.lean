/-! The formulas are sound for the small machine. Written by wip/whole/gen_wp.py, split_wp.py -/
set_option maxRecDepth 100000 in
set_option maxHeartbeats 4000000 in
theorem s_91_92 (kc : it_Kc) (Φ : Int32 → it_Me → Prop) (K29 : Nat → Int32 → Int32 → Int32 → Int32 → it_Me → Prop) (K98 : Nat → Int32 → Int32 → it_Me → Prop) (hK29 : ∀ (v1 : Nat) (v2 : Int32) (v3 : Int32) (v4 : Int32) (v5 : Int32) (_ : it_isP v1) (m : it_Me), K29 v1 v2 v3 v4 v5 m → it_V kc it_sh0 91 29 [some (.ref 9), some (.ref v1), some (.int v2), some (.int v3), some (.int v4), some (.int v5), none, none, none] [] m (it_Pi Φ)) (hK98 : ∀ (v1 : Nat) (v2 : Int32) (v3 : Int32) (_ : it_isP v1) (m : it_Me), K98 v1 v2 v3 m → it_V kc it_sh0 91 98 [some (.ref 9), some (.ref v1), some (.int v2), some (.int v3), none, none, none, none, none] [] m (it_Pi Φ)) (v1 : Nat) (v2 : Int32) (v3 : Int32) (v4 : Int32) (v5 : Int32) (hv1 : it_isP v1) (m : it_Me) (h : w_91_92 kc Φ K29 K98 v1 v2 v3 v4 v5 m) : it_V kc it_sh0 91 92 [some (.ref 9), some (.ref v1), some (.int v2), some (.int v3), some (.int v4), some (.int v5), none, none, none] [] m (it_Pi Φ) := by
  rw [w_91_92] at h
  refine it_V.sN it_cd91 it_m91 2 (pc1 := 29) (ls1 := [some (.ref 9), some (.ref v1), some (.int v2), some (.int v3), some (.int v4), some (.int (v5 + (1 : Int32))), none, none, none]) (st1 := []) (mem1 := m) rfl ?_
  refine it_V.weak (l := [some (.ref 9), some (.ref v1), some (.int v2), some (.int v3), some (.int v4), some (.int (v5 + (1 : Int32))), none, none, none]) ⟨rfl, ⟨rfl, ⟨rfl, ⟨rfl, ⟨rfl, ⟨rfl, trivial⟩⟩⟩⟩⟩⟩ ?_
  exact hK29 v1 v2 v3 v4 (v5 + (1 : Int32)) (hv1) m h
set_option maxRecDepth 100000 in
set_option maxHeartbeats 4000000 in
theorem s_91_29 (kc : it_Kc) (Φ : Int32 → it_Me → Prop) (K98 : Nat → Int32 → Int32 → it_Me → Prop) (hK98 : ∀ (v1 : Nat) (v2 : Int32) (v3 : Int32) (_ : it_isP v1) (m : it_Me), K98 v1 v2 v3 m → it_V kc it_sh0 91 98 [some (.ref 9), some (.ref v1), some (.int v2), some (.int v3), none, none, none, none, none] [] m (it_Pi Φ)) : ∀ (n : Nat) (v1 : Nat) (v2 : Int32) (v3 : Int32) (v4 : Int32) (v5 : Int32) (hv1 : it_isP v1) (m : it_Me) (h : w_91_29 kc Φ K98 n v1 v2 v3 v4 v5 m), it_V kc it_sh0 91 29 [some (.ref 9), some (.ref v1), some (.int v2), some (.int v3), some (.int v4), some (.int v5), none, none, none] [] m (it_Pi Φ) := by
  intro n
  induction n with
  | zero => intro v1 v2 v3 v4 v5 hv1 m h; exact absurd h id
  | succ n ih =>
    intro v1 v2 v3 v4 v5 hv1 m h
    rw [w_91_29] at h
    refine it_V.sN it_cd91 it_m91 3 (pc1 := (if v4 ≤ v5 then 98 else 36)) (ls1 := [some (.ref 9), some (.ref v1), some (.int v2), some (.int v3), some (.int v4), some (.int v5), none, none, none]) (st1 := []) (mem1 := m) rfl ?_
    refine it_V.ite (fun c1 => ?_) (fun c1 => ?_)
    · have h := h.1 c1
      refine it_V.weak (l := [some (.ref 9), some (.ref v1), some (.int v2), some (.int v3), none, none, none, none, none]) ⟨rfl, ⟨rfl, ⟨rfl, ⟨rfl, trivial⟩⟩⟩⟩ ?_
      exact hK98 v1 v2 v3 (hv1) m h
    · have h := h.2 c1
      refine it_V.sN it_cd91 it_m91 4 (pc1 := 41) (ls1 := [some (.ref 9), some (.ref v1), some (.int v2), some (.int v3), some (.int v4), some (.int v5), none, none, none]) (st1 := [(.int v5), (.int v3), (.ref v1), (.ref 9)]) (mem1 := m) rfl ?_
      refine it_V.call it_cd91 it_m91 rfl it_m88 [(.ref 9), (.ref v1), (.int v3), (.int v5)] [] rfl rfl ⟨Nat.le_of_ble_eq_true rfl, Nat.le_of_ble_eq_true rfl, Nat.le_of_ble_eq_true rfl, Nat.le_of_ble_eq_true rfl, rfl⟩ (s_88 kc v1 v3 v5 (hv1) m _ h) ?_
      rintro _ m3 ⟨r2, rfl, h⟩
      refine it_V.at (pc1 := 44) (ls1 := [some (.ref 9), some (.ref v1), some (.int v2), some (.int v3), some (.int v4), some (.int v5), none, none, none]) (st1 := [(.int r2)]) (mem1 := m3) rfl rfl rfl rfl ?_
      refine it_V.sN it_cd91 it_m91 4 (pc1 := 52) (ls1 := [some (.ref 9), some (.ref v1), some (.int v2), some (.int v3), some (.int v4), some (.int v5), some (.int r2), none, none]) (st1 := [(.int r2), (.ref 1)]) (mem1 := m3) rfl ?_
      refine it_V.call it_cd91 it_m91 rfl it_m12 [(.ref 1), (.int r2)] [] rfl rfl ⟨Nat.le_of_ble_eq_true rfl, Nat.le_of_ble_eq_true rfl, Nat.le_of_ble_eq_true rfl, Nat.le_of_ble_eq_true rfl, rfl⟩ (s_12 kc r2 m3 _ h) ?_
      rintro _ m5 ⟨r4, rfl, h⟩
      refine it_V.at (pc1 := 55) (ls1 := [some (.ref 9), some (.ref v1), some (.int v2), some (.int v3), some (.int v4), some (.int v5), some (.int r2), none, none]) (st1 := [(.int r4)]) (mem1 := m5) rfl rfl rfl rfl ?_
      refine it_V.sN it_cd91 it_m91 6 (pc1 := 65) (ls1 := [some (.ref 9), some (.ref v1), some (.int v2), some (.int v3), some (.int v4), some (.int v5), some (.int r2), some (.int r4), none]) (st1 := [(.int (r2 + (4 : Int32))), (.ref 1)]) (mem1 := m5) rfl ?_
      refine it_V.call it_cd91 it_m91 rfl it_m12 [(.ref 1), (.int (r2 + (4 : Int32)))] [] rfl rfl ⟨Nat.le_of_ble_eq_true rfl, Nat.le_of_ble_eq_true rfl, Nat.le_of_ble_eq_true rfl, Nat.le_of_ble_eq_true rfl, rfl⟩ (s_12 kc (r2 + (4 : Int32)) m5 _ h) ?_
      rintro _ m7 ⟨r6, rfl, h⟩
      refine it_V.at (pc1 := 68) (ls1 := [some (.ref 9), some (.ref v1), some (.int v2), some (.int v3), some (.int v4), some (.int v5), some (.int r2), some (.int r4), none]) (st1 := [(.int r6)]) (mem1 := m7) rfl rfl rfl rfl ?_
      refine it_V.sN it_cd91 it_m91 3 (pc1 := (if r6 ≤ 0 then 92 else 75)) (ls1 := [some (.ref 9), some (.ref v1), some (.int v2), some (.int v3), some (.int v4), some (.int v5), some (.int r2), some (.int r4), some (.int r6)]) (st1 := []) (mem1 := m7) rfl ?_
      refine it_V.ite (fun c8 => ?_) (fun c8 => ?_)
      · have h := h.1 c8
        refine it_V.weak (l := [some (.ref 9), some (.ref v1), some (.int v2), some (.int v3), some (.int v4), some (.int v5), none, none, none]) ⟨rfl, ⟨rfl, ⟨rfl, ⟨rfl, ⟨rfl, ⟨rfl, trivial⟩⟩⟩⟩⟩⟩ ?_
        exact s_91_92 kc Φ _ _ ih hK98 v1 v2 v3 v4 v5 (hv1) m7 h
      · have h := h.2 c8
        refine it_V.sN it_cd91 it_m91 3 (pc1 := (if r4 < (131072 : Int32) then 92 else 82)) (ls1 := [some (.ref 9), some (.ref v1), some (.int v2), some (.int v3), some (.int v4), some (.int v5), some (.int r2), some (.int r4), some (.int r6)]) (st1 := []) (mem1 := m7) rfl ?_
        refine it_V.ite (fun c9 => ?_) (fun c9 => ?_)
        · have h := h.1 c9
          refine it_V.weak (l := [some (.ref 9), some (.ref v1), some (.int v2), some (.int v3), some (.int v4), some (.int v5), none, none, none]) ⟨rfl, ⟨rfl, ⟨rfl, ⟨rfl, ⟨rfl, ⟨rfl, trivial⟩⟩⟩⟩⟩⟩ ?_
          exact s_91_92 kc Φ _ _ ih hK98 v1 v2 v3 v4 v5 (hv1) m7 h
        · have h := h.2 c9
          refine it_V.sN it_cd91 it_m91 6 (pc1 := 92) (ls1 := [some (.ref 9), some (.ref v1), some (.int (it_max v2 (r4 + r6))), some (.int v3), some (.int v4), some (.int v5), some (.int r2), some (.int r4), some (.int r6)]) (st1 := []) (mem1 := m7) rfl ?_
          refine it_V.weak (l := [some (.ref 9), some (.ref v1), some (.int (it_max v2 (r4 + r6))), some (.int v3), some (.int v4), some (.int v5), none, none, none]) ⟨rfl, ⟨rfl, ⟨rfl, ⟨rfl, ⟨rfl, ⟨rfl, trivial⟩⟩⟩⟩⟩⟩ ?_
          exact s_91_92 kc Φ _ _ ih hK98 v1 (it_max v2 (r4 + r6)) v3 v4 v5 (hv1) m7 h
set_option maxRecDepth 100000 in
set_option maxHeartbeats 4000000 in
theorem s_91_98 (kc : it_Kc) (Φ : Int32 → it_Me → Prop) (K7 : Nat → Int32 → Int32 → it_Me → Prop) (K104 : Int32 → it_Me → Prop) (hK7 : ∀ (v1 : Nat) (v2 : Int32) (v3 : Int32) (_ : it_isP v1) (m : it_Me), K7 v1 v2 v3 m → it_V kc it_sh0 91 7 [some (.ref 9), some (.ref v1), some (.int v2), some (.int v3), none, none, none, none, none] [] m (it_Pi Φ)) (hK104 : ∀ (v2 : Int32) (m : it_Me), K104 v2 m → it_V kc it_sh0 91 104 [none, none, some (.int v2), none, none, none, none, none, none] [] m (it_Pi Φ)) (v1 : Nat) (v2 : Int32) (v3 : Int32) (hv1 : it_isP v1) (m : it_Me) (h : w_91_98 kc Φ K7 K104 v1 v2 v3 m) : it_V kc it_sh0 91 98 [some (.ref 9), some (.ref v1), some (.int v2), some (.int v3), none, none, none, none, none] [] m (it_Pi Φ) := by
  rw [w_91_98] at h
  refine it_V.sN it_cd91 it_m91 2 (pc1 := 7) (ls1 := [some (.ref 9), some (.ref v1), some (.int v2), some (.int (v3 + (1 : Int32))), none, none, none, none, none]) (st1 := []) (mem1 := m) rfl ?_
  refine it_V.weak (l := [some (.ref 9), some (.ref v1), some (.int v2), some (.int (v3 + (1 : Int32))), none, none, none, none, none]) ⟨rfl, ⟨rfl, ⟨rfl, ⟨rfl, trivial⟩⟩⟩⟩ ?_
  exact hK7 v1 v2 (v3 + (1 : Int32)) (hv1) m h
set_option maxRecDepth 100000 in
set_option maxHeartbeats 4000000 in
theorem s_91_7 (kc : it_Kc) (Φ : Int32 → it_Me → Prop) (K104 : Int32 → it_Me → Prop) (hK104 : ∀ (v2 : Int32) (m : it_Me), K104 v2 m → it_V kc it_sh0 91 104 [none, none, some (.int v2), none, none, none, none, none, none] [] m (it_Pi Φ)) : ∀ (n : Nat) (v1 : Nat) (v2 : Int32) (v3 : Int32) (hv1 : it_isP v1) (m : it_Me) (h : w_91_7 kc Φ K104 n v1 v2 v3 m), it_V kc it_sh0 91 7 [some (.ref 9), some (.ref v1), some (.int v2), some (.int v3), none, none, none, none, none] [] m (it_Pi Φ) := by
  intro n
  induction n with
  | zero => intro v1 v2 v3 hv1 m h; exact absurd h id
  | succ n ih =>
    intro v1 v2 v3 hv1 m h
    rw [w_91_7] at h
    refine it_V.sN it_cd91 it_m91 3 (pc1 := (if (9 : Int32) ≤ v3 then 104 else 13)) (ls1 := [some (.ref 9), some (.ref v1), some (.int v2), some (.int v3), none, none, none, none, none]) (st1 := []) (mem1 := m) rfl ?_
    refine it_V.ite (fun c1 => ?_) (fun c1 => ?_)
    · have h := h.1 c1
      refine it_V.weak (l := [none, none, some (.int v2), none, none, none, none, none, none]) ⟨rfl, trivial⟩ ?_
      exact hK104 v2 m h
    · have h := h.2 c1
      refine it_V.sN it_cd91 it_m91 2 (pc1 := 17) (ls1 := [some (.ref 9), some (.ref v1), some (.int v2), some (.int v3), none, none, none, none, none]) (st1 := [(.int v3), (.ref (it_K + 3))]) (mem1 := m) rfl ?_
      obtain ⟨g2, h⟩ := h
      refine it_V.kald it_cd91 it_m91 rfl (by decide) g2 ?_
      refine it_V.at (pc1 := 18) (ls1 := [some (.ref 9), some (.ref v1), some (.int v2), some (.int v3), none, none, none, none, none]) (st1 := [(.int ((kc 3).2 (Int32.toNatClampNeg v3)))]) (mem1 := m) rfl rfl rfl rfl ?_
      refine it_V.sN it_cd91 it_m91 2 (pc1 := 22) (ls1 := [some (.ref 9), some (.ref v1), some (.int v2), some (.int v3), none, none, none, none, none]) (st1 := [(.int v3), (.ref (it_K + 4)), (.int ((kc 3).2 (Int32.toNatClampNeg v3)))]) (mem1 := m) rfl ?_
      obtain ⟨g3, h⟩ := h
      refine it_V.kald it_cd91 it_m91 rfl (by decide) g3 ?_
      refine it_V.at (pc1 := 23) (ls1 := [some (.ref 9), some (.ref v1), some (.int v2), some (.int v3), none, none, none, none, none]) (st1 := [(.int ((kc 4).2 (Int32.toNatClampNeg v3))), (.int ((kc 3).2 (Int32.toNatClampNeg v3)))]) (mem1 := m) rfl rfl rfl rfl ?_
      refine it_V.sN it_cd91 it_m91 4 (pc1 := 29) (ls1 := [some (.ref 9), some (.ref v1), some (.int v2), some (.int v3), some (.int (((kc 3).2 (Int32.toNatClampNeg v3)) + ((kc 4).2 (Int32.toNatClampNeg v3)))), some (.int (0 : Int32)), none, none, none]) (st1 := []) (mem1 := m) rfl ?_
      refine it_V.weak (l := [some (.ref 9), some (.ref v1), some (.int v2), some (.int v3), some (.int (((kc 3).2 (Int32.toNatClampNeg v3)) + ((kc 4).2 (Int32.toNatClampNeg v3)))), some (.int (0 : Int32)), none, none, none]) ⟨rfl, ⟨rfl, ⟨rfl, ⟨rfl, ⟨rfl, ⟨rfl, trivial⟩⟩⟩⟩⟩⟩ ?_
      obtain ⟨n, h⟩ := h
      exact s_91_29 kc Φ _ (fun v1 v2 v3 hv1 m h => s_91_98 kc Φ _ _ ih hK104 v1 v2 v3 hv1 m h) n v1 v2 v3 (((kc 3).2 (Int32.toNatClampNeg v3)) + ((kc 4).2 (Int32.toNatClampNeg v3))) (0 : Int32) (hv1) m h
set_option maxRecDepth 100000 in
set_option maxHeartbeats 4000000 in
theorem s_91_104 (kc : it_Kc) (Φ : Int32 → it_Me → Prop) (v2 : Int32) (m : it_Me) (h : w_91_104 kc Φ v2 m) : it_V kc it_sh0 91 104 [none, none, some (.int v2), none, none, none, none, none, none] [] m (it_Pi Φ) := by
  rw [w_91_104] at h
  refine it_V.sN it_cd91 it_m91 1 (pc1 := 105) (ls1 := [none, none, some (.int v2), none, none, none, none, none, none]) (st1 := [(.int v2)]) (mem1 := m) rfl ?_
  exact it_V.ret it_cd91 it_m91 rfl rfl ⟨_, rfl, h⟩
set_option maxRecDepth 100000 in
set_option maxHeartbeats 4000000 in
theorem s_91 (kc : it_Kc) (x0 : Nat) (hx0 : it_isP x0) (m : it_Me) (Φ : Int32 → it_Me → Prop) (h : w_91 kc x0 m Φ) : it_V kc it_sh0 91 0 (it_loc0 [(.ref 9), (.ref x0)] 9) [] m (it_Pi Φ) := by
  rw [w_91] at h
  refine it_V.at (pc1 := 0) (ls1 := [some (.ref 9), some (.ref x0), none, none, none, none, none, none, none]) (st1 := []) (mem1 := m) rfl rfl rfl rfl ?_
  refine it_V.sN it_cd91 it_m91 1 (pc1 := 1) (ls1 := [some (.ref 9), some (.ref x0), none, none, none, none, none, none, none]) (st1 := [(.ref x0)]) (mem1 := m) rfl ?_
  refine it_V.getP it_cd91 it_m91 rfl (hx0).1 rfl ?_
  refine it_V.at (pc1 := 4) (ls1 := [some (.ref 9), some (.ref x0), none, none, none, none, none, none, none]) (st1 := [(.int (m x0 5))]) (mem1 := m) rfl rfl rfl rfl ?_
  refine it_V.sN it_cd91 it_m91 3 (pc1 := 7) (ls1 := [some (.ref 9), some (.ref x0), some (.int (m x0 5)), some (.int (0 : Int32)), none, none, none, none, none]) (st1 := []) (mem1 := m) rfl ?_
  obtain ⟨n, h⟩ := h
  exact s_91_7 kc Φ _ (fun v2 m h => s_91_104 kc Φ v2 m h) n x0 (m x0 5) (0 : Int32) (hx0) m h
set_option maxRecDepth 100000 in
set_option maxHeartbeats 4000000 in
theorem s_134_21 (kc : it_Kc) (Φ : Int32 → it_Me → Prop) (u0 : Int32) (m : it_Me) (h : w_134_21 kc Φ u0 m) : it_V kc it_sh0 134 21 [none] [(.int u0)] m (it_Pi Φ) := by
  rw [w_134_21] at h
  exact it_V.ret it_cd134 it_m134 rfl rfl ⟨_, rfl, h⟩
set_option maxRecDepth 100000 in
set_option maxHeartbeats 4000000 in
theorem s_134 (kc : it_Kc) (k : Nat) (hk : it_isP k) (m : it_Me) (Φ : Int32 → it_Me → Prop) (h : w_134 kc k m Φ) : it_V kc it_sh0 134 0 (it_loc0 [(.ref k)] 1) [] m (it_Pi Φ) := by
  rw [w_134] at h
  refine it_V.at (pc1 := 0) (ls1 := [some (.ref k)]) (st1 := []) (mem1 := m) rfl rfl rfl rfl ?_
  refine it_V.sN it_cd134 it_m134 1 (pc1 := 1) (ls1 := [some (.ref k)]) (st1 := [(.ref k)]) (mem1 := m) rfl ?_
  refine it_V.getP it_cd134 it_m134 rfl (hk).1 rfl ?_
  refine it_V.at (pc1 := 4) (ls1 := [some (.ref k)]) (st1 := [(.int (m k 10))]) (mem1 := m) rfl rfl rfl rfl ?_
  refine it_V.sN it_cd134 it_m134 1 (pc1 := (if (m k 10) = 0 then 17 else 7)) (ls1 := [some (.ref k)]) (st1 := []) (mem1 := m) rfl ?_
  refine it_V.ite (fun c1 => ?_) (fun c1 => ?_)
  · have h := h.1 c1
    refine it_V.sN it_cd134 it_m134 1 (pc1 := 18) (ls1 := [some (.ref k)]) (st1 := [(.ref k)]) (mem1 := m) rfl ?_
    refine it_V.getP it_cd134 it_m134 rfl (hk).1 rfl ?_
    refine it_V.at (pc1 := 21) (ls1 := [some (.ref k)]) (st1 := [(.int (m k 9))]) (mem1 := m) rfl rfl rfl rfl ?_
    refine it_V.weak (l := [none]) trivial ?_
    exact s_134_21 kc Φ (m k 9) m h
  · have h := h.2 c1
    refine it_V.sN it_cd134 it_m134 1 (pc1 := 8) (ls1 := [some (.ref k)]) (st1 := [(.ref k)]) (mem1 := m) rfl ?_
    refine it_V.getP it_cd134 it_m134 rfl (hk).1 rfl ?_
    refine it_V.at (pc1 := 11) (ls1 := [some (.ref k)]) (st1 := [(.int (m k 9))]) (mem1 := m) rfl rfl rfl rfl ?_
    refine it_V.sN it_cd134 it_m134 3 (pc1 := 21) (ls1 := [some (.ref k)]) (st1 := [(.int ((m k 9) + (8 : Int32)))]) (mem1 := m) rfl ?_
    refine it_V.weak (l := [none]) trivial ?_
    exact s_134_21 kc Φ ((m k 9) + (8 : Int32)) m h
set_option maxRecDepth 100000 in
set_option maxHeartbeats 4000000 in
theorem s_92_2 (kc : it_Kc) (Φ : it_Me → Prop) (K132 : it_Me → Prop) (hK132 : ∀ (m : it_Me), K132 m → it_V kc it_sh0 92 132 [none, none, none, none] [] m (it_Pv Φ)) : ∀ (n : Nat) (v1 : Int32) (m : it_Me) (h : w_92_2 kc Φ K132 n v1 m), it_V kc it_sh0 92 2 [some (.ref 9), some (.int v1), none, none] [] m (it_Pv Φ) := by
  intro n
  induction n with
  | zero => intro v1 m h; exact absurd h id
  | succ n ih =>
    intro v1 m h
    rw [w_92_2] at h
    refine it_V.sN it_cd92 it_m92 4 (pc1 := (if (m 9 7) ≤ v1 then 132 else 10)) (ls1 := [some (.ref 9), some (.int v1), none, none]) (st1 := []) (mem1 := m) rfl ?_
    refine it_V.ite (fun c1 => ?_) (fun c1 => ?_)
    · have h := h.1 c1
      refine it_V.weak (l := [none, none, none, none]) trivial ?_
      exact hK132 m h
    · have h := h.2 c1
      refine it_V.sN it_cd92 it_m92 3 (pc1 := 15) (ls1 := [some (.ref 9), some (.int v1), none, none]) (st1 := [(.int v1), (.ref 10)]) (mem1 := m) rfl ?_
      obtain ⟨g2, h⟩ := h
      refine it_V.aald it_cd92 it_m92 rfl g2 ?_
      refine it_V.at (pc1 := 16) (ls1 := [some (.ref 9), some (.int v1), none, none]) (st1 := [(.ref (14 + 5 * Int32.toNatClampNeg v1))]) (mem1 := m) rfl rfl rfl rfl ?_
      refine it_V.sN it_cd92 it_m92 2 (pc1 := 18) (ls1 := [some (.ref 9), some (.int v1), some (.ref (14 + 5 * Int32.toNatClampNeg v1)), none]) (st1 := [(.ref (14 + 5 * Int32.toNatClampNeg v1))]) (mem1 := m) rfl ?_
      refine it_V.call it_cd92 it_m92 rfl it_m129 [(.ref (14 + 5 * Int32.toNatClampNeg v1))] [] rfl rfl ⟨Nat.le_of_ble_eq_true rfl, Nat.le_of_ble_eq_true rfl, Nat.le_of_ble_eq_true rfl, Nat.le_of_ble_eq_true rfl, (it_recvP (it_isP_of g2).1)⟩ (s_129 kc (14 + 5 * Int32.toNatClampNeg v1) (it_isP_of g2) m _ h) ?_
      rintro _ m4 ⟨r3, rfl, h⟩
      refine it_V.at (pc1 := 21) (ls1 := [some (.ref 9), some (.int v1), some (.ref (14 + 5 * Int32.toNatClampNeg v1)), none]) (st1 := [(.int r3)]) (mem1 := m4) rfl rfl rfl rfl ?_
      refine it_V.sN it_cd92 it_m92 5 (pc1 := 28) (ls1 := [some (.ref 9), some (.int v1), some (.ref (14 + 5 * Int32.toNatClampNeg v1)), some (.int r3)]) (st1 := [(.ref (14 + 5 * Int32.toNatClampNeg v1)), (.int r3), (.ref 1)]) (mem1 := m4) rfl ?_
      refine it_V.getP it_cd92 it_m92 rfl (it_isP_of g2).1 rfl ?_
      refine it_V.at (pc1 := 31) (ls1 := [some (.ref 9), some (.int v1), some (.ref (14 + 5 * Int32.toNatClampNeg v1)), some (.int r3)]) (st1 := [(.int (m4 (14 + 5 * Int32.toNatClampNeg v1) 0)), (.int r3), (.ref 1)]) (mem1 := m4) rfl rfl rfl rfl ?_
      refine it_V.call it_cd92 it_m92 rfl it_m13 [(.ref 1), (.int r3), (.int (m4 (14 + 5 * Int32.toNatClampNeg v1) 0))] [] rfl rfl ⟨Nat.le_of_ble_eq_true rfl, Nat.le_of_ble_eq_true rfl, Nat.le_of_ble_eq_true rfl, Nat.le_of_ble_eq_true rfl, rfl⟩ (s_13 kc r3 (m4 (14 + 5 * Int32.toNatClampNeg v1) 0) m4 _ h) ?_
      rintro _ m5 ⟨rfl, h⟩
      refine it_V.at (pc1 := 34) (ls1 := [some (.ref 9), some (.int v1), some (.ref (14 + 5 * Int32.toNatClampNeg v1)), some (.int r3)]) (st1 := []) (mem1 := m5) rfl rfl rfl rfl ?_
      refine it_V.sN it_cd92 it_m92 6 (pc1 := 42) (ls1 := [some (.ref 9), some (.int v1), some (.ref (14 + 5 * Int32.toNatClampNeg v1)), some (.int r3)]) (st1 := [(.ref (14 + 5 * Int32.toNatClampNeg v1)), (.int (r3 + (4 : Int32))), (.ref 1)]) (mem1 := m5) rfl ?_
      refine it_V.getP it_cd92 it_m92 rfl (it_isP_of g2).1 rfl ?_
      refine it_V.at (pc1 := 45) (ls1 := [some (.ref 9), some (.int v1), some (.ref (14 + 5 * Int32.toNatClampNeg v1)), some (.int r3)]) (st1 := [(.ref ((14 + 5 * Int32.toNatClampNeg v1) + 1)), (.int (r3 + (4 : Int32))), (.ref 1)]) (mem1 := m5) rfl rfl rfl rfl ?_
      refine it_V.getP it_cd92 it_m92 rfl (it_isP_of g2).2.1 rfl ?_
      refine it_V.at (pc1 := 48) (ls1 := [some (.ref 9), some (.int v1), some (.ref (14 + 5 * Int32.toNatClampNeg v1)), some (.int r3)]) (st1 := [(.int (m5 ((14 + 5 * Int32.toNatClampNeg v1) + 1) 1)), (.int (r3 + (4 : Int32))), (.ref 1)]) (mem1 := m5) rfl rfl rfl rfl ?_
      refine it_V.call it_cd92 it_m92 rfl it_m13 [(.ref 1), (.int (r3 + (4 : Int32))), (.int (m5 ((14 + 5 * Int32.toNatClampNeg v1) + 1) 1))] [] rfl rfl ⟨Nat.le_of_ble_eq_true rfl, Nat.le_of_ble_eq_true rfl, Nat.le_of_ble_eq_true rfl, Nat.le_of_ble_eq_true rfl, rfl⟩ (s_13 kc (r3 + (4 : Int32)) (m5 ((14 + 5 * Int32.toNatClampNeg v1) + 1) 1) m5 _ h) ?_
      rintro _ m6 ⟨rfl, h⟩
      refine it_V.at (pc1 := 51) (ls1 := [some (.ref 9), some (.int v1), some (.ref (14 + 5 * Int32.toNatClampNeg v1)), some (.int r3)]) (st1 := []) (mem1 := m6) rfl rfl rfl rfl ?_
      refine it_V.sN it_cd92 it_m92 6 (pc1 := 60) (ls1 := [some (.ref 9), some (.int v1), some (.ref (14 + 5 * Int32.toNatClampNeg v1)), some (.int r3)]) (st1 := [(.ref (14 + 5 * Int32.toNatClampNeg v1)), (.int (r3 + (8 : Int32))), (.ref 1)]) (mem1 := m6) rfl ?_
      refine it_V.getP it_cd92 it_m92 rfl (it_isP_of g2).1 rfl ?_
      refine it_V.at (pc1 := 63) (ls1 := [some (.ref 9), some (.int v1), some (.ref (14 + 5 * Int32.toNatClampNeg v1)), some (.int r3)]) (st1 := [(.int (m6 (14 + 5 * Int32.toNatClampNeg v1) 7)), (.int (r3 + (8 : Int32))), (.ref 1)]) (mem1 := m6) rfl rfl rfl rfl ?_
      refine it_V.call it_cd92 it_m92 rfl it_m13 [(.ref 1), (.int (r3 + (8 : Int32))), (.int (m6 (14 + 5 * Int32.toNatClampNeg v1) 7))] [] rfl rfl ⟨Nat.le_of_ble_eq_true rfl, Nat.le_of_ble_eq_true rfl, Nat.le_of_ble_eq_true rfl, Nat.le_of_ble_eq_true rfl, rfl⟩ (s_13 kc (r3 + (8 : Int32)) (m6 (14 + 5 * Int32.toNatClampNeg v1) 7) m6 _ h) ?_
      rintro _ m7 ⟨rfl, h⟩
      refine it_V.at (pc1 := 66) (ls1 := [some (.ref 9), some (.int v1), some (.ref (14 + 5 * Int32.toNatClampNeg v1)), some (.int r3)]) (st1 := []) (mem1 := m7) rfl rfl rfl rfl ?_
      refine it_V.sN it_cd92 it_m92 6 (pc1 := 75) (ls1 := [some (.ref 9), some (.int v1), some (.ref (14 + 5 * Int32.toNatClampNeg v1)), some (.int r3)]) (st1 := [(.ref (14 + 5 * Int32.toNatClampNeg v1)), (.int (r3 + (12 : Int32))), (.ref 1)]) (mem1 := m7) rfl ?_
      refine it_V.getP it_cd92 it_m92 rfl (it_isP_of g2).1 rfl ?_
      refine it_V.at (pc1 := 78) (ls1 := [some (.ref 9), some (.int v1), some (.ref (14 + 5 * Int32.toNatClampNeg v1)), some (.int r3)]) (st1 := [(.int (m7 (14 + 5 * Int32.toNatClampNeg v1) 8)), (.int (r3 + (12 : Int32))), (.ref 1)]) (mem1 := m7) rfl rfl rfl rfl ?_
      refine it_V.call it_cd92 it_m92 rfl it_m13 [(.ref 1), (.int (r3 + (12 : Int32))), (.int (m7 (14 + 5 * Int32.toNatClampNeg v1) 8))] [] rfl rfl ⟨Nat.le_of_ble_eq_true rfl, Nat.le_of_ble_eq_true rfl, Nat.le_of_ble_eq_true rfl, Nat.le_of_ble_eq_true rfl, rfl⟩ (s_13 kc (r3 + (12 : Int32)) (m7 (14 + 5 * Int32.toNatClampNeg v1) 8) m7 _ h) ?_
      rintro _ m8 ⟨rfl, h⟩
      refine it_V.at (pc1 := 81) (ls1 := [some (.ref 9), some (.int v1), some (.ref (14 + 5 * Int32.toNatClampNeg v1)), some (.int r3)]) (st1 := []) (mem1 := m8) rfl rfl rfl rfl ?_
      refine it_V.sN it_cd92 it_m92 6 (pc1 := 90) (ls1 := [some (.ref 9), some (.int v1), some (.ref (14 + 5 * Int32.toNatClampNeg v1)), some (.int r3)]) (st1 := [(.ref (14 + 5 * Int32.toNatClampNeg v1)), (.int (r3 + (16 : Int32))), (.ref 1)]) (mem1 := m8) rfl ?_
      refine it_V.getP it_cd92 it_m92 rfl (it_isP_of g2).1 rfl ?_
      refine it_V.at (pc1 := 93) (ls1 := [some (.ref 9), some (.int v1), some (.ref (14 + 5 * Int32.toNatClampNeg v1)), some (.int r3)]) (st1 := [(.int (m8 (14 + 5 * Int32.toNatClampNeg v1) 12)), (.int (r3 + (16 : Int32))), (.ref 1)]) (mem1 := m8) rfl rfl rfl rfl ?_
      refine it_V.call it_cd92 it_m92 rfl it_m13 [(.ref 1), (.int (r3 + (16 : Int32))), (.int (m8 (14 + 5 * Int32.toNatClampNeg v1) 12))] [] rfl rfl ⟨Nat.le_of_ble_eq_true rfl, Nat.le_of_ble_eq_true rfl, Nat.le_of_ble_eq_true rfl, Nat.le_of_ble_eq_true rfl, rfl⟩ (s_13 kc (r3 + (16 : Int32)) (m8 (14 + 5 * Int32.toNatClampNeg v1) 12) m8 _ h) ?_
      rintro _ m9 ⟨rfl, h⟩
      refine it_V.at (pc1 := 96) (ls1 := [some (.ref 9), some (.int v1), some (.ref (14 + 5 * Int32.toNatClampNeg v1)), some (.int r3)]) (st1 := []) (mem1 := m9) rfl rfl rfl rfl ?_
      refine it_V.sN it_cd92 it_m92 6 (pc1 := 105) (ls1 := [some (.ref 9), some (.int v1), some (.ref (14 + 5 * Int32.toNatClampNeg v1)), some (.int r3)]) (st1 := [(.ref (14 + 5 * Int32.toNatClampNeg v1)), (.int (r3 + (20 : Int32))), (.ref 1)]) (mem1 := m9) rfl ?_
      refine it_V.getP it_cd92 it_m92 rfl (it_isP_of g2).1 rfl ?_
      refine it_V.at (pc1 := 108) (ls1 := [some (.ref 9), some (.int v1), some (.ref (14 + 5 * Int32.toNatClampNeg v1)), some (.int r3)]) (st1 := [(.int (m9 (14 + 5 * Int32.toNatClampNeg v1) 14)), (.int (r3 + (20 : Int32))), (.ref 1)]) (mem1 := m9) rfl rfl rfl rfl ?_
      refine it_V.call it_cd92 it_m92 rfl it_m13 [(.ref 1), (.int (r3 + (20 : Int32))), (.int (m9 (14 + 5 * Int32.toNatClampNeg v1) 14))] [] rfl rfl ⟨Nat.le_of_ble_eq_true rfl, Nat.le_of_ble_eq_true rfl, Nat.le_of_ble_eq_true rfl, Nat.le_of_ble_eq_true rfl, rfl⟩ (s_13 kc (r3 + (20 : Int32)) (m9 (14 + 5 * Int32.toNatClampNeg v1) 14) m9 _ h) ?_
      rintro _ m10 ⟨rfl, h⟩
      refine it_V.at (pc1 := 111) (ls1 := [some (.ref 9), some (.int v1), some (.ref (14 + 5 * Int32.toNatClampNeg v1)), some (.int r3)]) (st1 := []) (mem1 := m10) rfl rfl rfl rfl ?_
      refine it_V.sN it_cd92 it_m92 6 (pc1 := 120) (ls1 := [some (.ref 9), some (.int v1), some (.ref (14 + 5 * Int32.toNatClampNeg v1)), some (.int r3)]) (st1 := [(.ref (14 + 5 * Int32.toNatClampNeg v1)), (.int (r3 + (36 : Int32))), (.ref 1)]) (mem1 := m10) rfl ?_
      refine it_V.call it_cd92 it_m92 rfl it_m134 [(.ref (14 + 5 * Int32.toNatClampNeg v1))] [(.int (r3 + (36 : Int32))), (.ref 1)] rfl rfl ⟨Nat.le_of_ble_eq_true rfl, Nat.le_of_ble_eq_true rfl, Nat.le_of_ble_eq_true rfl, Nat.le_of_ble_eq_true rfl, (it_recvP (it_isP_of g2).1)⟩ (s_134 kc (14 + 5 * Int32.toNatClampNeg v1) (it_isP_of g2) m10 _ h) ?_
      rintro _ m12 ⟨r11, rfl, h⟩
      refine it_V.at (pc1 := 123) (ls1 := [some (.ref 9), some (.int v1), some (.ref (14 + 5 * Int32.toNatClampNeg v1)), some (.int r3)]) (st1 := [(.int r11), (.int (r3 + (36 : Int32))), (.ref 1)]) (mem1 := m12) rfl rfl rfl rfl ?_
      refine it_V.call it_cd92 it_m92 rfl it_m13 [(.ref 1), (.int (r3 + (36 : Int32))), (.int r11)] [] rfl rfl ⟨Nat.le_of_ble_eq_true rfl, Nat.le_of_ble_eq_true rfl, Nat.le_of_ble_eq_true rfl, Nat.le_of_ble_eq_true rfl, rfl⟩ (s_13 kc (r3 + (36 : Int32)) r11 m12 _ h) ?_
      rintro _ m13 ⟨rfl, h⟩
      refine it_V.at (pc1 := 126) (ls1 := [some (.ref 9), some (.int v1), some (.ref (14 + 5 * Int32.toNatClampNeg v1)), some (.int r3)]) (st1 := []) (mem1 := m13) rfl rfl rfl rfl ?_
      refine it_V.sN it_cd92 it_m92 2 (pc1 := 2) (ls1 := [some (.ref 9), some (.int (v1 + (1 : Int32))), some (.ref (14 + 5 * Int32.toNatClampNeg v1)), some (.int r3)]) (st1 := []) (mem1 := m13) rfl ?_
      refine it_V.weak (l := [some (.ref 9), some (.int (v1 + (1 : Int32))), none, none]) ⟨rfl, ⟨rfl, trivial⟩⟩ ?_
      exact ih (v1 + (1 : Int32)) m13 h
set_option maxRecDepth 100000 in
set_option maxHeartbeats 4000000 in
theorem s_92_132 (kc : it_Kc) (Φ : it_Me → Prop) (m : it_Me) (h : w_92_132 kc Φ m) : it_V kc it_sh0 92 132 [none, none, none, none] [] m (it_Pv Φ) := by
  rw [w_92_132] at h
  exact it_V.ret it_cd92 it_m92 rfl rfl ⟨rfl, h⟩
set_option maxRecDepth 100000 in
set_option maxHeartbeats 4000000 in
theorem s_92 (kc : it_Kc) (m : it_Me) (Φ : it_Me → Prop) (h : w_92 kc m Φ) : it_V kc it_sh0 92 0 (it_loc0 [(.ref 9)] 4) [] m (it_Pv Φ) := by
  rw [w_92] at h
  refine it_V.at (pc1 := 0) (ls1 := [some (.ref 9), none, none, none]) (st1 := []) (mem1 := m) rfl rfl rfl rfl ?_
  refine it_V.sN it_cd92 it_m92 2 (pc1 := 2) (ls1 := [some (.ref 9), some (.int (0 : Int32)), none, none]) (st1 := []) (mem1 := m) rfl ?_
  obtain ⟨n, h⟩ := h
  exact s_92_2 kc Φ _ (fun m h => s_92_132 kc Φ m h) n (0 : Int32) m h
set_option maxRecDepth 100000 in
set_option maxHeartbeats 4000000 in
theorem s_96_39 (kc : it_Kc) (Φ : it_Me → Prop) (m : it_Me) (h : w_96_39 kc Φ m) : it_V kc it_sh0 96 39 [none, none, none] [] m (it_Pv Φ) := by
  rw [w_96_39] at h
  exact it_V.ret it_cd96 it_m96 rfl rfl ⟨rfl, h⟩
set_option maxRecDepth 100000 in
set_option maxHeartbeats 4000000 in
theorem s_96 (kc : it_Kc) (x0 : Int32) (x1 : Int32) (m : it_Me) (Φ : it_Me → Prop) (h : w_96 kc x0 x1 m Φ) : it_V kc it_sh0 96 0 (it_loc0 [(.ref 9), (.int x0), (.int x1)] 3) [] m (it_Pv Φ) := by
  rw [w_96] at h
  refine it_V.at (pc1 := 0) (ls1 := [some (.ref 9), some (.int x0), some (.int x1)]) (st1 := []) (mem1 := m) rfl rfl rfl rfl ?_
  refine it_V.sN it_cd96 it_m96 4 (pc1 := (if (16 : Int32) ≤ (m 9 6) then 39 else 9)) (ls1 := [some (.ref 9), some (.int x0), some (.int x1)]) (st1 := []) (mem1 := m) rfl ?_
  refine it_V.ite (fun c1 => ?_) (fun c1 => ?_)
  · have h := h.1 c1
    refine it_V.weak (l := [none, none, none]) trivial ?_
    exact s_96_39 kc Φ m h
  · have h := h.2 c1
    refine it_V.sN it_cd96 it_m96 5 (pc1 := 18) (ls1 := [some (.ref 9), some (.int x0), some (.int x1)]) (st1 := [(.int x0), (.int (m 9 6)), (.ref 11)]) (mem1 := m) rfl ?_
    obtain ⟨g2, h⟩ := h
    refine it_V.iast it_cd96 it_m96 rfl ((⟨rfl, by decide⟩ : it_isR 11 16)).1 g2 ?_
    refine it_V.at (pc1 := 19) (ls1 := [some (.ref 9), some (.int x0), some (.int x1)]) (st1 := []) (mem1 := (it_sv m 11 (Int32.toNatClampNeg (m 9 6)) x0)) rfl rfl rfl rfl ?_
    refine it_V.sN it_cd96 it_m96 5 (pc1 := 28) (ls1 := [some (.ref 9), some (.int x0), some (.int x1)]) (st1 := [(.int x1), (.int ((it_sv m 11 (Int32.toNatClampNeg (m 9 6)) x0) 9 6)), (.ref 12)]) (mem1 := (it_sv m 11 (Int32.toNatClampNeg (m 9 6)) x0)) rfl ?_
    obtain ⟨g3, h⟩ := h
    refine it_V.iast it_cd96 it_m96 rfl ((⟨rfl, by decide⟩ : it_isR 12 16)).1 g3 ?_
    refine it_V.at (pc1 := 29) (ls1 := [some (.ref 9), some (.int x0), some (.int x1)]) (st1 := []) (mem1 := (it_sv (it_sv m 11 (Int32.toNatClampNeg (m 9 6)) x0) 12 (Int32.toNatClampNeg ((it_sv m 11 (Int32.toNatClampNeg (m 9 6)) x0) 9 6)) x1)) rfl rfl rfl rfl ?_
    refine it_V.sN it_cd96 it_m96 6 (pc1 := 39) (ls1 := [some (.ref 9), some (.int x0), some (.int x1)]) (st1 := []) (mem1 := (it_sv (it_sv (it_sv m 11 (Int32.toNatClampNeg (m 9 6)) x0) 12 (Int32.toNatClampNeg ((it_sv m 11 (Int32.toNatClampNeg (m 9 6)) x0) 9 6)) x1) 9 6 (((it_sv (it_sv m 11 (Int32.toNatClampNeg (m 9 6)) x0) 12 (Int32.toNatClampNeg ((it_sv m 11 (Int32.toNatClampNeg (m 9 6)) x0) 9 6)) x1) 9 6) + (1 : Int32)))) rfl ?_
    refine it_V.weak (l := [none, none, none]) trivial ?_
    exact s_96_39 kc Φ (it_sv (it_sv (it_sv m 11 (Int32.toNatClampNeg (m 9 6)) x0) 12 (Int32.toNatClampNeg ((it_sv m 11 (Int32.toNatClampNeg (m 9 6)) x0) 9 6)) x1) 9 6 (((it_sv (it_sv m 11 (Int32.toNatClampNeg (m 9 6)) x0) 12 (Int32.toNatClampNeg ((it_sv m 11 (Int32.toNatClampNeg (m 9 6)) x0) 9 6)) x1) 9 6) + (1 : Int32))) h
set_option maxRecDepth 100000 in
set_option maxHeartbeats 4000000 in
theorem s_95_98 (kc : it_Kc) (Φ : it_Me → Prop) (m : it_Me) (h : w_95_98 kc Φ m) : it_V kc it_sh0 95 98 [none, none, none, none, none] [] m (it_Pv Φ) := by
  rw [w_95_98] at h
  exact it_V.ret it_cd95 it_m95 rfl rfl ⟨rfl, h⟩
set_option maxRecDepth 100000 in
set_option maxHeartbeats 4000000 in
theorem s_95_52 (kc : it_Kc) (Φ : it_Me → Prop) (v1 : Int32) (v2 : Int32) (v3 : Int32) (v4 : Int32) (m : it_Me) (h : w_95_52 kc Φ v1 v2 v3 v4 m) : it_V kc it_sh0 95 52 [some (.ref 9), some (.int v1), some (.int v2), some (.int v3), some (.int v4)] [] m (it_Pv Φ) := by
  rw [w_95_52] at h
  refine it_V.sN it_cd95 it_m95 2 (pc1 := (if v4 = 0 then 77 else 57)) (ls1 := [some (.ref 9), some (.int v1), some (.int v2), some (.int v3), some (.int v4)]) (st1 := []) (mem1 := m) rfl ?_
  refine it_V.ite (fun c1 => ?_) (fun c1 => ?_)
  · have h := h.1 c1
    refine it_V.sN it_cd95 it_m95 5 (pc1 := 82) (ls1 := [some (.ref 9), some (.int v1), some (.int v2), some (.int v3), some (.int v4)]) (st1 := [(.int (0 : Int32)), (.int (it_shr v1 (2 : Int32))), (.ref 9)]) (mem1 := m) rfl ?_
    refine it_V.call it_cd95 it_m95 rfl it_m96 [(.ref 9), (.int (it_shr v1 (2 : Int32))), (.int (0 : Int32))] [] rfl rfl ⟨Nat.le_of_ble_eq_true rfl, Nat.le_of_ble_eq_true rfl, Nat.le_of_ble_eq_true rfl, Nat.le_of_ble_eq_true rfl, rfl⟩ (s_96 kc (it_shr v1 (2 : Int32)) (0 : Int32) m _ h) ?_
    rintro _ m2 ⟨rfl, h⟩
    refine it_V.at (pc1 := 85) (ls1 := [some (.ref 9), some (.int v1), some (.int v2), some (.int v3), some (.int v4)]) (st1 := []) (mem1 := m2) rfl rfl rfl rfl ?_
    refine it_V.sN it_cd95 it_m95 9 (pc1 := 95) (ls1 := [some (.ref 9), some (.int v1), some (.int v2), some (.int v3), some (.int v4)]) (st1 := [(.int (v3 ||| (8 : Int32))), (.int (it_shr (v1 + v2) (2 : Int32))), (.ref 9)]) (mem1 := m2) rfl ?_
    refine it_V.call it_cd95 it_m95 rfl it_m96 [(.ref 9), (.int (it_shr (v1 + v2) (2 : Int32))), (.int (v3 ||| (8 : Int32)))] [] rfl rfl ⟨Nat.le_of_ble_eq_true rfl, Nat.le_of_ble_eq_true rfl, Nat.le_of_ble_eq_true rfl, Nat.le_of_ble_eq_true rfl, rfl⟩ (s_96 kc (it_shr (v1 + v2) (2 : Int32)) (v3 ||| (8 : Int32)) m2 _ h) ?_
    rintro _ m3 ⟨rfl, h⟩
    refine it_V.at (pc1 := 98) (ls1 := [some (.ref 9), some (.int v1), some (.int v2), some (.int v3), some (.int v4)]) (st1 := []) (mem1 := m3) rfl rfl rfl rfl ?_
    refine it_V.weak (l := [none, none, none, none, none]) trivial ?_
    exact s_95_98 kc Φ m3 h
  · have h := h.2 c1
    refine it_V.sN it_cd95 it_m95 13 (pc1 := 71) (ls1 := [some (.ref 9), some (.int v1), some (.int v2), some (.int v3), some (.int v4)]) (st1 := [(.int (v3 ||| (24 : Int32))), (.int ((it_shr v1 (2 : Int32)) ||| ((it_shr v2 (3 : Int32)) - (1 : Int32)))), (.ref 9)]) (mem1 := m) rfl ?_
    refine it_V.call it_cd95 it_m95 rfl it_m96 [(.ref 9), (.int ((it_shr v1 (2 : Int32)) ||| ((it_shr v2 (3 : Int32)) - (1 : Int32)))), (.int (v3 ||| (24 : Int32)))] [] rfl rfl ⟨Nat.le_of_ble_eq_true rfl, Nat.le_of_ble_eq_true rfl, Nat.le_of_ble_eq_true rfl, Nat.le_of_ble_eq_true rfl, rfl⟩ (s_96 kc ((it_shr v1 (2 : Int32)) ||| ((it_shr v2 (3 : Int32)) - (1 : Int32))) (v3 ||| (24 : Int32)) m _ h) ?_
    rintro _ m4 ⟨rfl, h⟩
    refine it_V.at (pc1 := 74) (ls1 := [some (.ref 9), some (.int v1), some (.int v2), some (.int v3), some (.int v4)]) (st1 := []) (mem1 := m4) rfl rfl rfl rfl ?_
    refine it_V.sN it_cd95 it_m95 1 (pc1 := 98) (ls1 := [some (.ref 9), some (.int v1), some (.int v2), some (.int v3), some (.int v4)]) (st1 := []) (mem1 := m4) rfl ?_
    refine it_V.weak (l := [none, none, none, none, none]) trivial ?_
    exact s_95_98 kc Φ m4 h
set_option maxRecDepth 100000 in
set_option maxHeartbeats 4000000 in
theorem s_95_26 (kc : it_Kc) (Φ : it_Me → Prop) (v1 : Int32) (v2 : Int32) (v3 : Int32) (u0 : Int32) (m : it_Me) (h : w_95_26 kc Φ v1 v2 v3 u0 m) : it_V kc it_sh0 95 26 [some (.ref 9), some (.int v1), some (.int v2), some (.int v3), none] [(.int u0)] m (it_Pv Φ) := by
  rw [w_95_26] at h
  refine it_V.sN it_cd95 it_m95 3 (pc1 := (if u0 = 0 then 52 else 33)) (ls1 := [some (.ref 9), some (.int v1), some (.int v2), some (.int v3), some (.int u0)]) (st1 := []) (mem1 := m) rfl ?_
  refine it_V.ite (fun c1 => ?_) (fun c1 => ?_)
  · have h := h.1 c1
    exact s_95_52 kc Φ v1 v2 v3 u0 m h
  · have h := h.2 c1
    refine it_V.sN it_cd95 it_m95 3 (pc1 := (if v2 = (4 : Int32) then 38 else 52)) (ls1 := [some (.ref 9), some (.int v1), some (.int v2), some (.int v3), some (.int u0)]) (st1 := []) (mem1 := m) rfl ?_
    refine it_V.ite (fun c2 => ?_) (fun c2 => ?_)
    · have h := h.1 c2
      refine it_V.sN it_cd95 it_m95 7 (pc1 := 46) (ls1 := [some (.ref 9), some (.int v1), some (.int v2), some (.int v3), some (.int u0)]) (st1 := [(.int (v3 ||| (16 : Int32))), (.int (it_shr v1 (2 : Int32))), (.ref 9)]) (mem1 := m) rfl ?_
      refine it_V.call it_cd95 it_m95 rfl it_m96 [(.ref 9), (.int (it_shr v1 (2 : Int32))), (.int (v3 ||| (16 : Int32)))] [] rfl rfl ⟨Nat.le_of_ble_eq_true rfl, Nat.le_of_ble_eq_true rfl, Nat.le_of_ble_eq_true rfl, Nat.le_of_ble_eq_true rfl, rfl⟩ (s_96 kc (it_shr v1 (2 : Int32)) (v3 ||| (16 : Int32)) m _ h) ?_
      rintro _ m3 ⟨rfl, h⟩
      refine it_V.at (pc1 := 49) (ls1 := [some (.ref 9), some (.int v1), some (.int v2), some (.int v3), some (.int u0)]) (st1 := []) (mem1 := m3) rfl rfl rfl rfl ?_
      refine it_V.sN it_cd95 it_m95 1 (pc1 := 98) (ls1 := [some (.ref 9), some (.int v1), some (.int v2), some (.int v3), some (.int u0)]) (st1 := []) (mem1 := m3) rfl ?_
      refine it_V.weak (l := [none, none, none, none, none]) trivial ?_
      exact s_95_98 kc Φ m3 h
    · have h := h.2 c2
      exact s_95_52 kc Φ v1 v2 v3 u0 m h
set_option maxRecDepth 100000 in
set_option maxHeartbeats 4000000 in
theorem s_95_25 (kc : it_Kc) (Φ : it_Me → Prop) (v1 : Int32) (v2 : Int32) (v3 : Int32) (m : it_Me) (h : w_95_25 kc Φ v1 v2 v3 m) : it_V kc it_sh0 95 25 [some (.ref 9), some (.int v1), some (.int v2), some (.int v3), none] [] m (it_Pv Φ) := by
  rw [w_95_25] at h
  refine it_V.sN it_cd95 it_m95 1 (pc1 := 26) (ls1 := [some (.ref 9), some (.int v1), some (.int v2), some (.int v3), none]) (st1 := [(.int (0 : Int32))]) (mem1 := m) rfl ?_
  refine it_V.weak (l := [some (.ref 9), some (.int v1), some (.int v2), some (.int v3), none]) ⟨rfl, ⟨rfl, ⟨rfl, ⟨rfl, trivial⟩⟩⟩⟩ ?_
  exact s_95_26 kc Φ v1 v2 v3 (0 : Int32) m h
set_option maxRecDepth 100000 in
set_option maxHeartbeats 4000000 in
theorem s_95 (kc : it_Kc) (x0 : Int32) (x1 : Int32) (x2 : Int32) (m : it_Me) (Φ : it_Me → Prop) (h : w_95 kc x0 x1 x2 m Φ) : it_V kc it_sh0 95 0 (it_loc0 [(.ref 9), (.int x0), (.int x1), (.int x2)] 5) [] m (it_Pv Φ) := by
  rw [w_95] at h
  refine it_V.at (pc1 := 0) (ls1 := [some (.ref 9), some (.int x0), some (.int x1), some (.int x2), none]) (st1 := []) (mem1 := m) rfl rfl rfl rfl ?_
  refine it_V.sN it_cd95 it_m95 2 (pc1 := (if x1 = 0 then 4 else 5)) (ls1 := [some (.ref 9), some (.int x0), some (.int x1), some (.int x2), none]) (st1 := []) (mem1 := m) rfl ?_
  refine it_V.ite (fun c1 => ?_) (fun c1 => ?_)
  · have h := h.1 c1
    exact it_V.ret it_cd95 it_m95 rfl rfl ⟨rfl, h⟩
  · have h := h.2 c1
    refine it_V.sN it_cd95 it_m95 6 (pc1 := (if (x1 &&& (x1 - (1 : Int32))) = 0 then 13 else 25)) (ls1 := [some (.ref 9), some (.int x0), some (.int x1), some (.int x2), none]) (st1 := []) (mem1 := m) rfl ?_
    refine it_V.ite (fun c2 => ?_) (fun c2 => ?_)
    · have h := h.1 c2
      refine it_V.sN it_cd95 it_m95 6 (pc1 := (if (x0 &&& (x1 - (1 : Int32))) = 0 then 21 else 25)) (ls1 := [some (.ref 9), some (.int x0), some (.int x1), some (.int x2), none]) (st1 := []) (mem1 := m) rfl ?_
      refine it_V.ite (fun c3 => ?_) (fun c3 => ?_)
      · have h := h.1 c3
        refine it_V.sN it_cd95 it_m95 2 (pc1 := 26) (ls1 := [some (.ref 9), some (.int x0), some (.int x1), some (.int x2), none]) (st1 := [(.int (1 : Int32))]) (mem1 := m) rfl ?_
        exact s_95_26 kc Φ x0 x1 x2 (1 : Int32) m h
      · have h := h.2 c3
        exact s_95_25 kc Φ x0 x1 x2 m h
    · have h := h.2 c2
      exact s_95_25 kc Φ x0 x1 x2 m h
set_option maxRecDepth 100000 in
set_option maxHeartbeats 4000000 in
theorem s_94 (kc : it_Kc) (x0 : Nat) (hx0 : it_isP x0) (m : it_Me) (Φ : it_Me → Prop) (h : w_94 kc x0 m Φ) : it_V kc it_sh0 94 0 (it_loc0 [(.ref 9), (.ref x0)] 2) [] m (it_Pv Φ) := by
  rw [w_94] at h
  refine it_V.at (pc1 := 0) (ls1 := [some (.ref 9), some (.ref x0)]) (st1 := []) (mem1 := m) rfl rfl rfl rfl ?_
  refine it_V.sN it_cd94 it_m94 3 (pc1 := 5) (ls1 := [some (.ref 9), some (.ref x0)]) (st1 := [(.int (0 : Int32)), (.ref 11)]) (mem1 := m) rfl ?_
  refine it_V.call it_cd94 it_m94 rfl it_m361 [(.ref 11), (.int (0 : Int32))] [] rfl rfl ⟨Nat.le_of_ble_eq_true rfl, Nat.le_of_ble_eq_true rfl, Nat.le_of_ble_eq_true rfl, Nat.le_of_ble_eq_true rfl, rfl⟩ (s_361 kc 11 (0 : Int32) ((⟨rfl, by decide⟩ : it_isR 11 16)) m _ h) ?_
  rintro _ m1 ⟨rfl, h⟩
  refine it_V.at (pc1 := 8) (ls1 := [some (.ref 9), some (.ref x0)]) (st1 := []) (mem1 := m1) rfl rfl rfl rfl ?_
  refine it_V.sN it_cd94 it_m94 3 (pc1 := 13) (ls1 := [some (.ref 9), some (.ref x0)]) (st1 := [(.int (0 : Int32)), (.ref 12)]) (mem1 := m1) rfl ?_
  refine it_V.call it_cd94 it_m94 rfl it_m361 [(.ref 12), (.int (0 : Int32))] [] rfl rfl ⟨Nat.le_of_ble_eq_true rfl, Nat.le_of_ble_eq_true rfl, Nat.le_of_ble_eq_true rfl, Nat.le_of_ble_eq_true rfl, rfl⟩ (s_361 kc 12 (0 : Int32) ((⟨rfl, by decide⟩ : it_isR 12 16)) m1 _ h) ?_
  rintro _ m2 ⟨rfl, h⟩
  refine it_V.at (pc1 := 16) (ls1 := [some (.ref 9), some (.ref x0)]) (st1 := []) (mem1 := m2) rfl rfl rfl rfl ?_
  refine it_V.sN it_cd94 it_m94 5 (pc1 := 23) (ls1 := [some (.ref 9), some (.ref x0)]) (st1 := [(.ref x0), (.ref 9)]) (mem1 := (it_sv m2 9 6 (0 : Int32))) rfl ?_
  refine it_V.getP it_cd94 it_m94 rfl (hx0).1 rfl ?_
  refine it_V.at (pc1 := 26) (ls1 := [some (.ref 9), some (.ref x0)]) (st1 := [(.ref (x0 + 1)), (.ref 9)]) (mem1 := (it_sv m2 9 6 (0 : Int32))) rfl rfl rfl rfl ?_
  refine it_V.getP it_cd94 it_m94 rfl (hx0).2.1 rfl ?_
  refine it_V.at (pc1 := 29) (ls1 := [some (.ref 9), some (.ref x0)]) (st1 := [(.int ((it_sv m2 9 6 (0 : Int32)) (x0 + 1) 1)), (.ref 9)]) (mem1 := (it_sv m2 9 6 (0 : Int32))) rfl rfl rfl rfl ?_
  refine it_V.sN it_cd94 it_m94 1 (pc1 := 30) (ls1 := [some (.ref 9), some (.ref x0)]) (st1 := [(.ref x0), (.int ((it_sv m2 9 6 (0 : Int32)) (x0 + 1) 1)), (.ref 9)]) (mem1 := (it_sv m2 9 6 (0 : Int32))) rfl ?_
  refine it_V.getP it_cd94 it_m94 rfl (hx0).1 rfl ?_
  refine it_V.at (pc1 := 33) (ls1 := [some (.ref 9), some (.ref x0)]) (st1 := [(.ref (x0 + 1)), (.int ((it_sv m2 9 6 (0 : Int32)) (x0 + 1) 1)), (.ref 9)]) (mem1 := (it_sv m2 9 6 (0 : Int32))) rfl rfl rfl rfl ?_
  refine it_V.getP it_cd94 it_m94 rfl (hx0).2.1 rfl ?_
  refine it_V.at (pc1 := 36) (ls1 := [some (.ref 9), some (.ref x0)]) (st1 := [(.int ((it_sv m2 9 6 (0 : Int32)) (x0 + 1) 3)), (.int ((it_sv m2 9 6 (0 : Int32)) (x0 + 1) 1)), (.ref 9)]) (mem1 := (it_sv m2 9 6 (0 : Int32))) rfl rfl rfl rfl ?_
  refine it_V.sN it_cd94 it_m94 1 (pc1 := 37) (ls1 := [some (.ref 9), some (.ref x0)]) (st1 := [(.int (5 : Int32)), (.int ((it_sv m2 9 6 (0 : Int32)) (x0 + 1) 3)), (.int ((it_sv m2 9 6 (0 : Int32)) (x0 + 1) 1)), (.ref 9)]) (mem1 := (it_sv m2 9 6 (0 : Int32))) rfl ?_
  refine it_V.call it_cd94 it_m94 rfl it_m95 [(.ref 9), (.int ((it_sv m2 9 6 (0 : Int32)) (x0 + 1) 1)), (.int ((it_sv m2 9 6 (0 : Int32)) (x0 + 1) 3)), (.int (5 : Int32))] [] rfl rfl ⟨Nat.le_of_ble_eq_true rfl, Nat.le_of_ble_eq_true rfl, Nat.le_of_ble_eq_true rfl, Nat.le_of_ble_eq_true rfl, rfl⟩ (s_95 kc ((it_sv m2 9 6 (0 : Int32)) (x0 + 1) 1) ((it_sv m2 9 6 (0 : Int32)) (x0 + 1) 3) (5 : Int32) (it_sv m2 9 6 (0 : Int32)) _ h) ?_
  rintro _ m3 ⟨rfl, h⟩
  refine it_V.at (pc1 := 40) (ls1 := [some (.ref 9), some (.ref x0)]) (st1 := []) (mem1 := m3) rfl rfl rfl rfl ?_
  refine it_V.sN it_cd94 it_m94 2 (pc1 := 42) (ls1 := [some (.ref 9), some (.ref x0)]) (st1 := [(.ref x0), (.ref 9)]) (mem1 := m3) rfl ?_
  refine it_V.getP it_cd94 it_m94 rfl (hx0).1 rfl ?_
  refine it_V.at (pc1 := 45) (ls1 := [some (.ref 9), some (.ref x0)]) (st1 := [(.int (m3 x0 5)), (.ref 9)]) (mem1 := m3) rfl rfl rfl rfl ?_
  refine it_V.sN it_cd94 it_m94 1 (pc1 := 46) (ls1 := [some (.ref 9), some (.ref x0)]) (st1 := [(.ref x0), (.int (m3 x0 5)), (.ref 9)]) (mem1 := m3) rfl ?_
  refine it_V.getP it_cd94 it_m94 rfl (hx0).1 rfl ?_
  refine it_V.at (pc1 := 49) (ls1 := [some (.ref 9), some (.ref x0)]) (st1 := [(.int (m3 x0 7)), (.int (m3 x0 5)), (.ref 9)]) (mem1 := m3) rfl rfl rfl rfl ?_
  refine it_V.sN it_cd94 it_m94 1 (pc1 := 50) (ls1 := [some (.ref 9), some (.ref x0)]) (st1 := [(.ref x0), (.int (m3 x0 7)), (.int (m3 x0 5)), (.ref 9)]) (mem1 := m3) rfl ?_
  refine it_V.getP it_cd94 it_m94 rfl (hx0).1 rfl ?_
  refine it_V.at (pc1 := 53) (ls1 := [some (.ref 9), some (.ref x0)]) (st1 := [(.int (m3 x0 5)), (.int (m3 x0 7)), (.int (m3 x0 5)), (.ref 9)]) (mem1 := m3) rfl rfl rfl rfl ?_
  refine it_V.sN it_cd94 it_m94 2 (pc1 := 55) (ls1 := [some (.ref 9), some (.ref x0)]) (st1 := [(.int (3 : Int32)), (.int ((m3 x0 7) - (m3 x0 5))), (.int (m3 x0 5)), (.ref 9)]) (mem1 := m3) rfl ?_
  refine it_V.call it_cd94 it_m94 rfl it_m95 [(.ref 9), (.int (m3 x0 5)), (.int ((m3 x0 7) - (m3 x0 5))), (.int (3 : Int32))] [] rfl rfl ⟨Nat.le_of_ble_eq_true rfl, Nat.le_of_ble_eq_true rfl, Nat.le_of_ble_eq_true rfl, Nat.le_of_ble_eq_true rfl, rfl⟩ (s_95 kc (m3 x0 5) ((m3 x0 7) - (m3 x0 5)) (3 : Int32) m3 _ h) ?_
  rintro _ m4 ⟨rfl, h⟩
  refine it_V.at (pc1 := 58) (ls1 := [some (.ref 9), some (.ref x0)]) (st1 := []) (mem1 := m4) rfl rfl rfl rfl ?_
  exact it_V.ret it_cd94 it_m94 rfl rfl ⟨rfl, h⟩
set_option maxRecDepth 100000 in
set_option maxHeartbeats 4000000 in
theorem s_98_116 (kc : it_Kc) (Φ : Int32 → it_Me → Prop) (u0 : Int32) (m : it_Me) (h : w_98_116 kc Φ u0 m) : it_V kc it_sh0 98 116 [none, none, none, none, none, none, none, none, none] [(.int u0)] m (it_Pi Φ) := by
  rw [w_98_116] at h
  exact it_V.retZ it_cd98 it_m98 rfl rfl h.1 ⟨_, rfl, h.2⟩
set_option maxRecDepth 100000 in
set_option maxHeartbeats 4000000 in
theorem s_98_115 (kc : it_Kc) (Φ : Int32 → it_Me → Prop) (m : it_Me) (h : w_98_115 kc Φ m) : it_V kc it_sh0 98 115 [none, none, none, none, none, none, none, none, none] [] m (it_Pi Φ) := by
  rw [w_98_115] at h
  refine it_V.sN it_cd98 it_m98 1 (pc1 := 116) (ls1 := [none, none, none, none, none, none, none, none, none]) (st1 := [(.int (0 : Int32))]) (mem1 := m) rfl ?_
  refine it_V.weak (l := [none, none, none, none, none, none, none, none, none]) trivial ?_
  exact s_98_116 kc Φ (0 : Int32) m h
set_option maxRecDepth 100000 in
set_option maxHeartbeats 4000000 in
theorem s_98_92 (kc : it_Kc) (Φ : Int32 → it_Me → Prop) (v2 : Int32) (v3 : Int32) (v5 : Int32) (v6 : Int32) (m : it_Me) (h : w_98_92 kc Φ v2 v3 v5 v6 m) : it_V kc it_sh0 98 92 [none, none, some (.int v2), some (.int v3), none, some (.int v5), some (.int v6), none, none] [] m (it_Pi Φ) := by
  rw [w_98_92] at h
  refine it_V.sN it_cd98 it_m98 5 (pc1 := (if (it_shl v5 (2 : Int32)) = v2 then 100 else 115)) (ls1 := [none, none, some (.int v2), some (.int v3), none, some (.int v5), some (.int v6), none, none]) (st1 := []) (mem1 := m) rfl ?_
  refine it_V.ite (fun c1 => ?_) (fun c1 => ?_)
  · have h := h.1 c1
    refine it_V.sN it_cd98 it_m98 7 (pc1 := (if (it_shl (v6 - v5) (2 : Int32)) = v3 then 111 else 115)) (ls1 := [none, none, some (.int v2), some (.int v3), none, some (.int v5), some (.int v6), none, none]) (st1 := []) (mem1 := m) rfl ?_
    refine it_V.ite (fun c2 => ?_) (fun c2 => ?_)
    · have h := h.1 c2
      refine it_V.sN it_cd98 it_m98 2 (pc1 := 116) (ls1 := [none, none, some (.int v2), some (.int v3), none, some (.int v5), some (.int v6), none, none]) (st1 := [(.int (1 : Int32))]) (mem1 := m) rfl ?_
      refine it_V.weak (l := [none, none, none, none, none, none, none, none, none]) trivial ?_
      exact s_98_116 kc Φ (1 : Int32) m h
    · have h := h.2 c2
      refine it_V.weak (l := [none, none, none, none, none, none, none, none, none]) trivial ?_
      exact s_98_115 kc Φ m h
  · have h := h.2 c1
    refine it_V.weak (l := [none, none, none, none, none, none, none, none, none]) trivial ?_
    exact s_98_115 kc Φ m h
set_option maxRecDepth 100000 in
set_option maxHeartbeats 4000000 in
theorem s_98_50 (kc : it_Kc) (Φ : Int32 → it_Me → Prop) (v2 : Int32) (v3 : Int32) (v4 : Int32) (u0 : Int32) (m : it_Me) (h : w_98_50 kc Φ v2 v3 v4 u0 m) : it_V kc it_sh0 98 50 [none, none, some (.int v2), some (.int v3), some (.int v4), none, none, none, none] [(.int u0)] m (it_Pi Φ) := by
  rw [w_98_50] at h
  refine it_V.sN it_cd98 it_m98 4 (pc1 := 92) (ls1 := [none, none, some (.int v2), some (.int v3), some (.int v4), some (.int u0), some (.int v4), none, none]) (st1 := []) (mem1 := m) rfl ?_
  refine it_V.weak (l := [none, none, some (.int v2), some (.int v3), none, some (.int u0), some (.int v4), none, none]) ⟨rfl, ⟨rfl, ⟨rfl, ⟨rfl, trivial⟩⟩⟩⟩ ?_
  exact s_98_92 kc Φ v2 v3 u0 v4 m h
set_option maxRecDepth 100000 in
set_option maxHeartbeats 4000000 in
theorem s_98 (kc : it_Kc) (x0 : Int32) (x1 : Int32) (x2 : Int32) (m : it_Me) (Φ : Int32 → it_Me → Prop) (h : w_98 kc x0 x1 x2 m Φ) : it_V kc it_sh0 98 0 (it_loc0 [(.ref 9), (.int x0), (.int x1), (.int x2)] 9) [] m (it_Pi Φ) := by
  rw [w_98] at h
  refine it_V.at (pc1 := 0) (ls1 := [some (.ref 9), some (.int x0), some (.int x1), some (.int x2), none, none, none, none, none]) (st1 := []) (mem1 := m) rfl rfl rfl rfl ?_
  refine it_V.sN it_cd98 it_m98 3 (pc1 := 5) (ls1 := [some (.ref 9), some (.int x0), some (.int x1), some (.int x2), none, none, none, none, none]) (st1 := [(.int x0), (.ref 11)]) (mem1 := m) rfl ?_
  obtain ⟨g1, h⟩ := h
  refine it_V.iald it_cd98 it_m98 rfl ((⟨rfl, by decide⟩ : it_isR 11 16)).2 ((⟨rfl, by decide⟩ : it_isR 11 16)).1 g1 ?_
  refine it_V.at (pc1 := 6) (ls1 := [some (.ref 9), some (.int x0), some (.int x1), some (.int x2), none, none, none, none, none]) (st1 := [(.int (m 11 (Int32.toNatClampNeg x0)))]) (mem1 := m) rfl rfl rfl rfl ?_
  refine it_V.sN it_cd98 it_m98 10 (pc1 := 23) (ls1 := [some (.ref 9), some (.int x0), some (.int x1), some (.int x2), some (.int (m 11 (Int32.toNatClampNeg x0))), some (.int (m 11 (Int32.toNatClampNeg x0))), some (.int ((m 11 (Int32.toNatClampNeg x0)) + (1 : Int32))), none, none]) (st1 := [(.int x0), (.ref 12)]) (mem1 := m) rfl ?_
  obtain ⟨g2, h⟩ := h
  refine it_V.iald it_cd98 it_m98 rfl ((⟨rfl, by decide⟩ : it_isR 12 16)).2 ((⟨rfl, by decide⟩ : it_isR 12 16)).1 g2 ?_
  refine it_V.at (pc1 := 24) (ls1 := [some (.ref 9), some (.int x0), some (.int x1), some (.int x2), some (.int (m 11 (Int32.toNatClampNeg x0))), some (.int (m 11 (Int32.toNatClampNeg x0))), some (.int ((m 11 (Int32.toNatClampNeg x0)) + (1 : Int32))), none, none]) (st1 := [(.int (m 12 (Int32.toNatClampNeg x0)))]) (mem1 := m) rfl rfl rfl rfl ?_
  refine it_V.sN it_cd98 it_m98 6 (pc1 := (if (it_shr (m 12 (Int32.toNatClampNeg x0)) (3 : Int32)) = (1 : Int32) then 34 else 59)) (ls1 := [some (.ref 9), some (.int x0), some (.int x1), some (.int x2), some (.int (m 11 (Int32.toNatClampNeg x0))), some (.int (m 11 (Int32.toNatClampNeg x0))), some (.int ((m 11 (Int32.toNatClampNeg x0)) + (1 : Int32))), some (.int (it_shr (m 12 (Int32.toNatClampNeg x0)) (3 : Int32))), none]) (st1 := []) (mem1 := m) rfl ?_
  refine it_V.ite (fun c3 => ?_) (fun c3 => ?_)
  · have h := h.1 c3
    refine it_V.sN it_cd98 it_m98 2 (pc1 := (if x0 ≤ 0 then 49 else 38)) (ls1 := [some (.ref 9), some (.int x0), some (.int x1), some (.int x2), some (.int (m 11 (Int32.toNatClampNeg x0))), some (.int (m 11 (Int32.toNatClampNeg x0))), some (.int ((m 11 (Int32.toNatClampNeg x0)) + (1 : Int32))), some (.int (it_shr (m 12 (Int32.toNatClampNeg x0)) (3 : Int32))), none]) (st1 := []) (mem1 := m) rfl ?_
    refine it_V.ite (fun c4 => ?_) (fun c4 => ?_)
    · have h := h.1 c4
      refine it_V.sN it_cd98 it_m98 1 (pc1 := 50) (ls1 := [some (.ref 9), some (.int x0), some (.int x1), some (.int x2), some (.int (m 11 (Int32.toNatClampNeg x0))), some (.int (m 11 (Int32.toNatClampNeg x0))), some (.int ((m 11 (Int32.toNatClampNeg x0)) + (1 : Int32))), some (.int (it_shr (m 12 (Int32.toNatClampNeg x0)) (3 : Int32))), none]) (st1 := [(.int (0 : Int32))]) (mem1 := m) rfl ?_
      refine it_V.weak (l := [none, none, some (.int x1), some (.int x2), some (.int (m 11 (Int32.toNatClampNeg x0))), none, none, none, none]) ⟨rfl, ⟨rfl, ⟨rfl, trivial⟩⟩⟩ ?_
      exact s_98_50 kc Φ x1 x2 (m 11 (Int32.toNatClampNeg x0)) (0 : Int32) m h
    · have h := h.2 c4
      refine it_V.sN it_cd98 it_m98 5 (pc1 := 45) (ls1 := [some (.ref 9), some (.int x0), some (.int x1), some (.int x2), some (.int (m 11 (Int32.toNatClampNeg x0))), some (.int (m 11 (Int32.toNatClampNeg x0))), some (.int ((m 11 (Int32.toNatClampNeg x0)) + (1 : Int32))), some (.int (it_shr (m 12 (Int32.toNatClampNeg x0)) (3 : Int32))), none]) (st1 := [(.int (x0 - (1 : Int32))), (.ref 11)]) (mem1 := m) rfl ?_
      obtain ⟨g5, h⟩ := h
      refine it_V.iald it_cd98 it_m98 rfl ((⟨rfl, by decide⟩ : it_isR 11 16)).2 ((⟨rfl, by decide⟩ : it_isR 11 16)).1 g5 ?_
      refine it_V.at (pc1 := 46) (ls1 := [some (.ref 9), some (.int x0), some (.int x1), some (.int x2), some (.int (m 11 (Int32.toNatClampNeg x0))), some (.int (m 11 (Int32.toNatClampNeg x0))), some (.int ((m 11 (Int32.toNatClampNeg x0)) + (1 : Int32))), some (.int (it_shr (m 12 (Int32.toNatClampNeg x0)) (3 : Int32))), none]) (st1 := [(.int (m 11 (Int32.toNatClampNeg (x0 - (1 : Int32)))))]) (mem1 := m) rfl rfl rfl rfl ?_
      refine it_V.sN it_cd98 it_m98 1 (pc1 := 50) (ls1 := [some (.ref 9), some (.int x0), some (.int x1), some (.int x2), some (.int (m 11 (Int32.toNatClampNeg x0))), some (.int (m 11 (Int32.toNatClampNeg x0))), some (.int ((m 11 (Int32.toNatClampNeg x0)) + (1 : Int32))), some (.int (it_shr (m 12 (Int32.toNatClampNeg x0)) (3 : Int32))), none]) (st1 := [(.int (m 11 (Int32.toNatClampNeg (x0 - (1 : Int32)))))]) (mem1 := m) rfl ?_
      refine it_V.weak (l := [none, none, some (.int x1), some (.int x2), some (.int (m 11 (Int32.toNatClampNeg x0))), none, none, none, none]) ⟨rfl, ⟨rfl, ⟨rfl, trivial⟩⟩⟩ ?_
      exact s_98_50 kc Φ x1 x2 (m 11 (Int32.toNatClampNeg x0)) (m 11 (Int32.toNatClampNeg (x0 - (1 : Int32)))) m h
  · have h := h.2 c3
    refine it_V.sN it_cd98 it_m98 3 (pc1 := (if (it_shr (m 12 (Int32.toNatClampNeg x0)) (3 : Int32)) = (3 : Int32) then 65 else 92)) (ls1 := [some (.ref 9), some (.int x0), some (.int x1), some (.int x2), some (.int (m 11 (Int32.toNatClampNeg x0))), some (.int (m 11 (Int32.toNatClampNeg x0))), some (.int ((m 11 (Int32.toNatClampNeg x0)) + (1 : Int32))), some (.int (it_shr (m 12 (Int32.toNatClampNeg x0)) (3 : Int32))), none]) (st1 := []) (mem1 := m) rfl ?_
    refine it_V.ite (fun c6 => ?_) (fun c6 => ?_)
    · have h := h.1 c6
      refine it_V.sN it_cd98 it_m98 18 (pc1 := 92) (ls1 := [some (.ref 9), some (.int x0), some (.int x1), some (.int x2), some (.int (m 11 (Int32.toNatClampNeg x0))), some (.int ((m 11 (Int32.toNatClampNeg x0)) &&& (((m 11 (Int32.toNatClampNeg x0)) ^^^ ((m 11 (Int32.toNatClampNeg x0)) + (1 : Int32))) ^^^ (-1 : Int32)))), some (.int ((((m 11 (Int32.toNatClampNeg x0)) &&& (((m 11 (Int32.toNatClampNeg x0)) ^^^ ((m 11 (Int32.toNatClampNeg x0)) + (1 : Int32))) ^^^ (-1 : Int32))) + ((m 11 (Int32.toNatClampNeg x0)) ^^^ ((m 11 (Int32.toNatClampNeg x0)) + (1 : Int32)))) + (1 : Int32))), some (.int (it_shr (m 12 (Int32.toNatClampNeg x0)) (3 : Int32))), some (.int ((m 11 (Int32.toNatClampNeg x0)) ^^^ ((m 11 (Int32.toNatClampNeg x0)) + (1 : Int32))))]) (st1 := []) (mem1 := m) rfl ?_
      refine it_V.weak (l := [none, none, some (.int x1), some (.int x2), none, some (.int ((m 11 (Int32.toNatClampNeg x0)) &&& (((m 11 (Int32.toNatClampNeg x0)) ^^^ ((m 11 (Int32.toNatClampNeg x0)) + (1 : Int32))) ^^^ (-1 : Int32)))), some (.int ((((m 11 (Int32.toNatClampNeg x0)) &&& (((m 11 (Int32.toNatClampNeg x0)) ^^^ ((m 11 (Int32.toNatClampNeg x0)) + (1 : Int32))) ^^^ (-1 : Int32))) + ((m 11 (Int32.toNatClampNeg x0)) ^^^ ((m 11 (Int32.toNatClampNeg x0)) + (1 : Int32)))) + (1 : Int32))), none, none]) ⟨rfl, ⟨rfl, ⟨rfl, ⟨rfl, trivial⟩⟩⟩⟩ ?_
      exact s_98_92 kc Φ x1 x2 ((m 11 (Int32.toNatClampNeg x0)) &&& (((m 11 (Int32.toNatClampNeg x0)) ^^^ ((m 11 (Int32.toNatClampNeg x0)) + (1 : Int32))) ^^^ (-1 : Int32))) ((((m 11 (Int32.toNatClampNeg x0)) &&& (((m 11 (Int32.toNatClampNeg x0)) ^^^ ((m 11 (Int32.toNatClampNeg x0)) + (1 : Int32))) ^^^ (-1 : Int32))) + ((m 11 (Int32.toNatClampNeg x0)) ^^^ ((m 11 (Int32.toNatClampNeg x0)) + (1 : Int32)))) + (1 : Int32)) m h
    · have h := h.2 c6
      refine it_V.weak (l := [none, none, some (.int x1), some (.int x2), none, some (.int (m 11 (Int32.toNatClampNeg x0))), some (.int ((m 11 (Int32.toNatClampNeg x0)) + (1 : Int32))), none, none]) ⟨rfl, ⟨rfl, ⟨rfl, ⟨rfl, trivial⟩⟩⟩⟩ ?_
      exact s_98_92 kc Φ x1 x2 (m 11 (Int32.toNatClampNeg x0)) ((m 11 (Int32.toNatClampNeg x0)) + (1 : Int32)) m h
set_option maxRecDepth 100000 in
set_option maxHeartbeats 4000000 in
theorem s_97_141 (kc : it_Kc) (Φ : Int32 → it_Me → Prop) (K12 : Nat → Int32 → Int32 → Int32 → it_Me → Prop) (K139 : it_Me → Prop) (K147 : Nat → Int32 → Int32 → it_Me → Prop) (hK12 : ∀ (v1 : Nat) (v2 : Int32) (v3 : Int32) (v4 : Int32) (_ : it_isP v1) (m : it_Me), K12 v1 v2 v3 v4 m → it_V kc it_sh0 97 12 [some (.ref 9), some (.ref v1), some (.int v2), some (.int v3), some (.int v4), none, none] [] m (it_Pi Φ)) (hK139 : ∀ (m : it_Me), K139 m → it_V kc it_sh0 97 139 [none, none, none, none, none, none, none] [] m (it_Pi Φ)) (hK147 : ∀ (v1 : Nat) (v2 : Int32) (v3 : Int32) (_ : it_isP v1) (m : it_Me), K147 v1 v2 v3 m → it_V kc it_sh0 97 147 [none, some (.ref v1), some (.int v2), some (.int v3), none, none, none] [] m (it_Pi Φ)) (v1 : Nat) (v2 : Int32) (v3 : Int32) (v4 : Int32) (hv1 : it_isP v1) (m : it_Me) (h : w_97_141 kc Φ K12 K139 K147 v1 v2 v3 v4 m) : it_V kc it_sh0 97 141 [some (.ref 9), some (.ref v1), some (.int v2), some (.int v3), some (.int v4), none, none] [] m (it_Pi Φ) := by
  rw [w_97_141] at h
  refine it_V.sN it_cd97 it_m97 2 (pc1 := 12) (ls1 := [some (.ref 9), some (.ref v1), some (.int v2), some (.int v3), some (.int (v4 + (1 : Int32))), none, none]) (st1 := []) (mem1 := m) rfl ?_
  refine it_V.weak (l := [some (.ref 9), some (.ref v1), some (.int v2), some (.int v3), some (.int (v4 + (1 : Int32))), none, none]) ⟨rfl, ⟨rfl, ⟨rfl, ⟨rfl, ⟨rfl, trivial⟩⟩⟩⟩⟩ ?_
  exact hK12 v1 v2 v3 (v4 + (1 : Int32)) (hv1) m h
set_option maxRecDepth 100000 in
set_option maxHeartbeats 4000000 in
theorem s_97_129 (kc : it_Kc) (Φ : Int32 → it_Me → Prop) (K12 : Nat → Int32 → Int32 → Int32 → it_Me → Prop) (K139 : it_Me → Prop) (K147 : Nat → Int32 → Int32 → it_Me → Prop) (hK12 : ∀ (v1 : Nat) (v2 : Int32) (v3 : Int32) (v4 : Int32) (_ : it_isP v1) (m : it_Me), K12 v1 v2 v3 v4 m → it_V kc it_sh0 97 12 [some (.ref 9), some (.ref v1), some (.int v2), some (.int v3), some (.int v4), none, none] [] m (it_Pi Φ)) (hK139 : ∀ (m : it_Me), K139 m → it_V kc it_sh0 97 139 [none, none, none, none, none, none, none] [] m (it_Pi Φ)) (hK147 : ∀ (v1 : Nat) (v2 : Int32) (v3 : Int32) (_ : it_isP v1) (m : it_Me), K147 v1 v2 v3 m → it_V kc it_sh0 97 147 [none, some (.ref v1), some (.int v2), some (.int v3), none, none, none] [] m (it_Pi Φ)) (v1 : Nat) (v2 : Int32) (v3 : Int32) (v4 : Int32) (v5 : Int32) (v6 : Int32) (hv1 : it_isP v1) (m : it_Me) (h : w_97_129 kc Φ K12 K139 K147 v1 v2 v3 v4 v5 v6 m) : it_V kc it_sh0 97 129 [some (.ref 9), some (.ref v1), some (.int v2), some (.int v3), some (.int v4), some (.int v5), some (.int v6)] [] m (it_Pi Φ) := by
  rw [w_97_129] at h
  refine it_V.sN it_cd97 it_m97 2 (pc1 := (if v5 = 0 then 134 else 139)) (ls1 := [some (.ref 9), some (.ref v1), some (.int v2), some (.int v3), some (.int v4), some (.int v5), some (.int v6)]) (st1 := []) (mem1 := m) rfl ?_
  refine it_V.ite (fun c1 => ?_) (fun c1 => ?_)
  · have h := h.1 c1
    refine it_V.sN it_cd97 it_m97 2 (pc1 := (if v6 = 0 then 141 else 139)) (ls1 := [some (.ref 9), some (.ref v1), some (.int v2), some (.int v3), some (.int v4), some (.int v5), some (.int v6)]) (st1 := []) (mem1 := m) rfl ?_
    refine it_V.ite (fun c2 => ?_) (fun c2 => ?_)
    · have h := h.1 c2
      refine it_V.weak (l := [some (.ref 9), some (.ref v1), some (.int v2), some (.int v3), some (.int v4), none, none]) ⟨rfl, ⟨rfl, ⟨rfl, ⟨rfl, ⟨rfl, trivial⟩⟩⟩⟩⟩ ?_
      exact s_97_141 kc Φ _ _ _ hK12 hK139 hK147 v1 v2 v3 v4 (hv1) m h
    · have h := h.2 c2
      refine it_V.weak (l := [none, none, none, none, none, none, none]) trivial ?_
      exact hK139 m h
  · have h := h.2 c1
    refine it_V.weak (l := [none, none, none, none, none, none, none]) trivial ?_
    exact hK139 m h
set_option maxRecDepth 100000 in
set_option maxHeartbeats 4000000 in
theorem s_97_90 (kc : it_Kc) (Φ : Int32 → it_Me → Prop) (K12 : Nat → Int32 → Int32 → Int32 → it_Me → Prop) (K139 : it_Me → Prop) (K147 : Nat → Int32 → Int32 → it_Me → Prop) (hK12 : ∀ (v1 : Nat) (v2 : Int32) (v3 : Int32) (v4 : Int32) (_ : it_isP v1) (m : it_Me), K12 v1 v2 v3 v4 m → it_V kc it_sh0 97 12 [some (.ref 9), some (.ref v1), some (.int v2), some (.int v3), some (.int v4), none, none] [] m (it_Pi Φ)) (hK139 : ∀ (m : it_Me), K139 m → it_V kc it_sh0 97 139 [none, none, none, none, none, none, none] [] m (it_Pi Φ)) (hK147 : ∀ (v1 : Nat) (v2 : Int32) (v3 : Int32) (_ : it_isP v1) (m : it_Me), K147 v1 v2 v3 m → it_V kc it_sh0 97 147 [none, some (.ref v1), some (.int v2), some (.int v3), none, none, none] [] m (it_Pi Φ)) (v1 : Nat) (v2 : Int32) (v3 : Int32) (v4 : Int32) (v5 : Int32) (v6 : Int32) (hv1 : it_isP v1) (m : it_Me) (h : w_97_90 kc Φ K12 K139 K147 v1 v2 v3 v4 v5 v6 m) : it_V kc it_sh0 97 90 [some (.ref 9), some (.ref v1), some (.int v2), some (.int v3), some (.int v4), some (.int v5), some (.int v6)] [] m (it_Pi Φ) := by
  rw [w_97_90] at h
  refine it_V.sN it_cd97 it_m97 2 (pc1 := (if v5 = 0 then 129 else 95)) (ls1 := [some (.ref 9), some (.ref v1), some (.int v2), some (.int v3), some (.int v4), some (.int v5), some (.int v6)]) (st1 := []) (mem1 := m) rfl ?_
  refine it_V.ite (fun c1 => ?_) (fun c1 => ?_)
  · have h := h.1 c1
    exact s_97_129 kc Φ _ _ _ hK12 hK139 hK147 v1 v2 v3 v4 v5 v6 (hv1) m h
  · have h := h.2 c1
    refine it_V.sN it_cd97 it_m97 3 (pc1 := (if v6 = (3 : Int32) then 101 else 129)) (ls1 := [some (.ref 9), some (.ref v1), some (.int v2), some (.int v3), some (.int v4), some (.int v5), some (.int v6)]) (st1 := []) (mem1 := m) rfl ?_
    refine it_V.ite (fun c2 => ?_) (fun c2 => ?_)
    · have h := h.1 c2
      refine it_V.sN it_cd97 it_m97 3 (pc1 := 105) (ls1 := [some (.ref 9), some (.ref v1), some (.int v2), some (.int v3), some (.int v4), some (.int v5), some (.int v6)]) (st1 := [(.ref v1), (.int v4), (.ref 9)]) (mem1 := m) rfl ?_
      refine it_V.getP it_cd97 it_m97 rfl (hv1).1 rfl ?_
      refine it_V.at (pc1 := 108) (ls1 := [some (.ref 9), some (.ref v1), some (.int v2), some (.int v3), some (.int v4), some (.int v5), some (.int v6)]) (st1 := [(.int (m v1 5)), (.int v4), (.ref 9)]) (mem1 := m) rfl rfl rfl rfl ?_
      refine it_V.sN it_cd97 it_m97 1 (pc1 := 109) (ls1 := [some (.ref 9), some (.ref v1), some (.int v2), some (.int v3), some (.int v4), some (.int v5), some (.int v6)]) (st1 := [(.ref v1), (.int (m v1 5)), (.int v4), (.ref 9)]) (mem1 := m) rfl ?_
      refine it_V.getP it_cd97 it_m97 rfl (hv1).1 rfl ?_
      refine it_V.at (pc1 := 112) (ls1 := [some (.ref 9), some (.ref v1), some (.int v2), some (.int v3), some (.int v4), some (.int v5), some (.int v6)]) (st1 := [(.int (m v1 7)), (.int (m v1 5)), (.int v4), (.ref 9)]) (mem1 := m) rfl rfl rfl rfl ?_
      refine it_V.sN it_cd97 it_m97 1 (pc1 := 113) (ls1 := [some (.ref 9), some (.ref v1), some (.int v2), some (.int v3), some (.int v4), some (.int v5), some (.int v6)]) (st1 := [(.ref v1), (.int (m v1 7)), (.int (m v1 5)), (.int v4), (.ref 9)]) (mem1 := m) rfl ?_
      refine it_V.getP it_cd97 it_m97 rfl (hv1).1 rfl ?_
      refine it_V.at (pc1 := 116) (ls1 := [some (.ref 9), some (.ref v1), some (.int v2), some (.int v3), some (.int v4), some (.int v5), some (.int v6)]) (st1 := [(.int (m v1 5)), (.int (m v1 7)), (.int (m v1 5)), (.int v4), (.ref 9)]) (mem1 := m) rfl rfl rfl rfl ?_
      refine it_V.sN it_cd97 it_m97 1 (pc1 := 117) (ls1 := [some (.ref 9), some (.ref v1), some (.int v2), some (.int v3), some (.int v4), some (.int v5), some (.int v6)]) (st1 := [(.int ((m v1 7) - (m v1 5))), (.int (m v1 5)), (.int v4), (.ref 9)]) (mem1 := m) rfl ?_
      refine it_V.call it_cd97 it_m97 rfl it_m98 [(.ref 9), (.int v4), (.int (m v1 5)), (.int ((m v1 7) - (m v1 5)))] [] rfl rfl ⟨Nat.le_of_ble_eq_true rfl, Nat.le_of_ble_eq_true rfl, Nat.le_of_ble_eq_true rfl, Nat.le_of_ble_eq_true rfl, rfl⟩ (s_98 kc v4 (m v1 5) ((m v1 7) - (m v1 5)) m _ h) ?_
      rintro _ m4 ⟨r3, rfl, h⟩
      refine it_V.at (pc1 := 120) (ls1 := [some (.ref 9), some (.ref v1), some (.int v2), some (.int v3), some (.int v4), some (.int v5), some (.int v6)]) (st1 := [(.int r3)]) (mem1 := m4) rfl rfl rfl rfl ?_
      refine it_V.sN it_cd97 it_m97 1 (pc1 := (if r3 = 0 then 129 else 123)) (ls1 := [some (.ref 9), some (.ref v1), some (.int v2), some (.int v3), some (.int v4), some (.int v5), some (.int v6)]) (st1 := []) (mem1 := m4) rfl ?_
      refine it_V.ite (fun c5 => ?_) (fun c5 => ?_)
      · have h := h.1 c5
        exact s_97_129 kc Φ _ _ _ hK12 hK139 hK147 v1 v2 v3 v4 v5 v6 (hv1) m4 h
      · have h := h.2 c5
        refine it_V.sN it_cd97 it_m97 2 (pc1 := 141) (ls1 := [some (.ref 9), some (.ref v1), some (.int v2), some (.int (v3 + (1 : Int32))), some (.int v4), some (.int v5), some (.int v6)]) (st1 := []) (mem1 := m4) rfl ?_
        refine it_V.weak (l := [some (.ref 9), some (.ref v1), some (.int v2), some (.int (v3 + (1 : Int32))), some (.int v4), none, none]) ⟨rfl, ⟨rfl, ⟨rfl, ⟨rfl, ⟨rfl, trivial⟩⟩⟩⟩⟩ ?_
        exact s_97_141 kc Φ _ _ _ hK12 hK139 hK147 v1 v2 (v3 + (1 : Int32)) v4 (hv1) m4 h
    · have h := h.2 c2
      exact s_97_129 kc Φ _ _ _ hK12 hK139 hK147 v1 v2 v3 v4 v5 v6 (hv1) m h
set_option maxRecDepth 100000 in
set_option maxHeartbeats 4000000 in
theorem s_97_36 (kc : it_Kc) (Φ : Int32 → it_Me → Prop) (K12 : Nat → Int32 → Int32 → Int32 → it_Me → Prop) (K139 : it_Me → Prop) (K147 : Nat → Int32 → Int32 → it_Me → Prop) (hK12 : ∀ (v1 : Nat) (v2 : Int32) (v3 : Int32) (v4 : Int32) (_ : it_isP v1) (m : it_Me), K12 v1 v2 v3 v4 m → it_V kc it_sh0 97 12 [some (.ref 9), some (.ref v1), some (.int v2), some (.int v3), some (.int v4), none, none] [] m (it_Pi Φ)) (hK139 : ∀ (m : it_Me), K139 m → it_V kc it_sh0 97 139 [none, none, none, none, none, none, none] [] m (it_Pi Φ)) (hK147 : ∀ (v1 : Nat) (v2 : Int32) (v3 : Int32) (_ : it_isP v1) (m : it_Me), K147 v1 v2 v3 m → it_V kc it_sh0 97 147 [none, some (.ref v1), some (.int v2), some (.int v3), none, none, none] [] m (it_Pi Φ)) (v1 : Nat) (v2 : Int32) (v3 : Int32) (v4 : Int32) (u0 : Int32) (hv1 : it_isP v1) (m : it_Me) (h : w_97_36 kc Φ K12 K139 K147 v1 v2 v3 v4 u0 m) : it_V kc it_sh0 97 36 [some (.ref 9), some (.ref v1), some (.int v2), some (.int v3), some (.int v4), none, none] [(.int u0)] m (it_Pi Φ) := by
  rw [w_97_36] at h
  refine it_V.sN it_cd97 it_m97 4 (pc1 := 44) (ls1 := [some (.ref 9), some (.ref v1), some (.int v2), some (.int v3), some (.int v4), some (.int u0), none]) (st1 := [(.int v4), (.ref 12)]) (mem1 := m) rfl ?_
  obtain ⟨g1, h⟩ := h
  refine it_V.iald it_cd97 it_m97 rfl ((⟨rfl, by decide⟩ : it_isR 12 16)).2 ((⟨rfl, by decide⟩ : it_isR 12 16)).1 g1 ?_
  refine it_V.at (pc1 := 45) (ls1 := [some (.ref 9), some (.ref v1), some (.int v2), some (.int v3), some (.int v4), some (.int u0), none]) (st1 := [(.int (m 12 (Int32.toNatClampNeg v4)))]) (mem1 := m) rfl rfl rfl rfl ?_
  refine it_V.sN it_cd97 it_m97 5 (pc1 := (if u0 = 0 then 90 else 55)) (ls1 := [some (.ref 9), some (.ref v1), some (.int v2), some (.int v3), some (.int v4), some (.int u0), some (.int ((m 12 (Int32.toNatClampNeg v4)) &&& (7 : Int32)))]) (st1 := []) (mem1 := m) rfl ?_
  refine it_V.ite (fun c2 => ?_) (fun c2 => ?_)
  · have h := h.1 c2
    exact s_97_90 kc Φ _ _ _ hK12 hK139 hK147 v1 v2 v3 v4 u0 ((m 12 (Int32.toNatClampNeg v4)) &&& (7 : Int32)) (hv1) m h
  · have h := h.2 c2
    refine it_V.sN it_cd97 it_m97 3 (pc1 := (if ((m 12 (Int32.toNatClampNeg v4)) &&& (7 : Int32)) = (5 : Int32) then 61 else 90)) (ls1 := [some (.ref 9), some (.ref v1), some (.int v2), some (.int v3), some (.int v4), some (.int u0), some (.int ((m 12 (Int32.toNatClampNeg v4)) &&& (7 : Int32)))]) (st1 := []) (mem1 := m) rfl ?_
    refine it_V.ite (fun c3 => ?_) (fun c3 => ?_)
    · have h := h.1 c3
      refine it_V.sN it_cd97 it_m97 3 (pc1 := 65) (ls1 := [some (.ref 9), some (.ref v1), some (.int v2), some (.int v3), some (.int v4), some (.int u0), some (.int ((m 12 (Int32.toNatClampNeg v4)) &&& (7 : Int32)))]) (st1 := [(.ref v1), (.int v4), (.ref 9)]) (mem1 := m) rfl ?_
      refine it_V.getP it_cd97 it_m97 rfl (hv1).1 rfl ?_
      refine it_V.at (pc1 := 68) (ls1 := [some (.ref 9), some (.ref v1), some (.int v2), some (.int v3), some (.int v4), some (.int u0), some (.int ((m 12 (Int32.toNatClampNeg v4)) &&& (7 : Int32)))]) (st1 := [(.ref (v1 + 1)), (.int v4), (.ref 9)]) (mem1 := m) rfl rfl rfl rfl ?_
      refine it_V.getP it_cd97 it_m97 rfl (hv1).2.1 rfl ?_
      refine it_V.at (pc1 := 71) (ls1 := [some (.ref 9), some (.ref v1), some (.int v2), some (.int v3), some (.int v4), some (.int u0), some (.int ((m 12 (Int32.toNatClampNeg v4)) &&& (7 : Int32)))]) (st1 := [(.int (m (v1 + 1) 1)), (.int v4), (.ref 9)]) (mem1 := m) rfl rfl rfl rfl ?_
      refine it_V.sN it_cd97 it_m97 1 (pc1 := 72) (ls1 := [some (.ref 9), some (.ref v1), some (.int v2), some (.int v3), some (.int v4), some (.int u0), some (.int ((m 12 (Int32.toNatClampNeg v4)) &&& (7 : Int32)))]) (st1 := [(.ref v1), (.int (m (v1 + 1) 1)), (.int v4), (.ref 9)]) (mem1 := m) rfl ?_
      refine it_V.getP it_cd97 it_m97 rfl (hv1).1 rfl ?_
      refine it_V.at (pc1 := 75) (ls1 := [some (.ref 9), some (.ref v1), some (.int v2), some (.int v3), some (.int v4), some (.int u0), some (.int ((m 12 (Int32.toNatClampNeg v4)) &&& (7 : Int32)))]) (st1 := [(.ref (v1 + 1)), (.int (m (v1 + 1) 1)), (.int v4), (.ref 9)]) (mem1 := m) rfl rfl rfl rfl ?_
      refine it_V.getP it_cd97 it_m97 rfl (hv1).2.1 rfl ?_
      refine it_V.at (pc1 := 78) (ls1 := [some (.ref 9), some (.ref v1), some (.int v2), some (.int v3), some (.int v4), some (.int u0), some (.int ((m 12 (Int32.toNatClampNeg v4)) &&& (7 : Int32)))]) (st1 := [(.int (m (v1 + 1) 3)), (.int (m (v1 + 1) 1)), (.int v4), (.ref 9)]) (mem1 := m) rfl rfl rfl rfl ?_
      refine it_V.call it_cd97 it_m97 rfl it_m98 [(.ref 9), (.int v4), (.int (m (v1 + 1) 1)), (.int (m (v1 + 1) 3))] [] rfl rfl ⟨Nat.le_of_ble_eq_true rfl, Nat.le_of_ble_eq_true rfl, Nat.le_of_ble_eq_true rfl, Nat.le_of_ble_eq_true rfl, rfl⟩ (s_98 kc v4 (m (v1 + 1) 1) (m (v1 + 1) 3) m _ h) ?_
      rintro _ m5 ⟨r4, rfl, h⟩
      refine it_V.at (pc1 := 81) (ls1 := [some (.ref 9), some (.ref v1), some (.int v2), some (.int v3), some (.int v4), some (.int u0), some (.int ((m 12 (Int32.toNatClampNeg v4)) &&& (7 : Int32)))]) (st1 := [(.int r4)]) (mem1 := m5) rfl rfl rfl rfl ?_
      refine it_V.sN it_cd97 it_m97 1 (pc1 := (if r4 = 0 then 90 else 84)) (ls1 := [some (.ref 9), some (.ref v1), some (.int v2), some (.int v3), some (.int v4), some (.int u0), some (.int ((m 12 (Int32.toNatClampNeg v4)) &&& (7 : Int32)))]) (st1 := []) (mem1 := m5) rfl ?_
      refine it_V.ite (fun c6 => ?_) (fun c6 => ?_)
      · have h := h.1 c6
        exact s_97_90 kc Φ _ _ _ hK12 hK139 hK147 v1 v2 v3 v4 u0 ((m 12 (Int32.toNatClampNeg v4)) &&& (7 : Int32)) (hv1) m5 h
      · have h := h.2 c6
        refine it_V.sN it_cd97 it_m97 2 (pc1 := 141) (ls1 := [some (.ref 9), some (.ref v1), some (.int (v2 + (1 : Int32))), some (.int v3), some (.int v4), some (.int u0), some (.int ((m 12 (Int32.toNatClampNeg v4)) &&& (7 : Int32)))]) (st1 := []) (mem1 := m5) rfl ?_
        refine it_V.weak (l := [some (.ref 9), some (.ref v1), some (.int (v2 + (1 : Int32))), some (.int v3), some (.int v4), none, none]) ⟨rfl, ⟨rfl, ⟨rfl, ⟨rfl, ⟨rfl, trivial⟩⟩⟩⟩⟩ ?_
        exact s_97_141 kc Φ _ _ _ hK12 hK139 hK147 v1 (v2 + (1 : Int32)) v3 v4 (hv1) m5 h
    · have h := h.2 c3
      exact s_97_90 kc Φ _ _ _ hK12 hK139 hK147 v1 v2 v3 v4 u0 ((m 12 (Int32.toNatClampNeg v4)) &&& (7 : Int32)) (hv1) m h
set_option maxRecDepth 100000 in
set_option maxHeartbeats 4000000 in
theorem s_97_12 (kc : it_Kc) (Φ : Int32 → it_Me → Prop) (K139 : it_Me → Prop) (K147 : Nat → Int32 → Int32 → it_Me → Prop) (hK139 : ∀ (m : it_Me), K139 m → it_V kc it_sh0 97 139 [none, none, none, none, none, none, none] [] m (it_Pi Φ)) (hK147 : ∀ (v1 : Nat) (v2 : Int32) (v3 : Int32) (_ : it_isP v1) (m : it_Me), K147 v1 v2 v3 m → it_V kc it_sh0 97 147 [none, some (.ref v1), some (.int v2), some (.int v3), none, none, none] [] m (it_Pi Φ)) : ∀ (n : Nat) (v1 : Nat) (v2 : Int32) (v3 : Int32) (v4 : Int32) (hv1 : it_isP v1) (m : it_Me) (h : w_97_12 kc Φ K139 K147 n v1 v2 v3 v4 m), it_V kc it_sh0 97 12 [some (.ref 9), some (.ref v1), some (.int v2), some (.int v3), some (.int v4), none, none] [] m (it_Pi Φ) := by
  intro n
  induction n with
  | zero => intro v1 v2 v3 v4 hv1 m h; exact absurd h id
  | succ n ih =>
    intro v1 v2 v3 v4 hv1 m h
    rw [w_97_12] at h
    refine it_V.sN it_cd97 it_m97 3 (pc1 := (if (16 : Int32) ≤ v4 then 147 else 19)) (ls1 := [some (.ref 9), some (.ref v1), some (.int v2), some (.int v3), some (.int v4), none, none]) (st1 := []) (mem1 := m) rfl ?_
    refine it_V.ite (fun c1 => ?_) (fun c1 => ?_)
    · have h := h.1 c1
      refine it_V.weak (l := [none, some (.ref v1), some (.int v2), some (.int v3), none, none, none]) ⟨rfl, ⟨rfl, ⟨rfl, trivial⟩⟩⟩ ?_
      exact hK147 v1 v2 v3 (hv1) m h
    · have h := h.2 c1
      refine it_V.sN it_cd97 it_m97 3 (pc1 := 25) (ls1 := [some (.ref 9), some (.ref v1), some (.int v2), some (.int v3), some (.int v4), none, none]) (st1 := [(.int v4), (.ref 12)]) (mem1 := m) rfl ?_
      obtain ⟨g2, h⟩ := h
      refine it_V.iald it_cd97 it_m97 rfl ((⟨rfl, by decide⟩ : it_isR 12 16)).2 ((⟨rfl, by decide⟩ : it_isR 12 16)).1 g2 ?_
      refine it_V.at (pc1 := 26) (ls1 := [some (.ref 9), some (.ref v1), some (.int v2), some (.int v3), some (.int v4), none, none]) (st1 := [(.int (m 12 (Int32.toNatClampNeg v4)))]) (mem1 := m) rfl rfl rfl rfl ?_
      refine it_V.sN it_cd97 it_m97 3 (pc1 := (if (it_shr (m 12 (Int32.toNatClampNeg v4)) (3 : Int32)) = 0 then 35 else 31)) (ls1 := [some (.ref 9), some (.ref v1), some (.int v2), some (.int v3), some (.int v4), none, none]) (st1 := []) (mem1 := m) rfl ?_
      refine it_V.ite (fun c3 => ?_) (fun c3 => ?_)
      · have h := h.1 c3
        refine it_V.sN it_cd97 it_m97 1 (pc1 := 36) (ls1 := [some (.ref 9), some (.ref v1), some (.int v2), some (.int v3), some (.int v4), none, none]) (st1 := [(.int (0 : Int32))]) (mem1 := m) rfl ?_
        refine it_V.weak (l := [some (.ref 9), some (.ref v1), some (.int v2), some (.int v3), some (.int v4), none, none]) ⟨rfl, ⟨rfl, ⟨rfl, ⟨rfl, ⟨rfl, trivial⟩⟩⟩⟩⟩ ?_
        exact s_97_36 kc Φ _ _ _ ih hK139 hK147 v1 v2 v3 v4 (0 : Int32) (hv1) m h
      · have h := h.2 c3
        refine it_V.sN it_cd97 it_m97 2 (pc1 := 36) (ls1 := [some (.ref 9), some (.ref v1), some (.int v2), some (.int v3), some (.int v4), none, none]) (st1 := [(.int (1 : Int32))]) (mem1 := m) rfl ?_
        refine it_V.weak (l := [some (.ref 9), some (.ref v1), some (.int v2), some (.int v3), some (.int v4), none, none]) ⟨rfl, ⟨rfl, ⟨rfl, ⟨rfl, ⟨rfl, trivial⟩⟩⟩⟩⟩ ?_
        exact s_97_36 kc Φ _ _ _ ih hK139 hK147 v1 v2 v3 v4 (1 : Int32) (hv1) m h
set_option maxRecDepth 100000 in
set_option maxHeartbeats 4000000 in
theorem s_97_139 (kc : it_Kc) (Φ : Int32 → it_Me → Prop) (m : it_Me) (h : w_97_139 kc Φ m) : it_V kc it_sh0 97 139 [none, none, none, none, none, none, none] [] m (it_Pi Φ) := by
  rw [w_97_139] at h
  refine it_V.sN it_cd97 it_m97 1 (pc1 := 140) (ls1 := [none, none, none, none, none, none, none]) (st1 := [(.int (0 : Int32))]) (mem1 := m) rfl ?_
  exact it_V.ret it_cd97 it_m97 rfl rfl ⟨_, rfl, h⟩
set_option maxRecDepth 100000 in
set_option maxHeartbeats 4000000 in
theorem s_97_177 (kc : it_Kc) (Φ : Int32 → it_Me → Prop) (u0 : Int32) (m : it_Me) (h : w_97_177 kc Φ u0 m) : it_V kc it_sh0 97 177 [none, none, none, none, none, none, none] [(.int u0)] m (it_Pi Φ) := by
  rw [w_97_177] at h
  exact it_V.retZ it_cd97 it_m97 rfl rfl h.1 ⟨_, rfl, h.2⟩
set_option maxRecDepth 100000 in
set_option maxHeartbeats 4000000 in
theorem s_97_176 (kc : it_Kc) (Φ : Int32 → it_Me → Prop) (m : it_Me) (h : w_97_176 kc Φ m) : it_V kc it_sh0 97 176 [none, none, none, none, none, none, none] [] m (it_Pi Φ) := by
  rw [w_97_176] at h
  refine it_V.sN it_cd97 it_m97 1 (pc1 := 177) (ls1 := [none, none, none, none, none, none, none]) (st1 := [(.int (0 : Int32))]) (mem1 := m) rfl ?_
  refine it_V.weak (l := [none, none, none, none, none, none, none]) trivial ?_
  exact s_97_177 kc Φ (0 : Int32) m h
set_option maxRecDepth 100000 in
set_option maxHeartbeats 4000000 in
theorem s_97_169 (kc : it_Kc) (Φ : Int32 → it_Me → Prop) (u0 : Int32) (u1 : Int32) (m : it_Me) (h : w_97_169 kc Φ u0 u1 m) : it_V kc it_sh0 97 169 [none, none, none, none, none, none, none] [(.int u1), (.int u0)] m (it_Pi Φ) := by
  rw [w_97_169] at h
  refine it_V.sN it_cd97 it_m97 1 (pc1 := (if u0 = u1 then 172 else 176)) (ls1 := [none, none, none, none, none, none, none]) (st1 := []) (mem1 := m) rfl ?_
  refine it_V.ite (fun c1 => ?_) (fun c1 => ?_)
  · have h := h.1 c1
    refine it_V.sN it_cd97 it_m97 2 (pc1 := 177) (ls1 := [none, none, none, none, none, none, none]) (st1 := [(.int (1 : Int32))]) (mem1 := m) rfl ?_
    refine it_V.weak (l := [none, none, none, none, none, none, none]) trivial ?_
    exact s_97_177 kc Φ (1 : Int32) m h
  · have h := h.2 c1
    refine it_V.weak (l := [none, none, none, none, none, none, none]) trivial ?_
    exact s_97_176 kc Φ m h
set_option maxRecDepth 100000 in
set_option maxHeartbeats 4000000 in
theorem s_97_147 (kc : it_Kc) (Φ : Int32 → it_Me → Prop) (v1 : Nat) (v2 : Int32) (v3 : Int32) (hv1 : it_isP v1) (m : it_Me) (h : w_97_147 kc Φ v1 v2 v3 m) : it_V kc it_sh0 97 147 [none, some (.ref v1), some (.int v2), some (.int v3), none, none, none] [] m (it_Pi Φ) := by
  rw [w_97_147] at h
  refine it_V.sN it_cd97 it_m97 3 (pc1 := (if v2 = (1 : Int32) then 152 else 176)) (ls1 := [none, some (.ref v1), some (.int v2), some (.int v3), none, none, none]) (st1 := []) (mem1 := m) rfl ?_
  refine it_V.ite (fun c1 => ?_) (fun c1 => ?_)
  · have h := h.1 c1
    refine it_V.sN it_cd97 it_m97 2 (pc1 := 154) (ls1 := [none, some (.ref v1), some (.int v2), some (.int v3), none, none, none]) (st1 := [(.ref v1), (.int v3)]) (mem1 := m) rfl ?_
    refine it_V.getP it_cd97 it_m97 rfl (hv1).1 rfl ?_
    refine it_V.at (pc1 := 157) (ls1 := [none, some (.ref v1), some (.int v2), some (.int v3), none, none, none]) (st1 := [(.int (m v1 7)), (.int v3)]) (mem1 := m) rfl rfl rfl rfl ?_
    refine it_V.sN it_cd97 it_m97 1 (pc1 := 158) (ls1 := [none, some (.ref v1), some (.int v2), some (.int v3), none, none, none]) (st1 := [(.ref v1), (.int (m v1 7)), (.int v3)]) (mem1 := m) rfl ?_
    refine it_V.getP it_cd97 it_m97 rfl (hv1).1 rfl ?_
    refine it_V.at (pc1 := 161) (ls1 := [none, some (.ref v1), some (.int v2), some (.int v3), none, none, none]) (st1 := [(.int (m v1 5)), (.int (m v1 7)), (.int v3)]) (mem1 := m) rfl rfl rfl rfl ?_
    refine it_V.sN it_cd97 it_m97 1 (pc1 := (if (m v1 7) ≤ (m v1 5) then 168 else 164)) (ls1 := [none, some (.ref v1), some (.int v2), some (.int v3), none, none, none]) (st1 := [(.int v3)]) (mem1 := m) rfl ?_
    refine it_V.ite (fun c2 => ?_) (fun c2 => ?_)
    · have h := h.1 c2
      refine it_V.sN it_cd97 it_m97 1 (pc1 := 169) (ls1 := [none, some (.ref v1), some (.int v2), some (.int v3), none, none, none]) (st1 := [(.int (0 : Int32)), (.int v3)]) (mem1 := m) rfl ?_
      refine it_V.weak (l := [none, none, none, none, none, none, none]) trivial ?_
      exact s_97_169 kc Φ v3 (0 : Int32) m h
    · have h := h.2 c2
      refine it_V.sN it_cd97 it_m97 2 (pc1 := 169) (ls1 := [none, some (.ref v1), some (.int v2), some (.int v3), none, none, none]) (st1 := [(.int (1 : Int32)), (.int v3)]) (mem1 := m) rfl ?_
      refine it_V.weak (l := [none, none, none, none, none, none, none]) trivial ?_
      exact s_97_169 kc Φ v3 (1 : Int32) m h
  · have h := h.2 c1
    refine it_V.weak (l := [none, none, none, none, none, none, none]) trivial ?_
    exact s_97_176 kc Φ m h
set_option maxRecDepth 100000 in
set_option maxHeartbeats 4000000 in
theorem s_97 (kc : it_Kc) (x0 : Nat) (hx0 : it_isP x0) (m : it_Me) (Φ : Int32 → it_Me → Prop) (h : w_97 kc x0 m Φ) : it_V kc it_sh0 97 0 (it_loc0 [(.ref 9), (.ref x0)] 7) [] m (it_Pi Φ) := by
  rw [w_97] at h
  refine it_V.at (pc1 := 0) (ls1 := [some (.ref 9), some (.ref x0), none, none, none, none, none]) (st1 := []) (mem1 := m) rfl rfl rfl rfl ?_
  refine it_V.sN it_cd97 it_m97 2 (pc1 := 2) (ls1 := [some (.ref 9), some (.ref x0), none, none, none, none, none]) (st1 := [(.ref x0), (.ref 9)]) (mem1 := m) rfl ?_
  refine it_V.call it_cd97 it_m97 rfl it_m94 [(.ref 9), (.ref x0)] [] rfl rfl ⟨Nat.le_of_ble_eq_true rfl, Nat.le_of_ble_eq_true rfl, Nat.le_of_ble_eq_true rfl, Nat.le_of_ble_eq_true rfl, rfl⟩ (s_94 kc x0 (hx0) m _ h) ?_
  rintro _ m1 ⟨rfl, h⟩
  refine it_V.at (pc1 := 5) (ls1 := [some (.ref 9), some (.ref x0), none, none, none, none, none]) (st1 := []) (mem1 := m1) rfl rfl rfl rfl ?_
  refine it_V.sN it_cd97 it_m97 6 (pc1 := 12) (ls1 := [some (.ref 9), some (.ref x0), some (.int (0 : Int32)), some (.int (0 : Int32)), some (.int (0 : Int32)), none, none]) (st1 := []) (mem1 := m1) rfl ?_
  obtain ⟨n, h⟩ := h
  exact s_97_12 kc Φ _ _ (fun m h => s_97_139 kc Φ m h) (fun v1 v2 v3 hv1 m h => s_97_147 kc Φ v1 v2 v3 hv1 m h) n x0 (0 : Int32) (0 : Int32) (0 : Int32) (hx0) m1 h
set_option maxRecDepth 100000 in
set_option maxHeartbeats 4000000 in
theorem s_215_26 (kc : it_Kc) (Φ : Int32 → it_Me → Prop) (u0 : Int32) (m : it_Me) (h : w_215_26 kc Φ u0 m) : it_V kc it_sh0 215 26 [none, none, none, none] [(.int u0)] m (it_Pi Φ) := by
  rw [w_215_26] at h
  exact it_V.retZ it_cd215 it_m215 rfl rfl h.1 ⟨_, rfl, h.2⟩
set_option maxRecDepth 100000 in
set_option maxHeartbeats 4000000 in
theorem s_215_25 (kc : it_Kc) (Φ : Int32 → it_Me → Prop) (m : it_Me) (h : w_215_25 kc Φ m) : it_V kc it_sh0 215 25 [none, none, none, none] [] m (it_Pi Φ) := by
  rw [w_215_25] at h
  refine it_V.sN it_cd215 it_m215 1 (pc1 := 26) (ls1 := [none, none, none, none]) (st1 := [(.int (0 : Int32))]) (mem1 := m) rfl ?_
  refine it_V.weak (l := [none, none, none, none]) trivial ?_
  exact s_215_26 kc Φ (0 : Int32) m h
set_option maxRecDepth 100000 in
set_option maxHeartbeats 4000000 in
theorem s_215 (kc : it_Kc) (x0 : Int32) (x1 : Int32) (x2 : Int32) (x3 : Int32) (m : it_Me) (Φ : Int32 → it_Me → Prop) (h : w_215 kc x0 x1 x2 x3 m Φ) : it_V kc it_sh0 215 0 (it_loc0 [(.int x0), (.int x1), (.int x2), (.int x3)] 4) [] m (it_Pi Φ) := by
  rw [w_215] at h
  refine it_V.at (pc1 := 0) (ls1 := [some (.int x0), some (.int x1), some (.int x2), some (.int x3)]) (st1 := []) (mem1 := m) rfl rfl rfl rfl ?_
  refine it_V.sN it_cd215 it_m215 3 (pc1 := (if x0 < x2 then 25 else 5)) (ls1 := [some (.int x0), some (.int x1), some (.int x2), some (.int x3)]) (st1 := []) (mem1 := m) rfl ?_
  refine it_V.ite (fun c1 => ?_) (fun c1 => ?_)
  · have h := h.1 c1
    refine it_V.weak (l := [none, none, none, none]) trivial ?_
    exact s_215_25 kc Φ m h
  · have h := h.2 c1
    refine it_V.sN it_cd215 it_m215 3 (pc1 := (if x3 ≤ x0 then 25 else 10)) (ls1 := [some (.int x0), some (.int x1), some (.int x2), some (.int x3)]) (st1 := []) (mem1 := m) rfl ?_
    refine it_V.ite (fun c2 => ?_) (fun c2 => ?_)
    · have h := h.1 c2
      refine it_V.weak (l := [none, none, none, none]) trivial ?_
      exact s_215_25 kc Φ m h
    · have h := h.2 c2
      refine it_V.sN it_cd215 it_m215 2 (pc1 := (if x1 ≤ 0 then 25 else 14)) (ls1 := [some (.int x0), some (.int x1), some (.int x2), some (.int x3)]) (st1 := []) (mem1 := m) rfl ?_
      refine it_V.ite (fun c3 => ?_) (fun c3 => ?_)
      · have h := h.1 c3
        refine it_V.weak (l := [none, none, none, none]) trivial ?_
        exact s_215_25 kc Φ m h
      · have h := h.2 c3
        refine it_V.sN it_cd215 it_m215 5 (pc1 := (if (x3 - x0) < x1 then 25 else 21)) (ls1 := [some (.int x0), some (.int x1), some (.int x2), some (.int x3)]) (st1 := []) (mem1 := m) rfl ?_
        refine it_V.ite (fun c4 => ?_) (fun c4 => ?_)
        · have h := h.1 c4
          refine it_V.weak (l := [none, none, none, none]) trivial ?_
          exact s_215_25 kc Φ m h
        · have h := h.2 c4
          refine it_V.sN it_cd215 it_m215 2 (pc1 := 26) (ls1 := [some (.int x0), some (.int x1), some (.int x2), some (.int x3)]) (st1 := [(.int (1 : Int32))]) (mem1 := m) rfl ?_
          refine it_V.weak (l := [none, none, none, none]) trivial ?_
          exact s_215_26 kc Φ (1 : Int32) m h
set_option maxRecDepth 100000 in
set_option maxHeartbeats 4000000 in
theorem s_99_51 (kc : it_Kc) (Φ : Int32 → it_Me → Prop) (K2 : Nat → Int32 → it_Me → Prop) (K49 : it_Me → Prop) (K57 : Nat → it_Me → Prop) (hK2 : ∀ (v1 : Nat) (v2 : Int32) (_ : it_isP v1) (m : it_Me), K2 v1 v2 m → it_V kc it_sh0 99 2 [some (.ref 9), some (.ref v1), some (.int v2), none] [] m (it_Pi Φ)) (hK49 : ∀ (m : it_Me), K49 m → it_V kc it_sh0 99 49 [none, none, none, none] [] m (it_Pi Φ)) (hK57 : ∀ (v1 : Nat) (_ : it_isP v1) (m : it_Me), K57 v1 m → it_V kc it_sh0 99 57 [none, some (.ref v1), none, none] [] m (it_Pi Φ)) (v1 : Nat) (v2 : Int32) (hv1 : it_isP v1) (m : it_Me) (h : w_99_51 kc Φ K2 K49 K57 v1 v2 m) : it_V kc it_sh0 99 51 [some (.ref 9), some (.ref v1), some (.int v2), none] [] m (it_Pi Φ) := by
  rw [w_99_51] at h
  refine it_V.sN it_cd99 it_m99 2 (pc1 := 2) (ls1 := [some (.ref 9), some (.ref v1), some (.int (v2 + (1 : Int32))), none]) (st1 := []) (mem1 := m) rfl ?_
  refine it_V.weak (l := [some (.ref 9), some (.ref v1), some (.int (v2 + (1 : Int32))), none]) ⟨rfl, ⟨rfl, ⟨rfl, trivial⟩⟩⟩ ?_
  exact hK2 v1 (v2 + (1 : Int32)) (hv1) m h
set_option maxRecDepth 100000 in
set_option maxHeartbeats 4000000 in
theorem s_99_2 (kc : it_Kc) (Φ : Int32 → it_Me → Prop) (K49 : it_Me → Prop) (K57 : Nat → it_Me → Prop) (hK49 : ∀ (m : it_Me), K49 m → it_V kc it_sh0 99 49 [none, none, none, none] [] m (it_Pi Φ)) (hK57 : ∀ (v1 : Nat) (_ : it_isP v1) (m : it_Me), K57 v1 m → it_V kc it_sh0 99 57 [none, some (.ref v1), none, none] [] m (it_Pi Φ)) : ∀ (n : Nat) (v1 : Nat) (v2 : Int32) (hv1 : it_isP v1) (m : it_Me) (h : w_99_2 kc Φ K49 K57 n v1 v2 m), it_V kc it_sh0 99 2 [some (.ref 9), some (.ref v1), some (.int v2), none] [] m (it_Pi Φ) := by
  intro n
  induction n with
  | zero => intro v1 v2 hv1 m h; exact absurd h id
  | succ n ih =>
    intro v1 v2 hv1 m h
    rw [w_99_2] at h
    refine it_V.sN it_cd99 it_m99 2 (pc1 := 4) (ls1 := [some (.ref 9), some (.ref v1), some (.int v2), none]) (st1 := [(.ref v1), (.int v2)]) (mem1 := m) rfl ?_
    refine it_V.getP it_cd99 it_m99 rfl (hv1).1 rfl ?_
    refine it_V.at (pc1 := 7) (ls1 := [some (.ref 9), some (.ref v1), some (.int v2), none]) (st1 := [(.int (m v1 0)), (.int v2)]) (mem1 := m) rfl rfl rfl rfl ?_
    refine it_V.sN it_cd99 it_m99 1 (pc1 := (if (m v1 0) ≤ v2 then 57 else 10)) (ls1 := [some (.ref 9), some (.ref v1), some (.int v2), none]) (st1 := []) (mem1 := m) rfl ?_
    refine it_V.ite (fun c1 => ?_) (fun c1 => ?_)
    · have h := h.1 c1
      refine it_V.weak (l := [none, some (.ref v1), none, none]) ⟨rfl, trivial⟩ ?_
      exact hK57 v1 (hv1) m h
    · have h := h.2 c1
      refine it_V.sN it_cd99 it_m99 3 (pc1 := 15) (ls1 := [some (.ref 9), some (.ref v1), some (.int v2), none]) (st1 := [(.int v2), (.ref 10)]) (mem1 := m) rfl ?_
      obtain ⟨g2, h⟩ := h
      refine it_V.aald it_cd99 it_m99 rfl g2 ?_
      refine it_V.at (pc1 := 16) (ls1 := [some (.ref 9), some (.ref v1), some (.int v2), none]) (st1 := [(.ref (14 + 5 * Int32.toNatClampNeg v2))]) (mem1 := m) rfl rfl rfl rfl ?_
      refine it_V.sN it_cd99 it_m99 2 (pc1 := 18) (ls1 := [some (.ref 9), some (.ref v1), some (.int v2), some (.ref (14 + 5 * Int32.toNatClampNeg v2))]) (st1 := [(.ref v1)]) (mem1 := m) rfl ?_
      refine it_V.getP it_cd99 it_m99 rfl (hv1).1 rfl ?_
      refine it_V.at (pc1 := 21) (ls1 := [some (.ref 9), some (.ref v1), some (.int v2), some (.ref (14 + 5 * Int32.toNatClampNeg v2))]) (st1 := [(.int (m v1 5))]) (mem1 := m) rfl rfl rfl rfl ?_
      refine it_V.sN it_cd99 it_m99 1 (pc1 := 22) (ls1 := [some (.ref 9), some (.ref v1), some (.int v2), some (.ref (14 + 5 * Int32.toNatClampNeg v2))]) (st1 := [(.ref (14 + 5 * Int32.toNatClampNeg v2)), (.int (m v1 5))]) (mem1 := m) rfl ?_
      refine it_V.getP it_cd99 it_m99 rfl (it_isP_of g2).1 rfl ?_
      refine it_V.at (pc1 := 25) (ls1 := [some (.ref 9), some (.ref v1), some (.int v2), some (.ref (14 + 5 * Int32.toNatClampNeg v2))]) (st1 := [(.int (m (14 + 5 * Int32.toNatClampNeg v2) 5)), (.int (m v1 5))]) (mem1 := m) rfl rfl rfl rfl ?_
      refine it_V.sN it_cd99 it_m99 1 (pc1 := 26) (ls1 := [some (.ref 9), some (.ref v1), some (.int v2), some (.ref (14 + 5 * Int32.toNatClampNeg v2))]) (st1 := [(.ref (14 + 5 * Int32.toNatClampNeg v2)), (.int (m (14 + 5 * Int32.toNatClampNeg v2) 5)), (.int (m v1 5))]) (mem1 := m) rfl ?_
      refine it_V.getP it_cd99 it_m99 rfl (it_isP_of g2).1 rfl ?_
      refine it_V.at (pc1 := 29) (ls1 := [some (.ref 9), some (.ref v1), some (.int v2), some (.ref (14 + 5 * Int32.toNatClampNeg v2))]) (st1 := [(.int (m (14 + 5 * Int32.toNatClampNeg v2) 6)), (.int (m (14 + 5 * Int32.toNatClampNeg v2) 5)), (.int (m v1 5))]) (mem1 := m) rfl rfl rfl rfl ?_
      refine it_V.sN it_cd99 it_m99 2 (pc1 := (if ((m (14 + 5 * Int32.toNatClampNeg v2) 5) + (m (14 + 5 * Int32.toNatClampNeg v2) 6)) ≤ (m v1 5) then 51 else 33)) (ls1 := [some (.ref 9), some (.ref v1), some (.int v2), some (.ref (14 + 5 * Int32.toNatClampNeg v2))]) (st1 := []) (mem1 := m) rfl ?_
      refine it_V.ite (fun c3 => ?_) (fun c3 => ?_)
      · have h := h.1 c3
        refine it_V.weak (l := [some (.ref 9), some (.ref v1), some (.int v2), none]) ⟨rfl, ⟨rfl, ⟨rfl, trivial⟩⟩⟩ ?_
        exact s_99_51 kc Φ _ _ _ ih hK49 hK57 v1 v2 (hv1) m h
      · have h := h.2 c3
        refine it_V.sN it_cd99 it_m99 1 (pc1 := 34) (ls1 := [some (.ref 9), some (.ref v1), some (.int v2), some (.ref (14 + 5 * Int32.toNatClampNeg v2))]) (st1 := [(.ref (14 + 5 * Int32.toNatClampNeg v2))]) (mem1 := m) rfl ?_
        refine it_V.getP it_cd99 it_m99 rfl (it_isP_of g2).1 rfl ?_
        refine it_V.at (pc1 := 37) (ls1 := [some (.ref 9), some (.ref v1), some (.int v2), some (.ref (14 + 5 * Int32.toNatClampNeg v2))]) (st1 := [(.int (m (14 + 5 * Int32.toNatClampNeg v2) 5))]) (mem1 := m) rfl rfl rfl rfl ?_
        refine it_V.sN it_cd99 it_m99 1 (pc1 := 38) (ls1 := [some (.ref 9), some (.ref v1), some (.int v2), some (.ref (14 + 5 * Int32.toNatClampNeg v2))]) (st1 := [(.ref v1), (.int (m (14 + 5 * Int32.toNatClampNeg v2) 5))]) (mem1 := m) rfl ?_
        refine it_V.getP it_cd99 it_m99 rfl (hv1).1 rfl ?_
        refine it_V.at (pc1 := 41) (ls1 := [some (.ref 9), some (.ref v1), some (.int v2), some (.ref (14 + 5 * Int32.toNatClampNeg v2))]) (st1 := [(.int (m v1 5)), (.int (m (14 + 5 * Int32.toNatClampNeg v2) 5))]) (mem1 := m) rfl rfl rfl rfl ?_
        refine it_V.sN it_cd99 it_m99 1 (pc1 := 42) (ls1 := [some (.ref 9), some (.ref v1), some (.int v2), some (.ref (14 + 5 * Int32.toNatClampNeg v2))]) (st1 := [(.ref v1), (.int (m v1 5)), (.int (m (14 + 5 * Int32.toNatClampNeg v2) 5))]) (mem1 := m) rfl ?_
        refine it_V.getP it_cd99 it_m99 rfl (hv1).1 rfl ?_
        refine it_V.at (pc1 := 45) (ls1 := [some (.ref 9), some (.ref v1), some (.int v2), some (.ref (14 + 5 * Int32.toNatClampNeg v2))]) (st1 := [(.int (m v1 6)), (.int (m v1 5)), (.int (m (14 + 5 * Int32.toNatClampNeg v2) 5))]) (mem1 := m) rfl rfl rfl rfl ?_
        refine it_V.sN it_cd99 it_m99 2 (pc1 := (if ((m v1 5) + (m v1 6)) ≤ (m (14 + 5 * Int32.toNatClampNeg v2) 5) then 51 else 49)) (ls1 := [some (.ref 9), some (.ref v1), some (.int v2), some (.ref (14 + 5 * Int32.toNatClampNeg v2))]) (st1 := []) (mem1 := m) rfl ?_
        refine it_V.ite (fun c4 => ?_) (fun c4 => ?_)
        · have h := h.1 c4
          refine it_V.weak (l := [some (.ref 9), some (.ref v1), some (.int v2), none]) ⟨rfl, ⟨rfl, ⟨rfl, trivial⟩⟩⟩ ?_
          exact s_99_51 kc Φ _ _ _ ih hK49 hK57 v1 v2 (hv1) m h
        · have h := h.2 c4
          refine it_V.weak (l := [none, none, none, none]) trivial ?_
          exact hK49 m h
set_option maxRecDepth 100000 in
set_option maxHeartbeats 4000000 in
theorem s_99_49 (kc : it_Kc) (Φ : Int32 → it_Me → Prop) (m : it_Me) (h : w_99_49 kc Φ m) : it_V kc it_sh0 99 49 [none, none, none, none] [] m (it_Pi Φ) := by
  rw [w_99_49] at h
  refine it_V.sN it_cd99 it_m99 1 (pc1 := 50) (ls1 := [none, none, none, none]) (st1 := [(.int (0 : Int32))]) (mem1 := m) rfl ?_
  exact it_V.ret it_cd99 it_m99 rfl rfl ⟨_, rfl, h⟩
set_option maxRecDepth 100000 in
set_option maxHeartbeats 4000000 in
theorem s_99_57 (kc : it_Kc) (Φ : Int32 → it_Me → Prop) (v1 : Nat) (hv1 : it_isP v1) (m : it_Me) (h : w_99_57 kc Φ v1 m) : it_V kc it_sh0 99 57 [none, some (.ref v1), none, none] [] m (it_Pi Φ) := by
  rw [w_99_57] at h
  refine it_V.sN it_cd99 it_m99 1 (pc1 := 58) (ls1 := [none, some (.ref v1), none, none]) (st1 := [(.ref v1)]) (mem1 := m) rfl ?_
  refine it_V.getP it_cd99 it_m99 rfl (hv1).1 rfl ?_
  refine it_V.at (pc1 := 61) (ls1 := [none, some (.ref v1), none, none]) (st1 := [(.int (m v1 5))]) (mem1 := m) rfl rfl rfl rfl ?_
  refine it_V.sN it_cd99 it_m99 1 (pc1 := 62) (ls1 := [none, some (.ref v1), none, none]) (st1 := [(.ref v1), (.int (m v1 5))]) (mem1 := m) rfl ?_
  refine it_V.getP it_cd99 it_m99 rfl (hv1).1 rfl ?_
  refine it_V.at (pc1 := 65) (ls1 := [none, some (.ref v1), none, none]) (st1 := [(.int (m v1 6)), (.int (m v1 5))]) (mem1 := m) rfl rfl rfl rfl ?_
  refine it_V.sN it_cd99 it_m99 2 (pc1 := 69) (ls1 := [none, some (.ref v1), none, none]) (st1 := [(.int (196608 : Int32)), (.int (131072 : Int32)), (.int (m v1 6)), (.int (m v1 5))]) (mem1 := m) rfl ?_
  refine it_V.call it_cd99 it_m99 rfl it_m215 [(.int (m v1 5)), (.int (m v1 6)), (.int (131072 : Int32)), (.int (196608 : Int32))] [] rfl rfl ⟨Nat.le_of_ble_eq_true rfl, Nat.le_of_ble_eq_true rfl, Nat.le_of_ble_eq_true rfl, Nat.le_of_ble_eq_true rfl, rfl⟩ (s_215 kc (m v1 5) (m v1 6) (131072 : Int32) (196608 : Int32) m _ h) ?_
  rintro _ m2 ⟨r1, rfl, h⟩
  refine it_V.at (pc1 := 72) (ls1 := [none, some (.ref v1), none, none]) (st1 := [(.int r1)]) (mem1 := m2) rfl rfl rfl rfl ?_
  exact it_V.retZ it_cd99 it_m99 rfl rfl h.1 ⟨_, rfl, h.2⟩
set_option maxRecDepth 100000 in
set_option maxHeartbeats 4000000 in
theorem s_99 (kc : it_Kc) (x0 : Nat) (hx0 : it_isP x0) (m : it_Me) (Φ : Int32 → it_Me → Prop) (h : w_99 kc x0 m Φ) : it_V kc it_sh0 99 0 (it_loc0 [(.ref 9), (.ref x0)] 4) [] m (it_Pi Φ) := by
  rw [w_99] at h
  refine it_V.at (pc1 := 0) (ls1 := [some (.ref 9), some (.ref x0), none, none]) (st1 := []) (mem1 := m) rfl rfl rfl rfl ?_
  refine it_V.sN it_cd99 it_m99 2 (pc1 := 2) (ls1 := [some (.ref 9), some (.ref x0), some (.int (0 : Int32)), none]) (st1 := []) (mem1 := m) rfl ?_
  obtain ⟨n, h⟩ := h
  exact s_99_2 kc Φ _ _ (fun m h => s_99_49 kc Φ m h) (fun v1 hv1 m h => s_99_57 kc Φ v1 hv1 m h) n x0 (0 : Int32) (hx0) m h
set_option maxRecDepth 100000 in
set_option maxHeartbeats 4000000 in
theorem s_100_84 (kc : it_Kc) (Φ : Int32 → it_Me → Prop) (K7 : Nat → Int32 → Int32 → it_Me → Prop) (K48 : it_Me → Prop) (K87 : it_Me → Prop) (K98 : Nat → Int32 → it_Me → Prop) (hK7 : ∀ (v1 : Nat) (v2 : Int32) (v3 : Int32) (_ : it_isP v1) (m : it_Me), K7 v1 v2 v3 m → it_V kc it_sh0 100 7 [some (.ref 9), some (.ref v1), some (.int v2), some (.int v3), none, none] [] m (it_Pi Φ)) (hK48 : ∀ (m : it_Me), K48 m → it_V kc it_sh0 100 48 [none, none, none, none, none, none] [] m (it_Pi Φ)) (hK87 : ∀ (m : it_Me), K87 m → it_V kc it_sh0 100 87 [none, none, none, none, none, none] [] m (it_Pi Φ)) (hK98 : ∀ (v1 : Nat) (v2 : Int32) (_ : it_isP v1) (m : it_Me), K98 v1 v2 m → it_V kc it_sh0 100 98 [none, some (.ref v1), some (.int v2), none, none, none] [] m (it_Pi Φ)) (v1 : Nat) (v3 : Int32) (v5 : Int32) (u0 : Int32) (u1 : Int32) (hv1 : it_isP v1) (m : it_Me) (h : w_100_84 kc Φ K7 K48 K87 K98 v1 v3 v5 u0 u1 m) : it_V kc it_sh0 100 84 [some (.ref 9), some (.ref v1), none, some (.int v3), none, some (.int v5)] [(.int u1), (.int u0)] m (it_Pi Φ) := by
  rw [w_100_84] at h
  refine it_V.sN it_cd100 it_m100 1 (pc1 := (if u0 = u1 then 89 else 87)) (ls1 := [some (.ref 9), some (.ref v1), none, some (.int v3), none, some (.int v5)]) (st1 := []) (mem1 := m) rfl ?_
  refine it_V.ite (fun c1 => ?_) (fun c1 => ?_)
  · have h := h.1 c1
    refine it_V.sN it_cd100 it_m100 4 (pc1 := 7) (ls1 := [some (.ref 9), some (.ref v1), some (.int v5), some (.int (v3 + (1 : Int32))), none, some (.int v5)]) (st1 := []) (mem1 := m) rfl ?_
    refine it_V.weak (l := [some (.ref 9), some (.ref v1), some (.int v5), some (.int (v3 + (1 : Int32))), none, none]) ⟨rfl, ⟨rfl, ⟨rfl, ⟨rfl, trivial⟩⟩⟩⟩ ?_
    exact hK7 v1 v5 (v3 + (1 : Int32)) (hv1) m h
  · have h := h.2 c1
    refine it_V.weak (l := [none, none, none, none, none, none]) trivial ?_
    exact hK87 m h
set_option maxRecDepth 100000 in
set_option maxHeartbeats 4000000 in
theorem s_100_7 (kc : it_Kc) (Φ : Int32 → it_Me → Prop) (K48 : it_Me → Prop) (K87 : it_Me → Prop) (K98 : Nat → Int32 → it_Me → Prop) (hK48 : ∀ (m : it_Me), K48 m → it_V kc it_sh0 100 48 [none, none, none, none, none, none] [] m (it_Pi Φ)) (hK87 : ∀ (m : it_Me), K87 m → it_V kc it_sh0 100 87 [none, none, none, none, none, none] [] m (it_Pi Φ)) (hK98 : ∀ (v1 : Nat) (v2 : Int32) (_ : it_isP v1) (m : it_Me), K98 v1 v2 m → it_V kc it_sh0 100 98 [none, some (.ref v1), some (.int v2), none, none, none] [] m (it_Pi Φ)) : ∀ (n : Nat) (v1 : Nat) (v2 : Int32) (v3 : Int32) (hv1 : it_isP v1) (m : it_Me) (h : w_100_7 kc Φ K48 K87 K98 n v1 v2 v3 m), it_V kc it_sh0 100 7 [some (.ref 9), some (.ref v1), some (.int v2), some (.int v3), none, none] [] m (it_Pi Φ) := by
  intro n
  induction n with
  | zero => intro v1 v2 v3 hv1 m h; exact absurd h id
  | succ n ih =>
    intro v1 v2 v3 hv1 m h
    rw [w_100_7] at h
    refine it_V.sN it_cd100 it_m100 2 (pc1 := 9) (ls1 := [some (.ref 9), some (.ref v1), some (.int v2), some (.int v3), none, none]) (st1 := [(.ref v1), (.int v3)]) (mem1 := m) rfl ?_
    refine it_V.getP it_cd100 it_m100 rfl (hv1).1 rfl ?_
    refine it_V.at (pc1 := 12) (ls1 := [some (.ref 9), some (.ref v1), some (.int v2), some (.int v3), none, none]) (st1 := [(.int (m v1 18)), (.int v3)]) (mem1 := m) rfl rfl rfl rfl ?_
    refine it_V.sN it_cd100 it_m100 1 (pc1 := (if (m v1 18) ≤ v3 then 98 else 15)) (ls1 := [some (.ref 9), some (.ref v1), some (.int v2), some (.int v3), none, none]) (st1 := []) (mem1 := m) rfl ?_
    refine it_V.ite (fun c1 => ?_) (fun c1 => ?_)
    · have h := h.1 c1
      refine it_V.weak (l := [none, some (.ref v1), some (.int v2), none, none, none]) ⟨rfl, ⟨rfl, trivial⟩⟩ ?_
      exact hK98 v1 v2 (hv1) m h
    · have h := h.2 c1
      refine it_V.sN it_cd100 it_m100 3 (pc1 := 20) (ls1 := [some (.ref 9), some (.ref v1), some (.int v2), some (.int v3), none, none]) (st1 := [(.int v2), (.ref 1)]) (mem1 := m) rfl ?_
      refine it_V.call it_cd100 it_m100 rfl it_m12 [(.ref 1), (.int v2)] [] rfl rfl ⟨Nat.le_of_ble_eq_true rfl, Nat.le_of_ble_eq_true rfl, Nat.le_of_ble_eq_true rfl, Nat.le_of_ble_eq_true rfl, rfl⟩ (s_12 kc v2 m _ h) ?_
      rintro _ m3 ⟨r2, rfl, h⟩
      refine it_V.at (pc1 := 23) (ls1 := [some (.ref 9), some (.ref v1), some (.int v2), some (.int v3), none, none]) (st1 := [(.int r2)]) (mem1 := m3) rfl rfl rfl rfl ?_
      refine it_V.sN it_cd100 it_m100 3 (pc1 := (if r2 < 0 then 48 else 30)) (ls1 := [some (.ref 9), some (.ref v1), some (.int v2), some (.int v3), some (.int r2), none]) (st1 := []) (mem1 := m3) rfl ?_
      refine it_V.ite (fun c4 => ?_) (fun c4 => ?_)
      · have h := h.1 c4
        refine it_V.weak (l := [none, none, none, none, none, none]) trivial ?_
        exact hK48 m3 h
      · have h := h.2 c4
        refine it_V.sN it_cd100 it_m100 3 (pc1 := (if (9 : Int32) ≤ r2 then 48 else 37)) (ls1 := [some (.ref 9), some (.ref v1), some (.int v2), some (.int v3), some (.int r2), none]) (st1 := []) (mem1 := m3) rfl ?_
        refine it_V.ite (fun c5 => ?_) (fun c5 => ?_)
        · have h := h.1 c5
          refine it_V.weak (l := [none, none, none, none, none, none]) trivial ?_
          exact hK48 m3 h
        · have h := h.2 c5
          refine it_V.sN it_cd100 it_m100 1 (pc1 := 38) (ls1 := [some (.ref 9), some (.ref v1), some (.int v2), some (.int v3), some (.int r2), none]) (st1 := [(.ref v1)]) (mem1 := m3) rfl ?_
          refine it_V.getP it_cd100 it_m100 rfl (hv1).1 rfl ?_
          refine it_V.at (pc1 := 41) (ls1 := [some (.ref 9), some (.ref v1), some (.int v2), some (.int v3), some (.int r2), none]) (st1 := [(.ref (v1 + 4))]) (mem1 := m3) rfl rfl rfl rfl ?_
          refine it_V.sN it_cd100 it_m100 1 (pc1 := 43) (ls1 := [some (.ref 9), some (.ref v1), some (.int v2), some (.int v3), some (.int r2), none]) (st1 := [(.int r2), (.ref (v1 + 4))]) (mem1 := m3) rfl ?_
          obtain ⟨g6, h⟩ := h
          refine it_V.iald it_cd100 it_m100 rfl ((hv1).2.2.2.2).2 ((hv1).2.2.2.2).1 g6 ?_
          refine it_V.at (pc1 := 44) (ls1 := [some (.ref 9), some (.ref v1), some (.int v2), some (.int v3), some (.int r2), none]) (st1 := [(.int (m3 (v1 + 4) (Int32.toNatClampNeg r2)))]) (mem1 := m3) rfl rfl rfl rfl ?_
          refine it_V.sN it_cd100 it_m100 2 (pc1 := (if (m3 (v1 + 4) (Int32.toNatClampNeg r2)) = v2 then 50 else 48)) (ls1 := [some (.ref 9), some (.ref v1), some (.int v2), some (.int v3), some (.int r2), none]) (st1 := []) (mem1 := m3) rfl ?_
          refine it_V.ite (fun c7 => ?_) (fun c7 => ?_)
          · have h := h.1 c7
            refine it_V.sN it_cd100 it_m100 2 (pc1 := 53) (ls1 := [some (.ref 9), some (.ref v1), some (.int v2), some (.int v3), some (.int r2), none]) (st1 := [(.int r2), (.int v2)]) (mem1 := m3) rfl ?_
            refine it_V.call it_cd100 it_m100 rfl it_m86 [(.int r2)] [(.int v2)] rfl rfl ⟨Nat.le_of_ble_eq_true rfl, Nat.le_of_ble_eq_true rfl, Nat.le_of_ble_eq_true rfl, Nat.le_of_ble_eq_true rfl, rfl⟩ (s_86 kc r2 m3 _ h) ?_
            rintro _ m9 ⟨r8, rfl, h⟩
            refine it_V.at (pc1 := 56) (ls1 := [some (.ref 9), some (.ref v1), some (.int v2), some (.int v3), some (.int r2), none]) (st1 := [(.int r8), (.int v2)]) (mem1 := m9) rfl rfl rfl rfl ?_
            refine it_V.sN it_cd100 it_m100 7 (pc1 := 66) (ls1 := [some (.ref 9), some (.ref v1), some (.int v2), some (.int v3), some (.int r2), some (.int (v2 + r8))]) (st1 := [(.int (v2 + (4 : Int32))), (.ref 1)]) (mem1 := m9) rfl ?_
            refine it_V.call it_cd100 it_m100 rfl it_m12 [(.ref 1), (.int (v2 + (4 : Int32)))] [] rfl rfl ⟨Nat.le_of_ble_eq_true rfl, Nat.le_of_ble_eq_true rfl, Nat.le_of_ble_eq_true rfl, Nat.le_of_ble_eq_true rfl, rfl⟩ (s_12 kc (v2 + (4 : Int32)) m9 _ h) ?_
            rintro _ m11 ⟨r10, rfl, h⟩
            refine it_V.at (pc1 := 69) (ls1 := [some (.ref 9), some (.ref v1), some (.int v2), some (.int v3), some (.int r2), some (.int (v2 + r8))]) (st1 := [(.int r10)]) (mem1 := m11) rfl rfl rfl rfl ?_
            refine it_V.sN it_cd100 it_m100 2 (pc1 := 72) (ls1 := [some (.ref 9), some (.ref v1), some (.int v2), some (.int v3), some (.int r2), some (.int (v2 + r8))]) (st1 := [(.ref v1), (.int (v2 + r8)), (.int r10)]) (mem1 := m11) rfl ?_
            refine it_V.call it_cd100 it_m100 rfl it_m129 [(.ref v1)] [(.int (v2 + r8)), (.int r10)] rfl rfl ⟨Nat.le_of_ble_eq_true rfl, Nat.le_of_ble_eq_true rfl, Nat.le_of_ble_eq_true rfl, Nat.le_of_ble_eq_true rfl, (it_recvP (hv1).1)⟩ (s_129 kc v1 (hv1) m11 _ h) ?_
            rintro _ m13 ⟨r12, rfl, h⟩
            refine it_V.at (pc1 := 75) (ls1 := [some (.ref 9), some (.ref v1), some (.int v2), some (.int v3), some (.int r2), some (.int (v2 + r8))]) (st1 := [(.int r12), (.int (v2 + r8)), (.int r10)]) (mem1 := m13) rfl rfl rfl rfl ?_
            refine it_V.sN it_cd100 it_m100 1 (pc1 := (if (v2 + r8) = r12 then 78 else 82)) (ls1 := [some (.ref 9), some (.ref v1), some (.int v2), some (.int v3), some (.int r2), some (.int (v2 + r8))]) (st1 := [(.int r10)]) (mem1 := m13) rfl ?_
            refine it_V.ite (fun c14 => ?_) (fun c14 => ?_)
            · have h := h.1 c14
              refine it_V.sN it_cd100 it_m100 2 (pc1 := 84) (ls1 := [some (.ref 9), some (.ref v1), some (.int v2), some (.int v3), some (.int r2), some (.int (v2 + r8))]) (st1 := [(.int (0 : Int32)), (.int r10)]) (mem1 := m13) rfl ?_
              refine it_V.weak (l := [some (.ref 9), some (.ref v1), none, some (.int v3), none, some (.int (v2 + r8))]) ⟨rfl, ⟨rfl, ⟨rfl, ⟨rfl, trivial⟩⟩⟩⟩ ?_
              exact s_100_84 kc Φ _ _ _ _ ih hK48 hK87 hK98 v1 v3 (v2 + r8) r10 (0 : Int32) (hv1) m13 h
            · have h := h.2 c14
              refine it_V.sN it_cd100 it_m100 1 (pc1 := 84) (ls1 := [some (.ref 9), some (.ref v1), some (.int v2), some (.int v3), some (.int r2), some (.int (v2 + r8))]) (st1 := [(.int (v2 + r8)), (.int r10)]) (mem1 := m13) rfl ?_
              refine it_V.weak (l := [some (.ref 9), some (.ref v1), none, some (.int v3), none, some (.int (v2 + r8))]) ⟨rfl, ⟨rfl, ⟨rfl, ⟨rfl, trivial⟩⟩⟩⟩ ?_
              exact s_100_84 kc Φ _ _ _ _ ih hK48 hK87 hK98 v1 v3 (v2 + r8) r10 (v2 + r8) (hv1) m13 h
          · have h := h.2 c7
            refine it_V.weak (l := [none, none, none, none, none, none]) trivial ?_
            exact hK48 m3 h
set_option maxRecDepth 100000 in
set_option maxHeartbeats 4000000 in
theorem s_100_48 (kc : it_Kc) (Φ : Int32 → it_Me → Prop) (m : it_Me) (h : w_100_48 kc Φ m) : it_V kc it_sh0 100 48 [none, none, none, none, none, none] [] m (it_Pi Φ) := by
  rw [w_100_48] at h
  refine it_V.sN it_cd100 it_m100 1 (pc1 := 49) (ls1 := [none, none, none, none, none, none]) (st1 := [(.int (0 : Int32))]) (mem1 := m) rfl ?_
  exact it_V.ret it_cd100 it_m100 rfl rfl ⟨_, rfl, h⟩
set_option maxRecDepth 100000 in
set_option maxHeartbeats 4000000 in
theorem s_100_87 (kc : it_Kc) (Φ : Int32 → it_Me → Prop) (m : it_Me) (h : w_100_87 kc Φ m) : it_V kc it_sh0 100 87 [none, none, none, none, none, none] [] m (it_Pi Φ) := by
  rw [w_100_87] at h
  refine it_V.sN it_cd100 it_m100 1 (pc1 := 88) (ls1 := [none, none, none, none, none, none]) (st1 := [(.int (0 : Int32))]) (mem1 := m) rfl ?_
  exact it_V.ret it_cd100 it_m100 rfl rfl ⟨_, rfl, h⟩
set_option maxRecDepth 100000 in
set_option maxHeartbeats 4000000 in
theorem s_100_111 (kc : it_Kc) (Φ : Int32 → it_Me → Prop) (u0 : Int32) (m : it_Me) (h : w_100_111 kc Φ u0 m) : it_V kc it_sh0 100 111 [none, none, none, none, none, none] [(.int u0)] m (it_Pi Φ) := by
  rw [w_100_111] at h
  exact it_V.retZ it_cd100 it_m100 rfl rfl h.1 ⟨_, rfl, h.2⟩
set_option maxRecDepth 100000 in
set_option maxHeartbeats 4000000 in
theorem s_100_98 (kc : it_Kc) (Φ : Int32 → it_Me → Prop) (v1 : Nat) (v2 : Int32) (hv1 : it_isP v1) (m : it_Me) (h : w_100_98 kc Φ v1 v2 m) : it_V kc it_sh0 100 98 [none, some (.ref v1), some (.int v2), none, none, none] [] m (it_Pi Φ) := by
  rw [w_100_98] at h
  refine it_V.sN it_cd100 it_m100 2 (pc1 := 100) (ls1 := [none, some (.ref v1), some (.int v2), none, none, none]) (st1 := [(.ref v1), (.int v2)]) (mem1 := m) rfl ?_
  refine it_V.call it_cd100 it_m100 rfl it_m129 [(.ref v1)] [(.int v2)] rfl rfl ⟨Nat.le_of_ble_eq_true rfl, Nat.le_of_ble_eq_true rfl, Nat.le_of_ble_eq_true rfl, Nat.le_of_ble_eq_true rfl, (it_recvP (hv1).1)⟩ (s_129 kc v1 (hv1) m _ h) ?_
  rintro _ m2 ⟨r1, rfl, h⟩
  refine it_V.at (pc1 := 103) (ls1 := [none, some (.ref v1), some (.int v2), none, none, none]) (st1 := [(.int r1), (.int v2)]) (mem1 := m2) rfl rfl rfl rfl ?_
  refine it_V.sN it_cd100 it_m100 1 (pc1 := (if v2 = r1 then 106 else 110)) (ls1 := [none, some (.ref v1), some (.int v2), none, none, none]) (st1 := []) (mem1 := m2) rfl ?_
  refine it_V.ite (fun c3 => ?_) (fun c3 => ?_)
  · have h := h.1 c3
    refine it_V.sN it_cd100 it_m100 2 (pc1 := 111) (ls1 := [none, some (.ref v1), some (.int v2), none, none, none]) (st1 := [(.int (1 : Int32))]) (mem1 := m2) rfl ?_
    refine it_V.weak (l := [none, none, none, none, none, none]) trivial ?_
    exact s_100_111 kc Φ (1 : Int32) m2 h
  · have h := h.2 c3
    refine it_V.sN it_cd100 it_m100 1 (pc1 := 111) (ls1 := [none, some (.ref v1), some (.int v2), none, none, none]) (st1 := [(.int (0 : Int32))]) (mem1 := m2) rfl ?_
    refine it_V.weak (l := [none, none, none, none, none, none]) trivial ?_
    exact s_100_111 kc Φ (0 : Int32) m2 h
set_option maxRecDepth 100000 in
set_option maxHeartbeats 4000000 in
theorem s_100 (kc : it_Kc) (x0 : Nat) (hx0 : it_isP x0) (m : it_Me) (Φ : Int32 → it_Me → Prop) (h : w_100 kc x0 m Φ) : it_V kc it_sh0 100 0 (it_loc0 [(.ref 9), (.ref x0)] 6) [] m (it_Pi Φ) := by
  rw [w_100] at h
  refine it_V.at (pc1 := 0) (ls1 := [some (.ref 9), some (.ref x0), none, none, none, none]) (st1 := []) (mem1 := m) rfl rfl rfl rfl ?_
  refine it_V.sN it_cd100 it_m100 1 (pc1 := 1) (ls1 := [some (.ref 9), some (.ref x0), none, none, none, none]) (st1 := [(.ref x0)]) (mem1 := m) rfl ?_
  refine it_V.getP it_cd100 it_m100 rfl (hx0).1 rfl ?_
  refine it_V.at (pc1 := 4) (ls1 := [some (.ref 9), some (.ref x0), none, none, none, none]) (st1 := [(.int (m x0 8))]) (mem1 := m) rfl rfl rfl rfl ?_
  refine it_V.sN it_cd100 it_m100 3 (pc1 := 7) (ls1 := [some (.ref 9), some (.ref x0), some (.int (m x0 8)), some (.int (0 : Int32)), none, none]) (st1 := []) (mem1 := m) rfl ?_
  obtain ⟨n, h⟩ := h
  exact s_100_7 kc Φ _ _ _ (fun m h => s_100_48 kc Φ m h) (fun m h => s_100_87 kc Φ m h) (fun v1 v2 hv1 m h => s_100_98 kc Φ v1 v2 hv1 m h) n x0 (m x0 8) (0 : Int32) (hx0) m h
set_option maxRecDepth 100000 in
set_option maxHeartbeats 4000000 in
theorem s_102_20 (kc : it_Kc) (Φ : Int32 → it_Me → Prop) (m : it_Me) (h : w_102_20 kc Φ m) : it_V kc it_sh0 102 20 [none, none, none, none, none] [] m (it_Pi Φ) := by
  rw [w_102_20] at h
  refine it_V.sN it_cd102 it_m102 1 (pc1 := 21) (ls1 := [none, none, none, none, none]) (st1 := [(.int (1 : Int32))]) (mem1 := m) rfl ?_
  exact it_V.ret it_cd102 it_m102 rfl rfl ⟨_, rfl, h⟩
set_option maxRecDepth 100000 in
set_option maxHeartbeats 4000000 in
theorem s_102_62 (kc : it_Kc) (Φ : Int32 → it_Me → Prop) (u0 : Int32) (m : it_Me) (h : w_102_62 kc Φ u0 m) : it_V kc it_sh0 102 62 [none, none, none, none, none] [(.int u0)] m (it_Pi Φ) := by
  rw [w_102_62] at h
  exact it_V.retZ it_cd102 it_m102 rfl rfl h.1 ⟨_, rfl, h.2⟩
set_option maxRecDepth 100000 in
set_option maxHeartbeats 4000000 in
theorem s_102_61 (kc : it_Kc) (Φ : Int32 → it_Me → Prop) (m : it_Me) (h : w_102_61 kc Φ m) : it_V kc it_sh0 102 61 [none, none, none, none, none] [] m (it_Pi Φ) := by
  rw [w_102_61] at h
  refine it_V.sN it_cd102 it_m102 1 (pc1 := 62) (ls1 := [none, none, none, none, none]) (st1 := [(.int (0 : Int32))]) (mem1 := m) rfl ?_
  refine it_V.weak (l := [none, none, none, none, none]) trivial ?_
  exact s_102_62 kc Φ (0 : Int32) m h
set_option maxRecDepth 100000 in
set_option maxHeartbeats 4000000 in
theorem s_102 (kc : it_Kc) (x0 : Nat) (x1 : Int32) (x2 : Int32) (x3 : Int32) (hx0 : it_isP x0) (m : it_Me) (Φ : Int32 → it_Me → Prop) (h : w_102 kc x0 x1 x2 x3 m Φ) : it_V kc it_sh0 102 0 (it_loc0 [(.ref 9), (.ref x0), (.int x1), (.int x2), (.int x3)] 5) [] m (it_Pi Φ) := by
  rw [w_102] at h
  refine it_V.at (pc1 := 0) (ls1 := [some (.ref 9), some (.ref x0), some (.int x1), some (.int x2), some (.int x3)]) (st1 := []) (mem1 := m) rfl rfl rfl rfl ?_
  refine it_V.sN it_cd102 it_m102 2 (pc1 := (if x2 = 0 then 20 else 4)) (ls1 := [some (.ref 9), some (.ref x0), some (.int x1), some (.int x2), some (.int x3)]) (st1 := []) (mem1 := m) rfl ?_
  refine it_V.ite (fun c1 => ?_) (fun c1 => ?_)
  · have h := h.1 c1
    refine it_V.weak (l := [none, none, none, none, none]) trivial ?_
    exact s_102_20 kc Φ m h
  · have h := h.2 c1
    refine it_V.sN it_cd102 it_m102 3 (pc1 := 7) (ls1 := [some (.ref 9), some (.ref x0), some (.int x1), some (.int x2), some (.int x3)]) (st1 := [(.ref x0), (.int x2), (.int x1)]) (mem1 := m) rfl ?_
    refine it_V.getP it_cd102 it_m102 rfl (hx0).1 rfl ?_
    refine it_V.at (pc1 := 10) (ls1 := [some (.ref 9), some (.ref x0), some (.int x1), some (.int x2), some (.int x3)]) (st1 := [(.int (m x0 5)), (.int x2), (.int x1)]) (mem1 := m) rfl rfl rfl rfl ?_
    refine it_V.sN it_cd102 it_m102 1 (pc1 := 11) (ls1 := [some (.ref 9), some (.ref x0), some (.int x1), some (.int x2), some (.int x3)]) (st1 := [(.ref x0), (.int (m x0 5)), (.int x2), (.int x1)]) (mem1 := m) rfl ?_
    refine it_V.getP it_cd102 it_m102 rfl (hx0).1 rfl ?_
    refine it_V.at (pc1 := 14) (ls1 := [some (.ref 9), some (.ref x0), some (.int x1), some (.int x2), some (.int x3)]) (st1 := [(.int (m x0 7)), (.int (m x0 5)), (.int x2), (.int x1)]) (mem1 := m) rfl rfl rfl rfl ?_
    refine it_V.call it_cd102 it_m102 rfl it_m215 [(.int x1), (.int x2), (.int (m x0 5)), (.int (m x0 7))] [] rfl rfl ⟨Nat.le_of_ble_eq_true rfl, Nat.le_of_ble_eq_true rfl, Nat.le_of_ble_eq_true rfl, Nat.le_of_ble_eq_true rfl, rfl⟩ (s_215 kc x1 x2 (m x0 5) (m x0 7) m _ h) ?_
    rintro _ m3 ⟨r2, rfl, h⟩
    refine it_V.at (pc1 := 17) (ls1 := [some (.ref 9), some (.ref x0), some (.int x1), some (.int x2), some (.int x3)]) (st1 := [(.int r2)]) (mem1 := m3) rfl rfl rfl rfl ?_
    refine it_V.sN it_cd102 it_m102 1 (pc1 := (if r2 = 0 then 22 else 20)) (ls1 := [some (.ref 9), some (.ref x0), some (.int x1), some (.int x2), some (.int x3)]) (st1 := []) (mem1 := m3) rfl ?_
    refine it_V.ite (fun c4 => ?_) (fun c4 => ?_)
    · have h := h.1 c4
      refine it_V.sN it_cd102 it_m102 2 (pc1 := (if x3 = 0 then 27 else 61)) (ls1 := [some (.ref 9), some (.ref x0), some (.int x1), some (.int x2), some (.int x3)]) (st1 := []) (mem1 := m3) rfl ?_
      refine it_V.ite (fun c5 => ?_) (fun c5 => ?_)
      · have h := h.1 c5
        refine it_V.sN it_cd102 it_m102 3 (pc1 := 30) (ls1 := [some (.ref 9), some (.ref x0), some (.int x1), some (.int x2), some (.int x3)]) (st1 := [(.ref x0), (.int x2), (.int x1)]) (mem1 := m3) rfl ?_
        refine it_V.getP it_cd102 it_m102 rfl (hx0).1 rfl ?_
        refine it_V.at (pc1 := 33) (ls1 := [some (.ref 9), some (.ref x0), some (.int x1), some (.int x2), some (.int x3)]) (st1 := [(.ref (x0 + 1)), (.int x2), (.int x1)]) (mem1 := m3) rfl rfl rfl rfl ?_
        refine it_V.getP it_cd102 it_m102 rfl (hx0).2.1 rfl ?_
        refine it_V.at (pc1 := 36) (ls1 := [some (.ref 9), some (.ref x0), some (.int x1), some (.int x2), some (.int x3)]) (st1 := [(.int (m3 (x0 + 1) 1)), (.int x2), (.int x1)]) (mem1 := m3) rfl rfl rfl rfl ?_
        refine it_V.sN it_cd102 it_m102 1 (pc1 := 37) (ls1 := [some (.ref 9), some (.ref x0), some (.int x1), some (.int x2), some (.int x3)]) (st1 := [(.ref x0), (.int (m3 (x0 + 1) 1)), (.int x2), (.int x1)]) (mem1 := m3) rfl ?_
        refine it_V.getP it_cd102 it_m102 rfl (hx0).1 rfl ?_
        refine it_V.at (pc1 := 40) (ls1 := [some (.ref 9), some (.ref x0), some (.int x1), some (.int x2), some (.int x3)]) (st1 := [(.ref (x0 + 1)), (.int (m3 (x0 + 1) 1)), (.int x2), (.int x1)]) (mem1 := m3) rfl rfl rfl rfl ?_
        refine it_V.getP it_cd102 it_m102 rfl (hx0).2.1 rfl ?_
        refine it_V.at (pc1 := 43) (ls1 := [some (.ref 9), some (.ref x0), some (.int x1), some (.int x2), some (.int x3)]) (st1 := [(.int (m3 (x0 + 1) 1)), (.int (m3 (x0 + 1) 1)), (.int x2), (.int x1)]) (mem1 := m3) rfl rfl rfl rfl ?_
        refine it_V.sN it_cd102 it_m102 1 (pc1 := 44) (ls1 := [some (.ref 9), some (.ref x0), some (.int x1), some (.int x2), some (.int x3)]) (st1 := [(.ref x0), (.int (m3 (x0 + 1) 1)), (.int (m3 (x0 + 1) 1)), (.int x2), (.int x1)]) (mem1 := m3) rfl ?_
        refine it_V.getP it_cd102 it_m102 rfl (hx0).1 rfl ?_
        refine it_V.at (pc1 := 47) (ls1 := [some (.ref 9), some (.ref x0), some (.int x1), some (.int x2), some (.int x3)]) (st1 := [(.ref (x0 + 1)), (.int (m3 (x0 + 1) 1)), (.int (m3 (x0 + 1) 1)), (.int x2), (.int x1)]) (mem1 := m3) rfl rfl rfl rfl ?_
        refine it_V.getP it_cd102 it_m102 rfl (hx0).2.1 rfl ?_
        refine it_V.at (pc1 := 50) (ls1 := [some (.ref 9), some (.ref x0), some (.int x1), some (.int x2), some (.int x3)]) (st1 := [(.int (m3 (x0 + 1) 3)), (.int (m3 (x0 + 1) 1)), (.int (m3 (x0 + 1) 1)), (.int x2), (.int x1)]) (mem1 := m3) rfl rfl rfl rfl ?_
        refine it_V.sN it_cd102 it_m102 1 (pc1 := 51) (ls1 := [some (.ref 9), some (.ref x0), some (.int x1), some (.int x2), some (.int x3)]) (st1 := [(.int ((m3 (x0 + 1) 1) + (m3 (x0 + 1) 3))), (.int (m3 (x0 + 1) 1)), (.int x2), (.int x1)]) (mem1 := m3) rfl ?_
        refine it_V.call it_cd102 it_m102 rfl it_m215 [(.int x1), (.int x2), (.int (m3 (x0 + 1) 1)), (.int ((m3 (x0 + 1) 1) + (m3 (x0 + 1) 3)))] [] rfl rfl ⟨Nat.le_of_ble_eq_true rfl, Nat.le_of_ble_eq_true rfl, Nat.le_of_ble_eq_true rfl, Nat.le_of_ble_eq_true rfl, rfl⟩ (s_215 kc x1 x2 (m3 (x0 + 1) 1) ((m3 (x0 + 1) 1) + (m3 (x0 + 1) 3)) m3 _ h) ?_
        rintro _ m7 ⟨r6, rfl, h⟩
        refine it_V.at (pc1 := 54) (ls1 := [some (.ref 9), some (.ref x0), some (.int x1), some (.int x2), some (.int x3)]) (st1 := [(.int r6)]) (mem1 := m7) rfl rfl rfl rfl ?_
        refine it_V.sN it_cd102 it_m102 1 (pc1 := (if r6 = 0 then 61 else 57)) (ls1 := [some (.ref 9), some (.ref x0), some (.int x1), some (.int x2), some (.int x3)]) (st1 := []) (mem1 := m7) rfl ?_
        refine it_V.ite (fun c8 => ?_) (fun c8 => ?_)
        · have h := h.1 c8
          refine it_V.weak (l := [none, none, none, none, none]) trivial ?_
          exact s_102_61 kc Φ m7 h
        · have h := h.2 c8
          refine it_V.sN it_cd102 it_m102 2 (pc1 := 62) (ls1 := [some (.ref 9), some (.ref x0), some (.int x1), some (.int x2), some (.int x3)]) (st1 := [(.int (1 : Int32))]) (mem1 := m7) rfl ?_
          refine it_V.weak (l := [none, none, none, none, none]) trivial ?_
          exact s_102_62 kc Φ (1 : Int32) m7 h
      · have h := h.2 c5
        refine it_V.weak (l := [none, none, none, none, none]) trivial ?_
        exact s_102_61 kc Φ m3 h
    · have h := h.2 c4
      refine it_V.weak (l := [none, none, none, none, none]) trivial ?_
      exact s_102_20 kc Φ m3 h
set_option maxRecDepth 100000 in
set_option maxHeartbeats 4000000 in
theorem s_101_54 (kc : it_Kc) (Φ : Int32 → it_Me → Prop) (K23 : Nat → Int32 → Int32 → Int32 → it_Me → Prop) (K86 : it_Me → Prop) (K94 : Nat → Int32 → it_Me → Prop) (hK23 : ∀ (v1 : Nat) (v2 : Int32) (v3 : Int32) (v4 : Int32) (_ : it_isP v1) (m : it_Me), K23 v1 v2 v3 v4 m → it_V kc it_sh0 101 23 [some (.ref 9), some (.ref v1), some (.int v2), some (.int v3), some (.int v4), none, none] [] m (it_Pi Φ)) (hK86 : ∀ (m : it_Me), K86 m → it_V kc it_sh0 101 86 [none, none, none, none, none, none, none] [] m (it_Pi Φ)) (hK94 : ∀ (v1 : Nat) (v2 : Int32) (_ : it_isP v1) (m : it_Me), K94 v1 v2 m → it_V kc it_sh0 101 94 [some (.ref 9), some (.ref v1), some (.int v2), none, none, none, none] [] m (it_Pi Φ)) (v1 : Nat) (v2 : Int32) (v3 : Int32) (v4 : Int32) (v5 : Int32) (u0 : Int32) (hv1 : it_isP v1) (m : it_Me) (h : w_101_54 kc Φ K23 K86 K94 v1 v2 v3 v4 v5 u0 m) : it_V kc it_sh0 101 54 [some (.ref 9), some (.ref v1), some (.int v2), some (.int v3), some (.int v4), some (.int v5), none] [(.int u0)] m (it_Pi Φ) := by
  rw [w_101_54] at h
  refine it_V.sN it_cd101 it_m101 6 (pc1 := 64) (ls1 := [some (.ref 9), some (.ref v1), some (.int v2), some (.int v3), some (.int v4), some (.int v5), some (.int u0)]) (st1 := [(.int v5), (.ref 1), (.ref v1), (.ref 9)]) (mem1 := m) rfl ?_
  refine it_V.call it_cd101 it_m101 rfl it_m12 [(.ref 1), (.int v5)] [(.ref v1), (.ref 9)] rfl rfl ⟨Nat.le_of_ble_eq_true rfl, Nat.le_of_ble_eq_true rfl, Nat.le_of_ble_eq_true rfl, Nat.le_of_ble_eq_true rfl, rfl⟩ (s_12 kc v5 m _ h) ?_
  rintro _ m2 ⟨r1, rfl, h⟩
  refine it_V.at (pc1 := 67) (ls1 := [some (.ref 9), some (.ref v1), some (.int v2), some (.int v3), some (.int v4), some (.int v5), some (.int u0)]) (st1 := [(.int r1), (.ref v1), (.ref 9)]) (mem1 := m2) rfl rfl rfl rfl ?_
  refine it_V.sN it_cd101 it_m101 5 (pc1 := 75) (ls1 := [some (.ref 9), some (.ref v1), some (.int v2), some (.int v3), some (.int v4), some (.int v5), some (.int u0)]) (st1 := [(.int (v5 + (4 : Int32))), (.ref 1), (.int r1), (.ref v1), (.ref 9)]) (mem1 := m2) rfl ?_
  refine it_V.call it_cd101 it_m101 rfl it_m12 [(.ref 1), (.int (v5 + (4 : Int32)))] [(.int r1), (.ref v1), (.ref 9)] rfl rfl ⟨Nat.le_of_ble_eq_true rfl, Nat.le_of_ble_eq_true rfl, Nat.le_of_ble_eq_true rfl, Nat.le_of_ble_eq_true rfl, rfl⟩ (s_12 kc (v5 + (4 : Int32)) m2 _ h) ?_
  rintro _ m4 ⟨r3, rfl, h⟩
  refine it_V.at (pc1 := 78) (ls1 := [some (.ref 9), some (.ref v1), some (.int v2), some (.int v3), some (.int v4), some (.int v5), some (.int u0)]) (st1 := [(.int r3), (.int r1), (.ref v1), (.ref 9)]) (mem1 := m4) rfl rfl rfl rfl ?_
  refine it_V.sN it_cd101 it_m101 1 (pc1 := 80) (ls1 := [some (.ref 9), some (.ref v1), some (.int v2), some (.int v3), some (.int v4), some (.int v5), some (.int u0)]) (st1 := [(.int u0), (.int r3), (.int r1), (.ref v1), (.ref 9)]) (mem1 := m4) rfl ?_
  refine it_V.call it_cd101 it_m101 rfl it_m102 [(.ref 9), (.ref v1), (.int r1), (.int r3), (.int u0)] [] rfl rfl ⟨Nat.le_of_ble_eq_true rfl, Nat.le_of_ble_eq_true rfl, Nat.le_of_ble_eq_true rfl, Nat.le_of_ble_eq_true rfl, rfl⟩ (s_102 kc v1 r1 r3 u0 (hv1) m4 _ h) ?_
  rintro _ m6 ⟨r5, rfl, h⟩
  refine it_V.at (pc1 := 83) (ls1 := [some (.ref 9), some (.ref v1), some (.int v2), some (.int v3), some (.int v4), some (.int v5), some (.int u0)]) (st1 := [(.int r5)]) (mem1 := m6) rfl rfl rfl rfl ?_
  refine it_V.sN it_cd101 it_m101 1 (pc1 := (if r5 = 0 then 86 else 88)) (ls1 := [some (.ref 9), some (.ref v1), some (.int v2), some (.int v3), some (.int v4), some (.int v5), some (.int u0)]) (st1 := []) (mem1 := m6) rfl ?_
  refine it_V.ite (fun c7 => ?_) (fun c7 => ?_)
  · have h := h.1 c7
    refine it_V.weak (l := [none, none, none, none, none, none, none]) trivial ?_
    exact hK86 m6 h
  · have h := h.2 c7
    refine it_V.sN it_cd101 it_m101 2 (pc1 := 23) (ls1 := [some (.ref 9), some (.ref v1), some (.int v2), some (.int v3), some (.int (v4 + (1 : Int32))), some (.int v5), some (.int u0)]) (st1 := []) (mem1 := m6) rfl ?_
    refine it_V.weak (l := [some (.ref 9), some (.ref v1), some (.int v2), some (.int v3), some (.int (v4 + (1 : Int32))), none, none]) ⟨rfl, ⟨rfl, ⟨rfl, ⟨rfl, ⟨rfl, trivial⟩⟩⟩⟩⟩ ?_
    exact hK23 v1 v2 v3 (v4 + (1 : Int32)) (hv1) m6 h
set_option maxRecDepth 100000 in
set_option maxHeartbeats 4000000 in
theorem s_101_23 (kc : it_Kc) (Φ : Int32 → it_Me → Prop) (K86 : it_Me → Prop) (K94 : Nat → Int32 → it_Me → Prop) (hK86 : ∀ (m : it_Me), K86 m → it_V kc it_sh0 101 86 [none, none, none, none, none, none, none] [] m (it_Pi Φ)) (hK94 : ∀ (v1 : Nat) (v2 : Int32) (_ : it_isP v1) (m : it_Me), K94 v1 v2 m → it_V kc it_sh0 101 94 [some (.ref 9), some (.ref v1), some (.int v2), none, none, none, none] [] m (it_Pi Φ)) : ∀ (n : Nat) (v1 : Nat) (v2 : Int32) (v3 : Int32) (v4 : Int32) (hv1 : it_isP v1) (m : it_Me) (h : w_101_23 kc Φ K86 K94 n v1 v2 v3 v4 m), it_V kc it_sh0 101 23 [some (.ref 9), some (.ref v1), some (.int v2), some (.int v3), some (.int v4), none, none] [] m (it_Pi Φ) := by
  intro n
  induction n with
  | zero => intro v1 v2 v3 v4 hv1 m h; exact absurd h id
  | succ n ih =>
    intro v1 v2 v3 v4 hv1 m h
    rw [w_101_23] at h
    refine it_V.sN it_cd101 it_m101 3 (pc1 := (if v3 ≤ v4 then 94 else 29)) (ls1 := [some (.ref 9), some (.ref v1), some (.int v2), some (.int v3), some (.int v4), none, none]) (st1 := []) (mem1 := m) rfl ?_
    refine it_V.ite (fun c1 => ?_) (fun c1 => ?_)
    · have h := h.1 c1
      refine it_V.weak (l := [some (.ref 9), some (.ref v1), some (.int v2), none, none, none, none]) ⟨rfl, ⟨rfl, ⟨rfl, trivial⟩⟩⟩ ?_
      exact hK94 v1 v2 (hv1) m h
    · have h := h.2 c1
      refine it_V.sN it_cd101 it_m101 4 (pc1 := 34) (ls1 := [some (.ref 9), some (.ref v1), some (.int v2), some (.int v3), some (.int v4), none, none]) (st1 := [(.int v4), (.int v2), (.ref v1), (.ref 9)]) (mem1 := m) rfl ?_
      refine it_V.call it_cd101 it_m101 rfl it_m88 [(.ref 9), (.ref v1), (.int v2), (.int v4)] [] rfl rfl ⟨Nat.le_of_ble_eq_true rfl, Nat.le_of_ble_eq_true rfl, Nat.le_of_ble_eq_true rfl, Nat.le_of_ble_eq_true rfl, rfl⟩ (s_88 kc v1 v2 v4 (hv1) m _ h) ?_
      rintro _ m3 ⟨r2, rfl, h⟩
      refine it_V.at (pc1 := 37) (ls1 := [some (.ref 9), some (.ref v1), some (.int v2), some (.int v3), some (.int v4), none, none]) (st1 := [(.int r2)]) (mem1 := m3) rfl rfl rfl rfl ?_
      refine it_V.sN it_cd101 it_m101 4 (pc1 := 45) (ls1 := [some (.ref 9), some (.ref v1), some (.int v2), some (.int v3), some (.int v4), some (.int r2), none]) (st1 := [(.int v2), (.ref (it_K + 3)), (.int v4)]) (mem1 := m3) rfl ?_
      obtain ⟨g4, h⟩ := h
      refine it_V.kald it_cd101 it_m101 rfl (by decide) g4 ?_
      refine it_V.at (pc1 := 46) (ls1 := [some (.ref 9), some (.ref v1), some (.int v2), some (.int v3), some (.int v4), some (.int r2), none]) (st1 := [(.int ((kc 3).2 (Int32.toNatClampNeg v2))), (.int v4)]) (mem1 := m3) rfl rfl rfl rfl ?_
      refine it_V.sN it_cd101 it_m101 1 (pc1 := (if v4 < ((kc 3).2 (Int32.toNatClampNeg v2)) then 53 else 49)) (ls1 := [some (.ref 9), some (.ref v1), some (.int v2), some (.int v3), some (.int v4), some (.int r2), none]) (st1 := []) (mem1 := m3) rfl ?_
      refine it_V.ite (fun c5 => ?_) (fun c5 => ?_)
      · have h := h.1 c5
        refine it_V.sN it_cd101 it_m101 1 (pc1 := 54) (ls1 := [some (.ref 9), some (.ref v1), some (.int v2), some (.int v3), some (.int v4), some (.int r2), none]) (st1 := [(.int (0 : Int32))]) (mem1 := m3) rfl ?_
        refine it_V.weak (l := [some (.ref 9), some (.ref v1), some (.int v2), some (.int v3), some (.int v4), some (.int r2), none]) ⟨rfl, ⟨rfl, ⟨rfl, ⟨rfl, ⟨rfl, ⟨rfl, trivial⟩⟩⟩⟩⟩⟩ ?_
        exact s_101_54 kc Φ _ _ _ ih hK86 hK94 v1 v2 v3 v4 r2 (0 : Int32) (hv1) m3 h
      · have h := h.2 c5
        refine it_V.sN it_cd101 it_m101 2 (pc1 := 54) (ls1 := [some (.ref 9), some (.ref v1), some (.int v2), some (.int v3), some (.int v4), some (.int r2), none]) (st1 := [(.int (1 : Int32))]) (mem1 := m3) rfl ?_
        refine it_V.weak (l := [some (.ref 9), some (.ref v1), some (.int v2), some (.int v3), some (.int v4), some (.int r2), none]) ⟨rfl, ⟨rfl, ⟨rfl, ⟨rfl, ⟨rfl, ⟨rfl, trivial⟩⟩⟩⟩⟩⟩ ?_
        exact s_101_54 kc Φ _ _ _ ih hK86 hK94 v1 v2 v3 v4 r2 (1 : Int32) (hv1) m3 h
set_option maxRecDepth 100000 in
set_option maxHeartbeats 4000000 in
theorem s_101_94 (kc : it_Kc) (Φ : Int32 → it_Me → Prop) (K2 : Nat → Int32 → it_Me → Prop) (K86 : it_Me → Prop) (K100 : it_Me → Prop) (hK2 : ∀ (v1 : Nat) (v2 : Int32) (_ : it_isP v1) (m : it_Me), K2 v1 v2 m → it_V kc it_sh0 101 2 [some (.ref 9), some (.ref v1), some (.int v2), none, none, none, none] [] m (it_Pi Φ)) (hK86 : ∀ (m : it_Me), K86 m → it_V kc it_sh0 101 86 [none, none, none, none, none, none, none] [] m (it_Pi Φ)) (hK100 : ∀ (m : it_Me), K100 m → it_V kc it_sh0 101 100 [none, none, none, none, none, none, none] [] m (it_Pi Φ)) (v1 : Nat) (v2 : Int32) (hv1 : it_isP v1) (m : it_Me) (h : w_101_94 kc Φ K2 K86 K100 v1 v2 m) : it_V kc it_sh0 101 94 [some (.ref 9), some (.ref v1), some (.int v2), none, none, none, none] [] m (it_Pi Φ) := by
  rw [w_101_94] at h
  refine it_V.sN it_cd101 it_m101 2 (pc1 := 2) (ls1 := [some (.ref 9), some (.ref v1), some (.int (v2 + (1 : Int32))), none, none, none, none]) (st1 := []) (mem1 := m) rfl ?_
  refine it_V.weak (l := [some (.ref 9), some (.ref v1), some (.int (v2 + (1 : Int32))), none, none, none, none]) ⟨rfl, ⟨rfl, ⟨rfl, trivial⟩⟩⟩ ?_
  exact hK2 v1 (v2 + (1 : Int32)) (hv1) m h
set_option maxRecDepth 100000 in
set_option maxHeartbeats 4000000 in
theorem s_101_2 (kc : it_Kc) (Φ : Int32 → it_Me → Prop) (K86 : it_Me → Prop) (K100 : it_Me → Prop) (hK86 : ∀ (m : it_Me), K86 m → it_V kc it_sh0 101 86 [none, none, none, none, none, none, none] [] m (it_Pi Φ)) (hK100 : ∀ (m : it_Me), K100 m → it_V kc it_sh0 101 100 [none, none, none, none, none, none, none] [] m (it_Pi Φ)) : ∀ (n : Nat) (v1 : Nat) (v2 : Int32) (hv1 : it_isP v1) (m : it_Me) (h : w_101_2 kc Φ K86 K100 n v1 v2 m), it_V kc it_sh0 101 2 [some (.ref 9), some (.ref v1), some (.int v2), none, none, none, none] [] m (it_Pi Φ) := by
  intro n
  induction n with
  | zero => intro v1 v2 hv1 m h; exact absurd h id
  | succ n ih =>
    intro v1 v2 hv1 m h
    rw [w_101_2] at h
    refine it_V.sN it_cd101 it_m101 3 (pc1 := (if (9 : Int32) ≤ v2 then 100 else 8)) (ls1 := [some (.ref 9), some (.ref v1), some (.int v2), none, none, none, none]) (st1 := []) (mem1 := m) rfl ?_
    refine it_V.ite (fun c1 => ?_) (fun c1 => ?_)
    · have h := h.1 c1
      refine it_V.weak (l := [none, none, none, none, none, none, none]) trivial ?_
      exact hK100 m h
    · have h := h.2 c1
      refine it_V.sN it_cd101 it_m101 2 (pc1 := 12) (ls1 := [some (.ref 9), some (.ref v1), some (.int v2), none, none, none, none]) (st1 := [(.int v2), (.ref (it_K + 3))]) (mem1 := m) rfl ?_
      obtain ⟨g2, h⟩ := h
      refine it_V.kald it_cd101 it_m101 rfl (by decide) g2 ?_
      refine it_V.at (pc1 := 13) (ls1 := [some (.ref 9), some (.ref v1), some (.int v2), none, none, none, none]) (st1 := [(.int ((kc 3).2 (Int32.toNatClampNeg v2)))]) (mem1 := m) rfl rfl rfl rfl ?_
      refine it_V.sN it_cd101 it_m101 2 (pc1 := 17) (ls1 := [some (.ref 9), some (.ref v1), some (.int v2), none, none, none, none]) (st1 := [(.int v2), (.ref (it_K + 4)), (.int ((kc 3).2 (Int32.toNatClampNeg v2)))]) (mem1 := m) rfl ?_
      obtain ⟨g3, h⟩ := h
      refine it_V.kald it_cd101 it_m101 rfl (by decide) g3 ?_
      refine it_V.at (pc1 := 18) (ls1 := [some (.ref 9), some (.ref v1), some (.int v2), none, none, none, none]) (st1 := [(.int ((kc 4).2 (Int32.toNatClampNeg v2))), (.int ((kc 3).2 (Int32.toNatClampNeg v2)))]) (mem1 := m) rfl rfl rfl rfl ?_
      refine it_V.sN it_cd101 it_m101 4 (pc1 := 23) (ls1 := [some (.ref 9), some (.ref v1), some (.int v2), some (.int (((kc 3).2 (Int32.toNatClampNeg v2)) + ((kc 4).2 (Int32.toNatClampNeg v2)))), some (.int (0 : Int32)), none, none]) (st1 := []) (mem1 := m) rfl ?_
      refine it_V.weak (l := [some (.ref 9), some (.ref v1), some (.int v2), some (.int (((kc 3).2 (Int32.toNatClampNeg v2)) + ((kc 4).2 (Int32.toNatClampNeg v2)))), some (.int (0 : Int32)), none, none]) ⟨rfl, ⟨rfl, ⟨rfl, ⟨rfl, ⟨rfl, trivial⟩⟩⟩⟩⟩ ?_
      obtain ⟨n, h⟩ := h
      exact s_101_23 kc Φ _ _ hK86 (fun v1 v2 hv1 m h => s_101_94 kc Φ _ _ _ ih hK86 hK100 v1 v2 hv1 m h) n v1 v2 (((kc 3).2 (Int32.toNatClampNeg v2)) + ((kc 4).2 (Int32.toNatClampNeg v2))) (0 : Int32) (hv1) m h
set_option maxRecDepth 100000 in
set_option maxHeartbeats 4000000 in
theorem s_101_86 (kc : it_Kc) (Φ : Int32 → it_Me → Prop) (m : it_Me) (h : w_101_86 kc Φ m) : it_V kc it_sh0 101 86 [none, none, none, none, none, none, none] [] m (it_Pi Φ) := by
  rw [w_101_86] at h
  refine it_V.sN it_cd101 it_m101 1 (pc1 := 87) (ls1 := [none, none, none, none, none, none, none]) (st1 := [(.int (0 : Int32))]) (mem1 := m) rfl ?_
  exact it_V.ret it_cd101 it_m101 rfl rfl ⟨_, rfl, h⟩
set_option maxRecDepth 100000 in
set_option maxHeartbeats 4000000 in
theorem s_101_100 (kc : it_Kc) (Φ : Int32 → it_Me → Prop) (m : it_Me) (h : w_101_100 kc Φ m) : it_V kc it_sh0 101 100 [none, none, none, none, none, none, none] [] m (it_Pi Φ) := by
  rw [w_101_100] at h
  refine it_V.sN it_cd101 it_m101 1 (pc1 := 101) (ls1 := [none, none, none, none, none, none, none]) (st1 := [(.int (1 : Int32))]) (mem1 := m) rfl ?_
  exact it_V.ret it_cd101 it_m101 rfl rfl ⟨_, rfl, h⟩
set_option maxRecDepth 100000 in
set_option maxHeartbeats 4000000 in
theorem s_101 (kc : it_Kc) (x0 : Nat) (hx0 : it_isP x0) (m : it_Me) (Φ : Int32 → it_Me → Prop) (h : w_101 kc x0 m Φ) : it_V kc it_sh0 101 0 (it_loc0 [(.ref 9), (.ref x0)] 7) [] m (it_Pi Φ) := by
  rw [w_101] at h
  refine it_V.at (pc1 := 0) (ls1 := [some (.ref 9), some (.ref x0), none, none, none, none, none]) (st1 := []) (mem1 := m) rfl rfl rfl rfl ?_
  refine it_V.sN it_cd101 it_m101 2 (pc1 := 2) (ls1 := [some (.ref 9), some (.ref x0), some (.int (0 : Int32)), none, none, none, none]) (st1 := []) (mem1 := m) rfl ?_
  obtain ⟨n, h⟩ := h
  exact s_101_2 kc Φ _ _ (fun m h => s_101_86 kc Φ m h) (fun m h => s_101_100 kc Φ m h) n x0 (0 : Int32) (hx0) m h
set_option maxRecDepth 100000 in
set_option maxHeartbeats 4000000 in
theorem s_93_111 (kc : it_Kc) (Φ : Int32 → it_Me → Prop) (u0 : Int32) (u1 : Int32) (m : it_Me) (h : w_93_111 kc Φ u0 u1 m) : it_V kc it_sh0 93 111 [none, none, none, none] [(.int u1), (.int u0)] m (it_Pi Φ) := by
  rw [w_93_111] at h
  refine it_V.sN it_cd93 it_m93 3 (pc1 := 114) (ls1 := [none, none, none, some (.int (u0 + u1))]) (st1 := [(.int (u0 + u1))]) (mem1 := m) rfl ?_
  exact it_V.ret it_cd93 it_m93 rfl rfl ⟨_, rfl, h⟩
set_option maxRecDepth 100000 in
set_option maxHeartbeats 4000000 in
theorem s_93_95 (kc : it_Kc) (Φ : Int32 → it_Me → Prop) (v1 : Nat) (u0 : Int32) (u1 : Int32) (hv1 : it_isP v1) (m : it_Me) (h : w_93_95 kc Φ v1 u0 u1 m) : it_V kc it_sh0 93 95 [some (.ref 9), some (.ref v1), none, none] [(.int u1), (.int u0)] m (it_Pi Φ) := by
  rw [w_93_95] at h
  refine it_V.sN it_cd93 it_m93 5 (pc1 := 100) (ls1 := [some (.ref 9), some (.ref v1), none, some (.int (u0 + u1))]) (st1 := [(.ref v1), (.ref 9), (.int (u0 + u1))]) (mem1 := m) rfl ?_
  refine it_V.call it_cd93 it_m93 rfl it_m97 [(.ref 9), (.ref v1)] [(.int (u0 + u1))] rfl rfl ⟨Nat.le_of_ble_eq_true rfl, Nat.le_of_ble_eq_true rfl, Nat.le_of_ble_eq_true rfl, Nat.le_of_ble_eq_true rfl, rfl⟩ (s_97 kc v1 (hv1) m _ h) ?_
  rintro _ m2 ⟨r1, rfl, h⟩
  refine it_V.at (pc1 := 103) (ls1 := [some (.ref 9), some (.ref v1), none, some (.int (u0 + u1))]) (st1 := [(.int r1), (.int (u0 + u1))]) (mem1 := m2) rfl rfl rfl rfl ?_
  refine it_V.sN it_cd93 it_m93 1 (pc1 := (if r1 = 0 then 110 else 106)) (ls1 := [some (.ref 9), some (.ref v1), none, some (.int (u0 + u1))]) (st1 := [(.int (u0 + u1))]) (mem1 := m2) rfl ?_
  refine it_V.ite (fun c3 => ?_) (fun c3 => ?_)
  · have h := h.1 c3
    refine it_V.sN it_cd93 it_m93 1 (pc1 := 111) (ls1 := [some (.ref 9), some (.ref v1), none, some (.int (u0 + u1))]) (st1 := [(.int (1 : Int32)), (.int (u0 + u1))]) (mem1 := m2) rfl ?_
    refine it_V.weak (l := [none, none, none, none]) trivial ?_
    exact s_93_111 kc Φ (u0 + u1) (1 : Int32) m2 h
  · have h := h.2 c3
    refine it_V.sN it_cd93 it_m93 2 (pc1 := 111) (ls1 := [some (.ref 9), some (.ref v1), none, some (.int (u0 + u1))]) (st1 := [(.int (0 : Int32)), (.int (u0 + u1))]) (mem1 := m2) rfl ?_
    refine it_V.weak (l := [none, none, none, none]) trivial ?_
    exact s_93_111 kc Φ (u0 + u1) (0 : Int32) m2 h
set_option maxRecDepth 100000 in
set_option maxHeartbeats 4000000 in
theorem s_93_79 (kc : it_Kc) (Φ : Int32 → it_Me → Prop) (v1 : Nat) (u0 : Int32) (u1 : Int32) (hv1 : it_isP v1) (m : it_Me) (h : w_93_79 kc Φ v1 u0 u1 m) : it_V kc it_sh0 93 79 [some (.ref 9), some (.ref v1), none, none] [(.int u1), (.int u0)] m (it_Pi Φ) := by
  rw [w_93_79] at h
  refine it_V.sN it_cd93 it_m93 5 (pc1 := 84) (ls1 := [some (.ref 9), some (.ref v1), none, some (.int (u0 + u1))]) (st1 := [(.ref v1), (.ref 9), (.int (u0 + u1))]) (mem1 := m) rfl ?_
  refine it_V.call it_cd93 it_m93 rfl it_m101 [(.ref 9), (.ref v1)] [(.int (u0 + u1))] rfl rfl ⟨Nat.le_of_ble_eq_true rfl, Nat.le_of_ble_eq_true rfl, Nat.le_of_ble_eq_true rfl, Nat.le_of_ble_eq_true rfl, rfl⟩ (s_101 kc v1 (hv1) m _ h) ?_
  rintro _ m2 ⟨r1, rfl, h⟩
  refine it_V.at (pc1 := 87) (ls1 := [some (.ref 9), some (.ref v1), none, some (.int (u0 + u1))]) (st1 := [(.int r1), (.int (u0 + u1))]) (mem1 := m2) rfl rfl rfl rfl ?_
  refine it_V.sN it_cd93 it_m93 1 (pc1 := (if r1 = 0 then 94 else 90)) (ls1 := [some (.ref 9), some (.ref v1), none, some (.int (u0 + u1))]) (st1 := [(.int (u0 + u1))]) (mem1 := m2) rfl ?_
  refine it_V.ite (fun c3 => ?_) (fun c3 => ?_)
  · have h := h.1 c3
    refine it_V.sN it_cd93 it_m93 1 (pc1 := 95) (ls1 := [some (.ref 9), some (.ref v1), none, some (.int (u0 + u1))]) (st1 := [(.int (1 : Int32)), (.int (u0 + u1))]) (mem1 := m2) rfl ?_
    refine it_V.weak (l := [some (.ref 9), some (.ref v1), none, none]) ⟨rfl, ⟨rfl, trivial⟩⟩ ?_
    exact s_93_95 kc Φ v1 (u0 + u1) (1 : Int32) (hv1) m2 h
  · have h := h.2 c3
    refine it_V.sN it_cd93 it_m93 2 (pc1 := 95) (ls1 := [some (.ref 9), some (.ref v1), none, some (.int (u0 + u1))]) (st1 := [(.int (0 : Int32)), (.int (u0 + u1))]) (mem1 := m2) rfl ?_
    refine it_V.weak (l := [some (.ref 9), some (.ref v1), none, none]) ⟨rfl, ⟨rfl, trivial⟩⟩ ?_
    exact s_93_95 kc Φ v1 (u0 + u1) (0 : Int32) (hv1) m2 h
set_option maxRecDepth 100000 in
set_option maxHeartbeats 4000000 in
theorem s_93_63 (kc : it_Kc) (Φ : Int32 → it_Me → Prop) (v1 : Nat) (u0 : Int32) (u1 : Int32) (hv1 : it_isP v1) (m : it_Me) (h : w_93_63 kc Φ v1 u0 u1 m) : it_V kc it_sh0 93 63 [some (.ref 9), some (.ref v1), none, none] [(.int u1), (.int u0)] m (it_Pi Φ) := by
  rw [w_93_63] at h
  refine it_V.sN it_cd93 it_m93 5 (pc1 := 68) (ls1 := [some (.ref 9), some (.ref v1), none, some (.int (u0 + u1))]) (st1 := [(.ref v1), (.ref 9), (.int (u0 + u1))]) (mem1 := m) rfl ?_
  refine it_V.call it_cd93 it_m93 rfl it_m100 [(.ref 9), (.ref v1)] [(.int (u0 + u1))] rfl rfl ⟨Nat.le_of_ble_eq_true rfl, Nat.le_of_ble_eq_true rfl, Nat.le_of_ble_eq_true rfl, Nat.le_of_ble_eq_true rfl, rfl⟩ (s_100 kc v1 (hv1) m _ h) ?_
  rintro _ m2 ⟨r1, rfl, h⟩
  refine it_V.at (pc1 := 71) (ls1 := [some (.ref 9), some (.ref v1), none, some (.int (u0 + u1))]) (st1 := [(.int r1), (.int (u0 + u1))]) (mem1 := m2) rfl rfl rfl rfl ?_
  refine it_V.sN it_cd93 it_m93 1 (pc1 := (if r1 = 0 then 78 else 74)) (ls1 := [some (.ref 9), some (.ref v1), none, some (.int (u0 + u1))]) (st1 := [(.int (u0 + u1))]) (mem1 := m2) rfl ?_
  refine it_V.ite (fun c3 => ?_) (fun c3 => ?_)
  · have h := h.1 c3
    refine it_V.sN it_cd93 it_m93 1 (pc1 := 79) (ls1 := [some (.ref 9), some (.ref v1), none, some (.int (u0 + u1))]) (st1 := [(.int (1 : Int32)), (.int (u0 + u1))]) (mem1 := m2) rfl ?_
    refine it_V.weak (l := [some (.ref 9), some (.ref v1), none, none]) ⟨rfl, ⟨rfl, trivial⟩⟩ ?_
    exact s_93_79 kc Φ v1 (u0 + u1) (1 : Int32) (hv1) m2 h
  · have h := h.2 c3
    refine it_V.sN it_cd93 it_m93 2 (pc1 := 79) (ls1 := [some (.ref 9), some (.ref v1), none, some (.int (u0 + u1))]) (st1 := [(.int (0 : Int32)), (.int (u0 + u1))]) (mem1 := m2) rfl ?_
    refine it_V.weak (l := [some (.ref 9), some (.ref v1), none, none]) ⟨rfl, ⟨rfl, trivial⟩⟩ ?_
    exact s_93_79 kc Φ v1 (u0 + u1) (0 : Int32) (hv1) m2 h
set_option maxRecDepth 100000 in
set_option maxHeartbeats 4000000 in
theorem s_93_48 (kc : it_Kc) (Φ : Int32 → it_Me → Prop) (v1 : Nat) (u0 : Int32) (hv1 : it_isP v1) (m : it_Me) (h : w_93_48 kc Φ v1 u0 m) : it_V kc it_sh0 93 48 [some (.ref 9), some (.ref v1), none, none] [(.int u0)] m (it_Pi Φ) := by
  rw [w_93_48] at h
  refine it_V.sN it_cd93 it_m93 4 (pc1 := 52) (ls1 := [some (.ref 9), some (.ref v1), none, some (.int u0)]) (st1 := [(.ref v1), (.ref 9), (.int u0)]) (mem1 := m) rfl ?_
  refine it_V.call it_cd93 it_m93 rfl it_m99 [(.ref 9), (.ref v1)] [(.int u0)] rfl rfl ⟨Nat.le_of_ble_eq_true rfl, Nat.le_of_ble_eq_true rfl, Nat.le_of_ble_eq_true rfl, Nat.le_of_ble_eq_true rfl, rfl⟩ (s_99 kc v1 (hv1) m _ h) ?_
  rintro _ m2 ⟨r1, rfl, h⟩
  refine it_V.at (pc1 := 55) (ls1 := [some (.ref 9), some (.ref v1), none, some (.int u0)]) (st1 := [(.int r1), (.int u0)]) (mem1 := m2) rfl rfl rfl rfl ?_
  refine it_V.sN it_cd93 it_m93 1 (pc1 := (if r1 = 0 then 62 else 58)) (ls1 := [some (.ref 9), some (.ref v1), none, some (.int u0)]) (st1 := [(.int u0)]) (mem1 := m2) rfl ?_
  refine it_V.ite (fun c3 => ?_) (fun c3 => ?_)
  · have h := h.1 c3
    refine it_V.sN it_cd93 it_m93 1 (pc1 := 63) (ls1 := [some (.ref 9), some (.ref v1), none, some (.int u0)]) (st1 := [(.int (1 : Int32)), (.int u0)]) (mem1 := m2) rfl ?_
    refine it_V.weak (l := [some (.ref 9), some (.ref v1), none, none]) ⟨rfl, ⟨rfl, trivial⟩⟩ ?_
    exact s_93_63 kc Φ v1 u0 (1 : Int32) (hv1) m2 h
  · have h := h.2 c3
    refine it_V.sN it_cd93 it_m93 2 (pc1 := 63) (ls1 := [some (.ref 9), some (.ref v1), none, some (.int u0)]) (st1 := [(.int (0 : Int32)), (.int u0)]) (mem1 := m2) rfl ?_
    refine it_V.weak (l := [some (.ref 9), some (.ref v1), none, none]) ⟨rfl, ⟨rfl, trivial⟩⟩ ?_
    exact s_93_63 kc Φ v1 u0 (0 : Int32) (hv1) m2 h
set_option maxRecDepth 100000 in
set_option maxHeartbeats 4000000 in
theorem s_93_38 (kc : it_Kc) (Φ : Int32 → it_Me → Prop) (v1 : Nat) (u0 : Int32) (hv1 : it_isP v1) (m : it_Me) (h : w_93_38 kc Φ v1 u0 m) : it_V kc it_sh0 93 38 [some (.ref 9), some (.ref v1), none, none] [(.int u0)] m (it_Pi Φ) := by
  rw [w_93_38] at h
  refine it_V.sN it_cd93 it_m93 3 (pc1 := (if u0 = 0 then 47 else 43)) (ls1 := [some (.ref 9), some (.ref v1), some (.int u0), none]) (st1 := []) (mem1 := m) rfl ?_
  refine it_V.ite (fun c1 => ?_) (fun c1 => ?_)
  · have h := h.1 c1
    refine it_V.sN it_cd93 it_m93 1 (pc1 := 48) (ls1 := [some (.ref 9), some (.ref v1), some (.int u0), none]) (st1 := [(.int (1 : Int32))]) (mem1 := m) rfl ?_
    refine it_V.weak (l := [some (.ref 9), some (.ref v1), none, none]) ⟨rfl, ⟨rfl, trivial⟩⟩ ?_
    exact s_93_48 kc Φ v1 (1 : Int32) (hv1) m h
  · have h := h.2 c1
    refine it_V.sN it_cd93 it_m93 2 (pc1 := 48) (ls1 := [some (.ref 9), some (.ref v1), some (.int u0), none]) (st1 := [(.int (0 : Int32))]) (mem1 := m) rfl ?_
    refine it_V.weak (l := [some (.ref 9), some (.ref v1), none, none]) ⟨rfl, ⟨rfl, trivial⟩⟩ ?_
    exact s_93_48 kc Φ v1 (0 : Int32) (hv1) m h
set_option maxRecDepth 100000 in
set_option maxHeartbeats 4000000 in
theorem s_93_37 (kc : it_Kc) (Φ : Int32 → it_Me → Prop) (v1 : Nat) (hv1 : it_isP v1) (m : it_Me) (h : w_93_37 kc Φ v1 m) : it_V kc it_sh0 93 37 [some (.ref 9), some (.ref v1), none, none] [] m (it_Pi Φ) := by
  rw [w_93_37] at h
  refine it_V.sN it_cd93 it_m93 1 (pc1 := 38) (ls1 := [some (.ref 9), some (.ref v1), none, none]) (st1 := [(.int (0 : Int32))]) (mem1 := m) rfl ?_
  refine it_V.weak (l := [some (.ref 9), some (.ref v1), none, none]) ⟨rfl, ⟨rfl, trivial⟩⟩ ?_
  exact s_93_38 kc Φ v1 (0 : Int32) (hv1) m h
set_option maxRecDepth 100000 in
set_option maxHeartbeats 4000000 in
theorem s_93 (kc : it_Kc) (x0 : Nat) (hx0 : it_isP x0) (m : it_Me) (Φ : Int32 → it_Me → Prop) (h : w_93 kc x0 m Φ) : it_V kc it_sh0 93 0 (it_loc0 [(.ref 9), (.ref x0)] 4) [] m (it_Pi Φ) := by
  rw [w_93] at h
  refine it_V.at (pc1 := 0) (ls1 := [some (.ref 9), some (.ref x0), none, none]) (st1 := []) (mem1 := m) rfl rfl rfl rfl ?_
  refine it_V.sN it_cd93 it_m93 1 (pc1 := 1) (ls1 := [some (.ref 9), some (.ref x0), none, none]) (st1 := [(.ref x0)]) (mem1 := m) rfl ?_
  refine it_V.getP it_cd93 it_m93 rfl (hx0).1 rfl ?_
  refine it_V.at (pc1 := 4) (ls1 := [some (.ref 9), some (.ref x0), none, none]) (st1 := [(.int (m x0 5))]) (mem1 := m) rfl rfl rfl rfl ?_
  refine it_V.sN it_cd93 it_m93 1 (pc1 := 5) (ls1 := [some (.ref 9), some (.ref x0), none, none]) (st1 := [(.ref x0), (.int (m x0 5))]) (mem1 := m) rfl ?_
  refine it_V.getP it_cd93 it_m93 rfl (hx0).1 rfl ?_
  refine it_V.at (pc1 := 8) (ls1 := [some (.ref 9), some (.ref x0), none, none]) (st1 := [(.int (m x0 7)), (.int (m x0 5))]) (mem1 := m) rfl rfl rfl rfl ?_
  refine it_V.sN it_cd93 it_m93 1 (pc1 := (if (m x0 7) < (m x0 5) then 37 else 11)) (ls1 := [some (.ref 9), some (.ref x0), none, none]) (st1 := []) (mem1 := m) rfl ?_
  refine it_V.ite (fun c1 => ?_) (fun c1 => ?_)
  · have h := h.1 c1
    exact s_93_37 kc Φ x0 (hx0) m h
  · have h := h.2 c1
    refine it_V.sN it_cd93 it_m93 1 (pc1 := 12) (ls1 := [some (.ref 9), some (.ref x0), none, none]) (st1 := [(.ref x0)]) (mem1 := m) rfl ?_
    refine it_V.getP it_cd93 it_m93 rfl (hx0).1 rfl ?_
    refine it_V.at (pc1 := 15) (ls1 := [some (.ref 9), some (.ref x0), none, none]) (st1 := [(.int (m x0 7))]) (mem1 := m) rfl rfl rfl rfl ?_
    refine it_V.sN it_cd93 it_m93 1 (pc1 := 16) (ls1 := [some (.ref 9), some (.ref x0), none, none]) (st1 := [(.ref x0), (.int (m x0 7))]) (mem1 := m) rfl ?_
    refine it_V.getP it_cd93 it_m93 rfl (hx0).1 rfl ?_
    refine it_V.at (pc1 := 19) (ls1 := [some (.ref 9), some (.ref x0), none, none]) (st1 := [(.int (m x0 8)), (.int (m x0 7))]) (mem1 := m) rfl rfl rfl rfl ?_
    refine it_V.sN it_cd93 it_m93 1 (pc1 := (if (m x0 8) < (m x0 7) then 37 else 22)) (ls1 := [some (.ref 9), some (.ref x0), none, none]) (st1 := []) (mem1 := m) rfl ?_
    refine it_V.ite (fun c2 => ?_) (fun c2 => ?_)
    · have h := h.1 c2
      exact s_93_37 kc Φ x0 (hx0) m h
    · have h := h.2 c2
      refine it_V.sN it_cd93 it_m93 1 (pc1 := 23) (ls1 := [some (.ref 9), some (.ref x0), none, none]) (st1 := [(.ref x0)]) (mem1 := m) rfl ?_
      refine it_V.getP it_cd93 it_m93 rfl (hx0).1 rfl ?_
      refine it_V.at (pc1 := 26) (ls1 := [some (.ref 9), some (.ref x0), none, none]) (st1 := [(.int (m x0 8))]) (mem1 := m) rfl rfl rfl rfl ?_
      refine it_V.sN it_cd93 it_m93 1 (pc1 := 27) (ls1 := [some (.ref 9), some (.ref x0), none, none]) (st1 := [(.ref x0), (.int (m x0 8))]) (mem1 := m) rfl ?_
      refine it_V.call it_cd93 it_m93 rfl it_m129 [(.ref x0)] [(.int (m x0 8))] rfl rfl ⟨Nat.le_of_ble_eq_true rfl, Nat.le_of_ble_eq_true rfl, Nat.le_of_ble_eq_true rfl, Nat.le_of_ble_eq_true rfl, (it_recvP (hx0).1)⟩ (s_129 kc x0 (hx0) m _ h) ?_
      rintro _ m4 ⟨r3, rfl, h⟩
      refine it_V.at (pc1 := 30) (ls1 := [some (.ref 9), some (.ref x0), none, none]) (st1 := [(.int r3), (.int (m x0 8))]) (mem1 := m4) rfl rfl rfl rfl ?_
      refine it_V.sN it_cd93 it_m93 1 (pc1 := (if r3 < (m x0 8) then 37 else 33)) (ls1 := [some (.ref 9), some (.ref x0), none, none]) (st1 := []) (mem1 := m4) rfl ?_
      refine it_V.ite (fun c5 => ?_) (fun c5 => ?_)
      · have h := h.1 c5
        exact s_93_37 kc Φ x0 (hx0) m4 h
      · have h := h.2 c5
        refine it_V.sN it_cd93 it_m93 2 (pc1 := 38) (ls1 := [some (.ref 9), some (.ref x0), none, none]) (st1 := [(.int (1 : Int32))]) (mem1 := m4) rfl ?_
        exact s_93_38 kc Φ x0 (1 : Int32) (hx0) m4 h
set_option maxRecDepth 100000 in
set_option maxHeartbeats 4000000 in
theorem s_105 (kc : it_Kc) (x0 : Int32) (x1 : Int32) (m : it_Me) (Φ : Int32 → it_Me → Prop) (h : w_105 kc x0 x1 m Φ) : it_V kc it_sh0 105 0 (it_loc0 [(.ref 58), (.int x0), (.int x1)] 3) [] m (it_Pi Φ) := by
  rw [w_105] at h
  refine it_V.at (pc1 := 0) (ls1 := [some (.ref 58), some (.int x0), some (.int x1)]) (st1 := []) (mem1 := m) rfl rfl rfl rfl ?_
  refine it_V.sN it_cd105 it_m105 7 (pc1 := 11) (ls1 := [some (.ref 58), some (.int x0), some (.int x1)]) (st1 := [(.int (2 : Int32))]) (mem1 := (it_sv (it_sv m 58 1 x0) 58 2 x1)) rfl ?_
  exact it_V.ret it_cd105 it_m105 rfl rfl ⟨_, rfl, h⟩
set_option maxRecDepth 100000 in
set_option maxHeartbeats 4000000 in
theorem s_107_22 (kc : it_Kc) (Φ : Int32 → it_Me → Prop) (v0 : Nat) (v3 : Int32) (hv0 : it_isP v0) (m : it_Me) (h : w_107_22 kc Φ v0 v3 m) : it_V kc it_sh0 107 22 [some (.ref v0), none, none, some (.int v3), none] [] m (it_Pi Φ) := by
  rw [w_107_22] at h
  refine it_V.sN it_cd107 it_m107 2 (pc1 := 24) (ls1 := [some (.ref v0), none, none, some (.int v3), none]) (st1 := [(.int v3), (.ref v0)]) (mem1 := m) rfl ?_
  refine it_V.putP it_cd107 it_m107 rfl (hv0).1 rfl rfl rfl (Or.inl rfl) ?_
  refine it_V.at (pc1 := 27) (ls1 := [some (.ref v0), none, none, some (.int v3), none]) (st1 := []) (mem1 := (it_sv m v0 3 v3)) rfl rfl rfl rfl ?_
  refine it_V.sN it_cd107 it_m107 1 (pc1 := 28) (ls1 := [some (.ref v0), none, none, some (.int v3), none]) (st1 := [(.int (0 : Int32))]) (mem1 := (it_sv m v0 3 v3)) rfl ?_
  exact it_V.ret it_cd107 it_m107 rfl rfl ⟨_, rfl, h⟩
set_option maxRecDepth 100000 in
set_option maxHeartbeats 4000000 in
theorem s_107 (kc : it_Kc) (x0 : Nat) (x1 : Int32) (x2 : Int32) (x3 : Int32) (hx0 : it_isP x0) (m : it_Me) (Φ : Int32 → it_Me → Prop) (h : w_107 kc x0 x1 x2 x3 m Φ) : it_V kc it_sh0 107 0 (it_loc0 [(.ref x0), (.int x1), (.int x2), (.int x3)] 5) [] m (it_Pi Φ) := by
  rw [w_107] at h
  refine it_V.at (pc1 := 0) (ls1 := [some (.ref x0), some (.int x1), some (.int x2), some (.int x3), none]) (st1 := []) (mem1 := m) rfl rfl rfl rfl ?_
  refine it_V.sN it_cd107 it_m107 8 (pc1 := (if ((it_us x1 (7 : Int32)) &&& (31 : Int32)) = 0 then 22 else 14)) (ls1 := [some (.ref x0), some (.int x1), some (.int x2), some (.int x3), some (.int ((it_us x1 (7 : Int32)) &&& (31 : Int32)))]) (st1 := []) (mem1 := m) rfl ?_
  refine it_V.ite (fun c1 => ?_) (fun c1 => ?_)
  · have h := h.1 c1
    refine it_V.weak (l := [some (.ref x0), none, none, some (.int x3), none]) ⟨rfl, ⟨rfl, trivial⟩⟩ ?_
    exact s_107_22 kc Φ x0 x3 (hx0) m h
  · have h := h.2 c1
    refine it_V.sN it_cd107 it_m107 1 (pc1 := 15) (ls1 := [some (.ref x0), some (.int x1), some (.int x2), some (.int x3), some (.int ((it_us x1 (7 : Int32)) &&& (31 : Int32)))]) (st1 := [(.ref x0)]) (mem1 := m) rfl ?_
    refine it_V.getP it_cd107 it_m107 rfl (hx0).1 rfl ?_
    refine it_V.at (pc1 := 18) (ls1 := [some (.ref x0), some (.int x1), some (.int x2), some (.int x3), some (.int ((it_us x1 (7 : Int32)) &&& (31 : Int32)))]) (st1 := [(.ref (x0 + 2))]) (mem1 := m) rfl rfl rfl rfl ?_
    refine it_V.sN it_cd107 it_m107 2 (pc1 := 21) (ls1 := [some (.ref x0), some (.int x1), some (.int x2), some (.int x3), some (.int ((it_us x1 (7 : Int32)) &&& (31 : Int32)))]) (st1 := [(.int x2), (.int ((it_us x1 (7 : Int32)) &&& (31 : Int32))), (.ref (x0 + 2))]) (mem1 := m) rfl ?_
    obtain ⟨g2, h⟩ := h
    refine it_V.iast it_cd107 it_m107 rfl ((hx0).2.2.1).1 g2 ?_
    refine it_V.at (pc1 := 22) (ls1 := [some (.ref x0), some (.int x1), some (.int x2), some (.int x3), some (.int ((it_us x1 (7 : Int32)) &&& (31 : Int32)))]) (st1 := []) (mem1 := (it_sv m (x0 + 2) (Int32.toNatClampNeg ((it_us x1 (7 : Int32)) &&& (31 : Int32))) x2)) rfl rfl rfl rfl ?_
    refine it_V.weak (l := [some (.ref x0), none, none, some (.int x3), none]) ⟨rfl, ⟨rfl, trivial⟩⟩ ?_
    exact s_107_22 kc Φ x0 x3 (hx0) (it_sv m (x0 + 2) (Int32.toNatClampNeg ((it_us x1 (7 : Int32)) &&& (31 : Int32))) x2) h
set_option maxRecDepth 100000 in
set_option maxHeartbeats 4000000 in
theorem s_111 (kc : it_Kc) (x0 : Int32) (m : it_Me) (Φ : Int32 → it_Me → Prop) (h : w_111 kc x0 m Φ) : it_V kc it_sh0 111 0 (it_loc0 [(.int x0)] 1) [] m (it_Pi Φ) := by
  rw [w_111] at h
  refine it_V.at (pc1 := 0) (ls1 := [some (.int x0)]) (st1 := []) (mem1 := m) rfl rfl rfl rfl ?_
  refine it_V.sN it_cd111 it_m111 25 (pc1 := 33) (ls1 := [some (.int x0)]) (st1 := [(.int ((((it_shl (it_shr x0 (31 : Int32)) (20 : Int32)) ||| (x0 &&& (1044480 : Int32))) ||| (it_shl ((it_us x0 (20 : Int32)) &&& (1 : Int32)) (11 : Int32))) ||| (it_shl ((it_us x0 (21 : Int32)) &&& (1023 : Int32)) (1 : Int32))))]) (mem1 := m) rfl ?_
  exact it_V.ret it_cd111 it_m111 rfl rfl ⟨_, rfl, h⟩
set_option maxRecDepth 100000 in
set_option maxHeartbeats 4000000 in
theorem s_108 (kc : it_Kc) (x0 : Int32) (m : it_Me) (Φ : Int32 → it_Me → Prop) (h : w_108 kc x0 m Φ) : it_V kc it_sh0 108 0 (it_loc0 [(.int x0)] 1) [] m (it_Pi Φ) := by
  rw [w_108] at h
  refine it_V.at (pc1 := 0) (ls1 := [some (.int x0)]) (st1 := []) (mem1 := m) rfl rfl rfl rfl ?_
  refine it_V.sN it_cd108 it_m108 5 (pc1 := 7) (ls1 := [some (.int x0)]) (st1 := [(.int ((it_us x0 (12 : Int32)) &&& (7 : Int32)))]) (mem1 := m) rfl ?_
  exact it_V.ret it_cd108 it_m108 rfl rfl ⟨_, rfl, h⟩
set_option maxRecDepth 100000 in
set_option maxHeartbeats 4000000 in
theorem s_109 (kc : it_Kc) (x0 : Nat) (x1 : Int32) (hx0 : it_isP x0) (m : it_Me) (Φ : Int32 → it_Me → Prop) (h : w_109 kc x0 x1 m Φ) : it_V kc it_sh0 109 0 (it_loc0 [(.ref x0), (.int x1)] 2) [] m (it_Pi Φ) := by
  rw [w_109] at h
  refine it_V.at (pc1 := 0) (ls1 := [some (.ref x0), some (.int x1)]) (st1 := []) (mem1 := m) rfl rfl rfl rfl ?_
  refine it_V.sN it_cd109 it_m109 1 (pc1 := 1) (ls1 := [some (.ref x0), some (.int x1)]) (st1 := [(.ref x0)]) (mem1 := m) rfl ?_
  refine it_V.getP it_cd109 it_m109 rfl (hx0).1 rfl ?_
  refine it_V.at (pc1 := 4) (ls1 := [some (.ref x0), some (.int x1)]) (st1 := [(.ref (x0 + 2))]) (mem1 := m) rfl rfl rfl rfl ?_
  refine it_V.sN it_cd109 it_m109 5 (pc1 := 11) (ls1 := [some (.ref x0), some (.int x1)]) (st1 := [(.int ((it_us x1 (15 : Int32)) &&& (31 : Int32))), (.ref (x0 + 2))]) (mem1 := m) rfl ?_
  obtain ⟨g1, h⟩ := h
  refine it_V.iald it_cd109 it_m109 rfl ((hx0).2.2.1).2 ((hx0).2.2.1).1 g1 ?_
  refine it_V.at (pc1 := 12) (ls1 := [some (.ref x0), some (.int x1)]) (st1 := [(.int (m (x0 + 2) (Int32.toNatClampNeg ((it_us x1 (15 : Int32)) &&& (31 : Int32)))))]) (mem1 := m) rfl rfl rfl rfl ?_
  exact it_V.ret it_cd109 it_m109 rfl rfl ⟨_, rfl, h⟩
set_option maxRecDepth 100000 in
set_option maxHeartbeats 4000000 in
theorem s_113 (kc : it_Kc) (x0 : Nat) (x1 : Int32) (x2 : Int32) (hx0 : it_isP x0) (m : it_Me) (Φ : Int32 → it_Me → Prop) (h : w_113 kc x0 x1 x2 m Φ) : it_V kc it_sh0 113 0 (it_loc0 [(.ref 58), (.ref x0), (.int x1), (.int x2)] 4) [] m (it_Pi Φ) := by
  rw [w_113] at h
  refine it_V.at (pc1 := 0) (ls1 := [some (.ref 58), some (.ref x0), some (.int x1), some (.int x2)]) (st1 := []) (mem1 := m) rfl rfl rfl rfl ?_
  refine it_V.sN it_cd113 it_m113 1 (pc1 := 1) (ls1 := [some (.ref 58), some (.ref x0), some (.int x1), some (.int x2)]) (st1 := [(.int x1)]) (mem1 := m) rfl ?_
  refine it_V.call it_cd113 it_m113 rfl it_m108 [(.int x1)] [] rfl rfl ⟨Nat.le_of_ble_eq_true rfl, Nat.le_of_ble_eq_true rfl, Nat.le_of_ble_eq_true rfl, Nat.le_of_ble_eq_true rfl, rfl⟩ (s_108 kc x1 m _ h) ?_
  rintro _ m2 ⟨r1, rfl, h⟩
  refine it_V.at (pc1 := 4) (ls1 := [some (.ref 58), some (.ref x0), some (.int x1), some (.int x2)]) (st1 := [(.int r1)]) (mem1 := m2) rfl rfl rfl rfl ?_
  refine it_V.sN it_cd113 it_m113 1 (pc1 := (if r1 = 0 then 14 else 7)) (ls1 := [some (.ref 58), some (.ref x0), some (.int x1), some (.int x2)]) (st1 := []) (mem1 := m2) rfl ?_
  refine it_V.ite (fun c3 => ?_) (fun c3 => ?_)
  · have h := h.1 c3
    refine it_V.sN it_cd113 it_m113 5 (pc1 := 19) (ls1 := [some (.ref 58), some (.ref x0), some (.int x1), some (.int x2)]) (st1 := [(.int x1), (.ref x0), (.int x2), (.int x1), (.ref x0)]) (mem1 := m2) rfl ?_
    refine it_V.call it_cd113 it_m113 rfl it_m109 [(.ref x0), (.int x1)] [(.int x2), (.int x1), (.ref x0)] rfl rfl ⟨Nat.le_of_ble_eq_true rfl, Nat.le_of_ble_eq_true rfl, Nat.le_of_ble_eq_true rfl, Nat.le_of_ble_eq_true rfl, rfl⟩ (s_109 kc x0 x1 (hx0) m2 _ h) ?_
    rintro _ m5 ⟨r4, rfl, h⟩
    refine it_V.at (pc1 := 22) (ls1 := [some (.ref 58), some (.ref x0), some (.int x1), some (.int x2)]) (st1 := [(.int r4), (.int x2), (.int x1), (.ref x0)]) (mem1 := m5) rfl rfl rfl rfl ?_
    refine it_V.sN it_cd113 it_m113 6 (pc1 := 30) (ls1 := [some (.ref 58), some (.ref x0), some (.int x1), some (.int x2)]) (st1 := [(.int ((r4 + (it_shr x1 (20 : Int32))) &&& (-2 : Int32))), (.int x2), (.int x1), (.ref x0)]) (mem1 := m5) rfl ?_
    refine it_V.call it_cd113 it_m113 rfl it_m107 [(.ref x0), (.int x1), (.int x2), (.int ((r4 + (it_shr x1 (20 : Int32))) &&& (-2 : Int32)))] [] rfl rfl ⟨Nat.le_of_ble_eq_true rfl, Nat.le_of_ble_eq_true rfl, Nat.le_of_ble_eq_true rfl, Nat.le_of_ble_eq_true rfl, rfl⟩ (s_107 kc x0 x1 x2 ((r4 + (it_shr x1 (20 : Int32))) &&& (-2 : Int32)) (hx0) m5 _ h) ?_
    rintro _ m7 ⟨r6, rfl, h⟩
    refine it_V.at (pc1 := 33) (ls1 := [some (.ref 58), some (.ref x0), some (.int x1), some (.int x2)]) (st1 := [(.int r6)]) (mem1 := m7) rfl rfl rfl rfl ?_
    exact it_V.ret it_cd113 it_m113 rfl rfl ⟨_, rfl, h⟩
  · have h := h.2 c3
    refine it_V.sN it_cd113 it_m113 3 (pc1 := 10) (ls1 := [some (.ref 58), some (.ref x0), some (.int x1), some (.int x2)]) (st1 := [(.int x1), (.int (2 : Int32)), (.ref 58)]) (mem1 := m2) rfl ?_
    refine it_V.call it_cd113 it_m113 rfl it_m105 [(.ref 58), (.int (2 : Int32)), (.int x1)] [] rfl rfl ⟨Nat.le_of_ble_eq_true rfl, Nat.le_of_ble_eq_true rfl, Nat.le_of_ble_eq_true rfl, Nat.le_of_ble_eq_true rfl, rfl⟩ (s_105 kc (2 : Int32) x1 m2 _ h) ?_
    rintro _ m9 ⟨r8, rfl, h⟩
    refine it_V.at (pc1 := 13) (ls1 := [some (.ref 58), some (.ref x0), some (.int x1), some (.int x2)]) (st1 := [(.int r8)]) (mem1 := m9) rfl rfl rfl rfl ?_
    exact it_V.ret it_cd113 it_m113 rfl rfl ⟨_, rfl, h⟩
set_option maxRecDepth 100000 in
set_option maxHeartbeats 4000000 in
theorem s_110 (kc : it_Kc) (x0 : Nat) (x1 : Int32) (hx0 : it_isP x0) (m : it_Me) (Φ : Int32 → it_Me → Prop) (h : w_110 kc x0 x1 m Φ) : it_V kc it_sh0 110 0 (it_loc0 [(.ref x0), (.int x1)] 2) [] m (it_Pi Φ) := by
  rw [w_110] at h
  refine it_V.at (pc1 := 0) (ls1 := [some (.ref x0), some (.int x1)]) (st1 := []) (mem1 := m) rfl rfl rfl rfl ?_
  refine it_V.sN it_cd110 it_m110 1 (pc1 := 1) (ls1 := [some (.ref x0), some (.int x1)]) (st1 := [(.ref x0)]) (mem1 := m) rfl ?_
  refine it_V.getP it_cd110 it_m110 rfl (hx0).1 rfl ?_
  refine it_V.at (pc1 := 4) (ls1 := [some (.ref x0), some (.int x1)]) (st1 := [(.ref (x0 + 2))]) (mem1 := m) rfl rfl rfl rfl ?_
  refine it_V.sN it_cd110 it_m110 5 (pc1 := 11) (ls1 := [some (.ref x0), some (.int x1)]) (st1 := [(.int ((it_us x1 (20 : Int32)) &&& (31 : Int32))), (.ref (x0 + 2))]) (mem1 := m) rfl ?_
  obtain ⟨g1, h⟩ := h
  refine it_V.iald it_cd110 it_m110 rfl ((hx0).2.2.1).2 ((hx0).2.2.1).1 g1 ?_
  refine it_V.at (pc1 := 12) (ls1 := [some (.ref x0), some (.int x1)]) (st1 := [(.int (m (x0 + 2) (Int32.toNatClampNeg ((it_us x1 (20 : Int32)) &&& (31 : Int32)))))]) (mem1 := m) rfl rfl rfl rfl ?_
  exact it_V.ret it_cd110 it_m110 rfl rfl ⟨_, rfl, h⟩
set_option maxRecDepth 100000 in
set_option maxHeartbeats 4000000 in
theorem s_112 (kc : it_Kc) (x0 : Int32) (m : it_Me) (Φ : Int32 → it_Me → Prop) (h : w_112 kc x0 m Φ) : it_V kc it_sh0 112 0 (it_loc0 [(.int x0)] 1) [] m (it_Pi Φ) := by
  rw [w_112] at h
  refine it_V.at (pc1 := 0) (ls1 := [some (.int x0)]) (st1 := []) (mem1 := m) rfl rfl rfl rfl ?_
  refine it_V.sN it_cd112 it_m112 29 (pc1 := 37) (ls1 := [some (.int x0)]) (st1 := [(.int ((((it_shl (it_shr x0 (31 : Int32)) (12 : Int32)) ||| (it_shl ((it_us x0 (7 : Int32)) &&& (1 : Int32)) (11 : Int32))) ||| (it_shl ((it_us x0 (25 : Int32)) &&& (63 : Int32)) (5 : Int32))) ||| (it_shl ((it_us x0 (8 : Int32)) &&& (15 : Int32)) (1 : Int32))))]) (mem1 := m) rfl ?_
  exact it_V.ret it_cd112 it_m112 rfl rfl ⟨_, rfl, h⟩
set_option maxRecDepth 100000 in
set_option maxHeartbeats 4000000 in
theorem s_114_190 (kc : it_Kc) (Φ : Int32 → it_Me → Prop) (u0 : Nat) (u1 : Int32) (hu0 : it_isP u0) (m : it_Me) (h : w_114_190 kc Φ u0 u1 m) : it_V kc it_sh0 114 190 [none, none, none, none, none, none, none] [(.int u1), (.ref u0)] m (it_Pi Φ) := by
  rw [w_114_190] at h
  refine it_V.putP it_cd114 it_m114 rfl (hu0).1 rfl rfl rfl (Or.inl rfl) ?_
  refine it_V.at (pc1 := 193) (ls1 := [none, none, none, none, none, none, none]) (st1 := []) (mem1 := (it_sv m u0 3 u1)) rfl rfl rfl rfl ?_
  refine it_V.sN it_cd114 it_m114 1 (pc1 := 194) (ls1 := [none, none, none, none, none, none, none]) (st1 := [(.int (0 : Int32))]) (mem1 := (it_sv m u0 3 u1)) rfl ?_
  exact it_V.ret it_cd114 it_m114 rfl rfl ⟨_, rfl, h⟩
set_option maxRecDepth 100000 in
set_option maxHeartbeats 4000000 in
theorem s_114_171 (kc : it_Kc) (Φ : Int32 → it_Me → Prop) (v1 : Nat) (v2 : Int32) (v3 : Int32) (v6 : Int32) (hv1 : it_isP v1) (m : it_Me) (h : w_114_171 kc Φ v1 v2 v3 v6 m) : it_V kc it_sh0 114 171 [none, some (.ref v1), some (.int v2), some (.int v3), none, none, some (.int v6)] [] m (it_Pi Φ) := by
  rw [w_114_171] at h
  refine it_V.sN it_cd114 it_m114 3 (pc1 := (if v6 = 0 then 189 else 177)) (ls1 := [none, some (.ref v1), some (.int v2), some (.int v3), none, none, some (.int v6)]) (st1 := [(.ref v1)]) (mem1 := m) rfl ?_
  refine it_V.ite (fun c1 => ?_) (fun c1 => ?_)
  · have h := h.1 c1
    refine it_V.sN it_cd114 it_m114 1 (pc1 := 190) (ls1 := [none, some (.ref v1), some (.int v2), some (.int v3), none, none, some (.int v6)]) (st1 := [(.int v3), (.ref v1)]) (mem1 := m) rfl ?_
    refine it_V.weak (l := [none, none, none, none, none, none, none]) trivial ?_
    exact s_114_190 kc Φ v1 v3 (hv1) m h
  · have h := h.2 c1
    refine it_V.sN it_cd114 it_m114 1 (pc1 := 178) (ls1 := [none, some (.ref v1), some (.int v2), some (.int v3), none, none, some (.int v6)]) (st1 := [(.ref v1), (.ref v1)]) (mem1 := m) rfl ?_
    refine it_V.getP it_cd114 it_m114 rfl (hv1).1 rfl ?_
    refine it_V.at (pc1 := 181) (ls1 := [none, some (.ref v1), some (.int v2), some (.int v3), none, none, some (.int v6)]) (st1 := [(.int (m v1 3)), (.ref v1)]) (mem1 := m) rfl rfl rfl rfl ?_
    refine it_V.sN it_cd114 it_m114 1 (pc1 := 182) (ls1 := [none, some (.ref v1), some (.int v2), some (.int v3), none, none, some (.int v6)]) (st1 := [(.int v2), (.int (m v1 3)), (.ref v1)]) (mem1 := m) rfl ?_
    refine it_V.call it_cd114 it_m114 rfl it_m112 [(.int v2)] [(.int (m v1 3)), (.ref v1)] rfl rfl ⟨Nat.le_of_ble_eq_true rfl, Nat.le_of_ble_eq_true rfl, Nat.le_of_ble_eq_true rfl, Nat.le_of_ble_eq_true rfl, rfl⟩ (s_112 kc v2 m _ h) ?_
    rintro _ m3 ⟨r2, rfl, h⟩
    refine it_V.at (pc1 := 185) (ls1 := [none, some (.ref v1), some (.int v2), some (.int v3), none, none, some (.int v6)]) (st1 := [(.int r2), (.int (m v1 3)), (.ref v1)]) (mem1 := m3) rfl rfl rfl rfl ?_
    refine it_V.sN it_cd114 it_m114 2 (pc1 := 190) (ls1 := [none, some (.ref v1), some (.int v2), some (.int v3), none, none, some (.int v6)]) (st1 := [(.int ((m v1 3) + r2)), (.ref v1)]) (mem1 := m3) rfl ?_
    refine it_V.weak (l := [none, none, none, none, none, none, none]) trivial ?_
    exact s_114_190 kc Φ v1 ((m v1 3) + r2) (hv1) m3 h
set_option maxRecDepth 100000 in
set_option maxHeartbeats 4000000 in
theorem s_114_76 (kc : it_Kc) (Φ : Int32 → it_Me → Prop) (v1 : Nat) (v2 : Int32) (v3 : Int32) (u0 : Int32) (hv1 : it_isP v1) (m : it_Me) (h : w_114_76 kc Φ v1 v2 v3 u0 m) : it_V kc it_sh0 114 76 [none, some (.ref v1), some (.int v2), some (.int v3), none, none, none] [(.int u0)] m (it_Pi Φ) := by
  rw [w_114_76] at h
  refine it_V.sN it_cd114 it_m114 2 (pc1 := 171) (ls1 := [none, some (.ref v1), some (.int v2), some (.int v3), none, none, some (.int u0)]) (st1 := []) (mem1 := m) rfl ?_
  refine it_V.weak (l := [none, some (.ref v1), some (.int v2), some (.int v3), none, none, some (.int u0)]) ⟨rfl, ⟨rfl, ⟨rfl, ⟨rfl, trivial⟩⟩⟩⟩ ?_
  exact s_114_171 kc Φ v1 v2 v3 u0 (hv1) m h
set_option maxRecDepth 100000 in
set_option maxHeartbeats 4000000 in
theorem s_114_93 (kc : it_Kc) (Φ : Int32 → it_Me → Prop) (v1 : Nat) (v2 : Int32) (v3 : Int32) (u0 : Int32) (hv1 : it_isP v1) (m : it_Me) (h : w_114_93 kc Φ v1 v2 v3 u0 m) : it_V kc it_sh0 114 93 [none, some (.ref v1), some (.int v2), some (.int v3), none, none, none] [(.int u0)] m (it_Pi Φ) := by
  rw [w_114_93] at h
  refine it_V.sN it_cd114 it_m114 2 (pc1 := 171) (ls1 := [none, some (.ref v1), some (.int v2), some (.int v3), none, none, some (.int u0)]) (st1 := []) (mem1 := m) rfl ?_
  refine it_V.weak (l := [none, some (.ref v1), some (.int v2), some (.int v3), none, none, some (.int u0)]) ⟨rfl, ⟨rfl, ⟨rfl, ⟨rfl, trivial⟩⟩⟩⟩ ?_
  exact s_114_171 kc Φ v1 v2 v3 u0 (hv1) m h
set_option maxRecDepth 100000 in
set_option maxHeartbeats 4000000 in
theorem s_114_110 (kc : it_Kc) (Φ : Int32 → it_Me → Prop) (v1 : Nat) (v2 : Int32) (v3 : Int32) (u0 : Int32) (hv1 : it_isP v1) (m : it_Me) (h : w_114_110 kc Φ v1 v2 v3 u0 m) : it_V kc it_sh0 114 110 [none, some (.ref v1), some (.int v2), some (.int v3), none, none, none] [(.int u0)] m (it_Pi Φ) := by
  rw [w_114_110] at h
  refine it_V.sN it_cd114 it_m114 2 (pc1 := 171) (ls1 := [none, some (.ref v1), some (.int v2), some (.int v3), none, none, some (.int u0)]) (st1 := []) (mem1 := m) rfl ?_
  refine it_V.weak (l := [none, some (.ref v1), some (.int v2), some (.int v3), none, none, some (.int u0)]) ⟨rfl, ⟨rfl, ⟨rfl, ⟨rfl, trivial⟩⟩⟩⟩ ?_
  exact s_114_171 kc Φ v1 v2 v3 u0 (hv1) m h
set_option maxRecDepth 100000 in
set_option maxHeartbeats 4000000 in
theorem s_114_127 (kc : it_Kc) (Φ : Int32 → it_Me → Prop) (v1 : Nat) (v2 : Int32) (v3 : Int32) (u0 : Int32) (hv1 : it_isP v1) (m : it_Me) (h : w_114_127 kc Φ v1 v2 v3 u0 m) : it_V kc it_sh0 114 127 [none, some (.ref v1), some (.int v2), some (.int v3), none, none, none] [(.int u0)] m (it_Pi Φ) := by
  rw [w_114_127] at h
  refine it_V.sN it_cd114 it_m114 2 (pc1 := 171) (ls1 := [none, some (.ref v1), some (.int v2), some (.int v3), none, none, some (.int u0)]) (st1 := []) (mem1 := m) rfl ?_
  refine it_V.weak (l := [none, some (.ref v1), some (.int v2), some (.int v3), none, none, some (.int u0)]) ⟨rfl, ⟨rfl, ⟨rfl, ⟨rfl, trivial⟩⟩⟩⟩ ?_
  exact s_114_171 kc Φ v1 v2 v3 u0 (hv1) m h
set_option maxRecDepth 100000 in
set_option maxHeartbeats 4000000 in
theorem s_114_159 (kc : it_Kc) (Φ : Int32 → it_Me → Prop) (v1 : Nat) (v2 : Int32) (v3 : Int32) (u0 : Int32) (hv1 : it_isP v1) (m : it_Me) (h : w_114_159 kc Φ v1 v2 v3 u0 m) : it_V kc it_sh0 114 159 [none, some (.ref v1), some (.int v2), some (.int v3), none, none, none] [(.int u0)] m (it_Pi Φ) := by
  rw [w_114_159] at h
  refine it_V.sN it_cd114 it_m114 2 (pc1 := 171) (ls1 := [none, some (.ref v1), some (.int v2), some (.int v3), none, none, some (.int u0)]) (st1 := []) (mem1 := m) rfl ?_
  refine it_V.weak (l := [none, some (.ref v1), some (.int v2), some (.int v3), none, none, some (.int u0)]) ⟨rfl, ⟨rfl, ⟨rfl, ⟨rfl, trivial⟩⟩⟩⟩ ?_
  exact s_114_171 kc Φ v1 v2 v3 u0 (hv1) m h
set_option maxRecDepth 100000 in
set_option maxHeartbeats 4000000 in
theorem s_114 (kc : it_Kc) (x0 : Nat) (x1 : Int32) (x2 : Int32) (hx0 : it_isP x0) (m : it_Me) (Φ : Int32 → it_Me → Prop) (h : w_114 kc x0 x1 x2 m Φ) : it_V kc it_sh0 114 0 (it_loc0 [(.ref 58), (.ref x0), (.int x1), (.int x2)] 7) [] m (it_Pi Φ) := by
  rw [w_114] at h
  refine it_V.at (pc1 := 0) (ls1 := [some (.ref 58), some (.ref x0), some (.int x1), some (.int x2), none, none, none]) (st1 := []) (mem1 := m) rfl rfl rfl rfl ?_
  refine it_V.sN it_cd114 it_m114 2 (pc1 := 2) (ls1 := [some (.ref 58), some (.ref x0), some (.int x1), some (.int x2), none, none, none]) (st1 := [(.int x1), (.ref x0)]) (mem1 := m) rfl ?_
  refine it_V.call it_cd114 it_m114 rfl it_m109 [(.ref x0), (.int x1)] [] rfl rfl ⟨Nat.le_of_ble_eq_true rfl, Nat.le_of_ble_eq_true rfl, Nat.le_of_ble_eq_true rfl, Nat.le_of_ble_eq_true rfl, rfl⟩ (s_109 kc x0 x1 (hx0) m _ h) ?_
  rintro _ m2 ⟨r1, rfl, h⟩
  refine it_V.at (pc1 := 5) (ls1 := [some (.ref 58), some (.ref x0), some (.int x1), some (.int x2), none, none, none]) (st1 := [(.int r1)]) (mem1 := m2) rfl rfl rfl rfl ?_
  refine it_V.sN it_cd114 it_m114 3 (pc1 := 9) (ls1 := [some (.ref 58), some (.ref x0), some (.int x1), some (.int x2), some (.int r1), none, none]) (st1 := [(.int x1), (.ref x0)]) (mem1 := m2) rfl ?_
  refine it_V.call it_cd114 it_m114 rfl it_m110 [(.ref x0), (.int x1)] [] rfl rfl ⟨Nat.le_of_ble_eq_true rfl, Nat.le_of_ble_eq_true rfl, Nat.le_of_ble_eq_true rfl, Nat.le_of_ble_eq_true rfl, rfl⟩ (s_110 kc x0 x1 (hx0) m2 _ h) ?_
  rintro _ m4 ⟨r3, rfl, h⟩
  refine it_V.at (pc1 := 12) (ls1 := [some (.ref 58), some (.ref x0), some (.int x1), some (.int x2), some (.int r1), none, none]) (st1 := [(.int r3)]) (mem1 := m4) rfl rfl rfl rfl ?_
  refine it_V.sN it_cd114 it_m114 2 (pc1 := 15) (ls1 := [some (.ref 58), some (.ref x0), some (.int x1), some (.int x2), some (.int r1), some (.int r3), none]) (st1 := [(.int x1)]) (mem1 := m4) rfl ?_
  refine it_V.call it_cd114 it_m114 rfl it_m108 [(.int x1)] [] rfl rfl ⟨Nat.le_of_ble_eq_true rfl, Nat.le_of_ble_eq_true rfl, Nat.le_of_ble_eq_true rfl, Nat.le_of_ble_eq_true rfl, rfl⟩ (s_108 kc x1 m4 _ h) ?_
  rintro _ m6 ⟨r5, rfl, h⟩
  refine it_V.at (pc1 := 18) (ls1 := [some (.ref 58), some (.ref x0), some (.int x1), some (.int x2), some (.int r1), some (.int r3), none]) (st1 := [(.int r5)]) (mem1 := m6) rfl rfl rfl rfl ?_
  refine it_V.sN it_cd114 it_m114 1 (pc1 := (if r5 = (0 : Int32) then 64 else (if r5 = (1 : Int32) then 81 else (if r5 = (2 : Int32) then 164 else (if r5 = (3 : Int32) then 164 else (if r5 = (4 : Int32) then 98 else (if r5 = (5 : Int32) then 115 else (if r5 = (6 : Int32) then 132 else (if r5 = (7 : Int32) then 144 else 164))))))))) (ls1 := [some (.ref 58), some (.ref x0), some (.int x1), some (.int x2), some (.int r1), some (.int r3), none]) (st1 := []) (mem1 := m6) rfl ?_
  refine it_V.ite (fun c7 => ?_) (fun c7 => ?_)
  · have h := h.1 c7
    refine it_V.sN it_cd114 it_m114 3 (pc1 := (if r1 = r3 then 71 else 75)) (ls1 := [some (.ref 58), some (.ref x0), some (.int x1), some (.int x2), some (.int r1), some (.int r3), none]) (st1 := []) (mem1 := m6) rfl ?_
    refine it_V.ite (fun c8 => ?_) (fun c8 => ?_)
    · have h := h.1 c8
      refine it_V.sN it_cd114 it_m114 2 (pc1 := 76) (ls1 := [some (.ref 58), some (.ref x0), some (.int x1), some (.int x2), some (.int r1), some (.int r3), none]) (st1 := [(.int (1 : Int32))]) (mem1 := m6) rfl ?_
      refine it_V.weak (l := [none, some (.ref x0), some (.int x1), some (.int x2), none, none, none]) ⟨rfl, ⟨rfl, ⟨rfl, trivial⟩⟩⟩ ?_
      exact s_114_76 kc Φ x0 x1 x2 (1 : Int32) (hx0) m6 h
    · have h := h.2 c8
      refine it_V.sN it_cd114 it_m114 1 (pc1 := 76) (ls1 := [some (.ref 58), some (.ref x0), some (.int x1), some (.int x2), some (.int r1), some (.int r3), none]) (st1 := [(.int (0 : Int32))]) (mem1 := m6) rfl ?_
      refine it_V.weak (l := [none, some (.ref x0), some (.int x1), some (.int x2), none, none, none]) ⟨rfl, ⟨rfl, ⟨rfl, trivial⟩⟩⟩ ?_
      exact s_114_76 kc Φ x0 x1 x2 (0 : Int32) (hx0) m6 h
  · have h := h.2 c7
    refine it_V.ite (fun c9 => ?_) (fun c9 => ?_)
    · have h := h.1 c9
      refine it_V.sN it_cd114 it_m114 3 (pc1 := (if r1 = r3 then 92 else 88)) (ls1 := [some (.ref 58), some (.ref x0), some (.int x1), some (.int x2), some (.int r1), some (.int r3), none]) (st1 := []) (mem1 := m6) rfl ?_
      refine it_V.ite (fun c10 => ?_) (fun c10 => ?_)
      · have h := h.1 c10
        refine it_V.sN it_cd114 it_m114 1 (pc1 := 93) (ls1 := [some (.ref 58), some (.ref x0), some (.int x1), some (.int x2), some (.int r1), some (.int r3), none]) (st1 := [(.int (0 : Int32))]) (mem1 := m6) rfl ?_
        refine it_V.weak (l := [none, some (.ref x0), some (.int x1), some (.int x2), none, none, none]) ⟨rfl, ⟨rfl, ⟨rfl, trivial⟩⟩⟩ ?_
        exact s_114_93 kc Φ x0 x1 x2 (0 : Int32) (hx0) m6 h
      · have h := h.2 c10
        refine it_V.sN it_cd114 it_m114 2 (pc1 := 93) (ls1 := [some (.ref 58), some (.ref x0), some (.int x1), some (.int x2), some (.int r1), some (.int r3), none]) (st1 := [(.int (1 : Int32))]) (mem1 := m6) rfl ?_
        refine it_V.weak (l := [none, some (.ref x0), some (.int x1), some (.int x2), none, none, none]) ⟨rfl, ⟨rfl, ⟨rfl, trivial⟩⟩⟩ ?_
        exact s_114_93 kc Φ x0 x1 x2 (1 : Int32) (hx0) m6 h
    · have h := h.2 c9
      refine it_V.ite (fun c11 => ?_) (fun c11 => ?_)
      · have h := h.1 c11
        refine it_V.sN it_cd114 it_m114 3 (pc1 := 167) (ls1 := [some (.ref 58), some (.ref x0), some (.int x1), some (.int x2), some (.int r1), some (.int r3), none]) (st1 := [(.int x1), (.int (2 : Int32)), (.ref 58)]) (mem1 := m6) rfl ?_
        refine it_V.call it_cd114 it_m114 rfl it_m105 [(.ref 58), (.int (2 : Int32)), (.int x1)] [] rfl rfl ⟨Nat.le_of_ble_eq_true rfl, Nat.le_of_ble_eq_true rfl, Nat.le_of_ble_eq_true rfl, Nat.le_of_ble_eq_true rfl, rfl⟩ (s_105 kc (2 : Int32) x1 m6 _ h) ?_
        rintro _ m13 ⟨r12, rfl, h⟩
        refine it_V.at (pc1 := 170) (ls1 := [some (.ref 58), some (.ref x0), some (.int x1), some (.int x2), some (.int r1), some (.int r3), none]) (st1 := [(.int r12)]) (mem1 := m13) rfl rfl rfl rfl ?_
        exact it_V.ret it_cd114 it_m114 rfl rfl ⟨_, rfl, h⟩
      · have h := h.2 c11
        refine it_V.ite (fun c14 => ?_) (fun c14 => ?_)
        · have h := h.1 c14
          refine it_V.sN it_cd114 it_m114 3 (pc1 := 167) (ls1 := [some (.ref 58), some (.ref x0), some (.int x1), some (.int x2), some (.int r1), some (.int r3), none]) (st1 := [(.int x1), (.int (2 : Int32)), (.ref 58)]) (mem1 := m6) rfl ?_
          refine it_V.call it_cd114 it_m114 rfl it_m105 [(.ref 58), (.int (2 : Int32)), (.int x1)] [] rfl rfl ⟨Nat.le_of_ble_eq_true rfl, Nat.le_of_ble_eq_true rfl, Nat.le_of_ble_eq_true rfl, Nat.le_of_ble_eq_true rfl, rfl⟩ (s_105 kc (2 : Int32) x1 m6 _ h) ?_
          rintro _ m16 ⟨r15, rfl, h⟩
          refine it_V.at (pc1 := 170) (ls1 := [some (.ref 58), some (.ref x0), some (.int x1), some (.int x2), some (.int r1), some (.int r3), none]) (st1 := [(.int r15)]) (mem1 := m16) rfl rfl rfl rfl ?_
          exact it_V.ret it_cd114 it_m114 rfl rfl ⟨_, rfl, h⟩
        · have h := h.2 c14
          refine it_V.ite (fun c17 => ?_) (fun c17 => ?_)
          · have h := h.1 c17
            refine it_V.sN it_cd114 it_m114 3 (pc1 := (if r3 ≤ r1 then 109 else 105)) (ls1 := [some (.ref 58), some (.ref x0), some (.int x1), some (.int x2), some (.int r1), some (.int r3), none]) (st1 := []) (mem1 := m6) rfl ?_
            refine it_V.ite (fun c18 => ?_) (fun c18 => ?_)
            · have h := h.1 c18
              refine it_V.sN it_cd114 it_m114 1 (pc1 := 110) (ls1 := [some (.ref 58), some (.ref x0), some (.int x1), some (.int x2), some (.int r1), some (.int r3), none]) (st1 := [(.int (0 : Int32))]) (mem1 := m6) rfl ?_
              refine it_V.weak (l := [none, some (.ref x0), some (.int x1), some (.int x2), none, none, none]) ⟨rfl, ⟨rfl, ⟨rfl, trivial⟩⟩⟩ ?_
              exact s_114_110 kc Φ x0 x1 x2 (0 : Int32) (hx0) m6 h
            · have h := h.2 c18
              refine it_V.sN it_cd114 it_m114 2 (pc1 := 110) (ls1 := [some (.ref 58), some (.ref x0), some (.int x1), some (.int x2), some (.int r1), some (.int r3), none]) (st1 := [(.int (1 : Int32))]) (mem1 := m6) rfl ?_
              refine it_V.weak (l := [none, some (.ref x0), some (.int x1), some (.int x2), none, none, none]) ⟨rfl, ⟨rfl, ⟨rfl, trivial⟩⟩⟩ ?_
              exact s_114_110 kc Φ x0 x1 x2 (1 : Int32) (hx0) m6 h
          · have h := h.2 c17
            refine it_V.ite (fun c19 => ?_) (fun c19 => ?_)
            · have h := h.1 c19
              refine it_V.sN it_cd114 it_m114 3 (pc1 := (if r1 < r3 then 126 else 122)) (ls1 := [some (.ref 58), some (.ref x0), some (.int x1), some (.int x2), some (.int r1), some (.int r3), none]) (st1 := []) (mem1 := m6) rfl ?_
              refine it_V.ite (fun c20 => ?_) (fun c20 => ?_)
              · have h := h.1 c20
                refine it_V.sN it_cd114 it_m114 1 (pc1 := 127) (ls1 := [some (.ref 58), some (.ref x0), some (.int x1), some (.int x2), some (.int r1), some (.int r3), none]) (st1 := [(.int (0 : Int32))]) (mem1 := m6) rfl ?_
                refine it_V.weak (l := [none, some (.ref x0), some (.int x1), some (.int x2), none, none, none]) ⟨rfl, ⟨rfl, ⟨rfl, trivial⟩⟩⟩ ?_
                exact s_114_127 kc Φ x0 x1 x2 (0 : Int32) (hx0) m6 h
              · have h := h.2 c20
                refine it_V.sN it_cd114 it_m114 2 (pc1 := 127) (ls1 := [some (.ref 58), some (.ref x0), some (.int x1), some (.int x2), some (.int r1), some (.int r3), none]) (st1 := [(.int (1 : Int32))]) (mem1 := m6) rfl ?_
                refine it_V.weak (l := [none, some (.ref x0), some (.int x1), some (.int x2), none, none, none]) ⟨rfl, ⟨rfl, ⟨rfl, trivial⟩⟩⟩ ?_
                exact s_114_127 kc Φ x0 x1 x2 (1 : Int32) (hx0) m6 h
            · have h := h.2 c19
              refine it_V.ite (fun c21 => ?_) (fun c21 => ?_)
              · have h := h.1 c21
                refine it_V.sN it_cd114 it_m114 2 (pc1 := 136) (ls1 := [some (.ref 58), some (.ref x0), some (.int x1), some (.int x2), some (.int r1), some (.int r3), none]) (st1 := [(.int r3), (.int r1)]) (mem1 := m6) rfl ?_
                refine it_V.call it_cd114 it_m114 rfl it_m213 [(.int r1), (.int r3)] [] rfl rfl ⟨Nat.le_of_ble_eq_true rfl, Nat.le_of_ble_eq_true rfl, Nat.le_of_ble_eq_true rfl, Nat.le_of_ble_eq_true rfl, rfl⟩ (s_213 kc r1 r3 m6 _ h) ?_
                rintro _ m23 ⟨r22, rfl, h⟩
                refine it_V.at (pc1 := 139) (ls1 := [some (.ref 58), some (.ref x0), some (.int x1), some (.int x2), some (.int r1), some (.int r3), none]) (st1 := [(.int r22)]) (mem1 := m23) rfl rfl rfl rfl ?_
                refine it_V.sN it_cd114 it_m114 2 (pc1 := 171) (ls1 := [some (.ref 58), some (.ref x0), some (.int x1), some (.int x2), some (.int r1), some (.int r3), some (.int r22)]) (st1 := []) (mem1 := m23) rfl ?_
                refine it_V.weak (l := [none, some (.ref x0), some (.int x1), some (.int x2), none, none, some (.int r22)]) ⟨rfl, ⟨rfl, ⟨rfl, ⟨rfl, trivial⟩⟩⟩⟩ ?_
                exact s_114_171 kc Φ x0 x1 x2 r22 (hx0) m23 h
              · have h := h.2 c21
                refine it_V.ite (fun c24 => ?_) (fun c24 => ?_)
                · have h := h.1 c24
                  refine it_V.sN it_cd114 it_m114 2 (pc1 := 148) (ls1 := [some (.ref 58), some (.ref x0), some (.int x1), some (.int x2), some (.int r1), some (.int r3), none]) (st1 := [(.int r3), (.int r1)]) (mem1 := m6) rfl ?_
                  refine it_V.call it_cd114 it_m114 rfl it_m213 [(.int r1), (.int r3)] [] rfl rfl ⟨Nat.le_of_ble_eq_true rfl, Nat.le_of_ble_eq_true rfl, Nat.le_of_ble_eq_true rfl, Nat.le_of_ble_eq_true rfl, rfl⟩ (s_213 kc r1 r3 m6 _ h) ?_
                  rintro _ m26 ⟨r25, rfl, h⟩
                  refine it_V.at (pc1 := 151) (ls1 := [some (.ref 58), some (.ref x0), some (.int x1), some (.int x2), some (.int r1), some (.int r3), none]) (st1 := [(.int r25)]) (mem1 := m26) rfl rfl rfl rfl ?_
                  refine it_V.sN it_cd114 it_m114 1 (pc1 := (if r25 = 0 then 154 else 158)) (ls1 := [some (.ref 58), some (.ref x0), some (.int x1), some (.int x2), some (.int r1), some (.int r3), none]) (st1 := []) (mem1 := m26) rfl ?_
                  refine it_V.ite (fun c27 => ?_) (fun c27 => ?_)
                  · have h := h.1 c27
                    refine it_V.sN it_cd114 it_m114 2 (pc1 := 159) (ls1 := [some (.ref 58), some (.ref x0), some (.int x1), some (.int x2), some (.int r1), some (.int r3), none]) (st1 := [(.int (1 : Int32))]) (mem1 := m26) rfl ?_
                    refine it_V.weak (l := [none, some (.ref x0), some (.int x1), some (.int x2), none, none, none]) ⟨rfl, ⟨rfl, ⟨rfl, trivial⟩⟩⟩ ?_
                    exact s_114_159 kc Φ x0 x1 x2 (1 : Int32) (hx0) m26 h
                  · have h := h.2 c27
                    refine it_V.sN it_cd114 it_m114 1 (pc1 := 159) (ls1 := [some (.ref 58), some (.ref x0), some (.int x1), some (.int x2), some (.int r1), some (.int r3), none]) (st1 := [(.int (0 : Int32))]) (mem1 := m26) rfl ?_
                    refine it_V.weak (l := [none, some (.ref x0), some (.int x1), some (.int x2), none, none, none]) ⟨rfl, ⟨rfl, ⟨rfl, trivial⟩⟩⟩ ?_
                    exact s_114_159 kc Φ x0 x1 x2 (0 : Int32) (hx0) m26 h
                · have h := h.2 c24
                  refine it_V.sN it_cd114 it_m114 3 (pc1 := 167) (ls1 := [some (.ref 58), some (.ref x0), some (.int x1), some (.int x2), some (.int r1), some (.int r3), none]) (st1 := [(.int x1), (.int (2 : Int32)), (.ref 58)]) (mem1 := m6) rfl ?_
                  refine it_V.call it_cd114 it_m114 rfl it_m105 [(.ref 58), (.int (2 : Int32)), (.int x1)] [] rfl rfl ⟨Nat.le_of_ble_eq_true rfl, Nat.le_of_ble_eq_true rfl, Nat.le_of_ble_eq_true rfl, Nat.le_of_ble_eq_true rfl, rfl⟩ (s_105 kc (2 : Int32) x1 m6 _ h) ?_
                  rintro _ m29 ⟨r28, rfl, h⟩
                  refine it_V.at (pc1 := 170) (ls1 := [some (.ref 58), some (.ref x0), some (.int x1), some (.int x2), some (.int r1), some (.int r3), none]) (st1 := [(.int r28)]) (mem1 := m29) rfl rfl rfl rfl ?_
                  exact it_V.ret it_cd114 it_m114 rfl rfl ⟨_, rfl, h⟩
set_option maxRecDepth 100000 in
set_option maxHeartbeats 4000000 in
theorem s_132_21 (kc : it_Kc) (Φ : Int32 → it_Me → Prop) (u0 : Int32) (m : it_Me) (h : w_132_21 kc Φ u0 m) : it_V kc it_sh0 132 21 [none, none] [(.int u0)] m (it_Pi Φ) := by
  rw [w_132_21] at h
  exact it_V.retZ it_cd132 it_m132 rfl rfl h.1 ⟨_, rfl, h.2⟩
set_option maxRecDepth 100000 in
set_option maxHeartbeats 4000000 in
theorem s_132_20 (kc : it_Kc) (Φ : Int32 → it_Me → Prop) (m : it_Me) (h : w_132_20 kc Φ m) : it_V kc it_sh0 132 20 [none, none] [] m (it_Pi Φ) := by
  rw [w_132_20] at h
  refine it_V.sN it_cd132 it_m132 1 (pc1 := 21) (ls1 := [none, none]) (st1 := [(.int (0 : Int32))]) (mem1 := m) rfl ?_
  refine it_V.weak (l := [none, none]) trivial ?_
  exact s_132_21 kc Φ (0 : Int32) m h
set_option maxRecDepth 100000 in
set_option maxHeartbeats 4000000 in
theorem s_132 (kc : it_Kc) (k : Nat) (x0 : Int32) (hk : it_isP k) (m : it_Me) (Φ : Int32 → it_Me → Prop) (h : w_132 kc k x0 m Φ) : it_V kc it_sh0 132 0 (it_loc0 [(.ref k), (.int x0)] 2) [] m (it_Pi Φ) := by
  rw [w_132] at h
  refine it_V.at (pc1 := 0) (ls1 := [some (.ref k), some (.int x0)]) (st1 := []) (mem1 := m) rfl rfl rfl rfl ?_
  refine it_V.sN it_cd132 it_m132 2 (pc1 := 2) (ls1 := [some (.ref k), some (.int x0)]) (st1 := [(.ref k), (.int x0)]) (mem1 := m) rfl ?_
  refine it_V.getP it_cd132 it_m132 rfl (hk).1 rfl ?_
  refine it_V.at (pc1 := 5) (ls1 := [some (.ref k), some (.int x0)]) (st1 := [(.int (m k 5)), (.int x0)]) (mem1 := m) rfl rfl rfl rfl ?_
  refine it_V.sN it_cd132 it_m132 1 (pc1 := (if x0 < (m k 5) then 20 else 8)) (ls1 := [some (.ref k), some (.int x0)]) (st1 := []) (mem1 := m) rfl ?_
  refine it_V.ite (fun c1 => ?_) (fun c1 => ?_)
  · have h := h.1 c1
    refine it_V.weak (l := [none, none]) trivial ?_
    exact s_132_20 kc Φ m h
  · have h := h.2 c1
    refine it_V.sN it_cd132 it_m132 2 (pc1 := 10) (ls1 := [some (.ref k), some (.int x0)]) (st1 := [(.ref k), (.int x0)]) (mem1 := m) rfl ?_
    refine it_V.getP it_cd132 it_m132 rfl (hk).1 rfl ?_
    refine it_V.at (pc1 := 13) (ls1 := [some (.ref k), some (.int x0)]) (st1 := [(.int (m k 7)), (.int x0)]) (mem1 := m) rfl rfl rfl rfl ?_
    refine it_V.sN it_cd132 it_m132 1 (pc1 := (if (m k 7) ≤ x0 then 20 else 16)) (ls1 := [some (.ref k), some (.int x0)]) (st1 := []) (mem1 := m) rfl ?_
    refine it_V.ite (fun c2 => ?_) (fun c2 => ?_)
    · have h := h.1 c2
      refine it_V.weak (l := [none, none]) trivial ?_
      exact s_132_20 kc Φ m h
    · have h := h.2 c2
      refine it_V.sN it_cd132 it_m132 2 (pc1 := 21) (ls1 := [some (.ref k), some (.int x0)]) (st1 := [(.int (1 : Int32))]) (mem1 := m) rfl ?_
      refine it_V.weak (l := [none, none]) trivial ?_
      exact s_132_21 kc Φ (1 : Int32) m h
set_option maxRecDepth 100000 in
set_option maxHeartbeats 4000000 in
theorem s_133_35 (kc : it_Kc) (Φ : Int32 → it_Me → Prop) (u0 : Int32) (m : it_Me) (h : w_133_35 kc Φ u0 m) : it_V kc it_sh0 133 35 [none, none] [(.int u0)] m (it_Pi Φ) := by
  rw [w_133_35] at h
  exact it_V.retZ it_cd133 it_m133 rfl rfl h.1 ⟨_, rfl, h.2⟩
set_option maxRecDepth 100000 in
set_option maxHeartbeats 4000000 in
theorem s_133_34 (kc : it_Kc) (Φ : Int32 → it_Me → Prop) (m : it_Me) (h : w_133_34 kc Φ m) : it_V kc it_sh0 133 34 [none, none] [] m (it_Pi Φ) := by
  rw [w_133_34] at h
  refine it_V.sN it_cd133 it_m133 1 (pc1 := 35) (ls1 := [none, none]) (st1 := [(.int (0 : Int32))]) (mem1 := m) rfl ?_
  refine it_V.weak (l := [none, none]) trivial ?_
  exact s_133_35 kc Φ (0 : Int32) m h
set_option maxRecDepth 100000 in
set_option maxHeartbeats 4000000 in
theorem s_133 (kc : it_Kc) (k : Nat) (x0 : Int32) (hk : it_isP k) (m : it_Me) (Φ : Int32 → it_Me → Prop) (h : w_133 kc k x0 m Φ) : it_V kc it_sh0 133 0 (it_loc0 [(.ref k), (.int x0)] 2) [] m (it_Pi Φ) := by
  rw [w_133] at h
  refine it_V.at (pc1 := 0) (ls1 := [some (.ref k), some (.int x0)]) (st1 := []) (mem1 := m) rfl rfl rfl rfl ?_
  refine it_V.sN it_cd133 it_m133 2 (pc1 := 2) (ls1 := [some (.ref k), some (.int x0)]) (st1 := [(.ref k), (.int x0)]) (mem1 := m) rfl ?_
  refine it_V.getP it_cd133 it_m133 rfl (hk).1 rfl ?_
  refine it_V.at (pc1 := 5) (ls1 := [some (.ref k), some (.int x0)]) (st1 := [(.ref (k + 1)), (.int x0)]) (mem1 := m) rfl rfl rfl rfl ?_
  refine it_V.getP it_cd133 it_m133 rfl (hk).2.1 rfl ?_
  refine it_V.at (pc1 := 8) (ls1 := [some (.ref k), some (.int x0)]) (st1 := [(.int (m (k + 1) 1)), (.int x0)]) (mem1 := m) rfl rfl rfl rfl ?_
  refine it_V.sN it_cd133 it_m133 1 (pc1 := (if x0 < (m (k + 1) 1) then 34 else 11)) (ls1 := [some (.ref k), some (.int x0)]) (st1 := []) (mem1 := m) rfl ?_
  refine it_V.ite (fun c1 => ?_) (fun c1 => ?_)
  · have h := h.1 c1
    refine it_V.weak (l := [none, none]) trivial ?_
    exact s_133_34 kc Φ m h
  · have h := h.2 c1
    refine it_V.sN it_cd133 it_m133 2 (pc1 := 13) (ls1 := [some (.ref k), some (.int x0)]) (st1 := [(.ref k), (.int x0)]) (mem1 := m) rfl ?_
    refine it_V.getP it_cd133 it_m133 rfl (hk).1 rfl ?_
    refine it_V.at (pc1 := 16) (ls1 := [some (.ref k), some (.int x0)]) (st1 := [(.ref (k + 1)), (.int x0)]) (mem1 := m) rfl rfl rfl rfl ?_
    refine it_V.getP it_cd133 it_m133 rfl (hk).2.1 rfl ?_
    refine it_V.at (pc1 := 19) (ls1 := [some (.ref k), some (.int x0)]) (st1 := [(.int (m (k + 1) 1)), (.int x0)]) (mem1 := m) rfl rfl rfl rfl ?_
    refine it_V.sN it_cd133 it_m133 1 (pc1 := 20) (ls1 := [some (.ref k), some (.int x0)]) (st1 := [(.ref k), (.int (m (k + 1) 1)), (.int x0)]) (mem1 := m) rfl ?_
    refine it_V.getP it_cd133 it_m133 rfl (hk).1 rfl ?_
    refine it_V.at (pc1 := 23) (ls1 := [some (.ref k), some (.int x0)]) (st1 := [(.ref (k + 1)), (.int (m (k + 1) 1)), (.int x0)]) (mem1 := m) rfl rfl rfl rfl ?_
    refine it_V.getP it_cd133 it_m133 rfl (hk).2.1 rfl ?_
    refine it_V.at (pc1 := 26) (ls1 := [some (.ref k), some (.int x0)]) (st1 := [(.int (m (k + 1) 3)), (.int (m (k + 1) 1)), (.int x0)]) (mem1 := m) rfl rfl rfl rfl ?_
    refine it_V.sN it_cd133 it_m133 2 (pc1 := (if ((m (k + 1) 1) + (m (k + 1) 3)) ≤ x0 then 34 else 30)) (ls1 := [some (.ref k), some (.int x0)]) (st1 := []) (mem1 := m) rfl ?_
    refine it_V.ite (fun c2 => ?_) (fun c2 => ?_)
    · have h := h.1 c2
      refine it_V.weak (l := [none, none]) trivial ?_
      exact s_133_34 kc Φ m h
    · have h := h.2 c2
      refine it_V.sN it_cd133 it_m133 2 (pc1 := 35) (ls1 := [some (.ref k), some (.int x0)]) (st1 := [(.int (1 : Int32))]) (mem1 := m) rfl ?_
      refine it_V.weak (l := [none, none]) trivial ?_
      exact s_133_35 kc Φ (1 : Int32) m h
set_option maxRecDepth 100000 in
set_option maxHeartbeats 4000000 in
theorem s_115_18 (kc : it_Kc) (Φ : Int32 → it_Me → Prop) (v2 : Int32) (m : it_Me) (h : w_115_18 kc Φ v2 m) : it_V kc it_sh0 115 18 [some (.ref 58), none, some (.int v2), none, none, none] [] m (it_Pi Φ) := by
  rw [w_115_18] at h
  refine it_V.sN it_cd115 it_m115 3 (pc1 := 21) (ls1 := [some (.ref 58), none, some (.int v2), none, none, none]) (st1 := [(.int v2), (.int (2 : Int32)), (.ref 58)]) (mem1 := m) rfl ?_
  refine it_V.call it_cd115 it_m115 rfl it_m105 [(.ref 58), (.int (2 : Int32)), (.int v2)] [] rfl rfl ⟨Nat.le_of_ble_eq_true rfl, Nat.le_of_ble_eq_true rfl, Nat.le_of_ble_eq_true rfl, Nat.le_of_ble_eq_true rfl, rfl⟩ (s_105 kc (2 : Int32) v2 m _ h) ?_
  rintro _ m2 ⟨r1, rfl, h⟩
  refine it_V.at (pc1 := 24) (ls1 := [some (.ref 58), none, some (.int v2), none, none, none]) (st1 := [(.int r1)]) (mem1 := m2) rfl rfl rfl rfl ?_
  exact it_V.ret it_cd115 it_m115 rfl rfl ⟨_, rfl, h⟩
set_option maxRecDepth 100000 in
set_option maxHeartbeats 4000000 in
theorem s_115_85 (kc : it_Kc) (Φ : Int32 → it_Me → Prop) (v1 : Nat) (v2 : Int32) (v3 : Int32) (v4 : Int32) (v5 : Int32) (hv1 : it_isP v1) (m : it_Me) (h : w_115_85 kc Φ v1 v2 v3 v4 v5 m) : it_V kc it_sh0 115 85 [some (.ref 58), some (.ref v1), some (.int v2), some (.int v3), some (.int v4), some (.int v5)] [] m (it_Pi Φ) := by
  rw [w_115_85] at h
  refine it_V.sN it_cd115 it_m115 1 (pc1 := 87) (ls1 := [some (.ref 58), some (.ref v1), some (.int v2), some (.int v3), some (.int v4), some (.int v5)]) (st1 := [(.int v4)]) (mem1 := m) rfl ?_
  refine it_V.sN it_cd115 it_m115 1 (pc1 := (if v4 = (0 : Int32) then 120 else (if v4 = (1 : Int32) then 137 else (if v4 = (2 : Int32) then 154 else (if v4 = (3 : Int32) then 186 else (if v4 = (4 : Int32) then 170 else 186)))))) (ls1 := [some (.ref 58), some (.ref v1), some (.int v2), some (.int v3), some (.int v4), some (.int v5)]) (st1 := []) (mem1 := m) rfl ?_
  refine it_V.ite (fun c1 => ?_) (fun c1 => ?_)
  · have h := h.1 c1
    refine it_V.sN it_cd115 it_m115 5 (pc1 := 128) (ls1 := [some (.ref 58), some (.ref v1), some (.int v2), some (.int v3), some (.int v4), some (.int v5)]) (st1 := [(.int v5), (.ref 1), (.int v2), (.ref v1)]) (mem1 := m) rfl ?_
    refine it_V.call it_cd115 it_m115 rfl it_m16 [(.ref 1), (.int v5)] [(.int v2), (.ref v1)] rfl rfl ⟨Nat.le_of_ble_eq_true rfl, Nat.le_of_ble_eq_true rfl, Nat.le_of_ble_eq_true rfl, Nat.le_of_ble_eq_true rfl, rfl⟩ (s_16 kc v5 m _ h) ?_
    rintro _ m3 ⟨r2, rfl, h⟩
    refine it_V.at (pc1 := 131) (ls1 := [some (.ref 58), some (.ref v1), some (.int v2), some (.int v3), some (.int v4), some (.int v5)]) (st1 := [(.int r2), (.int v2), (.ref v1)]) (mem1 := m3) rfl rfl rfl rfl ?_
    refine it_V.sN it_cd115 it_m115 2 (pc1 := 133) (ls1 := [some (.ref 58), some (.ref v1), some (.int v2), some (.int v3), some (.int v4), some (.int v5)]) (st1 := [(.int v3), (.int (it_i2b r2)), (.int v2), (.ref v1)]) (mem1 := m3) rfl ?_
    refine it_V.call it_cd115 it_m115 rfl it_m107 [(.ref v1), (.int v2), (.int (it_i2b r2)), (.int v3)] [] rfl rfl ⟨Nat.le_of_ble_eq_true rfl, Nat.le_of_ble_eq_true rfl, Nat.le_of_ble_eq_true rfl, Nat.le_of_ble_eq_true rfl, rfl⟩ (s_107 kc v1 v2 (it_i2b r2) v3 (hv1) m3 _ h) ?_
    rintro _ m5 ⟨r4, rfl, h⟩
    refine it_V.at (pc1 := 136) (ls1 := [some (.ref 58), some (.ref v1), some (.int v2), some (.int v3), some (.int v4), some (.int v5)]) (st1 := [(.int r4)]) (mem1 := m5) rfl rfl rfl rfl ?_
    exact it_V.ret it_cd115 it_m115 rfl rfl ⟨_, rfl, h⟩
  · have h := h.2 c1
    refine it_V.ite (fun c6 => ?_) (fun c6 => ?_)
    · have h := h.1 c6
      refine it_V.sN it_cd115 it_m115 5 (pc1 := 145) (ls1 := [some (.ref 58), some (.ref v1), some (.int v2), some (.int v3), some (.int v4), some (.int v5)]) (st1 := [(.int v5), (.ref 1), (.int v2), (.ref v1)]) (mem1 := m) rfl ?_
      refine it_V.call it_cd115 it_m115 rfl it_m14 [(.ref 1), (.int v5)] [(.int v2), (.ref v1)] rfl rfl ⟨Nat.le_of_ble_eq_true rfl, Nat.le_of_ble_eq_true rfl, Nat.le_of_ble_eq_true rfl, Nat.le_of_ble_eq_true rfl, rfl⟩ (s_14 kc v5 m _ h) ?_
      rintro _ m8 ⟨r7, rfl, h⟩
      refine it_V.at (pc1 := 148) (ls1 := [some (.ref 58), some (.ref v1), some (.int v2), some (.int v3), some (.int v4), some (.int v5)]) (st1 := [(.int r7), (.int v2), (.ref v1)]) (mem1 := m8) rfl rfl rfl rfl ?_
      refine it_V.sN it_cd115 it_m115 2 (pc1 := 150) (ls1 := [some (.ref 58), some (.ref v1), some (.int v2), some (.int v3), some (.int v4), some (.int v5)]) (st1 := [(.int v3), (.int (it_i2s r7)), (.int v2), (.ref v1)]) (mem1 := m8) rfl ?_
      refine it_V.call it_cd115 it_m115 rfl it_m107 [(.ref v1), (.int v2), (.int (it_i2s r7)), (.int v3)] [] rfl rfl ⟨Nat.le_of_ble_eq_true rfl, Nat.le_of_ble_eq_true rfl, Nat.le_of_ble_eq_true rfl, Nat.le_of_ble_eq_true rfl, rfl⟩ (s_107 kc v1 v2 (it_i2s r7) v3 (hv1) m8 _ h) ?_
      rintro _ m10 ⟨r9, rfl, h⟩
      refine it_V.at (pc1 := 153) (ls1 := [some (.ref 58), some (.ref v1), some (.int v2), some (.int v3), some (.int v4), some (.int v5)]) (st1 := [(.int r9)]) (mem1 := m10) rfl rfl rfl rfl ?_
      exact it_V.ret it_cd115 it_m115 rfl rfl ⟨_, rfl, h⟩
    · have h := h.2 c6
      refine it_V.ite (fun c11 => ?_) (fun c11 => ?_)
      · have h := h.1 c11
        refine it_V.sN it_cd115 it_m115 5 (pc1 := 162) (ls1 := [some (.ref 58), some (.ref v1), some (.int v2), some (.int v3), some (.int v4), some (.int v5)]) (st1 := [(.int v5), (.ref 1), (.int v2), (.ref v1)]) (mem1 := m) rfl ?_
        refine it_V.call it_cd115 it_m115 rfl it_m12 [(.ref 1), (.int v5)] [(.int v2), (.ref v1)] rfl rfl ⟨Nat.le_of_ble_eq_true rfl, Nat.le_of_ble_eq_true rfl, Nat.le_of_ble_eq_true rfl, Nat.le_of_ble_eq_true rfl, rfl⟩ (s_12 kc v5 m _ h) ?_
        rintro _ m13 ⟨r12, rfl, h⟩
        refine it_V.at (pc1 := 165) (ls1 := [some (.ref 58), some (.ref v1), some (.int v2), some (.int v3), some (.int v4), some (.int v5)]) (st1 := [(.int r12), (.int v2), (.ref v1)]) (mem1 := m13) rfl rfl rfl rfl ?_
        refine it_V.sN it_cd115 it_m115 1 (pc1 := 166) (ls1 := [some (.ref 58), some (.ref v1), some (.int v2), some (.int v3), some (.int v4), some (.int v5)]) (st1 := [(.int v3), (.int r12), (.int v2), (.ref v1)]) (mem1 := m13) rfl ?_
        refine it_V.call it_cd115 it_m115 rfl it_m107 [(.ref v1), (.int v2), (.int r12), (.int v3)] [] rfl rfl ⟨Nat.le_of_ble_eq_true rfl, Nat.le_of_ble_eq_true rfl, Nat.le_of_ble_eq_true rfl, Nat.le_of_ble_eq_true rfl, rfl⟩ (s_107 kc v1 v2 r12 v3 (hv1) m13 _ h) ?_
        rintro _ m15 ⟨r14, rfl, h⟩
        refine it_V.at (pc1 := 169) (ls1 := [some (.ref 58), some (.ref v1), some (.int v2), some (.int v3), some (.int v4), some (.int v5)]) (st1 := [(.int r14)]) (mem1 := m15) rfl rfl rfl rfl ?_
        exact it_V.ret it_cd115 it_m115 rfl rfl ⟨_, rfl, h⟩
      · have h := h.2 c11
        refine it_V.ite (fun c16 => ?_) (fun c16 => ?_)
        · have h := h.1 c16
          refine it_V.sN it_cd115 it_m115 5 (pc1 := 194) (ls1 := [some (.ref 58), some (.ref v1), some (.int v2), some (.int v3), some (.int v4), some (.int v5)]) (st1 := [(.int v5), (.ref 1), (.int v2), (.ref v1)]) (mem1 := m) rfl ?_
          refine it_V.call it_cd115 it_m115 rfl it_m14 [(.ref 1), (.int v5)] [(.int v2), (.ref v1)] rfl rfl ⟨Nat.le_of_ble_eq_true rfl, Nat.le_of_ble_eq_true rfl, Nat.le_of_ble_eq_true rfl, Nat.le_of_ble_eq_true rfl, rfl⟩ (s_14 kc v5 m _ h) ?_
          rintro _ m18 ⟨r17, rfl, h⟩
          refine it_V.at (pc1 := 197) (ls1 := [some (.ref 58), some (.ref v1), some (.int v2), some (.int v3), some (.int v4), some (.int v5)]) (st1 := [(.int r17), (.int v2), (.ref v1)]) (mem1 := m18) rfl rfl rfl rfl ?_
          refine it_V.sN it_cd115 it_m115 1 (pc1 := 198) (ls1 := [some (.ref 58), some (.ref v1), some (.int v2), some (.int v3), some (.int v4), some (.int v5)]) (st1 := [(.int v3), (.int r17), (.int v2), (.ref v1)]) (mem1 := m18) rfl ?_
          refine it_V.call it_cd115 it_m115 rfl it_m107 [(.ref v1), (.int v2), (.int r17), (.int v3)] [] rfl rfl ⟨Nat.le_of_ble_eq_true rfl, Nat.le_of_ble_eq_true rfl, Nat.le_of_ble_eq_true rfl, Nat.le_of_ble_eq_true rfl, rfl⟩ (s_107 kc v1 v2 r17 v3 (hv1) m18 _ h) ?_
          rintro _ m20 ⟨r19, rfl, h⟩
          refine it_V.at (pc1 := 201) (ls1 := [some (.ref 58), some (.ref v1), some (.int v2), some (.int v3), some (.int v4), some (.int v5)]) (st1 := [(.int r19)]) (mem1 := m20) rfl rfl rfl rfl ?_
          exact it_V.ret it_cd115 it_m115 rfl rfl ⟨_, rfl, h⟩
        · have h := h.2 c16
          refine it_V.ite (fun c21 => ?_) (fun c21 => ?_)
          · have h := h.1 c21
            refine it_V.sN it_cd115 it_m115 5 (pc1 := 178) (ls1 := [some (.ref 58), some (.ref v1), some (.int v2), some (.int v3), some (.int v4), some (.int v5)]) (st1 := [(.int v5), (.ref 1), (.int v2), (.ref v1)]) (mem1 := m) rfl ?_
            refine it_V.call it_cd115 it_m115 rfl it_m16 [(.ref 1), (.int v5)] [(.int v2), (.ref v1)] rfl rfl ⟨Nat.le_of_ble_eq_true rfl, Nat.le_of_ble_eq_true rfl, Nat.le_of_ble_eq_true rfl, Nat.le_of_ble_eq_true rfl, rfl⟩ (s_16 kc v5 m _ h) ?_
            rintro _ m23 ⟨r22, rfl, h⟩
            refine it_V.at (pc1 := 181) (ls1 := [some (.ref 58), some (.ref v1), some (.int v2), some (.int v3), some (.int v4), some (.int v5)]) (st1 := [(.int r22), (.int v2), (.ref v1)]) (mem1 := m23) rfl rfl rfl rfl ?_
            refine it_V.sN it_cd115 it_m115 1 (pc1 := 182) (ls1 := [some (.ref 58), some (.ref v1), some (.int v2), some (.int v3), some (.int v4), some (.int v5)]) (st1 := [(.int v3), (.int r22), (.int v2), (.ref v1)]) (mem1 := m23) rfl ?_
            refine it_V.call it_cd115 it_m115 rfl it_m107 [(.ref v1), (.int v2), (.int r22), (.int v3)] [] rfl rfl ⟨Nat.le_of_ble_eq_true rfl, Nat.le_of_ble_eq_true rfl, Nat.le_of_ble_eq_true rfl, Nat.le_of_ble_eq_true rfl, rfl⟩ (s_107 kc v1 v2 r22 v3 (hv1) m23 _ h) ?_
            rintro _ m25 ⟨r24, rfl, h⟩
            refine it_V.at (pc1 := 185) (ls1 := [some (.ref 58), some (.ref v1), some (.int v2), some (.int v3), some (.int v4), some (.int v5)]) (st1 := [(.int r24)]) (mem1 := m25) rfl rfl rfl rfl ?_
            exact it_V.ret it_cd115 it_m115 rfl rfl ⟨_, rfl, h⟩
          · have h := h.2 c21
            refine it_V.sN it_cd115 it_m115 5 (pc1 := 194) (ls1 := [some (.ref 58), some (.ref v1), some (.int v2), some (.int v3), some (.int v4), some (.int v5)]) (st1 := [(.int v5), (.ref 1), (.int v2), (.ref v1)]) (mem1 := m) rfl ?_
            refine it_V.call it_cd115 it_m115 rfl it_m14 [(.ref 1), (.int v5)] [(.int v2), (.ref v1)] rfl rfl ⟨Nat.le_of_ble_eq_true rfl, Nat.le_of_ble_eq_true rfl, Nat.le_of_ble_eq_true rfl, Nat.le_of_ble_eq_true rfl, rfl⟩ (s_14 kc v5 m _ h) ?_
            rintro _ m27 ⟨r26, rfl, h⟩
            refine it_V.at (pc1 := 197) (ls1 := [some (.ref 58), some (.ref v1), some (.int v2), some (.int v3), some (.int v4), some (.int v5)]) (st1 := [(.int r26), (.int v2), (.ref v1)]) (mem1 := m27) rfl rfl rfl rfl ?_
            refine it_V.sN it_cd115 it_m115 1 (pc1 := 198) (ls1 := [some (.ref 58), some (.ref v1), some (.int v2), some (.int v3), some (.int v4), some (.int v5)]) (st1 := [(.int v3), (.int r26), (.int v2), (.ref v1)]) (mem1 := m27) rfl ?_
            refine it_V.call it_cd115 it_m115 rfl it_m107 [(.ref v1), (.int v2), (.int r26), (.int v3)] [] rfl rfl ⟨Nat.le_of_ble_eq_true rfl, Nat.le_of_ble_eq_true rfl, Nat.le_of_ble_eq_true rfl, Nat.le_of_ble_eq_true rfl, rfl⟩ (s_107 kc v1 v2 r26 v3 (hv1) m27 _ h) ?_
            rintro _ m29 ⟨r28, rfl, h⟩
            refine it_V.at (pc1 := 201) (ls1 := [some (.ref 58), some (.ref v1), some (.int v2), some (.int v3), some (.int v4), some (.int v5)]) (st1 := [(.int r28)]) (mem1 := m29) rfl rfl rfl rfl ?_
            exact it_V.ret it_cd115 it_m115 rfl rfl ⟨_, rfl, h⟩
set_option maxRecDepth 100000 in
set_option maxHeartbeats 4000000 in
theorem s_115 (kc : it_Kc) (x0 : Nat) (x1 : Int32) (x2 : Int32) (hx0 : it_isP x0) (m : it_Me) (Φ : Int32 → it_Me → Prop) (h : w_115 kc x0 x1 x2 m Φ) : it_V kc it_sh0 115 0 (it_loc0 [(.ref 58), (.ref x0), (.int x1), (.int x2)] 6) [] m (it_Pi Φ) := by
  rw [w_115] at h
  refine it_V.at (pc1 := 0) (ls1 := [some (.ref 58), some (.ref x0), some (.int x1), some (.int x2), none, none]) (st1 := []) (mem1 := m) rfl rfl rfl rfl ?_
  refine it_V.sN it_cd115 it_m115 1 (pc1 := 1) (ls1 := [some (.ref 58), some (.ref x0), some (.int x1), some (.int x2), none, none]) (st1 := [(.int x1)]) (mem1 := m) rfl ?_
  refine it_V.call it_cd115 it_m115 rfl it_m108 [(.int x1)] [] rfl rfl ⟨Nat.le_of_ble_eq_true rfl, Nat.le_of_ble_eq_true rfl, Nat.le_of_ble_eq_true rfl, Nat.le_of_ble_eq_true rfl, rfl⟩ (s_108 kc x1 m _ h) ?_
  rintro _ m2 ⟨r1, rfl, h⟩
  refine it_V.at (pc1 := 4) (ls1 := [some (.ref 58), some (.ref x0), some (.int x1), some (.int x2), none, none]) (st1 := [(.int r1)]) (mem1 := m2) rfl rfl rfl rfl ?_
  refine it_V.sN it_cd115 it_m115 4 (pc1 := (if r1 = (3 : Int32) then 18 else 12)) (ls1 := [some (.ref 58), some (.ref x0), some (.int x1), some (.int x2), some (.int r1), none]) (st1 := []) (mem1 := m2) rfl ?_
  refine it_V.ite (fun c3 => ?_) (fun c3 => ?_)
  · have h := h.1 c3
    refine it_V.weak (l := [some (.ref 58), none, some (.int x1), none, none, none]) ⟨rfl, ⟨rfl, trivial⟩⟩ ?_
    exact s_115_18 kc Φ x1 m2 h
  · have h := h.2 c3
    refine it_V.sN it_cd115 it_m115 3 (pc1 := (if r1 ≤ (5 : Int32) then 25 else 18)) (ls1 := [some (.ref 58), some (.ref x0), some (.int x1), some (.int x2), some (.int r1), none]) (st1 := []) (mem1 := m2) rfl ?_
    refine it_V.ite (fun c4 => ?_) (fun c4 => ?_)
    · have h := h.1 c4
      refine it_V.sN it_cd115 it_m115 2 (pc1 := 27) (ls1 := [some (.ref 58), some (.ref x0), some (.int x1), some (.int x2), some (.int r1), none]) (st1 := [(.int x1), (.ref x0)]) (mem1 := m2) rfl ?_
      refine it_V.call it_cd115 it_m115 rfl it_m109 [(.ref x0), (.int x1)] [] rfl rfl ⟨Nat.le_of_ble_eq_true rfl, Nat.le_of_ble_eq_true rfl, Nat.le_of_ble_eq_true rfl, Nat.le_of_ble_eq_true rfl, rfl⟩ (s_109 kc x0 x1 (hx0) m2 _ h) ?_
      rintro _ m6 ⟨r5, rfl, h⟩
      refine it_V.at (pc1 := 30) (ls1 := [some (.ref 58), some (.ref x0), some (.int x1), some (.int x2), some (.int r1), none]) (st1 := [(.int r5)]) (mem1 := m6) rfl rfl rfl rfl ?_
      refine it_V.sN it_cd115 it_m115 15 (pc1 := (if ((r5 + (it_shr x1 (20 : Int32))) &&& ((it_shl (1 : Int32) (r1 &&& (3 : Int32))) - (1 : Int32))) = 0 then 59 else 51)) (ls1 := [some (.ref 58), some (.ref x0), some (.int x1), some (.int x2), some (.int r1), some (.int (r5 + (it_shr x1 (20 : Int32))))]) (st1 := []) (mem1 := m6) rfl ?_
      refine it_V.ite (fun c7 => ?_) (fun c7 => ?_)
      · have h := h.1 c7
        refine it_V.sN it_cd115 it_m115 2 (pc1 := 62) (ls1 := [some (.ref 58), some (.ref x0), some (.int x1), some (.int x2), some (.int r1), some (.int (r5 + (it_shr x1 (20 : Int32))))]) (st1 := [(.int (r5 + (it_shr x1 (20 : Int32)))), (.ref x0)]) (mem1 := m6) rfl ?_
        refine it_V.call it_cd115 it_m115 rfl it_m132 [(.ref x0), (.int (r5 + (it_shr x1 (20 : Int32))))] [] rfl rfl ⟨Nat.le_of_ble_eq_true rfl, Nat.le_of_ble_eq_true rfl, Nat.le_of_ble_eq_true rfl, Nat.le_of_ble_eq_true rfl, (it_recvP (hx0).1)⟩ (s_132 kc x0 (r5 + (it_shr x1 (20 : Int32))) (hx0) m6 _ h) ?_
        rintro _ m9 ⟨r8, rfl, h⟩
        refine it_V.at (pc1 := 65) (ls1 := [some (.ref 58), some (.ref x0), some (.int x1), some (.int x2), some (.int r1), some (.int (r5 + (it_shr x1 (20 : Int32))))]) (st1 := [(.int r8)]) (mem1 := m9) rfl rfl rfl rfl ?_
        refine it_V.sN it_cd115 it_m115 1 (pc1 := (if r8 = 0 then 68 else 85)) (ls1 := [some (.ref 58), some (.ref x0), some (.int x1), some (.int x2), some (.int r1), some (.int (r5 + (it_shr x1 (20 : Int32))))]) (st1 := []) (mem1 := m9) rfl ?_
        refine it_V.ite (fun c10 => ?_) (fun c10 => ?_)
        · have h := h.1 c10
          refine it_V.sN it_cd115 it_m115 2 (pc1 := 71) (ls1 := [some (.ref 58), some (.ref x0), some (.int x1), some (.int x2), some (.int r1), some (.int (r5 + (it_shr x1 (20 : Int32))))]) (st1 := [(.int (r5 + (it_shr x1 (20 : Int32)))), (.ref x0)]) (mem1 := m9) rfl ?_
          refine it_V.call it_cd115 it_m115 rfl it_m133 [(.ref x0), (.int (r5 + (it_shr x1 (20 : Int32))))] [] rfl rfl ⟨Nat.le_of_ble_eq_true rfl, Nat.le_of_ble_eq_true rfl, Nat.le_of_ble_eq_true rfl, Nat.le_of_ble_eq_true rfl, (it_recvP (hx0).1)⟩ (s_133 kc x0 (r5 + (it_shr x1 (20 : Int32))) (hx0) m9 _ h) ?_
          rintro _ m12 ⟨r11, rfl, h⟩
          refine it_V.at (pc1 := 74) (ls1 := [some (.ref 58), some (.ref x0), some (.int x1), some (.int x2), some (.int r1), some (.int (r5 + (it_shr x1 (20 : Int32))))]) (st1 := [(.int r11)]) (mem1 := m12) rfl rfl rfl rfl ?_
          refine it_V.sN it_cd115 it_m115 1 (pc1 := (if r11 = 0 then 77 else 85)) (ls1 := [some (.ref 58), some (.ref x0), some (.int x1), some (.int x2), some (.int r1), some (.int (r5 + (it_shr x1 (20 : Int32))))]) (st1 := []) (mem1 := m12) rfl ?_
          refine it_V.ite (fun c13 => ?_) (fun c13 => ?_)
          · have h := h.1 c13
            refine it_V.sN it_cd115 it_m115 3 (pc1 := 81) (ls1 := [some (.ref 58), some (.ref x0), some (.int x1), some (.int x2), some (.int r1), some (.int (r5 + (it_shr x1 (20 : Int32))))]) (st1 := [(.int (r5 + (it_shr x1 (20 : Int32)))), (.int (5 : Int32)), (.ref 58)]) (mem1 := m12) rfl ?_
            refine it_V.call it_cd115 it_m115 rfl it_m105 [(.ref 58), (.int (5 : Int32)), (.int (r5 + (it_shr x1 (20 : Int32))))] [] rfl rfl ⟨Nat.le_of_ble_eq_true rfl, Nat.le_of_ble_eq_true rfl, Nat.le_of_ble_eq_true rfl, Nat.le_of_ble_eq_true rfl, rfl⟩ (s_105 kc (5 : Int32) (r5 + (it_shr x1 (20 : Int32))) m12 _ h) ?_
            rintro _ m15 ⟨r14, rfl, h⟩
            refine it_V.at (pc1 := 84) (ls1 := [some (.ref 58), some (.ref x0), some (.int x1), some (.int x2), some (.int r1), some (.int (r5 + (it_shr x1 (20 : Int32))))]) (st1 := [(.int r14)]) (mem1 := m15) rfl rfl rfl rfl ?_
            exact it_V.ret it_cd115 it_m115 rfl rfl ⟨_, rfl, h⟩
          · have h := h.2 c13
            exact s_115_85 kc Φ x0 x1 x2 r1 (r5 + (it_shr x1 (20 : Int32))) (hx0) m12 h
        · have h := h.2 c10
          exact s_115_85 kc Φ x0 x1 x2 r1 (r5 + (it_shr x1 (20 : Int32))) (hx0) m9 h
      · have h := h.2 c7
        refine it_V.sN it_cd115 it_m115 3 (pc1 := 55) (ls1 := [some (.ref 58), some (.ref x0), some (.int x1), some (.int x2), some (.int r1), some (.int (r5 + (it_shr x1 (20 : Int32))))]) (st1 := [(.int (r5 + (it_shr x1 (20 : Int32)))), (.int (4 : Int32)), (.ref 58)]) (mem1 := m6) rfl ?_
        refine it_V.call it_cd115 it_m115 rfl it_m105 [(.ref 58), (.int (4 : Int32)), (.int (r5 + (it_shr x1 (20 : Int32))))] [] rfl rfl ⟨Nat.le_of_ble_eq_true rfl, Nat.le_of_ble_eq_true rfl, Nat.le_of_ble_eq_true rfl, Nat.le_of_ble_eq_true rfl, rfl⟩ (s_105 kc (4 : Int32) (r5 + (it_shr x1 (20 : Int32))) m6 _ h) ?_
        rintro _ m17 ⟨r16, rfl, h⟩
        refine it_V.at (pc1 := 58) (ls1 := [some (.ref 58), some (.ref x0), some (.int x1), some (.int x2), some (.int r1), some (.int (r5 + (it_shr x1 (20 : Int32))))]) (st1 := [(.int r16)]) (mem1 := m17) rfl rfl rfl rfl ?_
        exact it_V.ret it_cd115 it_m115 rfl rfl ⟨_, rfl, h⟩
    · have h := h.2 c4
      refine it_V.weak (l := [some (.ref 58), none, some (.int x1), none, none, none]) ⟨rfl, ⟨rfl, trivial⟩⟩ ?_
      exact s_115_18 kc Φ x1 m2 h
set_option maxRecDepth 100000 in
set_option maxHeartbeats 4000000 in
theorem s_116_137 (kc : it_Kc) (Φ : Int32 → it_Me → Prop) (v1 : Nat) (v3 : Int32) (hv1 : it_isP v1) (m : it_Me) (h : w_116_137 kc Φ v1 v3 m) : it_V kc it_sh0 116 137 [none, some (.ref v1), none, some (.int v3), none, none, none] [] m (it_Pi Φ) := by
  rw [w_116_137] at h
  refine it_V.sN it_cd116 it_m116 2 (pc1 := 139) (ls1 := [none, some (.ref v1), none, some (.int v3), none, none, none]) (st1 := [(.int v3), (.ref v1)]) (mem1 := m) rfl ?_
  refine it_V.putP it_cd116 it_m116 rfl (hv1).1 rfl rfl rfl (Or.inl rfl) ?_
  refine it_V.at (pc1 := 142) (ls1 := [none, some (.ref v1), none, some (.int v3), none, none, none]) (st1 := []) (mem1 := (it_sv m v1 3 v3)) rfl rfl rfl rfl ?_
  refine it_V.sN it_cd116 it_m116 1 (pc1 := 143) (ls1 := [none, some (.ref v1), none, some (.int v3), none, none, none]) (st1 := [(.int (0 : Int32))]) (mem1 := (it_sv m v1 3 v3)) rfl ?_
  exact it_V.ret it_cd116 it_m116 rfl rfl ⟨_, rfl, h⟩
set_option maxRecDepth 100000 in
set_option maxHeartbeats 4000000 in
theorem s_116 (kc : it_Kc) (x0 : Nat) (x1 : Int32) (x2 : Int32) (hx0 : it_isP x0) (m : it_Me) (Φ : Int32 → it_Me → Prop) (h : w_116 kc x0 x1 x2 m Φ) : it_V kc it_sh0 116 0 (it_loc0 [(.ref 58), (.ref x0), (.int x1), (.int x2)] 7) [] m (it_Pi Φ) := by
  rw [w_116] at h
  refine it_V.at (pc1 := 0) (ls1 := [some (.ref 58), some (.ref x0), some (.int x1), some (.int x2), none, none, none]) (st1 := []) (mem1 := m) rfl rfl rfl rfl ?_
  refine it_V.sN it_cd116 it_m116 1 (pc1 := 1) (ls1 := [some (.ref 58), some (.ref x0), some (.int x1), some (.int x2), none, none, none]) (st1 := [(.int x1)]) (mem1 := m) rfl ?_
  refine it_V.call it_cd116 it_m116 rfl it_m108 [(.int x1)] [] rfl rfl ⟨Nat.le_of_ble_eq_true rfl, Nat.le_of_ble_eq_true rfl, Nat.le_of_ble_eq_true rfl, Nat.le_of_ble_eq_true rfl, rfl⟩ (s_108 kc x1 m _ h) ?_
  rintro _ m2 ⟨r1, rfl, h⟩
  refine it_V.at (pc1 := 4) (ls1 := [some (.ref 58), some (.ref x0), some (.int x1), some (.int x2), none, none, none]) (st1 := [(.int r1)]) (mem1 := m2) rfl rfl rfl rfl ?_
  refine it_V.sN it_cd116 it_m116 4 (pc1 := (if r1 ≤ (2 : Int32) then 19 else 12)) (ls1 := [some (.ref 58), some (.ref x0), some (.int x1), some (.int x2), some (.int r1), none, none]) (st1 := []) (mem1 := m2) rfl ?_
  refine it_V.ite (fun c3 => ?_) (fun c3 => ?_)
  · have h := h.1 c3
    refine it_V.sN it_cd116 it_m116 2 (pc1 := 21) (ls1 := [some (.ref 58), some (.ref x0), some (.int x1), some (.int x2), some (.int r1), none, none]) (st1 := [(.int x1), (.ref x0)]) (mem1 := m2) rfl ?_
    refine it_V.call it_cd116 it_m116 rfl it_m109 [(.ref x0), (.int x1)] [] rfl rfl ⟨Nat.le_of_ble_eq_true rfl, Nat.le_of_ble_eq_true rfl, Nat.le_of_ble_eq_true rfl, Nat.le_of_ble_eq_true rfl, rfl⟩ (s_109 kc x0 x1 (hx0) m2 _ h) ?_
    rintro _ m5 ⟨r4, rfl, h⟩
    refine it_V.at (pc1 := 24) (ls1 := [some (.ref 58), some (.ref x0), some (.int x1), some (.int x2), some (.int r1), none, none]) (st1 := [(.int r4)]) (mem1 := m5) rfl rfl rfl rfl ?_
    refine it_V.sN it_cd116 it_m116 21 (pc1 := (if ((r4 + ((it_shl (it_shr x1 (25 : Int32)) (5 : Int32)) ||| ((it_us x1 (7 : Int32)) &&& (31 : Int32)))) &&& ((it_shl (1 : Int32) r1) - (1 : Int32))) = 0 then 62 else 53)) (ls1 := [some (.ref 58), some (.ref x0), some (.int x1), some (.int x2), some (.int r1), some (.int (r4 + ((it_shl (it_shr x1 (25 : Int32)) (5 : Int32)) ||| ((it_us x1 (7 : Int32)) &&& (31 : Int32))))), none]) (st1 := []) (mem1 := m5) rfl ?_
    refine it_V.ite (fun c6 => ?_) (fun c6 => ?_)
    · have h := h.1 c6
      refine it_V.sN it_cd116 it_m116 2 (pc1 := 65) (ls1 := [some (.ref 58), some (.ref x0), some (.int x1), some (.int x2), some (.int r1), some (.int (r4 + ((it_shl (it_shr x1 (25 : Int32)) (5 : Int32)) ||| ((it_us x1 (7 : Int32)) &&& (31 : Int32))))), none]) (st1 := [(.int (r4 + ((it_shl (it_shr x1 (25 : Int32)) (5 : Int32)) ||| ((it_us x1 (7 : Int32)) &&& (31 : Int32))))), (.ref x0)]) (mem1 := m5) rfl ?_
      refine it_V.call it_cd116 it_m116 rfl it_m132 [(.ref x0), (.int (r4 + ((it_shl (it_shr x1 (25 : Int32)) (5 : Int32)) ||| ((it_us x1 (7 : Int32)) &&& (31 : Int32)))))] [] rfl rfl ⟨Nat.le_of_ble_eq_true rfl, Nat.le_of_ble_eq_true rfl, Nat.le_of_ble_eq_true rfl, Nat.le_of_ble_eq_true rfl, (it_recvP (hx0).1)⟩ (s_132 kc x0 (r4 + ((it_shl (it_shr x1 (25 : Int32)) (5 : Int32)) ||| ((it_us x1 (7 : Int32)) &&& (31 : Int32)))) (hx0) m5 _ h) ?_
      rintro _ m8 ⟨r7, rfl, h⟩
      refine it_V.at (pc1 := 68) (ls1 := [some (.ref 58), some (.ref x0), some (.int x1), some (.int x2), some (.int r1), some (.int (r4 + ((it_shl (it_shr x1 (25 : Int32)) (5 : Int32)) ||| ((it_us x1 (7 : Int32)) &&& (31 : Int32))))), none]) (st1 := [(.int r7)]) (mem1 := m8) rfl rfl rfl rfl ?_
      refine it_V.sN it_cd116 it_m116 1 (pc1 := (if r7 = 0 then 71 else 80)) (ls1 := [some (.ref 58), some (.ref x0), some (.int x1), some (.int x2), some (.int r1), some (.int (r4 + ((it_shl (it_shr x1 (25 : Int32)) (5 : Int32)) ||| ((it_us x1 (7 : Int32)) &&& (31 : Int32))))), none]) (st1 := []) (mem1 := m8) rfl ?_
      refine it_V.ite (fun c9 => ?_) (fun c9 => ?_)
      · have h := h.1 c9
        refine it_V.sN it_cd116 it_m116 3 (pc1 := 76) (ls1 := [some (.ref 58), some (.ref x0), some (.int x1), some (.int x2), some (.int r1), some (.int (r4 + ((it_shl (it_shr x1 (25 : Int32)) (5 : Int32)) ||| ((it_us x1 (7 : Int32)) &&& (31 : Int32))))), none]) (st1 := [(.int (r4 + ((it_shl (it_shr x1 (25 : Int32)) (5 : Int32)) ||| ((it_us x1 (7 : Int32)) &&& (31 : Int32))))), (.int (7 : Int32)), (.ref 58)]) (mem1 := m8) rfl ?_
        refine it_V.call it_cd116 it_m116 rfl it_m105 [(.ref 58), (.int (7 : Int32)), (.int (r4 + ((it_shl (it_shr x1 (25 : Int32)) (5 : Int32)) ||| ((it_us x1 (7 : Int32)) &&& (31 : Int32)))))] [] rfl rfl ⟨Nat.le_of_ble_eq_true rfl, Nat.le_of_ble_eq_true rfl, Nat.le_of_ble_eq_true rfl, Nat.le_of_ble_eq_true rfl, rfl⟩ (s_105 kc (7 : Int32) (r4 + ((it_shl (it_shr x1 (25 : Int32)) (5 : Int32)) ||| ((it_us x1 (7 : Int32)) &&& (31 : Int32)))) m8 _ h) ?_
        rintro _ m11 ⟨r10, rfl, h⟩
        refine it_V.at (pc1 := 79) (ls1 := [some (.ref 58), some (.ref x0), some (.int x1), some (.int x2), some (.int r1), some (.int (r4 + ((it_shl (it_shr x1 (25 : Int32)) (5 : Int32)) ||| ((it_us x1 (7 : Int32)) &&& (31 : Int32))))), none]) (st1 := [(.int r10)]) (mem1 := m11) rfl rfl rfl rfl ?_
        exact it_V.ret it_cd116 it_m116 rfl rfl ⟨_, rfl, h⟩
      · have h := h.2 c9
        refine it_V.sN it_cd116 it_m116 2 (pc1 := 82) (ls1 := [some (.ref 58), some (.ref x0), some (.int x1), some (.int x2), some (.int r1), some (.int (r4 + ((it_shl (it_shr x1 (25 : Int32)) (5 : Int32)) ||| ((it_us x1 (7 : Int32)) &&& (31 : Int32))))), none]) (st1 := [(.int x1), (.ref x0)]) (mem1 := m8) rfl ?_
        refine it_V.call it_cd116 it_m116 rfl it_m110 [(.ref x0), (.int x1)] [] rfl rfl ⟨Nat.le_of_ble_eq_true rfl, Nat.le_of_ble_eq_true rfl, Nat.le_of_ble_eq_true rfl, Nat.le_of_ble_eq_true rfl, rfl⟩ (s_110 kc x0 x1 (hx0) m8 _ h) ?_
        rintro _ m13 ⟨r12, rfl, h⟩
        refine it_V.at (pc1 := 85) (ls1 := [some (.ref 58), some (.ref x0), some (.int x1), some (.int x2), some (.int r1), some (.int (r4 + ((it_shl (it_shr x1 (25 : Int32)) (5 : Int32)) ||| ((it_us x1 (7 : Int32)) &&& (31 : Int32))))), none]) (st1 := [(.int r12)]) (mem1 := m13) rfl rfl rfl rfl ?_
        refine it_V.sN it_cd116 it_m116 3 (pc1 := (if r1 = 0 then 92 else 106)) (ls1 := [some (.ref 58), some (.ref x0), some (.int x1), some (.int x2), some (.int r1), some (.int (r4 + ((it_shl (it_shr x1 (25 : Int32)) (5 : Int32)) ||| ((it_us x1 (7 : Int32)) &&& (31 : Int32))))), some (.int r12)]) (st1 := []) (mem1 := m13) rfl ?_
        refine it_V.ite (fun c14 => ?_) (fun c14 => ?_)
        · have h := h.1 c14
          refine it_V.sN it_cd116 it_m116 4 (pc1 := 100) (ls1 := [some (.ref 58), some (.ref x0), some (.int x1), some (.int x2), some (.int r1), some (.int (r4 + ((it_shl (it_shr x1 (25 : Int32)) (5 : Int32)) ||| ((it_us x1 (7 : Int32)) &&& (31 : Int32))))), some (.int r12)]) (st1 := [(.int r12), (.int (r4 + ((it_shl (it_shr x1 (25 : Int32)) (5 : Int32)) ||| ((it_us x1 (7 : Int32)) &&& (31 : Int32))))), (.ref 1)]) (mem1 := m13) rfl ?_
          refine it_V.call it_cd116 it_m116 rfl it_m17 [(.ref 1), (.int (r4 + ((it_shl (it_shr x1 (25 : Int32)) (5 : Int32)) ||| ((it_us x1 (7 : Int32)) &&& (31 : Int32))))), (.int r12)] [] rfl rfl ⟨Nat.le_of_ble_eq_true rfl, Nat.le_of_ble_eq_true rfl, Nat.le_of_ble_eq_true rfl, Nat.le_of_ble_eq_true rfl, rfl⟩ (s_17 kc (r4 + ((it_shl (it_shr x1 (25 : Int32)) (5 : Int32)) ||| ((it_us x1 (7 : Int32)) &&& (31 : Int32)))) r12 m13 _ h) ?_
          rintro _ m15 ⟨rfl, h⟩
          refine it_V.at (pc1 := 103) (ls1 := [some (.ref 58), some (.ref x0), some (.int x1), some (.int x2), some (.int r1), some (.int (r4 + ((it_shl (it_shr x1 (25 : Int32)) (5 : Int32)) ||| ((it_us x1 (7 : Int32)) &&& (31 : Int32))))), some (.int r12)]) (st1 := []) (mem1 := m15) rfl rfl rfl rfl ?_
          refine it_V.sN it_cd116 it_m116 1 (pc1 := 137) (ls1 := [some (.ref 58), some (.ref x0), some (.int x1), some (.int x2), some (.int r1), some (.int (r4 + ((it_shl (it_shr x1 (25 : Int32)) (5 : Int32)) ||| ((it_us x1 (7 : Int32)) &&& (31 : Int32))))), some (.int r12)]) (st1 := []) (mem1 := m15) rfl ?_
          refine it_V.weak (l := [none, some (.ref x0), none, some (.int x2), none, none, none]) ⟨rfl, ⟨rfl, trivial⟩⟩ ?_
          exact s_116_137 kc Φ x0 x2 (hx0) m15 h
        · have h := h.2 c14
          refine it_V.sN it_cd116 it_m116 3 (pc1 := (if r1 = (1 : Int32) then 112 else 126)) (ls1 := [some (.ref 58), some (.ref x0), some (.int x1), some (.int x2), some (.int r1), some (.int (r4 + ((it_shl (it_shr x1 (25 : Int32)) (5 : Int32)) ||| ((it_us x1 (7 : Int32)) &&& (31 : Int32))))), some (.int r12)]) (st1 := []) (mem1 := m13) rfl ?_
          refine it_V.ite (fun c16 => ?_) (fun c16 => ?_)
          · have h := h.1 c16
            refine it_V.sN it_cd116 it_m116 4 (pc1 := 120) (ls1 := [some (.ref 58), some (.ref x0), some (.int x1), some (.int x2), some (.int r1), some (.int (r4 + ((it_shl (it_shr x1 (25 : Int32)) (5 : Int32)) ||| ((it_us x1 (7 : Int32)) &&& (31 : Int32))))), some (.int r12)]) (st1 := [(.int r12), (.int (r4 + ((it_shl (it_shr x1 (25 : Int32)) (5 : Int32)) ||| ((it_us x1 (7 : Int32)) &&& (31 : Int32))))), (.ref 1)]) (mem1 := m13) rfl ?_
            refine it_V.call it_cd116 it_m116 rfl it_m15 [(.ref 1), (.int (r4 + ((it_shl (it_shr x1 (25 : Int32)) (5 : Int32)) ||| ((it_us x1 (7 : Int32)) &&& (31 : Int32))))), (.int r12)] [] rfl rfl ⟨Nat.le_of_ble_eq_true rfl, Nat.le_of_ble_eq_true rfl, Nat.le_of_ble_eq_true rfl, Nat.le_of_ble_eq_true rfl, rfl⟩ (s_15 kc (r4 + ((it_shl (it_shr x1 (25 : Int32)) (5 : Int32)) ||| ((it_us x1 (7 : Int32)) &&& (31 : Int32)))) r12 m13 _ h) ?_
            rintro _ m17 ⟨rfl, h⟩
            refine it_V.at (pc1 := 123) (ls1 := [some (.ref 58), some (.ref x0), some (.int x1), some (.int x2), some (.int r1), some (.int (r4 + ((it_shl (it_shr x1 (25 : Int32)) (5 : Int32)) ||| ((it_us x1 (7 : Int32)) &&& (31 : Int32))))), some (.int r12)]) (st1 := []) (mem1 := m17) rfl rfl rfl rfl ?_
            refine it_V.sN it_cd116 it_m116 1 (pc1 := 137) (ls1 := [some (.ref 58), some (.ref x0), some (.int x1), some (.int x2), some (.int r1), some (.int (r4 + ((it_shl (it_shr x1 (25 : Int32)) (5 : Int32)) ||| ((it_us x1 (7 : Int32)) &&& (31 : Int32))))), some (.int r12)]) (st1 := []) (mem1 := m17) rfl ?_
            refine it_V.weak (l := [none, some (.ref x0), none, some (.int x2), none, none, none]) ⟨rfl, ⟨rfl, trivial⟩⟩ ?_
            exact s_116_137 kc Φ x0 x2 (hx0) m17 h
          · have h := h.2 c16
            refine it_V.sN it_cd116 it_m116 4 (pc1 := 134) (ls1 := [some (.ref 58), some (.ref x0), some (.int x1), some (.int x2), some (.int r1), some (.int (r4 + ((it_shl (it_shr x1 (25 : Int32)) (5 : Int32)) ||| ((it_us x1 (7 : Int32)) &&& (31 : Int32))))), some (.int r12)]) (st1 := [(.int r12), (.int (r4 + ((it_shl (it_shr x1 (25 : Int32)) (5 : Int32)) ||| ((it_us x1 (7 : Int32)) &&& (31 : Int32))))), (.ref 1)]) (mem1 := m13) rfl ?_
            refine it_V.call it_cd116 it_m116 rfl it_m13 [(.ref 1), (.int (r4 + ((it_shl (it_shr x1 (25 : Int32)) (5 : Int32)) ||| ((it_us x1 (7 : Int32)) &&& (31 : Int32))))), (.int r12)] [] rfl rfl ⟨Nat.le_of_ble_eq_true rfl, Nat.le_of_ble_eq_true rfl, Nat.le_of_ble_eq_true rfl, Nat.le_of_ble_eq_true rfl, rfl⟩ (s_13 kc (r4 + ((it_shl (it_shr x1 (25 : Int32)) (5 : Int32)) ||| ((it_us x1 (7 : Int32)) &&& (31 : Int32)))) r12 m13 _ h) ?_
            rintro _ m18 ⟨rfl, h⟩
            refine it_V.at (pc1 := 137) (ls1 := [some (.ref 58), some (.ref x0), some (.int x1), some (.int x2), some (.int r1), some (.int (r4 + ((it_shl (it_shr x1 (25 : Int32)) (5 : Int32)) ||| ((it_us x1 (7 : Int32)) &&& (31 : Int32))))), some (.int r12)]) (st1 := []) (mem1 := m18) rfl rfl rfl rfl ?_
            refine it_V.weak (l := [none, some (.ref x0), none, some (.int x2), none, none, none]) ⟨rfl, ⟨rfl, trivial⟩⟩ ?_
            exact s_116_137 kc Φ x0 x2 (hx0) m18 h
    · have h := h.2 c6
      refine it_V.sN it_cd116 it_m116 3 (pc1 := 58) (ls1 := [some (.ref 58), some (.ref x0), some (.int x1), some (.int x2), some (.int r1), some (.int (r4 + ((it_shl (it_shr x1 (25 : Int32)) (5 : Int32)) ||| ((it_us x1 (7 : Int32)) &&& (31 : Int32))))), none]) (st1 := [(.int (r4 + ((it_shl (it_shr x1 (25 : Int32)) (5 : Int32)) ||| ((it_us x1 (7 : Int32)) &&& (31 : Int32))))), (.int (6 : Int32)), (.ref 58)]) (mem1 := m5) rfl ?_
      refine it_V.call it_cd116 it_m116 rfl it_m105 [(.ref 58), (.int (6 : Int32)), (.int (r4 + ((it_shl (it_shr x1 (25 : Int32)) (5 : Int32)) ||| ((it_us x1 (7 : Int32)) &&& (31 : Int32)))))] [] rfl rfl ⟨Nat.le_of_ble_eq_true rfl, Nat.le_of_ble_eq_true rfl, Nat.le_of_ble_eq_true rfl, Nat.le_of_ble_eq_true rfl, rfl⟩ (s_105 kc (6 : Int32) (r4 + ((it_shl (it_shr x1 (25 : Int32)) (5 : Int32)) ||| ((it_us x1 (7 : Int32)) &&& (31 : Int32)))) m5 _ h) ?_
      rintro _ m20 ⟨r19, rfl, h⟩
      refine it_V.at (pc1 := 61) (ls1 := [some (.ref 58), some (.ref x0), some (.int x1), some (.int x2), some (.int r1), some (.int (r4 + ((it_shl (it_shr x1 (25 : Int32)) (5 : Int32)) ||| ((it_us x1 (7 : Int32)) &&& (31 : Int32))))), none]) (st1 := [(.int r19)]) (mem1 := m20) rfl rfl rfl rfl ?_
      exact it_V.ret it_cd116 it_m116 rfl rfl ⟨_, rfl, h⟩
  · have h := h.2 c3
    refine it_V.sN it_cd116 it_m116 3 (pc1 := 15) (ls1 := [some (.ref 58), some (.ref x0), some (.int x1), some (.int x2), some (.int r1), none, none]) (st1 := [(.int x1), (.int (2 : Int32)), (.ref 58)]) (mem1 := m2) rfl ?_
    refine it_V.call it_cd116 it_m116 rfl it_m105 [(.ref 58), (.int (2 : Int32)), (.int x1)] [] rfl rfl ⟨Nat.le_of_ble_eq_true rfl, Nat.le_of_ble_eq_true rfl, Nat.le_of_ble_eq_true rfl, Nat.le_of_ble_eq_true rfl, rfl⟩ (s_105 kc (2 : Int32) x1 m2 _ h) ?_
    rintro _ m22 ⟨r21, rfl, h⟩
    refine it_V.at (pc1 := 18) (ls1 := [some (.ref 58), some (.ref x0), some (.int x1), some (.int x2), some (.int r1), none, none]) (st1 := [(.int r21)]) (mem1 := m22) rfl rfl rfl rfl ?_
    exact it_V.ret it_cd116 it_m116 rfl rfl ⟨_, rfl, h⟩
set_option maxRecDepth 100000 in
set_option maxHeartbeats 4000000 in
theorem s_119_57 (kc : it_Kc) (Φ : Int32 → it_Me → Prop) (u0 : Int32) (m : it_Me) (h : w_119_57 kc Φ u0 m) : it_V kc it_sh0 119 57 [none, none, none, none] [(.int u0)] m (it_Pi Φ) := by
  rw [w_119_57] at h
  exact it_V.ret it_cd119 it_m119 rfl rfl ⟨_, rfl, h⟩
set_option maxRecDepth 100000 in
set_option maxHeartbeats 4000000 in
theorem s_119_75 (kc : it_Kc) (Φ : Int32 → it_Me → Prop) (u0 : Int32) (m : it_Me) (h : w_119_75 kc Φ u0 m) : it_V kc it_sh0 119 75 [none, none, none, none] [(.int u0)] m (it_Pi Φ) := by
  rw [w_119_75] at h
  exact it_V.ret it_cd119 it_m119 rfl rfl ⟨_, rfl, h⟩
set_option maxRecDepth 100000 in
set_option maxHeartbeats 4000000 in
theorem s_119_89 (kc : it_Kc) (Φ : Int32 → it_Me → Prop) (u0 : Int32) (m : it_Me) (h : w_119_89 kc Φ u0 m) : it_V kc it_sh0 119 89 [none, none, none, none] [(.int u0)] m (it_Pi Φ) := by
  rw [w_119_89] at h
  exact it_V.ret it_cd119 it_m119 rfl rfl ⟨_, rfl, h⟩
set_option maxRecDepth 100000 in
set_option maxHeartbeats 4000000 in
theorem s_119_113 (kc : it_Kc) (Φ : Int32 → it_Me → Prop) (u0 : Int32) (m : it_Me) (h : w_119_113 kc Φ u0 m) : it_V kc it_sh0 119 113 [none, none, none, none] [(.int u0)] m (it_Pi Φ) := by
  rw [w_119_113] at h
  exact it_V.ret it_cd119 it_m119 rfl rfl ⟨_, rfl, h⟩
set_option maxRecDepth 100000 in
set_option maxHeartbeats 4000000 in
theorem s_119 (kc : it_Kc) (x0 : Int32) (x1 : Int32) (x2 : Int32) (x3 : Int32) (m : it_Me) (Φ : Int32 → it_Me → Prop) (h : w_119 kc x0 x1 x2 x3 m Φ) : it_V kc it_sh0 119 0 (it_loc0 [(.int x0), (.int x1), (.int x2), (.int x3)] 4) [] m (it_Pi Φ) := by
  rw [w_119] at h
  refine it_V.at (pc1 := 0) (ls1 := [some (.int x0), some (.int x1), some (.int x2), some (.int x3)]) (st1 := []) (mem1 := m) rfl rfl rfl rfl ?_
  refine it_V.sN it_cd119 it_m119 1 (pc1 := 1) (ls1 := [some (.int x0), some (.int x1), some (.int x2), some (.int x3)]) (st1 := [(.int x0)]) (mem1 := m) rfl ?_
  refine it_V.sN it_cd119 it_m119 1 (pc1 := (if x0 = (0 : Int32) then 44 else (if x0 = (1 : Int32) then 58 else (if x0 = (2 : Int32) then 65 else (if x0 = (3 : Int32) then 76 else (if x0 = (4 : Int32) then 90 else (if x0 = (5 : Int32) then 94 else (if x0 = (6 : Int32) then 114 else 118)))))))) (ls1 := [some (.int x0), some (.int x1), some (.int x2), some (.int x3)]) (st1 := []) (mem1 := m) rfl ?_
  refine it_V.ite (fun c1 => ?_) (fun c1 => ?_)
  · have h := h.1 c1
    refine it_V.sN it_cd119 it_m119 2 (pc1 := (if x1 = 0 then 54 else 48)) (ls1 := [some (.int x0), some (.int x1), some (.int x2), some (.int x3)]) (st1 := []) (mem1 := m) rfl ?_
    refine it_V.ite (fun c2 => ?_) (fun c2 => ?_)
    · have h := h.1 c2
      refine it_V.sN it_cd119 it_m119 3 (pc1 := 57) (ls1 := [some (.int x0), some (.int x1), some (.int x2), some (.int x3)]) (st1 := [(.int (x2 + x3))]) (mem1 := m) rfl ?_
      refine it_V.weak (l := [none, none, none, none]) trivial ?_
      exact s_119_57 kc Φ (x2 + x3) m h
    · have h := h.2 c2
      refine it_V.sN it_cd119 it_m119 4 (pc1 := 57) (ls1 := [some (.int x0), some (.int x1), some (.int x2), some (.int x3)]) (st1 := [(.int (x2 - x3))]) (mem1 := m) rfl ?_
      refine it_V.weak (l := [none, none, none, none]) trivial ?_
      exact s_119_57 kc Φ (x2 - x3) m h
  · have h := h.2 c1
    refine it_V.ite (fun c3 => ?_) (fun c3 => ?_)
    · have h := h.1 c3
      refine it_V.sN it_cd119 it_m119 5 (pc1 := 64) (ls1 := [some (.int x0), some (.int x1), some (.int x2), some (.int x3)]) (st1 := [(.int (it_shl x2 (x3 &&& (31 : Int32))))]) (mem1 := m) rfl ?_
      exact it_V.ret it_cd119 it_m119 rfl rfl ⟨_, rfl, h⟩
    · have h := h.2 c3
      refine it_V.ite (fun c4 => ?_) (fun c4 => ?_)
      · have h := h.1 c4
        refine it_V.sN it_cd119 it_m119 3 (pc1 := (if x3 ≤ x2 then 74 else 70)) (ls1 := [some (.int x0), some (.int x1), some (.int x2), some (.int x3)]) (st1 := []) (mem1 := m) rfl ?_
        refine it_V.ite (fun c5 => ?_) (fun c5 => ?_)
        · have h := h.1 c5
          refine it_V.sN it_cd119 it_m119 1 (pc1 := 75) (ls1 := [some (.int x0), some (.int x1), some (.int x2), some (.int x3)]) (st1 := [(.int (0 : Int32))]) (mem1 := m) rfl ?_
          refine it_V.weak (l := [none, none, none, none]) trivial ?_
          exact s_119_75 kc Φ (0 : Int32) m h
        · have h := h.2 c5
          refine it_V.sN it_cd119 it_m119 2 (pc1 := 75) (ls1 := [some (.int x0), some (.int x1), some (.int x2), some (.int x3)]) (st1 := [(.int (1 : Int32))]) (mem1 := m) rfl ?_
          refine it_V.weak (l := [none, none, none, none]) trivial ?_
          exact s_119_75 kc Φ (1 : Int32) m h
      · have h := h.2 c4
        refine it_V.ite (fun c6 => ?_) (fun c6 => ?_)
        · have h := h.1 c6
          refine it_V.sN it_cd119 it_m119 2 (pc1 := 78) (ls1 := [some (.int x0), some (.int x1), some (.int x2), some (.int x3)]) (st1 := [(.int x3), (.int x2)]) (mem1 := m) rfl ?_
          refine it_V.call it_cd119 it_m119 rfl it_m213 [(.int x2), (.int x3)] [] rfl rfl ⟨Nat.le_of_ble_eq_true rfl, Nat.le_of_ble_eq_true rfl, Nat.le_of_ble_eq_true rfl, Nat.le_of_ble_eq_true rfl, rfl⟩ (s_213 kc x2 x3 m _ h) ?_
          rintro _ m8 ⟨r7, rfl, h⟩
          refine it_V.at (pc1 := 81) (ls1 := [some (.int x0), some (.int x1), some (.int x2), some (.int x3)]) (st1 := [(.int r7)]) (mem1 := m8) rfl rfl rfl rfl ?_
          refine it_V.sN it_cd119 it_m119 1 (pc1 := (if r7 = 0 then 88 else 84)) (ls1 := [some (.int x0), some (.int x1), some (.int x2), some (.int x3)]) (st1 := []) (mem1 := m8) rfl ?_
          refine it_V.ite (fun c9 => ?_) (fun c9 => ?_)
          · have h := h.1 c9
            refine it_V.sN it_cd119 it_m119 1 (pc1 := 89) (ls1 := [some (.int x0), some (.int x1), some (.int x2), some (.int x3)]) (st1 := [(.int (0 : Int32))]) (mem1 := m8) rfl ?_
            refine it_V.weak (l := [none, none, none, none]) trivial ?_
            exact s_119_89 kc Φ (0 : Int32) m8 h
          · have h := h.2 c9
            refine it_V.sN it_cd119 it_m119 2 (pc1 := 89) (ls1 := [some (.int x0), some (.int x1), some (.int x2), some (.int x3)]) (st1 := [(.int (1 : Int32))]) (mem1 := m8) rfl ?_
            refine it_V.weak (l := [none, none, none, none]) trivial ?_
            exact s_119_89 kc Φ (1 : Int32) m8 h
        · have h := h.2 c6
          refine it_V.ite (fun c10 => ?_) (fun c10 => ?_)
          · have h := h.1 c10
            refine it_V.sN it_cd119 it_m119 3 (pc1 := 93) (ls1 := [some (.int x0), some (.int x1), some (.int x2), some (.int x3)]) (st1 := [(.int (x2 ^^^ x3))]) (mem1 := m) rfl ?_
            exact it_V.ret it_cd119 it_m119 rfl rfl ⟨_, rfl, h⟩
          · have h := h.2 c10
            refine it_V.ite (fun c11 => ?_) (fun c11 => ?_)
            · have h := h.1 c11
              refine it_V.sN it_cd119 it_m119 2 (pc1 := (if x1 = 0 then 107 else 98)) (ls1 := [some (.int x0), some (.int x1), some (.int x2), some (.int x3)]) (st1 := []) (mem1 := m) rfl ?_
              refine it_V.ite (fun c12 => ?_) (fun c12 => ?_)
              · have h := h.1 c12
                refine it_V.sN it_cd119 it_m119 5 (pc1 := 113) (ls1 := [some (.int x0), some (.int x1), some (.int x2), some (.int x3)]) (st1 := [(.int (it_us x2 (x3 &&& (31 : Int32))))]) (mem1 := m) rfl ?_
                refine it_V.weak (l := [none, none, none, none]) trivial ?_
                exact s_119_113 kc Φ (it_us x2 (x3 &&& (31 : Int32))) m h
              · have h := h.2 c12
                refine it_V.sN it_cd119 it_m119 6 (pc1 := 113) (ls1 := [some (.int x0), some (.int x1), some (.int x2), some (.int x3)]) (st1 := [(.int (it_shr x2 (x3 &&& (31 : Int32))))]) (mem1 := m) rfl ?_
                refine it_V.weak (l := [none, none, none, none]) trivial ?_
                exact s_119_113 kc Φ (it_shr x2 (x3 &&& (31 : Int32))) m h
            · have h := h.2 c11
              refine it_V.ite (fun c13 => ?_) (fun c13 => ?_)
              · have h := h.1 c13
                refine it_V.sN it_cd119 it_m119 3 (pc1 := 117) (ls1 := [some (.int x0), some (.int x1), some (.int x2), some (.int x3)]) (st1 := [(.int (x2 ||| x3))]) (mem1 := m) rfl ?_
                exact it_V.ret it_cd119 it_m119 rfl rfl ⟨_, rfl, h⟩
              · have h := h.2 c13
                refine it_V.sN it_cd119 it_m119 3 (pc1 := 121) (ls1 := [some (.int x0), some (.int x1), some (.int x2), some (.int x3)]) (st1 := [(.int (x2 &&& x3))]) (mem1 := m) rfl ?_
                exact it_V.ret it_cd119 it_m119 rfl rfl ⟨_, rfl, h⟩
set_option maxRecDepth 100000 in
set_option maxHeartbeats 4000000 in
theorem s_117_41 (kc : it_Kc) (Φ : Int32 → it_Me → Prop) (v2 : Int32) (m : it_Me) (h : w_117_41 kc Φ v2 m) : it_V kc it_sh0 117 41 [some (.ref 58), none, some (.int v2), none, none, none, none] [] m (it_Pi Φ) := by
  rw [w_117_41] at h
  refine it_V.sN it_cd117 it_m117 3 (pc1 := 44) (ls1 := [some (.ref 58), none, some (.int v2), none, none, none, none]) (st1 := [(.int v2), (.int (2 : Int32)), (.ref 58)]) (mem1 := m) rfl ?_
  refine it_V.call it_cd117 it_m117 rfl it_m105 [(.ref 58), (.int (2 : Int32)), (.int v2)] [] rfl rfl ⟨Nat.le_of_ble_eq_true rfl, Nat.le_of_ble_eq_true rfl, Nat.le_of_ble_eq_true rfl, Nat.le_of_ble_eq_true rfl, rfl⟩ (s_105 kc (2 : Int32) v2 m _ h) ?_
  rintro _ m2 ⟨r1, rfl, h⟩
  refine it_V.at (pc1 := 47) (ls1 := [some (.ref 58), none, some (.int v2), none, none, none, none]) (st1 := [(.int r1)]) (mem1 := m2) rfl rfl rfl rfl ?_
  exact it_V.ret it_cd117 it_m117 rfl rfl ⟨_, rfl, h⟩
set_option maxRecDepth 100000 in
set_option maxHeartbeats 4000000 in
theorem s_117_66 (kc : it_Kc) (Φ : Int32 → it_Me → Prop) (v1 : Nat) (v2 : Int32) (v3 : Int32) (v4 : Int32) (u0 : Int32) (hv1 : it_isP v1) (m : it_Me) (h : w_117_66 kc Φ v1 v2 v3 v4 u0 m) : it_V kc it_sh0 117 66 [none, some (.ref v1), some (.int v2), some (.int v3), some (.int v4), none, none] [(.int u0)] m (it_Pi Φ) := by
  rw [w_117_66] at h
  refine it_V.sN it_cd117 it_m117 7 (pc1 := 76) (ls1 := [none, some (.ref v1), some (.int v2), some (.int v3), some (.int v4), none, some (.int u0)]) (st1 := [(.int v2), (.ref v1), (.int u0), (.int v4), (.int v2), (.ref v1)]) (mem1 := m) rfl ?_
  refine it_V.call it_cd117 it_m117 rfl it_m109 [(.ref v1), (.int v2)] [(.int u0), (.int v4), (.int v2), (.ref v1)] rfl rfl ⟨Nat.le_of_ble_eq_true rfl, Nat.le_of_ble_eq_true rfl, Nat.le_of_ble_eq_true rfl, Nat.le_of_ble_eq_true rfl, rfl⟩ (s_109 kc v1 v2 (hv1) m _ h) ?_
  rintro _ m2 ⟨r1, rfl, h⟩
  refine it_V.at (pc1 := 79) (ls1 := [none, some (.ref v1), some (.int v2), some (.int v3), some (.int v4), none, some (.int u0)]) (st1 := [(.int r1), (.int u0), (.int v4), (.int v2), (.ref v1)]) (mem1 := m2) rfl rfl rfl rfl ?_
  refine it_V.sN it_cd117 it_m117 3 (pc1 := 83) (ls1 := [none, some (.ref v1), some (.int v2), some (.int v3), some (.int v4), none, some (.int u0)]) (st1 := [(.int (it_shr v2 (20 : Int32))), (.int r1), (.int u0), (.int v4), (.int v2), (.ref v1)]) (mem1 := m2) rfl ?_
  refine it_V.call it_cd117 it_m117 rfl it_m119 [(.int v4), (.int u0), (.int r1), (.int (it_shr v2 (20 : Int32)))] [(.int v2), (.ref v1)] rfl rfl ⟨Nat.le_of_ble_eq_true rfl, Nat.le_of_ble_eq_true rfl, Nat.le_of_ble_eq_true rfl, Nat.le_of_ble_eq_true rfl, rfl⟩ (s_119 kc v4 u0 r1 (it_shr v2 (20 : Int32)) m2 _ h) ?_
  rintro _ m4 ⟨r3, rfl, h⟩
  refine it_V.at (pc1 := 86) (ls1 := [none, some (.ref v1), some (.int v2), some (.int v3), some (.int v4), none, some (.int u0)]) (st1 := [(.int r3), (.int v2), (.ref v1)]) (mem1 := m4) rfl rfl rfl rfl ?_
  refine it_V.sN it_cd117 it_m117 1 (pc1 := 87) (ls1 := [none, some (.ref v1), some (.int v2), some (.int v3), some (.int v4), none, some (.int u0)]) (st1 := [(.int v3), (.int r3), (.int v2), (.ref v1)]) (mem1 := m4) rfl ?_
  refine it_V.call it_cd117 it_m117 rfl it_m107 [(.ref v1), (.int v2), (.int r3), (.int v3)] [] rfl rfl ⟨Nat.le_of_ble_eq_true rfl, Nat.le_of_ble_eq_true rfl, Nat.le_of_ble_eq_true rfl, Nat.le_of_ble_eq_true rfl, rfl⟩ (s_107 kc v1 v2 r3 v3 (hv1) m4 _ h) ?_
  rintro _ m6 ⟨r5, rfl, h⟩
  refine it_V.at (pc1 := 90) (ls1 := [none, some (.ref v1), some (.int v2), some (.int v3), some (.int v4), none, some (.int u0)]) (st1 := [(.int r5)]) (mem1 := m6) rfl rfl rfl rfl ?_
  exact it_V.ret it_cd117 it_m117 rfl rfl ⟨_, rfl, h⟩
set_option maxRecDepth 100000 in
set_option maxHeartbeats 4000000 in
theorem s_117_65 (kc : it_Kc) (Φ : Int32 → it_Me → Prop) (v1 : Nat) (v2 : Int32) (v3 : Int32) (v4 : Int32) (hv1 : it_isP v1) (m : it_Me) (h : w_117_65 kc Φ v1 v2 v3 v4 m) : it_V kc it_sh0 117 65 [none, some (.ref v1), some (.int v2), some (.int v3), some (.int v4), none, none] [] m (it_Pi Φ) := by
  rw [w_117_65] at h
  refine it_V.sN it_cd117 it_m117 1 (pc1 := 66) (ls1 := [none, some (.ref v1), some (.int v2), some (.int v3), some (.int v4), none, none]) (st1 := [(.int (0 : Int32))]) (mem1 := m) rfl ?_
  refine it_V.weak (l := [none, some (.ref v1), some (.int v2), some (.int v3), some (.int v4), none, none]) ⟨rfl, ⟨rfl, ⟨rfl, ⟨rfl, trivial⟩⟩⟩⟩ ?_
  exact s_117_66 kc Φ v1 v2 v3 v4 (0 : Int32) (hv1) m h
set_option maxRecDepth 100000 in
set_option maxHeartbeats 4000000 in
theorem s_117_48 (kc : it_Kc) (Φ : Int32 → it_Me → Prop) (v1 : Nat) (v2 : Int32) (v3 : Int32) (v4 : Int32) (v5 : Int32) (hv1 : it_isP v1) (m : it_Me) (h : w_117_48 kc Φ v1 v2 v3 v4 v5 m) : it_V kc it_sh0 117 48 [none, some (.ref v1), some (.int v2), some (.int v3), some (.int v4), some (.int v5), none] [] m (it_Pi Φ) := by
  rw [w_117_48] at h
  refine it_V.sN it_cd117 it_m117 3 (pc1 := (if v4 = (5 : Int32) then 54 else 65)) (ls1 := [none, some (.ref v1), some (.int v2), some (.int v3), some (.int v4), some (.int v5), none]) (st1 := []) (mem1 := m) rfl ?_
  refine it_V.ite (fun c1 => ?_) (fun c1 => ?_)
  · have h := h.1 c1
    refine it_V.sN it_cd117 it_m117 3 (pc1 := (if v5 = (32 : Int32) then 61 else 65)) (ls1 := [none, some (.ref v1), some (.int v2), some (.int v3), some (.int v4), some (.int v5), none]) (st1 := []) (mem1 := m) rfl ?_
    refine it_V.ite (fun c2 => ?_) (fun c2 => ?_)
    · have h := h.1 c2
      refine it_V.sN it_cd117 it_m117 2 (pc1 := 66) (ls1 := [none, some (.ref v1), some (.int v2), some (.int v3), some (.int v4), some (.int v5), none]) (st1 := [(.int (1 : Int32))]) (mem1 := m) rfl ?_
      refine it_V.weak (l := [none, some (.ref v1), some (.int v2), some (.int v3), some (.int v4), none, none]) ⟨rfl, ⟨rfl, ⟨rfl, ⟨rfl, trivial⟩⟩⟩⟩ ?_
      exact s_117_66 kc Φ v1 v2 v3 v4 (1 : Int32) (hv1) m h
    · have h := h.2 c2
      refine it_V.weak (l := [none, some (.ref v1), some (.int v2), some (.int v3), some (.int v4), none, none]) ⟨rfl, ⟨rfl, ⟨rfl, ⟨rfl, trivial⟩⟩⟩⟩ ?_
      exact s_117_65 kc Φ v1 v2 v3 v4 (hv1) m h
  · have h := h.2 c1
    refine it_V.weak (l := [none, some (.ref v1), some (.int v2), some (.int v3), some (.int v4), none, none]) ⟨rfl, ⟨rfl, ⟨rfl, ⟨rfl, trivial⟩⟩⟩⟩ ?_
    exact s_117_65 kc Φ v1 v2 v3 v4 (hv1) m h
set_option maxRecDepth 100000 in
set_option maxHeartbeats 4000000 in
theorem s_117_23 (kc : it_Kc) (Φ : Int32 → it_Me → Prop) (v1 : Nat) (v2 : Int32) (v3 : Int32) (v4 : Int32) (v5 : Int32) (hv1 : it_isP v1) (m : it_Me) (h : w_117_23 kc Φ v1 v2 v3 v4 v5 m) : it_V kc it_sh0 117 23 [some (.ref 58), some (.ref v1), some (.int v2), some (.int v3), some (.int v4), some (.int v5), none] [] m (it_Pi Φ) := by
  rw [w_117_23] at h
  refine it_V.sN it_cd117 it_m117 3 (pc1 := (if v4 = (5 : Int32) then 29 else 48)) (ls1 := [some (.ref 58), some (.ref v1), some (.int v2), some (.int v3), some (.int v4), some (.int v5), none]) (st1 := []) (mem1 := m) rfl ?_
  refine it_V.ite (fun c1 => ?_) (fun c1 => ?_)
  · have h := h.1 c1
    refine it_V.sN it_cd117 it_m117 2 (pc1 := (if v5 = 0 then 48 else 34)) (ls1 := [some (.ref 58), some (.ref v1), some (.int v2), some (.int v3), some (.int v4), some (.int v5), none]) (st1 := []) (mem1 := m) rfl ?_
    refine it_V.ite (fun c2 => ?_) (fun c2 => ?_)
    · have h := h.1 c2
      refine it_V.weak (l := [none, some (.ref v1), some (.int v2), some (.int v3), some (.int v4), some (.int v5), none]) ⟨rfl, ⟨rfl, ⟨rfl, ⟨rfl, ⟨rfl, trivial⟩⟩⟩⟩⟩ ?_
      exact s_117_48 kc Φ v1 v2 v3 v4 v5 (hv1) m h
    · have h := h.2 c2
      refine it_V.sN it_cd117 it_m117 3 (pc1 := (if v5 = (32 : Int32) then 48 else 41)) (ls1 := [some (.ref 58), some (.ref v1), some (.int v2), some (.int v3), some (.int v4), some (.int v5), none]) (st1 := []) (mem1 := m) rfl ?_
      refine it_V.ite (fun c3 => ?_) (fun c3 => ?_)
      · have h := h.1 c3
        refine it_V.weak (l := [none, some (.ref v1), some (.int v2), some (.int v3), some (.int v4), some (.int v5), none]) ⟨rfl, ⟨rfl, ⟨rfl, ⟨rfl, ⟨rfl, trivial⟩⟩⟩⟩⟩ ?_
        exact s_117_48 kc Φ v1 v2 v3 v4 v5 (hv1) m h
      · have h := h.2 c3
        refine it_V.weak (l := [some (.ref 58), none, some (.int v2), none, none, none, none]) ⟨rfl, ⟨rfl, trivial⟩⟩ ?_
        exact s_117_41 kc Φ v2 m h
  · have h := h.2 c1
    refine it_V.weak (l := [none, some (.ref v1), some (.int v2), some (.int v3), some (.int v4), some (.int v5), none]) ⟨rfl, ⟨rfl, ⟨rfl, ⟨rfl, ⟨rfl, trivial⟩⟩⟩⟩⟩ ?_
    exact s_117_48 kc Φ v1 v2 v3 v4 v5 (hv1) m h
set_option maxRecDepth 100000 in
set_option maxHeartbeats 4000000 in
theorem s_117 (kc : it_Kc) (x0 : Nat) (x1 : Int32) (x2 : Int32) (hx0 : it_isP x0) (m : it_Me) (Φ : Int32 → it_Me → Prop) (h : w_117 kc x0 x1 x2 m Φ) : it_V kc it_sh0 117 0 (it_loc0 [(.ref 58), (.ref x0), (.int x1), (.int x2)] 7) [] m (it_Pi Φ) := by
  rw [w_117] at h
  refine it_V.at (pc1 := 0) (ls1 := [some (.ref 58), some (.ref x0), some (.int x1), some (.int x2), none, none, none]) (st1 := []) (mem1 := m) rfl rfl rfl rfl ?_
  refine it_V.sN it_cd117 it_m117 1 (pc1 := 1) (ls1 := [some (.ref 58), some (.ref x0), some (.int x1), some (.int x2), none, none, none]) (st1 := [(.int x1)]) (mem1 := m) rfl ?_
  refine it_V.call it_cd117 it_m117 rfl it_m108 [(.int x1)] [] rfl rfl ⟨Nat.le_of_ble_eq_true rfl, Nat.le_of_ble_eq_true rfl, Nat.le_of_ble_eq_true rfl, Nat.le_of_ble_eq_true rfl, rfl⟩ (s_108 kc x1 m _ h) ?_
  rintro _ m2 ⟨r1, rfl, h⟩
  refine it_V.at (pc1 := 4) (ls1 := [some (.ref 58), some (.ref x0), some (.int x1), some (.int x2), none, none, none]) (st1 := [(.int r1)]) (mem1 := m2) rfl rfl rfl rfl ?_
  refine it_V.sN it_cd117 it_m117 8 (pc1 := (if r1 = (1 : Int32) then 18 else 23)) (ls1 := [some (.ref 58), some (.ref x0), some (.int x1), some (.int x2), some (.int r1), some (.int (it_us x1 (25 : Int32))), none]) (st1 := []) (mem1 := m2) rfl ?_
  refine it_V.ite (fun c3 => ?_) (fun c3 => ?_)
  · have h := h.1 c3
    refine it_V.sN it_cd117 it_m117 2 (pc1 := (if (it_us x1 (25 : Int32)) = 0 then 23 else 41)) (ls1 := [some (.ref 58), some (.ref x0), some (.int x1), some (.int x2), some (.int r1), some (.int (it_us x1 (25 : Int32))), none]) (st1 := []) (mem1 := m2) rfl ?_
    refine it_V.ite (fun c4 => ?_) (fun c4 => ?_)
    · have h := h.1 c4
      exact s_117_23 kc Φ x0 x1 x2 r1 (it_us x1 (25 : Int32)) (hx0) m2 h
    · have h := h.2 c4
      refine it_V.weak (l := [some (.ref 58), none, some (.int x1), none, none, none, none]) ⟨rfl, ⟨rfl, trivial⟩⟩ ?_
      exact s_117_41 kc Φ x1 m2 h
  · have h := h.2 c3
    exact s_117_23 kc Φ x0 x1 x2 r1 (it_us x1 (25 : Int32)) (hx0) m2 h
set_option maxRecDepth 100000 in
set_option maxHeartbeats 4000000 in
theorem s_120_104 (kc : it_Kc) (Φ : Int32 → it_Me → Prop) (u0 : Int32) (m : it_Me) (h : w_120_104 kc Φ u0 m) : it_V kc it_sh0 120 104 [none, none, none, none, none, none, none] [(.int u0)] m (it_Pi Φ) := by
  rw [w_120_104] at h
  exact it_V.ret it_cd120 it_m120 rfl rfl ⟨_, rfl, h⟩
set_option maxRecDepth 100000 in
set_option maxHeartbeats 4000000 in
theorem s_120_118 (kc : it_Kc) (Φ : Int32 → it_Me → Prop) (u0 : Int32) (m : it_Me) (h : w_120_118 kc Φ u0 m) : it_V kc it_sh0 120 118 [none, none, none, none, none, none, none] [(.int u0)] m (it_Pi Φ) := by
  rw [w_120_118] at h
  exact it_V.ret it_cd120 it_m120 rfl rfl ⟨_, rfl, h⟩
set_option maxRecDepth 100000 in
set_option maxHeartbeats 4000000 in
theorem s_120_130 (kc : it_Kc) (Φ : Int32 → it_Me → Prop) (u0 : Int32) (m : it_Me) (h : w_120_130 kc Φ u0 m) : it_V kc it_sh0 120 130 [none, none, none, none, none, none, none] [(.int u0)] m (it_Pi Φ) := by
  rw [w_120_130] at h
  exact it_V.ret it_cd120 it_m120 rfl rfl ⟨_, rfl, h⟩
set_option maxRecDepth 100000 in
set_option maxHeartbeats 4000000 in
theorem s_120_144 (kc : it_Kc) (Φ : Int32 → it_Me → Prop) (u0 : Int32) (m : it_Me) (h : w_120_144 kc Φ u0 m) : it_V kc it_sh0 120 144 [none, none, none, none, none, none, none] [(.int u0)] m (it_Pi Φ) := by
  rw [w_120_144] at h
  exact it_V.ret it_cd120 it_m120 rfl rfl ⟨_, rfl, h⟩
set_option maxRecDepth 100000 in
set_option maxHeartbeats 4000000 in
theorem s_120 (kc : it_Kc) (x0 : Int32) (x1 : Int32) (x2 : Int32) (m : it_Me) (Φ : Int32 → it_Me → Prop) (h : w_120 kc x0 x1 x2 m Φ) : it_V kc it_sh0 120 0 (it_loc0 [(.int x0), (.int x1), (.int x2)] 7) [] m (it_Pi Φ) := by
  rw [w_120] at h
  refine it_V.at (pc1 := 0) (ls1 := [some (.int x0), some (.int x1), some (.int x2), none, none, none, none]) (st1 := []) (mem1 := m) rfl rfl rfl rfl ?_
  refine it_V.sN it_cd120 it_m120 11 (pc1 := 16) (ls1 := [some (.int x0), some (.int x1), some (.int x2), some (.long ((Int32.toInt64 x1) &&& (4294967295 : Int64))), none, some (.long ((Int32.toInt64 x2) &&& (4294967295 : Int64))), none]) (st1 := [(.int x0)]) (mem1 := m) rfl ?_
  refine it_V.sN it_cd120 it_m120 1 (pc1 := (if x0 = (0 : Int32) then 60 else (if x0 = (1 : Int32) then 64 else (if x0 = (2 : Int32) then 74 else (if x0 = (3 : Int32) then 84 else (if x0 = (4 : Int32) then 93 else (if x0 = (5 : Int32) then 105 else (if x0 = (6 : Int32) then 119 else 131)))))))) (ls1 := [some (.int x0), some (.int x1), some (.int x2), some (.long ((Int32.toInt64 x1) &&& (4294967295 : Int64))), none, some (.long ((Int32.toInt64 x2) &&& (4294967295 : Int64))), none]) (st1 := []) (mem1 := m) rfl ?_
  refine it_V.ite (fun c1 => ?_) (fun c1 => ?_)
  · have h := h.1 c1
    refine it_V.sN it_cd120 it_m120 3 (pc1 := 63) (ls1 := [some (.int x0), some (.int x1), some (.int x2), some (.long ((Int32.toInt64 x1) &&& (4294967295 : Int64))), none, some (.long ((Int32.toInt64 x2) &&& (4294967295 : Int64))), none]) (st1 := [(.int (x1 * x2))]) (mem1 := m) rfl ?_
    exact it_V.ret it_cd120 it_m120 rfl rfl ⟨_, rfl, h⟩
  · have h := h.2 c1
    refine it_V.ite (fun c2 => ?_) (fun c2 => ?_)
    · have h := h.1 c2
      refine it_V.sN it_cd120 it_m120 8 (pc1 := 73) (ls1 := [some (.int x0), some (.int x1), some (.int x2), some (.long ((Int32.toInt64 x1) &&& (4294967295 : Int64))), none, some (.long ((Int32.toInt64 x2) &&& (4294967295 : Int64))), none]) (st1 := [(.int (Int64.toInt32 (it_lshr ((Int32.toInt64 x1) * (Int32.toInt64 x2)) (32 : Int32))))]) (mem1 := m) rfl ?_
      exact it_V.ret it_cd120 it_m120 rfl rfl ⟨_, rfl, h⟩
    · have h := h.2 c2
      refine it_V.ite (fun c3 => ?_) (fun c3 => ?_)
      · have h := h.1 c3
        refine it_V.sN it_cd120 it_m120 7 (pc1 := 83) (ls1 := [some (.int x0), some (.int x1), some (.int x2), some (.long ((Int32.toInt64 x1) &&& (4294967295 : Int64))), none, some (.long ((Int32.toInt64 x2) &&& (4294967295 : Int64))), none]) (st1 := [(.int (Int64.toInt32 (it_lshr ((Int32.toInt64 x1) * ((Int32.toInt64 x2) &&& (4294967295 : Int64))) (32 : Int32))))]) (mem1 := m) rfl ?_
        exact it_V.ret it_cd120 it_m120 rfl rfl ⟨_, rfl, h⟩
      · have h := h.2 c3
        refine it_V.ite (fun c4 => ?_) (fun c4 => ?_)
        · have h := h.1 c4
          refine it_V.sN it_cd120 it_m120 6 (pc1 := 92) (ls1 := [some (.int x0), some (.int x1), some (.int x2), some (.long ((Int32.toInt64 x1) &&& (4294967295 : Int64))), none, some (.long ((Int32.toInt64 x2) &&& (4294967295 : Int64))), none]) (st1 := [(.int (Int64.toInt32 (it_lus (((Int32.toInt64 x1) &&& (4294967295 : Int64)) * ((Int32.toInt64 x2) &&& (4294967295 : Int64))) (32 : Int32))))]) (mem1 := m) rfl ?_
          exact it_V.ret it_cd120 it_m120 rfl rfl ⟨_, rfl, h⟩
        · have h := h.2 c4
          refine it_V.ite (fun c5 => ?_) (fun c5 => ?_)
          · have h := h.1 c5
            refine it_V.sN it_cd120 it_m120 2 (pc1 := (if x2 = 0 then 97 else 101)) (ls1 := [some (.int x0), some (.int x1), some (.int x2), some (.long ((Int32.toInt64 x1) &&& (4294967295 : Int64))), none, some (.long ((Int32.toInt64 x2) &&& (4294967295 : Int64))), none]) (st1 := []) (mem1 := m) rfl ?_
            refine it_V.ite (fun c6 => ?_) (fun c6 => ?_)
            · have h := h.1 c6
              refine it_V.sN it_cd120 it_m120 2 (pc1 := 104) (ls1 := [some (.int x0), some (.int x1), some (.int x2), some (.long ((Int32.toInt64 x1) &&& (4294967295 : Int64))), none, some (.long ((Int32.toInt64 x2) &&& (4294967295 : Int64))), none]) (st1 := [(.int (-1 : Int32))]) (mem1 := m) rfl ?_
              refine it_V.weak (l := [none, none, none, none, none, none, none]) trivial ?_
              exact s_120_104 kc Φ (-1 : Int32) m h
            · have h := h.2 c6
              refine it_V.sN it_cd120 it_m120 2 (pc1 := 103) (ls1 := [some (.int x0), some (.int x1), some (.int x2), some (.long ((Int32.toInt64 x1) &&& (4294967295 : Int64))), none, some (.long ((Int32.toInt64 x2) &&& (4294967295 : Int64))), none]) (st1 := [(.int x2), (.int x1)]) (mem1 := m) rfl ?_
              obtain ⟨g7, h⟩ := h
              refine it_V.s1 it_cd120 it_m120 (pc1 := 104) (ls1 := [some (.int x0), some (.int x1), some (.int x2), some (.long ((Int32.toInt64 x1) &&& (4294967295 : Int64))), none, some (.long ((Int32.toInt64 x2) &&& (4294967295 : Int64))), none]) (st1 := [(.int (x1 / x2))]) (mem1 := m) (by simp only [it_s1, show it_lk it_c120 103 = some (0, .idiv, 0, 0) from rfl, it_ops, if_neg g7]; rfl) ?_
              refine it_V.weak (l := [none, none, none, none, none, none, none]) trivial ?_
              exact s_120_104 kc Φ (x1 / x2) m h
          · have h := h.2 c5
            refine it_V.ite (fun c8 => ?_) (fun c8 => ?_)
            · have h := h.1 c8
              refine it_V.sN it_cd120 it_m120 2 (pc1 := (if x2 = 0 then 109 else 113)) (ls1 := [some (.int x0), some (.int x1), some (.int x2), some (.long ((Int32.toInt64 x1) &&& (4294967295 : Int64))), none, some (.long ((Int32.toInt64 x2) &&& (4294967295 : Int64))), none]) (st1 := []) (mem1 := m) rfl ?_
              refine it_V.ite (fun c9 => ?_) (fun c9 => ?_)
              · have h := h.1 c9
                refine it_V.sN it_cd120 it_m120 2 (pc1 := 118) (ls1 := [some (.int x0), some (.int x1), some (.int x2), some (.long ((Int32.toInt64 x1) &&& (4294967295 : Int64))), none, some (.long ((Int32.toInt64 x2) &&& (4294967295 : Int64))), none]) (st1 := [(.int (-1 : Int32))]) (mem1 := m) rfl ?_
                refine it_V.weak (l := [none, none, none, none, none, none, none]) trivial ?_
                exact s_120_118 kc Φ (-1 : Int32) m h
              · have h := h.2 c9
                refine it_V.sN it_cd120 it_m120 2 (pc1 := 116) (ls1 := [some (.int x0), some (.int x1), some (.int x2), some (.long ((Int32.toInt64 x1) &&& (4294967295 : Int64))), none, some (.long ((Int32.toInt64 x2) &&& (4294967295 : Int64))), none]) (st1 := [(.long ((Int32.toInt64 x2) &&& (4294967295 : Int64))), (.long ((Int32.toInt64 x1) &&& (4294967295 : Int64)))]) (mem1 := m) rfl ?_
                obtain ⟨g10, h⟩ := h
                refine it_V.s1 it_cd120 it_m120 (pc1 := 117) (ls1 := [some (.int x0), some (.int x1), some (.int x2), some (.long ((Int32.toInt64 x1) &&& (4294967295 : Int64))), none, some (.long ((Int32.toInt64 x2) &&& (4294967295 : Int64))), none]) (st1 := [(.long (((Int32.toInt64 x1) &&& (4294967295 : Int64)) / ((Int32.toInt64 x2) &&& (4294967295 : Int64))))]) (mem1 := m) (by simp only [it_s1, show it_lk it_c120 116 = some (0, .ldiv, 0, 0) from rfl, it_ops, if_neg g10]; rfl) ?_
                refine it_V.sN it_cd120 it_m120 1 (pc1 := 118) (ls1 := [some (.int x0), some (.int x1), some (.int x2), some (.long ((Int32.toInt64 x1) &&& (4294967295 : Int64))), none, some (.long ((Int32.toInt64 x2) &&& (4294967295 : Int64))), none]) (st1 := [(.int (Int64.toInt32 (((Int32.toInt64 x1) &&& (4294967295 : Int64)) / ((Int32.toInt64 x2) &&& (4294967295 : Int64)))))]) (mem1 := m) rfl ?_
                refine it_V.weak (l := [none, none, none, none, none, none, none]) trivial ?_
                exact s_120_118 kc Φ (Int64.toInt32 (((Int32.toInt64 x1) &&& (4294967295 : Int64)) / ((Int32.toInt64 x2) &&& (4294967295 : Int64)))) m h
            · have h := h.2 c8
              refine it_V.ite (fun c11 => ?_) (fun c11 => ?_)
              · have h := h.1 c11
                refine it_V.sN it_cd120 it_m120 2 (pc1 := (if x2 = 0 then 123 else 127)) (ls1 := [some (.int x0), some (.int x1), some (.int x2), some (.long ((Int32.toInt64 x1) &&& (4294967295 : Int64))), none, some (.long ((Int32.toInt64 x2) &&& (4294967295 : Int64))), none]) (st1 := []) (mem1 := m) rfl ?_
                refine it_V.ite (fun c12 => ?_) (fun c12 => ?_)
                · have h := h.1 c12
                  refine it_V.sN it_cd120 it_m120 2 (pc1 := 130) (ls1 := [some (.int x0), some (.int x1), some (.int x2), some (.long ((Int32.toInt64 x1) &&& (4294967295 : Int64))), none, some (.long ((Int32.toInt64 x2) &&& (4294967295 : Int64))), none]) (st1 := [(.int x1)]) (mem1 := m) rfl ?_
                  refine it_V.weak (l := [none, none, none, none, none, none, none]) trivial ?_
                  exact s_120_130 kc Φ x1 m h
                · have h := h.2 c12
                  refine it_V.sN it_cd120 it_m120 2 (pc1 := 129) (ls1 := [some (.int x0), some (.int x1), some (.int x2), some (.long ((Int32.toInt64 x1) &&& (4294967295 : Int64))), none, some (.long ((Int32.toInt64 x2) &&& (4294967295 : Int64))), none]) (st1 := [(.int x2), (.int x1)]) (mem1 := m) rfl ?_
                  obtain ⟨g13, h⟩ := h
                  refine it_V.s1 it_cd120 it_m120 (pc1 := 130) (ls1 := [some (.int x0), some (.int x1), some (.int x2), some (.long ((Int32.toInt64 x1) &&& (4294967295 : Int64))), none, some (.long ((Int32.toInt64 x2) &&& (4294967295 : Int64))), none]) (st1 := [(.int (it_rem x1 x2))]) (mem1 := m) (by simp only [it_s1, show it_lk it_c120 129 = some (0, .irem, 0, 0) from rfl, it_ops, if_neg g13]; rfl) ?_
                  refine it_V.weak (l := [none, none, none, none, none, none, none]) trivial ?_
                  exact s_120_130 kc Φ (it_rem x1 x2) m h
              · have h := h.2 c11
                refine it_V.sN it_cd120 it_m120 2 (pc1 := (if x2 = 0 then 135 else 139)) (ls1 := [some (.int x0), some (.int x1), some (.int x2), some (.long ((Int32.toInt64 x1) &&& (4294967295 : Int64))), none, some (.long ((Int32.toInt64 x2) &&& (4294967295 : Int64))), none]) (st1 := []) (mem1 := m) rfl ?_
                refine it_V.ite (fun c14 => ?_) (fun c14 => ?_)
                · have h := h.1 c14
                  refine it_V.sN it_cd120 it_m120 2 (pc1 := 144) (ls1 := [some (.int x0), some (.int x1), some (.int x2), some (.long ((Int32.toInt64 x1) &&& (4294967295 : Int64))), none, some (.long ((Int32.toInt64 x2) &&& (4294967295 : Int64))), none]) (st1 := [(.int x1)]) (mem1 := m) rfl ?_
                  refine it_V.weak (l := [none, none, none, none, none, none, none]) trivial ?_
                  exact s_120_144 kc Φ x1 m h
                · have h := h.2 c14
                  refine it_V.sN it_cd120 it_m120 2 (pc1 := 142) (ls1 := [some (.int x0), some (.int x1), some (.int x2), some (.long ((Int32.toInt64 x1) &&& (4294967295 : Int64))), none, some (.long ((Int32.toInt64 x2) &&& (4294967295 : Int64))), none]) (st1 := [(.long ((Int32.toInt64 x2) &&& (4294967295 : Int64))), (.long ((Int32.toInt64 x1) &&& (4294967295 : Int64)))]) (mem1 := m) rfl ?_
                  obtain ⟨g15, h⟩ := h
                  refine it_V.s1 it_cd120 it_m120 (pc1 := 143) (ls1 := [some (.int x0), some (.int x1), some (.int x2), some (.long ((Int32.toInt64 x1) &&& (4294967295 : Int64))), none, some (.long ((Int32.toInt64 x2) &&& (4294967295 : Int64))), none]) (st1 := [(.long (it_lrem ((Int32.toInt64 x1) &&& (4294967295 : Int64)) ((Int32.toInt64 x2) &&& (4294967295 : Int64))))]) (mem1 := m) (by simp only [it_s1, show it_lk it_c120 142 = some (0, .lrem, 0, 0) from rfl, it_ops, if_neg g15]; rfl) ?_
                  refine it_V.sN it_cd120 it_m120 1 (pc1 := 144) (ls1 := [some (.int x0), some (.int x1), some (.int x2), some (.long ((Int32.toInt64 x1) &&& (4294967295 : Int64))), none, some (.long ((Int32.toInt64 x2) &&& (4294967295 : Int64))), none]) (st1 := [(.int (Int64.toInt32 (it_lrem ((Int32.toInt64 x1) &&& (4294967295 : Int64)) ((Int32.toInt64 x2) &&& (4294967295 : Int64)))))]) (mem1 := m) rfl ?_
                  refine it_V.weak (l := [none, none, none, none, none, none, none]) trivial ?_
                  exact s_120_144 kc Φ (Int64.toInt32 (it_lrem ((Int32.toInt64 x1) &&& (4294967295 : Int64)) ((Int32.toInt64 x2) &&& (4294967295 : Int64)))) m h
set_option maxRecDepth 100000 in
set_option maxHeartbeats 4000000 in
theorem s_118_71 (kc : it_Kc) (Φ : Int32 → it_Me → Prop) (v2 : Int32) (m : it_Me) (h : w_118_71 kc Φ v2 m) : it_V kc it_sh0 118 71 [some (.ref 58), none, some (.int v2), none, none, none, none, none] [] m (it_Pi Φ) := by
  rw [w_118_71] at h
  refine it_V.sN it_cd118 it_m118 3 (pc1 := 74) (ls1 := [some (.ref 58), none, some (.int v2), none, none, none, none, none]) (st1 := [(.int v2), (.int (2 : Int32)), (.ref 58)]) (mem1 := m) rfl ?_
  refine it_V.call it_cd118 it_m118 rfl it_m105 [(.ref 58), (.int (2 : Int32)), (.int v2)] [] rfl rfl ⟨Nat.le_of_ble_eq_true rfl, Nat.le_of_ble_eq_true rfl, Nat.le_of_ble_eq_true rfl, Nat.le_of_ble_eq_true rfl, rfl⟩ (s_105 kc (2 : Int32) v2 m _ h) ?_
  rintro _ m2 ⟨r1, rfl, h⟩
  refine it_V.at (pc1 := 77) (ls1 := [some (.ref 58), none, some (.int v2), none, none, none, none, none]) (st1 := [(.int r1)]) (mem1 := m2) rfl rfl rfl rfl ?_
  exact it_V.ret it_cd118 it_m118 rfl rfl ⟨_, rfl, h⟩
set_option maxRecDepth 100000 in
set_option maxHeartbeats 4000000 in
theorem s_118_94 (kc : it_Kc) (Φ : Int32 → it_Me → Prop) (v3 : Int32) (v6 : Int32) (v7 : Int32) (u0 : Nat) (u1 : Int32) (u2 : Int32) (u3 : Int32) (hu0 : it_isP u0) (m : it_Me) (h : w_118_94 kc Φ v3 v6 v7 u0 u1 u2 u3 m) : it_V kc it_sh0 118 94 [none, none, none, some (.int v3), none, none, some (.int v6), some (.int v7)] [(.int u3), (.int u2), (.int u1), (.ref u0)] m (it_Pi Φ) := by
  rw [w_118_94] at h
  refine it_V.sN it_cd118 it_m118 2 (pc1 := 98) (ls1 := [none, none, none, some (.int v3), none, none, some (.int v6), some (.int v7)]) (st1 := [(.int v7), (.int v6), (.int u3), (.int u2), (.int u1), (.ref u0)]) (mem1 := m) rfl ?_
  refine it_V.call it_cd118 it_m118 rfl it_m119 [(.int u2), (.int u3), (.int v6), (.int v7)] [(.int u1), (.ref u0)] rfl rfl ⟨Nat.le_of_ble_eq_true rfl, Nat.le_of_ble_eq_true rfl, Nat.le_of_ble_eq_true rfl, Nat.le_of_ble_eq_true rfl, rfl⟩ (s_119 kc u2 u3 v6 v7 m _ h) ?_
  rintro _ m2 ⟨r1, rfl, h⟩
  refine it_V.at (pc1 := 101) (ls1 := [none, none, none, some (.int v3), none, none, some (.int v6), some (.int v7)]) (st1 := [(.int r1), (.int u1), (.ref u0)]) (mem1 := m2) rfl rfl rfl rfl ?_
  refine it_V.sN it_cd118 it_m118 1 (pc1 := 102) (ls1 := [none, none, none, some (.int v3), none, none, some (.int v6), some (.int v7)]) (st1 := [(.int v3), (.int r1), (.int u1), (.ref u0)]) (mem1 := m2) rfl ?_
  refine it_V.call it_cd118 it_m118 rfl it_m107 [(.ref u0), (.int u1), (.int r1), (.int v3)] [] rfl rfl ⟨Nat.le_of_ble_eq_true rfl, Nat.le_of_ble_eq_true rfl, Nat.le_of_ble_eq_true rfl, Nat.le_of_ble_eq_true rfl, rfl⟩ (s_107 kc u0 u1 r1 v3 (hu0) m2 _ h) ?_
  rintro _ m4 ⟨r3, rfl, h⟩
  refine it_V.at (pc1 := 105) (ls1 := [none, none, none, some (.int v3), none, none, some (.int v6), some (.int v7)]) (st1 := [(.int r3)]) (mem1 := m4) rfl rfl rfl rfl ?_
  exact it_V.ret it_cd118 it_m118 rfl rfl ⟨_, rfl, h⟩
set_option maxRecDepth 100000 in
set_option maxHeartbeats 4000000 in
theorem s_118_78 (kc : it_Kc) (Φ : Int32 → it_Me → Prop) (v1 : Nat) (v2 : Int32) (v3 : Int32) (v4 : Int32) (v5 : Int32) (v6 : Int32) (v7 : Int32) (hv1 : it_isP v1) (m : it_Me) (h : w_118_78 kc Φ v1 v2 v3 v4 v5 v6 v7 m) : it_V kc it_sh0 118 78 [none, some (.ref v1), some (.int v2), some (.int v3), some (.int v4), some (.int v5), some (.int v6), some (.int v7)] [] m (it_Pi Φ) := by
  rw [w_118_78] at h
  refine it_V.sN it_cd118 it_m118 6 (pc1 := (if v5 = (32 : Int32) then 89 else 93)) (ls1 := [none, some (.ref v1), some (.int v2), some (.int v3), some (.int v4), some (.int v5), some (.int v6), some (.int v7)]) (st1 := [(.int v4), (.int v2), (.ref v1)]) (mem1 := m) rfl ?_
  refine it_V.ite (fun c1 => ?_) (fun c1 => ?_)
  · have h := h.1 c1
    refine it_V.sN it_cd118 it_m118 2 (pc1 := 94) (ls1 := [none, some (.ref v1), some (.int v2), some (.int v3), some (.int v4), some (.int v5), some (.int v6), some (.int v7)]) (st1 := [(.int (1 : Int32)), (.int v4), (.int v2), (.ref v1)]) (mem1 := m) rfl ?_
    refine it_V.weak (l := [none, none, none, some (.int v3), none, none, some (.int v6), some (.int v7)]) ⟨rfl, ⟨rfl, ⟨rfl, trivial⟩⟩⟩ ?_
    exact s_118_94 kc Φ v3 v6 v7 v1 v2 v4 (1 : Int32) (hv1) m h
  · have h := h.2 c1
    refine it_V.sN it_cd118 it_m118 1 (pc1 := 94) (ls1 := [none, some (.ref v1), some (.int v2), some (.int v3), some (.int v4), some (.int v5), some (.int v6), some (.int v7)]) (st1 := [(.int (0 : Int32)), (.int v4), (.int v2), (.ref v1)]) (mem1 := m) rfl ?_
    refine it_V.weak (l := [none, none, none, some (.int v3), none, none, some (.int v6), some (.int v7)]) ⟨rfl, ⟨rfl, ⟨rfl, trivial⟩⟩⟩ ?_
    exact s_118_94 kc Φ v3 v6 v7 v1 v2 v4 (0 : Int32) (hv1) m h
set_option maxRecDepth 100000 in
set_option maxHeartbeats 4000000 in
theorem s_118 (kc : it_Kc) (x0 : Nat) (x1 : Int32) (x2 : Int32) (hx0 : it_isP x0) (m : it_Me) (Φ : Int32 → it_Me → Prop) (h : w_118 kc x0 x1 x2 m Φ) : it_V kc it_sh0 118 0 (it_loc0 [(.ref 58), (.ref x0), (.int x1), (.int x2)] 8) [] m (it_Pi Φ) := by
  rw [w_118] at h
  refine it_V.at (pc1 := 0) (ls1 := [some (.ref 58), some (.ref x0), some (.int x1), some (.int x2), none, none, none, none]) (st1 := []) (mem1 := m) rfl rfl rfl rfl ?_
  refine it_V.sN it_cd118 it_m118 1 (pc1 := 1) (ls1 := [some (.ref 58), some (.ref x0), some (.int x1), some (.int x2), none, none, none, none]) (st1 := [(.int x1)]) (mem1 := m) rfl ?_
  refine it_V.call it_cd118 it_m118 rfl it_m108 [(.int x1)] [] rfl rfl ⟨Nat.le_of_ble_eq_true rfl, Nat.le_of_ble_eq_true rfl, Nat.le_of_ble_eq_true rfl, Nat.le_of_ble_eq_true rfl, rfl⟩ (s_108 kc x1 m _ h) ?_
  rintro _ m2 ⟨r1, rfl, h⟩
  refine it_V.at (pc1 := 4) (ls1 := [some (.ref 58), some (.ref x0), some (.int x1), some (.int x2), none, none, none, none]) (st1 := [(.int r1)]) (mem1 := m2) rfl rfl rfl rfl ?_
  refine it_V.sN it_cd118 it_m118 7 (pc1 := 14) (ls1 := [some (.ref 58), some (.ref x0), some (.int x1), some (.int x2), some (.int r1), some (.int (it_us x1 (25 : Int32))), none, none]) (st1 := [(.int x1), (.ref x0)]) (mem1 := m2) rfl ?_
  refine it_V.call it_cd118 it_m118 rfl it_m109 [(.ref x0), (.int x1)] [] rfl rfl ⟨Nat.le_of_ble_eq_true rfl, Nat.le_of_ble_eq_true rfl, Nat.le_of_ble_eq_true rfl, Nat.le_of_ble_eq_true rfl, rfl⟩ (s_109 kc x0 x1 (hx0) m2 _ h) ?_
  rintro _ m4 ⟨r3, rfl, h⟩
  refine it_V.at (pc1 := 17) (ls1 := [some (.ref 58), some (.ref x0), some (.int x1), some (.int x2), some (.int r1), some (.int (it_us x1 (25 : Int32))), none, none]) (st1 := [(.int r3)]) (mem1 := m4) rfl rfl rfl rfl ?_
  refine it_V.sN it_cd118 it_m118 3 (pc1 := 21) (ls1 := [some (.ref 58), some (.ref x0), some (.int x1), some (.int x2), some (.int r1), some (.int (it_us x1 (25 : Int32))), some (.int r3), none]) (st1 := [(.int x1), (.ref x0)]) (mem1 := m4) rfl ?_
  refine it_V.call it_cd118 it_m118 rfl it_m110 [(.ref x0), (.int x1)] [] rfl rfl ⟨Nat.le_of_ble_eq_true rfl, Nat.le_of_ble_eq_true rfl, Nat.le_of_ble_eq_true rfl, Nat.le_of_ble_eq_true rfl, rfl⟩ (s_110 kc x0 x1 (hx0) m4 _ h) ?_
  rintro _ m6 ⟨r5, rfl, h⟩
  refine it_V.at (pc1 := 24) (ls1 := [some (.ref 58), some (.ref x0), some (.int x1), some (.int x2), some (.int r1), some (.int (it_us x1 (25 : Int32))), some (.int r3), none]) (st1 := [(.int r5)]) (mem1 := m6) rfl rfl rfl rfl ?_
  refine it_V.sN it_cd118 it_m118 4 (pc1 := (if (it_us x1 (25 : Int32)) = (1 : Int32) then 32 else 48)) (ls1 := [some (.ref 58), some (.ref x0), some (.int x1), some (.int x2), some (.int r1), some (.int (it_us x1 (25 : Int32))), some (.int r3), some (.int r5)]) (st1 := []) (mem1 := m6) rfl ?_
  refine it_V.ite (fun c7 => ?_) (fun c7 => ?_)
  · have h := h.1 c7
    refine it_V.sN it_cd118 it_m118 5 (pc1 := 40) (ls1 := [some (.ref 58), some (.ref x0), some (.int x1), some (.int x2), some (.int r1), some (.int (it_us x1 (25 : Int32))), some (.int r3), some (.int r5)]) (st1 := [(.int r5), (.int r3), (.int r1), (.int x1), (.ref x0)]) (mem1 := m6) rfl ?_
    refine it_V.call it_cd118 it_m118 rfl it_m120 [(.int r1), (.int r3), (.int r5)] [(.int x1), (.ref x0)] rfl rfl ⟨Nat.le_of_ble_eq_true rfl, Nat.le_of_ble_eq_true rfl, Nat.le_of_ble_eq_true rfl, Nat.le_of_ble_eq_true rfl, rfl⟩ (s_120 kc r1 r3 r5 m6 _ h) ?_
    rintro _ m9 ⟨r8, rfl, h⟩
    refine it_V.at (pc1 := 43) (ls1 := [some (.ref 58), some (.ref x0), some (.int x1), some (.int x2), some (.int r1), some (.int (it_us x1 (25 : Int32))), some (.int r3), some (.int r5)]) (st1 := [(.int r8), (.int x1), (.ref x0)]) (mem1 := m9) rfl rfl rfl rfl ?_
    refine it_V.sN it_cd118 it_m118 1 (pc1 := 44) (ls1 := [some (.ref 58), some (.ref x0), some (.int x1), some (.int x2), some (.int r1), some (.int (it_us x1 (25 : Int32))), some (.int r3), some (.int r5)]) (st1 := [(.int x2), (.int r8), (.int x1), (.ref x0)]) (mem1 := m9) rfl ?_
    refine it_V.call it_cd118 it_m118 rfl it_m107 [(.ref x0), (.int x1), (.int r8), (.int x2)] [] rfl rfl ⟨Nat.le_of_ble_eq_true rfl, Nat.le_of_ble_eq_true rfl, Nat.le_of_ble_eq_true rfl, Nat.le_of_ble_eq_true rfl, rfl⟩ (s_107 kc x0 x1 r8 x2 (hx0) m9 _ h) ?_
    rintro _ m11 ⟨r10, rfl, h⟩
    refine it_V.at (pc1 := 47) (ls1 := [some (.ref 58), some (.ref x0), some (.int x1), some (.int x2), some (.int r1), some (.int (it_us x1 (25 : Int32))), some (.int r3), some (.int r5)]) (st1 := [(.int r10)]) (mem1 := m11) rfl rfl rfl rfl ?_
    exact it_V.ret it_cd118 it_m118 rfl rfl ⟨_, rfl, h⟩
  · have h := h.2 c7
    refine it_V.sN it_cd118 it_m118 2 (pc1 := (if (it_us x1 (25 : Int32)) = 0 then 78 else 53)) (ls1 := [some (.ref 58), some (.ref x0), some (.int x1), some (.int x2), some (.int r1), some (.int (it_us x1 (25 : Int32))), some (.int r3), some (.int r5)]) (st1 := []) (mem1 := m6) rfl ?_
    refine it_V.ite (fun c12 => ?_) (fun c12 => ?_)
    · have h := h.1 c12
      refine it_V.weak (l := [none, some (.ref x0), some (.int x1), some (.int x2), some (.int r1), some (.int (it_us x1 (25 : Int32))), some (.int r3), some (.int r5)]) ⟨rfl, ⟨rfl, ⟨rfl, ⟨rfl, ⟨rfl, ⟨rfl, ⟨rfl, trivial⟩⟩⟩⟩⟩⟩⟩ ?_
      exact s_118_78 kc Φ x0 x1 x2 r1 (it_us x1 (25 : Int32)) r3 r5 (hx0) m6 h
    · have h := h.2 c12
      refine it_V.sN it_cd118 it_m118 3 (pc1 := (if (it_us x1 (25 : Int32)) = (32 : Int32) then 60 else 71)) (ls1 := [some (.ref 58), some (.ref x0), some (.int x1), some (.int x2), some (.int r1), some (.int (it_us x1 (25 : Int32))), some (.int r3), some (.int r5)]) (st1 := []) (mem1 := m6) rfl ?_
      refine it_V.ite (fun c13 => ?_) (fun c13 => ?_)
      · have h := h.1 c13
        refine it_V.sN it_cd118 it_m118 2 (pc1 := (if r1 = 0 then 78 else 65)) (ls1 := [some (.ref 58), some (.ref x0), some (.int x1), some (.int x2), some (.int r1), some (.int (it_us x1 (25 : Int32))), some (.int r3), some (.int r5)]) (st1 := []) (mem1 := m6) rfl ?_
        refine it_V.ite (fun c14 => ?_) (fun c14 => ?_)
        · have h := h.1 c14
          refine it_V.weak (l := [none, some (.ref x0), some (.int x1), some (.int x2), some (.int r1), some (.int (it_us x1 (25 : Int32))), some (.int r3), some (.int r5)]) ⟨rfl, ⟨rfl, ⟨rfl, ⟨rfl, ⟨rfl, ⟨rfl, ⟨rfl, trivial⟩⟩⟩⟩⟩⟩⟩ ?_
          exact s_118_78 kc Φ x0 x1 x2 r1 (it_us x1 (25 : Int32)) r3 r5 (hx0) m6 h
        · have h := h.2 c14
          refine it_V.sN it_cd118 it_m118 3 (pc1 := (if r1 = (5 : Int32) then 78 else 71)) (ls1 := [some (.ref 58), some (.ref x0), some (.int x1), some (.int x2), some (.int r1), some (.int (it_us x1 (25 : Int32))), some (.int r3), some (.int r5)]) (st1 := []) (mem1 := m6) rfl ?_
          refine it_V.ite (fun c15 => ?_) (fun c15 => ?_)
          · have h := h.1 c15
            refine it_V.weak (l := [none, some (.ref x0), some (.int x1), some (.int x2), some (.int r1), some (.int (it_us x1 (25 : Int32))), some (.int r3), some (.int r5)]) ⟨rfl, ⟨rfl, ⟨rfl, ⟨rfl, ⟨rfl, ⟨rfl, ⟨rfl, trivial⟩⟩⟩⟩⟩⟩⟩ ?_
            exact s_118_78 kc Φ x0 x1 x2 r1 (it_us x1 (25 : Int32)) r3 r5 (hx0) m6 h
          · have h := h.2 c15
            refine it_V.weak (l := [some (.ref 58), none, some (.int x1), none, none, none, none, none]) ⟨rfl, ⟨rfl, trivial⟩⟩ ?_
            exact s_118_71 kc Φ x1 m6 h
      · have h := h.2 c13
        refine it_V.weak (l := [some (.ref 58), none, some (.int x1), none, none, none, none, none]) ⟨rfl, ⟨rfl, trivial⟩⟩ ?_
        exact s_118_71 kc Φ x1 m6 h
set_option maxRecDepth 100000 in
set_option maxHeartbeats 4000000 in
theorem s_122_59 (kc : it_Kc) (Φ : Int32 → it_Me → Prop) (v3 : Int32) (u0 : Nat) (u1 : Int32) (u2 : Int32) (hu0 : it_isP u0) (m : it_Me) (h : w_122_59 kc Φ v3 u0 u1 u2 m) : it_V kc it_sh0 122 59 [none, none, none, some (.int v3), none, none] [(.int u2), (.int u1), (.ref u0)] m (it_Pi Φ) := by
  rw [w_122_59] at h
  refine it_V.sN it_cd122 it_m122 1 (pc1 := 60) (ls1 := [none, none, none, some (.int v3), none, none]) (st1 := [(.int v3), (.int u2), (.int u1), (.ref u0)]) (mem1 := m) rfl ?_
  refine it_V.call it_cd122 it_m122 rfl it_m107 [(.ref u0), (.int u1), (.int u2), (.int v3)] [] rfl rfl ⟨Nat.le_of_ble_eq_true rfl, Nat.le_of_ble_eq_true rfl, Nat.le_of_ble_eq_true rfl, Nat.le_of_ble_eq_true rfl, rfl⟩ (s_107 kc u0 u1 u2 v3 (hu0) m _ h) ?_
  rintro _ m2 ⟨r1, rfl, h⟩
  refine it_V.at (pc1 := 63) (ls1 := [none, none, none, some (.int v3), none, none]) (st1 := [(.int r1)]) (mem1 := m2) rfl rfl rfl rfl ?_
  exact it_V.ret it_cd122 it_m122 rfl rfl ⟨_, rfl, h⟩
set_option maxRecDepth 100000 in
set_option maxHeartbeats 4000000 in
theorem s_122_42 (kc : it_Kc) (Φ : Int32 → it_Me → Prop) (v1 : Nat) (v2 : Int32) (v3 : Int32) (v5 : Int32) (hv1 : it_isP v1) (m : it_Me) (h : w_122_42 kc Φ v1 v2 v3 v5 m) : it_V kc it_sh0 122 42 [none, some (.ref v1), some (.int v2), some (.int v3), none, some (.int v5)] [] m (it_Pi Φ) := by
  rw [w_122_42] at h
  refine it_V.sN it_cd122 it_m122 2 (pc1 := 44) (ls1 := [none, some (.ref v1), some (.int v2), some (.int v3), none, some (.int v5)]) (st1 := [(.int (1 : Int32)), (.ref v1)]) (mem1 := m) rfl ?_
  refine it_V.putP it_cd122 it_m122 rfl (hv1).1 rfl rfl rfl (Or.inl rfl) ?_
  refine it_V.at (pc1 := 47) (ls1 := [none, some (.ref v1), some (.int v2), some (.int v3), none, some (.int v5)]) (st1 := []) (mem1 := (it_sv m v1 4 (1 : Int32))) rfl rfl rfl rfl ?_
  refine it_V.sN it_cd122 it_m122 4 (pc1 := (if v5 = 0 then 58 else 54)) (ls1 := [none, some (.ref v1), some (.int v2), some (.int v3), none, some (.int v5)]) (st1 := [(.int v2), (.ref v1)]) (mem1 := (it_sv m v1 4 (1 : Int32))) rfl ?_
  refine it_V.ite (fun c1 => ?_) (fun c1 => ?_)
  · have h := h.1 c1
    refine it_V.sN it_cd122 it_m122 1 (pc1 := 59) (ls1 := [none, some (.ref v1), some (.int v2), some (.int v3), none, some (.int v5)]) (st1 := [(.int (1 : Int32)), (.int v2), (.ref v1)]) (mem1 := (it_sv m v1 4 (1 : Int32))) rfl ?_
    refine it_V.weak (l := [none, none, none, some (.int v3), none, none]) ⟨rfl, trivial⟩ ?_
    exact s_122_59 kc Φ v3 v1 v2 (1 : Int32) (hv1) (it_sv m v1 4 (1 : Int32)) h
  · have h := h.2 c1
    refine it_V.sN it_cd122 it_m122 2 (pc1 := 59) (ls1 := [none, some (.ref v1), some (.int v2), some (.int v3), none, some (.int v5)]) (st1 := [(.int (0 : Int32)), (.int v2), (.ref v1)]) (mem1 := (it_sv m v1 4 (1 : Int32))) rfl ?_
    refine it_V.weak (l := [none, none, none, some (.int v3), none, none]) ⟨rfl, trivial⟩ ?_
    exact s_122_59 kc Φ v3 v1 v2 (0 : Int32) (hv1) (it_sv m v1 4 (1 : Int32)) h
set_option maxRecDepth 100000 in
set_option maxHeartbeats 4000000 in
theorem s_122_21 (kc : it_Kc) (Φ : Int32 → it_Me → Prop) (v1 : Nat) (v2 : Int32) (v3 : Int32) (v4 : Int32) (u0 : Int32) (hv1 : it_isP v1) (m : it_Me) (h : w_122_21 kc Φ v1 v2 v3 v4 u0 m) : it_V kc it_sh0 122 21 [some (.ref 58), some (.ref v1), some (.int v2), some (.int v3), some (.int v4), none] [(.int u0)] m (it_Pi Φ) := by
  rw [w_122_21] at h
  refine it_V.sN it_cd122 it_m122 3 (pc1 := (if u0 = 0 then 42 else 28)) (ls1 := [some (.ref 58), some (.ref v1), some (.int v2), some (.int v3), some (.int v4), some (.int u0)]) (st1 := []) (mem1 := m) rfl ?_
  refine it_V.ite (fun c1 => ?_) (fun c1 => ?_)
  · have h := h.1 c1
    refine it_V.weak (l := [none, some (.ref v1), some (.int v2), some (.int v3), none, some (.int u0)]) ⟨rfl, ⟨rfl, ⟨rfl, ⟨rfl, trivial⟩⟩⟩⟩ ?_
    exact s_122_42 kc Φ v1 v2 v3 u0 (hv1) m h
  · have h := h.2 c1
    refine it_V.sN it_cd122 it_m122 5 (pc1 := 36) (ls1 := [some (.ref 58), some (.ref v1), some (.int v2), some (.int v3), some (.int v4), some (.int u0)]) (st1 := [(.int v2), (.ref v1), (.int v4), (.ref 1)]) (mem1 := m) rfl ?_
    refine it_V.call it_cd122 it_m122 rfl it_m110 [(.ref v1), (.int v2)] [(.int v4), (.ref 1)] rfl rfl ⟨Nat.le_of_ble_eq_true rfl, Nat.le_of_ble_eq_true rfl, Nat.le_of_ble_eq_true rfl, Nat.le_of_ble_eq_true rfl, rfl⟩ (s_110 kc v1 v2 (hv1) m _ h) ?_
    rintro _ m3 ⟨r2, rfl, h⟩
    refine it_V.at (pc1 := 39) (ls1 := [some (.ref 58), some (.ref v1), some (.int v2), some (.int v3), some (.int v4), some (.int u0)]) (st1 := [(.int r2), (.int v4), (.ref 1)]) (mem1 := m3) rfl rfl rfl rfl ?_
    refine it_V.call it_cd122 it_m122 rfl it_m13 [(.ref 1), (.int v4), (.int r2)] [] rfl rfl ⟨Nat.le_of_ble_eq_true rfl, Nat.le_of_ble_eq_true rfl, Nat.le_of_ble_eq_true rfl, Nat.le_of_ble_eq_true rfl, rfl⟩ (s_13 kc v4 r2 m3 _ h) ?_
    rintro _ m4 ⟨rfl, h⟩
    refine it_V.at (pc1 := 42) (ls1 := [some (.ref 58), some (.ref v1), some (.int v2), some (.int v3), some (.int v4), some (.int u0)]) (st1 := []) (mem1 := m4) rfl rfl rfl rfl ?_
    refine it_V.weak (l := [none, some (.ref v1), some (.int v2), some (.int v3), none, some (.int u0)]) ⟨rfl, ⟨rfl, ⟨rfl, ⟨rfl, trivial⟩⟩⟩⟩ ?_
    exact s_122_42 kc Φ v1 v2 v3 u0 (hv1) m4 h
set_option maxRecDepth 100000 in
set_option maxHeartbeats 4000000 in
theorem s_122 (kc : it_Kc) (x0 : Nat) (x1 : Int32) (x2 : Int32) (hx0 : it_isP x0) (m : it_Me) (Φ : Int32 → it_Me → Prop) (h : w_122 kc x0 x1 x2 m Φ) : it_V kc it_sh0 122 0 (it_loc0 [(.ref 58), (.ref x0), (.int x1), (.int x2)] 6) [] m (it_Pi Φ) := by
  rw [w_122] at h
  refine it_V.at (pc1 := 0) (ls1 := [some (.ref 58), some (.ref x0), some (.int x1), some (.int x2), none, none]) (st1 := []) (mem1 := m) rfl rfl rfl rfl ?_
  refine it_V.sN it_cd122 it_m122 2 (pc1 := 2) (ls1 := [some (.ref 58), some (.ref x0), some (.int x1), some (.int x2), none, none]) (st1 := [(.int x1), (.ref x0)]) (mem1 := m) rfl ?_
  refine it_V.call it_cd122 it_m122 rfl it_m109 [(.ref x0), (.int x1)] [] rfl rfl ⟨Nat.le_of_ble_eq_true rfl, Nat.le_of_ble_eq_true rfl, Nat.le_of_ble_eq_true rfl, Nat.le_of_ble_eq_true rfl, rfl⟩ (s_109 kc x0 x1 (hx0) m _ h) ?_
  rintro _ m2 ⟨r1, rfl, h⟩
  refine it_V.at (pc1 := 5) (ls1 := [some (.ref 58), some (.ref x0), some (.int x1), some (.int x2), none, none]) (st1 := [(.int r1)]) (mem1 := m2) rfl rfl rfl rfl ?_
  refine it_V.sN it_cd122 it_m122 2 (pc1 := 8) (ls1 := [some (.ref 58), some (.ref x0), some (.int x1), some (.int x2), some (.int r1), none]) (st1 := [(.ref x0)]) (mem1 := m2) rfl ?_
  refine it_V.getP it_cd122 it_m122 rfl (hx0).1 rfl ?_
  refine it_V.at (pc1 := 11) (ls1 := [some (.ref 58), some (.ref x0), some (.int x1), some (.int x2), some (.int r1), none]) (st1 := [(.int (m2 x0 4))]) (mem1 := m2) rfl rfl rfl rfl ?_
  refine it_V.sN it_cd122 it_m122 2 (pc1 := (if (m2 x0 4) = r1 then 16 else 20)) (ls1 := [some (.ref 58), some (.ref x0), some (.int x1), some (.int x2), some (.int r1), none]) (st1 := []) (mem1 := m2) rfl ?_
  refine it_V.ite (fun c3 => ?_) (fun c3 => ?_)
  · have h := h.1 c3
    refine it_V.sN it_cd122 it_m122 2 (pc1 := 21) (ls1 := [some (.ref 58), some (.ref x0), some (.int x1), some (.int x2), some (.int r1), none]) (st1 := [(.int (1 : Int32))]) (mem1 := m2) rfl ?_
    exact s_122_21 kc Φ x0 x1 x2 r1 (1 : Int32) (hx0) m2 h
  · have h := h.2 c3
    refine it_V.sN it_cd122 it_m122 1 (pc1 := 21) (ls1 := [some (.ref 58), some (.ref x0), some (.int x1), some (.int x2), some (.int r1), none]) (st1 := [(.int (0 : Int32))]) (mem1 := m2) rfl ?_
    exact s_122_21 kc Φ x0 x1 x2 r1 (0 : Int32) (hx0) m2 h
set_option maxRecDepth 100000 in
set_option maxHeartbeats 4000000 in
theorem s_123_173 (kc : it_Kc) (Φ : Int32 → it_Me → Prop) (u0 : Int32) (m : it_Me) (h : w_123_173 kc Φ u0 m) : it_V kc it_sh0 123 173 [none, none, none] [(.int u0)] m (it_Pi Φ) := by
  rw [w_123_173] at h
  exact it_V.ret it_cd123 it_m123 rfl rfl ⟨_, rfl, h⟩
set_option maxRecDepth 100000 in
set_option maxHeartbeats 4000000 in
theorem s_123_187 (kc : it_Kc) (Φ : Int32 → it_Me → Prop) (u0 : Int32) (m : it_Me) (h : w_123_187 kc Φ u0 m) : it_V kc it_sh0 123 187 [none, none, none] [(.int u0)] m (it_Pi Φ) := by
  rw [w_123_187] at h
  exact it_V.ret it_cd123 it_m123 rfl rfl ⟨_, rfl, h⟩
set_option maxRecDepth 100000 in
set_option maxHeartbeats 4000000 in
theorem s_123 (kc : it_Kc) (x0 : Int32) (x1 : Int32) (x2 : Int32) (m : it_Me) (Φ : Int32 → it_Me → Prop) (h : w_123 kc x0 x1 x2 m Φ) : it_V kc it_sh0 123 0 (it_loc0 [(.int x0), (.int x1), (.int x2)] 3) [] m (it_Pi Φ) := by
  rw [w_123] at h
  refine it_V.at (pc1 := 0) (ls1 := [some (.int x0), some (.int x1), some (.int x2)]) (st1 := []) (mem1 := m) rfl rfl rfl rfl ?_
  refine it_V.sN it_cd123 it_m123 1 (pc1 := 1) (ls1 := [some (.int x0), some (.int x1), some (.int x2)]) (st1 := [(.int x0)]) (mem1 := m) rfl ?_
  refine it_V.sN it_cd123 it_m123 1 (pc1 := (if x0 = (0 : Int32) then 132 else (if x0 = (1 : Int32) then 188 else (if x0 = (2 : Int32) then 188 else (if x0 = (3 : Int32) then 188 else (if x0 = (4 : Int32) then 136 else (if x0 = (5 : Int32) then 188 else (if x0 = (6 : Int32) then 188 else (if x0 = (7 : Int32) then 188 else (if x0 = (8 : Int32) then 140 else (if x0 = (9 : Int32) then 188 else (if x0 = (10 : Int32) then 188 else (if x0 = (11 : Int32) then 188 else (if x0 = (12 : Int32) then 144 else (if x0 = (13 : Int32) then 188 else (if x0 = (14 : Int32) then 188 else (if x0 = (15 : Int32) then 188 else (if x0 = (16 : Int32) then 148 else (if x0 = (17 : Int32) then 188 else (if x0 = (18 : Int32) then 188 else (if x0 = (19 : Int32) then 188 else (if x0 = (20 : Int32) then 154 else (if x0 = (21 : Int32) then 188 else (if x0 = (22 : Int32) then 188 else (if x0 = (23 : Int32) then 188 else (if x0 = (24 : Int32) then 160 else (if x0 = (25 : Int32) then 188 else (if x0 = (26 : Int32) then 188 else (if x0 = (27 : Int32) then 188 else (if x0 = (28 : Int32) then 174 else 188)))))))))))))))))))))))))))))) (ls1 := [some (.int x0), some (.int x1), some (.int x2)]) (st1 := []) (mem1 := m) rfl ?_
  refine it_V.ite (fun c1 => ?_) (fun c1 => ?_)
  · have h := h.1 c1
    refine it_V.sN it_cd123 it_m123 3 (pc1 := 135) (ls1 := [some (.int x0), some (.int x1), some (.int x2)]) (st1 := [(.int (x1 + x2))]) (mem1 := m) rfl ?_
    exact it_V.ret it_cd123 it_m123 rfl rfl ⟨_, rfl, h⟩
  · have h := h.2 c1
    refine it_V.ite (fun c2 => ?_) (fun c2 => ?_)
    · have h := h.1 c2
      refine it_V.sN it_cd123 it_m123 1 (pc1 := 189) (ls1 := [some (.int x0), some (.int x1), some (.int x2)]) (st1 := [(.int x2)]) (mem1 := m) rfl ?_
      exact it_V.ret it_cd123 it_m123 rfl rfl ⟨_, rfl, h⟩
    · have h := h.2 c2
      refine it_V.ite (fun c3 => ?_) (fun c3 => ?_)
      · have h := h.1 c3
        refine it_V.sN it_cd123 it_m123 1 (pc1 := 189) (ls1 := [some (.int x0), some (.int x1), some (.int x2)]) (st1 := [(.int x2)]) (mem1 := m) rfl ?_
        exact it_V.ret it_cd123 it_m123 rfl rfl ⟨_, rfl, h⟩
      · have h := h.2 c3
        refine it_V.ite (fun c4 => ?_) (fun c4 => ?_)
        · have h := h.1 c4
          refine it_V.sN it_cd123 it_m123 1 (pc1 := 189) (ls1 := [some (.int x0), some (.int x1), some (.int x2)]) (st1 := [(.int x2)]) (mem1 := m) rfl ?_
          exact it_V.ret it_cd123 it_m123 rfl rfl ⟨_, rfl, h⟩
        · have h := h.2 c4
          refine it_V.ite (fun c5 => ?_) (fun c5 => ?_)
          · have h := h.1 c5
            refine it_V.sN it_cd123 it_m123 3 (pc1 := 139) (ls1 := [some (.int x0), some (.int x1), some (.int x2)]) (st1 := [(.int (x1 ^^^ x2))]) (mem1 := m) rfl ?_
            exact it_V.ret it_cd123 it_m123 rfl rfl ⟨_, rfl, h⟩
          · have h := h.2 c5
            refine it_V.ite (fun c6 => ?_) (fun c6 => ?_)
            · have h := h.1 c6
              refine it_V.sN it_cd123 it_m123 1 (pc1 := 189) (ls1 := [some (.int x0), some (.int x1), some (.int x2)]) (st1 := [(.int x2)]) (mem1 := m) rfl ?_
              exact it_V.ret it_cd123 it_m123 rfl rfl ⟨_, rfl, h⟩
            · have h := h.2 c6
              refine it_V.ite (fun c7 => ?_) (fun c7 => ?_)
              · have h := h.1 c7
                refine it_V.sN it_cd123 it_m123 1 (pc1 := 189) (ls1 := [some (.int x0), some (.int x1), some (.int x2)]) (st1 := [(.int x2)]) (mem1 := m) rfl ?_
                exact it_V.ret it_cd123 it_m123 rfl rfl ⟨_, rfl, h⟩
              · have h := h.2 c7
                refine it_V.ite (fun c8 => ?_) (fun c8 => ?_)
                · have h := h.1 c8
                  refine it_V.sN it_cd123 it_m123 1 (pc1 := 189) (ls1 := [some (.int x0), some (.int x1), some (.int x2)]) (st1 := [(.int x2)]) (mem1 := m) rfl ?_
                  exact it_V.ret it_cd123 it_m123 rfl rfl ⟨_, rfl, h⟩
                · have h := h.2 c8
                  refine it_V.ite (fun c9 => ?_) (fun c9 => ?_)
                  · have h := h.1 c9
                    refine it_V.sN it_cd123 it_m123 3 (pc1 := 143) (ls1 := [some (.int x0), some (.int x1), some (.int x2)]) (st1 := [(.int (x1 ||| x2))]) (mem1 := m) rfl ?_
                    exact it_V.ret it_cd123 it_m123 rfl rfl ⟨_, rfl, h⟩
                  · have h := h.2 c9
                    refine it_V.ite (fun c10 => ?_) (fun c10 => ?_)
                    · have h := h.1 c10
                      refine it_V.sN it_cd123 it_m123 1 (pc1 := 189) (ls1 := [some (.int x0), some (.int x1), some (.int x2)]) (st1 := [(.int x2)]) (mem1 := m) rfl ?_
                      exact it_V.ret it_cd123 it_m123 rfl rfl ⟨_, rfl, h⟩
                    · have h := h.2 c10
                      refine it_V.ite (fun c11 => ?_) (fun c11 => ?_)
                      · have h := h.1 c11
                        refine it_V.sN it_cd123 it_m123 1 (pc1 := 189) (ls1 := [some (.int x0), some (.int x1), some (.int x2)]) (st1 := [(.int x2)]) (mem1 := m) rfl ?_
                        exact it_V.ret it_cd123 it_m123 rfl rfl ⟨_, rfl, h⟩
                      · have h := h.2 c11
                        refine it_V.ite (fun c12 => ?_) (fun c12 => ?_)
                        · have h := h.1 c12
                          refine it_V.sN it_cd123 it_m123 1 (pc1 := 189) (ls1 := [some (.int x0), some (.int x1), some (.int x2)]) (st1 := [(.int x2)]) (mem1 := m) rfl ?_
                          exact it_V.ret it_cd123 it_m123 rfl rfl ⟨_, rfl, h⟩
                        · have h := h.2 c12
                          refine it_V.ite (fun c13 => ?_) (fun c13 => ?_)
                          · have h := h.1 c13
                            refine it_V.sN it_cd123 it_m123 3 (pc1 := 147) (ls1 := [some (.int x0), some (.int x1), some (.int x2)]) (st1 := [(.int (x1 &&& x2))]) (mem1 := m) rfl ?_
                            exact it_V.ret it_cd123 it_m123 rfl rfl ⟨_, rfl, h⟩
                          · have h := h.2 c13
                            refine it_V.ite (fun c14 => ?_) (fun c14 => ?_)
                            · have h := h.1 c14
                              refine it_V.sN it_cd123 it_m123 1 (pc1 := 189) (ls1 := [some (.int x0), some (.int x1), some (.int x2)]) (st1 := [(.int x2)]) (mem1 := m) rfl ?_
                              exact it_V.ret it_cd123 it_m123 rfl rfl ⟨_, rfl, h⟩
                            · have h := h.2 c14
                              refine it_V.ite (fun c15 => ?_) (fun c15 => ?_)
                              · have h := h.1 c15
                                refine it_V.sN it_cd123 it_m123 1 (pc1 := 189) (ls1 := [some (.int x0), some (.int x1), some (.int x2)]) (st1 := [(.int x2)]) (mem1 := m) rfl ?_
                                exact it_V.ret it_cd123 it_m123 rfl rfl ⟨_, rfl, h⟩
                              · have h := h.2 c15
                                refine it_V.ite (fun c16 => ?_) (fun c16 => ?_)
                                · have h := h.1 c16
                                  refine it_V.sN it_cd123 it_m123 1 (pc1 := 189) (ls1 := [some (.int x0), some (.int x1), some (.int x2)]) (st1 := [(.int x2)]) (mem1 := m) rfl ?_
                                  exact it_V.ret it_cd123 it_m123 rfl rfl ⟨_, rfl, h⟩
                                · have h := h.2 c16
                                  refine it_V.ite (fun c17 => ?_) (fun c17 => ?_)
                                  · have h := h.1 c17
                                    refine it_V.sN it_cd123 it_m123 3 (pc1 := 153) (ls1 := [some (.int x0), some (.int x1), some (.int x2)]) (st1 := [(.int (it_min x1 x2))]) (mem1 := m) rfl ?_
                                    exact it_V.ret it_cd123 it_m123 rfl rfl ⟨_, rfl, h⟩
                                  · have h := h.2 c17
                                    refine it_V.ite (fun c18 => ?_) (fun c18 => ?_)
                                    · have h := h.1 c18
                                      refine it_V.sN it_cd123 it_m123 1 (pc1 := 189) (ls1 := [some (.int x0), some (.int x1), some (.int x2)]) (st1 := [(.int x2)]) (mem1 := m) rfl ?_
                                      exact it_V.ret it_cd123 it_m123 rfl rfl ⟨_, rfl, h⟩
                                    · have h := h.2 c18
                                      refine it_V.ite (fun c19 => ?_) (fun c19 => ?_)
                                      · have h := h.1 c19
                                        refine it_V.sN it_cd123 it_m123 1 (pc1 := 189) (ls1 := [some (.int x0), some (.int x1), some (.int x2)]) (st1 := [(.int x2)]) (mem1 := m) rfl ?_
                                        exact it_V.ret it_cd123 it_m123 rfl rfl ⟨_, rfl, h⟩
                                      · have h := h.2 c19
                                        refine it_V.ite (fun c20 => ?_) (fun c20 => ?_)
                                        · have h := h.1 c20
                                          refine it_V.sN it_cd123 it_m123 1 (pc1 := 189) (ls1 := [some (.int x0), some (.int x1), some (.int x2)]) (st1 := [(.int x2)]) (mem1 := m) rfl ?_
                                          exact it_V.ret it_cd123 it_m123 rfl rfl ⟨_, rfl, h⟩
                                        · have h := h.2 c20
                                          refine it_V.ite (fun c21 => ?_) (fun c21 => ?_)
                                          · have h := h.1 c21
                                            refine it_V.sN it_cd123 it_m123 3 (pc1 := 159) (ls1 := [some (.int x0), some (.int x1), some (.int x2)]) (st1 := [(.int (it_max x1 x2))]) (mem1 := m) rfl ?_
                                            exact it_V.ret it_cd123 it_m123 rfl rfl ⟨_, rfl, h⟩
                                          · have h := h.2 c21
                                            refine it_V.ite (fun c22 => ?_) (fun c22 => ?_)
                                            · have h := h.1 c22
                                              refine it_V.sN it_cd123 it_m123 1 (pc1 := 189) (ls1 := [some (.int x0), some (.int x1), some (.int x2)]) (st1 := [(.int x2)]) (mem1 := m) rfl ?_
                                              exact it_V.ret it_cd123 it_m123 rfl rfl ⟨_, rfl, h⟩
                                            · have h := h.2 c22
                                              refine it_V.ite (fun c23 => ?_) (fun c23 => ?_)
                                              · have h := h.1 c23
                                                refine it_V.sN it_cd123 it_m123 1 (pc1 := 189) (ls1 := [some (.int x0), some (.int x1), some (.int x2)]) (st1 := [(.int x2)]) (mem1 := m) rfl ?_
                                                exact it_V.ret it_cd123 it_m123 rfl rfl ⟨_, rfl, h⟩
                                              · have h := h.2 c23
                                                refine it_V.ite (fun c24 => ?_) (fun c24 => ?_)
                                                · have h := h.1 c24
                                                  refine it_V.sN it_cd123 it_m123 1 (pc1 := 189) (ls1 := [some (.int x0), some (.int x1), some (.int x2)]) (st1 := [(.int x2)]) (mem1 := m) rfl ?_
                                                  exact it_V.ret it_cd123 it_m123 rfl rfl ⟨_, rfl, h⟩
                                                · have h := h.2 c24
                                                  refine it_V.ite (fun c25 => ?_) (fun c25 => ?_)
                                                  · have h := h.1 c25
                                                    refine it_V.sN it_cd123 it_m123 2 (pc1 := 162) (ls1 := [some (.int x0), some (.int x1), some (.int x2)]) (st1 := [(.int x2), (.int x1)]) (mem1 := m) rfl ?_
                                                    refine it_V.call it_cd123 it_m123 rfl it_m213 [(.int x1), (.int x2)] [] rfl rfl ⟨Nat.le_of_ble_eq_true rfl, Nat.le_of_ble_eq_true rfl, Nat.le_of_ble_eq_true rfl, Nat.le_of_ble_eq_true rfl, rfl⟩ (s_213 kc x1 x2 m _ h) ?_
                                                    rintro _ m27 ⟨r26, rfl, h⟩
                                                    refine it_V.at (pc1 := 165) (ls1 := [some (.int x0), some (.int x1), some (.int x2)]) (st1 := [(.int r26)]) (mem1 := m27) rfl rfl rfl rfl ?_
                                                    refine it_V.sN it_cd123 it_m123 1 (pc1 := (if r26 = 0 then 172 else 168)) (ls1 := [some (.int x0), some (.int x1), some (.int x2)]) (st1 := []) (mem1 := m27) rfl ?_
                                                    refine it_V.ite (fun c28 => ?_) (fun c28 => ?_)
                                                    · have h := h.1 c28
                                                      refine it_V.sN it_cd123 it_m123 1 (pc1 := 173) (ls1 := [some (.int x0), some (.int x1), some (.int x2)]) (st1 := [(.int x2)]) (mem1 := m27) rfl ?_
                                                      refine it_V.weak (l := [none, none, none]) trivial ?_
                                                      exact s_123_173 kc Φ x2 m27 h
                                                    · have h := h.2 c28
                                                      refine it_V.sN it_cd123 it_m123 2 (pc1 := 173) (ls1 := [some (.int x0), some (.int x1), some (.int x2)]) (st1 := [(.int x1)]) (mem1 := m27) rfl ?_
                                                      refine it_V.weak (l := [none, none, none]) trivial ?_
                                                      exact s_123_173 kc Φ x1 m27 h
                                                  · have h := h.2 c25
                                                    refine it_V.ite (fun c29 => ?_) (fun c29 => ?_)
                                                    · have h := h.1 c29
                                                      refine it_V.sN it_cd123 it_m123 1 (pc1 := 189) (ls1 := [some (.int x0), some (.int x1), some (.int x2)]) (st1 := [(.int x2)]) (mem1 := m) rfl ?_
                                                      exact it_V.ret it_cd123 it_m123 rfl rfl ⟨_, rfl, h⟩
                                                    · have h := h.2 c29
                                                      refine it_V.ite (fun c30 => ?_) (fun c30 => ?_)
                                                      · have h := h.1 c30
                                                        refine it_V.sN it_cd123 it_m123 1 (pc1 := 189) (ls1 := [some (.int x0), some (.int x1), some (.int x2)]) (st1 := [(.int x2)]) (mem1 := m) rfl ?_
                                                        exact it_V.ret it_cd123 it_m123 rfl rfl ⟨_, rfl, h⟩
                                                      · have h := h.2 c30
                                                        refine it_V.ite (fun c31 => ?_) (fun c31 => ?_)
                                                        · have h := h.1 c31
                                                          refine it_V.sN it_cd123 it_m123 1 (pc1 := 189) (ls1 := [some (.int x0), some (.int x1), some (.int x2)]) (st1 := [(.int x2)]) (mem1 := m) rfl ?_
                                                          exact it_V.ret it_cd123 it_m123 rfl rfl ⟨_, rfl, h⟩
                                                        · have h := h.2 c31
                                                          refine it_V.ite (fun c32 => ?_) (fun c32 => ?_)
                                                          · have h := h.1 c32
                                                            refine it_V.sN it_cd123 it_m123 2 (pc1 := 176) (ls1 := [some (.int x0), some (.int x1), some (.int x2)]) (st1 := [(.int x2), (.int x1)]) (mem1 := m) rfl ?_
                                                            refine it_V.call it_cd123 it_m123 rfl it_m213 [(.int x1), (.int x2)] [] rfl rfl ⟨Nat.le_of_ble_eq_true rfl, Nat.le_of_ble_eq_true rfl, Nat.le_of_ble_eq_true rfl, Nat.le_of_ble_eq_true rfl, rfl⟩ (s_213 kc x1 x2 m _ h) ?_
                                                            rintro _ m34 ⟨r33, rfl, h⟩
                                                            refine it_V.at (pc1 := 179) (ls1 := [some (.int x0), some (.int x1), some (.int x2)]) (st1 := [(.int r33)]) (mem1 := m34) rfl rfl rfl rfl ?_
                                                            refine it_V.sN it_cd123 it_m123 1 (pc1 := (if r33 = 0 then 186 else 182)) (ls1 := [some (.int x0), some (.int x1), some (.int x2)]) (st1 := []) (mem1 := m34) rfl ?_
                                                            refine it_V.ite (fun c35 => ?_) (fun c35 => ?_)
                                                            · have h := h.1 c35
                                                              refine it_V.sN it_cd123 it_m123 1 (pc1 := 187) (ls1 := [some (.int x0), some (.int x1), some (.int x2)]) (st1 := [(.int x1)]) (mem1 := m34) rfl ?_
                                                              refine it_V.weak (l := [none, none, none]) trivial ?_
                                                              exact s_123_187 kc Φ x1 m34 h
                                                            · have h := h.2 c35
                                                              refine it_V.sN it_cd123 it_m123 2 (pc1 := 187) (ls1 := [some (.int x0), some (.int x1), some (.int x2)]) (st1 := [(.int x2)]) (mem1 := m34) rfl ?_
                                                              refine it_V.weak (l := [none, none, none]) trivial ?_
                                                              exact s_123_187 kc Φ x2 m34 h
                                                          · have h := h.2 c32
                                                            refine it_V.sN it_cd123 it_m123 1 (pc1 := 189) (ls1 := [some (.int x0), some (.int x1), some (.int x2)]) (st1 := [(.int x2)]) (mem1 := m) rfl ?_
                                                            exact it_V.ret it_cd123 it_m123 rfl rfl ⟨_, rfl, h⟩
