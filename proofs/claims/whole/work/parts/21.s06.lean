/-! The formulas are sound for the small machine. Written by wip/whole/gen_wp.py, split_wp.py -/
set_option maxRecDepth 100000 in
set_option maxHeartbeats 4000000 in
theorem s_172 (kc : it_Kc) (x0 : Nat) (hx0 : it_isP x0) (m : it_Me) (Φ : Int32 → it_Me → Prop) (h : w_172 kc x0 m Φ) : it_V kc it_sh0 172 0 (it_loc0 [(.ref 64), (.ref x0)] 3) [] m (it_Pi Φ) := by
  rw [w_172] at h
  refine it_V.at (pc1 := 0) (ls1 := [some (.ref 64), some (.ref x0), none]) (st1 := []) (mem1 := m) rfl rfl rfl rfl ?_
  refine it_V.sN it_cd172 it_m172 1 (pc1 := 1) (ls1 := [some (.ref 64), some (.ref x0), none]) (st1 := [(.ref x0)]) (mem1 := m) rfl ?_
  refine it_V.getP it_cd172 it_m172 rfl (hx0).1 rfl ?_
  refine it_V.at (pc1 := 4) (ls1 := [some (.ref 64), some (.ref x0), none]) (st1 := [(.ref (x0 + 2))]) (mem1 := m) rfl rfl rfl rfl ?_
  refine it_V.sN it_cd172 it_m172 1 (pc1 := 6) (ls1 := [some (.ref 64), some (.ref x0), none]) (st1 := [(.int (14 : Int32)), (.ref (x0 + 2))]) (mem1 := m) rfl ?_
  obtain ⟨g1, h⟩ := h
  refine it_V.iald it_cd172 it_m172 rfl ((hx0).2.2.1).2 ((hx0).2.2.1).1 g1 ?_
  refine it_V.at (pc1 := 7) (ls1 := [some (.ref 64), some (.ref x0), none]) (st1 := [(.int (m (x0 + 2) (Int32.toNatClampNeg (14 : Int32))))]) (mem1 := m) rfl rfl rfl rfl ?_
  refine it_V.sN it_cd172 it_m172 4 (pc1 := 13) (ls1 := [some (.ref 64), some (.ref x0), some (.int (m (x0 + 2) (Int32.toNatClampNeg (14 : Int32))))]) (st1 := [(.ref x0), (.ref 4)]) (mem1 := m) rfl ?_
  refine it_V.getP it_cd172 it_m172 rfl (hx0).1 rfl ?_
  refine it_V.at (pc1 := 16) (ls1 := [some (.ref 64), some (.ref x0), some (.int (m (x0 + 2) (Int32.toNatClampNeg (14 : Int32))))]) (st1 := [(.int (m x0 0)), (.ref 4)]) (mem1 := m) rfl rfl rfl rfl ?_
  refine it_V.sN it_cd172 it_m172 2 (pc1 := 18) (ls1 := [some (.ref 64), some (.ref x0), some (.int (m (x0 + 2) (Int32.toNatClampNeg (14 : Int32))))]) (st1 := [(.int (m (x0 + 2) (Int32.toNatClampNeg (14 : Int32)))), (.int (0 : Int32)), (.int (m x0 0)), (.ref 4)]) (mem1 := m) rfl ?_
  refine it_V.call it_cd172 it_m172 rfl it_m69 [(.ref 4), (.int (m x0 0)), (.int (0 : Int32)), (.int (m (x0 + 2) (Int32.toNatClampNeg (14 : Int32))))] [] rfl rfl ⟨Nat.le_of_ble_eq_true rfl, Nat.le_of_ble_eq_true rfl, Nat.le_of_ble_eq_true rfl, Nat.le_of_ble_eq_true rfl, rfl⟩ (s_69 kc (m x0 0) (0 : Int32) (m (x0 + 2) (Int32.toNatClampNeg (14 : Int32))) m _ h) ?_
  rintro _ m2 ⟨rfl, h⟩
  refine it_V.at (pc1 := 21) (ls1 := [some (.ref 64), some (.ref x0), some (.int (m (x0 + 2) (Int32.toNatClampNeg (14 : Int32))))]) (st1 := []) (mem1 := m2) rfl rfl rfl rfl ?_
  refine it_V.sN it_cd172 it_m172 2 (pc1 := 23) (ls1 := [some (.ref 64), some (.ref x0), some (.int (m (x0 + 2) (Int32.toNatClampNeg (14 : Int32))))]) (st1 := [(.int (1 : Int32)), (.ref x0)]) (mem1 := m2) rfl ?_
  refine it_V.putP it_cd172 it_m172 rfl (hx0).1 rfl rfl rfl (Or.inl rfl) ?_
  refine it_V.at (pc1 := 26) (ls1 := [some (.ref 64), some (.ref x0), some (.int (m (x0 + 2) (Int32.toNatClampNeg (14 : Int32))))]) (st1 := []) (mem1 := (it_sv m2 x0 4 (1 : Int32))) rfl rfl rfl rfl ?_
  refine it_V.sN it_cd172 it_m172 1 (pc1 := 27) (ls1 := [some (.ref 64), some (.ref x0), some (.int (m (x0 + 2) (Int32.toNatClampNeg (14 : Int32))))]) (st1 := [(.int (m (x0 + 2) (Int32.toNatClampNeg (14 : Int32))))]) (mem1 := (it_sv m2 x0 4 (1 : Int32))) rfl ?_
  refine it_V.sN it_cd172 it_m172 1 (pc1 := (if (m (x0 + 2) (Int32.toNatClampNeg (14 : Int32))) = (0 : Int32) then 68 else (if (m (x0 + 2) (Int32.toNatClampNeg (14 : Int32))) = (1 : Int32) then 75 else (if (m (x0 + 2) (Int32.toNatClampNeg (14 : Int32))) = (2 : Int32) then 82 else (if (m (x0 + 2) (Int32.toNatClampNeg (14 : Int32))) = (3 : Int32) then 88 else (if (m (x0 + 2) (Int32.toNatClampNeg (14 : Int32))) = (4 : Int32) then 96 else (if (m (x0 + 2) (Int32.toNatClampNeg (14 : Int32))) = (5 : Int32) then 104 else (if (m (x0 + 2) (Int32.toNatClampNeg (14 : Int32))) = (6 : Int32) then 111 else 118)))))))) (ls1 := [some (.ref 64), some (.ref x0), some (.int (m (x0 + 2) (Int32.toNatClampNeg (14 : Int32))))]) (st1 := []) (mem1 := (it_sv m2 x0 4 (1 : Int32))) rfl ?_
  refine it_V.ite (fun c3 => ?_) (fun c3 => ?_)
  · have h := h.1 c3
    refine it_V.sN it_cd172 it_m172 2 (pc1 := 70) (ls1 := [some (.ref 64), some (.ref x0), some (.int (m (x0 + 2) (Int32.toNatClampNeg (14 : Int32))))]) (st1 := [(.ref x0), (.ref 64)]) (mem1 := (it_sv m2 x0 4 (1 : Int32))) rfl ?_
    refine it_V.call it_cd172 it_m172 rfl it_m174 [(.ref 64), (.ref x0)] [] rfl rfl ⟨Nat.le_of_ble_eq_true rfl, Nat.le_of_ble_eq_true rfl, Nat.le_of_ble_eq_true rfl, Nat.le_of_ble_eq_true rfl, rfl⟩ (s_174 kc x0 (hx0) (it_sv m2 x0 4 (1 : Int32)) _ h) ?_
    rintro _ m4 ⟨rfl, h⟩
    refine it_V.at (pc1 := 73) (ls1 := [some (.ref 64), some (.ref x0), some (.int (m (x0 + 2) (Int32.toNatClampNeg (14 : Int32))))]) (st1 := []) (mem1 := m4) rfl rfl rfl rfl ?_
    refine it_V.sN it_cd172 it_m172 1 (pc1 := 74) (ls1 := [some (.ref 64), some (.ref x0), some (.int (m (x0 + 2) (Int32.toNatClampNeg (14 : Int32))))]) (st1 := [(.int (-1 : Int32))]) (mem1 := m4) rfl ?_
    exact it_V.ret it_cd172 it_m172 rfl rfl ⟨_, rfl, h⟩
  · have h := h.2 c3
    refine it_V.ite (fun c5 => ?_) (fun c5 => ?_)
    · have h := h.1 c5
      refine it_V.sN it_cd172 it_m172 2 (pc1 := 77) (ls1 := [some (.ref 64), some (.ref x0), some (.int (m (x0 + 2) (Int32.toNatClampNeg (14 : Int32))))]) (st1 := [(.ref x0), (.ref 64)]) (mem1 := (it_sv m2 x0 4 (1 : Int32))) rfl ?_
      refine it_V.call it_cd172 it_m172 rfl it_m177 [(.ref 64), (.ref x0)] [] rfl rfl ⟨Nat.le_of_ble_eq_true rfl, Nat.le_of_ble_eq_true rfl, Nat.le_of_ble_eq_true rfl, Nat.le_of_ble_eq_true rfl, rfl⟩ (s_177 kc x0 (hx0) (it_sv m2 x0 4 (1 : Int32)) _ h) ?_
      rintro _ m6 ⟨rfl, h⟩
      refine it_V.at (pc1 := 80) (ls1 := [some (.ref 64), some (.ref x0), some (.int (m (x0 + 2) (Int32.toNatClampNeg (14 : Int32))))]) (st1 := []) (mem1 := m6) rfl rfl rfl rfl ?_
      refine it_V.sN it_cd172 it_m172 1 (pc1 := 81) (ls1 := [some (.ref 64), some (.ref x0), some (.int (m (x0 + 2) (Int32.toNatClampNeg (14 : Int32))))]) (st1 := [(.int (-1 : Int32))]) (mem1 := m6) rfl ?_
      exact it_V.ret it_cd172 it_m172 rfl rfl ⟨_, rfl, h⟩
    · have h := h.2 c5
      refine it_V.ite (fun c7 => ?_) (fun c7 => ?_)
      · have h := h.1 c7
        refine it_V.sN it_cd172 it_m172 2 (pc1 := 84) (ls1 := [some (.ref 64), some (.ref x0), some (.int (m (x0 + 2) (Int32.toNatClampNeg (14 : Int32))))]) (st1 := [(.ref x0), (.ref 64)]) (mem1 := (it_sv m2 x0 4 (1 : Int32))) rfl ?_
        refine it_V.call it_cd172 it_m172 rfl it_m180 [(.ref 64), (.ref x0)] [] rfl rfl ⟨Nat.le_of_ble_eq_true rfl, Nat.le_of_ble_eq_true rfl, Nat.le_of_ble_eq_true rfl, Nat.le_of_ble_eq_true rfl, rfl⟩ (s_180 kc x0 (hx0) (it_sv m2 x0 4 (1 : Int32)) _ h) ?_
        rintro _ m9 ⟨r8, rfl, h⟩
        refine it_V.at (pc1 := 87) (ls1 := [some (.ref 64), some (.ref x0), some (.int (m (x0 + 2) (Int32.toNatClampNeg (14 : Int32))))]) (st1 := [(.int r8)]) (mem1 := m9) rfl rfl rfl rfl ?_
        exact it_V.ret it_cd172 it_m172 rfl rfl ⟨_, rfl, h⟩
      · have h := h.2 c7
        refine it_V.ite (fun c10 => ?_) (fun c10 => ?_)
        · have h := h.1 c10
          refine it_V.sN it_cd172 it_m172 3 (pc1 := 91) (ls1 := [some (.ref 64), some (.ref x0), some (.int (m (x0 + 2) (Int32.toNatClampNeg (14 : Int32))))]) (st1 := [(.int (1 : Int32)), (.ref x0), (.ref 64)]) (mem1 := (it_sv m2 x0 4 (1 : Int32))) rfl ?_
          refine it_V.call it_cd172 it_m172 rfl it_m178 [(.ref 64), (.ref x0), (.int (1 : Int32))] [] rfl rfl ⟨Nat.le_of_ble_eq_true rfl, Nat.le_of_ble_eq_true rfl, Nat.le_of_ble_eq_true rfl, Nat.le_of_ble_eq_true rfl, rfl⟩ (s_178 kc x0 (1 : Int32) (hx0) (it_sv m2 x0 4 (1 : Int32)) _ h) ?_
          rintro _ m11 ⟨rfl, h⟩
          refine it_V.at (pc1 := 94) (ls1 := [some (.ref 64), some (.ref x0), some (.int (m (x0 + 2) (Int32.toNatClampNeg (14 : Int32))))]) (st1 := []) (mem1 := m11) rfl rfl rfl rfl ?_
          refine it_V.sN it_cd172 it_m172 1 (pc1 := 95) (ls1 := [some (.ref 64), some (.ref x0), some (.int (m (x0 + 2) (Int32.toNatClampNeg (14 : Int32))))]) (st1 := [(.int (-1 : Int32))]) (mem1 := m11) rfl ?_
          exact it_V.ret it_cd172 it_m172 rfl rfl ⟨_, rfl, h⟩
        · have h := h.2 c10
          refine it_V.ite (fun c12 => ?_) (fun c12 => ?_)
          · have h := h.1 c12
            refine it_V.sN it_cd172 it_m172 3 (pc1 := 99) (ls1 := [some (.ref 64), some (.ref x0), some (.int (m (x0 + 2) (Int32.toNatClampNeg (14 : Int32))))]) (st1 := [(.int (0 : Int32)), (.ref x0), (.ref 64)]) (mem1 := (it_sv m2 x0 4 (1 : Int32))) rfl ?_
            refine it_V.call it_cd172 it_m172 rfl it_m178 [(.ref 64), (.ref x0), (.int (0 : Int32))] [] rfl rfl ⟨Nat.le_of_ble_eq_true rfl, Nat.le_of_ble_eq_true rfl, Nat.le_of_ble_eq_true rfl, Nat.le_of_ble_eq_true rfl, rfl⟩ (s_178 kc x0 (0 : Int32) (hx0) (it_sv m2 x0 4 (1 : Int32)) _ h) ?_
            rintro _ m13 ⟨rfl, h⟩
            refine it_V.at (pc1 := 102) (ls1 := [some (.ref 64), some (.ref x0), some (.int (m (x0 + 2) (Int32.toNatClampNeg (14 : Int32))))]) (st1 := []) (mem1 := m13) rfl rfl rfl rfl ?_
            refine it_V.sN it_cd172 it_m172 1 (pc1 := 103) (ls1 := [some (.ref 64), some (.ref x0), some (.int (m (x0 + 2) (Int32.toNatClampNeg (14 : Int32))))]) (st1 := [(.int (-1 : Int32))]) (mem1 := m13) rfl ?_
            exact it_V.ret it_cd172 it_m172 rfl rfl ⟨_, rfl, h⟩
          · have h := h.2 c12
            refine it_V.ite (fun c14 => ?_) (fun c14 => ?_)
            · have h := h.1 c14
              refine it_V.sN it_cd172 it_m172 2 (pc1 := 106) (ls1 := [some (.ref 64), some (.ref x0), some (.int (m (x0 + 2) (Int32.toNatClampNeg (14 : Int32))))]) (st1 := [(.ref x0), (.ref 64)]) (mem1 := (it_sv m2 x0 4 (1 : Int32))) rfl ?_
              refine it_V.call it_cd172 it_m172 rfl it_m183 [(.ref 64), (.ref x0)] [] rfl rfl ⟨Nat.le_of_ble_eq_true rfl, Nat.le_of_ble_eq_true rfl, Nat.le_of_ble_eq_true rfl, Nat.le_of_ble_eq_true rfl, rfl⟩ (s_183 kc x0 (hx0) (it_sv m2 x0 4 (1 : Int32)) _ h) ?_
              rintro _ m15 ⟨rfl, h⟩
              refine it_V.at (pc1 := 109) (ls1 := [some (.ref 64), some (.ref x0), some (.int (m (x0 + 2) (Int32.toNatClampNeg (14 : Int32))))]) (st1 := []) (mem1 := m15) rfl rfl rfl rfl ?_
              refine it_V.sN it_cd172 it_m172 1 (pc1 := 110) (ls1 := [some (.ref 64), some (.ref x0), some (.int (m (x0 + 2) (Int32.toNatClampNeg (14 : Int32))))]) (st1 := [(.int (-1 : Int32))]) (mem1 := m15) rfl ?_
              exact it_V.ret it_cd172 it_m172 rfl rfl ⟨_, rfl, h⟩
            · have h := h.2 c14
              refine it_V.ite (fun c16 => ?_) (fun c16 => ?_)
              · have h := h.1 c16
                refine it_V.sN it_cd172 it_m172 2 (pc1 := 113) (ls1 := [some (.ref 64), some (.ref x0), some (.int (m (x0 + 2) (Int32.toNatClampNeg (14 : Int32))))]) (st1 := [(.ref x0), (.ref 64)]) (mem1 := (it_sv m2 x0 4 (1 : Int32))) rfl ?_
                refine it_V.call it_cd172 it_m172 rfl it_m185 [(.ref 64), (.ref x0)] [] rfl rfl ⟨Nat.le_of_ble_eq_true rfl, Nat.le_of_ble_eq_true rfl, Nat.le_of_ble_eq_true rfl, Nat.le_of_ble_eq_true rfl, rfl⟩ (s_185 kc x0 (hx0) (it_sv m2 x0 4 (1 : Int32)) _ h) ?_
                rintro _ m17 ⟨rfl, h⟩
                refine it_V.at (pc1 := 116) (ls1 := [some (.ref 64), some (.ref x0), some (.int (m (x0 + 2) (Int32.toNatClampNeg (14 : Int32))))]) (st1 := []) (mem1 := m17) rfl rfl rfl rfl ?_
                refine it_V.sN it_cd172 it_m172 1 (pc1 := 117) (ls1 := [some (.ref 64), some (.ref x0), some (.int (m (x0 + 2) (Int32.toNatClampNeg (14 : Int32))))]) (st1 := [(.int (-1 : Int32))]) (mem1 := m17) rfl ?_
                exact it_V.ret it_cd172 it_m172 rfl rfl ⟨_, rfl, h⟩
              · have h := h.2 c16
                refine it_V.sN it_cd172 it_m172 2 (pc1 := 121) (ls1 := [some (.ref 64), some (.ref x0), some (.int (m (x0 + 2) (Int32.toNatClampNeg (14 : Int32))))]) (st1 := [(.int (10 : Int32)), (.ref x0)]) (mem1 := (it_sv m2 x0 4 (1 : Int32))) rfl ?_
                refine it_V.call it_cd172 it_m172 rfl it_m136 [(.ref x0), (.int (10 : Int32))] [] rfl rfl ⟨Nat.le_of_ble_eq_true rfl, Nat.le_of_ble_eq_true rfl, Nat.le_of_ble_eq_true rfl, Nat.le_of_ble_eq_true rfl, (it_recvP (hx0).1)⟩ (s_136 kc x0 (10 : Int32) (hx0) (it_sv m2 x0 4 (1 : Int32)) _ h) ?_
                rintro _ m18 ⟨rfl, h⟩
                refine it_V.at (pc1 := 124) (ls1 := [some (.ref 64), some (.ref x0), some (.int (m (x0 + 2) (Int32.toNatClampNeg (14 : Int32))))]) (st1 := []) (mem1 := m18) rfl rfl rfl rfl ?_
                refine it_V.sN it_cd172 it_m172 1 (pc1 := 125) (ls1 := [some (.ref 64), some (.ref x0), some (.int (m (x0 + 2) (Int32.toNatClampNeg (14 : Int32))))]) (st1 := [(.int (-1 : Int32))]) (mem1 := m18) rfl ?_
                exact it_V.ret it_cd172 it_m172 rfl rfl ⟨_, rfl, h⟩
set_option maxRecDepth 100000 in
set_option maxHeartbeats 4000000 in
theorem s_211_3 (kc : it_Kc) (Φ : it_Me → Prop) (K48 : it_Me → Prop) (hK48 : ∀ (m : it_Me), K48 m → it_V kc it_sh0 211 48 [none, none, none] [] m (it_Pv Φ)) : ∀ (n : Nat) (v1 : Int32) (v2 : Int32) (m : it_Me) (h : w_211_3 kc Φ K48 n v1 v2 m), it_V kc it_sh0 211 3 [some (.ref 0), some (.int v1), some (.int v2)] [] m (it_Pv Φ) := by
  intro n
  induction n with
  | zero => intro v1 v2 m h; exact absurd h id
  | succ n ih =>
    intro v1 v2 m h
    rw [w_211_3] at h
    refine it_V.sN it_cd211 it_m211 2 (pc1 := (if v2 < 0 then 48 else 7)) (ls1 := [some (.ref 0), some (.int v1), some (.int v2)]) (st1 := []) (mem1 := m) rfl ?_
    refine it_V.ite (fun c1 => ?_) (fun c1 => ?_)
    · have h := h.1 c1
      refine it_V.weak (l := [none, none, none]) trivial ?_
      exact hK48 m h
    · have h := h.2 c1
      refine it_V.sN it_cd211 it_m211 6 (pc1 := (if (8192 : Int32) ≤ (m 0 9) then 48 else 19)) (ls1 := [some (.ref 0), some (.int v1), some (.int v2)]) (st1 := []) (mem1 := m) rfl ?_
      refine it_V.ite (fun c2 => ?_) (fun c2 => ?_)
      · have h := h.1 c2
        refine it_V.weak (l := [none, none, none]) trivial ?_
        exact hK48 m h
      · have h := h.2 c2
        refine it_V.sN it_cd211 it_m211 8 (pc1 := 31) (ls1 := [some (.ref 0), some (.int v1), some (.int v2)]) (st1 := [(.int (it_i2b (it_us v1 v2))), (.int (m 0 9)), (.ref 65)]) (mem1 := m) rfl ?_
        obtain ⟨g3, h⟩ := h
        refine it_V.bast (n := 8192) it_cd211 it_m211 rfl rfl g3 ?_
        refine it_V.at (pc1 := 32) (ls1 := [some (.ref 0), some (.int v1), some (.int v2)]) (st1 := []) (mem1 := (it_sv m 65 (Int32.toNatClampNeg (m 0 9)) (it_i2b (it_i2b (it_us v1 v2))))) rfl rfl rfl rfl ?_
        refine it_V.sN it_cd211 it_m211 8 (pc1 := 3) (ls1 := [some (.ref 0), some (.int v1), some (.int (v2 + (-8 : Int32)))]) (st1 := []) (mem1 := (it_sv (it_sv m 65 (Int32.toNatClampNeg (m 0 9)) (it_i2b (it_i2b (it_us v1 v2)))) 0 9 (((it_sv m 65 (Int32.toNatClampNeg (m 0 9)) (it_i2b (it_i2b (it_us v1 v2)))) 0 9) + (1 : Int32)))) rfl ?_
        exact ih v1 (v2 + (-8 : Int32)) (it_sv (it_sv m 65 (Int32.toNatClampNeg (m 0 9)) (it_i2b (it_i2b (it_us v1 v2)))) 0 9 (((it_sv m 65 (Int32.toNatClampNeg (m 0 9)) (it_i2b (it_i2b (it_us v1 v2)))) 0 9) + (1 : Int32))) h
set_option maxRecDepth 100000 in
set_option maxHeartbeats 4000000 in
theorem s_211_48 (kc : it_Kc) (Φ : it_Me → Prop) (m : it_Me) (h : w_211_48 kc Φ m) : it_V kc it_sh0 211 48 [none, none, none] [] m (it_Pv Φ) := by
  rw [w_211_48] at h
  exact it_V.ret it_cd211 it_m211 rfl rfl ⟨rfl, h⟩
set_option maxRecDepth 100000 in
set_option maxHeartbeats 4000000 in
theorem s_211 (kc : it_Kc) (x0 : Int32) (m : it_Me) (Φ : it_Me → Prop) (h : w_211 kc x0 m Φ) : it_V kc it_sh0 211 0 (it_loc0 [(.ref 0), (.int x0)] 3) [] m (it_Pv Φ) := by
  rw [w_211] at h
  refine it_V.at (pc1 := 0) (ls1 := [some (.ref 0), some (.int x0), none]) (st1 := []) (mem1 := m) rfl rfl rfl rfl ?_
  refine it_V.sN it_cd211 it_m211 2 (pc1 := 3) (ls1 := [some (.ref 0), some (.int x0), some (.int (24 : Int32))]) (st1 := []) (mem1 := m) rfl ?_
  obtain ⟨n, h⟩ := h
  exact s_211_3 kc Φ _ (fun m h => s_211_48 kc Φ m h) n x0 (24 : Int32) m h
set_option maxRecDepth 100000 in
set_option maxHeartbeats 4000000 in
theorem s_187 (kc : it_Kc) (x0 : Int32) (x1 : Int32) (x2 : Int32) (x3 : Int32) (x4 : Int32) (m : it_Me) (Φ : Int32 → it_Me → Prop) (h : w_187 kc x0 x1 x2 x3 x4 m Φ) : it_V kc it_sh0 187 0 (it_loc0 [(.ref 0), (.int x0), (.int x1), (.int x2), (.int x3), (.int x4)] 6) [] m (it_Pi Φ) := by
  rw [w_187] at h
  refine it_V.at (pc1 := 0) (ls1 := [some (.ref 0), some (.int x0), some (.int x1), some (.int x2), some (.int x3), some (.int x4)]) (st1 := []) (mem1 := m) rfl rfl rfl rfl ?_
  refine it_V.sN it_cd187 it_m187 6 (pc1 := (if ((m 0 9) + (20 : Int32)) ≤ (8192 : Int32) then 15 else 13)) (ls1 := [some (.ref 0), some (.int x0), some (.int x1), some (.int x2), some (.int x3), some (.int x4)]) (st1 := []) (mem1 := m) rfl ?_
  refine it_V.ite (fun c1 => ?_) (fun c1 => ?_)
  · have h := h.1 c1
    refine it_V.sN it_cd187 it_m187 2 (pc1 := 17) (ls1 := [some (.ref 0), some (.int x0), some (.int x1), some (.int x2), some (.int x3), some (.int x4)]) (st1 := [(.int x0), (.ref 0)]) (mem1 := m) rfl ?_
    refine it_V.call it_cd187 it_m187 rfl it_m211 [(.ref 0), (.int x0)] [] rfl rfl ⟨Nat.le_of_ble_eq_true rfl, Nat.le_of_ble_eq_true rfl, Nat.le_of_ble_eq_true rfl, Nat.le_of_ble_eq_true rfl, rfl⟩ (s_211 kc x0 m _ h) ?_
    rintro _ m2 ⟨rfl, h⟩
    refine it_V.at (pc1 := 20) (ls1 := [some (.ref 0), some (.int x0), some (.int x1), some (.int x2), some (.int x3), some (.int x4)]) (st1 := []) (mem1 := m2) rfl rfl rfl rfl ?_
    refine it_V.sN it_cd187 it_m187 2 (pc1 := 22) (ls1 := [some (.ref 0), some (.int x0), some (.int x1), some (.int x2), some (.int x3), some (.int x4)]) (st1 := [(.int x1), (.ref 0)]) (mem1 := m2) rfl ?_
    refine it_V.call it_cd187 it_m187 rfl it_m211 [(.ref 0), (.int x1)] [] rfl rfl ⟨Nat.le_of_ble_eq_true rfl, Nat.le_of_ble_eq_true rfl, Nat.le_of_ble_eq_true rfl, Nat.le_of_ble_eq_true rfl, rfl⟩ (s_211 kc x1 m2 _ h) ?_
    rintro _ m3 ⟨rfl, h⟩
    refine it_V.at (pc1 := 25) (ls1 := [some (.ref 0), some (.int x0), some (.int x1), some (.int x2), some (.int x3), some (.int x4)]) (st1 := []) (mem1 := m3) rfl rfl rfl rfl ?_
    refine it_V.sN it_cd187 it_m187 2 (pc1 := 27) (ls1 := [some (.ref 0), some (.int x0), some (.int x1), some (.int x2), some (.int x3), some (.int x4)]) (st1 := [(.int x2), (.ref 0)]) (mem1 := m3) rfl ?_
    refine it_V.call it_cd187 it_m187 rfl it_m211 [(.ref 0), (.int x2)] [] rfl rfl ⟨Nat.le_of_ble_eq_true rfl, Nat.le_of_ble_eq_true rfl, Nat.le_of_ble_eq_true rfl, Nat.le_of_ble_eq_true rfl, rfl⟩ (s_211 kc x2 m3 _ h) ?_
    rintro _ m4 ⟨rfl, h⟩
    refine it_V.at (pc1 := 30) (ls1 := [some (.ref 0), some (.int x0), some (.int x1), some (.int x2), some (.int x3), some (.int x4)]) (st1 := []) (mem1 := m4) rfl rfl rfl rfl ?_
    refine it_V.sN it_cd187 it_m187 2 (pc1 := 33) (ls1 := [some (.ref 0), some (.int x0), some (.int x1), some (.int x2), some (.int x3), some (.int x4)]) (st1 := [(.int x3), (.ref 0)]) (mem1 := m4) rfl ?_
    refine it_V.call it_cd187 it_m187 rfl it_m211 [(.ref 0), (.int x3)] [] rfl rfl ⟨Nat.le_of_ble_eq_true rfl, Nat.le_of_ble_eq_true rfl, Nat.le_of_ble_eq_true rfl, Nat.le_of_ble_eq_true rfl, rfl⟩ (s_211 kc x3 m4 _ h) ?_
    rintro _ m5 ⟨rfl, h⟩
    refine it_V.at (pc1 := 36) (ls1 := [some (.ref 0), some (.int x0), some (.int x1), some (.int x2), some (.int x3), some (.int x4)]) (st1 := []) (mem1 := m5) rfl rfl rfl rfl ?_
    refine it_V.sN it_cd187 it_m187 2 (pc1 := 39) (ls1 := [some (.ref 0), some (.int x0), some (.int x1), some (.int x2), some (.int x3), some (.int x4)]) (st1 := [(.int x4), (.ref 0)]) (mem1 := m5) rfl ?_
    refine it_V.call it_cd187 it_m187 rfl it_m211 [(.ref 0), (.int x4)] [] rfl rfl ⟨Nat.le_of_ble_eq_true rfl, Nat.le_of_ble_eq_true rfl, Nat.le_of_ble_eq_true rfl, Nat.le_of_ble_eq_true rfl, rfl⟩ (s_211 kc x4 m5 _ h) ?_
    rintro _ m6 ⟨rfl, h⟩
    refine it_V.at (pc1 := 42) (ls1 := [some (.ref 0), some (.int x0), some (.int x1), some (.int x2), some (.int x3), some (.int x4)]) (st1 := []) (mem1 := m6) rfl rfl rfl rfl ?_
    refine it_V.sN it_cd187 it_m187 2 (pc1 := 46) (ls1 := [some (.ref 0), some (.int x0), some (.int x1), some (.int x2), some (.int x3), some (.int x4)]) (st1 := [(.int (m6 0 9))]) (mem1 := m6) rfl ?_
    exact it_V.ret it_cd187 it_m187 rfl rfl ⟨_, rfl, h⟩
  · have h := h.2 c1
    refine it_V.sN it_cd187 it_m187 1 (pc1 := 14) (ls1 := [some (.ref 0), some (.int x0), some (.int x1), some (.int x2), some (.int x3), some (.int x4)]) (st1 := [(.int (-1 : Int32))]) (mem1 := m) rfl ?_
    exact it_V.ret it_cd187 it_m187 rfl rfl ⟨_, rfl, h⟩
set_option maxRecDepth 100000 in
set_option maxHeartbeats 4000000 in
theorem s_188_12 (kc : it_Kc) (Φ : Int32 → it_Me → Prop) (m : it_Me) (h : w_188_12 kc Φ m) : it_V kc it_sh0 188 12 [none, none] [] m (it_Pi Φ) := by
  rw [w_188_12] at h
  refine it_V.sN it_cd188 it_m188 1 (pc1 := 14) (ls1 := [none, none]) (st1 := [(.int (-2 : Int32))]) (mem1 := m) rfl ?_
  exact it_V.ret it_cd188 it_m188 rfl rfl ⟨_, rfl, h⟩
set_option maxRecDepth 100000 in
set_option maxHeartbeats 4000000 in
theorem s_188 (kc : it_Kc) (x0 : Int32) (m : it_Me) (Φ : Int32 → it_Me → Prop) (h : w_188 kc x0 m Φ) : it_V kc it_sh0 188 0 (it_loc0 [(.ref 0), (.int x0)] 2) [] m (it_Pi Φ) := by
  rw [w_188] at h
  refine it_V.at (pc1 := 0) (ls1 := [some (.ref 0), some (.int x0)]) (st1 := []) (mem1 := m) rfl rfl rfl rfl ?_
  refine it_V.sN it_cd188 it_m188 2 (pc1 := (if x0 < 0 then 12 else 4)) (ls1 := [some (.ref 0), some (.int x0)]) (st1 := []) (mem1 := m) rfl ?_
  refine it_V.ite (fun c1 => ?_) (fun c1 => ?_)
  · have h := h.1 c1
    refine it_V.weak (l := [none, none]) trivial ?_
    exact s_188_12 kc Φ m h
  · have h := h.2 c1
    refine it_V.sN it_cd188 it_m188 4 (pc1 := (if x0 ≤ (m 0 9) then 15 else 12)) (ls1 := [some (.ref 0), some (.int x0)]) (st1 := []) (mem1 := m) rfl ?_
    refine it_V.ite (fun c2 => ?_) (fun c2 => ?_)
    · have h := h.1 c2
      refine it_V.sN it_cd188 it_m188 4 (pc1 := 21) (ls1 := [some (.ref 0), some (.int x0)]) (st1 := [(.int x0)]) (mem1 := (it_sv m 0 9 x0)) rfl ?_
      exact it_V.ret it_cd188 it_m188 rfl rfl ⟨_, rfl, h⟩
    · have h := h.2 c2
      refine it_V.weak (l := [none, none]) trivial ?_
      exact s_188_12 kc Φ m h
set_option maxRecDepth 100000 in
set_option maxHeartbeats 4000000 in
theorem s_189_45 (kc : it_Kc) (Φ : Int32 → it_Me → Prop) (K81 : Int32 → it_Me → Prop) (hK81 : ∀ (v2 : Int32) (m : it_Me), K81 v2 m → it_V kc it_sh0 189 81 [none, none, some (.int v2), none] [] m (it_Pi Φ)) : ∀ (n : Nat) (v1 : Int32) (v2 : Int32) (v3 : Int32) (m : it_Me) (h : w_189_45 kc Φ K81 n v1 v2 v3 m), it_V kc it_sh0 189 45 [some (.ref 0), some (.int v1), some (.int v2), some (.int v3)] [] m (it_Pi Φ) := by
  intro n
  induction n with
  | zero => intro v1 v2 v3 m h; exact absurd h id
  | succ n ih =>
    intro v1 v2 v3 m h
    rw [w_189_45] at h
    refine it_V.sN it_cd189 it_m189 3 (pc1 := (if v2 ≤ v3 then 81 else 50)) (ls1 := [some (.ref 0), some (.int v1), some (.int v2), some (.int v3)]) (st1 := []) (mem1 := m) rfl ?_
    refine it_V.ite (fun c1 => ?_) (fun c1 => ?_)
    · have h := h.1 c1
      refine it_V.weak (l := [none, none, some (.int v2), none]) ⟨rfl, trivial⟩ ?_
      exact hK81 v2 m h
    · have h := h.2 c1
      refine it_V.sN it_cd189 it_m189 5 (pc1 := (if (8192 : Int32) ≤ v3 then 81 else 59)) (ls1 := [some (.ref 0), some (.int v1), some (.int v2), some (.int v3)]) (st1 := []) (mem1 := m) rfl ?_
      refine it_V.ite (fun c2 => ?_) (fun c2 => ?_)
      · have h := h.1 c2
        refine it_V.weak (l := [none, none, some (.int v2), none]) ⟨rfl, trivial⟩ ?_
        exact hK81 v2 m h
      · have h := h.2 c2
        refine it_V.sN it_cd189 it_m189 8 (pc1 := 71) (ls1 := [some (.ref 0), some (.int v1), some (.int v2), some (.int v3)]) (st1 := [(.int v3), (.ref 65), (.int (v1 + v3)), (.ref 1)]) (mem1 := m) rfl ?_
        obtain ⟨g3, h⟩ := h
        refine it_V.bald (t := 1) (n := 8192) it_cd189 it_m189 rfl rfl (by decide) g3 ?_
        refine it_V.at (pc1 := 72) (ls1 := [some (.ref 0), some (.int v1), some (.int v2), some (.int v3)]) (st1 := [(.int (m 65 (Int32.toNatClampNeg v3))), (.int (v1 + v3)), (.ref 1)]) (mem1 := m) rfl rfl rfl rfl ?_
        refine it_V.call it_cd189 it_m189 rfl it_m17 [(.ref 1), (.int (v1 + v3)), (.int (m 65 (Int32.toNatClampNeg v3)))] [] rfl rfl ⟨Nat.le_of_ble_eq_true rfl, Nat.le_of_ble_eq_true rfl, Nat.le_of_ble_eq_true rfl, Nat.le_of_ble_eq_true rfl, rfl⟩ (s_17 kc (v1 + v3) (m 65 (Int32.toNatClampNeg v3)) m _ h) ?_
        rintro _ m4 ⟨rfl, h⟩
        refine it_V.at (pc1 := 75) (ls1 := [some (.ref 0), some (.int v1), some (.int v2), some (.int v3)]) (st1 := []) (mem1 := m4) rfl rfl rfl rfl ?_
        refine it_V.sN it_cd189 it_m189 2 (pc1 := 45) (ls1 := [some (.ref 0), some (.int v1), some (.int v2), some (.int (v3 + (1 : Int32)))]) (st1 := []) (mem1 := m4) rfl ?_
        exact ih v1 v2 (v3 + (1 : Int32)) m4 h
set_option maxRecDepth 100000 in
set_option maxHeartbeats 4000000 in
theorem s_189_40 (kc : it_Kc) (Φ : Int32 → it_Me → Prop) (m : it_Me) (h : w_189_40 kc Φ m) : it_V kc it_sh0 189 40 [none, none, none, none] [] m (it_Pi Φ) := by
  rw [w_189_40] at h
  refine it_V.sN it_cd189 it_m189 1 (pc1 := 42) (ls1 := [none, none, none, none]) (st1 := [(.int (-2 : Int32))]) (mem1 := m) rfl ?_
  exact it_V.ret it_cd189 it_m189 rfl rfl ⟨_, rfl, h⟩
set_option maxRecDepth 100000 in
set_option maxHeartbeats 4000000 in
theorem s_189_81 (kc : it_Kc) (Φ : Int32 → it_Me → Prop) (v2 : Int32) (m : it_Me) (h : w_189_81 kc Φ v2 m) : it_V kc it_sh0 189 81 [none, none, some (.int v2), none] [] m (it_Pi Φ) := by
  rw [w_189_81] at h
  refine it_V.sN it_cd189 it_m189 1 (pc1 := 82) (ls1 := [none, none, some (.int v2), none]) (st1 := [(.int v2)]) (mem1 := m) rfl ?_
  exact it_V.ret it_cd189 it_m189 rfl rfl ⟨_, rfl, h⟩
set_option maxRecDepth 100000 in
set_option maxHeartbeats 4000000 in
theorem s_189 (kc : it_Kc) (x0 : Int32) (m : it_Me) (Φ : Int32 → it_Me → Prop) (h : w_189 kc x0 m Φ) : it_V kc it_sh0 189 0 (it_loc0 [(.ref 0), (.int x0)] 4) [] m (it_Pi Φ) := by
  rw [w_189] at h
  refine it_V.at (pc1 := 0) (ls1 := [some (.ref 0), some (.int x0), none, none]) (st1 := []) (mem1 := m) rfl rfl rfl rfl ?_
  refine it_V.sN it_cd189 it_m189 9 (pc1 := (if ((it_sv m 0 9 (0 : Int32)) 0 10) = 0 then 20 else 17)) (ls1 := [some (.ref 0), some (.int x0), some (.int (m 0 9)), none]) (st1 := []) (mem1 := (it_sv m 0 9 (0 : Int32))) rfl ?_
  refine it_V.ite (fun c1 => ?_) (fun c1 => ?_)
  · have h := h.1 c1
    refine it_V.sN it_cd189 it_m189 3 (pc1 := (if x0 < (65536 : Int32) then 40 else 26)) (ls1 := [some (.ref 0), some (.int x0), some (.int (m 0 9)), none]) (st1 := []) (mem1 := (it_sv m 0 9 (0 : Int32))) rfl ?_
    refine it_V.ite (fun c2 => ?_) (fun c2 => ?_)
    · have h := h.1 c2
      refine it_V.weak (l := [none, none, none, none]) trivial ?_
      exact s_189_40 kc Φ (it_sv m 0 9 (0 : Int32)) h
    · have h := h.2 c2
      refine it_V.sN it_cd189 it_m189 3 (pc1 := (if (131072 : Int32) < x0 then 40 else 32)) (ls1 := [some (.ref 0), some (.int x0), some (.int (m 0 9)), none]) (st1 := []) (mem1 := (it_sv m 0 9 (0 : Int32))) rfl ?_
      refine it_V.ite (fun c3 => ?_) (fun c3 => ?_)
      · have h := h.1 c3
        refine it_V.weak (l := [none, none, none, none]) trivial ?_
        exact s_189_40 kc Φ (it_sv m 0 9 (0 : Int32)) h
      · have h := h.2 c3
        refine it_V.sN it_cd189 it_m189 5 (pc1 := (if (m 0 9) ≤ ((131072 : Int32) - x0) then 43 else 40)) (ls1 := [some (.ref 0), some (.int x0), some (.int (m 0 9)), none]) (st1 := []) (mem1 := (it_sv m 0 9 (0 : Int32))) rfl ?_
        refine it_V.ite (fun c4 => ?_) (fun c4 => ?_)
        · have h := h.1 c4
          refine it_V.sN it_cd189 it_m189 2 (pc1 := 45) (ls1 := [some (.ref 0), some (.int x0), some (.int (m 0 9)), some (.int (0 : Int32))]) (st1 := []) (mem1 := (it_sv m 0 9 (0 : Int32))) rfl ?_
          obtain ⟨n, h⟩ := h
          exact s_189_45 kc Φ _ (fun v2 m h => s_189_81 kc Φ v2 m h) n x0 (m 0 9) (0 : Int32) (it_sv m 0 9 (0 : Int32)) h
        · have h := h.2 c4
          refine it_V.weak (l := [none, none, none, none]) trivial ?_
          exact s_189_40 kc Φ (it_sv m 0 9 (0 : Int32)) h
  · have h := h.2 c1
    refine it_V.sN it_cd189 it_m189 1 (pc1 := 19) (ls1 := [some (.ref 0), some (.int x0), some (.int (m 0 9)), none]) (st1 := [(.int (-3 : Int32))]) (mem1 := (it_sv m 0 9 (0 : Int32))) rfl ?_
    exact it_V.ret it_cd189 it_m189 rfl rfl ⟨_, rfl, h⟩
set_option maxRecDepth 100000 in
set_option maxHeartbeats 4000000 in
theorem s_212 (kc : it_Kc) (m : it_Me) (Φ : it_Me → Prop) (h : w_212 kc m Φ) : it_V kc it_sh0 212 0 (it_loc0 [(.ref 0)] 1) [] m (it_Pv Φ) := by
  rw [w_212] at h
  refine it_V.at (pc1 := 0) (ls1 := [some (.ref 0)]) (st1 := []) (mem1 := m) rfl rfl rfl rfl ?_
  refine it_V.sN it_cd212 it_m212 20 (pc1 := 38) (ls1 := [some (.ref 0)]) (st1 := [(.int (0 : Int32)), (.int (65536 : Int32)), (.int (131072 : Int32)), (.ref 1)]) (mem1 := (it_sv (it_sv (it_sv (it_sv m 0 10 (0 : Int32)) 7 4 (0 : Int32)) 4 0 (0 : Int32)) 9 7 (0 : Int32))) rfl ?_
  refine it_V.call it_cd212 it_m212 rfl it_m18 [(.ref 1), (.int (131072 : Int32)), (.int (65536 : Int32)), (.int (0 : Int32))] [] rfl rfl ⟨Nat.le_of_ble_eq_true rfl, Nat.le_of_ble_eq_true rfl, Nat.le_of_ble_eq_true rfl, Nat.le_of_ble_eq_true rfl, rfl⟩ (s_18 kc (131072 : Int32) (65536 : Int32) (0 : Int32) (it_sv (it_sv (it_sv (it_sv m 0 10 (0 : Int32)) 7 4 (0 : Int32)) 4 0 (0 : Int32)) 9 7 (0 : Int32)) _ h) ?_
  rintro _ m1 ⟨rfl, h⟩
  refine it_V.at (pc1 := 41) (ls1 := [some (.ref 0)]) (st1 := []) (mem1 := m1) rfl rfl rfl rfl ?_
  exact it_V.ret it_cd212 it_m212 rfl rfl ⟨rfl, h⟩
set_option maxRecDepth 100000 in
set_option maxHeartbeats 4000000 in
theorem s_190_41 (kc : it_Kc) (Φ : Int32 → it_Me → Prop) (m : it_Me) (h : w_190_41 kc Φ m) : it_V kc it_sh0 190 41 [none, none, none, none, none, none] [] m (it_Pi Φ) := by
  rw [w_190_41] at h
  refine it_V.sN it_cd190 it_m190 1 (pc1 := 43) (ls1 := [none, none, none, none, none, none]) (st1 := [(.int (-2 : Int32))]) (mem1 := m) rfl ?_
  exact it_V.ret it_cd190 it_m190 rfl rfl ⟨_, rfl, h⟩
set_option maxRecDepth 100000 in
set_option maxHeartbeats 4000000 in
theorem s_190 (kc : it_Kc) (x0 : Int32) (x1 : Int32) (x2 : Int32) (x3 : Int32) (x4 : Int32) (m : it_Me) (Φ : Int32 → it_Me → Prop) (h : w_190 kc x0 x1 x2 x3 x4 m Φ) : it_V kc it_sh0 190 0 (it_loc0 [(.ref 0), (.int x0), (.int x1), (.int x2), (.int x3), (.int x4)] 6) [] m (it_Pi Φ) := by
  rw [w_190] at h
  refine it_V.at (pc1 := 0) (ls1 := [some (.ref 0), some (.int x0), some (.int x1), some (.int x2), some (.int x3), some (.int x4)]) (st1 := []) (mem1 := m) rfl rfl rfl rfl ?_
  refine it_V.sN it_cd190 it_m190 3 (pc1 := (if (m 0 10) = 0 then 10 else 7)) (ls1 := [some (.ref 0), some (.int x0), some (.int x1), some (.int x2), some (.int x3), some (.int x4)]) (st1 := []) (mem1 := m) rfl ?_
  refine it_V.ite (fun c1 => ?_) (fun c1 => ?_)
  · have h := h.1 c1
    refine it_V.sN it_cd190 it_m190 2 (pc1 := (if x0 < 0 then 41 else 14)) (ls1 := [some (.ref 0), some (.int x0), some (.int x1), some (.int x2), some (.int x3), some (.int x4)]) (st1 := []) (mem1 := m) rfl ?_
    refine it_V.ite (fun c2 => ?_) (fun c2 => ?_)
    · have h := h.1 c2
      refine it_V.weak (l := [none, none, none, none, none, none]) trivial ?_
      exact s_190_41 kc Φ m h
    · have h := h.2 c2
      refine it_V.sN it_cd190 it_m190 3 (pc1 := (if (2 : Int32) < x0 then 41 else 19)) (ls1 := [some (.ref 0), some (.int x0), some (.int x1), some (.int x2), some (.int x3), some (.int x4)]) (st1 := []) (mem1 := m) rfl ?_
      refine it_V.ite (fun c3 => ?_) (fun c3 => ?_)
      · have h := h.1 c3
        refine it_V.weak (l := [none, none, none, none, none, none]) trivial ?_
        exact s_190_41 kc Φ m h
      · have h := h.2 c3
        refine it_V.sN it_cd190 it_m190 3 (pc1 := (if x1 < (1 : Int32) then 41 else 24)) (ls1 := [some (.ref 0), some (.int x0), some (.int x1), some (.int x2), some (.int x3), some (.int x4)]) (st1 := []) (mem1 := m) rfl ?_
        refine it_V.ite (fun c4 => ?_) (fun c4 => ?_)
        · have h := h.1 c4
          refine it_V.weak (l := [none, none, none, none, none, none]) trivial ?_
          exact s_190_41 kc Φ m h
        · have h := h.2 c4
          refine it_V.sN it_cd190 it_m190 3 (pc1 := (if (1000 : Int32) < x1 then 41 else 31)) (ls1 := [some (.ref 0), some (.int x0), some (.int x1), some (.int x2), some (.int x3), some (.int x4)]) (st1 := []) (mem1 := m) rfl ?_
          refine it_V.ite (fun c5 => ?_) (fun c5 => ?_)
          · have h := h.1 c5
            refine it_V.weak (l := [none, none, none, none, none, none]) trivial ?_
            exact s_190_41 kc Φ m h
          · have h := h.2 c5
            refine it_V.sN it_cd190 it_m190 2 (pc1 := (if x2 < 0 then 41 else 35)) (ls1 := [some (.ref 0), some (.int x0), some (.int x1), some (.int x2), some (.int x3), some (.int x4)]) (st1 := []) (mem1 := m) rfl ?_
            refine it_V.ite (fun c6 => ?_) (fun c6 => ?_)
            · have h := h.1 c6
              refine it_V.weak (l := [none, none, none, none, none, none]) trivial ?_
              exact s_190_41 kc Φ m h
            · have h := h.2 c6
              refine it_V.sN it_cd190 it_m190 3 (pc1 := (if x2 ≤ (100 : Int32) then 44 else 41)) (ls1 := [some (.ref 0), some (.int x0), some (.int x1), some (.int x2), some (.int x3), some (.int x4)]) (st1 := []) (mem1 := m) rfl ?_
              refine it_V.ite (fun c7 => ?_) (fun c7 => ?_)
              · have h := h.1 c7
                refine it_V.sN it_cd190 it_m190 3 (pc1 := 50) (ls1 := [some (.ref 0), some (.int x0), some (.int x1), some (.int x2), some (.int x3), some (.int x4)]) (st1 := [(.int x4), (.ref 59)]) (mem1 := m) rfl ?_
                refine it_V.call it_cd190 it_m190 rfl it_m36 [(.ref 59), (.int x4)] [] rfl rfl ⟨Nat.le_of_ble_eq_true rfl, Nat.le_of_ble_eq_true rfl, Nat.le_of_ble_eq_true rfl, Nat.le_of_ble_eq_true rfl, rfl⟩ (s_36 kc x4 m _ h) ?_
                rintro _ m8 ⟨rfl, h⟩
                refine it_V.at (pc1 := 53) (ls1 := [some (.ref 0), some (.int x0), some (.int x1), some (.int x2), some (.int x3), some (.int x4)]) (st1 := []) (mem1 := m8) rfl rfl rfl rfl ?_
                refine it_V.sN it_cd190 it_m190 2 (pc1 := 57) (ls1 := [some (.ref 0), some (.int x0), some (.int x1), some (.int x2), some (.int x3), some (.int x4)]) (st1 := [(.ref 7)]) (mem1 := m8) rfl ?_
                refine it_V.call it_cd190 it_m190 rfl it_m157 [(.ref 7)] [] rfl rfl ⟨Nat.le_of_ble_eq_true rfl, Nat.le_of_ble_eq_true rfl, Nat.le_of_ble_eq_true rfl, Nat.le_of_ble_eq_true rfl, rfl⟩ (s_157 kc m8 _ h) ?_
                rintro _ m9 ⟨rfl, h⟩
                refine it_V.at (pc1 := 60) (ls1 := [some (.ref 0), some (.int x0), some (.int x1), some (.int x2), some (.int x3), some (.int x4)]) (st1 := []) (mem1 := m9) rfl rfl rfl rfl ?_
                refine it_V.sN it_cd190 it_m190 4 (pc1 := (if (m9 7 4) = 0 then 77 else 70)) (ls1 := [some (.ref 0), some (.int x0), some (.int x1), some (.int x2), some (.int x3), some (.int x4)]) (st1 := []) (mem1 := m9) rfl ?_
                refine it_V.ite (fun c10 => ?_) (fun c10 => ?_)
                · have h := h.1 c10
                  refine it_V.sN it_cd190 it_m190 7 (pc1 := 88) (ls1 := [some (.ref 0), some (.int x0), some (.int x1), some (.int x2), some (.int x3), some (.int x4)]) (st1 := [(.int x1), (.int x0), (.ref 54)]) (mem1 := (it_sv m9 0 10 (1 : Int32))) rfl ?_
                  refine it_V.call it_cd190 it_m190 rfl it_m146 [(.ref 54), (.int x0), (.int x1)] [] rfl rfl ⟨Nat.le_of_ble_eq_true rfl, Nat.le_of_ble_eq_true rfl, Nat.le_of_ble_eq_true rfl, Nat.le_of_ble_eq_true rfl, rfl⟩ (s_146 kc x0 x1 (it_sv m9 0 10 (1 : Int32)) _ h) ?_
                  rintro _ m11 ⟨rfl, h⟩
                  refine it_V.at (pc1 := 91) (ls1 := [some (.ref 0), some (.int x0), some (.int x1), some (.int x2), some (.int x3), some (.int x4)]) (st1 := []) (mem1 := m11) rfl rfl rfl rfl ?_
                  refine it_V.sN it_cd190 it_m190 7 (pc1 := 105) (ls1 := [some (.ref 0), some (.int x0), some (.int x1), some (.int x2), some (.int x3), some (.int x4)]) (st1 := [(.int x3), (.ref 9)]) (mem1 := (it_sv m11 9 8 x2)) rfl ?_
                  refine it_V.call it_cd190 it_m190 rfl it_m73 [(.ref 9), (.int x3)] [] rfl rfl ⟨Nat.le_of_ble_eq_true rfl, Nat.le_of_ble_eq_true rfl, Nat.le_of_ble_eq_true rfl, Nat.le_of_ble_eq_true rfl, rfl⟩ (s_73 kc x3 (it_sv m11 9 8 x2) _ h) ?_
                  rintro _ m12 ⟨rfl, h⟩
                  refine it_V.at (pc1 := 108) (ls1 := [some (.ref 0), some (.int x0), some (.int x1), some (.int x2), some (.int x3), some (.int x4)]) (st1 := []) (mem1 := m12) rfl rfl rfl rfl ?_
                  refine it_V.sN it_cd190 it_m190 3 (pc1 := 115) (ls1 := [some (.ref 0), some (.int x0), some (.int x1), some (.int x2), some (.int x3), some (.int x4)]) (st1 := [(.int (m12 9 7))]) (mem1 := m12) rfl ?_
                  exact it_V.ret it_cd190 it_m190 rfl rfl ⟨_, rfl, h⟩
                · have h := h.2 c10
                  refine it_V.sN it_cd190 it_m190 1 (pc1 := 71) (ls1 := [some (.ref 0), some (.int x0), some (.int x1), some (.int x2), some (.int x3), some (.int x4)]) (st1 := [(.ref 0)]) (mem1 := m9) rfl ?_
                  refine it_V.call it_cd190 it_m190 rfl it_m212 [(.ref 0)] [] rfl rfl ⟨Nat.le_of_ble_eq_true rfl, Nat.le_of_ble_eq_true rfl, Nat.le_of_ble_eq_true rfl, Nat.le_of_ble_eq_true rfl, rfl⟩ (s_212 kc m9 _ h) ?_
                  rintro _ m13 ⟨rfl, h⟩
                  refine it_V.at (pc1 := 74) (ls1 := [some (.ref 0), some (.int x0), some (.int x1), some (.int x2), some (.int x3), some (.int x4)]) (st1 := []) (mem1 := m13) rfl rfl rfl rfl ?_
                  refine it_V.sN it_cd190 it_m190 1 (pc1 := 76) (ls1 := [some (.ref 0), some (.int x0), some (.int x1), some (.int x2), some (.int x3), some (.int x4)]) (st1 := [(.int (-4 : Int32))]) (mem1 := m13) rfl ?_
                  exact it_V.ret it_cd190 it_m190 rfl rfl ⟨_, rfl, h⟩
              · have h := h.2 c7
                refine it_V.weak (l := [none, none, none, none, none, none]) trivial ?_
                exact s_190_41 kc Φ m h
  · have h := h.2 c1
    refine it_V.sN it_cd190 it_m190 1 (pc1 := 9) (ls1 := [some (.ref 0), some (.int x0), some (.int x1), some (.int x2), some (.int x3), some (.int x4)]) (st1 := [(.int (-3 : Int32))]) (mem1 := m) rfl ?_
    exact it_V.ret it_cd190 it_m190 rfl rfl ⟨_, rfl, h⟩
set_option maxRecDepth 100000 in
set_option maxHeartbeats 4000000 in
theorem s_191 (kc : it_Kc) (m : it_Me) (Φ : Int32 → it_Me → Prop) (h : w_191 kc m Φ) : it_V kc it_sh0 191 0 (it_loc0 [(.ref 0)] 1) [] m (it_Pi Φ) := by
  rw [w_191] at h
  refine it_V.at (pc1 := 0) (ls1 := [some (.ref 0)]) (st1 := []) (mem1 := m) rfl rfl rfl rfl ?_
  refine it_V.sN it_cd191 it_m191 3 (pc1 := (if (m 0 10) = 0 then 7 else 10)) (ls1 := [some (.ref 0)]) (st1 := []) (mem1 := m) rfl ?_
  refine it_V.ite (fun c1 => ?_) (fun c1 => ?_)
  · have h := h.1 c1
    refine it_V.sN it_cd191 it_m191 1 (pc1 := 9) (ls1 := [some (.ref 0)]) (st1 := [(.int (-3 : Int32))]) (mem1 := m) rfl ?_
    exact it_V.ret it_cd191 it_m191 rfl rfl ⟨_, rfl, h⟩
  · have h := h.2 c1
    refine it_V.sN it_cd191 it_m191 1 (pc1 := 11) (ls1 := [some (.ref 0)]) (st1 := [(.ref 0)]) (mem1 := m) rfl ?_
    refine it_V.call it_cd191 it_m191 rfl it_m212 [(.ref 0)] [] rfl rfl ⟨Nat.le_of_ble_eq_true rfl, Nat.le_of_ble_eq_true rfl, Nat.le_of_ble_eq_true rfl, Nat.le_of_ble_eq_true rfl, rfl⟩ (s_212 kc m _ h) ?_
    rintro _ m2 ⟨rfl, h⟩
    refine it_V.at (pc1 := 14) (ls1 := [some (.ref 0)]) (st1 := []) (mem1 := m2) rfl rfl rfl rfl ?_
    refine it_V.sN it_cd191 it_m191 1 (pc1 := 15) (ls1 := [some (.ref 0)]) (st1 := [(.int (1 : Int32))]) (mem1 := m2) rfl ?_
    exact it_V.ret it_cd191 it_m191 rfl rfl ⟨_, rfl, h⟩
set_option maxRecDepth 100000 in
set_option maxHeartbeats 4000000 in
theorem s_192_12 (kc : it_Kc) (Φ : Int32 → it_Me → Prop) (m : it_Me) (h : w_192_12 kc Φ m) : it_V kc it_sh0 192 12 [none, none] [] m (it_Pi Φ) := by
  rw [w_192_12] at h
  refine it_V.sN it_cd192 it_m192 1 (pc1 := 14) (ls1 := [none, none]) (st1 := [(.int (-2 : Int32))]) (mem1 := m) rfl ?_
  exact it_V.ret it_cd192 it_m192 rfl rfl ⟨_, rfl, h⟩
set_option maxRecDepth 100000 in
set_option maxHeartbeats 4000000 in
theorem s_192 (kc : it_Kc) (x0 : Int32) (m : it_Me) (Φ : Int32 → it_Me → Prop) (h : w_192 kc x0 m Φ) : it_V kc it_sh0 192 0 (it_loc0 [(.ref 0), (.int x0)] 2) [] m (it_Pi Φ) := by
  rw [w_192] at h
  refine it_V.at (pc1 := 0) (ls1 := [some (.ref 0), some (.int x0)]) (st1 := []) (mem1 := m) rfl rfl rfl rfl ?_
  refine it_V.sN it_cd192 it_m192 3 (pc1 := (if x0 < (-1 : Int32) then 12 else 5)) (ls1 := [some (.ref 0), some (.int x0)]) (st1 := []) (mem1 := m) rfl ?_
  refine it_V.ite (fun c1 => ?_) (fun c1 => ?_)
  · have h := h.1 c1
    refine it_V.weak (l := [none, none]) trivial ?_
    exact s_192_12 kc Φ m h
  · have h := h.2 c1
    refine it_V.sN it_cd192 it_m192 3 (pc1 := (if x0 ≤ (10000 : Int32) then 15 else 12)) (ls1 := [some (.ref 0), some (.int x0)]) (st1 := []) (mem1 := m) rfl ?_
    refine it_V.ite (fun c2 => ?_) (fun c2 => ?_)
    · have h := h.1 c2
      refine it_V.sN it_cd192 it_m192 5 (pc1 := 24) (ls1 := [some (.ref 0), some (.int x0)]) (st1 := [(.int (1 : Int32))]) (mem1 := (it_sv m 7 3 x0)) rfl ?_
      exact it_V.ret it_cd192 it_m192 rfl rfl ⟨_, rfl, h⟩
    · have h := h.2 c2
      refine it_V.weak (l := [none, none]) trivial ?_
      exact s_192_12 kc Φ m h
set_option maxRecDepth 100000 in
set_option maxHeartbeats 4000000 in
theorem s_193_151 (kc : it_Kc) (Φ : Int32 → it_Me → Prop) (K27 : Int32 → Int32 → it_Me → Prop) (K161 : it_Me → Prop) (K174 : Int32 → it_Me → Prop) (hK27 : ∀ (v1 : Int32) (v2 : Int32) (m : it_Me), K27 v1 v2 m → it_V kc it_sh0 193 27 [some (.ref 0), some (.int v1), some (.int v2), none, none, none] [] m (it_Pi Φ)) (hK161 : ∀ (m : it_Me), K161 m → it_V kc it_sh0 193 161 [some (.ref 0), none, none, none, none, none] [] m (it_Pi Φ)) (hK174 : ∀ (v1 : Int32) (m : it_Me), K174 v1 m → it_V kc it_sh0 193 174 [none, some (.int v1), none, none, none, none] [] m (it_Pi Φ)) (v1 : Int32) (v2 : Int32) (m : it_Me) (h : w_193_151 kc Φ K27 K161 K174 v1 v2 m) : it_V kc it_sh0 193 151 [some (.ref 0), some (.int v1), some (.int v2), none, none, none] [] m (it_Pi Φ) := by
  rw [w_193_151] at h
  refine it_V.sN it_cd193 it_m193 4 (pc1 := (if (m 7 4) = 0 then 168 else 161)) (ls1 := [some (.ref 0), some (.int v1), some (.int v2), none, none, none]) (st1 := []) (mem1 := m) rfl ?_
  refine it_V.ite (fun c1 => ?_) (fun c1 => ?_)
  · have h := h.1 c1
    refine it_V.sN it_cd193 it_m193 2 (pc1 := 27) (ls1 := [some (.ref 0), some (.int v1), some (.int (v2 + (1 : Int32))), none, none, none]) (st1 := []) (mem1 := m) rfl ?_
    refine it_V.weak (l := [some (.ref 0), some (.int v1), some (.int (v2 + (1 : Int32))), none, none, none]) ⟨rfl, ⟨rfl, ⟨rfl, trivial⟩⟩⟩ ?_
    exact hK27 v1 (v2 + (1 : Int32)) m h
  · have h := h.2 c1
    refine it_V.weak (l := [some (.ref 0), none, none, none, none, none]) ⟨rfl, trivial⟩ ?_
    exact hK161 m h
set_option maxRecDepth 100000 in
set_option maxHeartbeats 4000000 in
theorem s_193_120 (kc : it_Kc) (Φ : Int32 → it_Me → Prop) (K27 : Int32 → Int32 → it_Me → Prop) (K161 : it_Me → Prop) (K174 : Int32 → it_Me → Prop) (hK27 : ∀ (v1 : Int32) (v2 : Int32) (m : it_Me), K27 v1 v2 m → it_V kc it_sh0 193 27 [some (.ref 0), some (.int v1), some (.int v2), none, none, none] [] m (it_Pi Φ)) (hK161 : ∀ (m : it_Me), K161 m → it_V kc it_sh0 193 161 [some (.ref 0), none, none, none, none, none] [] m (it_Pi Φ)) (hK174 : ∀ (v1 : Int32) (m : it_Me), K174 v1 m → it_V kc it_sh0 193 174 [none, some (.int v1), none, none, none, none] [] m (it_Pi Φ)) (v1 : Int32) (v2 : Int32) (m : it_Me) (h : w_193_120 kc Φ K27 K161 K174 v1 v2 m) : it_V kc it_sh0 193 120 [some (.ref 0), some (.int v1), some (.int v2), none, none, none] [] m (it_Pi Φ) := by
  rw [w_193_120] at h
  refine it_V.sN it_cd193 it_m193 1 (pc1 := 151) (ls1 := [some (.ref 0), some (.int v1), some (.int v2), none, none, none]) (st1 := []) (mem1 := m) rfl ?_
  refine it_V.weak (l := [some (.ref 0), some (.int v1), some (.int v2), none, none, none]) ⟨rfl, ⟨rfl, ⟨rfl, trivial⟩⟩⟩ ?_
  exact s_193_151 kc Φ _ _ _ hK27 hK161 hK174 v1 v2 m h
set_option maxRecDepth 100000 in
set_option maxHeartbeats 4000000 in
theorem s_193_27 (kc : it_Kc) (Φ : Int32 → it_Me → Prop) (K161 : it_Me → Prop) (K174 : Int32 → it_Me → Prop) (hK161 : ∀ (m : it_Me), K161 m → it_V kc it_sh0 193 161 [some (.ref 0), none, none, none, none, none] [] m (it_Pi Φ)) (hK174 : ∀ (v1 : Int32) (m : it_Me), K174 v1 m → it_V kc it_sh0 193 174 [none, some (.int v1), none, none, none, none] [] m (it_Pi Φ)) : ∀ (n : Nat) (v1 : Int32) (v2 : Int32) (m : it_Me) (h : w_193_27 kc Φ K161 K174 n v1 v2 m), it_V kc it_sh0 193 27 [some (.ref 0), some (.int v1), some (.int v2), none, none, none] [] m (it_Pi Φ) := by
  intro n
  induction n with
  | zero => intro v1 v2 m h; exact absurd h id
  | succ n ih =>
    intro v1 v2 m h
    rw [w_193_27] at h
    refine it_V.sN it_cd193 it_m193 3 (pc1 := (if v1 ≤ v2 then 174 else 32)) (ls1 := [some (.ref 0), some (.int v1), some (.int v2), none, none, none]) (st1 := []) (mem1 := m) rfl ?_
    refine it_V.ite (fun c1 => ?_) (fun c1 => ?_)
    · have h := h.1 c1
      refine it_V.weak (l := [none, some (.int v1), none, none, none, none]) ⟨rfl, trivial⟩ ?_
      exact hK174 v1 m h
    · have h := h.2 c1
      refine it_V.sN it_cd193 it_m193 9 (pc1 := 49) (ls1 := [some (.ref 0), some (.int v1), some (.int v2), none, none, none]) (st1 := [(.ref 59)]) (mem1 := (it_sv m 4 0 ((m 4 0) + (1 : Int32)))) rfl ?_
      refine it_V.call it_cd193 it_m193 rfl it_m39 [(.ref 59)] [] rfl rfl ⟨Nat.le_of_ble_eq_true rfl, Nat.le_of_ble_eq_true rfl, Nat.le_of_ble_eq_true rfl, Nat.le_of_ble_eq_true rfl, rfl⟩ (s_39 kc (it_sv m 4 0 ((m 4 0) + (1 : Int32))) _ h) ?_
      rintro _ m2 ⟨rfl, h⟩
      refine it_V.at (pc1 := 52) (ls1 := [some (.ref 0), some (.int v1), some (.int v2), none, none, none]) (st1 := []) (mem1 := m2) rfl rfl rfl rfl ?_
      refine it_V.sN it_cd193 it_m193 2 (pc1 := 56) (ls1 := [some (.ref 0), some (.int v1), some (.int v2), none, none, none]) (st1 := [(.ref 54)]) (mem1 := m2) rfl ?_
      refine it_V.call it_cd193 it_m193 rfl it_m148 [(.ref 54)] [] rfl rfl ⟨Nat.le_of_ble_eq_true rfl, Nat.le_of_ble_eq_true rfl, Nat.le_of_ble_eq_true rfl, Nat.le_of_ble_eq_true rfl, rfl⟩ (s_148 kc m2 _ h) ?_
      rintro _ m4 ⟨r3, rfl, hr3, h⟩
      rcases r3 with _ | q5
      · skip
        refine it_V.at (pc1 := 59) (ls1 := [some (.ref 0), some (.int v1), some (.int v2), none, none, none]) (st1 := [.null]) (mem1 := m4) rfl rfl rfl rfl ?_
        have h := h.1 rfl
        refine it_V.sN it_cd193 it_m193 3 (pc1 := 151) (ls1 := [some (.ref 0), some (.int v1), some (.int v2), some .null, none, none]) (st1 := []) (mem1 := m4) rfl ?_
        refine it_V.weak (l := [some (.ref 0), some (.int v1), some (.int v2), none, none, none]) ⟨rfl, ⟨rfl, ⟨rfl, trivial⟩⟩⟩ ?_
        exact s_193_151 kc Φ _ _ _ ih hK161 hK174 v1 v2 m4 h
      · skip
        refine it_V.at (pc1 := 59) (ls1 := [some (.ref 0), some (.int v1), some (.int v2), none, none, none]) (st1 := [(.ref q5)]) (mem1 := m4) rfl rfl rfl rfl ?_
        have h := h.2 q5 rfl
        refine it_V.sN it_cd193 it_m193 8 (pc1 := 74) (ls1 := [some (.ref 0), some (.int v1), some (.int v2), some (.ref q5), none, none]) (st1 := [(.int (10 : Int32)), (.ref 5), (.int (10 : Int32)), (.ref 5)]) (mem1 := m4) rfl ?_
        obtain ⟨g6, h⟩ := h
        refine it_V.iald it_cd193 it_m193 rfl ((⟨rfl, by decide⟩ : it_isR 5 12)).2 ((⟨rfl, by decide⟩ : it_isR 5 12)).1 g6 ?_
        refine it_V.at (pc1 := 75) (ls1 := [some (.ref 0), some (.int v1), some (.int v2), some (.ref q5), none, none]) (st1 := [(.int (m4 5 (Int32.toNatClampNeg (10 : Int32)))), (.int (10 : Int32)), (.ref 5)]) (mem1 := m4) rfl rfl rfl rfl ?_
        refine it_V.sN it_cd193 it_m193 2 (pc1 := 77) (ls1 := [some (.ref 0), some (.int v1), some (.int v2), some (.ref q5), none, none]) (st1 := [(.int ((m4 5 (Int32.toNatClampNeg (10 : Int32))) + (1 : Int32))), (.int (10 : Int32)), (.ref 5)]) (mem1 := m4) rfl ?_
        obtain ⟨g7, h⟩ := h
        refine it_V.iast it_cd193 it_m193 rfl ((⟨rfl, by decide⟩ : it_isR 5 12)).1 g7 ?_
        refine it_V.at (pc1 := 78) (ls1 := [some (.ref 0), some (.int v1), some (.int v2), some (.ref q5), none, none]) (st1 := []) (mem1 := (it_sv m4 5 (Int32.toNatClampNeg (10 : Int32)) ((m4 5 (Int32.toNatClampNeg (10 : Int32))) + (1 : Int32)))) rfl rfl rfl rfl ?_
        refine it_V.sN it_cd193 it_m193 3 (pc1 := 83) (ls1 := [some (.ref 0), some (.int v1), some (.int v2), some (.ref q5), none, none]) (st1 := [(.ref q5), (.ref 58)]) (mem1 := (it_sv m4 5 (Int32.toNatClampNeg (10 : Int32)) ((m4 5 (Int32.toNatClampNeg (10 : Int32))) + (1 : Int32)))) rfl ?_
        refine it_V.call it_cd193 it_m193 rfl it_m104 [(.ref 58), (.ref q5)] [] rfl rfl ⟨Nat.le_of_ble_eq_true rfl, Nat.le_of_ble_eq_true rfl, Nat.le_of_ble_eq_true rfl, Nat.le_of_ble_eq_true rfl, rfl⟩ (s_104 kc q5 (hr3 q5 rfl) (it_sv m4 5 (Int32.toNatClampNeg (10 : Int32)) ((m4 5 (Int32.toNatClampNeg (10 : Int32))) + (1 : Int32))) _ h) ?_
        rintro _ m9 ⟨r8, rfl, h⟩
        refine it_V.at (pc1 := 86) (ls1 := [some (.ref 0), some (.int v1), some (.int v2), some (.ref q5), none, none]) (st1 := [(.int r8)]) (mem1 := m9) rfl rfl rfl rfl ?_
        refine it_V.sN it_cd193 it_m193 4 (pc1 := (if r8 = (1 : Int32) then 94 else 123)) (ls1 := [some (.ref 0), some (.int v1), some (.int v2), some (.ref q5), some (.int r8), none]) (st1 := []) (mem1 := m9) rfl ?_
        refine it_V.ite (fun c10 => ?_) (fun c10 => ?_)
        · have h := h.1 c10
          refine it_V.sN it_cd193 it_m193 3 (pc1 := 99) (ls1 := [some (.ref 0), some (.int v1), some (.int v2), some (.ref q5), some (.int r8), none]) (st1 := [(.ref q5), (.ref 64)]) (mem1 := m9) rfl ?_
          refine it_V.call it_cd193 it_m193 rfl it_m172 [(.ref 64), (.ref q5)] [] rfl rfl ⟨Nat.le_of_ble_eq_true rfl, Nat.le_of_ble_eq_true rfl, Nat.le_of_ble_eq_true rfl, Nat.le_of_ble_eq_true rfl, rfl⟩ (s_172 kc q5 (hr3 q5 rfl) m9 _ h) ?_
          rintro _ m12 ⟨r11, rfl, h⟩
          refine it_V.at (pc1 := 102) (ls1 := [some (.ref 0), some (.int v1), some (.int v2), some (.ref q5), some (.int r8), none]) (st1 := [(.int r11)]) (mem1 := m12) rfl rfl rfl rfl ?_
          refine it_V.sN it_cd193 it_m193 4 (pc1 := (if r11 = (-1 : Int32) then 120 else 110)) (ls1 := [some (.ref 0), some (.int v1), some (.int v2), some (.ref q5), some (.int r8), some (.int r11)]) (st1 := []) (mem1 := m12) rfl ?_
          refine it_V.ite (fun c13 => ?_) (fun c13 => ?_)
          · have h := h.1 c13
            refine it_V.weak (l := [some (.ref 0), some (.int v1), some (.int v2), none, none, none]) ⟨rfl, ⟨rfl, ⟨rfl, trivial⟩⟩⟩ ?_
            exact s_193_120 kc Φ _ _ _ ih hK161 hK174 v1 v2 m12 h
          · have h := h.2 c13
            refine it_V.sN it_cd193 it_m193 4 (pc1 := 117) (ls1 := [some (.ref 0), some (.int v1), some (.int v2), some (.ref q5), some (.int r8), some (.int r11)]) (st1 := [(.int r11), (.ref q5), (.ref 59)]) (mem1 := m12) rfl ?_
            refine it_V.call it_cd193 it_m193 rfl it_m37 [(.ref 59), (.ref q5), (.int r11)] [] rfl rfl ⟨Nat.le_of_ble_eq_true rfl, Nat.le_of_ble_eq_true rfl, Nat.le_of_ble_eq_true rfl, Nat.le_of_ble_eq_true rfl, rfl⟩ (s_37 kc q5 r11 (hr3 q5 rfl) m12 _ h) ?_
            rintro _ m14 ⟨rfl, h⟩
            refine it_V.at (pc1 := 120) (ls1 := [some (.ref 0), some (.int v1), some (.int v2), some (.ref q5), some (.int r8), some (.int r11)]) (st1 := []) (mem1 := m14) rfl rfl rfl rfl ?_
            refine it_V.weak (l := [some (.ref 0), some (.int v1), some (.int v2), none, none, none]) ⟨rfl, ⟨rfl, ⟨rfl, trivial⟩⟩⟩ ?_
            exact s_193_120 kc Φ _ _ _ ih hK161 hK174 v1 v2 m14 h
        · have h := h.2 c10
          refine it_V.sN it_cd193 it_m193 3 (pc1 := (if r8 = (2 : Int32) then 129 else 151)) (ls1 := [some (.ref 0), some (.int v1), some (.int v2), some (.ref q5), some (.int r8), none]) (st1 := []) (mem1 := m9) rfl ?_
          refine it_V.ite (fun c15 => ?_) (fun c15 => ?_)
          · have h := h.1 c15
            refine it_V.sN it_cd193 it_m193 9 (pc1 := 148) (ls1 := [some (.ref 0), some (.int v1), some (.int v2), some (.ref q5), some (.int r8), none]) (st1 := [(.int (m9 58 2)), (.int (m9 58 1)), (.ref q5), (.ref 9)]) (mem1 := m9) rfl ?_
            refine it_V.call it_cd193 it_m193 rfl it_m77 [(.ref 9), (.ref q5), (.int (m9 58 1)), (.int (m9 58 2))] [] rfl rfl ⟨Nat.le_of_ble_eq_true rfl, Nat.le_of_ble_eq_true rfl, Nat.le_of_ble_eq_true rfl, Nat.le_of_ble_eq_true rfl, rfl⟩ (s_77 kc q5 (m9 58 1) (m9 58 2) (hr3 q5 rfl) m9 _ h) ?_
            rintro _ m16 ⟨rfl, h⟩
            refine it_V.at (pc1 := 151) (ls1 := [some (.ref 0), some (.int v1), some (.int v2), some (.ref q5), some (.int r8), none]) (st1 := []) (mem1 := m16) rfl rfl rfl rfl ?_
            refine it_V.weak (l := [some (.ref 0), some (.int v1), some (.int v2), none, none, none]) ⟨rfl, ⟨rfl, ⟨rfl, trivial⟩⟩⟩ ?_
            exact s_193_151 kc Φ _ _ _ ih hK161 hK174 v1 v2 m16 h
          · have h := h.2 c15
            refine it_V.weak (l := [some (.ref 0), some (.int v1), some (.int v2), none, none, none]) ⟨rfl, ⟨rfl, ⟨rfl, trivial⟩⟩⟩ ?_
            exact s_193_151 kc Φ _ _ _ ih hK161 hK174 v1 v2 m9 h
set_option maxRecDepth 100000 in
set_option maxHeartbeats 4000000 in
theorem s_193_22 (kc : it_Kc) (Φ : Int32 → it_Me → Prop) (m : it_Me) (h : w_193_22 kc Φ m) : it_V kc it_sh0 193 22 [none, none, none, none, none, none] [] m (it_Pi Φ) := by
  rw [w_193_22] at h
  refine it_V.sN it_cd193 it_m193 1 (pc1 := 24) (ls1 := [none, none, none, none, none, none]) (st1 := [(.int (-2 : Int32))]) (mem1 := m) rfl ?_
  exact it_V.ret it_cd193 it_m193 rfl rfl ⟨_, rfl, h⟩
set_option maxRecDepth 100000 in
set_option maxHeartbeats 4000000 in
theorem s_193_161 (kc : it_Kc) (Φ : Int32 → it_Me → Prop) (m : it_Me) (h : w_193_161 kc Φ m) : it_V kc it_sh0 193 161 [some (.ref 0), none, none, none, none, none] [] m (it_Pi Φ) := by
  rw [w_193_161] at h
  refine it_V.sN it_cd193 it_m193 1 (pc1 := 162) (ls1 := [some (.ref 0), none, none, none, none, none]) (st1 := [(.ref 0)]) (mem1 := m) rfl ?_
  refine it_V.call it_cd193 it_m193 rfl it_m212 [(.ref 0)] [] rfl rfl ⟨Nat.le_of_ble_eq_true rfl, Nat.le_of_ble_eq_true rfl, Nat.le_of_ble_eq_true rfl, Nat.le_of_ble_eq_true rfl, rfl⟩ (s_212 kc m _ h) ?_
  rintro _ m1 ⟨rfl, h⟩
  refine it_V.at (pc1 := 165) (ls1 := [some (.ref 0), none, none, none, none, none]) (st1 := []) (mem1 := m1) rfl rfl rfl rfl ?_
  refine it_V.sN it_cd193 it_m193 1 (pc1 := 167) (ls1 := [some (.ref 0), none, none, none, none, none]) (st1 := [(.int (-4 : Int32))]) (mem1 := m1) rfl ?_
  exact it_V.ret it_cd193 it_m193 rfl rfl ⟨_, rfl, h⟩
set_option maxRecDepth 100000 in
set_option maxHeartbeats 4000000 in
theorem s_193_174 (kc : it_Kc) (Φ : Int32 → it_Me → Prop) (v1 : Int32) (m : it_Me) (h : w_193_174 kc Φ v1 m) : it_V kc it_sh0 193 174 [none, some (.int v1), none, none, none, none] [] m (it_Pi Φ) := by
  rw [w_193_174] at h
  refine it_V.sN it_cd193 it_m193 1 (pc1 := 175) (ls1 := [none, some (.int v1), none, none, none, none]) (st1 := [(.int v1)]) (mem1 := m) rfl ?_
  exact it_V.ret it_cd193 it_m193 rfl rfl ⟨_, rfl, h⟩
set_option maxRecDepth 100000 in
set_option maxHeartbeats 4000000 in
theorem s_193 (kc : it_Kc) (x0 : Int32) (m : it_Me) (Φ : Int32 → it_Me → Prop) (h : w_193 kc x0 m Φ) : it_V kc it_sh0 193 0 (it_loc0 [(.ref 0), (.int x0)] 6) [] m (it_Pi Φ) := by
  rw [w_193] at h
  refine it_V.at (pc1 := 0) (ls1 := [some (.ref 0), some (.int x0), none, none, none, none]) (st1 := []) (mem1 := m) rfl rfl rfl rfl ?_
  refine it_V.sN it_cd193 it_m193 3 (pc1 := (if (m 0 10) = 0 then 7 else 10)) (ls1 := [some (.ref 0), some (.int x0), none, none, none, none]) (st1 := []) (mem1 := m) rfl ?_
  refine it_V.ite (fun c1 => ?_) (fun c1 => ?_)
  · have h := h.1 c1
    refine it_V.sN it_cd193 it_m193 1 (pc1 := 9) (ls1 := [some (.ref 0), some (.int x0), none, none, none, none]) (st1 := [(.int (-3 : Int32))]) (mem1 := m) rfl ?_
    exact it_V.ret it_cd193 it_m193 rfl rfl ⟨_, rfl, h⟩
  · have h := h.2 c1
    refine it_V.sN it_cd193 it_m193 3 (pc1 := (if x0 < (1 : Int32) then 22 else 15)) (ls1 := [some (.ref 0), some (.int x0), none, none, none, none]) (st1 := []) (mem1 := m) rfl ?_
    refine it_V.ite (fun c2 => ?_) (fun c2 => ?_)
    · have h := h.1 c2
      refine it_V.weak (l := [none, none, none, none, none, none]) trivial ?_
      exact s_193_22 kc Φ m h
    · have h := h.2 c2
      refine it_V.sN it_cd193 it_m193 3 (pc1 := (if x0 ≤ (20000 : Int32) then 25 else 22)) (ls1 := [some (.ref 0), some (.int x0), none, none, none, none]) (st1 := []) (mem1 := m) rfl ?_
      refine it_V.ite (fun c3 => ?_) (fun c3 => ?_)
      · have h := h.1 c3
        refine it_V.sN it_cd193 it_m193 2 (pc1 := 27) (ls1 := [some (.ref 0), some (.int x0), some (.int (0 : Int32)), none, none, none]) (st1 := []) (mem1 := m) rfl ?_
        obtain ⟨n, h⟩ := h
        exact s_193_27 kc Φ _ _ (fun m h => s_193_161 kc Φ m h) (fun v1 m h => s_193_174 kc Φ v1 m h) n x0 (0 : Int32) m h
      · have h := h.2 c3
        refine it_V.weak (l := [none, none, none, none, none, none]) trivial ?_
        exact s_193_22 kc Φ m h
set_option maxRecDepth 100000 in
set_option maxHeartbeats 4000000 in
theorem s_194_9 (kc : it_Kc) (Φ : Int32 → it_Me → Prop) (m : it_Me) (h : w_194_9 kc Φ m) : it_V kc it_sh0 194 9 [none, none, none] [] m (it_Pi Φ) := by
  rw [w_194_9] at h
  refine it_V.sN it_cd194 it_m194 1 (pc1 := 11) (ls1 := [none, none, none]) (st1 := [(.int (-2 : Int32))]) (mem1 := m) rfl ?_
  exact it_V.ret it_cd194 it_m194 rfl rfl ⟨_, rfl, h⟩
set_option maxRecDepth 100000 in
set_option maxHeartbeats 4000000 in
theorem s_194_29 (kc : it_Kc) (Φ : Int32 → it_Me → Prop) (u0 : Int32) (m : it_Me) (h : w_194_29 kc Φ u0 m) : it_V kc it_sh0 194 29 [none, none, none] [(.int u0)] m (it_Pi Φ) := by
  rw [w_194_29] at h
  exact it_V.ret it_cd194 it_m194 rfl rfl ⟨_, rfl, h⟩
set_option maxRecDepth 100000 in
set_option maxHeartbeats 4000000 in
theorem s_194 (kc : it_Kc) (x0 : Int32) (x1 : Int32) (m : it_Me) (Φ : Int32 → it_Me → Prop) (h : w_194 kc x0 x1 m Φ) : it_V kc it_sh0 194 0 (it_loc0 [(.ref 0), (.int x0), (.int x1)] 3) [] m (it_Pi Φ) := by
  rw [w_194] at h
  refine it_V.at (pc1 := 0) (ls1 := [some (.ref 0), some (.int x0), some (.int x1)]) (st1 := []) (mem1 := m) rfl rfl rfl rfl ?_
  refine it_V.sN it_cd194 it_m194 2 (pc1 := (if x0 < 0 then 9 else 4)) (ls1 := [some (.ref 0), some (.int x0), some (.int x1)]) (st1 := []) (mem1 := m) rfl ?_
  refine it_V.ite (fun c1 => ?_) (fun c1 => ?_)
  · have h := h.1 c1
    refine it_V.weak (l := [none, none, none]) trivial ?_
    exact s_194_9 kc Φ m h
  · have h := h.2 c1
    refine it_V.sN it_cd194 it_m194 3 (pc1 := (if x0 ≤ (3 : Int32) then 12 else 9)) (ls1 := [some (.ref 0), some (.int x0), some (.int x1)]) (st1 := []) (mem1 := m) rfl ?_
    refine it_V.ite (fun c2 => ?_) (fun c2 => ?_)
    · have h := h.1 c2
      refine it_V.sN it_cd194 it_m194 4 (pc1 := 18) (ls1 := [some (.ref 0), some (.int x0), some (.int x1)]) (st1 := [(.int x1), (.int x0), (.ref 59)]) (mem1 := m) rfl ?_
      refine it_V.call it_cd194 it_m194 rfl it_m54 [(.ref 59), (.int x0), (.int x1)] [] rfl rfl ⟨Nat.le_of_ble_eq_true rfl, Nat.le_of_ble_eq_true rfl, Nat.le_of_ble_eq_true rfl, Nat.le_of_ble_eq_true rfl, rfl⟩ (s_54 kc x0 x1 m _ h) ?_
      rintro _ m4 ⟨r3, rfl, h⟩
      refine it_V.at (pc1 := 21) (ls1 := [some (.ref 0), some (.int x0), some (.int x1)]) (st1 := [(.int r3)]) (mem1 := m4) rfl rfl rfl rfl ?_
      refine it_V.sN it_cd194 it_m194 1 (pc1 := (if r3 = 0 then 28 else 24)) (ls1 := [some (.ref 0), some (.int x0), some (.int x1)]) (st1 := []) (mem1 := m4) rfl ?_
      refine it_V.ite (fun c5 => ?_) (fun c5 => ?_)
      · have h := h.1 c5
        refine it_V.sN it_cd194 it_m194 1 (pc1 := 29) (ls1 := [some (.ref 0), some (.int x0), some (.int x1)]) (st1 := [(.int (0 : Int32))]) (mem1 := m4) rfl ?_
        refine it_V.weak (l := [none, none, none]) trivial ?_
        exact s_194_29 kc Φ (0 : Int32) m4 h
      · have h := h.2 c5
        refine it_V.sN it_cd194 it_m194 2 (pc1 := 29) (ls1 := [some (.ref 0), some (.int x0), some (.int x1)]) (st1 := [(.int (1 : Int32))]) (mem1 := m4) rfl ?_
        refine it_V.weak (l := [none, none, none]) trivial ?_
        exact s_194_29 kc Φ (1 : Int32) m4 h
    · have h := h.2 c2
      refine it_V.weak (l := [none, none, none]) trivial ?_
      exact s_194_9 kc Φ m h
set_option maxRecDepth 100000 in
set_option maxHeartbeats 4000000 in
theorem s_195_21 (kc : it_Kc) (Φ : Int32 → it_Me → Prop) (m : it_Me) (h : w_195_21 kc Φ m) : it_V kc it_sh0 195 21 [none, none] [] m (it_Pi Φ) := by
  rw [w_195_21] at h
  refine it_V.sN it_cd195 it_m195 1 (pc1 := 23) (ls1 := [none, none]) (st1 := [(.int (-2 : Int32))]) (mem1 := m) rfl ?_
  exact it_V.ret it_cd195 it_m195 rfl rfl ⟨_, rfl, h⟩
set_option maxRecDepth 100000 in
set_option maxHeartbeats 4000000 in
theorem s_195_40 (kc : it_Kc) (Φ : Int32 → it_Me → Prop) (u0 : Int32) (m : it_Me) (h : w_195_40 kc Φ u0 m) : it_V kc it_sh0 195 40 [none, none] [(.int u0)] m (it_Pi Φ) := by
  rw [w_195_40] at h
  exact it_V.ret it_cd195 it_m195 rfl rfl ⟨_, rfl, h⟩
set_option maxRecDepth 100000 in
set_option maxHeartbeats 4000000 in
theorem s_195 (kc : it_Kc) (x0 : Int32) (m : it_Me) (Φ : Int32 → it_Me → Prop) (h : w_195 kc x0 m Φ) : it_V kc it_sh0 195 0 (it_loc0 [(.ref 0), (.int x0)] 2) [] m (it_Pi Φ) := by
  rw [w_195] at h
  refine it_V.at (pc1 := 0) (ls1 := [some (.ref 0), some (.int x0)]) (st1 := []) (mem1 := m) rfl rfl rfl rfl ?_
  refine it_V.sN it_cd195 it_m195 3 (pc1 := (if (m 0 10) = 0 then 7 else 10)) (ls1 := [some (.ref 0), some (.int x0)]) (st1 := []) (mem1 := m) rfl ?_
  refine it_V.ite (fun c1 => ?_) (fun c1 => ?_)
  · have h := h.1 c1
    refine it_V.sN it_cd195 it_m195 1 (pc1 := 9) (ls1 := [some (.ref 0), some (.int x0)]) (st1 := [(.int (-3 : Int32))]) (mem1 := m) rfl ?_
    exact it_V.ret it_cd195 it_m195 rfl rfl ⟨_, rfl, h⟩
  · have h := h.2 c1
    refine it_V.sN it_cd195 it_m195 2 (pc1 := (if x0 < 0 then 21 else 14)) (ls1 := [some (.ref 0), some (.int x0)]) (st1 := []) (mem1 := m) rfl ?_
    refine it_V.ite (fun c2 => ?_) (fun c2 => ?_)
    · have h := h.1 c2
      refine it_V.weak (l := [none, none]) trivial ?_
      exact s_195_21 kc Φ m h
    · have h := h.2 c2
      refine it_V.sN it_cd195 it_m195 3 (pc1 := (if x0 ≤ (255 : Int32) then 24 else 21)) (ls1 := [some (.ref 0), some (.int x0)]) (st1 := []) (mem1 := m) rfl ?_
      refine it_V.ite (fun c3 => ?_) (fun c3 => ?_)
      · have h := h.1 c3
        refine it_V.sN it_cd195 it_m195 3 (pc1 := 29) (ls1 := [some (.ref 0), some (.int x0)]) (st1 := [(.int x0), (.ref 59)]) (mem1 := m) rfl ?_
        refine it_V.call it_cd195 it_m195 rfl it_m50 [(.ref 59), (.int x0)] [] rfl rfl ⟨Nat.le_of_ble_eq_true rfl, Nat.le_of_ble_eq_true rfl, Nat.le_of_ble_eq_true rfl, Nat.le_of_ble_eq_true rfl, rfl⟩ (s_50 kc x0 m _ h) ?_
        rintro _ m5 ⟨r4, rfl, h⟩
        refine it_V.at (pc1 := 32) (ls1 := [some (.ref 0), some (.int x0)]) (st1 := [(.int r4)]) (mem1 := m5) rfl rfl rfl rfl ?_
        refine it_V.sN it_cd195 it_m195 1 (pc1 := (if r4 = 0 then 39 else 35)) (ls1 := [some (.ref 0), some (.int x0)]) (st1 := []) (mem1 := m5) rfl ?_
        refine it_V.ite (fun c6 => ?_) (fun c6 => ?_)
        · have h := h.1 c6
          refine it_V.sN it_cd195 it_m195 1 (pc1 := 40) (ls1 := [some (.ref 0), some (.int x0)]) (st1 := [(.int (0 : Int32))]) (mem1 := m5) rfl ?_
          refine it_V.weak (l := [none, none]) trivial ?_
          exact s_195_40 kc Φ (0 : Int32) m5 h
        · have h := h.2 c6
          refine it_V.sN it_cd195 it_m195 2 (pc1 := 40) (ls1 := [some (.ref 0), some (.int x0)]) (st1 := [(.int (1 : Int32))]) (mem1 := m5) rfl ?_
          refine it_V.weak (l := [none, none]) trivial ?_
          exact s_195_40 kc Φ (1 : Int32) m5 h
      · have h := h.2 c3
        refine it_V.weak (l := [none, none]) trivial ?_
        exact s_195_21 kc Φ m h
set_option maxRecDepth 100000 in
set_option maxHeartbeats 4000000 in
theorem s_196_9 (kc : it_Kc) (Φ : Int32 → it_Me → Prop) (m : it_Me) (h : w_196_9 kc Φ m) : it_V kc it_sh0 196 9 [none, none, none] [] m (it_Pi Φ) := by
  rw [w_196_9] at h
  refine it_V.sN it_cd196 it_m196 1 (pc1 := 11) (ls1 := [none, none, none]) (st1 := [(.int (-2 : Int32))]) (mem1 := m) rfl ?_
  exact it_V.ret it_cd196 it_m196 rfl rfl ⟨_, rfl, h⟩
set_option maxRecDepth 100000 in
set_option maxHeartbeats 4000000 in
theorem s_196 (kc : it_Kc) (x0 : Int32) (x1 : Int32) (m : it_Me) (Φ : Int32 → it_Me → Prop) (h : w_196 kc x0 x1 m Φ) : it_V kc it_sh0 196 0 (it_loc0 [(.ref 0), (.int x0), (.int x1)] 3) [] m (it_Pi Φ) := by
  rw [w_196] at h
  refine it_V.at (pc1 := 0) (ls1 := [some (.ref 0), some (.int x0), some (.int x1)]) (st1 := []) (mem1 := m) rfl rfl rfl rfl ?_
  refine it_V.sN it_cd196 it_m196 2 (pc1 := (if x0 < 0 then 9 else 4)) (ls1 := [some (.ref 0), some (.int x0), some (.int x1)]) (st1 := []) (mem1 := m) rfl ?_
  refine it_V.ite (fun c1 => ?_) (fun c1 => ?_)
  · have h := h.1 c1
    refine it_V.weak (l := [none, none, none]) trivial ?_
    exact s_196_9 kc Φ m h
  · have h := h.2 c1
    refine it_V.sN it_cd196 it_m196 3 (pc1 := (if x0 ≤ (1 : Int32) then 12 else 9)) (ls1 := [some (.ref 0), some (.int x0), some (.int x1)]) (st1 := []) (mem1 := m) rfl ?_
    refine it_V.ite (fun c2 => ?_) (fun c2 => ?_)
    · have h := h.1 c2
      refine it_V.sN it_cd196 it_m196 5 (pc1 := 21) (ls1 := [some (.ref 0), some (.int x0), some (.int x1)]) (st1 := [(.int x1), (.int x0), (.ref 60)]) (mem1 := m) rfl ?_
      obtain ⟨g3, h⟩ := h
      refine it_V.iast it_cd196 it_m196 rfl ((⟨rfl, by decide⟩ : it_isR 60 2)).1 g3 ?_
      refine it_V.at (pc1 := 22) (ls1 := [some (.ref 0), some (.int x0), some (.int x1)]) (st1 := []) (mem1 := (it_sv m 60 (Int32.toNatClampNeg x0) x1)) rfl rfl rfl rfl ?_
      refine it_V.sN it_cd196 it_m196 1 (pc1 := 23) (ls1 := [some (.ref 0), some (.int x0), some (.int x1)]) (st1 := [(.int (1 : Int32))]) (mem1 := (it_sv m 60 (Int32.toNatClampNeg x0) x1)) rfl ?_
      exact it_V.ret it_cd196 it_m196 rfl rfl ⟨_, rfl, h⟩
    · have h := h.2 c2
      refine it_V.weak (l := [none, none, none]) trivial ?_
      exact s_196_9 kc Φ m h
set_option maxRecDepth 100000 in
set_option maxHeartbeats 4000000 in
theorem s_197 (kc : it_Kc) (x0 : Int32) (x1 : Int32) (m : it_Me) (Φ : Int32 → it_Me → Prop) (h : w_197 kc x0 x1 m Φ) : it_V kc it_sh0 197 0 (it_loc0 [(.ref 0), (.int x0), (.int x1)] 4) [] m (it_Pi Φ) := by
  rw [w_197] at h
  refine it_V.at (pc1 := 0) (ls1 := [some (.ref 0), some (.int x0), some (.int x1), none]) (st1 := []) (mem1 := m) rfl rfl rfl rfl ?_
  refine it_V.sN it_cd197 it_m197 3 (pc1 := (if (m 0 10) = 0 then 7 else 10)) (ls1 := [some (.ref 0), some (.int x0), some (.int x1), none]) (st1 := []) (mem1 := m) rfl ?_
  refine it_V.ite (fun c1 => ?_) (fun c1 => ?_)
  · have h := h.1 c1
    refine it_V.sN it_cd197 it_m197 1 (pc1 := 9) (ls1 := [some (.ref 0), some (.int x0), some (.int x1), none]) (st1 := [(.int (-3 : Int32))]) (mem1 := m) rfl ?_
    exact it_V.ret it_cd197 it_m197 rfl rfl ⟨_, rfl, h⟩
  · have h := h.2 c1
    refine it_V.sN it_cd197 it_m197 3 (pc1 := 15) (ls1 := [some (.ref 0), some (.int x0), some (.int x1), none]) (st1 := [(.int x0), (.ref 9)]) (mem1 := m) rfl ?_
    refine it_V.call it_cd197 it_m197 rfl it_m72 [(.ref 9), (.int x0)] [] rfl rfl ⟨Nat.le_of_ble_eq_true rfl, Nat.le_of_ble_eq_true rfl, Nat.le_of_ble_eq_true rfl, Nat.le_of_ble_eq_true rfl, rfl⟩ (s_72 kc x0 m _ h) ?_
    rintro _ m3 ⟨r2, rfl, hr2, h⟩
    rcases r2 with _ | q4
    · skip
      refine it_V.at (pc1 := 18) (ls1 := [some (.ref 0), some (.int x0), some (.int x1), none]) (st1 := [.null]) (mem1 := m3) rfl rfl rfl rfl ?_
      have h := h.1 rfl
      refine it_V.sN it_cd197 it_m197 4 (pc1 := 24) (ls1 := [some (.ref 0), some (.int x0), some (.int x1), some .null]) (st1 := [(.int (-1 : Int32))]) (mem1 := m3) rfl ?_
      exact it_V.ret it_cd197 it_m197 rfl rfl ⟨_, rfl, h⟩
    · skip
      refine it_V.at (pc1 := 18) (ls1 := [some (.ref 0), some (.int x0), some (.int x1), none]) (st1 := [(.ref q4)]) (mem1 := m3) rfl rfl rfl rfl ?_
      have h := h.2 q4 rfl
      refine it_V.sN it_cd197 it_m197 4 (pc1 := 26) (ls1 := [some (.ref 0), some (.int x0), some (.int x1), some (.ref q4)]) (st1 := [(.ref q4)]) (mem1 := m3) rfl ?_
      refine it_V.getP it_cd197 it_m197 rfl (hr2 q4 rfl).1 rfl ?_
      refine it_V.at (pc1 := 29) (ls1 := [some (.ref 0), some (.int x0), some (.int x1), some (.ref q4)]) (st1 := [(.int (m3 q4 10))]) (mem1 := m3) rfl rfl rfl rfl ?_
      refine it_V.sN it_cd197 it_m197 2 (pc1 := (if (m3 q4 10) = x1 then 33 else 35)) (ls1 := [some (.ref 0), some (.int x0), some (.int x1), some (.ref q4)]) (st1 := []) (mem1 := m3) rfl ?_
      refine it_V.ite (fun c5 => ?_) (fun c5 => ?_)
      · have h := h.1 c5
        refine it_V.sN it_cd197 it_m197 1 (pc1 := 34) (ls1 := [some (.ref 0), some (.int x0), some (.int x1), some (.ref q4)]) (st1 := [(.int (0 : Int32))]) (mem1 := m3) rfl ?_
        exact it_V.ret it_cd197 it_m197 rfl rfl ⟨_, rfl, h⟩
      · have h := h.2 c5
        refine it_V.sN it_cd197 it_m197 2 (pc1 := 37) (ls1 := [some (.ref 0), some (.int x0), some (.int x1), some (.ref q4)]) (st1 := [(.int x1), (.ref q4)]) (mem1 := m3) rfl ?_
        obtain ⟨g6, h⟩ := h
        refine it_V.putP it_cd197 it_m197 rfl (hr2 q4 rfl).1 rfl rfl rfl (Or.inr g6) ?_
        refine it_V.at (pc1 := 40) (ls1 := [some (.ref 0), some (.int x0), some (.int x1), some (.ref q4)]) (st1 := []) (mem1 := (it_sv m3 q4 10 x1)) rfl rfl rfl rfl ?_
        refine it_V.sN it_cd197 it_m197 1 (pc1 := 41) (ls1 := [some (.ref 0), some (.int x0), some (.int x1), some (.ref q4)]) (st1 := [(.int (1 : Int32))]) (mem1 := (it_sv m3 q4 10 x1)) rfl ?_
        exact it_V.ret it_cd197 it_m197 rfl rfl ⟨_, rfl, h⟩
set_option maxRecDepth 100000 in
set_option maxHeartbeats 4000000 in
theorem s_198 (kc : it_Kc) (x0 : Int32) (m : it_Me) (Φ : Int32 → it_Me → Prop) (h : w_198 kc x0 m Φ) : it_V kc it_sh0 198 0 (it_loc0 [(.ref 0), (.int x0)] 3) [] m (it_Pi Φ) := by
  rw [w_198] at h
  refine it_V.at (pc1 := 0) (ls1 := [some (.ref 0), some (.int x0), none]) (st1 := []) (mem1 := m) rfl rfl rfl rfl ?_
  refine it_V.sN it_cd198 it_m198 3 (pc1 := (if (m 0 10) = 0 then 7 else 10)) (ls1 := [some (.ref 0), some (.int x0), none]) (st1 := []) (mem1 := m) rfl ?_
  refine it_V.ite (fun c1 => ?_) (fun c1 => ?_)
  · have h := h.1 c1
    refine it_V.sN it_cd198 it_m198 1 (pc1 := 9) (ls1 := [some (.ref 0), some (.int x0), none]) (st1 := [(.int (-3 : Int32))]) (mem1 := m) rfl ?_
    exact it_V.ret it_cd198 it_m198 rfl rfl ⟨_, rfl, h⟩
  · have h := h.2 c1
    refine it_V.sN it_cd198 it_m198 3 (pc1 := 15) (ls1 := [some (.ref 0), some (.int x0), none]) (st1 := [(.int x0), (.ref 9)]) (mem1 := m) rfl ?_
    refine it_V.call it_cd198 it_m198 rfl it_m72 [(.ref 9), (.int x0)] [] rfl rfl ⟨Nat.le_of_ble_eq_true rfl, Nat.le_of_ble_eq_true rfl, Nat.le_of_ble_eq_true rfl, Nat.le_of_ble_eq_true rfl, rfl⟩ (s_72 kc x0 m _ h) ?_
    rintro _ m3 ⟨r2, rfl, hr2, h⟩
    rcases r2 with _ | q4
    · skip
      refine it_V.at (pc1 := 18) (ls1 := [some (.ref 0), some (.int x0), none]) (st1 := [.null]) (mem1 := m3) rfl rfl rfl rfl ?_
      have h := h.1 rfl
      refine it_V.sN it_cd198 it_m198 4 (pc1 := 24) (ls1 := [some (.ref 0), some (.int x0), some .null]) (st1 := [(.int (-1 : Int32))]) (mem1 := m3) rfl ?_
      exact it_V.ret it_cd198 it_m198 rfl rfl ⟨_, rfl, h⟩
    · skip
      refine it_V.at (pc1 := 18) (ls1 := [some (.ref 0), some (.int x0), none]) (st1 := [(.ref q4)]) (mem1 := m3) rfl rfl rfl rfl ?_
      have h := h.2 q4 rfl
      refine it_V.sN it_cd198 it_m198 6 (pc1 := 30) (ls1 := [some (.ref 0), some (.int x0), some (.ref q4)]) (st1 := [(.ref q4), (.ref 9)]) (mem1 := m3) rfl ?_
      refine it_V.call it_cd198 it_m198 rfl it_m76 [(.ref 9), (.ref q4)] [] rfl rfl ⟨Nat.le_of_ble_eq_true rfl, Nat.le_of_ble_eq_true rfl, Nat.le_of_ble_eq_true rfl, Nat.le_of_ble_eq_true rfl, rfl⟩ (s_76 kc q4 (hr2 q4 rfl) m3 _ h) ?_
      rintro _ m5 ⟨rfl, h⟩
      refine it_V.at (pc1 := 33) (ls1 := [some (.ref 0), some (.int x0), some (.ref q4)]) (st1 := []) (mem1 := m5) rfl rfl rfl rfl ?_
      refine it_V.sN it_cd198 it_m198 1 (pc1 := 34) (ls1 := [some (.ref 0), some (.int x0), some (.ref q4)]) (st1 := [(.int (1 : Int32))]) (mem1 := m5) rfl ?_
      exact it_V.ret it_cd198 it_m198 rfl rfl ⟨_, rfl, h⟩
set_option maxRecDepth 100000 in
set_option maxHeartbeats 4000000 in
theorem s_199_40 (kc : it_Kc) (Φ : Int32 → it_Me → Prop) (u0 : Int32) (m : it_Me) (h : w_199_40 kc Φ u0 m) : it_V kc it_sh0 199 40 [none, none] [(.int u0)] m (it_Pi Φ) := by
  rw [w_199_40] at h
  exact it_V.ret it_cd199 it_m199 rfl rfl ⟨_, rfl, h⟩
set_option maxRecDepth 100000 in
set_option maxHeartbeats 4000000 in
theorem s_199_88 (kc : it_Kc) (Φ : Int32 → it_Me → Prop) (u0 : Int32) (m : it_Me) (h : w_199_88 kc Φ u0 m) : it_V kc it_sh0 199 88 [none, none] [(.int u0)] m (it_Pi Φ) := by
  rw [w_199_88] at h
  exact it_V.ret it_cd199 it_m199 rfl rfl ⟨_, rfl, h⟩
set_option maxRecDepth 100000 in
set_option maxHeartbeats 4000000 in
theorem s_199_86 (kc : it_Kc) (Φ : Int32 → it_Me → Prop) (m : it_Me) (h : w_199_86 kc Φ m) : it_V kc it_sh0 199 86 [none, none] [] m (it_Pi Φ) := by
  rw [w_199_86] at h
  refine it_V.sN it_cd199 it_m199 1 (pc1 := 88) (ls1 := [none, none]) (st1 := [(.int (-2 : Int32))]) (mem1 := m) rfl ?_
  refine it_V.weak (l := [none, none]) trivial ?_
  exact s_199_88 kc Φ (-2 : Int32) m h
set_option maxRecDepth 100000 in
set_option maxHeartbeats 4000000 in
theorem s_199 (kc : it_Kc) (x0 : Int32) (m : it_Me) (Φ : Int32 → it_Me → Prop) (h : w_199 kc x0 m Φ) : it_V kc it_sh0 199 0 (it_loc0 [(.ref 0), (.int x0)] 2) [] m (it_Pi Φ) := by
  rw [w_199] at h
  refine it_V.at (pc1 := 0) (ls1 := [some (.ref 0), some (.int x0)]) (st1 := []) (mem1 := m) rfl rfl rfl rfl ?_
  refine it_V.sN it_cd199 it_m199 1 (pc1 := 1) (ls1 := [some (.ref 0), some (.int x0)]) (st1 := [(.int x0)]) (mem1 := m) rfl ?_
  refine it_V.sN it_cd199 it_m199 1 (pc1 := (if x0 = (0 : Int32) then 28 else (if x0 = (1 : Int32) then 41 else (if x0 = (2 : Int32) then 49 else 57)))) (ls1 := [some (.ref 0), some (.int x0)]) (st1 := []) (mem1 := m) rfl ?_
  refine it_V.ite (fun c1 => ?_) (fun c1 => ?_)
  · have h := h.1 c1
    refine it_V.sN it_cd199 it_m199 3 (pc1 := (if (m 0 10) = 0 then 39 else 35)) (ls1 := [some (.ref 0), some (.int x0)]) (st1 := []) (mem1 := m) rfl ?_
    refine it_V.ite (fun c2 => ?_) (fun c2 => ?_)
    · have h := h.1 c2
      refine it_V.sN it_cd199 it_m199 1 (pc1 := 40) (ls1 := [some (.ref 0), some (.int x0)]) (st1 := [(.int (0 : Int32))]) (mem1 := m) rfl ?_
      refine it_V.weak (l := [none, none]) trivial ?_
      exact s_199_40 kc Φ (0 : Int32) m h
    · have h := h.2 c2
      refine it_V.sN it_cd199 it_m199 2 (pc1 := 40) (ls1 := [some (.ref 0), some (.int x0)]) (st1 := [(.int (1 : Int32))]) (mem1 := m) rfl ?_
      refine it_V.weak (l := [none, none]) trivial ?_
      exact s_199_40 kc Φ (1 : Int32) m h
  · have h := h.2 c1
    refine it_V.ite (fun c3 => ?_) (fun c3 => ?_)
    · have h := h.1 c3
      refine it_V.sN it_cd199 it_m199 3 (pc1 := 48) (ls1 := [some (.ref 0), some (.int x0)]) (st1 := [(.int (m 9 7))]) (mem1 := m) rfl ?_
      exact it_V.ret it_cd199 it_m199 rfl rfl ⟨_, rfl, h⟩
    · have h := h.2 c3
      refine it_V.ite (fun c4 => ?_) (fun c4 => ?_)
      · have h := h.1 c4
        refine it_V.sN it_cd199 it_m199 3 (pc1 := 56) (ls1 := [some (.ref 0), some (.int x0)]) (st1 := [(.int (m 4 0))]) (mem1 := m) rfl ?_
        exact it_V.ret it_cd199 it_m199 rfl rfl ⟨_, rfl, h⟩
      · have h := h.2 c4
        refine it_V.sN it_cd199 it_m199 3 (pc1 := (if x0 ≤ (2 : Int32) then 86 else 62)) (ls1 := [some (.ref 0), some (.int x0)]) (st1 := []) (mem1 := m) rfl ?_
        refine it_V.ite (fun c5 => ?_) (fun c5 => ?_)
        · have h := h.1 c5
          refine it_V.weak (l := [none, none]) trivial ?_
          exact s_199_86 kc Φ m h
        · have h := h.2 c5
          refine it_V.sN it_cd199 it_m199 6 (pc1 := (if (12 : Int32) ≤ x0 then 86 else 74)) (ls1 := [some (.ref 0), some (.int x0)]) (st1 := []) (mem1 := m) rfl ?_
          refine it_V.ite (fun c6 => ?_) (fun c6 => ?_)
          · have h := h.1 c6
            refine it_V.weak (l := [none, none]) trivial ?_
            exact s_199_86 kc Φ m h
          · have h := h.2 c6
            refine it_V.sN it_cd199 it_m199 4 (pc1 := 82) (ls1 := [some (.ref 0), some (.int x0)]) (st1 := [(.int x0), (.ref 5)]) (mem1 := m) rfl ?_
            obtain ⟨g7, h⟩ := h
            refine it_V.iald it_cd199 it_m199 rfl ((⟨rfl, by decide⟩ : it_isR 5 12)).2 ((⟨rfl, by decide⟩ : it_isR 5 12)).1 g7 ?_
            refine it_V.at (pc1 := 83) (ls1 := [some (.ref 0), some (.int x0)]) (st1 := [(.int (m 5 (Int32.toNatClampNeg x0)))]) (mem1 := m) rfl rfl rfl rfl ?_
            refine it_V.sN it_cd199 it_m199 1 (pc1 := 88) (ls1 := [some (.ref 0), some (.int x0)]) (st1 := [(.int (m 5 (Int32.toNatClampNeg x0)))]) (mem1 := m) rfl ?_
            refine it_V.weak (l := [none, none]) trivial ?_
            exact s_199_88 kc Φ (m 5 (Int32.toNatClampNeg x0)) m h
set_option maxRecDepth 100000 in
set_option maxHeartbeats 4000000 in
theorem s_200_84 (kc : it_Kc) (Φ : Int32 → it_Me → Prop) (u0 : Int32) (m : it_Me) (h : w_200_84 kc Φ u0 m) : it_V kc it_sh0 200 84 [none, none, none, none] [(.int u0)] m (it_Pi Φ) := by
  rw [w_200_84] at h
  exact it_V.ret it_cd200 it_m200 rfl rfl ⟨_, rfl, h⟩
set_option maxRecDepth 100000 in
set_option maxHeartbeats 4000000 in
theorem s_200_105 (kc : it_Kc) (Φ : Int32 → it_Me → Prop) (u0 : Int32) (m : it_Me) (h : w_200_105 kc Φ u0 m) : it_V kc it_sh0 200 105 [none, none, none, none] [(.int u0)] m (it_Pi Φ) := by
  rw [w_200_105] at h
  exact it_V.ret it_cd200 it_m200 rfl rfl ⟨_, rfl, h⟩
set_option maxRecDepth 100000 in
set_option maxHeartbeats 4000000 in
theorem s_200_95 (kc : it_Kc) (Φ : Int32 → it_Me → Prop) (m : it_Me) (h : w_200_95 kc Φ m) : it_V kc it_sh0 200 95 [none, none, none, none] [] m (it_Pi Φ) := by
  rw [w_200_95] at h
  refine it_V.sN it_cd200 it_m200 2 (pc1 := 105) (ls1 := [none, none, none, none]) (st1 := [(.int (-2 : Int32))]) (mem1 := m) rfl ?_
  refine it_V.weak (l := [none, none, none, none]) trivial ?_
  exact s_200_105 kc Φ (-2 : Int32) m h
set_option maxRecDepth 100000 in
set_option maxHeartbeats 4000000 in
theorem s_200 (kc : it_Kc) (x0 : Int32) (x1 : Int32) (m : it_Me) (Φ : Int32 → it_Me → Prop) (h : w_200 kc x0 x1 m Φ) : it_V kc it_sh0 200 0 (it_loc0 [(.ref 0), (.int x0), (.int x1)] 4) [] m (it_Pi Φ) := by
  rw [w_200] at h
  refine it_V.at (pc1 := 0) (ls1 := [some (.ref 0), some (.int x0), some (.int x1), none]) (st1 := []) (mem1 := m) rfl rfl rfl rfl ?_
  refine it_V.sN it_cd200 it_m200 3 (pc1 := (if (m 0 10) = 0 then 7 else 10)) (ls1 := [some (.ref 0), some (.int x0), some (.int x1), none]) (st1 := []) (mem1 := m) rfl ?_
  refine it_V.ite (fun c1 => ?_) (fun c1 => ?_)
  · have h := h.1 c1
    refine it_V.sN it_cd200 it_m200 1 (pc1 := 9) (ls1 := [some (.ref 0), some (.int x0), some (.int x1), none]) (st1 := [(.int (-3 : Int32))]) (mem1 := m) rfl ?_
    exact it_V.ret it_cd200 it_m200 rfl rfl ⟨_, rfl, h⟩
  · have h := h.2 c1
    refine it_V.sN it_cd200 it_m200 3 (pc1 := 15) (ls1 := [some (.ref 0), some (.int x0), some (.int x1), none]) (st1 := [(.int x0), (.ref 9)]) (mem1 := m) rfl ?_
    refine it_V.call it_cd200 it_m200 rfl it_m72 [(.ref 9), (.int x0)] [] rfl rfl ⟨Nat.le_of_ble_eq_true rfl, Nat.le_of_ble_eq_true rfl, Nat.le_of_ble_eq_true rfl, Nat.le_of_ble_eq_true rfl, rfl⟩ (s_72 kc x0 m _ h) ?_
    rintro _ m3 ⟨r2, rfl, hr2, h⟩
    rcases r2 with _ | q4
    · skip
      refine it_V.at (pc1 := 18) (ls1 := [some (.ref 0), some (.int x0), some (.int x1), none]) (st1 := [.null]) (mem1 := m3) rfl rfl rfl rfl ?_
      have h := h.1 rfl
      refine it_V.sN it_cd200 it_m200 4 (pc1 := 24) (ls1 := [some (.ref 0), some (.int x0), some (.int x1), some .null]) (st1 := [(.int (-1 : Int32))]) (mem1 := m3) rfl ?_
      exact it_V.ret it_cd200 it_m200 rfl rfl ⟨_, rfl, h⟩
    · skip
      refine it_V.at (pc1 := 18) (ls1 := [some (.ref 0), some (.int x0), some (.int x1), none]) (st1 := [(.ref q4)]) (mem1 := m3) rfl rfl rfl rfl ?_
      have h := h.2 q4 rfl
      refine it_V.sN it_cd200 it_m200 4 (pc1 := 26) (ls1 := [some (.ref 0), some (.int x0), some (.int x1), some (.ref q4)]) (st1 := [(.int x1)]) (mem1 := m3) rfl ?_
      refine it_V.sN it_cd200 it_m200 1 (pc1 := (if x1 = (12 : Int32) then 52 else (if x1 = (14 : Int32) then 65 else 85))) (ls1 := [some (.ref 0), some (.int x0), some (.int x1), some (.ref q4)]) (st1 := []) (mem1 := m3) rfl ?_
      refine it_V.ite (fun c5 => ?_) (fun c5 => ?_)
      · have h := h.1 c5
        refine it_V.sN it_cd200 it_m200 4 (pc1 := 60) (ls1 := [some (.ref 0), some (.int x0), some (.int x1), some (.ref q4)]) (st1 := [(.ref q4), (.ref 55)]) (mem1 := m3) rfl ?_
        refine it_V.getP it_cd200 it_m200 rfl (hr2 q4 rfl).1 rfl ?_
        refine it_V.at (pc1 := 63) (ls1 := [some (.ref 0), some (.int x0), some (.int x1), some (.ref q4)]) (st1 := [(.int (m3 q4 0)), (.ref 55)]) (mem1 := m3) rfl rfl rfl rfl ?_
        obtain ⟨g6, h⟩ := h
        refine it_V.iald it_cd200 it_m200 rfl ((⟨rfl, by decide⟩ : it_isR 55 8)).2 ((⟨rfl, by decide⟩ : it_isR 55 8)).1 g6 ?_
        refine it_V.at (pc1 := 64) (ls1 := [some (.ref 0), some (.int x0), some (.int x1), some (.ref q4)]) (st1 := [(.int (m3 55 (Int32.toNatClampNeg (m3 q4 0))))]) (mem1 := m3) rfl rfl rfl rfl ?_
        exact it_V.ret it_cd200 it_m200 rfl rfl ⟨_, rfl, h⟩
      · have h := h.2 c5
        refine it_V.ite (fun c7 => ?_) (fun c7 => ?_)
        · have h := h.1 c7
          refine it_V.sN it_cd200 it_m200 4 (pc1 := 73) (ls1 := [some (.ref 0), some (.int x0), some (.int x1), some (.ref q4)]) (st1 := [(.ref q4), (.int (m3 54 4))]) (mem1 := m3) rfl ?_
          refine it_V.getP it_cd200 it_m200 rfl (hr2 q4 rfl).1 rfl ?_
          refine it_V.at (pc1 := 76) (ls1 := [some (.ref 0), some (.int x0), some (.int x1), some (.ref q4)]) (st1 := [(.int (m3 q4 0)), (.int (m3 54 4))]) (mem1 := m3) rfl rfl rfl rfl ?_
          refine it_V.sN it_cd200 it_m200 1 (pc1 := (if (m3 54 4) = (m3 q4 0) then 79 else 83)) (ls1 := [some (.ref 0), some (.int x0), some (.int x1), some (.ref q4)]) (st1 := []) (mem1 := m3) rfl ?_
          refine it_V.ite (fun c8 => ?_) (fun c8 => ?_)
          · have h := h.1 c8
            refine it_V.sN it_cd200 it_m200 2 (pc1 := 84) (ls1 := [some (.ref 0), some (.int x0), some (.int x1), some (.ref q4)]) (st1 := [(.int (1 : Int32))]) (mem1 := m3) rfl ?_
            refine it_V.weak (l := [none, none, none, none]) trivial ?_
            exact s_200_84 kc Φ (1 : Int32) m3 h
          · have h := h.2 c8
            refine it_V.sN it_cd200 it_m200 1 (pc1 := 84) (ls1 := [some (.ref 0), some (.int x0), some (.int x1), some (.ref q4)]) (st1 := [(.int (0 : Int32))]) (mem1 := m3) rfl ?_
            refine it_V.weak (l := [none, none, none, none]) trivial ?_
            exact s_200_84 kc Φ (0 : Int32) m3 h
        · have h := h.2 c7
          refine it_V.sN it_cd200 it_m200 2 (pc1 := (if x1 < 0 then 95 else 89)) (ls1 := [some (.ref 0), some (.int x0), some (.int x1), some (.ref q4)]) (st1 := []) (mem1 := m3) rfl ?_
          refine it_V.ite (fun c9 => ?_) (fun c9 => ?_)
          · have h := h.1 c9
            refine it_V.weak (l := [none, none, none, none]) trivial ?_
            exact s_200_95 kc Φ m3 h
          · have h := h.2 c9
            refine it_V.sN it_cd200 it_m200 3 (pc1 := (if x1 ≤ (14 : Int32) then 100 else 95)) (ls1 := [some (.ref 0), some (.int x0), some (.int x1), some (.ref q4)]) (st1 := []) (mem1 := m3) rfl ?_
            refine it_V.ite (fun c10 => ?_) (fun c10 => ?_)
            · have h := h.1 c10
              refine it_V.sN it_cd200 it_m200 2 (pc1 := 102) (ls1 := [some (.ref 0), some (.int x0), some (.int x1), some (.ref q4)]) (st1 := [(.int x1), (.ref q4)]) (mem1 := m3) rfl ?_
              refine it_V.call it_cd200 it_m200 rfl it_m135 [(.ref q4), (.int x1)] [] rfl rfl ⟨Nat.le_of_ble_eq_true rfl, Nat.le_of_ble_eq_true rfl, Nat.le_of_ble_eq_true rfl, Nat.le_of_ble_eq_true rfl, (it_recvP (hr2 q4 rfl).1)⟩ (s_135 kc q4 x1 (hr2 q4 rfl) m3 _ h) ?_
              rintro _ m12 ⟨r11, rfl, h⟩
              refine it_V.at (pc1 := 105) (ls1 := [some (.ref 0), some (.int x0), some (.int x1), some (.ref q4)]) (st1 := [(.int r11)]) (mem1 := m12) rfl rfl rfl rfl ?_
              refine it_V.weak (l := [none, none, none, none]) trivial ?_
              exact s_200_105 kc Φ r11 m12 h
            · have h := h.2 c10
              refine it_V.weak (l := [none, none, none, none]) trivial ?_
              exact s_200_95 kc Φ m3 h
set_option maxRecDepth 100000 in
set_option maxHeartbeats 4000000 in
theorem s_201_43 (kc : it_Kc) (Φ : Int32 → it_Me → Prop) (u0 : Int32) (m : it_Me) (h : w_201_43 kc Φ u0 m) : it_V kc it_sh0 201 43 [none, none, none, none] [(.int u0)] m (it_Pi Φ) := by
  rw [w_201_43] at h
  exact it_V.ret it_cd201 it_m201 rfl rfl ⟨_, rfl, h⟩
set_option maxRecDepth 100000 in
set_option maxHeartbeats 4000000 in
theorem s_201_33 (kc : it_Kc) (Φ : Int32 → it_Me → Prop) (m : it_Me) (h : w_201_33 kc Φ m) : it_V kc it_sh0 201 33 [none, none, none, none] [] m (it_Pi Φ) := by
  rw [w_201_33] at h
  refine it_V.sN it_cd201 it_m201 2 (pc1 := 43) (ls1 := [none, none, none, none]) (st1 := [(.int (-1 : Int32))]) (mem1 := m) rfl ?_
  refine it_V.weak (l := [none, none, none, none]) trivial ?_
  exact s_201_43 kc Φ (-1 : Int32) m h
set_option maxRecDepth 100000 in
set_option maxHeartbeats 4000000 in
theorem s_201 (kc : it_Kc) (x0 : Int32) (x1 : Int32) (m : it_Me) (Φ : Int32 → it_Me → Prop) (h : w_201 kc x0 x1 m Φ) : it_V kc it_sh0 201 0 (it_loc0 [(.ref 0), (.int x0), (.int x1)] 4) [] m (it_Pi Φ) := by
  rw [w_201] at h
  refine it_V.at (pc1 := 0) (ls1 := [some (.ref 0), some (.int x0), some (.int x1), none]) (st1 := []) (mem1 := m) rfl rfl rfl rfl ?_
  refine it_V.sN it_cd201 it_m201 3 (pc1 := (if (m 0 10) = 0 then 7 else 10)) (ls1 := [some (.ref 0), some (.int x0), some (.int x1), none]) (st1 := []) (mem1 := m) rfl ?_
  refine it_V.ite (fun c1 => ?_) (fun c1 => ?_)
  · have h := h.1 c1
    refine it_V.sN it_cd201 it_m201 1 (pc1 := 9) (ls1 := [some (.ref 0), some (.int x0), some (.int x1), none]) (st1 := [(.int (-3 : Int32))]) (mem1 := m) rfl ?_
    exact it_V.ret it_cd201 it_m201 rfl rfl ⟨_, rfl, h⟩
  · have h := h.2 c1
    refine it_V.sN it_cd201 it_m201 3 (pc1 := 15) (ls1 := [some (.ref 0), some (.int x0), some (.int x1), none]) (st1 := [(.int x0), (.ref 9)]) (mem1 := m) rfl ?_
    refine it_V.call it_cd201 it_m201 rfl it_m72 [(.ref 9), (.int x0)] [] rfl rfl ⟨Nat.le_of_ble_eq_true rfl, Nat.le_of_ble_eq_true rfl, Nat.le_of_ble_eq_true rfl, Nat.le_of_ble_eq_true rfl, rfl⟩ (s_72 kc x0 m _ h) ?_
    rintro _ m3 ⟨r2, rfl, hr2, h⟩
    rcases r2 with _ | q4
    · skip
      refine it_V.at (pc1 := 18) (ls1 := [some (.ref 0), some (.int x0), some (.int x1), none]) (st1 := [.null]) (mem1 := m3) rfl rfl rfl rfl ?_
      have h := h.1 rfl
      refine it_V.sN it_cd201 it_m201 3 (pc1 := 33) (ls1 := [some (.ref 0), some (.int x0), some (.int x1), some .null]) (st1 := []) (mem1 := m3) rfl ?_
      refine it_V.weak (l := [none, none, none, none]) trivial ?_
      exact s_201_33 kc Φ m3 h
    · skip
      refine it_V.at (pc1 := 18) (ls1 := [some (.ref 0), some (.int x0), some (.int x1), none]) (st1 := [(.ref q4)]) (mem1 := m3) rfl rfl rfl rfl ?_
      have h := h.2 q4 rfl
      refine it_V.sN it_cd201 it_m201 5 (pc1 := (if x1 < 0 then 33 else 27)) (ls1 := [some (.ref 0), some (.int x0), some (.int x1), some (.ref q4)]) (st1 := []) (mem1 := m3) rfl ?_
      refine it_V.ite (fun c5 => ?_) (fun c5 => ?_)
      · have h := h.1 c5
        refine it_V.weak (l := [none, none, none, none]) trivial ?_
        exact s_201_33 kc Φ m3 h
      · have h := h.2 c5
        refine it_V.sN it_cd201 it_m201 3 (pc1 := (if x1 ≤ (31 : Int32) then 37 else 33)) (ls1 := [some (.ref 0), some (.int x0), some (.int x1), some (.ref q4)]) (st1 := []) (mem1 := m3) rfl ?_
        refine it_V.ite (fun c6 => ?_) (fun c6 => ?_)
        · have h := h.1 c6
          refine it_V.sN it_cd201 it_m201 1 (pc1 := 38) (ls1 := [some (.ref 0), some (.int x0), some (.int x1), some (.ref q4)]) (st1 := [(.ref q4)]) (mem1 := m3) rfl ?_
          refine it_V.getP it_cd201 it_m201 rfl (hr2 q4 rfl).1 rfl ?_
          refine it_V.at (pc1 := 41) (ls1 := [some (.ref 0), some (.int x0), some (.int x1), some (.ref q4)]) (st1 := [(.ref (q4 + 2))]) (mem1 := m3) rfl rfl rfl rfl ?_
          refine it_V.sN it_cd201 it_m201 1 (pc1 := 42) (ls1 := [some (.ref 0), some (.int x0), some (.int x1), some (.ref q4)]) (st1 := [(.int x1), (.ref (q4 + 2))]) (mem1 := m3) rfl ?_
          obtain ⟨g7, h⟩ := h
          refine it_V.iald it_cd201 it_m201 rfl ((hr2 q4 rfl).2.2.1).2 ((hr2 q4 rfl).2.2.1).1 g7 ?_
          refine it_V.at (pc1 := 43) (ls1 := [some (.ref 0), some (.int x0), some (.int x1), some (.ref q4)]) (st1 := [(.int (m3 (q4 + 2) (Int32.toNatClampNeg x1)))]) (mem1 := m3) rfl rfl rfl rfl ?_
          refine it_V.weak (l := [none, none, none, none]) trivial ?_
          exact s_201_43 kc Φ (m3 (q4 + 2) (Int32.toNatClampNeg x1)) m3 h
        · have h := h.2 c6
          refine it_V.weak (l := [none, none, none, none]) trivial ?_
          exact s_201_33 kc Φ m3 h
set_option maxRecDepth 100000 in
set_option maxHeartbeats 4000000 in
theorem s_202_12 (kc : it_Kc) (Φ : Int32 → it_Me → Prop) (m : it_Me) (h : w_202_12 kc Φ m) : it_V kc it_sh0 202 12 [none, none] [] m (it_Pi Φ) := by
  rw [w_202_12] at h
  refine it_V.sN it_cd202 it_m202 1 (pc1 := 13) (ls1 := [none, none]) (st1 := [(.int (-1 : Int32))]) (mem1 := m) rfl ?_
  exact it_V.ret it_cd202 it_m202 rfl rfl ⟨_, rfl, h⟩
set_option maxRecDepth 100000 in
set_option maxHeartbeats 4000000 in
theorem s_202_27 (kc : it_Kc) (Φ : Int32 → it_Me → Prop) (v1 : Int32) (m : it_Me) (h : w_202_27 kc Φ v1 m) : it_V kc it_sh0 202 27 [some (.ref 0), some (.int v1)] [] m (it_Pi Φ) := by
  rw [w_202_27] at h
  refine it_V.sN it_cd202 it_m202 3 (pc1 := 32) (ls1 := [some (.ref 0), some (.int v1)]) (st1 := [(.int v1), (.ref 1)]) (mem1 := m) rfl ?_
  refine it_V.call it_cd202 it_m202 rfl it_m16 [(.ref 1), (.int v1)] [] rfl rfl ⟨Nat.le_of_ble_eq_true rfl, Nat.le_of_ble_eq_true rfl, Nat.le_of_ble_eq_true rfl, Nat.le_of_ble_eq_true rfl, rfl⟩ (s_16 kc v1 m _ h) ?_
  rintro _ m2 ⟨r1, rfl, h⟩
  refine it_V.at (pc1 := 35) (ls1 := [some (.ref 0), some (.int v1)]) (st1 := [(.int r1)]) (mem1 := m2) rfl rfl rfl rfl ?_
  exact it_V.ret it_cd202 it_m202 rfl rfl ⟨_, rfl, h⟩
set_option maxRecDepth 100000 in
set_option maxHeartbeats 4000000 in
theorem s_202 (kc : it_Kc) (x0 : Int32) (m : it_Me) (Φ : Int32 → it_Me → Prop) (h : w_202 kc x0 m Φ) : it_V kc it_sh0 202 0 (it_loc0 [(.ref 0), (.int x0)] 2) [] m (it_Pi Φ) := by
  rw [w_202] at h
  refine it_V.at (pc1 := 0) (ls1 := [some (.ref 0), some (.int x0)]) (st1 := []) (mem1 := m) rfl rfl rfl rfl ?_
  refine it_V.sN it_cd202 it_m202 3 (pc1 := (if x0 < (65536 : Int32) then 12 else 6)) (ls1 := [some (.ref 0), some (.int x0)]) (st1 := []) (mem1 := m) rfl ?_
  refine it_V.ite (fun c1 => ?_) (fun c1 => ?_)
  · have h := h.1 c1
    refine it_V.weak (l := [none, none]) trivial ?_
    exact s_202_12 kc Φ m h
  · have h := h.2 c1
    refine it_V.sN it_cd202 it_m202 3 (pc1 := (if x0 < (196608 : Int32) then 14 else 12)) (ls1 := [some (.ref 0), some (.int x0)]) (st1 := []) (mem1 := m) rfl ?_
    refine it_V.ite (fun c2 => ?_) (fun c2 => ?_)
    · have h := h.1 c2
      refine it_V.sN it_cd202 it_m202 3 (pc1 := (if x0 < (131072 : Int32) then 27 else 20)) (ls1 := [some (.ref 0), some (.int x0)]) (st1 := []) (mem1 := m) rfl ?_
      refine it_V.ite (fun c3 => ?_) (fun c3 => ?_)
      · have h := h.1 c3
        exact s_202_27 kc Φ x0 m h
      · have h := h.2 c3
        refine it_V.sN it_cd202 it_m202 2 (pc1 := 24) (ls1 := [some (.ref 0), some (.int x0)]) (st1 := [(.ref 9)]) (mem1 := m) rfl ?_
        refine it_V.call it_cd202 it_m202 rfl it_m92 [(.ref 9)] [] rfl rfl ⟨Nat.le_of_ble_eq_true rfl, Nat.le_of_ble_eq_true rfl, Nat.le_of_ble_eq_true rfl, Nat.le_of_ble_eq_true rfl, rfl⟩ (s_92 kc m _ h) ?_
        rintro _ m4 ⟨rfl, h⟩
        refine it_V.at (pc1 := 27) (ls1 := [some (.ref 0), some (.int x0)]) (st1 := []) (mem1 := m4) rfl rfl rfl rfl ?_
        exact s_202_27 kc Φ x0 m4 h
    · have h := h.2 c2
      refine it_V.weak (l := [none, none]) trivial ?_
      exact s_202_12 kc Φ m h
set_option maxRecDepth 100000 in
set_option maxHeartbeats 4000000 in
theorem s_203_35 (kc : it_Kc) (Φ : Int32 → it_Me → Prop) (m : it_Me) (h : w_203_35 kc Φ m) : it_V kc it_sh0 203 35 [none, none, none, none, none] [] m (it_Pi Φ) := by
  rw [w_203_35] at h
  refine it_V.sN it_cd203 it_m203 1 (pc1 := 36) (ls1 := [none, none, none, none, none]) (st1 := [(.int (-1 : Int32))]) (mem1 := m) rfl ?_
  exact it_V.ret it_cd203 it_m203 rfl rfl ⟨_, rfl, h⟩
set_option maxRecDepth 100000 in
set_option maxHeartbeats 4000000 in
theorem s_203_46 (kc : it_Kc) (Φ : Int32 → it_Me → Prop) (m : it_Me) (h : w_203_46 kc Φ m) : it_V kc it_sh0 203 46 [none, none, none, none, none] [] m (it_Pi Φ) := by
  rw [w_203_46] at h
  refine it_V.sN it_cd203 it_m203 1 (pc1 := 48) (ls1 := [none, none, none, none, none]) (st1 := [(.int (-2 : Int32))]) (mem1 := m) rfl ?_
  exact it_V.ret it_cd203 it_m203 rfl rfl ⟨_, rfl, h⟩
set_option maxRecDepth 100000 in
set_option maxHeartbeats 4000000 in
theorem s_203_83 (kc : it_Kc) (Φ : Int32 → it_Me → Prop) (u0 : Int32) (m : it_Me) (h : w_203_83 kc Φ u0 m) : it_V kc it_sh0 203 83 [none, none, none, none, none] [(.int u0)] m (it_Pi Φ) := by
  rw [w_203_83] at h
  exact it_V.ret it_cd203 it_m203 rfl rfl ⟨_, rfl, h⟩
set_option maxRecDepth 100000 in
set_option maxHeartbeats 4000000 in
theorem s_203 (kc : it_Kc) (x0 : Int32) (x1 : Int32) (x2 : Int32) (m : it_Me) (Φ : Int32 → it_Me → Prop) (h : w_203 kc x0 x1 x2 m Φ) : it_V kc it_sh0 203 0 (it_loc0 [(.ref 0), (.int x0), (.int x1), (.int x2)] 5) [] m (it_Pi Φ) := by
  rw [w_203] at h
  refine it_V.at (pc1 := 0) (ls1 := [some (.ref 0), some (.int x0), some (.int x1), some (.int x2), none]) (st1 := []) (mem1 := m) rfl rfl rfl rfl ?_
  refine it_V.sN it_cd203 it_m203 3 (pc1 := (if (m 0 10) = 0 then 7 else 10)) (ls1 := [some (.ref 0), some (.int x0), some (.int x1), some (.int x2), none]) (st1 := []) (mem1 := m) rfl ?_
  refine it_V.ite (fun c1 => ?_) (fun c1 => ?_)
  · have h := h.1 c1
    refine it_V.sN it_cd203 it_m203 1 (pc1 := 9) (ls1 := [some (.ref 0), some (.int x0), some (.int x1), some (.int x2), none]) (st1 := [(.int (-3 : Int32))]) (mem1 := m) rfl ?_
    exact it_V.ret it_cd203 it_m203 rfl rfl ⟨_, rfl, h⟩
  · have h := h.2 c1
    refine it_V.sN it_cd203 it_m203 3 (pc1 := 15) (ls1 := [some (.ref 0), some (.int x0), some (.int x1), some (.int x2), none]) (st1 := [(.int x0), (.ref 9)]) (mem1 := m) rfl ?_
    refine it_V.call it_cd203 it_m203 rfl it_m72 [(.ref 9), (.int x0)] [] rfl rfl ⟨Nat.le_of_ble_eq_true rfl, Nat.le_of_ble_eq_true rfl, Nat.le_of_ble_eq_true rfl, Nat.le_of_ble_eq_true rfl, rfl⟩ (s_72 kc x0 m _ h) ?_
    rintro _ m3 ⟨r2, rfl, hr2, h⟩
    rcases r2 with _ | q4
    · skip
      refine it_V.at (pc1 := 18) (ls1 := [some (.ref 0), some (.int x0), some (.int x1), some (.int x2), none]) (st1 := [.null]) (mem1 := m3) rfl rfl rfl rfl ?_
      have h := h.1 rfl
      refine it_V.sN it_cd203 it_m203 3 (pc1 := 35) (ls1 := [some (.ref 0), some (.int x0), some (.int x1), some (.int x2), some .null]) (st1 := []) (mem1 := m3) rfl ?_
      refine it_V.weak (l := [none, none, none, none, none]) trivial ?_
      exact s_203_35 kc Φ m3 h
    · skip
      refine it_V.at (pc1 := 18) (ls1 := [some (.ref 0), some (.int x0), some (.int x1), some (.int x2), none]) (st1 := [(.ref q4)]) (mem1 := m3) rfl rfl rfl rfl ?_
      have h := h.2 q4 rfl
      refine it_V.sN it_cd203 it_m203 5 (pc1 := (if x1 < 0 then 35 else 29)) (ls1 := [some (.ref 0), some (.int x0), some (.int x1), some (.int x2), some (.ref q4)]) (st1 := []) (mem1 := m3) rfl ?_
      refine it_V.ite (fun c5 => ?_) (fun c5 => ?_)
      · have h := h.1 c5
        refine it_V.weak (l := [none, none, none, none, none]) trivial ?_
        exact s_203_35 kc Φ m3 h
      · have h := h.2 c5
        refine it_V.sN it_cd203 it_m203 3 (pc1 := (if x1 ≤ (15 : Int32) then 37 else 35)) (ls1 := [some (.ref 0), some (.int x0), some (.int x1), some (.int x2), some (.ref q4)]) (st1 := []) (mem1 := m3) rfl ?_
        refine it_V.ite (fun c6 => ?_) (fun c6 => ?_)
        · have h := h.1 c6
          refine it_V.sN it_cd203 it_m203 2 (pc1 := (if x2 < 0 then 46 else 41)) (ls1 := [some (.ref 0), some (.int x0), some (.int x1), some (.int x2), some (.ref q4)]) (st1 := []) (mem1 := m3) rfl ?_
          refine it_V.ite (fun c7 => ?_) (fun c7 => ?_)
          · have h := h.1 c7
            refine it_V.weak (l := [none, none, none, none, none]) trivial ?_
            exact s_203_46 kc Φ m3 h
          · have h := h.2 c7
            refine it_V.sN it_cd203 it_m203 3 (pc1 := (if x2 ≤ (1 : Int32) then 49 else 46)) (ls1 := [some (.ref 0), some (.int x0), some (.int x1), some (.int x2), some (.ref q4)]) (st1 := []) (mem1 := m3) rfl ?_
            refine it_V.ite (fun c8 => ?_) (fun c8 => ?_)
            · have h := h.1 c8
              refine it_V.sN it_cd203 it_m203 3 (pc1 := 55) (ls1 := [some (.ref 0), some (.int x0), some (.int x1), some (.int x2), some (.ref q4)]) (st1 := [(.ref q4), (.ref 9)]) (mem1 := m3) rfl ?_
              refine it_V.call it_cd203 it_m203 rfl it_m94 [(.ref 9), (.ref q4)] [] rfl rfl ⟨Nat.le_of_ble_eq_true rfl, Nat.le_of_ble_eq_true rfl, Nat.le_of_ble_eq_true rfl, Nat.le_of_ble_eq_true rfl, rfl⟩ (s_94 kc q4 (hr2 q4 rfl) m3 _ h) ?_
              rintro _ m9 ⟨rfl, h⟩
              refine it_V.at (pc1 := 58) (ls1 := [some (.ref 0), some (.int x0), some (.int x1), some (.int x2), some (.ref q4)]) (st1 := []) (mem1 := m9) rfl rfl rfl rfl ?_
              refine it_V.sN it_cd203 it_m203 2 (pc1 := (if x2 = 0 then 62 else 74)) (ls1 := [some (.ref 0), some (.int x0), some (.int x1), some (.int x2), some (.ref q4)]) (st1 := []) (mem1 := m9) rfl ?_
              refine it_V.ite (fun c10 => ?_) (fun c10 => ?_)
              · have h := h.1 c10
                refine it_V.sN it_cd203 it_m203 4 (pc1 := 70) (ls1 := [some (.ref 0), some (.int x0), some (.int x1), some (.int x2), some (.ref q4)]) (st1 := [(.int x1), (.ref 11)]) (mem1 := m9) rfl ?_
                obtain ⟨g11, h⟩ := h
                refine it_V.iald it_cd203 it_m203 rfl ((⟨rfl, by decide⟩ : it_isR 11 16)).2 ((⟨rfl, by decide⟩ : it_isR 11 16)).1 g11 ?_
                refine it_V.at (pc1 := 71) (ls1 := [some (.ref 0), some (.int x0), some (.int x1), some (.int x2), some (.ref q4)]) (st1 := [(.int (m9 11 (Int32.toNatClampNeg x1)))]) (mem1 := m9) rfl rfl rfl rfl ?_
                refine it_V.sN it_cd203 it_m203 1 (pc1 := 83) (ls1 := [some (.ref 0), some (.int x0), some (.int x1), some (.int x2), some (.ref q4)]) (st1 := [(.int (m9 11 (Int32.toNatClampNeg x1)))]) (mem1 := m9) rfl ?_
                refine it_V.weak (l := [none, none, none, none, none]) trivial ?_
                exact s_203_83 kc Φ (m9 11 (Int32.toNatClampNeg x1)) m9 h
              · have h := h.2 c10
                refine it_V.sN it_cd203 it_m203 4 (pc1 := 82) (ls1 := [some (.ref 0), some (.int x0), some (.int x1), some (.int x2), some (.ref q4)]) (st1 := [(.int x1), (.ref 12)]) (mem1 := m9) rfl ?_
                obtain ⟨g12, h⟩ := h
                refine it_V.iald it_cd203 it_m203 rfl ((⟨rfl, by decide⟩ : it_isR 12 16)).2 ((⟨rfl, by decide⟩ : it_isR 12 16)).1 g12 ?_
                refine it_V.at (pc1 := 83) (ls1 := [some (.ref 0), some (.int x0), some (.int x1), some (.int x2), some (.ref q4)]) (st1 := [(.int (m9 12 (Int32.toNatClampNeg x1)))]) (mem1 := m9) rfl rfl rfl rfl ?_
                refine it_V.weak (l := [none, none, none, none, none]) trivial ?_
                exact s_203_83 kc Φ (m9 12 (Int32.toNatClampNeg x1)) m9 h
            · have h := h.2 c8
              refine it_V.weak (l := [none, none, none, none, none]) trivial ?_
              exact s_203_46 kc Φ m3 h
        · have h := h.2 c6
          refine it_V.weak (l := [none, none, none, none, none]) trivial ?_
          exact s_203_35 kc Φ m3 h
set_option maxRecDepth 100000 in
set_option maxHeartbeats 4000000 in
theorem s_204_38 (kc : it_Kc) (Φ : Int32 → it_Me → Prop) (m : it_Me) (h : w_204_38 kc Φ m) : it_V kc it_sh0 204 38 [none, none, none, none, none] [] m (it_Pi Φ) := by
  rw [w_204_38] at h
  refine it_V.sN it_cd204 it_m204 1 (pc1 := 39) (ls1 := [none, none, none, none, none]) (st1 := [(.int (-1 : Int32))]) (mem1 := m) rfl ?_
  exact it_V.ret it_cd204 it_m204 rfl rfl ⟨_, rfl, h⟩
set_option maxRecDepth 100000 in
set_option maxHeartbeats 4000000 in
theorem s_204_49 (kc : it_Kc) (Φ : Int32 → it_Me → Prop) (m : it_Me) (h : w_204_49 kc Φ m) : it_V kc it_sh0 204 49 [none, none, none, none, none] [] m (it_Pi Φ) := by
  rw [w_204_49] at h
  refine it_V.sN it_cd204 it_m204 1 (pc1 := 51) (ls1 := [none, none, none, none, none]) (st1 := [(.int (-2 : Int32))]) (mem1 := m) rfl ?_
  exact it_V.ret it_cd204 it_m204 rfl rfl ⟨_, rfl, h⟩
set_option maxRecDepth 100000 in
set_option maxHeartbeats 4000000 in
theorem s_204 (kc : it_Kc) (x0 : Int32) (x1 : Int32) (x2 : Int32) (m : it_Me) (Φ : Int32 → it_Me → Prop) (h : w_204 kc x0 x1 x2 m Φ) : it_V kc it_sh0 204 0 (it_loc0 [(.ref 0), (.int x0), (.int x1), (.int x2)] 5) [] m (it_Pi Φ) := by
  rw [w_204] at h
  refine it_V.at (pc1 := 0) (ls1 := [some (.ref 0), some (.int x0), some (.int x1), some (.int x2), none]) (st1 := []) (mem1 := m) rfl rfl rfl rfl ?_
  refine it_V.sN it_cd204 it_m204 3 (pc1 := (if (m 0 10) = 0 then 7 else 10)) (ls1 := [some (.ref 0), some (.int x0), some (.int x1), some (.int x2), none]) (st1 := []) (mem1 := m) rfl ?_
  refine it_V.ite (fun c1 => ?_) (fun c1 => ?_)
  · have h := h.1 c1
    refine it_V.sN it_cd204 it_m204 1 (pc1 := 9) (ls1 := [some (.ref 0), some (.int x0), some (.int x1), some (.int x2), none]) (st1 := [(.int (-3 : Int32))]) (mem1 := m) rfl ?_
    exact it_V.ret it_cd204 it_m204 rfl rfl ⟨_, rfl, h⟩
  · have h := h.2 c1
    refine it_V.sN it_cd204 it_m204 3 (pc1 := 15) (ls1 := [some (.ref 0), some (.int x0), some (.int x1), some (.int x2), none]) (st1 := [(.int x0), (.ref 9)]) (mem1 := m) rfl ?_
    refine it_V.call it_cd204 it_m204 rfl it_m72 [(.ref 9), (.int x0)] [] rfl rfl ⟨Nat.le_of_ble_eq_true rfl, Nat.le_of_ble_eq_true rfl, Nat.le_of_ble_eq_true rfl, Nat.le_of_ble_eq_true rfl, rfl⟩ (s_72 kc x0 m _ h) ?_
    rintro _ m3 ⟨r2, rfl, hr2, h⟩
    rcases r2 with _ | q4
    · skip
      refine it_V.at (pc1 := 18) (ls1 := [some (.ref 0), some (.int x0), some (.int x1), some (.int x2), none]) (st1 := [.null]) (mem1 := m3) rfl rfl rfl rfl ?_
      have h := h.1 rfl
      refine it_V.sN it_cd204 it_m204 3 (pc1 := 38) (ls1 := [some (.ref 0), some (.int x0), some (.int x1), some (.int x2), some .null]) (st1 := []) (mem1 := m3) rfl ?_
      refine it_V.weak (l := [none, none, none, none, none]) trivial ?_
      exact s_204_38 kc Φ m3 h
    · skip
      refine it_V.at (pc1 := 18) (ls1 := [some (.ref 0), some (.int x0), some (.int x1), some (.int x2), none]) (st1 := [(.ref q4)]) (mem1 := m3) rfl rfl rfl rfl ?_
      have h := h.2 q4 rfl
      refine it_V.sN it_cd204 it_m204 5 (pc1 := (if x1 < 0 then 38 else 29)) (ls1 := [some (.ref 0), some (.int x0), some (.int x1), some (.int x2), some (.ref q4)]) (st1 := []) (mem1 := m3) rfl ?_
      refine it_V.ite (fun c5 => ?_) (fun c5 => ?_)
      · have h := h.1 c5
        refine it_V.weak (l := [none, none, none, none, none]) trivial ?_
        exact s_204_38 kc Φ m3 h
      · have h := h.2 c5
        refine it_V.sN it_cd204 it_m204 2 (pc1 := 32) (ls1 := [some (.ref 0), some (.int x0), some (.int x1), some (.int x2), some (.ref q4)]) (st1 := [(.ref q4), (.int x1)]) (mem1 := m3) rfl ?_
        refine it_V.getP it_cd204 it_m204 rfl (hr2 q4 rfl).1 rfl ?_
        refine it_V.at (pc1 := 35) (ls1 := [some (.ref 0), some (.int x0), some (.int x1), some (.int x2), some (.ref q4)]) (st1 := [(.int (m3 q4 14)), (.int x1)]) (mem1 := m3) rfl rfl rfl rfl ?_
        refine it_V.sN it_cd204 it_m204 1 (pc1 := (if x1 < (m3 q4 14) then 40 else 38)) (ls1 := [some (.ref 0), some (.int x0), some (.int x1), some (.int x2), some (.ref q4)]) (st1 := []) (mem1 := m3) rfl ?_
        refine it_V.ite (fun c6 => ?_) (fun c6 => ?_)
        · have h := h.1 c6
          refine it_V.sN it_cd204 it_m204 2 (pc1 := (if x2 < 0 then 49 else 44)) (ls1 := [some (.ref 0), some (.int x0), some (.int x1), some (.int x2), some (.ref q4)]) (st1 := []) (mem1 := m3) rfl ?_
          refine it_V.ite (fun c7 => ?_) (fun c7 => ?_)
          · have h := h.1 c7
            refine it_V.weak (l := [none, none, none, none, none]) trivial ?_
            exact s_204_49 kc Φ m3 h
          · have h := h.2 c7
            refine it_V.sN it_cd204 it_m204 3 (pc1 := (if x2 ≤ (4 : Int32) then 52 else 49)) (ls1 := [some (.ref 0), some (.int x0), some (.int x1), some (.int x2), some (.ref q4)]) (st1 := []) (mem1 := m3) rfl ?_
            refine it_V.ite (fun c8 => ?_) (fun c8 => ?_)
            · have h := h.1 c8
              refine it_V.sN it_cd204 it_m204 1 (pc1 := 54) (ls1 := [some (.ref 0), some (.int x0), some (.int x1), some (.int x2), some (.ref q4)]) (st1 := [(.ref q4)]) (mem1 := m3) rfl ?_
              refine it_V.getP it_cd204 it_m204 rfl (hr2 q4 rfl).1 rfl ?_
              refine it_V.at (pc1 := 57) (ls1 := [some (.ref 0), some (.int x0), some (.int x1), some (.int x2), some (.ref q4)]) (st1 := [(.ref (q4 + 3))]) (mem1 := m3) rfl rfl rfl rfl ?_
              refine it_V.sN it_cd204 it_m204 5 (pc1 := 62) (ls1 := [some (.ref 0), some (.int x0), some (.int x1), some (.int x2), some (.ref q4)]) (st1 := [(.int ((x1 * (5 : Int32)) + x2)), (.ref (q4 + 3))]) (mem1 := m3) rfl ?_
              obtain ⟨g9, h⟩ := h
              refine it_V.iald it_cd204 it_m204 rfl ((hr2 q4 rfl).2.2.2.1).2 ((hr2 q4 rfl).2.2.2.1).1 g9 ?_
              refine it_V.at (pc1 := 63) (ls1 := [some (.ref 0), some (.int x0), some (.int x1), some (.int x2), some (.ref q4)]) (st1 := [(.int (m3 (q4 + 3) (Int32.toNatClampNeg ((x1 * (5 : Int32)) + x2))))]) (mem1 := m3) rfl rfl rfl rfl ?_
              exact it_V.ret it_cd204 it_m204 rfl rfl ⟨_, rfl, h⟩
            · have h := h.2 c8
              refine it_V.weak (l := [none, none, none, none, none]) trivial ?_
              exact s_204_49 kc Φ m3 h
        · have h := h.2 c6
          refine it_V.weak (l := [none, none, none, none, none]) trivial ?_
          exact s_204_38 kc Φ m3 h
set_option maxRecDepth 100000 in
set_option maxHeartbeats 4000000 in
theorem s_205_42 (kc : it_Kc) (Φ : Int32 → it_Me → Prop) (m : it_Me) (h : w_205_42 kc Φ m) : it_V kc it_sh0 205 42 [none, none, none, none] [] m (it_Pi Φ) := by
  rw [w_205_42] at h
  refine it_V.sN it_cd205 it_m205 1 (pc1 := 43) (ls1 := [none, none, none, none]) (st1 := [(.int (-1 : Int32))]) (mem1 := m) rfl ?_
  exact it_V.ret it_cd205 it_m205 rfl rfl ⟨_, rfl, h⟩
set_option maxRecDepth 100000 in
set_option maxHeartbeats 4000000 in
theorem s_205 (kc : it_Kc) (x0 : Int32) (x1 : Int32) (m : it_Me) (Φ : Int32 → it_Me → Prop) (h : w_205 kc x0 x1 m Φ) : it_V kc it_sh0 205 0 (it_loc0 [(.ref 0), (.int x0), (.int x1)] 4) [] m (it_Pi Φ) := by
  rw [w_205] at h
  refine it_V.at (pc1 := 0) (ls1 := [some (.ref 0), some (.int x0), some (.int x1), none]) (st1 := []) (mem1 := m) rfl rfl rfl rfl ?_
  refine it_V.sN it_cd205 it_m205 3 (pc1 := (if (m 0 10) = 0 then 7 else 10)) (ls1 := [some (.ref 0), some (.int x0), some (.int x1), none]) (st1 := []) (mem1 := m) rfl ?_
  refine it_V.ite (fun c1 => ?_) (fun c1 => ?_)
  · have h := h.1 c1
    refine it_V.sN it_cd205 it_m205 1 (pc1 := 9) (ls1 := [some (.ref 0), some (.int x0), some (.int x1), none]) (st1 := [(.int (-3 : Int32))]) (mem1 := m) rfl ?_
    exact it_V.ret it_cd205 it_m205 rfl rfl ⟨_, rfl, h⟩
  · have h := h.2 c1
    refine it_V.sN it_cd205 it_m205 3 (pc1 := 15) (ls1 := [some (.ref 0), some (.int x0), some (.int x1), none]) (st1 := [(.int x0), (.ref 9)]) (mem1 := m) rfl ?_
    refine it_V.call it_cd205 it_m205 rfl it_m72 [(.ref 9), (.int x0)] [] rfl rfl ⟨Nat.le_of_ble_eq_true rfl, Nat.le_of_ble_eq_true rfl, Nat.le_of_ble_eq_true rfl, Nat.le_of_ble_eq_true rfl, rfl⟩ (s_72 kc x0 m _ h) ?_
    rintro _ m3 ⟨r2, rfl, hr2, h⟩
    rcases r2 with _ | q4
    · skip
      refine it_V.at (pc1 := 18) (ls1 := [some (.ref 0), some (.int x0), some (.int x1), none]) (st1 := [.null]) (mem1 := m3) rfl rfl rfl rfl ?_
      have h := h.1 rfl
      refine it_V.sN it_cd205 it_m205 3 (pc1 := 42) (ls1 := [some (.ref 0), some (.int x0), some (.int x1), some .null]) (st1 := []) (mem1 := m3) rfl ?_
      refine it_V.weak (l := [none, none, none, none]) trivial ?_
      exact s_205_42 kc Φ m3 h
    · skip
      refine it_V.at (pc1 := 18) (ls1 := [some (.ref 0), some (.int x0), some (.int x1), none]) (st1 := [(.ref q4)]) (mem1 := m3) rfl rfl rfl rfl ?_
      have h := h.2 q4 rfl
      refine it_V.sN it_cd205 it_m205 5 (pc1 := (if x1 < 0 then 42 else 27)) (ls1 := [some (.ref 0), some (.int x0), some (.int x1), some (.ref q4)]) (st1 := []) (mem1 := m3) rfl ?_
      refine it_V.ite (fun c5 => ?_) (fun c5 => ?_)
      · have h := h.1 c5
        refine it_V.weak (l := [none, none, none, none]) trivial ?_
        exact s_205_42 kc Φ m3 h
      · have h := h.2 c5
        refine it_V.sN it_cd205 it_m205 3 (pc1 := (if (9 : Int32) ≤ x1 then 42 else 33)) (ls1 := [some (.ref 0), some (.int x0), some (.int x1), some (.ref q4)]) (st1 := []) (mem1 := m3) rfl ?_
        refine it_V.ite (fun c6 => ?_) (fun c6 => ?_)
        · have h := h.1 c6
          refine it_V.weak (l := [none, none, none, none]) trivial ?_
          exact s_205_42 kc Φ m3 h
        · have h := h.2 c6
          refine it_V.sN it_cd205 it_m205 1 (pc1 := 34) (ls1 := [some (.ref 0), some (.int x0), some (.int x1), some (.ref q4)]) (st1 := [(.ref q4)]) (mem1 := m3) rfl ?_
          refine it_V.getP it_cd205 it_m205 rfl (hr2 q4 rfl).1 rfl ?_
          refine it_V.at (pc1 := 37) (ls1 := [some (.ref 0), some (.int x0), some (.int x1), some (.ref q4)]) (st1 := [(.ref (q4 + 4))]) (mem1 := m3) rfl rfl rfl rfl ?_
          refine it_V.sN it_cd205 it_m205 1 (pc1 := 38) (ls1 := [some (.ref 0), some (.int x0), some (.int x1), some (.ref q4)]) (st1 := [(.int x1), (.ref (q4 + 4))]) (mem1 := m3) rfl ?_
          obtain ⟨g7, h⟩ := h
          refine it_V.iald it_cd205 it_m205 rfl ((hr2 q4 rfl).2.2.2.2).2 ((hr2 q4 rfl).2.2.2.2).1 g7 ?_
          refine it_V.at (pc1 := 39) (ls1 := [some (.ref 0), some (.int x0), some (.int x1), some (.ref q4)]) (st1 := [(.int (m3 (q4 + 4) (Int32.toNatClampNeg x1)))]) (mem1 := m3) rfl rfl rfl rfl ?_
          refine it_V.sN it_cd205 it_m205 1 (pc1 := (if (m3 (q4 + 4) (Int32.toNatClampNeg x1)) = 0 then 42 else 44)) (ls1 := [some (.ref 0), some (.int x0), some (.int x1), some (.ref q4)]) (st1 := []) (mem1 := m3) rfl ?_
          refine it_V.ite (fun c8 => ?_) (fun c8 => ?_)
          · have h := h.1 c8
            refine it_V.weak (l := [none, none, none, none]) trivial ?_
            exact s_205_42 kc Φ m3 h
          · have h := h.2 c8
            refine it_V.sN it_cd205 it_m205 1 (pc1 := 45) (ls1 := [some (.ref 0), some (.int x0), some (.int x1), some (.ref q4)]) (st1 := [(.ref q4)]) (mem1 := m3) rfl ?_
            refine it_V.getP it_cd205 it_m205 rfl (hr2 q4 rfl).1 rfl ?_
            refine it_V.at (pc1 := 48) (ls1 := [some (.ref 0), some (.int x0), some (.int x1), some (.ref q4)]) (st1 := [(.ref (q4 + 4))]) (mem1 := m3) rfl rfl rfl rfl ?_
            refine it_V.sN it_cd205 it_m205 1 (pc1 := 49) (ls1 := [some (.ref 0), some (.int x0), some (.int x1), some (.ref q4)]) (st1 := [(.int x1), (.ref (q4 + 4))]) (mem1 := m3) rfl ?_
            obtain ⟨g9, h⟩ := h
            refine it_V.iald it_cd205 it_m205 rfl ((hr2 q4 rfl).2.2.2.2).2 ((hr2 q4 rfl).2.2.2.2).1 g9 ?_
            refine it_V.at (pc1 := 50) (ls1 := [some (.ref 0), some (.int x0), some (.int x1), some (.ref q4)]) (st1 := [(.int (m3 (q4 + 4) (Int32.toNatClampNeg x1)))]) (mem1 := m3) rfl rfl rfl rfl ?_
            exact it_V.ret it_cd205 it_m205 rfl rfl ⟨_, rfl, h⟩
set_option maxRecDepth 100000 in
set_option maxHeartbeats 4000000 in
theorem s_206 (kc : it_Kc) (x0 : Int32) (m : it_Me) (Φ : Int32 → it_Me → Prop) (h : w_206 kc x0 m Φ) : it_V kc it_sh0 206 0 (it_loc0 [(.ref 0), (.int x0)] 2) [] m (it_Pi Φ) := by
  rw [w_206] at h
  refine it_V.at (pc1 := 0) (ls1 := [some (.ref 0), some (.int x0)]) (st1 := []) (mem1 := m) rfl rfl rfl rfl ?_
  refine it_V.sN it_cd206 it_m206 3 (pc1 := 5) (ls1 := [some (.ref 0), some (.int x0)]) (st1 := [(.int x0), (.ref 59)]) (mem1 := m) rfl ?_
  refine it_V.call it_cd206 it_m206 rfl it_m38 [(.ref 59), (.int x0)] [] rfl rfl ⟨Nat.le_of_ble_eq_true rfl, Nat.le_of_ble_eq_true rfl, Nat.le_of_ble_eq_true rfl, Nat.le_of_ble_eq_true rfl, rfl⟩ (s_38 kc x0 m _ h) ?_
  rintro _ m2 ⟨r1, rfl, h⟩
  refine it_V.at (pc1 := 8) (ls1 := [some (.ref 0), some (.int x0)]) (st1 := [(.int r1)]) (mem1 := m2) rfl rfl rfl rfl ?_
  exact it_V.ret it_cd206 it_m206 rfl rfl ⟨_, rfl, h⟩
set_option maxRecDepth 100000 in
set_option maxHeartbeats 4000000 in
theorem s_207_24 (kc : it_Kc) (Φ : Int32 → it_Me → Prop) (u0 : Int32) (m : it_Me) (h : w_207_24 kc Φ u0 m) : it_V kc it_sh0 207 24 [none, none] [(.int u0)] m (it_Pi Φ) := by
  rw [w_207_24] at h
  exact it_V.ret it_cd207 it_m207 rfl rfl ⟨_, rfl, h⟩
set_option maxRecDepth 100000 in
set_option maxHeartbeats 4000000 in
theorem s_207_9 (kc : it_Kc) (Φ : Int32 → it_Me → Prop) (m : it_Me) (h : w_207_9 kc Φ m) : it_V kc it_sh0 207 9 [none, none] [] m (it_Pi Φ) := by
  rw [w_207_9] at h
  refine it_V.sN it_cd207 it_m207 2 (pc1 := 24) (ls1 := [none, none]) (st1 := [(.int (-1 : Int32))]) (mem1 := m) rfl ?_
  refine it_V.weak (l := [none, none]) trivial ?_
  exact s_207_24 kc Φ (-1 : Int32) m h
set_option maxRecDepth 100000 in
set_option maxHeartbeats 4000000 in
theorem s_207 (kc : it_Kc) (x0 : Int32) (m : it_Me) (Φ : Int32 → it_Me → Prop) (h : w_207 kc x0 m Φ) : it_V kc it_sh0 207 0 (it_loc0 [(.ref 0), (.int x0)] 2) [] m (it_Pi Φ) := by
  rw [w_207] at h
  refine it_V.at (pc1 := 0) (ls1 := [some (.ref 0), some (.int x0)]) (st1 := []) (mem1 := m) rfl rfl rfl rfl ?_
  refine it_V.sN it_cd207 it_m207 2 (pc1 := (if x0 < 0 then 9 else 4)) (ls1 := [some (.ref 0), some (.int x0)]) (st1 := []) (mem1 := m) rfl ?_
  refine it_V.ite (fun c1 => ?_) (fun c1 => ?_)
  · have h := h.1 c1
    refine it_V.weak (l := [none, none]) trivial ?_
    exact s_207_9 kc Φ m h
  · have h := h.2 c1
    refine it_V.sN it_cd207 it_m207 3 (pc1 := (if x0 ≤ (3 : Int32) then 13 else 9)) (ls1 := [some (.ref 0), some (.int x0)]) (st1 := []) (mem1 := m) rfl ?_
    refine it_V.ite (fun c2 => ?_) (fun c2 => ?_)
    · have h := h.1 c2
      refine it_V.sN it_cd207 it_m207 7 (pc1 := 24) (ls1 := [some (.ref 0), some (.int x0)]) (st1 := [(.int ((it_us (m 59 4) x0) &&& (1 : Int32)))]) (mem1 := m) rfl ?_
      refine it_V.weak (l := [none, none]) trivial ?_
      exact s_207_24 kc Φ ((it_us (m 59 4) x0) &&& (1 : Int32)) m h
    · have h := h.2 c2
      refine it_V.weak (l := [none, none]) trivial ?_
      exact s_207_9 kc Φ m h
set_option maxRecDepth 100000 in
set_option maxHeartbeats 4000000 in
theorem s_208 (kc : it_Kc) (x0 : Int32) (x1 : Int32) (m : it_Me) (Φ : Int32 → it_Me → Prop) (h : w_208 kc x0 x1 m Φ) : it_V kc it_sh0 208 0 (it_loc0 [(.ref 0), (.int x0), (.int x1)] 3) [] m (it_Pi Φ) := by
  rw [w_208] at h
  refine it_V.at (pc1 := 0) (ls1 := [some (.ref 0), some (.int x0), some (.int x1)]) (st1 := []) (mem1 := m) rfl rfl rfl rfl ?_
  refine it_V.sN it_cd208 it_m208 4 (pc1 := 6) (ls1 := [some (.ref 0), some (.int x0), some (.int x1)]) (st1 := [(.int x1), (.int x0), (.ref 4)]) (mem1 := m) rfl ?_
  refine it_V.call it_cd208 it_m208 rfl it_m70 [(.ref 4), (.int x0), (.int x1)] [] rfl rfl ⟨Nat.le_of_ble_eq_true rfl, Nat.le_of_ble_eq_true rfl, Nat.le_of_ble_eq_true rfl, Nat.le_of_ble_eq_true rfl, rfl⟩ (s_70 kc x0 x1 m _ h) ?_
  rintro _ m2 ⟨r1, rfl, h⟩
  refine it_V.at (pc1 := 9) (ls1 := [some (.ref 0), some (.int x0), some (.int x1)]) (st1 := [(.int r1)]) (mem1 := m2) rfl rfl rfl rfl ?_
  exact it_V.ret it_cd208 it_m208 rfl rfl ⟨_, rfl, h⟩
set_option maxRecDepth 100000 in
set_option maxHeartbeats 4000000 in
theorem s_209 (kc : it_Kc) (x0 : Int32) (x1 : Int32) (x2 : Int32) (m : it_Me) (Φ : Int32 → it_Me → Prop) (h : w_209 kc x0 x1 x2 m Φ) : it_V kc it_sh0 209 0 (it_loc0 [(.ref 0), (.int x0), (.int x1), (.int x2)] 4) [] m (it_Pi Φ) := by
  rw [w_209] at h
  refine it_V.at (pc1 := 0) (ls1 := [some (.ref 0), some (.int x0), some (.int x1), some (.int x2)]) (st1 := []) (mem1 := m) rfl rfl rfl rfl ?_
  refine it_V.sN it_cd209 it_m209 5 (pc1 := 7) (ls1 := [some (.ref 0), some (.int x0), some (.int x1), some (.int x2)]) (st1 := [(.int x2), (.int x1), (.int x0), (.ref 7)]) (mem1 := m) rfl ?_
  refine it_V.call it_cd209 it_m209 rfl it_m158 [(.ref 7), (.int x0), (.int x1), (.int x2)] [] rfl rfl ⟨Nat.le_of_ble_eq_true rfl, Nat.le_of_ble_eq_true rfl, Nat.le_of_ble_eq_true rfl, Nat.le_of_ble_eq_true rfl, rfl⟩ (s_158 kc x0 x1 x2 m _ h) ?_
  rintro _ m2 ⟨r1, rfl, h⟩
  refine it_V.at (pc1 := 10) (ls1 := [some (.ref 0), some (.int x0), some (.int x1), some (.int x2)]) (st1 := [(.int r1)]) (mem1 := m2) rfl rfl rfl rfl ?_
  exact it_V.ret it_cd209 it_m209 rfl rfl ⟨_, rfl, h⟩
set_option maxRecDepth 100000 in
set_option maxHeartbeats 4000000 in
theorem s_210_4 (kc : it_Kc) (Φ : Int32 → it_Me → Prop) (K40 : Int32 → it_Me → Prop) (hK40 : ∀ (v1 : Int32) (m : it_Me), K40 v1 m → it_V kc it_sh0 210 40 [none, some (.int v1), none] [] m (it_Pi Φ)) : ∀ (n : Nat) (v1 : Int32) (v2 : Int32) (m : it_Me) (h : w_210_4 kc Φ K40 n v1 v2 m), it_V kc it_sh0 210 4 [some (.ref 0), some (.int v1), some (.int v2)] [] m (it_Pi Φ) := by
  intro n
  induction n with
  | zero => intro v1 v2 m h; exact absurd h id
  | succ n ih =>
    intro v1 v2 m h
    rw [w_210_4] at h
    refine it_V.sN it_cd210 it_m210 5 (pc1 := (if (m 9 7) ≤ v2 then 40 else 15)) (ls1 := [some (.ref 0), some (.int v1), some (.int v2)]) (st1 := []) (mem1 := m) rfl ?_
    refine it_V.ite (fun c1 => ?_) (fun c1 => ?_)
    · have h := h.1 c1
      refine it_V.weak (l := [none, some (.int v1), none]) ⟨rfl, trivial⟩ ?_
      exact hK40 v1 m h
    · have h := h.2 c1
      refine it_V.sN it_cd210 it_m210 7 (pc1 := 28) (ls1 := [some (.ref 0), some (.int v1), some (.int v2)]) (st1 := [(.int v2), (.ref 10), (.ref 9), (.int v1)]) (mem1 := m) rfl ?_
      obtain ⟨g2, h⟩ := h
      refine it_V.aald it_cd210 it_m210 rfl g2 ?_
      refine it_V.at (pc1 := 29) (ls1 := [some (.ref 0), some (.int v1), some (.int v2)]) (st1 := [(.ref (14 + 5 * Int32.toNatClampNeg v2)), (.ref 9), (.int v1)]) (mem1 := m) rfl rfl rfl rfl ?_
      refine it_V.call it_cd210 it_m210 rfl it_m93 [(.ref 9), (.ref (14 + 5 * Int32.toNatClampNeg v2))] [(.int v1)] rfl rfl ⟨Nat.le_of_ble_eq_true rfl, Nat.le_of_ble_eq_true rfl, Nat.le_of_ble_eq_true rfl, Nat.le_of_ble_eq_true rfl, rfl⟩ (s_93 kc (14 + 5 * Int32.toNatClampNeg v2) (it_isP_of g2) m _ h) ?_
      rintro _ m4 ⟨r3, rfl, h⟩
      refine it_V.at (pc1 := 32) (ls1 := [some (.ref 0), some (.int v1), some (.int v2)]) (st1 := [(.int r3), (.int v1)]) (mem1 := m4) rfl rfl rfl rfl ?_
      refine it_V.sN it_cd210 it_m210 4 (pc1 := 4) (ls1 := [some (.ref 0), some (.int (v1 + r3)), some (.int (v2 + (1 : Int32)))]) (st1 := []) (mem1 := m4) rfl ?_
      exact ih (v1 + r3) (v2 + (1 : Int32)) m4 h
set_option maxRecDepth 100000 in
set_option maxHeartbeats 4000000 in
theorem s_210_40 (kc : it_Kc) (Φ : Int32 → it_Me → Prop) (v1 : Int32) (m : it_Me) (h : w_210_40 kc Φ v1 m) : it_V kc it_sh0 210 40 [none, some (.int v1), none] [] m (it_Pi Φ) := by
  rw [w_210_40] at h
  refine it_V.sN it_cd210 it_m210 1 (pc1 := 41) (ls1 := [none, some (.int v1), none]) (st1 := [(.int v1)]) (mem1 := m) rfl ?_
  exact it_V.ret it_cd210 it_m210 rfl rfl ⟨_, rfl, h⟩
set_option maxRecDepth 100000 in
set_option maxHeartbeats 4000000 in
theorem s_210 (kc : it_Kc) (m : it_Me) (Φ : Int32 → it_Me → Prop) (h : w_210 kc m Φ) : it_V kc it_sh0 210 0 (it_loc0 [(.ref 0)] 3) [] m (it_Pi Φ) := by
  rw [w_210] at h
  refine it_V.at (pc1 := 0) (ls1 := [some (.ref 0), none, none]) (st1 := []) (mem1 := m) rfl rfl rfl rfl ?_
  refine it_V.sN it_cd210 it_m210 4 (pc1 := 4) (ls1 := [some (.ref 0), some (.int (0 : Int32)), some (.int (0 : Int32))]) (st1 := []) (mem1 := m) rfl ?_
  obtain ⟨n, h⟩ := h
  exact s_210_4 kc Φ _ (fun v1 m h => s_210_40 kc Φ v1 m h) n (0 : Int32) (0 : Int32) m h
set_option maxRecDepth 100000 in
set_option maxHeartbeats 4000000 in
theorem s_218 (kc : it_Kc) (x0 : Int32) (m : it_Me) (Φ : Int32 → it_Me → Prop) (h : w_218 kc x0 m Φ) : it_V kc it_sh0 218 0 (it_loc0 [(.ref 66), (.int x0)] 2) [] m (it_Pi Φ) := by
  rw [w_218] at h
  refine it_V.at (pc1 := 0) (ls1 := [some (.ref 66), some (.int x0)]) (st1 := []) (mem1 := m) rfl rfl rfl rfl ?_
  refine it_V.sN it_cd218 it_m218 3 (pc1 := 5) (ls1 := [some (.ref 66), some (.int x0)]) (st1 := [(.int x0), (.ref 67)]) (mem1 := m) rfl ?_
  obtain ⟨g1, h⟩ := h
  refine it_V.bald (t := 1) (n := 196608) it_cd218 it_m218 rfl rfl (by decide) g1 ?_
  refine it_V.at (pc1 := 6) (ls1 := [some (.ref 66), some (.int x0)]) (st1 := [(.int (m 67 (Int32.toNatClampNeg x0)))]) (mem1 := m) rfl rfl rfl rfl ?_
  refine it_V.sN it_cd218 it_m218 2 (pc1 := 10) (ls1 := [some (.ref 66), some (.int x0)]) (st1 := [(.int ((m 67 (Int32.toNatClampNeg x0)) &&& (255 : Int32)))]) (mem1 := m) rfl ?_
  exact it_V.ret it_cd218 it_m218 rfl rfl ⟨_, rfl, h⟩
set_option maxRecDepth 100000 in
set_option maxHeartbeats 4000000 in
theorem s_219 (kc : it_Kc) (x0 : Int32) (m : it_Me) (Φ : Int32 → it_Me → Prop) (h : w_219 kc x0 m Φ) : it_V kc it_sh0 219 0 (it_loc0 [(.ref 66), (.int x0)] 2) [] m (it_Pi Φ) := by
  rw [w_219] at h
  refine it_V.at (pc1 := 0) (ls1 := [some (.ref 66), some (.int x0)]) (st1 := []) (mem1 := m) rfl rfl rfl rfl ?_
  refine it_V.sN it_cd219 it_m219 2 (pc1 := 2) (ls1 := [some (.ref 66), some (.int x0)]) (st1 := [(.int x0), (.ref 66)]) (mem1 := m) rfl ?_
  refine it_V.call it_cd219 it_m219 rfl it_m218 [(.ref 66), (.int x0)] [] rfl rfl ⟨Nat.le_of_ble_eq_true rfl, Nat.le_of_ble_eq_true rfl, Nat.le_of_ble_eq_true rfl, Nat.le_of_ble_eq_true rfl, rfl⟩ (s_218 kc x0 m _ h) ?_
  rintro _ m2 ⟨r1, rfl, h⟩
  refine it_V.at (pc1 := 5) (ls1 := [some (.ref 66), some (.int x0)]) (st1 := [(.int r1)]) (mem1 := m2) rfl rfl rfl rfl ?_
  refine it_V.sN it_cd219 it_m219 4 (pc1 := 9) (ls1 := [some (.ref 66), some (.int x0)]) (st1 := [(.int (x0 + (1 : Int32))), (.ref 66), (.int r1)]) (mem1 := m2) rfl ?_
  refine it_V.call it_cd219 it_m219 rfl it_m218 [(.ref 66), (.int (x0 + (1 : Int32)))] [(.int r1)] rfl rfl ⟨Nat.le_of_ble_eq_true rfl, Nat.le_of_ble_eq_true rfl, Nat.le_of_ble_eq_true rfl, Nat.le_of_ble_eq_true rfl, rfl⟩ (s_218 kc (x0 + (1 : Int32)) m2 _ h) ?_
  rintro _ m4 ⟨r3, rfl, h⟩
  refine it_V.at (pc1 := 12) (ls1 := [some (.ref 66), some (.int x0)]) (st1 := [(.int r3), (.int r1)]) (mem1 := m4) rfl rfl rfl rfl ?_
  refine it_V.sN it_cd219 it_m219 3 (pc1 := 16) (ls1 := [some (.ref 66), some (.int x0)]) (st1 := [(.int (r1 ||| (it_shl r3 (8 : Int32))))]) (mem1 := m4) rfl ?_
  exact it_V.ret it_cd219 it_m219 rfl rfl ⟨_, rfl, h⟩
set_option maxRecDepth 100000 in
set_option maxHeartbeats 4000000 in
theorem s_220 (kc : it_Kc) (x0 : Int32) (m : it_Me) (Φ : Int32 → it_Me → Prop) (h : w_220 kc x0 m Φ) : it_V kc it_sh0 220 0 (it_loc0 [(.ref 66), (.int x0)] 2) [] m (it_Pi Φ) := by
  rw [w_220] at h
  refine it_V.at (pc1 := 0) (ls1 := [some (.ref 66), some (.int x0)]) (st1 := []) (mem1 := m) rfl rfl rfl rfl ?_
  refine it_V.sN it_cd220 it_m220 2 (pc1 := 2) (ls1 := [some (.ref 66), some (.int x0)]) (st1 := [(.int x0), (.ref 66)]) (mem1 := m) rfl ?_
  refine it_V.call it_cd220 it_m220 rfl it_m219 [(.ref 66), (.int x0)] [] rfl rfl ⟨Nat.le_of_ble_eq_true rfl, Nat.le_of_ble_eq_true rfl, Nat.le_of_ble_eq_true rfl, Nat.le_of_ble_eq_true rfl, rfl⟩ (s_219 kc x0 m _ h) ?_
  rintro _ m2 ⟨r1, rfl, h⟩
  refine it_V.at (pc1 := 5) (ls1 := [some (.ref 66), some (.int x0)]) (st1 := [(.int r1)]) (mem1 := m2) rfl rfl rfl rfl ?_
  refine it_V.sN it_cd220 it_m220 4 (pc1 := 9) (ls1 := [some (.ref 66), some (.int x0)]) (st1 := [(.int (x0 + (2 : Int32))), (.ref 66), (.int r1)]) (mem1 := m2) rfl ?_
  refine it_V.call it_cd220 it_m220 rfl it_m219 [(.ref 66), (.int (x0 + (2 : Int32)))] [(.int r1)] rfl rfl ⟨Nat.le_of_ble_eq_true rfl, Nat.le_of_ble_eq_true rfl, Nat.le_of_ble_eq_true rfl, Nat.le_of_ble_eq_true rfl, rfl⟩ (s_219 kc (x0 + (2 : Int32)) m2 _ h) ?_
  rintro _ m4 ⟨r3, rfl, h⟩
  refine it_V.at (pc1 := 12) (ls1 := [some (.ref 66), some (.int x0)]) (st1 := [(.int r3), (.int r1)]) (mem1 := m4) rfl rfl rfl rfl ?_
  refine it_V.sN it_cd220 it_m220 3 (pc1 := 16) (ls1 := [some (.ref 66), some (.int x0)]) (st1 := [(.int (r1 ||| (it_shl r3 (16 : Int32))))]) (mem1 := m4) rfl ?_
  exact it_V.ret it_cd220 it_m220 rfl rfl ⟨_, rfl, h⟩
set_option maxRecDepth 100000 in
set_option maxHeartbeats 4000000 in
theorem s_221_2 (kc : it_Kc) (Φ : it_Me → Prop) (K28 : it_Me → Prop) (hK28 : ∀ (m : it_Me), K28 m → it_V kc it_sh0 221 28 [none, none, none, none] [] m (it_Pv Φ)) : ∀ (n : Nat) (v1 : Int32) (v2 : Int32) (v3 : Int32) (m : it_Me) (h : w_221_2 kc Φ K28 n v1 v2 v3 m), it_V kc it_sh0 221 2 [some (.ref 66), some (.int v1), some (.int v2), some (.int v3)] [] m (it_Pv Φ) := by
  intro n
  induction n with
  | zero => intro v1 v2 v3 m h; exact absurd h id
  | succ n ih =>
    intro v1 v2 v3 m h
    rw [w_221_2] at h
    refine it_V.sN it_cd221 it_m221 3 (pc1 := (if (4 : Int32) ≤ v3 then 28 else 7)) (ls1 := [some (.ref 66), some (.int v1), some (.int v2), some (.int v3)]) (st1 := []) (mem1 := m) rfl ?_
    refine it_V.ite (fun c1 => ?_) (fun c1 => ?_)
    · have h := h.1 c1
      refine it_V.weak (l := [none, none, none, none]) trivial ?_
      exact hK28 m h
    · have h := h.2 c1
      refine it_V.sN it_cd221 it_m221 11 (pc1 := 21) (ls1 := [some (.ref 66), some (.int v1), some (.int v2), some (.int v3)]) (st1 := [(.int (it_i2b (it_shr v2 ((8 : Int32) * v3)))), (.int (v1 + v3)), (.ref 67)]) (mem1 := m) rfl ?_
      obtain ⟨g2, h⟩ := h
      refine it_V.bast (n := 196608) it_cd221 it_m221 rfl rfl g2 ?_
      refine it_V.at (pc1 := 22) (ls1 := [some (.ref 66), some (.int v1), some (.int v2), some (.int v3)]) (st1 := []) (mem1 := (it_sv m 67 (Int32.toNatClampNeg (v1 + v3)) (it_i2b (it_i2b (it_shr v2 ((8 : Int32) * v3)))))) rfl rfl rfl rfl ?_
      refine it_V.sN it_cd221 it_m221 2 (pc1 := 2) (ls1 := [some (.ref 66), some (.int v1), some (.int v2), some (.int (v3 + (1 : Int32)))]) (st1 := []) (mem1 := (it_sv m 67 (Int32.toNatClampNeg (v1 + v3)) (it_i2b (it_i2b (it_shr v2 ((8 : Int32) * v3)))))) rfl ?_
      exact ih v1 v2 (v3 + (1 : Int32)) (it_sv m 67 (Int32.toNatClampNeg (v1 + v3)) (it_i2b (it_i2b (it_shr v2 ((8 : Int32) * v3))))) h
set_option maxRecDepth 100000 in
set_option maxHeartbeats 4000000 in
theorem s_221_28 (kc : it_Kc) (Φ : it_Me → Prop) (m : it_Me) (h : w_221_28 kc Φ m) : it_V kc it_sh0 221 28 [none, none, none, none] [] m (it_Pv Φ) := by
  rw [w_221_28] at h
  exact it_V.ret it_cd221 it_m221 rfl rfl ⟨rfl, h⟩
set_option maxRecDepth 100000 in
set_option maxHeartbeats 4000000 in
theorem s_221 (kc : it_Kc) (x0 : Int32) (x1 : Int32) (m : it_Me) (Φ : it_Me → Prop) (h : w_221 kc x0 x1 m Φ) : it_V kc it_sh0 221 0 (it_loc0 [(.ref 66), (.int x0), (.int x1)] 4) [] m (it_Pv Φ) := by
  rw [w_221] at h
  refine it_V.at (pc1 := 0) (ls1 := [some (.ref 66), some (.int x0), some (.int x1), none]) (st1 := []) (mem1 := m) rfl rfl rfl rfl ?_
  refine it_V.sN it_cd221 it_m221 2 (pc1 := 2) (ls1 := [some (.ref 66), some (.int x0), some (.int x1), some (.int (0 : Int32))]) (st1 := []) (mem1 := m) rfl ?_
  obtain ⟨n, h⟩ := h
  exact s_221_2 kc Φ _ (fun m h => s_221_28 kc Φ m h) n x0 x1 (0 : Int32) m h
set_option maxRecDepth 100000 in
set_option maxHeartbeats 4000000 in
theorem s_222_48 (kc : it_Kc) (Φ : Int32 → it_Me → Prop) (K25 : Int32 → Int32 → Int32 → Int32 → Int32 → it_Me → Prop) (K56 : Int32 → Int32 → Int32 → Int32 → it_Me → Prop) (hK25 : ∀ (v1 : Int32) (v2 : Int32) (v3 : Int32) (v4 : Int32) (v5 : Int32) (m : it_Me), K25 v1 v2 v3 v4 v5 m → it_V kc it_sh0 222 25 [some (.ref 66), some (.int v1), some (.int v2), some (.int v3), some (.int v4), some (.int v5)] [] m (it_Pi Φ)) (hK56 : ∀ (v1 : Int32) (v2 : Int32) (v3 : Int32) (v4 : Int32) (m : it_Me), K56 v1 v2 v3 v4 m → it_V kc it_sh0 222 56 [some (.ref 66), some (.int v1), some (.int v2), some (.int v3), some (.int v4), none] [] m (it_Pi Φ)) (v1 : Int32) (v2 : Int32) (v4 : Int32) (v5 : Int32) (u0 : Int32) (u1 : Int32) (m : it_Me) (h : w_222_48 kc Φ K25 K56 v1 v2 v4 v5 u0 u1 m) : it_V kc it_sh0 222 48 [some (.ref 66), some (.int v1), some (.int v2), none, some (.int v4), some (.int v5)] [(.int u1), (.int u0)] m (it_Pi Φ) := by
  rw [w_222_48] at h
  refine it_V.sN it_cd222 it_m222 4 (pc1 := 25) (ls1 := [some (.ref 66), some (.int v1), some (.int v2), some (.int (u0 ^^^ u1)), some (.int v4), some (.int (v5 + (1 : Int32)))]) (st1 := []) (mem1 := m) rfl ?_
  exact hK25 v1 v2 (u0 ^^^ u1) v4 (v5 + (1 : Int32)) m h
set_option maxRecDepth 100000 in
set_option maxHeartbeats 4000000 in
theorem s_222_25 (kc : it_Kc) (Φ : Int32 → it_Me → Prop) (K56 : Int32 → Int32 → Int32 → Int32 → it_Me → Prop) (hK56 : ∀ (v1 : Int32) (v2 : Int32) (v3 : Int32) (v4 : Int32) (m : it_Me), K56 v1 v2 v3 v4 m → it_V kc it_sh0 222 56 [some (.ref 66), some (.int v1), some (.int v2), some (.int v3), some (.int v4), none] [] m (it_Pi Φ)) : ∀ (n : Nat) (v1 : Int32) (v2 : Int32) (v3 : Int32) (v4 : Int32) (v5 : Int32) (m : it_Me) (h : w_222_25 kc Φ K56 n v1 v2 v3 v4 v5 m), it_V kc it_sh0 222 25 [some (.ref 66), some (.int v1), some (.int v2), some (.int v3), some (.int v4), some (.int v5)] [] m (it_Pi Φ) := by
  intro n
  induction n with
  | zero => intro v1 v2 v3 v4 v5 m h; exact absurd h id
  | succ n ih =>
    intro v1 v2 v3 v4 v5 m h
    rw [w_222_25] at h
    refine it_V.sN it_cd222 it_m222 3 (pc1 := (if (8 : Int32) ≤ v5 then 56 else 32)) (ls1 := [some (.ref 66), some (.int v1), some (.int v2), some (.int v3), some (.int v4), some (.int v5)]) (st1 := []) (mem1 := m) rfl ?_
    refine it_V.ite (fun c1 => ?_) (fun c1 => ?_)
    · have h := h.1 c1
      refine it_V.weak (l := [some (.ref 66), some (.int v1), some (.int v2), some (.int v3), some (.int v4), none]) ⟨rfl, ⟨rfl, ⟨rfl, ⟨rfl, ⟨rfl, trivial⟩⟩⟩⟩⟩ ?_
      exact hK56 v1 v2 v3 v4 m h
    · have h := h.2 c1
      refine it_V.sN it_cd222 it_m222 8 (pc1 := (if (v3 &&& (1 : Int32)) = (1 : Int32) then 42 else 47)) (ls1 := [some (.ref 66), some (.int v1), some (.int v2), some (.int v3), some (.int v4), some (.int v5)]) (st1 := [(.int (it_us v3 (1 : Int32)))]) (mem1 := m) rfl ?_
      refine it_V.ite (fun c2 => ?_) (fun c2 => ?_)
      · have h := h.1 c2
        refine it_V.sN it_cd222 it_m222 2 (pc1 := 48) (ls1 := [some (.ref 66), some (.int v1), some (.int v2), some (.int v3), some (.int v4), some (.int v5)]) (st1 := [(.int (-306674912 : Int32)), (.int (it_us v3 (1 : Int32)))]) (mem1 := m) rfl ?_
        refine it_V.weak (l := [some (.ref 66), some (.int v1), some (.int v2), none, some (.int v4), some (.int v5)]) ⟨rfl, ⟨rfl, ⟨rfl, ⟨rfl, ⟨rfl, trivial⟩⟩⟩⟩⟩ ?_
        exact s_222_48 kc Φ _ _ ih hK56 v1 v2 v4 v5 (it_us v3 (1 : Int32)) (-306674912 : Int32) m h
      · have h := h.2 c2
        refine it_V.sN it_cd222 it_m222 1 (pc1 := 48) (ls1 := [some (.ref 66), some (.int v1), some (.int v2), some (.int v3), some (.int v4), some (.int v5)]) (st1 := [(.int (0 : Int32)), (.int (it_us v3 (1 : Int32)))]) (mem1 := m) rfl ?_
        refine it_V.weak (l := [some (.ref 66), some (.int v1), some (.int v2), none, some (.int v4), some (.int v5)]) ⟨rfl, ⟨rfl, ⟨rfl, ⟨rfl, ⟨rfl, trivial⟩⟩⟩⟩⟩ ?_
        exact s_222_48 kc Φ _ _ ih hK56 v1 v2 v4 v5 (it_us v3 (1 : Int32)) (0 : Int32) m h
set_option maxRecDepth 100000 in
set_option maxHeartbeats 4000000 in
theorem s_222_56 (kc : it_Kc) (Φ : Int32 → it_Me → Prop) (K5 : Int32 → Int32 → Int32 → Int32 → it_Me → Prop) (K62 : Int32 → it_Me → Prop) (hK5 : ∀ (v1 : Int32) (v2 : Int32) (v3 : Int32) (v4 : Int32) (m : it_Me), K5 v1 v2 v3 v4 m → it_V kc it_sh0 222 5 [some (.ref 66), some (.int v1), some (.int v2), some (.int v3), some (.int v4), none] [] m (it_Pi Φ)) (hK62 : ∀ (v3 : Int32) (m : it_Me), K62 v3 m → it_V kc it_sh0 222 62 [none, none, none, some (.int v3), none, none] [] m (it_Pi Φ)) (v1 : Int32) (v2 : Int32) (v3 : Int32) (v4 : Int32) (m : it_Me) (h : w_222_56 kc Φ K5 K62 v1 v2 v3 v4 m) : it_V kc it_sh0 222 56 [some (.ref 66), some (.int v1), some (.int v2), some (.int v3), some (.int v4), none] [] m (it_Pi Φ) := by
  rw [w_222_56] at h
  refine it_V.sN it_cd222 it_m222 2 (pc1 := 5) (ls1 := [some (.ref 66), some (.int v1), some (.int v2), some (.int v3), some (.int (v4 + (1 : Int32))), none]) (st1 := []) (mem1 := m) rfl ?_
  refine it_V.weak (l := [some (.ref 66), some (.int v1), some (.int v2), some (.int v3), some (.int (v4 + (1 : Int32))), none]) ⟨rfl, ⟨rfl, ⟨rfl, ⟨rfl, ⟨rfl, trivial⟩⟩⟩⟩⟩ ?_
  exact hK5 v1 v2 v3 (v4 + (1 : Int32)) m h
set_option maxRecDepth 100000 in
set_option maxHeartbeats 4000000 in
theorem s_222_5 (kc : it_Kc) (Φ : Int32 → it_Me → Prop) (K62 : Int32 → it_Me → Prop) (hK62 : ∀ (v3 : Int32) (m : it_Me), K62 v3 m → it_V kc it_sh0 222 62 [none, none, none, some (.int v3), none, none] [] m (it_Pi Φ)) : ∀ (n : Nat) (v1 : Int32) (v2 : Int32) (v3 : Int32) (v4 : Int32) (m : it_Me) (h : w_222_5 kc Φ K62 n v1 v2 v3 v4 m), it_V kc it_sh0 222 5 [some (.ref 66), some (.int v1), some (.int v2), some (.int v3), some (.int v4), none] [] m (it_Pi Φ) := by
  intro n
  induction n with
  | zero => intro v1 v2 v3 v4 m h; exact absurd h id
  | succ n ih =>
    intro v1 v2 v3 v4 m h
    rw [w_222_5] at h
    refine it_V.sN it_cd222 it_m222 3 (pc1 := (if v2 ≤ v4 then 62 else 11)) (ls1 := [some (.ref 66), some (.int v1), some (.int v2), some (.int v3), some (.int v4), none]) (st1 := []) (mem1 := m) rfl ?_
    refine it_V.ite (fun c1 => ?_) (fun c1 => ?_)
    · have h := h.1 c1
      refine it_V.weak (l := [none, none, none, some (.int v3), none, none]) ⟨rfl, trivial⟩ ?_
      exact hK62 v3 m h
    · have h := h.2 c1
      refine it_V.sN it_cd222 it_m222 5 (pc1 := 17) (ls1 := [some (.ref 66), some (.int v1), some (.int v2), some (.int v3), some (.int v4), none]) (st1 := [(.int (v1 + v4)), (.ref 66), (.int v3)]) (mem1 := m) rfl ?_
      refine it_V.call it_cd222 it_m222 rfl it_m218 [(.ref 66), (.int (v1 + v4))] [(.int v3)] rfl rfl ⟨Nat.le_of_ble_eq_true rfl, Nat.le_of_ble_eq_true rfl, Nat.le_of_ble_eq_true rfl, Nat.le_of_ble_eq_true rfl, rfl⟩ (s_218 kc (v1 + v4) m _ h) ?_
      rintro _ m3 ⟨r2, rfl, h⟩
      refine it_V.at (pc1 := 20) (ls1 := [some (.ref 66), some (.int v1), some (.int v2), some (.int v3), some (.int v4), none]) (st1 := [(.int r2), (.int v3)]) (mem1 := m3) rfl rfl rfl rfl ?_
      refine it_V.sN it_cd222 it_m222 4 (pc1 := 25) (ls1 := [some (.ref 66), some (.int v1), some (.int v2), some (.int (v3 ^^^ r2)), some (.int v4), some (.int (0 : Int32))]) (st1 := []) (mem1 := m3) rfl ?_
      obtain ⟨n, h⟩ := h
      exact s_222_25 kc Φ _ (fun v1 v2 v3 v4 m h => s_222_56 kc Φ _ _ ih hK62 v1 v2 v3 v4 m h) n v1 v2 (v3 ^^^ r2) v4 (0 : Int32) m3 h
set_option maxRecDepth 100000 in
set_option maxHeartbeats 4000000 in
theorem s_222_62 (kc : it_Kc) (Φ : Int32 → it_Me → Prop) (v3 : Int32) (m : it_Me) (h : w_222_62 kc Φ v3 m) : it_V kc it_sh0 222 62 [none, none, none, some (.int v3), none, none] [] m (it_Pi Φ) := by
  rw [w_222_62] at h
  refine it_V.sN it_cd222 it_m222 3 (pc1 := 65) (ls1 := [none, none, none, some (.int v3), none, none]) (st1 := [(.int (v3 ^^^ (-1 : Int32)))]) (mem1 := m) rfl ?_
  exact it_V.ret it_cd222 it_m222 rfl rfl ⟨_, rfl, h⟩
set_option maxRecDepth 100000 in
set_option maxHeartbeats 4000000 in
theorem s_222 (kc : it_Kc) (x0 : Int32) (x1 : Int32) (m : it_Me) (Φ : Int32 → it_Me → Prop) (h : w_222 kc x0 x1 m Φ) : it_V kc it_sh0 222 0 (it_loc0 [(.ref 66), (.int x0), (.int x1)] 6) [] m (it_Pi Φ) := by
  rw [w_222] at h
  refine it_V.at (pc1 := 0) (ls1 := [some (.ref 66), some (.int x0), some (.int x1), none, none, none]) (st1 := []) (mem1 := m) rfl rfl rfl rfl ?_
  refine it_V.sN it_cd222 it_m222 4 (pc1 := 5) (ls1 := [some (.ref 66), some (.int x0), some (.int x1), some (.int (-1 : Int32)), some (.int (0 : Int32)), none]) (st1 := []) (mem1 := m) rfl ?_
  obtain ⟨n, h⟩ := h
  exact s_222_5 kc Φ _ (fun v3 m h => s_222_62 kc Φ v3 m h) n x0 x1 (-1 : Int32) (0 : Int32) m h
set_option maxRecDepth 100000 in
set_option maxHeartbeats 4000000 in
theorem s_224_3 (kc : it_Kc) (Φ : it_Me → Prop) (K36 : it_Me → Prop) (hK36 : ∀ (m : it_Me), K36 m → it_V kc it_sh0 224 36 [none, none, none] [] m (it_Pv Φ)) : ∀ (n : Nat) (v1 : Int32) (v2 : Int32) (m : it_Me) (h : w_224_3 kc Φ K36 n v1 v2 m), it_V kc it_sh0 224 3 [some (.ref 66), some (.int v1), some (.int v2)] [] m (it_Pv Φ) := by
  intro n
  induction n with
  | zero => intro v1 v2 m h; exact absurd h id
  | succ n ih =>
    intro v1 v2 m h
    rw [w_224_3] at h
    refine it_V.sN it_cd224 it_m224 2 (pc1 := (if v2 < 0 then 36 else 7)) (ls1 := [some (.ref 66), some (.int v1), some (.int v2)]) (st1 := []) (mem1 := m) rfl ?_
    refine it_V.ite (fun c1 => ?_) (fun c1 => ?_)
    · have h := h.1 c1
      refine it_V.weak (l := [none, none, none]) trivial ?_
      exact hK36 m h
    · have h := h.2 c1
      refine it_V.sN it_cd224 it_m224 8 (pc1 := 19) (ls1 := [some (.ref 66), some (.int v1), some (.int v2)]) (st1 := [(.int (it_i2b (it_shr v1 v2))), (.int (m 66 2)), (.ref 68)]) (mem1 := m) rfl ?_
      obtain ⟨g2, h⟩ := h
      refine it_V.bast (n := 8192) it_cd224 it_m224 rfl rfl g2 ?_
      refine it_V.at (pc1 := 20) (ls1 := [some (.ref 66), some (.int v1), some (.int v2)]) (st1 := []) (mem1 := (it_sv m 68 (Int32.toNatClampNeg (m 66 2)) (it_i2b (it_i2b (it_shr v1 v2))))) rfl rfl rfl rfl ?_
      refine it_V.sN it_cd224 it_m224 8 (pc1 := 3) (ls1 := [some (.ref 66), some (.int v1), some (.int (v2 + (-8 : Int32)))]) (st1 := []) (mem1 := (it_sv (it_sv m 68 (Int32.toNatClampNeg (m 66 2)) (it_i2b (it_i2b (it_shr v1 v2)))) 66 2 (((it_sv m 68 (Int32.toNatClampNeg (m 66 2)) (it_i2b (it_i2b (it_shr v1 v2)))) 66 2) + (1 : Int32)))) rfl ?_
      exact ih v1 (v2 + (-8 : Int32)) (it_sv (it_sv m 68 (Int32.toNatClampNeg (m 66 2)) (it_i2b (it_i2b (it_shr v1 v2)))) 66 2 (((it_sv m 68 (Int32.toNatClampNeg (m 66 2)) (it_i2b (it_i2b (it_shr v1 v2)))) 66 2) + (1 : Int32))) h
set_option maxRecDepth 100000 in
set_option maxHeartbeats 4000000 in
theorem s_224_36 (kc : it_Kc) (Φ : it_Me → Prop) (m : it_Me) (h : w_224_36 kc Φ m) : it_V kc it_sh0 224 36 [none, none, none] [] m (it_Pv Φ) := by
  rw [w_224_36] at h
  exact it_V.ret it_cd224 it_m224 rfl rfl ⟨rfl, h⟩
set_option maxRecDepth 100000 in
set_option maxHeartbeats 4000000 in
theorem s_224 (kc : it_Kc) (x0 : Int32) (m : it_Me) (Φ : it_Me → Prop) (h : w_224 kc x0 m Φ) : it_V kc it_sh0 224 0 (it_loc0 [(.ref 66), (.int x0)] 3) [] m (it_Pv Φ) := by
  rw [w_224] at h
  refine it_V.at (pc1 := 0) (ls1 := [some (.ref 66), some (.int x0), none]) (st1 := []) (mem1 := m) rfl rfl rfl rfl ?_
  refine it_V.sN it_cd224 it_m224 2 (pc1 := 3) (ls1 := [some (.ref 66), some (.int x0), some (.int (24 : Int32))]) (st1 := []) (mem1 := m) rfl ?_
  obtain ⟨n, h⟩ := h
  exact s_224_3 kc Φ _ (fun m h => s_224_36 kc Φ m h) n x0 (24 : Int32) m h
set_option maxRecDepth 100000 in
set_option maxHeartbeats 4000000 in
theorem s_223 (kc : it_Kc) (x0 : Int32) (x1 : Int32) (x2 : Int32) (x3 : Int32) (x4 : Int32) (m : it_Me) (Φ : Int32 → it_Me → Prop) (h : w_223 kc x0 x1 x2 x3 x4 m Φ) : it_V kc it_sh0 223 0 (it_loc0 [(.ref 66), (.int x0), (.int x1), (.int x2), (.int x3), (.int x4)] 6) [] m (it_Pi Φ) := by
  rw [w_223] at h
  refine it_V.at (pc1 := 0) (ls1 := [some (.ref 66), some (.int x0), some (.int x1), some (.int x2), some (.int x3), some (.int x4)]) (st1 := []) (mem1 := m) rfl rfl rfl rfl ?_
  refine it_V.sN it_cd223 it_m223 6 (pc1 := (if ((m 66 2) + (20 : Int32)) ≤ (8192 : Int32) then 15 else 13)) (ls1 := [some (.ref 66), some (.int x0), some (.int x1), some (.int x2), some (.int x3), some (.int x4)]) (st1 := []) (mem1 := m) rfl ?_
  refine it_V.ite (fun c1 => ?_) (fun c1 => ?_)
  · have h := h.1 c1
    refine it_V.sN it_cd223 it_m223 2 (pc1 := 17) (ls1 := [some (.ref 66), some (.int x0), some (.int x1), some (.int x2), some (.int x3), some (.int x4)]) (st1 := [(.int x0), (.ref 66)]) (mem1 := m) rfl ?_
    refine it_V.call it_cd223 it_m223 rfl it_m224 [(.ref 66), (.int x0)] [] rfl rfl ⟨Nat.le_of_ble_eq_true rfl, Nat.le_of_ble_eq_true rfl, Nat.le_of_ble_eq_true rfl, Nat.le_of_ble_eq_true rfl, rfl⟩ (s_224 kc x0 m _ h) ?_
    rintro _ m2 ⟨rfl, h⟩
    refine it_V.at (pc1 := 20) (ls1 := [some (.ref 66), some (.int x0), some (.int x1), some (.int x2), some (.int x3), some (.int x4)]) (st1 := []) (mem1 := m2) rfl rfl rfl rfl ?_
    refine it_V.sN it_cd223 it_m223 2 (pc1 := 22) (ls1 := [some (.ref 66), some (.int x0), some (.int x1), some (.int x2), some (.int x3), some (.int x4)]) (st1 := [(.int x1), (.ref 66)]) (mem1 := m2) rfl ?_
    refine it_V.call it_cd223 it_m223 rfl it_m224 [(.ref 66), (.int x1)] [] rfl rfl ⟨Nat.le_of_ble_eq_true rfl, Nat.le_of_ble_eq_true rfl, Nat.le_of_ble_eq_true rfl, Nat.le_of_ble_eq_true rfl, rfl⟩ (s_224 kc x1 m2 _ h) ?_
    rintro _ m3 ⟨rfl, h⟩
    refine it_V.at (pc1 := 25) (ls1 := [some (.ref 66), some (.int x0), some (.int x1), some (.int x2), some (.int x3), some (.int x4)]) (st1 := []) (mem1 := m3) rfl rfl rfl rfl ?_
    refine it_V.sN it_cd223 it_m223 2 (pc1 := 27) (ls1 := [some (.ref 66), some (.int x0), some (.int x1), some (.int x2), some (.int x3), some (.int x4)]) (st1 := [(.int x2), (.ref 66)]) (mem1 := m3) rfl ?_
    refine it_V.call it_cd223 it_m223 rfl it_m224 [(.ref 66), (.int x2)] [] rfl rfl ⟨Nat.le_of_ble_eq_true rfl, Nat.le_of_ble_eq_true rfl, Nat.le_of_ble_eq_true rfl, Nat.le_of_ble_eq_true rfl, rfl⟩ (s_224 kc x2 m3 _ h) ?_
    rintro _ m4 ⟨rfl, h⟩
    refine it_V.at (pc1 := 30) (ls1 := [some (.ref 66), some (.int x0), some (.int x1), some (.int x2), some (.int x3), some (.int x4)]) (st1 := []) (mem1 := m4) rfl rfl rfl rfl ?_
    refine it_V.sN it_cd223 it_m223 2 (pc1 := 33) (ls1 := [some (.ref 66), some (.int x0), some (.int x1), some (.int x2), some (.int x3), some (.int x4)]) (st1 := [(.int x3), (.ref 66)]) (mem1 := m4) rfl ?_
    refine it_V.call it_cd223 it_m223 rfl it_m224 [(.ref 66), (.int x3)] [] rfl rfl ⟨Nat.le_of_ble_eq_true rfl, Nat.le_of_ble_eq_true rfl, Nat.le_of_ble_eq_true rfl, Nat.le_of_ble_eq_true rfl, rfl⟩ (s_224 kc x3 m4 _ h) ?_
    rintro _ m5 ⟨rfl, h⟩
    refine it_V.at (pc1 := 36) (ls1 := [some (.ref 66), some (.int x0), some (.int x1), some (.int x2), some (.int x3), some (.int x4)]) (st1 := []) (mem1 := m5) rfl rfl rfl rfl ?_
    refine it_V.sN it_cd223 it_m223 2 (pc1 := 39) (ls1 := [some (.ref 66), some (.int x0), some (.int x1), some (.int x2), some (.int x3), some (.int x4)]) (st1 := [(.int x4), (.ref 66)]) (mem1 := m5) rfl ?_
    refine it_V.call it_cd223 it_m223 rfl it_m224 [(.ref 66), (.int x4)] [] rfl rfl ⟨Nat.le_of_ble_eq_true rfl, Nat.le_of_ble_eq_true rfl, Nat.le_of_ble_eq_true rfl, Nat.le_of_ble_eq_true rfl, rfl⟩ (s_224 kc x4 m5 _ h) ?_
    rintro _ m6 ⟨rfl, h⟩
    refine it_V.at (pc1 := 42) (ls1 := [some (.ref 66), some (.int x0), some (.int x1), some (.int x2), some (.int x3), some (.int x4)]) (st1 := []) (mem1 := m6) rfl rfl rfl rfl ?_
    refine it_V.sN it_cd223 it_m223 2 (pc1 := 46) (ls1 := [some (.ref 66), some (.int x0), some (.int x1), some (.int x2), some (.int x3), some (.int x4)]) (st1 := [(.int (m6 66 2))]) (mem1 := m6) rfl ?_
    exact it_V.ret it_cd223 it_m223 rfl rfl ⟨_, rfl, h⟩
  · have h := h.2 c1
    refine it_V.sN it_cd223 it_m223 1 (pc1 := 14) (ls1 := [some (.ref 66), some (.int x0), some (.int x1), some (.int x2), some (.int x3), some (.int x4)]) (st1 := [(.int (-1 : Int32))]) (mem1 := m) rfl ?_
    exact it_V.ret it_cd223 it_m223 rfl rfl ⟨_, rfl, h⟩
set_option maxRecDepth 100000 in
set_option maxHeartbeats 4000000 in
theorem s_225_12 (kc : it_Kc) (Φ : Int32 → it_Me → Prop) (m : it_Me) (h : w_225_12 kc Φ m) : it_V kc it_sh0 225 12 [none, none] [] m (it_Pi Φ) := by
  rw [w_225_12] at h
  refine it_V.sN it_cd225 it_m225 1 (pc1 := 14) (ls1 := [none, none]) (st1 := [(.int (-2 : Int32))]) (mem1 := m) rfl ?_
  exact it_V.ret it_cd225 it_m225 rfl rfl ⟨_, rfl, h⟩
set_option maxRecDepth 100000 in
set_option maxHeartbeats 4000000 in
theorem s_225 (kc : it_Kc) (x0 : Int32) (m : it_Me) (Φ : Int32 → it_Me → Prop) (h : w_225 kc x0 m Φ) : it_V kc it_sh0 225 0 (it_loc0 [(.ref 66), (.int x0)] 2) [] m (it_Pi Φ) := by
  rw [w_225] at h
  refine it_V.at (pc1 := 0) (ls1 := [some (.ref 66), some (.int x0)]) (st1 := []) (mem1 := m) rfl rfl rfl rfl ?_
  refine it_V.sN it_cd225 it_m225 2 (pc1 := (if x0 < 0 then 12 else 4)) (ls1 := [some (.ref 66), some (.int x0)]) (st1 := []) (mem1 := m) rfl ?_
  refine it_V.ite (fun c1 => ?_) (fun c1 => ?_)
  · have h := h.1 c1
    refine it_V.weak (l := [none, none]) trivial ?_
    exact s_225_12 kc Φ m h
  · have h := h.2 c1
    refine it_V.sN it_cd225 it_m225 4 (pc1 := (if x0 ≤ (m 66 2) then 15 else 12)) (ls1 := [some (.ref 66), some (.int x0)]) (st1 := []) (mem1 := m) rfl ?_
    refine it_V.ite (fun c2 => ?_) (fun c2 => ?_)
    · have h := h.1 c2
      refine it_V.sN it_cd225 it_m225 4 (pc1 := 21) (ls1 := [some (.ref 66), some (.int x0)]) (st1 := [(.int x0)]) (mem1 := (it_sv m 66 2 x0)) rfl ?_
      exact it_V.ret it_cd225 it_m225 rfl rfl ⟨_, rfl, h⟩
    · have h := h.2 c2
      refine it_V.weak (l := [none, none]) trivial ?_
      exact s_225_12 kc Φ m h
set_option maxRecDepth 100000 in
set_option maxHeartbeats 4000000 in
theorem s_226_45 (kc : it_Kc) (Φ : Int32 → it_Me → Prop) (K70 : Int32 → it_Me → Prop) (hK70 : ∀ (v2 : Int32) (m : it_Me), K70 v2 m → it_V kc it_sh0 226 70 [none, none, some (.int v2), none] [] m (it_Pi Φ)) : ∀ (n : Nat) (v1 : Int32) (v2 : Int32) (v3 : Int32) (m : it_Me) (h : w_226_45 kc Φ K70 n v1 v2 v3 m), it_V kc it_sh0 226 45 [some (.ref 66), some (.int v1), some (.int v2), some (.int v3)] [] m (it_Pi Φ) := by
  intro n
  induction n with
  | zero => intro v1 v2 v3 m h; exact absurd h id
  | succ n ih =>
    intro v1 v2 v3 m h
    rw [w_226_45] at h
    refine it_V.sN it_cd226 it_m226 3 (pc1 := (if v2 ≤ v3 then 70 else 50)) (ls1 := [some (.ref 66), some (.int v1), some (.int v2), some (.int v3)]) (st1 := []) (mem1 := m) rfl ?_
    refine it_V.ite (fun c1 => ?_) (fun c1 => ?_)
    · have h := h.1 c1
      refine it_V.weak (l := [none, none, some (.int v2), none]) ⟨rfl, trivial⟩ ?_
      exact hK70 v2 m h
    · have h := h.2 c1
      refine it_V.sN it_cd226 it_m226 8 (pc1 := 62) (ls1 := [some (.ref 66), some (.int v1), some (.int v2), some (.int v3)]) (st1 := [(.int v3), (.ref 68), (.int (v1 + v3)), (.ref 67)]) (mem1 := m) rfl ?_
      obtain ⟨g2, h⟩ := h
      refine it_V.bald (t := 1) (n := 8192) it_cd226 it_m226 rfl rfl (by decide) g2 ?_
      refine it_V.at (pc1 := 63) (ls1 := [some (.ref 66), some (.int v1), some (.int v2), some (.int v3)]) (st1 := [(.int (m 68 (Int32.toNatClampNeg v3))), (.int (v1 + v3)), (.ref 67)]) (mem1 := m) rfl rfl rfl rfl ?_
      obtain ⟨g3, h⟩ := h
      refine it_V.bast (n := 196608) it_cd226 it_m226 rfl rfl g3 ?_
      refine it_V.at (pc1 := 64) (ls1 := [some (.ref 66), some (.int v1), some (.int v2), some (.int v3)]) (st1 := []) (mem1 := (it_sv m 67 (Int32.toNatClampNeg (v1 + v3)) (it_i2b (m 68 (Int32.toNatClampNeg v3))))) rfl rfl rfl rfl ?_
      refine it_V.sN it_cd226 it_m226 2 (pc1 := 45) (ls1 := [some (.ref 66), some (.int v1), some (.int v2), some (.int (v3 + (1 : Int32)))]) (st1 := []) (mem1 := (it_sv m 67 (Int32.toNatClampNeg (v1 + v3)) (it_i2b (m 68 (Int32.toNatClampNeg v3))))) rfl ?_
      exact ih v1 v2 (v3 + (1 : Int32)) (it_sv m 67 (Int32.toNatClampNeg (v1 + v3)) (it_i2b (m 68 (Int32.toNatClampNeg v3)))) h
set_option maxRecDepth 100000 in
set_option maxHeartbeats 4000000 in
theorem s_226_40 (kc : it_Kc) (Φ : Int32 → it_Me → Prop) (m : it_Me) (h : w_226_40 kc Φ m) : it_V kc it_sh0 226 40 [none, none, none, none] [] m (it_Pi Φ) := by
  rw [w_226_40] at h
  refine it_V.sN it_cd226 it_m226 1 (pc1 := 42) (ls1 := [none, none, none, none]) (st1 := [(.int (-2 : Int32))]) (mem1 := m) rfl ?_
  exact it_V.ret it_cd226 it_m226 rfl rfl ⟨_, rfl, h⟩
set_option maxRecDepth 100000 in
set_option maxHeartbeats 4000000 in
theorem s_226_70 (kc : it_Kc) (Φ : Int32 → it_Me → Prop) (v2 : Int32) (m : it_Me) (h : w_226_70 kc Φ v2 m) : it_V kc it_sh0 226 70 [none, none, some (.int v2), none] [] m (it_Pi Φ) := by
  rw [w_226_70] at h
  refine it_V.sN it_cd226 it_m226 1 (pc1 := 71) (ls1 := [none, none, some (.int v2), none]) (st1 := [(.int v2)]) (mem1 := m) rfl ?_
  exact it_V.ret it_cd226 it_m226 rfl rfl ⟨_, rfl, h⟩
set_option maxRecDepth 100000 in
set_option maxHeartbeats 4000000 in
theorem s_226 (kc : it_Kc) (x0 : Int32) (m : it_Me) (Φ : Int32 → it_Me → Prop) (h : w_226 kc x0 m Φ) : it_V kc it_sh0 226 0 (it_loc0 [(.ref 66), (.int x0)] 4) [] m (it_Pi Φ) := by
  rw [w_226] at h
  refine it_V.at (pc1 := 0) (ls1 := [some (.ref 66), some (.int x0), none, none]) (st1 := []) (mem1 := m) rfl rfl rfl rfl ?_
  refine it_V.sN it_cd226 it_m226 9 (pc1 := (if ((it_sv m 66 2 (0 : Int32)) 66 3) = 0 then 20 else 17)) (ls1 := [some (.ref 66), some (.int x0), some (.int (m 66 2)), none]) (st1 := []) (mem1 := (it_sv m 66 2 (0 : Int32))) rfl ?_
  refine it_V.ite (fun c1 => ?_) (fun c1 => ?_)
  · have h := h.1 c1
    refine it_V.sN it_cd226 it_m226 3 (pc1 := (if x0 < (65536 : Int32) then 40 else 26)) (ls1 := [some (.ref 66), some (.int x0), some (.int (m 66 2)), none]) (st1 := []) (mem1 := (it_sv m 66 2 (0 : Int32))) rfl ?_
    refine it_V.ite (fun c2 => ?_) (fun c2 => ?_)
    · have h := h.1 c2
      refine it_V.weak (l := [none, none, none, none]) trivial ?_
      exact s_226_40 kc Φ (it_sv m 66 2 (0 : Int32)) h
    · have h := h.2 c2
      refine it_V.sN it_cd226 it_m226 3 (pc1 := (if (131072 : Int32) < x0 then 40 else 32)) (ls1 := [some (.ref 66), some (.int x0), some (.int (m 66 2)), none]) (st1 := []) (mem1 := (it_sv m 66 2 (0 : Int32))) rfl ?_
      refine it_V.ite (fun c3 => ?_) (fun c3 => ?_)
      · have h := h.1 c3
        refine it_V.weak (l := [none, none, none, none]) trivial ?_
        exact s_226_40 kc Φ (it_sv m 66 2 (0 : Int32)) h
      · have h := h.2 c3
        refine it_V.sN it_cd226 it_m226 5 (pc1 := (if (x0 + (m 66 2)) ≤ (131072 : Int32) then 43 else 40)) (ls1 := [some (.ref 66), some (.int x0), some (.int (m 66 2)), none]) (st1 := []) (mem1 := (it_sv m 66 2 (0 : Int32))) rfl ?_
        refine it_V.ite (fun c4 => ?_) (fun c4 => ?_)
        · have h := h.1 c4
          refine it_V.sN it_cd226 it_m226 2 (pc1 := 45) (ls1 := [some (.ref 66), some (.int x0), some (.int (m 66 2)), some (.int (0 : Int32))]) (st1 := []) (mem1 := (it_sv m 66 2 (0 : Int32))) rfl ?_
          obtain ⟨n, h⟩ := h
          exact s_226_45 kc Φ _ (fun v2 m h => s_226_70 kc Φ v2 m h) n x0 (m 66 2) (0 : Int32) (it_sv m 66 2 (0 : Int32)) h
        · have h := h.2 c4
          refine it_V.weak (l := [none, none, none, none]) trivial ?_
          exact s_226_40 kc Φ (it_sv m 66 2 (0 : Int32)) h
  · have h := h.2 c1
    refine it_V.sN it_cd226 it_m226 1 (pc1 := 19) (ls1 := [some (.ref 66), some (.int x0), some (.int (m 66 2)), none]) (st1 := [(.int (-3 : Int32))]) (mem1 := (it_sv m 66 2 (0 : Int32))) rfl ?_
    exact it_V.ret it_cd226 it_m226 rfl rfl ⟨_, rfl, h⟩
set_option maxRecDepth 100000 in
set_option maxHeartbeats 4000000 in
theorem s_228_18 (kc : it_Kc) (Φ : it_Me → Prop) (K37 : it_Me → Prop) (hK37 : ∀ (m : it_Me), K37 m → it_V kc it_sh0 228 37 [none, none] [] m (it_Pv Φ)) : ∀ (n : Nat) (v1 : Int32) (m : it_Me) (h : w_228_18 kc Φ K37 n v1 m), it_V kc it_sh0 228 18 [some (.ref 66), some (.int v1)] [] m (it_Pv Φ) := by
  intro n
  induction n with
  | zero => intro v1 m h; exact absurd h id
  | succ n ih =>
    intro v1 m h
    rw [w_228_18] at h
    refine it_V.sN it_cd228 it_m228 3 (pc1 := (if (196608 : Int32) ≤ v1 then 37 else 24)) (ls1 := [some (.ref 66), some (.int v1)]) (st1 := []) (mem1 := m) rfl ?_
    refine it_V.ite (fun c1 => ?_) (fun c1 => ?_)
    · have h := h.1 c1
      refine it_V.weak (l := [none, none]) trivial ?_
      exact hK37 m h
    · have h := h.2 c1
      refine it_V.sN it_cd228 it_m228 4 (pc1 := 30) (ls1 := [some (.ref 66), some (.int v1)]) (st1 := [(.int (0 : Int32)), (.int v1), (.ref 67)]) (mem1 := m) rfl ?_
      obtain ⟨g2, h⟩ := h
      refine it_V.bast (n := 196608) it_cd228 it_m228 rfl rfl g2 ?_
      refine it_V.at (pc1 := 31) (ls1 := [some (.ref 66), some (.int v1)]) (st1 := []) (mem1 := (it_sv m 67 (Int32.toNatClampNeg v1) (it_i2b (0 : Int32)))) rfl rfl rfl rfl ?_
      refine it_V.sN it_cd228 it_m228 2 (pc1 := 18) (ls1 := [some (.ref 66), some (.int (v1 + (1 : Int32)))]) (st1 := []) (mem1 := (it_sv m 67 (Int32.toNatClampNeg v1) (it_i2b (0 : Int32)))) rfl ?_
      exact ih (v1 + (1 : Int32)) (it_sv m 67 (Int32.toNatClampNeg v1) (it_i2b (0 : Int32))) h
set_option maxRecDepth 100000 in
set_option maxHeartbeats 4000000 in
theorem s_228_37 (kc : it_Kc) (Φ : it_Me → Prop) (m : it_Me) (h : w_228_37 kc Φ m) : it_V kc it_sh0 228 37 [none, none] [] m (it_Pv Φ) := by
  rw [w_228_37] at h
  exact it_V.ret it_cd228 it_m228 rfl rfl ⟨rfl, h⟩
set_option maxRecDepth 100000 in
set_option maxHeartbeats 4000000 in
theorem s_228 (kc : it_Kc) (m : it_Me) (Φ : it_Me → Prop) (h : w_228 kc m Φ) : it_V kc it_sh0 228 0 (it_loc0 [(.ref 66)] 2) [] m (it_Pv Φ) := by
  rw [w_228] at h
  refine it_V.at (pc1 := 0) (ls1 := [some (.ref 66), none]) (st1 := []) (mem1 := m) rfl rfl rfl rfl ?_
  refine it_V.sN it_cd228 it_m228 11 (pc1 := 18) (ls1 := [some (.ref 66), some (.int (131072 : Int32))]) (st1 := []) (mem1 := (it_sv (it_sv (it_sv m 66 3 (0 : Int32)) 66 6 (0 : Int32)) 66 34 (0 : Int32))) rfl ?_
  obtain ⟨n, h⟩ := h
  exact s_228_18 kc Φ _ (fun m h => s_228_37 kc Φ m h) n (131072 : Int32) (it_sv (it_sv (it_sv m 66 3 (0 : Int32)) 66 6 (0 : Int32)) 66 34 (0 : Int32)) h
set_option maxRecDepth 100000 in
set_option maxHeartbeats 4000000 in
theorem s_227 (kc : it_Kc) (m : it_Me) (Φ : Int32 → it_Me → Prop) (h : w_227 kc m Φ) : it_V kc it_sh0 227 0 (it_loc0 [(.ref 66)] 1) [] m (it_Pi Φ) := by
  rw [w_227] at h
  refine it_V.at (pc1 := 0) (ls1 := [some (.ref 66)]) (st1 := []) (mem1 := m) rfl rfl rfl rfl ?_
  refine it_V.sN it_cd227 it_m227 3 (pc1 := (if (m 66 3) = 0 then 7 else 10)) (ls1 := [some (.ref 66)]) (st1 := []) (mem1 := m) rfl ?_
  refine it_V.ite (fun c1 => ?_) (fun c1 => ?_)
  · have h := h.1 c1
    refine it_V.sN it_cd227 it_m227 1 (pc1 := 9) (ls1 := [some (.ref 66)]) (st1 := [(.int (-3 : Int32))]) (mem1 := m) rfl ?_
    exact it_V.ret it_cd227 it_m227 rfl rfl ⟨_, rfl, h⟩
  · have h := h.2 c1
    refine it_V.sN it_cd227 it_m227 1 (pc1 := 11) (ls1 := [some (.ref 66)]) (st1 := [(.ref 66)]) (mem1 := m) rfl ?_
    refine it_V.call it_cd227 it_m227 rfl it_m228 [(.ref 66)] [] rfl rfl ⟨Nat.le_of_ble_eq_true rfl, Nat.le_of_ble_eq_true rfl, Nat.le_of_ble_eq_true rfl, Nat.le_of_ble_eq_true rfl, rfl⟩ (s_228 kc m _ h) ?_
    rintro _ m2 ⟨rfl, h⟩
    refine it_V.at (pc1 := 14) (ls1 := [some (.ref 66)]) (st1 := []) (mem1 := m2) rfl rfl rfl rfl ?_
    refine it_V.sN it_cd227 it_m227 1 (pc1 := 15) (ls1 := [some (.ref 66)]) (st1 := [(.int (1 : Int32))]) (mem1 := m2) rfl ?_
    exact it_V.ret it_cd227 it_m227 rfl rfl ⟨_, rfl, h⟩
set_option maxRecDepth 100000 in
set_option maxHeartbeats 4000000 in
theorem s_229_12 (kc : it_Kc) (Φ : Int32 → it_Me → Prop) (m : it_Me) (h : w_229_12 kc Φ m) : it_V kc it_sh0 229 12 [none, none] [] m (it_Pi Φ) := by
  rw [w_229_12] at h
  refine it_V.sN it_cd229 it_m229 1 (pc1 := 14) (ls1 := [none, none]) (st1 := [(.int (-2 : Int32))]) (mem1 := m) rfl ?_
  exact it_V.ret it_cd229 it_m229 rfl rfl ⟨_, rfl, h⟩
set_option maxRecDepth 100000 in
set_option maxHeartbeats 4000000 in
theorem s_229 (kc : it_Kc) (x0 : Int32) (m : it_Me) (Φ : Int32 → it_Me → Prop) (h : w_229 kc x0 m Φ) : it_V kc it_sh0 229 0 (it_loc0 [(.ref 66), (.int x0)] 2) [] m (it_Pi Φ) := by
  rw [w_229] at h
  refine it_V.at (pc1 := 0) (ls1 := [some (.ref 66), some (.int x0)]) (st1 := []) (mem1 := m) rfl rfl rfl rfl ?_
  refine it_V.sN it_cd229 it_m229 3 (pc1 := (if x0 < (-1 : Int32) then 12 else 5)) (ls1 := [some (.ref 66), some (.int x0)]) (st1 := []) (mem1 := m) rfl ?_
  refine it_V.ite (fun c1 => ?_) (fun c1 => ?_)
  · have h := h.1 c1
    refine it_V.weak (l := [none, none]) trivial ?_
    exact s_229_12 kc Φ m h
  · have h := h.2 c1
    refine it_V.sN it_cd229 it_m229 3 (pc1 := (if x0 ≤ (10000 : Int32) then 15 else 12)) (ls1 := [some (.ref 66), some (.int x0)]) (st1 := []) (mem1 := m) rfl ?_
    refine it_V.ite (fun c2 => ?_) (fun c2 => ?_)
    · have h := h.1 c2
      refine it_V.sN it_cd229 it_m229 4 (pc1 := 21) (ls1 := [some (.ref 66), some (.int x0)]) (st1 := [(.int (1 : Int32))]) (mem1 := (it_sv m 66 5 x0)) rfl ?_
      exact it_V.ret it_cd229 it_m229 rfl rfl ⟨_, rfl, h⟩
    · have h := h.2 c2
      refine it_V.weak (l := [none, none]) trivial ?_
      exact s_229_12 kc Φ m h
set_option maxRecDepth 100000 in
set_option maxHeartbeats 4000000 in
theorem s_230_38 (kc : it_Kc) (Φ : Int32 → it_Me → Prop) (u1 : Int32) (m : it_Me) (h : w_230_38 kc Φ u1 m) : it_V kc it_sh0 230 38 [some (.ref 66)] [(.int u1), (.ref 66)] m (it_Pi Φ) := by
  rw [w_230_38] at h
  refine it_V.sN it_cd230 it_m230 5 (pc1 := 47) (ls1 := [some (.ref 66)]) (st1 := [(.int (4 : Int32)), (.ref 69), (.int (4 : Int32)), (.ref 69)]) (mem1 := (it_sv m 66 5 u1)) rfl ?_
  obtain ⟨g1, h⟩ := h
  refine it_V.iald it_cd230 it_m230 rfl ((⟨rfl, by decide⟩ : it_isR 69 12)).2 ((⟨rfl, by decide⟩ : it_isR 69 12)).1 g1 ?_
  refine it_V.at (pc1 := 48) (ls1 := [some (.ref 66)]) (st1 := [(.int ((it_sv m 66 5 u1) 69 (Int32.toNatClampNeg (4 : Int32)))), (.int (4 : Int32)), (.ref 69)]) (mem1 := (it_sv m 66 5 u1)) rfl rfl rfl rfl ?_
  refine it_V.sN it_cd230 it_m230 2 (pc1 := 50) (ls1 := [some (.ref 66)]) (st1 := [(.int (((it_sv m 66 5 u1) 69 (Int32.toNatClampNeg (4 : Int32))) + (1 : Int32))), (.int (4 : Int32)), (.ref 69)]) (mem1 := (it_sv m 66 5 u1)) rfl ?_
  obtain ⟨g2, h⟩ := h
  refine it_V.iast it_cd230 it_m230 rfl ((⟨rfl, by decide⟩ : it_isR 69 12)).1 g2 ?_
  refine it_V.at (pc1 := 51) (ls1 := [some (.ref 66)]) (st1 := []) (mem1 := (it_sv (it_sv m 66 5 u1) 69 (Int32.toNatClampNeg (4 : Int32)) (((it_sv m 66 5 u1) 69 (Int32.toNatClampNeg (4 : Int32))) + (1 : Int32)))) rfl rfl rfl rfl ?_
  refine it_V.sN it_cd230 it_m230 1 (pc1 := 52) (ls1 := [some (.ref 66)]) (st1 := [(.int (1 : Int32))]) (mem1 := (it_sv (it_sv m 66 5 u1) 69 (Int32.toNatClampNeg (4 : Int32)) (((it_sv m 66 5 u1) 69 (Int32.toNatClampNeg (4 : Int32))) + (1 : Int32)))) rfl ?_
  exact it_V.ret it_cd230 it_m230 rfl rfl ⟨_, rfl, h⟩
set_option maxRecDepth 100000 in
set_option maxHeartbeats 4000000 in
theorem s_230 (kc : it_Kc) (m : it_Me) (Φ : Int32 → it_Me → Prop) (h : w_230 kc m Φ) : it_V kc it_sh0 230 0 (it_loc0 [(.ref 66)] 1) [] m (it_Pi Φ) := by
  rw [w_230] at h
  refine it_V.at (pc1 := 0) (ls1 := [some (.ref 66)]) (st1 := []) (mem1 := m) rfl rfl rfl rfl ?_
  refine it_V.sN it_cd230 it_m230 3 (pc1 := (if (m 66 5) = 0 then 7 else 19)) (ls1 := [some (.ref 66)]) (st1 := []) (mem1 := m) rfl ?_
  refine it_V.ite (fun c1 => ?_) (fun c1 => ?_)
  · have h := h.1 c1
    refine it_V.sN it_cd230 it_m230 7 (pc1 := 18) (ls1 := [some (.ref 66)]) (st1 := [(.int (0 : Int32))]) (mem1 := (it_sv (it_sv m 66 5 (-1 : Int32)) 66 4 (1 : Int32))) rfl ?_
    exact it_V.ret it_cd230 it_m230 rfl rfl ⟨_, rfl, h⟩
  · have h := h.2 c1
    refine it_V.sN it_cd230 it_m230 5 (pc1 := (if (m 66 5) = (-1 : Int32) then 28 else 32)) (ls1 := [some (.ref 66)]) (st1 := [(.ref 66)]) (mem1 := m) rfl ?_
    refine it_V.ite (fun c2 => ?_) (fun c2 => ?_)
    · have h := h.1 c2
      refine it_V.sN it_cd230 it_m230 2 (pc1 := 38) (ls1 := [some (.ref 66)]) (st1 := [(.int (-1 : Int32)), (.ref 66)]) (mem1 := m) rfl ?_
      exact s_230_38 kc Φ (-1 : Int32) m h
    · have h := h.2 c2
      refine it_V.sN it_cd230 it_m230 4 (pc1 := 38) (ls1 := [some (.ref 66)]) (st1 := [(.int ((m 66 5) - (1 : Int32))), (.ref 66)]) (mem1 := m) rfl ?_
      exact s_230_38 kc Φ ((m 66 5) - (1 : Int32)) m h
set_option maxRecDepth 100000 in
set_option maxHeartbeats 4000000 in
theorem s_231_20 (kc : it_Kc) (Φ : it_Me → Prop) (m : it_Me) (h : w_231_20 kc Φ m) : it_V kc it_sh0 231 20 [none, none, none] [] m (it_Pv Φ) := by
  rw [w_231_20] at h
  exact it_V.ret it_cd231 it_m231 rfl rfl ⟨rfl, h⟩
set_option maxRecDepth 100000 in
set_option maxHeartbeats 4000000 in
theorem s_231 (kc : it_Kc) (x0 : Int32) (x1 : Int32) (m : it_Me) (Φ : it_Me → Prop) (h : w_231 kc x0 x1 m Φ) : it_V kc it_sh0 231 0 (it_loc0 [(.ref 66), (.int x0), (.int x1)] 3) [] m (it_Pv Φ) := by
  rw [w_231] at h
  refine it_V.at (pc1 := 0) (ls1 := [some (.ref 66), some (.int x0), some (.int x1)]) (st1 := []) (mem1 := m) rfl rfl rfl rfl ?_
  refine it_V.sN it_cd231 it_m231 3 (pc1 := (if (m 66 4) = 0 then 7 else 20)) (ls1 := [some (.ref 66), some (.int x0), some (.int x1)]) (st1 := []) (mem1 := m) rfl ?_
  refine it_V.ite (fun c1 => ?_) (fun c1 => ?_)
  · have h := h.1 c1
    refine it_V.sN it_cd231 it_m231 1 (pc1 := 8) (ls1 := [some (.ref 66), some (.int x0), some (.int x1)]) (st1 := [(.ref 66)]) (mem1 := m) rfl ?_
    refine it_V.call it_cd231 it_m231 rfl it_m230 [(.ref 66)] [] rfl rfl ⟨Nat.le_of_ble_eq_true rfl, Nat.le_of_ble_eq_true rfl, Nat.le_of_ble_eq_true rfl, Nat.le_of_ble_eq_true rfl, rfl⟩ (s_230 kc m _ h) ?_
    rintro _ m3 ⟨r2, rfl, h⟩
    refine it_V.at (pc1 := 11) (ls1 := [some (.ref 66), some (.int x0), some (.int x1)]) (st1 := [(.int r2)]) (mem1 := m3) rfl rfl rfl rfl ?_
    refine it_V.sN it_cd231 it_m231 1 (pc1 := (if r2 = 0 then 20 else 14)) (ls1 := [some (.ref 66), some (.int x0), some (.int x1)]) (st1 := []) (mem1 := m3) rfl ?_
    refine it_V.ite (fun c4 => ?_) (fun c4 => ?_)
    · have h := h.1 c4
      refine it_V.weak (l := [none, none, none]) trivial ?_
      exact s_231_20 kc Φ m3 h
    · have h := h.2 c4
      refine it_V.sN it_cd231 it_m231 3 (pc1 := 17) (ls1 := [some (.ref 66), some (.int x0), some (.int x1)]) (st1 := [(.int x1), (.int x0), (.ref 66)]) (mem1 := m3) rfl ?_
      refine it_V.call it_cd231 it_m231 rfl it_m221 [(.ref 66), (.int x0), (.int x1)] [] rfl rfl ⟨Nat.le_of_ble_eq_true rfl, Nat.le_of_ble_eq_true rfl, Nat.le_of_ble_eq_true rfl, Nat.le_of_ble_eq_true rfl, rfl⟩ (s_221 kc x0 x1 m3 _ h) ?_
      rintro _ m5 ⟨rfl, h⟩
      refine it_V.at (pc1 := 20) (ls1 := [some (.ref 66), some (.int x0), some (.int x1)]) (st1 := []) (mem1 := m5) rfl rfl rfl rfl ?_
      refine it_V.weak (l := [none, none, none]) trivial ?_
      exact s_231_20 kc Φ m5 h
  · have h := h.2 c1
    refine it_V.weak (l := [none, none, none]) trivial ?_
    exact s_231_20 kc Φ m h
set_option maxRecDepth 100000 in
set_option maxHeartbeats 4000000 in
theorem s_232_27 (kc : it_Kc) (Φ : it_Me → Prop) (K54 : it_Me → Prop) (hK54 : ∀ (m : it_Me), K54 m → it_V kc it_sh0 232 54 [none, none, none, none] [] m (it_Pv Φ)) : ∀ (n : Nat) (v1 : Int32) (v2 : Int32) (v3 : Int32) (m : it_Me) (h : w_232_27 kc Φ K54 n v1 v2 v3 m), it_V kc it_sh0 232 27 [some (.ref 66), some (.int v1), some (.int v2), some (.int v3)] [] m (it_Pv Φ) := by
  intro n
  induction n with
  | zero => intro v1 v2 v3 m h; exact absurd h id
  | succ n ih =>
    intro v1 v2 v3 m h
    rw [w_232_27] at h
    refine it_V.sN it_cd232 it_m232 3 (pc1 := (if v2 ≤ v3 then 54 else 32)) (ls1 := [some (.ref 66), some (.int v1), some (.int v2), some (.int v3)]) (st1 := []) (mem1 := m) rfl ?_
    refine it_V.ite (fun c1 => ?_) (fun c1 => ?_)
    · have h := h.1 c1
      refine it_V.weak (l := [none, none, none, none]) trivial ?_
      exact hK54 m h
    · have h := h.2 c1
      refine it_V.sN it_cd232 it_m232 10 (pc1 := 47) (ls1 := [some (.ref 66), some (.int v1), some (.int v2), some (.int v3)]) (st1 := [(.int (-1 : Int32)), (.int (((126976 : Int32) + ((2048 : Int32) * v1)) + v3)), (.ref 67)]) (mem1 := m) rfl ?_
      obtain ⟨g2, h⟩ := h
      refine it_V.bast (n := 196608) it_cd232 it_m232 rfl rfl g2 ?_
      refine it_V.at (pc1 := 48) (ls1 := [some (.ref 66), some (.int v1), some (.int v2), some (.int v3)]) (st1 := []) (mem1 := (it_sv m 67 (Int32.toNatClampNeg (((126976 : Int32) + ((2048 : Int32) * v1)) + v3)) (it_i2b (-1 : Int32)))) rfl rfl rfl rfl ?_
      refine it_V.sN it_cd232 it_m232 2 (pc1 := 27) (ls1 := [some (.ref 66), some (.int v1), some (.int v2), some (.int (v3 + (1 : Int32)))]) (st1 := []) (mem1 := (it_sv m 67 (Int32.toNatClampNeg (((126976 : Int32) + ((2048 : Int32) * v1)) + v3)) (it_i2b (-1 : Int32)))) rfl ?_
      exact ih v1 v2 (v3 + (1 : Int32)) (it_sv m 67 (Int32.toNatClampNeg (((126976 : Int32) + ((2048 : Int32) * v1)) + v3)) (it_i2b (-1 : Int32))) h
set_option maxRecDepth 100000 in
set_option maxHeartbeats 4000000 in
theorem s_232_54 (kc : it_Kc) (Φ : it_Me → Prop) (m : it_Me) (h : w_232_54 kc Φ m) : it_V kc it_sh0 232 54 [none, none, none, none] [] m (it_Pv Φ) := by
  rw [w_232_54] at h
  exact it_V.ret it_cd232 it_m232 rfl rfl ⟨rfl, h⟩
set_option maxRecDepth 100000 in
set_option maxHeartbeats 4000000 in
theorem s_232_24 (kc : it_Kc) (Φ : it_Me → Prop) (v1 : Int32) (u0 : Int32) (m : it_Me) (h : w_232_24 kc Φ v1 u0 m) : it_V kc it_sh0 232 24 [some (.ref 66), some (.int v1), none, none] [(.int u0)] m (it_Pv Φ) := by
  rw [w_232_24] at h
  refine it_V.sN it_cd232 it_m232 3 (pc1 := 27) (ls1 := [some (.ref 66), some (.int v1), some (.int u0), some (.int (0 : Int32))]) (st1 := []) (mem1 := m) rfl ?_
  obtain ⟨n, h⟩ := h
  exact s_232_27 kc Φ _ (fun m h => s_232_54 kc Φ m h) n v1 u0 (0 : Int32) m h
set_option maxRecDepth 100000 in
set_option maxHeartbeats 4000000 in
theorem s_232 (kc : it_Kc) (x0 : Int32) (m : it_Me) (Φ : it_Me → Prop) (h : w_232 kc x0 m Φ) : it_V kc it_sh0 232 0 (it_loc0 [(.ref 66), (.int x0)] 4) [] m (it_Pv Φ) := by
  rw [w_232] at h
  refine it_V.at (pc1 := 0) (ls1 := [some (.ref 66), some (.int x0), none, none]) (st1 := []) (mem1 := m) rfl rfl rfl rfl ?_
  refine it_V.sN it_cd232 it_m232 3 (pc1 := (if (m 66 4) = 0 then 8 else 7)) (ls1 := [some (.ref 66), some (.int x0), none, none]) (st1 := []) (mem1 := m) rfl ?_
  refine it_V.ite (fun c1 => ?_) (fun c1 => ?_)
  · have h := h.1 c1
    refine it_V.sN it_cd232 it_m232 1 (pc1 := 9) (ls1 := [some (.ref 66), some (.int x0), none, none]) (st1 := [(.ref 66)]) (mem1 := m) rfl ?_
    refine it_V.call it_cd232 it_m232 rfl it_m230 [(.ref 66)] [] rfl rfl ⟨Nat.le_of_ble_eq_true rfl, Nat.le_of_ble_eq_true rfl, Nat.le_of_ble_eq_true rfl, Nat.le_of_ble_eq_true rfl, rfl⟩ (s_230 kc m _ h) ?_
    rintro _ m3 ⟨r2, rfl, h⟩
    refine it_V.at (pc1 := 12) (ls1 := [some (.ref 66), some (.int x0), none, none]) (st1 := [(.int r2)]) (mem1 := m3) rfl rfl rfl rfl ?_
    refine it_V.sN it_cd232 it_m232 1 (pc1 := (if r2 = 0 then 21 else 15)) (ls1 := [some (.ref 66), some (.int x0), none, none]) (st1 := []) (mem1 := m3) rfl ?_
    refine it_V.ite (fun c4 => ?_) (fun c4 => ?_)
    · have h := h.1 c4
      refine it_V.sN it_cd232 it_m232 1 (pc1 := 24) (ls1 := [some (.ref 66), some (.int x0), none, none]) (st1 := [(.int (1024 : Int32))]) (mem1 := m3) rfl ?_
      exact s_232_24 kc Φ x0 (1024 : Int32) m3 h
    · have h := h.2 c4
      refine it_V.sN it_cd232 it_m232 2 (pc1 := 24) (ls1 := [some (.ref 66), some (.int x0), none, none]) (st1 := [(.int (2048 : Int32))]) (mem1 := m3) rfl ?_
      exact s_232_24 kc Φ x0 (2048 : Int32) m3 h
  · have h := h.2 c1
    exact it_V.ret it_cd232 it_m232 rfl rfl ⟨rfl, h⟩
set_option maxRecDepth 100000 in
set_option maxHeartbeats 4000000 in
theorem s_233 (kc : it_Kc) (x0 : Int32) (m : it_Me) (Φ : Int32 → it_Me → Prop) (h : w_233 kc x0 m Φ) : it_V kc it_sh0 233 0 (it_loc0 [(.ref 66), (.int x0)] 2) [] m (it_Pi Φ) := by
  rw [w_233] at h
  refine it_V.at (pc1 := 0) (ls1 := [some (.ref 66), some (.int x0)]) (st1 := []) (mem1 := m) rfl rfl rfl rfl ?_
  refine it_V.sN it_cd233 it_m233 5 (pc1 := 8) (ls1 := [some (.ref 66), some (.int x0)]) (st1 := [(.int ((126976 : Int32) + ((2048 : Int32) * x0)))]) (mem1 := m) rfl ?_
  exact it_V.ret it_cd233 it_m233 rfl rfl ⟨_, rfl, h⟩
set_option maxRecDepth 100000 in
set_option maxHeartbeats 4000000 in
theorem s_234_23 (kc : it_Kc) (Φ : Int32 → it_Me → Prop) (u0 : Int32) (m : it_Me) (h : w_234_23 kc Φ u0 m) : it_V kc it_sh0 234 23 [none, none] [(.int u0)] m (it_Pi Φ) := by
  rw [w_234_23] at h
  exact it_V.retZ it_cd234 it_m234 rfl rfl h.1 ⟨_, rfl, h.2⟩
set_option maxRecDepth 100000 in
set_option maxHeartbeats 4000000 in
theorem s_234 (kc : it_Kc) (x0 : Int32) (m : it_Me) (Φ : Int32 → it_Me → Prop) (h : w_234 kc x0 m Φ) : it_V kc it_sh0 234 0 (it_loc0 [(.ref 66), (.int x0)] 2) [] m (it_Pi Φ) := by
  rw [w_234] at h
  refine it_V.at (pc1 := 0) (ls1 := [some (.ref 66), some (.int x0)]) (st1 := []) (mem1 := m) rfl rfl rfl rfl ?_
  refine it_V.sN it_cd234 it_m234 3 (pc1 := 3) (ls1 := [some (.ref 66), some (.int x0)]) (st1 := [(.int x0), (.ref 66), (.ref 66)]) (mem1 := m) rfl ?_
  refine it_V.call it_cd234 it_m234 rfl it_m233 [(.ref 66), (.int x0)] [(.ref 66)] rfl rfl ⟨Nat.le_of_ble_eq_true rfl, Nat.le_of_ble_eq_true rfl, Nat.le_of_ble_eq_true rfl, Nat.le_of_ble_eq_true rfl, rfl⟩ (s_233 kc x0 m _ h) ?_
  rintro _ m2 ⟨r1, rfl, h⟩
  refine it_V.at (pc1 := 6) (ls1 := [some (.ref 66), some (.int x0)]) (st1 := [(.int r1), (.ref 66)]) (mem1 := m2) rfl rfl rfl rfl ?_
  refine it_V.call it_cd234 it_m234 rfl it_m220 [(.ref 66), (.int r1)] [] rfl rfl ⟨Nat.le_of_ble_eq_true rfl, Nat.le_of_ble_eq_true rfl, Nat.le_of_ble_eq_true rfl, Nat.le_of_ble_eq_true rfl, rfl⟩ (s_220 kc r1 m2 _ h) ?_
  rintro _ m4 ⟨r3, rfl, h⟩
  refine it_V.at (pc1 := 9) (ls1 := [some (.ref 66), some (.int x0)]) (st1 := [(.int r3)]) (mem1 := m4) rfl rfl rfl rfl ?_
  refine it_V.sN it_cd234 it_m234 4 (pc1 := (if (it_us r3 (16 : Int32)) = (19286 : Int32) then 18 else 22)) (ls1 := [some (.ref 66), some (.int x0)]) (st1 := []) (mem1 := m4) rfl ?_
  refine it_V.ite (fun c5 => ?_) (fun c5 => ?_)
  · have h := h.1 c5
    refine it_V.sN it_cd234 it_m234 2 (pc1 := 23) (ls1 := [some (.ref 66), some (.int x0)]) (st1 := [(.int (1 : Int32))]) (mem1 := m4) rfl ?_
    refine it_V.weak (l := [none, none]) trivial ?_
    exact s_234_23 kc Φ (1 : Int32) m4 h
  · have h := h.2 c5
    refine it_V.sN it_cd234 it_m234 1 (pc1 := 23) (ls1 := [some (.ref 66), some (.int x0)]) (st1 := [(.int (0 : Int32))]) (mem1 := m4) rfl ?_
    refine it_V.weak (l := [none, none]) trivial ?_
    exact s_234_23 kc Φ (0 : Int32) m4 h
set_option maxRecDepth 100000 in
set_option maxHeartbeats 4000000 in
theorem s_235_114 (kc : it_Kc) (Φ : Int32 → it_Me → Prop) (K140 : Int32 → Int32 → it_Me → Prop) (hK140 : ∀ (v7 : Int32) (v8 : Int32) (m : it_Me), K140 v7 v8 m → it_V kc it_sh0 235 140 [some (.ref 66), none, none, none, none, none, none, some (.int v7), some (.int v8), none] [] m (it_Pi Φ)) : ∀ (n : Nat) (v7 : Int32) (v8 : Int32) (v9 : Int32) (m : it_Me) (h : w_235_114 kc Φ K140 n v7 v8 v9 m), it_V kc it_sh0 235 114 [some (.ref 66), none, none, none, none, none, none, some (.int v7), some (.int v8), some (.int v9)] [] m (it_Pi Φ) := by
  intro n
  induction n with
  | zero => intro v7 v8 v9 m h; exact absurd h id
  | succ n ih =>
    intro v7 v8 v9 m h
    rw [w_235_114] at h
    refine it_V.sN it_cd235 it_m235 5 (pc1 := (if (v7 - (4 : Int32)) ≤ v9 then 140 else 123)) (ls1 := [some (.ref 66), none, none, none, none, none, none, some (.int v7), some (.int v8), some (.int v9)]) (st1 := []) (mem1 := m) rfl ?_
    refine it_V.ite (fun c1 => ?_) (fun c1 => ?_)
    · have h := h.1 c1
      refine it_V.weak (l := [some (.ref 66), none, none, none, none, none, none, some (.int v7), some (.int v8), none]) ⟨rfl, ⟨rfl, ⟨rfl, trivial⟩⟩⟩ ?_
      exact hK140 v7 v8 m h
    · have h := h.2 c1
      refine it_V.sN it_cd235 it_m235 3 (pc1 := 128) (ls1 := [some (.ref 66), none, none, none, none, none, none, some (.int v7), some (.int v8), some (.int v9)]) (st1 := [(.int v9), (.ref 66), (.int v8)]) (mem1 := m) rfl ?_
      refine it_V.call it_cd235 it_m235 rfl it_m220 [(.ref 66), (.int v9)] [(.int v8)] rfl rfl ⟨Nat.le_of_ble_eq_true rfl, Nat.le_of_ble_eq_true rfl, Nat.le_of_ble_eq_true rfl, Nat.le_of_ble_eq_true rfl, rfl⟩ (s_220 kc v9 m _ h) ?_
      rintro _ m3 ⟨r2, rfl, h⟩
      refine it_V.at (pc1 := 131) (ls1 := [some (.ref 66), none, none, none, none, none, none, some (.int v7), some (.int v8), some (.int v9)]) (st1 := [(.int r2), (.int v8)]) (mem1 := m3) rfl rfl rfl rfl ?_
      refine it_V.sN it_cd235 it_m235 4 (pc1 := 114) (ls1 := [some (.ref 66), none, none, none, none, none, none, some (.int v7), some (.int (v8 ^^^ r2)), some (.int (v9 + (4 : Int32)))]) (st1 := []) (mem1 := m3) rfl ?_
      refine it_V.weak (l := [some (.ref 66), none, none, none, none, none, none, some (.int v7), some (.int (v8 ^^^ r2)), some (.int (v9 + (4 : Int32)))]) ⟨rfl, ⟨rfl, ⟨rfl, ⟨rfl, trivial⟩⟩⟩⟩ ?_
      exact ih v7 (v8 ^^^ r2) (v9 + (4 : Int32)) m3 h
set_option maxRecDepth 100000 in
set_option maxHeartbeats 4000000 in
theorem s_235_27 (kc : it_Kc) (Φ : Int32 → it_Me → Prop) (m : it_Me) (h : w_235_27 kc Φ m) : it_V kc it_sh0 235 27 [none, none, none, none, none, none, none, none, none, none] [] m (it_Pi Φ) := by
  rw [w_235_27] at h
  refine it_V.sN it_cd235 it_m235 1 (pc1 := 28) (ls1 := [none, none, none, none, none, none, none, none, none, none]) (st1 := [(.int (-1 : Int32))]) (mem1 := m) rfl ?_
  exact it_V.ret it_cd235 it_m235 rfl rfl ⟨_, rfl, h⟩
set_option maxRecDepth 100000 in
set_option maxHeartbeats 4000000 in
theorem s_235_169 (kc : it_Kc) (Φ : Int32 → it_Me → Prop) (u0 : Int32) (m : it_Me) (h : w_235_169 kc Φ u0 m) : it_V kc it_sh0 235 169 [none, none, none, none, none, none, none, none, none, none] [(.int u0)] m (it_Pi Φ) := by
  rw [w_235_169] at h
  exact it_V.ret it_cd235 it_m235 rfl rfl ⟨_, rfl, h⟩
set_option maxRecDepth 100000 in
set_option maxHeartbeats 4000000 in
theorem s_235_152 (kc : it_Kc) (Φ : Int32 → it_Me → Prop) (v7 : Int32) (u0 : Int32) (m : it_Me) (h : w_235_152 kc Φ v7 u0 m) : it_V kc it_sh0 235 152 [some (.ref 66), none, none, none, none, none, none, some (.int v7), none, none] [(.int u0)] m (it_Pi Φ) := by
  rw [w_235_152] at h
  refine it_V.sN it_cd235 it_m235 4 (pc1 := 157) (ls1 := [some (.ref 66), none, none, none, none, none, none, some (.int v7), none, none]) (st1 := [(.int (v7 - (4 : Int32))), (.ref 66), (.int u0)]) (mem1 := m) rfl ?_
  refine it_V.call it_cd235 it_m235 rfl it_m220 [(.ref 66), (.int (v7 - (4 : Int32)))] [(.int u0)] rfl rfl ⟨Nat.le_of_ble_eq_true rfl, Nat.le_of_ble_eq_true rfl, Nat.le_of_ble_eq_true rfl, Nat.le_of_ble_eq_true rfl, rfl⟩ (s_220 kc (v7 - (4 : Int32)) m _ h) ?_
  rintro _ m2 ⟨r1, rfl, h⟩
  refine it_V.at (pc1 := 160) (ls1 := [some (.ref 66), none, none, none, none, none, none, some (.int v7), none, none]) (st1 := [(.int r1), (.int u0)]) (mem1 := m2) rfl rfl rfl rfl ?_
  refine it_V.sN it_cd235 it_m235 1 (pc1 := (if u0 = r1 then 163 else 168)) (ls1 := [some (.ref 66), none, none, none, none, none, none, some (.int v7), none, none]) (st1 := []) (mem1 := m2) rfl ?_
  refine it_V.ite (fun c3 => ?_) (fun c3 => ?_)
  · have h := h.1 c3
    refine it_V.sN it_cd235 it_m235 2 (pc1 := 169) (ls1 := [some (.ref 66), none, none, none, none, none, none, some (.int v7), none, none]) (st1 := [(.int v7)]) (mem1 := m2) rfl ?_
    refine it_V.weak (l := [none, none, none, none, none, none, none, none, none, none]) trivial ?_
    exact s_235_169 kc Φ v7 m2 h
  · have h := h.2 c3
    refine it_V.sN it_cd235 it_m235 1 (pc1 := 169) (ls1 := [some (.ref 66), none, none, none, none, none, none, some (.int v7), none, none]) (st1 := [(.int (-1 : Int32))]) (mem1 := m2) rfl ?_
    refine it_V.weak (l := [none, none, none, none, none, none, none, none, none, none]) trivial ?_
    exact s_235_169 kc Φ (-1 : Int32) m2 h
set_option maxRecDepth 100000 in
set_option maxHeartbeats 4000000 in
theorem s_235_140 (kc : it_Kc) (Φ : Int32 → it_Me → Prop) (v7 : Int32) (v8 : Int32) (m : it_Me) (h : w_235_140 kc Φ v7 v8 m) : it_V kc it_sh0 235 140 [some (.ref 66), none, none, none, none, none, none, some (.int v7), some (.int v8), none] [] m (it_Pi Φ) := by
  rw [w_235_140] at h
  refine it_V.sN it_cd235 it_m235 3 (pc1 := (if v8 = (-1 : Int32) then 146 else 150)) (ls1 := [some (.ref 66), none, none, none, none, none, none, some (.int v7), some (.int v8), none]) (st1 := []) (mem1 := m) rfl ?_
  refine it_V.ite (fun c1 => ?_) (fun c1 => ?_)
  · have h := h.1 c1
    refine it_V.sN it_cd235 it_m235 2 (pc1 := 152) (ls1 := [some (.ref 66), none, none, none, none, none, none, some (.int v7), some (.int v8), none]) (st1 := [(.int (0 : Int32))]) (mem1 := m) rfl ?_
    refine it_V.weak (l := [some (.ref 66), none, none, none, none, none, none, some (.int v7), none, none]) ⟨rfl, ⟨rfl, trivial⟩⟩ ?_
    exact s_235_152 kc Φ v7 (0 : Int32) m h
  · have h := h.2 c1
    refine it_V.sN it_cd235 it_m235 1 (pc1 := 152) (ls1 := [some (.ref 66), none, none, none, none, none, none, some (.int v7), some (.int v8), none]) (st1 := [(.int v8)]) (mem1 := m) rfl ?_
    refine it_V.weak (l := [some (.ref 66), none, none, none, none, none, none, some (.int v7), none, none]) ⟨rfl, ⟨rfl, trivial⟩⟩ ?_
    exact s_235_152 kc Φ v7 v8 m h
set_option maxRecDepth 100000 in
set_option maxHeartbeats 4000000 in
theorem s_235_86 (kc : it_Kc) (Φ : Int32 → it_Me → Prop) (v2 : Int32) (v3 : Int32) (u0 : Int32) (m : it_Me) (h : w_235_86 kc Φ v2 v3 u0 m) : it_V kc it_sh0 235 86 [some (.ref 66), none, some (.int v2), some (.int v3), none, none, none, none, none, none] [(.int u0)] m (it_Pi Φ) := by
  rw [w_235_86] at h
  refine it_V.sN it_cd235 it_m235 12 (pc1 := (if ((v2 + (16 : Int32)) + ((4 : Int32) * u0)) ≤ v3 then 107 else 105)) (ls1 := [some (.ref 66), none, some (.int v2), some (.int v3), none, none, some (.int u0), some (.int ((v2 + (16 : Int32)) + ((4 : Int32) * u0))), none, none]) (st1 := []) (mem1 := m) rfl ?_
  refine it_V.ite (fun c1 => ?_) (fun c1 => ?_)
  · have h := h.1 c1
    refine it_V.sN it_cd235 it_m235 4 (pc1 := 114) (ls1 := [some (.ref 66), none, some (.int v2), some (.int v3), none, none, some (.int u0), some (.int ((v2 + (16 : Int32)) + ((4 : Int32) * u0))), some (.int (1515870810 : Int32)), some (.int v2)]) (st1 := []) (mem1 := m) rfl ?_
    refine it_V.weak (l := [some (.ref 66), none, none, none, none, none, none, some (.int ((v2 + (16 : Int32)) + ((4 : Int32) * u0))), some (.int (1515870810 : Int32)), some (.int v2)]) ⟨rfl, ⟨rfl, ⟨rfl, ⟨rfl, trivial⟩⟩⟩⟩ ?_
    obtain ⟨n, h⟩ := h
    exact s_235_114 kc Φ _ (fun v7 v8 m h => s_235_140 kc Φ v7 v8 m h) n ((v2 + (16 : Int32)) + ((4 : Int32) * u0)) (1515870810 : Int32) v2 m h
  · have h := h.2 c1
    refine it_V.sN it_cd235 it_m235 1 (pc1 := 106) (ls1 := [some (.ref 66), none, some (.int v2), some (.int v3), none, none, some (.int u0), some (.int ((v2 + (16 : Int32)) + ((4 : Int32) * u0))), none, none]) (st1 := [(.int (-1 : Int32))]) (mem1 := m) rfl ?_
    exact it_V.ret it_cd235 it_m235 rfl rfl ⟨_, rfl, h⟩
set_option maxRecDepth 100000 in
set_option maxHeartbeats 4000000 in
theorem s_235_64 (kc : it_Kc) (Φ : Int32 → it_Me → Prop) (v2 : Int32) (v3 : Int32) (v4 : Int64) (m : it_Me) (h : w_235_64 kc Φ v2 v3 v4 m) : it_V kc it_sh0 235 64 [some (.ref 66), none, some (.int v2), some (.int v3), some (.long v4), none, none, none, none, none] [] m (it_Pi Φ) := by
  rw [w_235_64] at h
  refine it_V.sN it_cd235 it_m235 4 (pc1 := (if (lg_cmp v4 (255 : Int64)) = 0 then 73 else 77)) (ls1 := [some (.ref 66), none, some (.int v2), some (.int v3), some (.long v4), none, none, none, none, none]) (st1 := []) (mem1 := m) rfl ?_
  refine it_V.ite (fun c1 => ?_) (fun c1 => ?_)
  · have h := h.1 c1
    refine it_V.sN it_cd235 it_m235 2 (pc1 := 86) (ls1 := [some (.ref 66), none, some (.int v2), some (.int v3), some (.long v4), none, none, none, none, none]) (st1 := [(.int (0 : Int32))]) (mem1 := m) rfl ?_
    refine it_V.weak (l := [some (.ref 66), none, some (.int v2), some (.int v3), none, none, none, none, none, none]) ⟨rfl, ⟨rfl, ⟨rfl, trivial⟩⟩⟩ ?_
    exact s_235_86 kc Φ v2 v3 (0 : Int32) m h
  · have h := h.2 c1
    refine it_V.sN it_cd235 it_m235 5 (pc1 := 85) (ls1 := [some (.ref 66), none, some (.int v2), some (.int v3), some (.long v4), none, none, none, none, none]) (st1 := [(.int (4 : Int32)), (.int (Int64.toInt32 (v4 + (3 : Int64))))]) (mem1 := m) rfl ?_
    obtain ⟨g2, h⟩ := h
    refine it_V.s1 it_cd235 it_m235 (pc1 := 86) (ls1 := [some (.ref 66), none, some (.int v2), some (.int v3), some (.long v4), none, none, none, none, none]) (st1 := [(.int ((Int64.toInt32 (v4 + (3 : Int64))) / (4 : Int32)))]) (mem1 := m) (by simp only [it_s1, show it_lk it_c235 85 = some (0, .idiv, 0, 0) from rfl, it_ops, if_neg g2]; rfl) ?_
    refine it_V.weak (l := [some (.ref 66), none, some (.int v2), some (.int v3), none, none, none, none, none, none]) ⟨rfl, ⟨rfl, ⟨rfl, trivial⟩⟩⟩ ?_
    exact s_235_86 kc Φ v2 v3 ((Int64.toInt32 (v4 + (3 : Int64))) / (4 : Int32)) m h
set_option maxRecDepth 100000 in
set_option maxHeartbeats 4000000 in
theorem s_235 (kc : it_Kc) (x0 : Int32) (x1 : Int32) (m : it_Me) (Φ : Int32 → it_Me → Prop) (h : w_235 kc x0 x1 m Φ) : it_V kc it_sh0 235 0 (it_loc0 [(.ref 66), (.int x0), (.int x1)] 10) [] m (it_Pi Φ) := by
  rw [w_235] at h
  refine it_V.at (pc1 := 0) (ls1 := [some (.ref 66), some (.int x0), some (.int x1), none, none, none, none, none, none, none]) (st1 := []) (mem1 := m) rfl rfl rfl rfl ?_
  refine it_V.sN it_cd235 it_m235 2 (pc1 := 2) (ls1 := [some (.ref 66), some (.int x0), some (.int x1), none, none, none, none, none, none, none]) (st1 := [(.int x0), (.ref 66)]) (mem1 := m) rfl ?_
  refine it_V.call it_cd235 it_m235 rfl it_m233 [(.ref 66), (.int x0)] [] rfl rfl ⟨Nat.le_of_ble_eq_true rfl, Nat.le_of_ble_eq_true rfl, Nat.le_of_ble_eq_true rfl, Nat.le_of_ble_eq_true rfl, rfl⟩ (s_233 kc x0 m _ h) ?_
  rintro _ m2 ⟨r1, rfl, h⟩
  refine it_V.at (pc1 := 5) (ls1 := [some (.ref 66), some (.int x0), some (.int x1), none, none, none, none, none, none, none]) (st1 := [(.int r1)]) (mem1 := m2) rfl rfl rfl rfl ?_
  refine it_V.sN it_cd235 it_m235 8 (pc1 := (if (r1 + (2048 : Int32)) < (x1 + (16 : Int32)) then 27 else 18)) (ls1 := [some (.ref 66), some (.int x0), some (.int x1), some (.int (r1 + (2048 : Int32))), none, none, none, none, none, none]) (st1 := []) (mem1 := m2) rfl ?_
  refine it_V.ite (fun c3 => ?_) (fun c3 => ?_)
  · have h := h.1 c3
    refine it_V.weak (l := [none, none, none, none, none, none, none, none, none, none]) trivial ?_
    exact s_235_27 kc Φ m2 h
  · have h := h.2 c3
    refine it_V.sN it_cd235 it_m235 2 (pc1 := 20) (ls1 := [some (.ref 66), some (.int x0), some (.int x1), some (.int (r1 + (2048 : Int32))), none, none, none, none, none, none]) (st1 := [(.int x1), (.ref 66)]) (mem1 := m2) rfl ?_
    refine it_V.call it_cd235 it_m235 rfl it_m220 [(.ref 66), (.int x1)] [] rfl rfl ⟨Nat.le_of_ble_eq_true rfl, Nat.le_of_ble_eq_true rfl, Nat.le_of_ble_eq_true rfl, Nat.le_of_ble_eq_true rfl, rfl⟩ (s_220 kc x1 m2 _ h) ?_
    rintro _ m5 ⟨r4, rfl, h⟩
    refine it_V.at (pc1 := 23) (ls1 := [some (.ref 66), some (.int x0), some (.int x1), some (.int (r1 + (2048 : Int32))), none, none, none, none, none, none]) (st1 := [(.int r4)]) (mem1 := m5) rfl rfl rfl rfl ?_
    refine it_V.sN it_cd235 it_m235 2 (pc1 := (if r4 = (-1 : Int32) then 27 else 29)) (ls1 := [some (.ref 66), some (.int x0), some (.int x1), some (.int (r1 + (2048 : Int32))), none, none, none, none, none, none]) (st1 := []) (mem1 := m5) rfl ?_
    refine it_V.ite (fun c6 => ?_) (fun c6 => ?_)
    · have h := h.1 c6
      refine it_V.weak (l := [none, none, none, none, none, none, none, none, none, none]) trivial ?_
      exact s_235_27 kc Φ m5 h
    · have h := h.2 c6
      refine it_V.sN it_cd235 it_m235 4 (pc1 := 34) (ls1 := [some (.ref 66), some (.int x0), some (.int x1), some (.int (r1 + (2048 : Int32))), none, none, none, none, none, none]) (st1 := [(.int (x1 + (8 : Int32))), (.ref 66)]) (mem1 := m5) rfl ?_
      refine it_V.call it_cd235 it_m235 rfl it_m220 [(.ref 66), (.int (x1 + (8 : Int32)))] [] rfl rfl ⟨Nat.le_of_ble_eq_true rfl, Nat.le_of_ble_eq_true rfl, Nat.le_of_ble_eq_true rfl, Nat.le_of_ble_eq_true rfl, rfl⟩ (s_220 kc (x1 + (8 : Int32)) m5 _ h) ?_
      rintro _ m8 ⟨r7, rfl, h⟩
      refine it_V.at (pc1 := 37) (ls1 := [some (.ref 66), some (.int x0), some (.int x1), some (.int (r1 + (2048 : Int32))), none, none, none, none, none, none]) (st1 := [(.int r7)]) (mem1 := m8) rfl rfl rfl rfl ?_
      refine it_V.sN it_cd235 it_m235 8 (pc1 := (if (lg_cmp ((Int32.toInt64 r7) &&& (4294967295 : Int64)) (32 : Int64)) ≤ 0 then 64 else 53)) (ls1 := [some (.ref 66), some (.int x0), some (.int x1), some (.int (r1 + (2048 : Int32))), some (.long ((Int32.toInt64 r7) &&& (4294967295 : Int64))), none, none, none, none, none]) (st1 := []) (mem1 := m8) rfl ?_
      refine it_V.ite (fun c9 => ?_) (fun c9 => ?_)
      · have h := h.1 c9
        refine it_V.weak (l := [some (.ref 66), none, some (.int x1), some (.int (r1 + (2048 : Int32))), some (.long ((Int32.toInt64 r7) &&& (4294967295 : Int64))), none, none, none, none, none]) ⟨rfl, ⟨rfl, ⟨rfl, ⟨rfl, trivial⟩⟩⟩⟩ ?_
        exact s_235_64 kc Φ x1 (r1 + (2048 : Int32)) ((Int32.toInt64 r7) &&& (4294967295 : Int64)) m8 h
      · have h := h.2 c9
        refine it_V.sN it_cd235 it_m235 4 (pc1 := (if (lg_cmp ((Int32.toInt64 r7) &&& (4294967295 : Int64)) (255 : Int64)) = 0 then 64 else 62)) (ls1 := [some (.ref 66), some (.int x0), some (.int x1), some (.int (r1 + (2048 : Int32))), some (.long ((Int32.toInt64 r7) &&& (4294967295 : Int64))), none, none, none, none, none]) (st1 := []) (mem1 := m8) rfl ?_
        refine it_V.ite (fun c10 => ?_) (fun c10 => ?_)
        · have h := h.1 c10
          refine it_V.weak (l := [some (.ref 66), none, some (.int x1), some (.int (r1 + (2048 : Int32))), some (.long ((Int32.toInt64 r7) &&& (4294967295 : Int64))), none, none, none, none, none]) ⟨rfl, ⟨rfl, ⟨rfl, ⟨rfl, trivial⟩⟩⟩⟩ ?_
          exact s_235_64 kc Φ x1 (r1 + (2048 : Int32)) ((Int32.toInt64 r7) &&& (4294967295 : Int64)) m8 h
        · have h := h.2 c10
          refine it_V.sN it_cd235 it_m235 1 (pc1 := 63) (ls1 := [some (.ref 66), some (.int x0), some (.int x1), some (.int (r1 + (2048 : Int32))), some (.long ((Int32.toInt64 r7) &&& (4294967295 : Int64))), none, none, none, none, none]) (st1 := [(.int (-1 : Int32))]) (mem1 := m8) rfl ?_
          exact it_V.ret it_cd235 it_m235 rfl rfl ⟨_, rfl, h⟩
set_option maxRecDepth 100000 in
set_option maxHeartbeats 4000000 in
theorem s_236_15 (kc : it_Kc) (Φ : Int32 → it_Me → Prop) (K32 : Int32 → it_Me → Prop) (hK32 : ∀ (v2 : Int32) (m : it_Me), K32 v2 m → it_V kc it_sh0 236 32 [none, none, some (.int v2), none] [] m (it_Pi Φ)) : ∀ (n : Nat) (v1 : Int32) (v2 : Int32) (v3 : Int32) (m : it_Me) (h : w_236_15 kc Φ K32 n v1 v2 v3 m), it_V kc it_sh0 236 15 [some (.ref 66), some (.int v1), some (.int v2), some (.int v3)] [] m (it_Pi Φ) := by
  intro n
  induction n with
  | zero => intro v1 v2 v3 m h; exact absurd h id
  | succ n ih =>
    intro v1 v2 v3 m h
    rw [w_236_15] at h
    refine it_V.sN it_cd236 it_m236 3 (pc1 := (if v3 = (-1 : Int32) then 32 else 20)) (ls1 := [some (.ref 66), some (.int v1), some (.int v2), some (.int v3)]) (st1 := []) (mem1 := m) rfl ?_
    refine it_V.ite (fun c1 => ?_) (fun c1 => ?_)
    · have h := h.1 c1
      refine it_V.weak (l := [none, none, some (.int v2), none]) ⟨rfl, trivial⟩ ?_
      exact hK32 v2 m h
    · have h := h.2 c1
      refine it_V.sN it_cd236 it_m236 5 (pc1 := 25) (ls1 := [some (.ref 66), some (.int v1), some (.int v3), some (.int v3)]) (st1 := [(.int v3), (.int v1), (.ref 66)]) (mem1 := m) rfl ?_
      refine it_V.call it_cd236 it_m236 rfl it_m235 [(.ref 66), (.int v1), (.int v3)] [] rfl rfl ⟨Nat.le_of_ble_eq_true rfl, Nat.le_of_ble_eq_true rfl, Nat.le_of_ble_eq_true rfl, Nat.le_of_ble_eq_true rfl, rfl⟩ (s_235 kc v1 v3 m _ h) ?_
      rintro _ m3 ⟨r2, rfl, h⟩
      refine it_V.at (pc1 := 28) (ls1 := [some (.ref 66), some (.int v1), some (.int v3), some (.int v3)]) (st1 := [(.int r2)]) (mem1 := m3) rfl rfl rfl rfl ?_
      refine it_V.sN it_cd236 it_m236 2 (pc1 := 15) (ls1 := [some (.ref 66), some (.int v1), some (.int v3), some (.int r2)]) (st1 := []) (mem1 := m3) rfl ?_
      exact ih v1 v3 r2 m3 h
set_option maxRecDepth 100000 in
set_option maxHeartbeats 4000000 in
theorem s_236_32 (kc : it_Kc) (Φ : Int32 → it_Me → Prop) (v2 : Int32) (m : it_Me) (h : w_236_32 kc Φ v2 m) : it_V kc it_sh0 236 32 [none, none, some (.int v2), none] [] m (it_Pi Φ) := by
  rw [w_236_32] at h
  refine it_V.sN it_cd236 it_m236 1 (pc1 := 33) (ls1 := [none, none, some (.int v2), none]) (st1 := [(.int v2)]) (mem1 := m) rfl ?_
  exact it_V.ret it_cd236 it_m236 rfl rfl ⟨_, rfl, h⟩
set_option maxRecDepth 100000 in
set_option maxHeartbeats 4000000 in
theorem s_236 (kc : it_Kc) (x0 : Int32) (m : it_Me) (Φ : Int32 → it_Me → Prop) (h : w_236 kc x0 m Φ) : it_V kc it_sh0 236 0 (it_loc0 [(.ref 66), (.int x0)] 4) [] m (it_Pi Φ) := by
  rw [w_236] at h
  refine it_V.at (pc1 := 0) (ls1 := [some (.ref 66), some (.int x0), none, none]) (st1 := []) (mem1 := m) rfl rfl rfl rfl ?_
  refine it_V.sN it_cd236 it_m236 2 (pc1 := 2) (ls1 := [some (.ref 66), some (.int x0), none, none]) (st1 := [(.int x0), (.ref 66)]) (mem1 := m) rfl ?_
  refine it_V.call it_cd236 it_m236 rfl it_m233 [(.ref 66), (.int x0)] [] rfl rfl ⟨Nat.le_of_ble_eq_true rfl, Nat.le_of_ble_eq_true rfl, Nat.le_of_ble_eq_true rfl, Nat.le_of_ble_eq_true rfl, rfl⟩ (s_233 kc x0 m _ h) ?_
  rintro _ m2 ⟨r1, rfl, h⟩
  refine it_V.at (pc1 := 5) (ls1 := [some (.ref 66), some (.int x0), none, none]) (st1 := [(.int r1)]) (mem1 := m2) rfl rfl rfl rfl ?_
  refine it_V.sN it_cd236 it_m236 6 (pc1 := 11) (ls1 := [some (.ref 66), some (.int x0), some (.int (r1 + (4 : Int32))), none]) (st1 := [(.int (r1 + (4 : Int32))), (.int x0), (.ref 66)]) (mem1 := m2) rfl ?_
  refine it_V.call it_cd236 it_m236 rfl it_m235 [(.ref 66), (.int x0), (.int (r1 + (4 : Int32)))] [] rfl rfl ⟨Nat.le_of_ble_eq_true rfl, Nat.le_of_ble_eq_true rfl, Nat.le_of_ble_eq_true rfl, Nat.le_of_ble_eq_true rfl, rfl⟩ (s_235 kc x0 (r1 + (4 : Int32)) m2 _ h) ?_
  rintro _ m4 ⟨r3, rfl, h⟩
  refine it_V.at (pc1 := 14) (ls1 := [some (.ref 66), some (.int x0), some (.int (r1 + (4 : Int32))), none]) (st1 := [(.int r3)]) (mem1 := m4) rfl rfl rfl rfl ?_
  refine it_V.sN it_cd236 it_m236 1 (pc1 := 15) (ls1 := [some (.ref 66), some (.int x0), some (.int (r1 + (4 : Int32))), some (.int r3)]) (st1 := []) (mem1 := m4) rfl ?_
  obtain ⟨n, h⟩ := h
  exact s_236_15 kc Φ _ (fun v2 m h => s_236_32 kc Φ v2 m h) n x0 (r1 + (4 : Int32)) r3 m4 h
set_option maxRecDepth 100000 in
set_option maxHeartbeats 4000000 in
theorem s_237_6 (kc : it_Kc) (Φ : Int32 → it_Me → Prop) (K29 : it_Me → Prop) (K37 : it_Me → Prop) (hK29 : ∀ (m : it_Me), K29 m → it_V kc it_sh0 237 29 [none, none, none] [] m (it_Pi Φ)) (hK37 : ∀ (m : it_Me), K37 m → it_V kc it_sh0 237 37 [none, none, none] [] m (it_Pi Φ)) : ∀ (n : Nat) (v1 : Int32) (v2 : Int32) (m : it_Me) (h : w_237_6 kc Φ K29 K37 n v1 v2 m), it_V kc it_sh0 237 6 [some (.ref 66), some (.int v1), some (.int v2)] [] m (it_Pi Φ) := by
  intro n
  induction n with
  | zero => intro v1 v2 m h; exact absurd h id
  | succ n ih =>
    intro v1 v2 m h
    rw [w_237_6] at h
    refine it_V.sN it_cd237 it_m237 3 (pc1 := 9) (ls1 := [some (.ref 66), some (.int v1), some (.int v2)]) (st1 := [(.int v1), (.ref 66), (.int v2)]) (mem1 := m) rfl ?_
    refine it_V.call it_cd237 it_m237 rfl it_m233 [(.ref 66), (.int v1)] [(.int v2)] rfl rfl ⟨Nat.le_of_ble_eq_true rfl, Nat.le_of_ble_eq_true rfl, Nat.le_of_ble_eq_true rfl, Nat.le_of_ble_eq_true rfl, rfl⟩ (s_233 kc v1 m _ h) ?_
    rintro _ m2 ⟨r1, rfl, h⟩
    refine it_V.at (pc1 := 12) (ls1 := [some (.ref 66), some (.int v1), some (.int v2)]) (st1 := [(.int r1), (.int v2)]) (mem1 := m2) rfl rfl rfl rfl ?_
    refine it_V.sN it_cd237 it_m237 3 (pc1 := (if (r1 + (2048 : Int32)) ≤ v2 then 37 else 19)) (ls1 := [some (.ref 66), some (.int v1), some (.int v2)]) (st1 := []) (mem1 := m2) rfl ?_
    refine it_V.ite (fun c3 => ?_) (fun c3 => ?_)
    · have h := h.1 c3
      refine it_V.weak (l := [none, none, none]) trivial ?_
      exact hK37 m2 h
    · have h := h.2 c3
      refine it_V.sN it_cd237 it_m237 3 (pc1 := 24) (ls1 := [some (.ref 66), some (.int v1), some (.int v2)]) (st1 := [(.int v2), (.ref 67)]) (mem1 := m2) rfl ?_
      obtain ⟨g4, h⟩ := h
      refine it_V.bald (t := 1) (n := 196608) it_cd237 it_m237 rfl rfl (by decide) g4 ?_
      refine it_V.at (pc1 := 25) (ls1 := [some (.ref 66), some (.int v1), some (.int v2)]) (st1 := [(.int (m2 67 (Int32.toNatClampNeg v2)))]) (mem1 := m2) rfl rfl rfl rfl ?_
      refine it_V.sN it_cd237 it_m237 2 (pc1 := (if (m2 67 (Int32.toNatClampNeg v2)) = (-1 : Int32) then 31 else 29)) (ls1 := [some (.ref 66), some (.int v1), some (.int v2)]) (st1 := []) (mem1 := m2) rfl ?_
      refine it_V.ite (fun c5 => ?_) (fun c5 => ?_)
      · have h := h.1 c5
        refine it_V.sN it_cd237 it_m237 2 (pc1 := 6) (ls1 := [some (.ref 66), some (.int v1), some (.int (v2 + (1 : Int32)))]) (st1 := []) (mem1 := m2) rfl ?_
        exact ih v1 (v2 + (1 : Int32)) m2 h
      · have h := h.2 c5
        refine it_V.weak (l := [none, none, none]) trivial ?_
        exact hK29 m2 h
set_option maxRecDepth 100000 in
set_option maxHeartbeats 4000000 in
theorem s_237_29 (kc : it_Kc) (Φ : Int32 → it_Me → Prop) (m : it_Me) (h : w_237_29 kc Φ m) : it_V kc it_sh0 237 29 [none, none, none] [] m (it_Pi Φ) := by
  rw [w_237_29] at h
  refine it_V.sN it_cd237 it_m237 1 (pc1 := 30) (ls1 := [none, none, none]) (st1 := [(.int (0 : Int32))]) (mem1 := m) rfl ?_
  exact it_V.ret it_cd237 it_m237 rfl rfl ⟨_, rfl, h⟩
set_option maxRecDepth 100000 in
set_option maxHeartbeats 4000000 in
theorem s_237_37 (kc : it_Kc) (Φ : Int32 → it_Me → Prop) (m : it_Me) (h : w_237_37 kc Φ m) : it_V kc it_sh0 237 37 [none, none, none] [] m (it_Pi Φ) := by
  rw [w_237_37] at h
  refine it_V.sN it_cd237 it_m237 1 (pc1 := 38) (ls1 := [none, none, none]) (st1 := [(.int (1 : Int32))]) (mem1 := m) rfl ?_
  exact it_V.ret it_cd237 it_m237 rfl rfl ⟨_, rfl, h⟩
set_option maxRecDepth 100000 in
set_option maxHeartbeats 4000000 in
theorem s_237 (kc : it_Kc) (x0 : Int32) (m : it_Me) (Φ : Int32 → it_Me → Prop) (h : w_237 kc x0 m Φ) : it_V kc it_sh0 237 0 (it_loc0 [(.ref 66), (.int x0)] 3) [] m (it_Pi Φ) := by
  rw [w_237] at h
  refine it_V.at (pc1 := 0) (ls1 := [some (.ref 66), some (.int x0), none]) (st1 := []) (mem1 := m) rfl rfl rfl rfl ?_
  refine it_V.sN it_cd237 it_m237 2 (pc1 := 2) (ls1 := [some (.ref 66), some (.int x0), none]) (st1 := [(.int x0), (.ref 66)]) (mem1 := m) rfl ?_
  refine it_V.call it_cd237 it_m237 rfl it_m236 [(.ref 66), (.int x0)] [] rfl rfl ⟨Nat.le_of_ble_eq_true rfl, Nat.le_of_ble_eq_true rfl, Nat.le_of_ble_eq_true rfl, Nat.le_of_ble_eq_true rfl, rfl⟩ (s_236 kc x0 m _ h) ?_
  rintro _ m2 ⟨r1, rfl, h⟩
  refine it_V.at (pc1 := 5) (ls1 := [some (.ref 66), some (.int x0), none]) (st1 := [(.int r1)]) (mem1 := m2) rfl rfl rfl rfl ?_
  refine it_V.sN it_cd237 it_m237 1 (pc1 := 6) (ls1 := [some (.ref 66), some (.int x0), some (.int r1)]) (st1 := []) (mem1 := m2) rfl ?_
  obtain ⟨n, h⟩ := h
  exact s_237_6 kc Φ _ _ (fun m h => s_237_29 kc Φ m h) (fun m h => s_237_37 kc Φ m h) n x0 r1 m2 h
set_option maxRecDepth 100000 in
set_option maxHeartbeats 4000000 in
theorem s_238_56 (kc : it_Kc) (Φ : Int32 → it_Me → Prop) (K21 : Int32 → Int32 → Int32 → Int32 → Int32 → Int32 → it_Me → Prop) (K74 : Int32 → it_Me → Prop) (hK21 : ∀ (v1 : Int32) (v2 : Int32) (v3 : Int32) (v4 : Int32) (v5 : Int32) (v6 : Int32) (m : it_Me), K21 v1 v2 v3 v4 v5 v6 m → it_V kc it_sh0 238 21 [some (.ref 66), some (.int v1), some (.int v2), some (.int v3), some (.int v4), some (.int v5), some (.int v6)] [] m (it_Pi Φ)) (hK74 : ∀ (v4 : Int32) (m : it_Me), K74 v4 m → it_V kc it_sh0 238 74 [none, none, none, none, some (.int v4), none, none] [] m (it_Pi Φ)) (v1 : Int32) (v2 : Int32) (v3 : Int32) (v6 : Int32) (u0 : Int32) (m : it_Me) (h : w_238_56 kc Φ K21 K74 v1 v2 v3 v6 u0 m) : it_V kc it_sh0 238 56 [some (.ref 66), some (.int v1), some (.int v2), some (.int v3), none, none, some (.int v6)] [(.int u0)] m (it_Pi Φ) := by
  rw [w_238_56] at h
  refine it_V.sN it_cd238 it_m238 6 (pc1 := 66) (ls1 := [some (.ref 66), some (.int v1), some (.int v2), some (.int v3), some (.int u0), some (.int v6), some (.int v6)]) (st1 := [(.int v6), (.int v1), (.ref 66)]) (mem1 := m) rfl ?_
  refine it_V.call it_cd238 it_m238 rfl it_m235 [(.ref 66), (.int v1), (.int v6)] [] rfl rfl ⟨Nat.le_of_ble_eq_true rfl, Nat.le_of_ble_eq_true rfl, Nat.le_of_ble_eq_true rfl, Nat.le_of_ble_eq_true rfl, rfl⟩ (s_235 kc v1 v6 m _ h) ?_
  rintro _ m2 ⟨r1, rfl, h⟩
  refine it_V.at (pc1 := 69) (ls1 := [some (.ref 66), some (.int v1), some (.int v2), some (.int v3), some (.int u0), some (.int v6), some (.int v6)]) (st1 := [(.int r1)]) (mem1 := m2) rfl rfl rfl rfl ?_
  refine it_V.sN it_cd238 it_m238 2 (pc1 := 21) (ls1 := [some (.ref 66), some (.int v1), some (.int v2), some (.int v3), some (.int u0), some (.int v6), some (.int r1)]) (st1 := []) (mem1 := m2) rfl ?_
  exact hK21 v1 v2 v3 u0 v6 r1 m2 h
set_option maxRecDepth 100000 in
set_option maxHeartbeats 4000000 in
theorem s_238_54 (kc : it_Kc) (Φ : Int32 → it_Me → Prop) (K21 : Int32 → Int32 → Int32 → Int32 → Int32 → Int32 → it_Me → Prop) (K74 : Int32 → it_Me → Prop) (hK21 : ∀ (v1 : Int32) (v2 : Int32) (v3 : Int32) (v4 : Int32) (v5 : Int32) (v6 : Int32) (m : it_Me), K21 v1 v2 v3 v4 v5 v6 m → it_V kc it_sh0 238 21 [some (.ref 66), some (.int v1), some (.int v2), some (.int v3), some (.int v4), some (.int v5), some (.int v6)] [] m (it_Pi Φ)) (hK74 : ∀ (v4 : Int32) (m : it_Me), K74 v4 m → it_V kc it_sh0 238 74 [none, none, none, none, some (.int v4), none, none] [] m (it_Pi Φ)) (v1 : Int32) (v2 : Int32) (v3 : Int32) (v4 : Int32) (v6 : Int32) (m : it_Me) (h : w_238_54 kc Φ K21 K74 v1 v2 v3 v4 v6 m) : it_V kc it_sh0 238 54 [some (.ref 66), some (.int v1), some (.int v2), some (.int v3), some (.int v4), none, some (.int v6)] [] m (it_Pi Φ) := by
  rw [w_238_54] at h
  refine it_V.sN it_cd238 it_m238 1 (pc1 := 56) (ls1 := [some (.ref 66), some (.int v1), some (.int v2), some (.int v3), some (.int v4), none, some (.int v6)]) (st1 := [(.int v4)]) (mem1 := m) rfl ?_
  refine it_V.weak (l := [some (.ref 66), some (.int v1), some (.int v2), some (.int v3), none, none, some (.int v6)]) ⟨rfl, ⟨rfl, ⟨rfl, ⟨rfl, ⟨rfl, trivial⟩⟩⟩⟩⟩ ?_
  exact s_238_56 kc Φ _ _ hK21 hK74 v1 v2 v3 v6 v4 m h
set_option maxRecDepth 100000 in
set_option maxHeartbeats 4000000 in
theorem s_238_21 (kc : it_Kc) (Φ : Int32 → it_Me → Prop) (K74 : Int32 → it_Me → Prop) (hK74 : ∀ (v4 : Int32) (m : it_Me), K74 v4 m → it_V kc it_sh0 238 74 [none, none, none, none, some (.int v4), none, none] [] m (it_Pi Φ)) : ∀ (n : Nat) (v1 : Int32) (v2 : Int32) (v3 : Int32) (v4 : Int32) (v5 : Int32) (v6 : Int32) (m : it_Me) (h : w_238_21 kc Φ K74 n v1 v2 v3 v4 v5 v6 m), it_V kc it_sh0 238 21 [some (.ref 66), some (.int v1), some (.int v2), some (.int v3), some (.int v4), some (.int v5), some (.int v6)] [] m (it_Pi Φ) := by
  intro n
  induction n with
  | zero => intro v1 v2 v3 v4 v5 v6 m h; exact absurd h id
  | succ n ih =>
    intro v1 v2 v3 v4 v5 v6 m h
    rw [w_238_21] at h
    refine it_V.sN it_cd238 it_m238 3 (pc1 := (if v6 = (-1 : Int32) then 74 else 27)) (ls1 := [some (.ref 66), some (.int v1), some (.int v2), some (.int v3), some (.int v4), some (.int v5), some (.int v6)]) (st1 := []) (mem1 := m) rfl ?_
    refine it_V.ite (fun c1 => ?_) (fun c1 => ?_)
    · have h := h.1 c1
      refine it_V.weak (l := [none, none, none, none, some (.int v4), none, none]) ⟨rfl, trivial⟩ ?_
      exact hK74 v4 m h
    · have h := h.2 c1
      refine it_V.sN it_cd238 it_m238 2 (pc1 := 30) (ls1 := [some (.ref 66), some (.int v1), some (.int v2), some (.int v3), some (.int v4), some (.int v5), some (.int v6)]) (st1 := [(.int v5), (.ref 66)]) (mem1 := m) rfl ?_
      refine it_V.call it_cd238 it_m238 rfl it_m220 [(.ref 66), (.int v5)] [] rfl rfl ⟨Nat.le_of_ble_eq_true rfl, Nat.le_of_ble_eq_true rfl, Nat.le_of_ble_eq_true rfl, Nat.le_of_ble_eq_true rfl, rfl⟩ (s_220 kc v5 m _ h) ?_
      rintro _ m3 ⟨r2, rfl, h⟩
      refine it_V.at (pc1 := 33) (ls1 := [some (.ref 66), some (.int v1), some (.int v2), some (.int v3), some (.int v4), some (.int v5), some (.int v6)]) (st1 := [(.int r2)]) (mem1 := m3) rfl rfl rfl rfl ?_
      refine it_V.sN it_cd238 it_m238 2 (pc1 := (if r2 = v2 then 37 else 54)) (ls1 := [some (.ref 66), some (.int v1), some (.int v2), some (.int v3), some (.int v4), some (.int v5), some (.int v6)]) (st1 := []) (mem1 := m3) rfl ?_
      refine it_V.ite (fun c4 => ?_) (fun c4 => ?_)
      · have h := h.1 c4
        refine it_V.sN it_cd238 it_m238 4 (pc1 := 42) (ls1 := [some (.ref 66), some (.int v1), some (.int v2), some (.int v3), some (.int v4), some (.int v5), some (.int v6)]) (st1 := [(.int (v5 + (4 : Int32))), (.ref 66)]) (mem1 := m3) rfl ?_
        refine it_V.call it_cd238 it_m238 rfl it_m220 [(.ref 66), (.int (v5 + (4 : Int32)))] [] rfl rfl ⟨Nat.le_of_ble_eq_true rfl, Nat.le_of_ble_eq_true rfl, Nat.le_of_ble_eq_true rfl, Nat.le_of_ble_eq_true rfl, rfl⟩ (s_220 kc (v5 + (4 : Int32)) m3 _ h) ?_
        rintro _ m6 ⟨r5, rfl, h⟩
        refine it_V.at (pc1 := 45) (ls1 := [some (.ref 66), some (.int v1), some (.int v2), some (.int v3), some (.int v4), some (.int v5), some (.int v6)]) (st1 := [(.int r5)]) (mem1 := m6) rfl rfl rfl rfl ?_
        refine it_V.sN it_cd238 it_m238 2 (pc1 := (if r5 = v3 then 49 else 54)) (ls1 := [some (.ref 66), some (.int v1), some (.int v2), some (.int v3), some (.int v4), some (.int v5), some (.int v6)]) (st1 := []) (mem1 := m6) rfl ?_
        refine it_V.ite (fun c7 => ?_) (fun c7 => ?_)
        · have h := h.1 c7
          refine it_V.sN it_cd238 it_m238 2 (pc1 := 56) (ls1 := [some (.ref 66), some (.int v1), some (.int v2), some (.int v3), some (.int v4), some (.int v5), some (.int v6)]) (st1 := [(.int v5)]) (mem1 := m6) rfl ?_
          refine it_V.weak (l := [some (.ref 66), some (.int v1), some (.int v2), some (.int v3), none, none, some (.int v6)]) ⟨rfl, ⟨rfl, ⟨rfl, ⟨rfl, ⟨rfl, trivial⟩⟩⟩⟩⟩ ?_
          exact s_238_56 kc Φ _ _ ih hK74 v1 v2 v3 v6 v5 m6 h
        · have h := h.2 c7
          refine it_V.weak (l := [some (.ref 66), some (.int v1), some (.int v2), some (.int v3), some (.int v4), none, some (.int v6)]) ⟨rfl, ⟨rfl, ⟨rfl, ⟨rfl, ⟨rfl, ⟨rfl, trivial⟩⟩⟩⟩⟩⟩ ?_
          exact s_238_54 kc Φ _ _ ih hK74 v1 v2 v3 v4 v6 m6 h
      · have h := h.2 c4
        refine it_V.weak (l := [some (.ref 66), some (.int v1), some (.int v2), some (.int v3), some (.int v4), none, some (.int v6)]) ⟨rfl, ⟨rfl, ⟨rfl, ⟨rfl, ⟨rfl, ⟨rfl, trivial⟩⟩⟩⟩⟩⟩ ?_
        exact s_238_54 kc Φ _ _ ih hK74 v1 v2 v3 v4 v6 m3 h
set_option maxRecDepth 100000 in
set_option maxHeartbeats 4000000 in
theorem s_238_74 (kc : it_Kc) (Φ : Int32 → it_Me → Prop) (v4 : Int32) (m : it_Me) (h : w_238_74 kc Φ v4 m) : it_V kc it_sh0 238 74 [none, none, none, none, some (.int v4), none, none] [] m (it_Pi Φ) := by
  rw [w_238_74] at h
  refine it_V.sN it_cd238 it_m238 1 (pc1 := 76) (ls1 := [none, none, none, none, some (.int v4), none, none]) (st1 := [(.int v4)]) (mem1 := m) rfl ?_
  exact it_V.ret it_cd238 it_m238 rfl rfl ⟨_, rfl, h⟩
set_option maxRecDepth 100000 in
set_option maxHeartbeats 4000000 in
theorem s_238 (kc : it_Kc) (x0 : Int32) (x1 : Int32) (x2 : Int32) (m : it_Me) (Φ : Int32 → it_Me → Prop) (h : w_238 kc x0 x1 x2 m Φ) : it_V kc it_sh0 238 0 (it_loc0 [(.ref 66), (.int x0), (.int x1), (.int x2)] 7) [] m (it_Pi Φ) := by
  rw [w_238] at h
  refine it_V.at (pc1 := 0) (ls1 := [some (.ref 66), some (.int x0), some (.int x1), some (.int x2), none, none, none]) (st1 := []) (mem1 := m) rfl rfl rfl rfl ?_
  refine it_V.sN it_cd238 it_m238 4 (pc1 := 5) (ls1 := [some (.ref 66), some (.int x0), some (.int x1), some (.int x2), some (.int (-1 : Int32)), none, none]) (st1 := [(.int x0), (.ref 66)]) (mem1 := m) rfl ?_
  refine it_V.call it_cd238 it_m238 rfl it_m233 [(.ref 66), (.int x0)] [] rfl rfl ⟨Nat.le_of_ble_eq_true rfl, Nat.le_of_ble_eq_true rfl, Nat.le_of_ble_eq_true rfl, Nat.le_of_ble_eq_true rfl, rfl⟩ (s_233 kc x0 m _ h) ?_
  rintro _ m2 ⟨r1, rfl, h⟩
  refine it_V.at (pc1 := 8) (ls1 := [some (.ref 66), some (.int x0), some (.int x1), some (.int x2), some (.int (-1 : Int32)), none, none]) (st1 := [(.int r1)]) (mem1 := m2) rfl rfl rfl rfl ?_
  refine it_V.sN it_cd238 it_m238 6 (pc1 := 16) (ls1 := [some (.ref 66), some (.int x0), some (.int x1), some (.int x2), some (.int (-1 : Int32)), some (.int (r1 + (4 : Int32))), none]) (st1 := [(.int (r1 + (4 : Int32))), (.int x0), (.ref 66)]) (mem1 := m2) rfl ?_
  refine it_V.call it_cd238 it_m238 rfl it_m235 [(.ref 66), (.int x0), (.int (r1 + (4 : Int32)))] [] rfl rfl ⟨Nat.le_of_ble_eq_true rfl, Nat.le_of_ble_eq_true rfl, Nat.le_of_ble_eq_true rfl, Nat.le_of_ble_eq_true rfl, rfl⟩ (s_235 kc x0 (r1 + (4 : Int32)) m2 _ h) ?_
  rintro _ m4 ⟨r3, rfl, h⟩
  refine it_V.at (pc1 := 19) (ls1 := [some (.ref 66), some (.int x0), some (.int x1), some (.int x2), some (.int (-1 : Int32)), some (.int (r1 + (4 : Int32))), none]) (st1 := [(.int r3)]) (mem1 := m4) rfl rfl rfl rfl ?_
  refine it_V.sN it_cd238 it_m238 1 (pc1 := 21) (ls1 := [some (.ref 66), some (.int x0), some (.int x1), some (.int x2), some (.int (-1 : Int32)), some (.int (r1 + (4 : Int32))), some (.int r3)]) (st1 := []) (mem1 := m4) rfl ?_
  obtain ⟨n, h⟩ := h
  exact s_238_21 kc Φ _ (fun v4 m h => s_238_74 kc Φ v4 m h) n x0 x1 x2 (-1 : Int32) (r1 + (4 : Int32)) r3 m4 h
set_option maxRecDepth 100000 in
set_option maxHeartbeats 4000000 in
theorem s_239_47 (kc : it_Kc) (Φ : Int32 → it_Me → Prop) (u0 : Int32) (m : it_Me) (h : w_239_47 kc Φ u0 m) : it_V kc it_sh0 239 47 [none, none, none, none] [(.int u0)] m (it_Pi Φ) := by
  rw [w_239_47] at h
  exact it_V.ret it_cd239 it_m239 rfl rfl ⟨_, rfl, h⟩
set_option maxRecDepth 100000 in
set_option maxHeartbeats 4000000 in
theorem s_239_42 (kc : it_Kc) (Φ : Int32 → it_Me → Prop) (m : it_Me) (h : w_239_42 kc Φ m) : it_V kc it_sh0 239 42 [none, none, none, none] [] m (it_Pi Φ) := by
  rw [w_239_42] at h
  refine it_V.sN it_cd239 it_m239 2 (pc1 := 47) (ls1 := [none, none, none, none]) (st1 := [(.int (-1 : Int32))]) (mem1 := m) rfl ?_
  refine it_V.weak (l := [none, none, none, none]) trivial ?_
  exact s_239_47 kc Φ (-1 : Int32) m h
set_option maxRecDepth 100000 in
set_option maxHeartbeats 4000000 in
theorem s_239_22 (kc : it_Kc) (Φ : Int32 → it_Me → Prop) (u0 : Int32) (m : it_Me) (h : w_239_22 kc Φ u0 m) : it_V kc it_sh0 239 22 [some (.ref 66), none, none, none] [(.int u0)] m (it_Pi Φ) := by
  rw [w_239_22] at h
  refine it_V.sN it_cd239 it_m239 4 (pc1 := (if u0 = (-1 : Int32) then 42 else 28)) (ls1 := [some (.ref 66), none, none, some (.int u0)]) (st1 := []) (mem1 := m) rfl ?_
  refine it_V.ite (fun c1 => ?_) (fun c1 => ?_)
  · have h := h.1 c1
    refine it_V.weak (l := [none, none, none, none]) trivial ?_
    exact s_239_42 kc Φ m h
  · have h := h.2 c1
    refine it_V.sN it_cd239 it_m239 4 (pc1 := 33) (ls1 := [some (.ref 66), none, none, some (.int u0)]) (st1 := [(.int (u0 + (8 : Int32))), (.ref 66)]) (mem1 := m) rfl ?_
    refine it_V.call it_cd239 it_m239 rfl it_m220 [(.ref 66), (.int (u0 + (8 : Int32)))] [] rfl rfl ⟨Nat.le_of_ble_eq_true rfl, Nat.le_of_ble_eq_true rfl, Nat.le_of_ble_eq_true rfl, Nat.le_of_ble_eq_true rfl, rfl⟩ (s_220 kc (u0 + (8 : Int32)) m _ h) ?_
    rintro _ m3 ⟨r2, rfl, h⟩
    refine it_V.at (pc1 := 36) (ls1 := [some (.ref 66), none, none, some (.int u0)]) (st1 := [(.int r2)]) (mem1 := m3) rfl rfl rfl rfl ?_
    refine it_V.sN it_cd239 it_m239 2 (pc1 := (if r2 = (255 : Int32) then 42 else 46)) (ls1 := [some (.ref 66), none, none, some (.int u0)]) (st1 := []) (mem1 := m3) rfl ?_
    refine it_V.ite (fun c4 => ?_) (fun c4 => ?_)
    · have h := h.1 c4
      refine it_V.weak (l := [none, none, none, none]) trivial ?_
      exact s_239_42 kc Φ m3 h
    · have h := h.2 c4
      refine it_V.sN it_cd239 it_m239 1 (pc1 := 47) (ls1 := [some (.ref 66), none, none, some (.int u0)]) (st1 := [(.int u0)]) (mem1 := m3) rfl ?_
      refine it_V.weak (l := [none, none, none, none]) trivial ?_
      exact s_239_47 kc Φ u0 m3 h
set_option maxRecDepth 100000 in
set_option maxHeartbeats 4000000 in
theorem s_239 (kc : it_Kc) (x0 : Int32) (x1 : Int32) (m : it_Me) (Φ : Int32 → it_Me → Prop) (h : w_239 kc x0 x1 m Φ) : it_V kc it_sh0 239 0 (it_loc0 [(.ref 66), (.int x0), (.int x1)] 4) [] m (it_Pi Φ) := by
  rw [w_239] at h
  refine it_V.at (pc1 := 0) (ls1 := [some (.ref 66), some (.int x0), some (.int x1), none]) (st1 := []) (mem1 := m) rfl rfl rfl rfl ?_
  refine it_V.sN it_cd239 it_m239 4 (pc1 := (if (m 66 17) = (-1 : Int32) then 8 else 12)) (ls1 := [some (.ref 66), some (.int x0), some (.int x1), none]) (st1 := []) (mem1 := m) rfl ?_
  refine it_V.ite (fun c1 => ?_) (fun c1 => ?_)
  · have h := h.1 c1
    refine it_V.sN it_cd239 it_m239 2 (pc1 := 22) (ls1 := [some (.ref 66), some (.int x0), some (.int x1), none]) (st1 := [(.int (-1 : Int32))]) (mem1 := m) rfl ?_
    refine it_V.weak (l := [some (.ref 66), none, none, none]) ⟨rfl, trivial⟩ ?_
    exact s_239_22 kc Φ (-1 : Int32) m h
  · have h := h.2 c1
    refine it_V.sN it_cd239 it_m239 5 (pc1 := 19) (ls1 := [some (.ref 66), some (.int x0), some (.int x1), none]) (st1 := [(.int x1), (.int x0), (.int (m 66 17)), (.ref 66)]) (mem1 := m) rfl ?_
    refine it_V.call it_cd239 it_m239 rfl it_m238 [(.ref 66), (.int (m 66 17)), (.int x0), (.int x1)] [] rfl rfl ⟨Nat.le_of_ble_eq_true rfl, Nat.le_of_ble_eq_true rfl, Nat.le_of_ble_eq_true rfl, Nat.le_of_ble_eq_true rfl, rfl⟩ (s_238 kc (m 66 17) x0 x1 m _ h) ?_
    rintro _ m3 ⟨r2, rfl, h⟩
    refine it_V.at (pc1 := 22) (ls1 := [some (.ref 66), some (.int x0), some (.int x1), none]) (st1 := [(.int r2)]) (mem1 := m3) rfl rfl rfl rfl ?_
    refine it_V.weak (l := [some (.ref 66), none, none, none]) ⟨rfl, trivial⟩ ?_
    exact s_239_22 kc Φ r2 m3 h
set_option maxRecDepth 100000 in
set_option maxHeartbeats 4000000 in
theorem s_240_120 (kc : it_Kc) (Φ : it_Me → Prop) (K153 : Int32 → Int32 → Int32 → Int32 → Int32 → it_Me → Prop) (hK153 : ∀ (v1 : Int32) (v2 : Int32) (v3 : Int32) (v4 : Int32) (v6 : Int32) (m : it_Me), K153 v1 v2 v3 v4 v6 m → it_V kc it_sh0 240 153 [some (.ref 66), some (.int v1), some (.int v2), some (.int v3), some (.int v4), none, some (.int v6), none, none] [] m (it_Pv Φ)) : ∀ (n : Nat) (v1 : Int32) (v2 : Int32) (v3 : Int32) (v4 : Int32) (v6 : Int32) (v7 : Int32) (v8 : Int32) (m : it_Me) (h : w_240_120 kc Φ K153 n v1 v2 v3 v4 v6 v7 v8 m), it_V kc it_sh0 240 120 [some (.ref 66), some (.int v1), some (.int v2), some (.int v3), some (.int v4), none, some (.int v6), some (.int v7), some (.int v8)] [] m (it_Pv Φ) := by
  intro n
  induction n with
  | zero => intro v1 v2 v3 v4 v6 v7 v8 m h; exact absurd h id
  | succ n ih =>
    intro v1 v2 v3 v4 v6 v7 v8 m h
    rw [w_240_120] at h
    refine it_V.sN it_cd240 it_m240 2 (pc1 := (if v7 = 0 then 153 else 125)) (ls1 := [some (.ref 66), some (.int v1), some (.int v2), some (.int v3), some (.int v4), none, some (.int v6), some (.int v7), some (.int v8)]) (st1 := []) (mem1 := m) rfl ?_
    refine it_V.ite (fun c1 => ?_) (fun c1 => ?_)
    · have h := h.1 c1
      refine it_V.weak (l := [some (.ref 66), some (.int v1), some (.int v2), some (.int v3), some (.int v4), none, some (.int v6), none, none]) ⟨rfl, ⟨rfl, ⟨rfl, ⟨rfl, ⟨rfl, ⟨rfl, trivial⟩⟩⟩⟩⟩⟩ ?_
      exact hK153 v1 v2 v3 v4 v6 m h
    · have h := h.2 c1
      refine it_V.sN it_cd240 it_m240 3 (pc1 := (if v6 ≤ v8 then 153 else 132)) (ls1 := [some (.ref 66), some (.int v1), some (.int v2), some (.int v3), some (.int v4), none, some (.int v6), some (.int v7), some (.int v8)]) (st1 := []) (mem1 := m) rfl ?_
      refine it_V.ite (fun c2 => ?_) (fun c2 => ?_)
      · have h := h.1 c2
        refine it_V.weak (l := [some (.ref 66), some (.int v1), some (.int v2), some (.int v3), some (.int v4), none, some (.int v6), none, none]) ⟨rfl, ⟨rfl, ⟨rfl, ⟨rfl, ⟨rfl, ⟨rfl, trivial⟩⟩⟩⟩⟩⟩ ?_
        exact hK153 v1 v2 v3 v4 v6 m h
      · have h := h.2 c2
        refine it_V.sN it_cd240 it_m240 4 (pc1 := 138) (ls1 := [some (.ref 66), some (.int v1), some (.int v2), some (.int v3), some (.int v4), none, some (.int v6), some (.int v7), some (.int v8)]) (st1 := [(.int v8), (.ref 66), (.int v4), (.ref 66)]) (mem1 := m) rfl ?_
        refine it_V.call it_cd240 it_m240 rfl it_m220 [(.ref 66), (.int v8)] [(.int v4), (.ref 66)] rfl rfl ⟨Nat.le_of_ble_eq_true rfl, Nat.le_of_ble_eq_true rfl, Nat.le_of_ble_eq_true rfl, Nat.le_of_ble_eq_true rfl, rfl⟩ (s_220 kc v8 m _ h) ?_
        rintro _ m4 ⟨r3, rfl, h⟩
        refine it_V.at (pc1 := 141) (ls1 := [some (.ref 66), some (.int v1), some (.int v2), some (.int v3), some (.int v4), none, some (.int v6), some (.int v7), some (.int v8)]) (st1 := [(.int r3), (.int v4), (.ref 66)]) (mem1 := m4) rfl rfl rfl rfl ?_
        refine it_V.call it_cd240 it_m240 rfl it_m231 [(.ref 66), (.int v4), (.int r3)] [] rfl rfl ⟨Nat.le_of_ble_eq_true rfl, Nat.le_of_ble_eq_true rfl, Nat.le_of_ble_eq_true rfl, Nat.le_of_ble_eq_true rfl, rfl⟩ (s_231 kc v4 r3 m4 _ h) ?_
        rintro _ m5 ⟨rfl, h⟩
        refine it_V.at (pc1 := 144) (ls1 := [some (.ref 66), some (.int v1), some (.int v2), some (.int v3), some (.int v4), none, some (.int v6), some (.int v7), some (.int v8)]) (st1 := []) (mem1 := m5) rfl rfl rfl rfl ?_
        refine it_V.sN it_cd240 it_m240 3 (pc1 := 120) (ls1 := [some (.ref 66), some (.int v1), some (.int v2), some (.int v3), some (.int (v4 + (4 : Int32))), none, some (.int v6), some (.int v7), some (.int (v8 + (4 : Int32)))]) (st1 := []) (mem1 := m5) rfl ?_
        refine it_V.weak (l := [some (.ref 66), some (.int v1), some (.int v2), some (.int v3), some (.int (v4 + (4 : Int32))), none, some (.int v6), some (.int v7), some (.int (v8 + (4 : Int32)))]) ⟨rfl, ⟨rfl, ⟨rfl, ⟨rfl, ⟨rfl, ⟨rfl, ⟨rfl, ⟨rfl, trivial⟩⟩⟩⟩⟩⟩⟩⟩ ?_
        exact ih v1 v2 v3 (v4 + (4 : Int32)) v6 v7 (v8 + (4 : Int32)) m5 h
set_option maxRecDepth 100000 in
set_option maxHeartbeats 4000000 in
theorem s_240_153 (kc : it_Kc) (Φ : it_Me → Prop) (K57 : Int32 → Int32 → Int32 → Int32 → Int32 → Int32 → it_Me → Prop) (K169 : Int32 → Int32 → it_Me → Prop) (hK57 : ∀ (v1 : Int32) (v2 : Int32) (v3 : Int32) (v4 : Int32) (v5 : Int32) (v6 : Int32) (m : it_Me), K57 v1 v2 v3 v4 v5 v6 m → it_V kc it_sh0 240 57 [some (.ref 66), some (.int v1), some (.int v2), some (.int v3), some (.int v4), some (.int v5), some (.int v6), none, none] [] m (it_Pv Φ)) (hK169 : ∀ (v2 : Int32) (v3 : Int32) (m : it_Me), K169 v2 v3 m → it_V kc it_sh0 240 169 [some (.ref 66), none, some (.int v2), some (.int v3), none, none, none, none, none] [] m (it_Pv Φ)) (v1 : Int32) (v2 : Int32) (v3 : Int32) (v4 : Int32) (v6 : Int32) (m : it_Me) (h : w_240_153 kc Φ K57 K169 v1 v2 v3 v4 v6 m) : it_V kc it_sh0 240 153 [some (.ref 66), some (.int v1), some (.int v2), some (.int v3), some (.int v4), none, some (.int v6), none, none] [] m (it_Pv Φ) := by
  rw [w_240_153] at h
  refine it_V.sN it_cd240 it_m240 5 (pc1 := 161) (ls1 := [some (.ref 66), some (.int v1), some (.int v2), some (.int v3), some (.int v4), some (.int v6), some (.int v6), none, none]) (st1 := [(.int v6), (.int v1), (.ref 66)]) (mem1 := m) rfl ?_
  refine it_V.call it_cd240 it_m240 rfl it_m235 [(.ref 66), (.int v1), (.int v6)] [] rfl rfl ⟨Nat.le_of_ble_eq_true rfl, Nat.le_of_ble_eq_true rfl, Nat.le_of_ble_eq_true rfl, Nat.le_of_ble_eq_true rfl, rfl⟩ (s_235 kc v1 v6 m _ h) ?_
  rintro _ m2 ⟨r1, rfl, h⟩
  refine it_V.at (pc1 := 164) (ls1 := [some (.ref 66), some (.int v1), some (.int v2), some (.int v3), some (.int v4), some (.int v6), some (.int v6), none, none]) (st1 := [(.int r1)]) (mem1 := m2) rfl rfl rfl rfl ?_
  refine it_V.sN it_cd240 it_m240 2 (pc1 := 57) (ls1 := [some (.ref 66), some (.int v1), some (.int v2), some (.int v3), some (.int v4), some (.int v6), some (.int r1), none, none]) (st1 := []) (mem1 := m2) rfl ?_
  refine it_V.weak (l := [some (.ref 66), some (.int v1), some (.int v2), some (.int v3), some (.int v4), some (.int v6), some (.int r1), none, none]) ⟨rfl, ⟨rfl, ⟨rfl, ⟨rfl, ⟨rfl, ⟨rfl, ⟨rfl, trivial⟩⟩⟩⟩⟩⟩⟩ ?_
  exact hK57 v1 v2 v3 v4 v6 r1 m2 h
set_option maxRecDepth 100000 in
set_option maxHeartbeats 4000000 in
theorem s_240_114 (kc : it_Kc) (Φ : it_Me → Prop) (K57 : Int32 → Int32 → Int32 → Int32 → Int32 → Int32 → it_Me → Prop) (K169 : Int32 → Int32 → it_Me → Prop) (hK57 : ∀ (v1 : Int32) (v2 : Int32) (v3 : Int32) (v4 : Int32) (v5 : Int32) (v6 : Int32) (m : it_Me), K57 v1 v2 v3 v4 v5 v6 m → it_V kc it_sh0 240 57 [some (.ref 66), some (.int v1), some (.int v2), some (.int v3), some (.int v4), some (.int v5), some (.int v6), none, none] [] m (it_Pv Φ)) (hK169 : ∀ (v2 : Int32) (v3 : Int32) (m : it_Me), K169 v2 v3 m → it_V kc it_sh0 240 169 [some (.ref 66), none, some (.int v2), some (.int v3), none, none, none, none, none] [] m (it_Pv Φ)) (v1 : Int32) (v2 : Int32) (v3 : Int32) (v4 : Int32) (v5 : Int32) (v6 : Int32) (u0 : Int32) (m : it_Me) (h : w_240_114 kc Φ K57 K169 v1 v2 v3 v4 v5 v6 u0 m) : it_V kc it_sh0 240 114 [some (.ref 66), some (.int v1), some (.int v2), some (.int v3), some (.int v4), some (.int v5), some (.int v6), none, none] [(.int u0)] m (it_Pv Φ) := by
  rw [w_240_114] at h
  refine it_V.sN it_cd240 it_m240 3 (pc1 := 120) (ls1 := [some (.ref 66), some (.int v1), some (.int v2), some (.int v3), some (.int v4), some (.int v5), some (.int v6), some (.int u0), some (.int v5)]) (st1 := []) (mem1 := m) rfl ?_
  refine it_V.weak (l := [some (.ref 66), some (.int v1), some (.int v2), some (.int v3), some (.int v4), none, some (.int v6), some (.int u0), some (.int v5)]) ⟨rfl, ⟨rfl, ⟨rfl, ⟨rfl, ⟨rfl, ⟨rfl, ⟨rfl, ⟨rfl, trivial⟩⟩⟩⟩⟩⟩⟩⟩ ?_
  obtain ⟨n, h⟩ := h
  exact s_240_120 kc Φ _ (fun v1 v2 v3 v4 v6 m h => s_240_153 kc Φ _ _ hK57 hK169 v1 v2 v3 v4 v6 m h) n v1 v2 v3 v4 v6 u0 v5 m h
set_option maxRecDepth 100000 in
set_option maxHeartbeats 4000000 in
theorem s_240_113 (kc : it_Kc) (Φ : it_Me → Prop) (K57 : Int32 → Int32 → Int32 → Int32 → Int32 → Int32 → it_Me → Prop) (K169 : Int32 → Int32 → it_Me → Prop) (hK57 : ∀ (v1 : Int32) (v2 : Int32) (v3 : Int32) (v4 : Int32) (v5 : Int32) (v6 : Int32) (m : it_Me), K57 v1 v2 v3 v4 v5 v6 m → it_V kc it_sh0 240 57 [some (.ref 66), some (.int v1), some (.int v2), some (.int v3), some (.int v4), some (.int v5), some (.int v6), none, none] [] m (it_Pv Φ)) (hK169 : ∀ (v2 : Int32) (v3 : Int32) (m : it_Me), K169 v2 v3 m → it_V kc it_sh0 240 169 [some (.ref 66), none, some (.int v2), some (.int v3), none, none, none, none, none] [] m (it_Pv Φ)) (v1 : Int32) (v2 : Int32) (v3 : Int32) (v4 : Int32) (v5 : Int32) (v6 : Int32) (m : it_Me) (h : w_240_113 kc Φ K57 K169 v1 v2 v3 v4 v5 v6 m) : it_V kc it_sh0 240 113 [some (.ref 66), some (.int v1), some (.int v2), some (.int v3), some (.int v4), some (.int v5), some (.int v6), none, none] [] m (it_Pv Φ) := by
  rw [w_240_113] at h
  refine it_V.sN it_cd240 it_m240 1 (pc1 := 114) (ls1 := [some (.ref 66), some (.int v1), some (.int v2), some (.int v3), some (.int v4), some (.int v5), some (.int v6), none, none]) (st1 := [(.int (0 : Int32))]) (mem1 := m) rfl ?_
  refine it_V.weak (l := [some (.ref 66), some (.int v1), some (.int v2), some (.int v3), some (.int v4), some (.int v5), some (.int v6), none, none]) ⟨rfl, ⟨rfl, ⟨rfl, ⟨rfl, ⟨rfl, ⟨rfl, ⟨rfl, trivial⟩⟩⟩⟩⟩⟩⟩ ?_
  exact s_240_114 kc Φ _ _ hK57 hK169 v1 v2 v3 v4 v5 v6 (0 : Int32) m h
set_option maxRecDepth 100000 in
set_option maxHeartbeats 4000000 in
theorem s_240_57 (kc : it_Kc) (Φ : it_Me → Prop) (K169 : Int32 → Int32 → it_Me → Prop) (hK169 : ∀ (v2 : Int32) (v3 : Int32) (m : it_Me), K169 v2 v3 m → it_V kc it_sh0 240 169 [some (.ref 66), none, some (.int v2), some (.int v3), none, none, none, none, none] [] m (it_Pv Φ)) : ∀ (n : Nat) (v1 : Int32) (v2 : Int32) (v3 : Int32) (v4 : Int32) (v5 : Int32) (v6 : Int32) (m : it_Me) (h : w_240_57 kc Φ K169 n v1 v2 v3 v4 v5 v6 m), it_V kc it_sh0 240 57 [some (.ref 66), some (.int v1), some (.int v2), some (.int v3), some (.int v4), some (.int v5), some (.int v6), none, none] [] m (it_Pv Φ) := by
  intro n
  induction n with
  | zero => intro v1 v2 v3 v4 v5 v6 m h; exact absurd h id
  | succ n ih =>
    intro v1 v2 v3 v4 v5 v6 m h
    rw [w_240_57] at h
    refine it_V.sN it_cd240 it_m240 3 (pc1 := (if v6 = (-1 : Int32) then 169 else 63)) (ls1 := [some (.ref 66), some (.int v1), some (.int v2), some (.int v3), some (.int v4), some (.int v5), some (.int v6), none, none]) (st1 := []) (mem1 := m) rfl ?_
    refine it_V.ite (fun c1 => ?_) (fun c1 => ?_)
    · have h := h.1 c1
      refine it_V.weak (l := [some (.ref 66), none, some (.int v2), some (.int v3), none, none, none, none, none]) ⟨rfl, ⟨rfl, ⟨rfl, trivial⟩⟩⟩ ?_
      exact hK169 v2 v3 m h
    · have h := h.2 c1
      refine it_V.sN it_cd240 it_m240 3 (pc1 := (if (m 66 4) = 0 then 70 else 169)) (ls1 := [some (.ref 66), some (.int v1), some (.int v2), some (.int v3), some (.int v4), some (.int v5), some (.int v6), none, none]) (st1 := []) (mem1 := m) rfl ?_
      refine it_V.ite (fun c2 => ?_) (fun c2 => ?_)
      · have h := h.1 c2
        refine it_V.sN it_cd240 it_m240 4 (pc1 := 76) (ls1 := [some (.ref 66), some (.int v1), some (.int v2), some (.int v3), some (.int v4), some (.int v5), some (.int v6), none, none]) (st1 := [(.int (v5 + (8 : Int32))), (.ref 66)]) (mem1 := m) rfl ?_
        refine it_V.call it_cd240 it_m240 rfl it_m220 [(.ref 66), (.int (v5 + (8 : Int32)))] [] rfl rfl ⟨Nat.le_of_ble_eq_true rfl, Nat.le_of_ble_eq_true rfl, Nat.le_of_ble_eq_true rfl, Nat.le_of_ble_eq_true rfl, rfl⟩ (s_220 kc (v5 + (8 : Int32)) m _ h) ?_
        rintro _ m4 ⟨r3, rfl, h⟩
        refine it_V.at (pc1 := 79) (ls1 := [some (.ref 66), some (.int v1), some (.int v2), some (.int v3), some (.int v4), some (.int v5), some (.int v6), none, none]) (st1 := [(.int r3)]) (mem1 := m4) rfl rfl rfl rfl ?_
        refine it_V.sN it_cd240 it_m240 2 (pc1 := (if r3 = (255 : Int32) then 113 else 85)) (ls1 := [some (.ref 66), some (.int v1), some (.int v2), some (.int v3), some (.int v4), some (.int v5), some (.int v6), none, none]) (st1 := []) (mem1 := m4) rfl ?_
        refine it_V.ite (fun c5 => ?_) (fun c5 => ?_)
        · have h := h.1 c5
          refine it_V.weak (l := [some (.ref 66), some (.int v1), some (.int v2), some (.int v3), some (.int v4), some (.int v5), some (.int v6), none, none]) ⟨rfl, ⟨rfl, ⟨rfl, ⟨rfl, ⟨rfl, ⟨rfl, ⟨rfl, trivial⟩⟩⟩⟩⟩⟩⟩ ?_
          exact s_240_113 kc Φ _ _ ih hK169 v1 v2 v3 v4 v5 v6 m4 h
        · have h := h.2 c5
          refine it_V.sN it_cd240 it_m240 4 (pc1 := 90) (ls1 := [some (.ref 66), some (.int v1), some (.int v2), some (.int v3), some (.int v4), some (.int v5), some (.int v6), none, none]) (st1 := [(.int v5), (.ref 66), (.int v1), (.ref 66)]) (mem1 := m4) rfl ?_
          refine it_V.call it_cd240 it_m240 rfl it_m220 [(.ref 66), (.int v5)] [(.int v1), (.ref 66)] rfl rfl ⟨Nat.le_of_ble_eq_true rfl, Nat.le_of_ble_eq_true rfl, Nat.le_of_ble_eq_true rfl, Nat.le_of_ble_eq_true rfl, rfl⟩ (s_220 kc v5 m4 _ h) ?_
          rintro _ m7 ⟨r6, rfl, h⟩
          refine it_V.at (pc1 := 93) (ls1 := [some (.ref 66), some (.int v1), some (.int v2), some (.int v3), some (.int v4), some (.int v5), some (.int v6), none, none]) (st1 := [(.int r6), (.int v1), (.ref 66)]) (mem1 := m7) rfl rfl rfl rfl ?_
          refine it_V.sN it_cd240 it_m240 4 (pc1 := 98) (ls1 := [some (.ref 66), some (.int v1), some (.int v2), some (.int v3), some (.int v4), some (.int v5), some (.int v6), none, none]) (st1 := [(.int (v5 + (4 : Int32))), (.ref 66), (.int r6), (.int v1), (.ref 66)]) (mem1 := m7) rfl ?_
          refine it_V.call it_cd240 it_m240 rfl it_m220 [(.ref 66), (.int (v5 + (4 : Int32)))] [(.int r6), (.int v1), (.ref 66)] rfl rfl ⟨Nat.le_of_ble_eq_true rfl, Nat.le_of_ble_eq_true rfl, Nat.le_of_ble_eq_true rfl, Nat.le_of_ble_eq_true rfl, rfl⟩ (s_220 kc (v5 + (4 : Int32)) m7 _ h) ?_
          rintro _ m9 ⟨r8, rfl, h⟩
          refine it_V.at (pc1 := 101) (ls1 := [some (.ref 66), some (.int v1), some (.int v2), some (.int v3), some (.int v4), some (.int v5), some (.int v6), none, none]) (st1 := [(.int r8), (.int r6), (.int v1), (.ref 66)]) (mem1 := m9) rfl rfl rfl rfl ?_
          refine it_V.call it_cd240 it_m240 rfl it_m238 [(.ref 66), (.int v1), (.int r6), (.int r8)] [] rfl rfl ⟨Nat.le_of_ble_eq_true rfl, Nat.le_of_ble_eq_true rfl, Nat.le_of_ble_eq_true rfl, Nat.le_of_ble_eq_true rfl, rfl⟩ (s_238 kc v1 r6 r8 m9 _ h) ?_
          rintro _ m11 ⟨r10, rfl, h⟩
          refine it_V.at (pc1 := 104) (ls1 := [some (.ref 66), some (.int v1), some (.int v2), some (.int v3), some (.int v4), some (.int v5), some (.int v6), none, none]) (st1 := [(.int r10)]) (mem1 := m11) rfl rfl rfl rfl ?_
          refine it_V.sN it_cd240 it_m240 2 (pc1 := (if r10 = v5 then 109 else 113)) (ls1 := [some (.ref 66), some (.int v1), some (.int v2), some (.int v3), some (.int v4), some (.int v5), some (.int v6), none, none]) (st1 := []) (mem1 := m11) rfl ?_
          refine it_V.ite (fun c12 => ?_) (fun c12 => ?_)
          · have h := h.1 c12
            refine it_V.sN it_cd240 it_m240 2 (pc1 := 114) (ls1 := [some (.ref 66), some (.int v1), some (.int v2), some (.int v3), some (.int v4), some (.int v5), some (.int v6), none, none]) (st1 := [(.int (1 : Int32))]) (mem1 := m11) rfl ?_
            refine it_V.weak (l := [some (.ref 66), some (.int v1), some (.int v2), some (.int v3), some (.int v4), some (.int v5), some (.int v6), none, none]) ⟨rfl, ⟨rfl, ⟨rfl, ⟨rfl, ⟨rfl, ⟨rfl, ⟨rfl, trivial⟩⟩⟩⟩⟩⟩⟩ ?_
            exact s_240_114 kc Φ _ _ ih hK169 v1 v2 v3 v4 v5 v6 (1 : Int32) m11 h
          · have h := h.2 c12
            refine it_V.weak (l := [some (.ref 66), some (.int v1), some (.int v2), some (.int v3), some (.int v4), some (.int v5), some (.int v6), none, none]) ⟨rfl, ⟨rfl, ⟨rfl, ⟨rfl, ⟨rfl, ⟨rfl, ⟨rfl, trivial⟩⟩⟩⟩⟩⟩⟩ ?_
            exact s_240_113 kc Φ _ _ ih hK169 v1 v2 v3 v4 v5 v6 m11 h
      · have h := h.2 c2
        refine it_V.weak (l := [some (.ref 66), none, some (.int v2), some (.int v3), none, none, none, none, none]) ⟨rfl, ⟨rfl, ⟨rfl, trivial⟩⟩⟩ ?_
        exact hK169 v2 v3 m h
set_option maxRecDepth 100000 in
set_option maxHeartbeats 4000000 in
theorem s_240_203 (kc : it_Kc) (Φ : it_Me → Prop) (u1 : Int32) (m : it_Me) (h : w_240_203 kc Φ u1 m) : it_V kc it_sh0 240 203 [none, none, none, none, none, none, none, none, none] [(.int u1), (.ref 66)] m (it_Pv Φ) := by
  rw [w_240_203] at h
  refine it_V.sN it_cd240 it_m240 1 (pc1 := 206) (ls1 := [none, none, none, none, none, none, none, none, none]) (st1 := []) (mem1 := (it_sv m 66 17 u1)) rfl ?_
  exact it_V.ret it_cd240 it_m240 rfl rfl ⟨rfl, h⟩
set_option maxRecDepth 100000 in
set_option maxHeartbeats 4000000 in
theorem s_240_169 (kc : it_Kc) (Φ : it_Me → Prop) (v2 : Int32) (v3 : Int32) (m : it_Me) (h : w_240_169 kc Φ v2 v3 m) : it_V kc it_sh0 240 169 [some (.ref 66), none, some (.int v2), some (.int v3), none, none, none, none, none] [] m (it_Pv Φ) := by
  rw [w_240_169] at h
  refine it_V.sN it_cd240 it_m240 3 (pc1 := 172) (ls1 := [some (.ref 66), none, some (.int v2), some (.int v3), none, none, none, none, none]) (st1 := [(.int v2), (.ref 66), (.ref 66)]) (mem1 := m) rfl ?_
  refine it_V.call it_cd240 it_m240 rfl it_m233 [(.ref 66), (.int v2)] [(.ref 66)] rfl rfl ⟨Nat.le_of_ble_eq_true rfl, Nat.le_of_ble_eq_true rfl, Nat.le_of_ble_eq_true rfl, Nat.le_of_ble_eq_true rfl, rfl⟩ (s_233 kc v2 m _ h) ?_
  rintro _ m2 ⟨r1, rfl, h⟩
  refine it_V.at (pc1 := 175) (ls1 := [some (.ref 66), none, some (.int v2), some (.int v3), none, none, none, none, none]) (st1 := [(.int r1), (.ref 66)]) (mem1 := m2) rfl rfl rfl rfl ?_
  refine it_V.sN it_cd240 it_m240 7 (pc1 := 184) (ls1 := [some (.ref 66), none, some (.int v2), some (.int v3), none, none, none, none, none]) (st1 := [(.int ((1263927296 : Int32) ||| ((v3 + (1 : Int32)) &&& (65535 : Int32)))), (.int r1), (.ref 66)]) (mem1 := m2) rfl ?_
  refine it_V.call it_cd240 it_m240 rfl it_m231 [(.ref 66), (.int r1), (.int ((1263927296 : Int32) ||| ((v3 + (1 : Int32)) &&& (65535 : Int32))))] [] rfl rfl ⟨Nat.le_of_ble_eq_true rfl, Nat.le_of_ble_eq_true rfl, Nat.le_of_ble_eq_true rfl, Nat.le_of_ble_eq_true rfl, rfl⟩ (s_231 kc r1 ((1263927296 : Int32) ||| ((v3 + (1 : Int32)) &&& (65535 : Int32))) m2 _ h) ?_
  rintro _ m3 ⟨rfl, h⟩
  refine it_V.at (pc1 := 187) (ls1 := [some (.ref 66), none, some (.int v2), some (.int v3), none, none, none, none, none]) (st1 := []) (mem1 := m3) rfl rfl rfl rfl ?_
  refine it_V.sN it_cd240 it_m240 4 (pc1 := (if (m3 66 4) = 0 then 202 else 195)) (ls1 := [some (.ref 66), none, some (.int v2), some (.int v3), none, none, none, none, none]) (st1 := [(.ref 66)]) (mem1 := m3) rfl ?_
  refine it_V.ite (fun c4 => ?_) (fun c4 => ?_)
  · have h := h.1 c4
    refine it_V.sN it_cd240 it_m240 1 (pc1 := 203) (ls1 := [some (.ref 66), none, some (.int v2), some (.int v3), none, none, none, none, none]) (st1 := [(.int v2), (.ref 66)]) (mem1 := m3) rfl ?_
    refine it_V.weak (l := [none, none, none, none, none, none, none, none, none]) trivial ?_
    exact s_240_203 kc Φ v2 m3 h
  · have h := h.2 c4
    refine it_V.sN it_cd240 it_m240 3 (pc1 := 203) (ls1 := [some (.ref 66), none, some (.int v2), some (.int v3), none, none, none, none, none]) (st1 := [(.int (m3 66 17)), (.ref 66)]) (mem1 := m3) rfl ?_
    refine it_V.weak (l := [none, none, none, none, none, none, none, none, none]) trivial ?_
    exact s_240_203 kc Φ (m3 66 17) m3 h
set_option maxRecDepth 100000 in
set_option maxHeartbeats 4000000 in
theorem s_240 (kc : it_Kc) (m : it_Me) (Φ : it_Me → Prop) (h : w_240 kc m Φ) : it_V kc it_sh0 240 0 (it_loc0 [(.ref 66)] 9) [] m (it_Pv Φ) := by
  rw [w_240] at h
  refine it_V.at (pc1 := 0) (ls1 := [some (.ref 66), none, none, none, none, none, none, none, none]) (st1 := []) (mem1 := m) rfl rfl rfl rfl ?_
  refine it_V.sN it_cd240 it_m240 11 (pc1 := 15) (ls1 := [some (.ref 66), some (.int (m 66 17)), some (.int ((1 : Int32) - (m 66 17))), none, none, none, none, none, none]) (st1 := [(.int (m 66 17)), (.ref 66), (.ref 66)]) (mem1 := m) rfl ?_
  refine it_V.call it_cd240 it_m240 rfl it_m233 [(.ref 66), (.int (m 66 17))] [(.ref 66)] rfl rfl ⟨Nat.le_of_ble_eq_true rfl, Nat.le_of_ble_eq_true rfl, Nat.le_of_ble_eq_true rfl, Nat.le_of_ble_eq_true rfl, rfl⟩ (s_233 kc (m 66 17) m _ h) ?_
  rintro _ m2 ⟨r1, rfl, h⟩
  refine it_V.at (pc1 := 18) (ls1 := [some (.ref 66), some (.int (m 66 17)), some (.int ((1 : Int32) - (m 66 17))), none, none, none, none, none, none]) (st1 := [(.int r1), (.ref 66)]) (mem1 := m2) rfl rfl rfl rfl ?_
  refine it_V.call it_cd240 it_m240 rfl it_m220 [(.ref 66), (.int r1)] [] rfl rfl ⟨Nat.le_of_ble_eq_true rfl, Nat.le_of_ble_eq_true rfl, Nat.le_of_ble_eq_true rfl, Nat.le_of_ble_eq_true rfl, rfl⟩ (s_220 kc r1 m2 _ h) ?_
  rintro _ m4 ⟨r3, rfl, h⟩
  refine it_V.at (pc1 := 21) (ls1 := [some (.ref 66), some (.int (m 66 17)), some (.int ((1 : Int32) - (m 66 17))), none, none, none, none, none, none]) (st1 := [(.int r3)]) (mem1 := m4) rfl rfl rfl rfl ?_
  refine it_V.sN it_cd240 it_m240 5 (pc1 := 27) (ls1 := [some (.ref 66), some (.int (m 66 17)), some (.int ((1 : Int32) - (m 66 17))), some (.int (r3 &&& (65535 : Int32))), none, none, none, none, none]) (st1 := [(.int ((1 : Int32) - (m 66 17))), (.ref 66)]) (mem1 := m4) rfl ?_
  refine it_V.call it_cd240 it_m240 rfl it_m232 [(.ref 66), (.int ((1 : Int32) - (m 66 17)))] [] rfl rfl ⟨Nat.le_of_ble_eq_true rfl, Nat.le_of_ble_eq_true rfl, Nat.le_of_ble_eq_true rfl, Nat.le_of_ble_eq_true rfl, rfl⟩ (s_232 kc ((1 : Int32) - (m 66 17)) m4 _ h) ?_
  rintro _ m5 ⟨rfl, h⟩
  refine it_V.at (pc1 := 30) (ls1 := [some (.ref 66), some (.int (m 66 17)), some (.int ((1 : Int32) - (m 66 17))), some (.int (r3 &&& (65535 : Int32))), none, none, none, none, none]) (st1 := []) (mem1 := m5) rfl rfl rfl rfl ?_
  refine it_V.sN it_cd240 it_m240 2 (pc1 := 32) (ls1 := [some (.ref 66), some (.int (m 66 17)), some (.int ((1 : Int32) - (m 66 17))), some (.int (r3 &&& (65535 : Int32))), none, none, none, none, none]) (st1 := [(.int ((1 : Int32) - (m 66 17))), (.ref 66)]) (mem1 := m5) rfl ?_
  refine it_V.call it_cd240 it_m240 rfl it_m233 [(.ref 66), (.int ((1 : Int32) - (m 66 17)))] [] rfl rfl ⟨Nat.le_of_ble_eq_true rfl, Nat.le_of_ble_eq_true rfl, Nat.le_of_ble_eq_true rfl, Nat.le_of_ble_eq_true rfl, rfl⟩ (s_233 kc ((1 : Int32) - (m 66 17)) m5 _ h) ?_
  rintro _ m7 ⟨r6, rfl, h⟩
  refine it_V.at (pc1 := 35) (ls1 := [some (.ref 66), some (.int (m 66 17)), some (.int ((1 : Int32) - (m 66 17))), some (.int (r3 &&& (65535 : Int32))), none, none, none, none, none]) (st1 := [(.int r6)]) (mem1 := m7) rfl rfl rfl rfl ?_
  refine it_V.sN it_cd240 it_m240 5 (pc1 := 41) (ls1 := [some (.ref 66), some (.int (m 66 17)), some (.int ((1 : Int32) - (m 66 17))), some (.int (r3 &&& (65535 : Int32))), some (.int (r6 + (4 : Int32))), none, none, none, none]) (st1 := [(.int (m 66 17)), (.ref 66)]) (mem1 := m7) rfl ?_
  refine it_V.call it_cd240 it_m240 rfl it_m233 [(.ref 66), (.int (m 66 17))] [] rfl rfl ⟨Nat.le_of_ble_eq_true rfl, Nat.le_of_ble_eq_true rfl, Nat.le_of_ble_eq_true rfl, Nat.le_of_ble_eq_true rfl, rfl⟩ (s_233 kc (m 66 17) m7 _ h) ?_
  rintro _ m9 ⟨r8, rfl, h⟩
  refine it_V.at (pc1 := 44) (ls1 := [some (.ref 66), some (.int (m 66 17)), some (.int ((1 : Int32) - (m 66 17))), some (.int (r3 &&& (65535 : Int32))), some (.int (r6 + (4 : Int32))), none, none, none, none]) (st1 := [(.int r8)]) (mem1 := m9) rfl rfl rfl rfl ?_
  refine it_V.sN it_cd240 it_m240 6 (pc1 := 52) (ls1 := [some (.ref 66), some (.int (m 66 17)), some (.int ((1 : Int32) - (m 66 17))), some (.int (r3 &&& (65535 : Int32))), some (.int (r6 + (4 : Int32))), some (.int (r8 + (4 : Int32))), none, none, none]) (st1 := [(.int (r8 + (4 : Int32))), (.int (m 66 17)), (.ref 66)]) (mem1 := m9) rfl ?_
  refine it_V.call it_cd240 it_m240 rfl it_m235 [(.ref 66), (.int (m 66 17)), (.int (r8 + (4 : Int32)))] [] rfl rfl ⟨Nat.le_of_ble_eq_true rfl, Nat.le_of_ble_eq_true rfl, Nat.le_of_ble_eq_true rfl, Nat.le_of_ble_eq_true rfl, rfl⟩ (s_235 kc (m 66 17) (r8 + (4 : Int32)) m9 _ h) ?_
  rintro _ m11 ⟨r10, rfl, h⟩
  refine it_V.at (pc1 := 55) (ls1 := [some (.ref 66), some (.int (m 66 17)), some (.int ((1 : Int32) - (m 66 17))), some (.int (r3 &&& (65535 : Int32))), some (.int (r6 + (4 : Int32))), some (.int (r8 + (4 : Int32))), none, none, none]) (st1 := [(.int r10)]) (mem1 := m11) rfl rfl rfl rfl ?_
  refine it_V.sN it_cd240 it_m240 1 (pc1 := 57) (ls1 := [some (.ref 66), some (.int (m 66 17)), some (.int ((1 : Int32) - (m 66 17))), some (.int (r3 &&& (65535 : Int32))), some (.int (r6 + (4 : Int32))), some (.int (r8 + (4 : Int32))), some (.int r10), none, none]) (st1 := []) (mem1 := m11) rfl ?_
  obtain ⟨n, h⟩ := h
  exact s_240_57 kc Φ _ (fun v2 v3 m h => s_240_169 kc Φ v2 v3 m h) n (m 66 17) ((1 : Int32) - (m 66 17)) (r3 &&& (65535 : Int32)) (r6 + (4 : Int32)) (r8 + (4 : Int32)) r10 m11 h
set_option maxRecDepth 100000 in
set_option maxHeartbeats 4000000 in
theorem s_241_121 (kc : it_Kc) (Φ : it_Me → Prop) (m : it_Me) (h : w_241_121 kc Φ m) : it_V kc it_sh0 241 121 [none, none, none, none] [] m (it_Pv Φ) := by
  rw [w_241_121] at h
  exact it_V.ret it_cd241 it_m241 rfl rfl ⟨rfl, h⟩
set_option maxRecDepth 100000 in
set_option maxHeartbeats 4000000 in
theorem s_241_103 (kc : it_Kc) (Φ : it_Me → Prop) (u1 : Int32) (m : it_Me) (h : w_241_103 kc Φ u1 m) : it_V kc it_sh0 241 103 [some (.ref 66), none, none, none] [(.int u1), (.ref 66)] m (it_Pv Φ) := by
  rw [w_241_103] at h
  refine it_V.sN it_cd241 it_m241 4 (pc1 := 111) (ls1 := [some (.ref 66), none, none, none]) (st1 := [(.int ((it_sv m 66 17 u1) 66 17)), (.ref 66)]) (mem1 := (it_sv m 66 17 u1)) rfl ?_
  refine it_V.call it_cd241 it_m241 rfl it_m237 [(.ref 66), (.int ((it_sv m 66 17 u1) 66 17))] [] rfl rfl ⟨Nat.le_of_ble_eq_true rfl, Nat.le_of_ble_eq_true rfl, Nat.le_of_ble_eq_true rfl, Nat.le_of_ble_eq_true rfl, rfl⟩ (s_237 kc ((it_sv m 66 17 u1) 66 17) (it_sv m 66 17 u1) _ h) ?_
  rintro _ m2 ⟨r1, rfl, h⟩
  refine it_V.at (pc1 := 114) (ls1 := [some (.ref 66), none, none, none]) (st1 := [(.int r1)]) (mem1 := m2) rfl rfl rfl rfl ?_
  refine it_V.sN it_cd241 it_m241 1 (pc1 := (if r1 = 0 then 117 else 121)) (ls1 := [some (.ref 66), none, none, none]) (st1 := []) (mem1 := m2) rfl ?_
  refine it_V.ite (fun c3 => ?_) (fun c3 => ?_)
  · have h := h.1 c3
    refine it_V.sN it_cd241 it_m241 1 (pc1 := 118) (ls1 := [some (.ref 66), none, none, none]) (st1 := [(.ref 66)]) (mem1 := m2) rfl ?_
    refine it_V.call it_cd241 it_m241 rfl it_m240 [(.ref 66)] [] rfl rfl ⟨Nat.le_of_ble_eq_true rfl, Nat.le_of_ble_eq_true rfl, Nat.le_of_ble_eq_true rfl, Nat.le_of_ble_eq_true rfl, rfl⟩ (s_240 kc m2 _ h) ?_
    rintro _ m4 ⟨rfl, h⟩
    refine it_V.at (pc1 := 121) (ls1 := [some (.ref 66), none, none, none]) (st1 := []) (mem1 := m4) rfl rfl rfl rfl ?_
    refine it_V.weak (l := [none, none, none, none]) trivial ?_
    exact s_241_121 kc Φ m4 h
  · have h := h.2 c3
    refine it_V.weak (l := [none, none, none, none]) trivial ?_
    exact s_241_121 kc Φ m2 h
set_option maxRecDepth 100000 in
set_option maxHeartbeats 4000000 in
theorem s_241_90 (kc : it_Kc) (Φ : it_Me → Prop) (m : it_Me) (h : w_241_90 kc Φ m) : it_V kc it_sh0 241 90 [some (.ref 66), none, none, none] [(.ref 66)] m (it_Pv Φ) := by
  rw [w_241_90] at h
  refine it_V.sN it_cd241 it_m241 2 (pc1 := 103) (ls1 := [some (.ref 66), none, none, none]) (st1 := [(.int (0 : Int32)), (.ref 66)]) (mem1 := m) rfl ?_
  refine it_V.weak (l := [some (.ref 66), none, none, none]) ⟨rfl, trivial⟩ ?_
  exact s_241_103 kc Φ (0 : Int32) m h
set_option maxRecDepth 100000 in
set_option maxHeartbeats 4000000 in
theorem s_241_94 (kc : it_Kc) (Φ : it_Me → Prop) (v1 : Int32) (m : it_Me) (h : w_241_94 kc Φ v1 m) : it_V kc it_sh0 241 94 [some (.ref 66), some (.int v1), none, none] [(.ref 66)] m (it_Pv Φ) := by
  rw [w_241_94] at h
  refine it_V.sN it_cd241 it_m241 2 (pc1 := (if v1 = 0 then 102 else 98)) (ls1 := [some (.ref 66), some (.int v1), none, none]) (st1 := [(.ref 66)]) (mem1 := m) rfl ?_
  refine it_V.ite (fun c1 => ?_) (fun c1 => ?_)
  · have h := h.1 c1
    refine it_V.sN it_cd241 it_m241 1 (pc1 := 103) (ls1 := [some (.ref 66), some (.int v1), none, none]) (st1 := [(.int (1 : Int32)), (.ref 66)]) (mem1 := m) rfl ?_
    refine it_V.weak (l := [some (.ref 66), none, none, none]) ⟨rfl, trivial⟩ ?_
    exact s_241_103 kc Φ (1 : Int32) m h
  · have h := h.2 c1
    refine it_V.sN it_cd241 it_m241 2 (pc1 := 103) (ls1 := [some (.ref 66), some (.int v1), none, none]) (st1 := [(.int (0 : Int32)), (.ref 66)]) (mem1 := m) rfl ?_
    refine it_V.weak (l := [some (.ref 66), none, none, none]) ⟨rfl, trivial⟩ ?_
    exact s_241_103 kc Φ (0 : Int32) m h
set_option maxRecDepth 100000 in
set_option maxHeartbeats 4000000 in
theorem s_241_42 (kc : it_Kc) (Φ : it_Me → Prop) (v1 : Int32) (v2 : Int32) (m : it_Me) (h : w_241_42 kc Φ v1 v2 m) : it_V kc it_sh0 241 42 [some (.ref 66), some (.int v1), some (.int v2), none] [] m (it_Pv Φ) := by
  rw [w_241_42] at h
  refine it_V.sN it_cd241 it_m241 3 (pc1 := 45) (ls1 := [some (.ref 66), some (.int v1), some (.int v2), none]) (st1 := [(.int (1 : Int32)), (.ref 66), (.ref 66)]) (mem1 := m) rfl ?_
  refine it_V.call it_cd241 it_m241 rfl it_m233 [(.ref 66), (.int (1 : Int32))] [(.ref 66)] rfl rfl ⟨Nat.le_of_ble_eq_true rfl, Nat.le_of_ble_eq_true rfl, Nat.le_of_ble_eq_true rfl, Nat.le_of_ble_eq_true rfl, rfl⟩ (s_233 kc (1 : Int32) m _ h) ?_
  rintro _ m2 ⟨r1, rfl, h⟩
  refine it_V.at (pc1 := 48) (ls1 := [some (.ref 66), some (.int v1), some (.int v2), none]) (st1 := [(.int r1), (.ref 66)]) (mem1 := m2) rfl rfl rfl rfl ?_
  refine it_V.call it_cd241 it_m241 rfl it_m220 [(.ref 66), (.int r1)] [] rfl rfl ⟨Nat.le_of_ble_eq_true rfl, Nat.le_of_ble_eq_true rfl, Nat.le_of_ble_eq_true rfl, Nat.le_of_ble_eq_true rfl, rfl⟩ (s_220 kc r1 m2 _ h) ?_
  rintro _ m4 ⟨r3, rfl, h⟩
  refine it_V.at (pc1 := 51) (ls1 := [some (.ref 66), some (.int v1), some (.int v2), none]) (st1 := [(.int r3)]) (mem1 := m4) rfl rfl rfl rfl ?_
  refine it_V.sN it_cd241 it_m241 3 (pc1 := 54) (ls1 := [some (.ref 66), some (.int v1), some (.int v2), none]) (st1 := [(.int (0 : Int32)), (.ref 66), (.ref 66), (.int r3)]) (mem1 := m4) rfl ?_
  refine it_V.call it_cd241 it_m241 rfl it_m233 [(.ref 66), (.int (0 : Int32))] [(.ref 66), (.int r3)] rfl rfl ⟨Nat.le_of_ble_eq_true rfl, Nat.le_of_ble_eq_true rfl, Nat.le_of_ble_eq_true rfl, Nat.le_of_ble_eq_true rfl, rfl⟩ (s_233 kc (0 : Int32) m4 _ h) ?_
  rintro _ m6 ⟨r5, rfl, h⟩
  refine it_V.at (pc1 := 57) (ls1 := [some (.ref 66), some (.int v1), some (.int v2), none]) (st1 := [(.int r5), (.ref 66), (.int r3)]) (mem1 := m6) rfl rfl rfl rfl ?_
  refine it_V.call it_cd241 it_m241 rfl it_m220 [(.ref 66), (.int r5)] [(.int r3)] rfl rfl ⟨Nat.le_of_ble_eq_true rfl, Nat.le_of_ble_eq_true rfl, Nat.le_of_ble_eq_true rfl, Nat.le_of_ble_eq_true rfl, rfl⟩ (s_220 kc r5 m6 _ h) ?_
  rintro _ m8 ⟨r7, rfl, h⟩
  refine it_V.at (pc1 := 60) (ls1 := [some (.ref 66), some (.int v1), some (.int v2), none]) (st1 := [(.int r7), (.int r3)]) (mem1 := m8) rfl rfl rfl rfl ?_
  refine it_V.sN it_cd241 it_m241 7 (pc1 := (if v1 = 0 then 94 else 70)) (ls1 := [some (.ref 66), some (.int v1), some (.int v2), some (.int ((r3 - r7) &&& (65535 : Int32)))]) (st1 := [(.ref 66)]) (mem1 := m8) rfl ?_
  refine it_V.ite (fun c9 => ?_) (fun c9 => ?_)
  · have h := h.1 c9
    refine it_V.weak (l := [some (.ref 66), some (.int v1), none, none]) ⟨rfl, ⟨rfl, trivial⟩⟩ ?_
    exact s_241_94 kc Φ v1 m8 h
  · have h := h.2 c9
    refine it_V.sN it_cd241 it_m241 2 (pc1 := (if v2 = 0 then 94 else 74)) (ls1 := [some (.ref 66), some (.int v1), some (.int v2), some (.int ((r3 - r7) &&& (65535 : Int32)))]) (st1 := [(.ref 66)]) (mem1 := m8) rfl ?_
    refine it_V.ite (fun c10 => ?_) (fun c10 => ?_)
    · have h := h.1 c10
      refine it_V.weak (l := [some (.ref 66), some (.int v1), none, none]) ⟨rfl, ⟨rfl, trivial⟩⟩ ?_
      exact s_241_94 kc Φ v1 m8 h
    · have h := h.2 c10
      refine it_V.sN it_cd241 it_m241 3 (pc1 := (if ((r3 - r7) &&& (65535 : Int32)) < (1 : Int32) then 90 else 79)) (ls1 := [some (.ref 66), some (.int v1), some (.int v2), some (.int ((r3 - r7) &&& (65535 : Int32)))]) (st1 := [(.ref 66)]) (mem1 := m8) rfl ?_
      refine it_V.ite (fun c11 => ?_) (fun c11 => ?_)
      · have h := h.1 c11
        refine it_V.weak (l := [some (.ref 66), none, none, none]) ⟨rfl, trivial⟩ ?_
        exact s_241_90 kc Φ m8 h
      · have h := h.2 c11
        refine it_V.sN it_cd241 it_m241 3 (pc1 := (if (32767 : Int32) < ((r3 - r7) &&& (65535 : Int32)) then 90 else 86)) (ls1 := [some (.ref 66), some (.int v1), some (.int v2), some (.int ((r3 - r7) &&& (65535 : Int32)))]) (st1 := [(.ref 66)]) (mem1 := m8) rfl ?_
        refine it_V.ite (fun c12 => ?_) (fun c12 => ?_)
        · have h := h.1 c12
          refine it_V.weak (l := [some (.ref 66), none, none, none]) ⟨rfl, trivial⟩ ?_
          exact s_241_90 kc Φ m8 h
        · have h := h.2 c12
          refine it_V.sN it_cd241 it_m241 2 (pc1 := 103) (ls1 := [some (.ref 66), some (.int v1), some (.int v2), some (.int ((r3 - r7) &&& (65535 : Int32)))]) (st1 := [(.int (1 : Int32)), (.ref 66)]) (mem1 := m8) rfl ?_
          refine it_V.weak (l := [some (.ref 66), none, none, none]) ⟨rfl, trivial⟩ ?_
          exact s_241_103 kc Φ (1 : Int32) m8 h
set_option maxRecDepth 100000 in
set_option maxHeartbeats 4000000 in
theorem s_241 (kc : it_Kc) (m : it_Me) (Φ : it_Me → Prop) (h : w_241 kc m Φ) : it_V kc it_sh0 241 0 (it_loc0 [(.ref 66)] 4) [] m (it_Pv Φ) := by
  rw [w_241] at h
  refine it_V.at (pc1 := 0) (ls1 := [some (.ref 66), none, none, none]) (st1 := []) (mem1 := m) rfl rfl rfl rfl ?_
  refine it_V.sN it_cd241 it_m241 2 (pc1 := 2) (ls1 := [some (.ref 66), none, none, none]) (st1 := [(.int (0 : Int32)), (.ref 66)]) (mem1 := m) rfl ?_
  refine it_V.call it_cd241 it_m241 rfl it_m234 [(.ref 66), (.int (0 : Int32))] [] rfl rfl ⟨Nat.le_of_ble_eq_true rfl, Nat.le_of_ble_eq_true rfl, Nat.le_of_ble_eq_true rfl, Nat.le_of_ble_eq_true rfl, rfl⟩ (s_234 kc (0 : Int32) m _ h) ?_
  rintro _ m2 ⟨r1, rfl, h⟩
  refine it_V.at (pc1 := 5) (ls1 := [some (.ref 66), none, none, none]) (st1 := [(.int r1)]) (mem1 := m2) rfl rfl rfl rfl ?_
  refine it_V.sN it_cd241 it_m241 3 (pc1 := 8) (ls1 := [some (.ref 66), some (.int r1), none, none]) (st1 := [(.int (1 : Int32)), (.ref 66)]) (mem1 := m2) rfl ?_
  refine it_V.call it_cd241 it_m241 rfl it_m234 [(.ref 66), (.int (1 : Int32))] [] rfl rfl ⟨Nat.le_of_ble_eq_true rfl, Nat.le_of_ble_eq_true rfl, Nat.le_of_ble_eq_true rfl, Nat.le_of_ble_eq_true rfl, rfl⟩ (s_234 kc (1 : Int32) m2 _ h) ?_
  rintro _ m4 ⟨r3, rfl, h⟩
  refine it_V.at (pc1 := 11) (ls1 := [some (.ref 66), some (.int r1), none, none]) (st1 := [(.int r3)]) (mem1 := m4) rfl rfl rfl rfl ?_
  refine it_V.sN it_cd241 it_m241 3 (pc1 := (if r1 = 0 then 16 else 42)) (ls1 := [some (.ref 66), some (.int r1), some (.int r3), none]) (st1 := []) (mem1 := m4) rfl ?_
  refine it_V.ite (fun c5 => ?_) (fun c5 => ?_)
  · have h := h.1 c5
    refine it_V.sN it_cd241 it_m241 2 (pc1 := (if r3 = 0 then 20 else 42)) (ls1 := [some (.ref 66), some (.int r1), some (.int r3), none]) (st1 := []) (mem1 := m4) rfl ?_
    refine it_V.ite (fun c6 => ?_) (fun c6 => ?_)
    · have h := h.1 c6
      refine it_V.sN it_cd241 it_m241 5 (pc1 := 27) (ls1 := [some (.ref 66), some (.int r1), some (.int r3), none]) (st1 := [(.int (0 : Int32)), (.ref 66)]) (mem1 := (it_sv m4 66 17 (0 : Int32))) rfl ?_
      refine it_V.call it_cd241 it_m241 rfl it_m232 [(.ref 66), (.int (0 : Int32))] [] rfl rfl ⟨Nat.le_of_ble_eq_true rfl, Nat.le_of_ble_eq_true rfl, Nat.le_of_ble_eq_true rfl, Nat.le_of_ble_eq_true rfl, rfl⟩ (s_232 kc (0 : Int32) (it_sv m4 66 17 (0 : Int32)) _ h) ?_
      rintro _ m7 ⟨rfl, h⟩
      refine it_V.at (pc1 := 30) (ls1 := [some (.ref 66), some (.int r1), some (.int r3), none]) (st1 := []) (mem1 := m7) rfl rfl rfl rfl ?_
      refine it_V.sN it_cd241 it_m241 3 (pc1 := 33) (ls1 := [some (.ref 66), some (.int r1), some (.int r3), none]) (st1 := [(.int (0 : Int32)), (.ref 66), (.ref 66)]) (mem1 := m7) rfl ?_
      refine it_V.call it_cd241 it_m241 rfl it_m233 [(.ref 66), (.int (0 : Int32))] [(.ref 66)] rfl rfl ⟨Nat.le_of_ble_eq_true rfl, Nat.le_of_ble_eq_true rfl, Nat.le_of_ble_eq_true rfl, Nat.le_of_ble_eq_true rfl, rfl⟩ (s_233 kc (0 : Int32) m7 _ h) ?_
      rintro _ m9 ⟨r8, rfl, h⟩
      refine it_V.at (pc1 := 36) (ls1 := [some (.ref 66), some (.int r1), some (.int r3), none]) (st1 := [(.int r8), (.ref 66)]) (mem1 := m9) rfl rfl rfl rfl ?_
      refine it_V.sN it_cd241 it_m241 1 (pc1 := 38) (ls1 := [some (.ref 66), some (.int r1), some (.int r3), none]) (st1 := [(.int (1263927296 : Int32)), (.int r8), (.ref 66)]) (mem1 := m9) rfl ?_
      refine it_V.call it_cd241 it_m241 rfl it_m231 [(.ref 66), (.int r8), (.int (1263927296 : Int32))] [] rfl rfl ⟨Nat.le_of_ble_eq_true rfl, Nat.le_of_ble_eq_true rfl, Nat.le_of_ble_eq_true rfl, Nat.le_of_ble_eq_true rfl, rfl⟩ (s_231 kc r8 (1263927296 : Int32) m9 _ h) ?_
      rintro _ m10 ⟨rfl, h⟩
      refine it_V.at (pc1 := 41) (ls1 := [some (.ref 66), some (.int r1), some (.int r3), none]) (st1 := []) (mem1 := m10) rfl rfl rfl rfl ?_
      exact it_V.ret it_cd241 it_m241 rfl rfl ⟨rfl, h⟩
    · have h := h.2 c6
      exact s_241_42 kc Φ r1 r3 m4 h
  · have h := h.2 c5
    exact s_241_42 kc Φ r1 r3 m4 h
set_option maxRecDepth 100000 in
set_option maxHeartbeats 4000000 in
theorem s_242_200 (kc : it_Kc) (Φ : Int32 → it_Me → Prop) (K157 : Int32 → Int32 → Int32 → Int32 → Int32 → Int32 → Int32 → Int32 → it_Me → Prop) (K209 : Int32 → Int32 → Int32 → Int32 → Int32 → Int32 → Int32 → it_Me → Prop) (hK157 : ∀ (v3 : Int32) (v4 : Int32) (v5 : Int32) (v7 : Int32) (v8 : Int32) (v9 : Int32) (v10 : Int32) (v11 : Int32) (m : it_Me), K157 v3 v4 v5 v7 v8 v9 v10 v11 m → it_V kc it_sh0 242 157 [some (.ref 66), none, none, some (.int v3), some (.int v4), some (.int v5), none, some (.int v7), some (.int v8), some (.int v9), some (.int v10), some (.int v11)] [] m (it_Pi Φ)) (hK209 : ∀ (v3 : Int32) (v4 : Int32) (v5 : Int32) (v7 : Int32) (v8 : Int32) (v9 : Int32) (v10 : Int32) (m : it_Me), K209 v3 v4 v5 v7 v8 v9 v10 m → it_V kc it_sh0 242 209 [some (.ref 66), none, none, some (.int v3), some (.int v4), some (.int v5), none, some (.int v7), some (.int v8), some (.int v9), some (.int v10), none] [] m (it_Pi Φ)) (v3 : Int32) (v4 : Int32) (v5 : Int32) (v7 : Int32) (v8 : Int32) (v9 : Int32) (v11 : Int32) (u0 : Int32) (u1 : Int32) (m : it_Me) (h : w_242_200 kc Φ K157 K209 v3 v4 v5 v7 v8 v9 v11 u0 u1 m) : it_V kc it_sh0 242 200 [some (.ref 66), none, none, some (.int v3), some (.int v4), some (.int v5), none, some (.int v7), some (.int v8), some (.int v9), none, some (.int v11)] [(.int u1), (.int u0)] m (it_Pi Φ) := by
  rw [w_242_200] at h
  refine it_V.sN it_cd242 it_m242 4 (pc1 := 157) (ls1 := [some (.ref 66), none, none, some (.int v3), some (.int v4), some (.int v5), none, some (.int v7), some (.int v8), some (.int v9), some (.int (u0 ||| u1)), some (.int (v11 + (1 : Int32)))]) (st1 := []) (mem1 := m) rfl ?_
  refine it_V.weak (l := [some (.ref 66), none, none, some (.int v3), some (.int v4), some (.int v5), none, some (.int v7), some (.int v8), some (.int v9), some (.int (u0 ||| u1)), some (.int (v11 + (1 : Int32)))]) ⟨rfl, ⟨rfl, ⟨rfl, ⟨rfl, ⟨rfl, ⟨rfl, ⟨rfl, ⟨rfl, ⟨rfl, trivial⟩⟩⟩⟩⟩⟩⟩⟩⟩ ?_
  exact hK157 v3 v4 v5 v7 v8 v9 (u0 ||| u1) (v11 + (1 : Int32)) m h
set_option maxRecDepth 100000 in
set_option maxHeartbeats 4000000 in
theorem s_242_157 (kc : it_Kc) (Φ : Int32 → it_Me → Prop) (K209 : Int32 → Int32 → Int32 → Int32 → Int32 → Int32 → Int32 → it_Me → Prop) (hK209 : ∀ (v3 : Int32) (v4 : Int32) (v5 : Int32) (v7 : Int32) (v8 : Int32) (v9 : Int32) (v10 : Int32) (m : it_Me), K209 v3 v4 v5 v7 v8 v9 v10 m → it_V kc it_sh0 242 209 [some (.ref 66), none, none, some (.int v3), some (.int v4), some (.int v5), none, some (.int v7), some (.int v8), some (.int v9), some (.int v10), none] [] m (it_Pi Φ)) : ∀ (n : Nat) (v3 : Int32) (v4 : Int32) (v5 : Int32) (v7 : Int32) (v8 : Int32) (v9 : Int32) (v10 : Int32) (v11 : Int32) (m : it_Me) (h : w_242_157 kc Φ K209 n v3 v4 v5 v7 v8 v9 v10 v11 m), it_V kc it_sh0 242 157 [some (.ref 66), none, none, some (.int v3), some (.int v4), some (.int v5), none, some (.int v7), some (.int v8), some (.int v9), some (.int v10), some (.int v11)] [] m (it_Pi Φ) := by
  intro n
  induction n with
  | zero => intro v3 v4 v5 v7 v8 v9 v10 v11 m h; exact absurd h id
  | succ n ih =>
    intro v3 v4 v5 v7 v8 v9 v10 v11 m h
    rw [w_242_157] at h
    refine it_V.sN it_cd242 it_m242 3 (pc1 := (if (4 : Int32) ≤ v11 then 209 else 163)) (ls1 := [some (.ref 66), none, none, some (.int v3), some (.int v4), some (.int v5), none, some (.int v7), some (.int v8), some (.int v9), some (.int v10), some (.int v11)]) (st1 := []) (mem1 := m) rfl ?_
    refine it_V.ite (fun c1 => ?_) (fun c1 => ?_)
    · have h := h.1 c1
      refine it_V.weak (l := [some (.ref 66), none, none, some (.int v3), some (.int v4), some (.int v5), none, some (.int v7), some (.int v8), some (.int v9), some (.int v10), none]) ⟨rfl, ⟨rfl, ⟨rfl, ⟨rfl, ⟨rfl, ⟨rfl, ⟨rfl, ⟨rfl, trivial⟩⟩⟩⟩⟩⟩⟩⟩ ?_
      exact hK209 v3 v4 v5 v7 v8 v9 v10 m h
    · have h := h.2 c1
      refine it_V.sN it_cd242 it_m242 8 (pc1 := (if v3 ≤ (((4 : Int32) * v9) + v11) then 199 else 176)) (ls1 := [some (.ref 66), none, none, some (.int v3), some (.int v4), some (.int v5), none, some (.int v7), some (.int v8), some (.int v9), some (.int v10), some (.int v11)]) (st1 := [(.int v10)]) (mem1 := m) rfl ?_
      refine it_V.ite (fun c2 => ?_) (fun c2 => ?_)
      · have h := h.1 c2
        refine it_V.sN it_cd242 it_m242 1 (pc1 := 200) (ls1 := [some (.ref 66), none, none, some (.int v3), some (.int v4), some (.int v5), none, some (.int v7), some (.int v8), some (.int v9), some (.int v10), some (.int v11)]) (st1 := [(.int (0 : Int32)), (.int v10)]) (mem1 := m) rfl ?_
        refine it_V.weak (l := [some (.ref 66), none, none, some (.int v3), some (.int v4), some (.int v5), none, some (.int v7), some (.int v8), some (.int v9), none, some (.int v11)]) ⟨rfl, ⟨rfl, ⟨rfl, ⟨rfl, ⟨rfl, ⟨rfl, ⟨rfl, ⟨rfl, trivial⟩⟩⟩⟩⟩⟩⟩⟩ ?_
        exact s_242_200 kc Φ _ _ ih hK209 v3 v4 v5 v7 v8 v9 v11 v10 (0 : Int32) m h
      · have h := h.2 c2
        refine it_V.sN it_cd242 it_m242 8 (pc1 := 187) (ls1 := [some (.ref 66), none, none, some (.int v3), some (.int v4), some (.int v5), none, some (.int v7), some (.int v8), some (.int v9), some (.int v10), some (.int v11)]) (st1 := [(.int ((v4 + ((4 : Int32) * v9)) + v11)), (.ref 66), (.int v10)]) (mem1 := m) rfl ?_
        refine it_V.call it_cd242 it_m242 rfl it_m218 [(.ref 66), (.int ((v4 + ((4 : Int32) * v9)) + v11))] [(.int v10)] rfl rfl ⟨Nat.le_of_ble_eq_true rfl, Nat.le_of_ble_eq_true rfl, Nat.le_of_ble_eq_true rfl, Nat.le_of_ble_eq_true rfl, rfl⟩ (s_218 kc ((v4 + ((4 : Int32) * v9)) + v11) m _ h) ?_
        rintro _ m4 ⟨r3, rfl, h⟩
        refine it_V.at (pc1 := 190) (ls1 := [some (.ref 66), none, none, some (.int v3), some (.int v4), some (.int v5), none, some (.int v7), some (.int v8), some (.int v9), some (.int v10), some (.int v11)]) (st1 := [(.int r3), (.int v10)]) (mem1 := m4) rfl rfl rfl rfl ?_
        refine it_V.sN it_cd242 it_m242 5 (pc1 := 200) (ls1 := [some (.ref 66), none, none, some (.int v3), some (.int v4), some (.int v5), none, some (.int v7), some (.int v8), some (.int v9), some (.int v10), some (.int v11)]) (st1 := [(.int (it_shl r3 ((8 : Int32) * v11))), (.int v10)]) (mem1 := m4) rfl ?_
        refine it_V.weak (l := [some (.ref 66), none, none, some (.int v3), some (.int v4), some (.int v5), none, some (.int v7), some (.int v8), some (.int v9), none, some (.int v11)]) ⟨rfl, ⟨rfl, ⟨rfl, ⟨rfl, ⟨rfl, ⟨rfl, ⟨rfl, ⟨rfl, trivial⟩⟩⟩⟩⟩⟩⟩⟩ ?_
        exact s_242_200 kc Φ _ _ ih hK209 v3 v4 v5 v7 v8 v9 v11 v10 (it_shl r3 ((8 : Int32) * v11)) m4 h
set_option maxRecDepth 100000 in
set_option maxHeartbeats 4000000 in
theorem s_242_209 (kc : it_Kc) (Φ : Int32 → it_Me → Prop) (K144 : Int32 → Int32 → Int32 → Int32 → Int32 → Int32 → it_Me → Prop) (K238 : Int32 → Int32 → Int32 → it_Me → Prop) (hK144 : ∀ (v3 : Int32) (v4 : Int32) (v5 : Int32) (v7 : Int32) (v8 : Int32) (v9 : Int32) (m : it_Me), K144 v3 v4 v5 v7 v8 v9 m → it_V kc it_sh0 242 144 [some (.ref 66), none, none, some (.int v3), some (.int v4), some (.int v5), none, some (.int v7), some (.int v8), some (.int v9), none, none] [] m (it_Pi Φ)) (hK238 : ∀ (v5 : Int32) (v7 : Int32) (v8 : Int32) (m : it_Me), K238 v5 v7 v8 m → it_V kc it_sh0 242 238 [some (.ref 66), none, none, none, none, some (.int v5), none, some (.int v7), some (.int v8), none, none, none] [] m (it_Pi Φ)) (v3 : Int32) (v4 : Int32) (v5 : Int32) (v7 : Int32) (v8 : Int32) (v9 : Int32) (v10 : Int32) (m : it_Me) (h : w_242_209 kc Φ K144 K238 v3 v4 v5 v7 v8 v9 v10 m) : it_V kc it_sh0 242 209 [some (.ref 66), none, none, some (.int v3), some (.int v4), some (.int v5), none, some (.int v7), some (.int v8), some (.int v9), some (.int v10), none] [] m (it_Pi Φ) := by
  rw [w_242_209] at h
  refine it_V.sN it_cd242 it_m242 13 (pc1 := 229) (ls1 := [some (.ref 66), none, none, some (.int v3), some (.int v4), some (.int v5), none, some (.int v7), some (.int (v8 ^^^ v10)), some (.int v9), some (.int v10), none]) (st1 := [(.int v10), (.int ((v7 + (12 : Int32)) + ((4 : Int32) * v9))), (.ref 66)]) (mem1 := m) rfl ?_
  refine it_V.call it_cd242 it_m242 rfl it_m231 [(.ref 66), (.int ((v7 + (12 : Int32)) + ((4 : Int32) * v9))), (.int v10)] [] rfl rfl ⟨Nat.le_of_ble_eq_true rfl, Nat.le_of_ble_eq_true rfl, Nat.le_of_ble_eq_true rfl, Nat.le_of_ble_eq_true rfl, rfl⟩ (s_231 kc ((v7 + (12 : Int32)) + ((4 : Int32) * v9)) v10 m _ h) ?_
  rintro _ m1 ⟨rfl, h⟩
  refine it_V.at (pc1 := 232) (ls1 := [some (.ref 66), none, none, some (.int v3), some (.int v4), some (.int v5), none, some (.int v7), some (.int (v8 ^^^ v10)), some (.int v9), some (.int v10), none]) (st1 := []) (mem1 := m1) rfl rfl rfl rfl ?_
  refine it_V.sN it_cd242 it_m242 2 (pc1 := 144) (ls1 := [some (.ref 66), none, none, some (.int v3), some (.int v4), some (.int v5), none, some (.int v7), some (.int (v8 ^^^ v10)), some (.int (v9 + (1 : Int32))), some (.int v10), none]) (st1 := []) (mem1 := m1) rfl ?_
  refine it_V.weak (l := [some (.ref 66), none, none, some (.int v3), some (.int v4), some (.int v5), none, some (.int v7), some (.int (v8 ^^^ v10)), some (.int (v9 + (1 : Int32))), none, none]) ⟨rfl, ⟨rfl, ⟨rfl, ⟨rfl, ⟨rfl, ⟨rfl, ⟨rfl, trivial⟩⟩⟩⟩⟩⟩⟩ ?_
  exact hK144 v3 v4 v5 v7 (v8 ^^^ v10) (v9 + (1 : Int32)) m1 h
set_option maxRecDepth 100000 in
set_option maxHeartbeats 4000000 in
theorem s_242_144 (kc : it_Kc) (Φ : Int32 → it_Me → Prop) (K238 : Int32 → Int32 → Int32 → it_Me → Prop) (hK238 : ∀ (v5 : Int32) (v7 : Int32) (v8 : Int32) (m : it_Me), K238 v5 v7 v8 m → it_V kc it_sh0 242 238 [some (.ref 66), none, none, none, none, some (.int v5), none, some (.int v7), some (.int v8), none, none, none] [] m (it_Pi Φ)) : ∀ (n : Nat) (v3 : Int32) (v4 : Int32) (v5 : Int32) (v7 : Int32) (v8 : Int32) (v9 : Int32) (m : it_Me) (h : w_242_144 kc Φ K238 n v3 v4 v5 v7 v8 v9 m), it_V kc it_sh0 242 144 [some (.ref 66), none, none, some (.int v3), some (.int v4), some (.int v5), none, some (.int v7), some (.int v8), some (.int v9), none, none] [] m (it_Pi Φ) := by
  intro n
  induction n with
  | zero => intro v3 v4 v5 v7 v8 v9 m h; exact absurd h id
  | succ n ih =>
    intro v3 v4 v5 v7 v8 v9 m h
    rw [w_242_144] at h
    refine it_V.sN it_cd242 it_m242 3 (pc1 := (if v5 ≤ v9 then 238 else 151)) (ls1 := [some (.ref 66), none, none, some (.int v3), some (.int v4), some (.int v5), none, some (.int v7), some (.int v8), some (.int v9), none, none]) (st1 := []) (mem1 := m) rfl ?_
    refine it_V.ite (fun c1 => ?_) (fun c1 => ?_)
    · have h := h.1 c1
      refine it_V.weak (l := [some (.ref 66), none, none, none, none, some (.int v5), none, some (.int v7), some (.int v8), none, none, none]) ⟨rfl, ⟨rfl, ⟨rfl, ⟨rfl, trivial⟩⟩⟩⟩ ?_
      exact hK238 v5 v7 v8 m h
    · have h := h.2 c1
      refine it_V.sN it_cd242 it_m242 4 (pc1 := 157) (ls1 := [some (.ref 66), none, none, some (.int v3), some (.int v4), some (.int v5), none, some (.int v7), some (.int v8), some (.int v9), some (.int (0 : Int32)), some (.int (0 : Int32))]) (st1 := []) (mem1 := m) rfl ?_
      refine it_V.weak (l := [some (.ref 66), none, none, some (.int v3), some (.int v4), some (.int v5), none, some (.int v7), some (.int v8), some (.int v9), some (.int (0 : Int32)), some (.int (0 : Int32))]) ⟨rfl, ⟨rfl, ⟨rfl, ⟨rfl, ⟨rfl, ⟨rfl, ⟨rfl, ⟨rfl, ⟨rfl, trivial⟩⟩⟩⟩⟩⟩⟩⟩⟩ ?_
      obtain ⟨n, h⟩ := h
      exact s_242_157 kc Φ _ (fun v3 v4 v5 v7 v8 v9 v10 m h => s_242_209 kc Φ _ _ ih hK238 v3 v4 v5 v7 v8 v9 v10 m h) n v3 v4 v5 v7 v8 v9 (0 : Int32) (0 : Int32) m h
set_option maxRecDepth 100000 in
set_option maxHeartbeats 4000000 in
theorem s_242_276 (kc : it_Kc) (Φ : Int32 → it_Me → Prop) (u0 : Int32) (m : it_Me) (h : w_242_276 kc Φ u0 m) : it_V kc it_sh0 242 276 [none, none, none, none, none, none, none, none, none, none, none, none] [(.int u0)] m (it_Pi Φ) := by
  rw [w_242_276] at h
  exact it_V.retZ it_cd242 it_m242 rfl rfl h.1 ⟨_, rfl, h.2⟩
set_option maxRecDepth 100000 in
set_option maxHeartbeats 4000000 in
theorem s_242_261 (kc : it_Kc) (Φ : Int32 → it_Me → Prop) (u1 : Int32) (u2 : Int32) (m : it_Me) (h : w_242_261 kc Φ u1 u2 m) : it_V kc it_sh0 242 261 [some (.ref 66), none, none, none, none, none, none, none, none, none, none, none] [(.int u2), (.int u1), (.ref 66)] m (it_Pi Φ) := by
  rw [w_242_261] at h
  refine it_V.call it_cd242 it_m242 rfl it_m231 [(.ref 66), (.int u1), (.int u2)] [] rfl rfl ⟨Nat.le_of_ble_eq_true rfl, Nat.le_of_ble_eq_true rfl, Nat.le_of_ble_eq_true rfl, Nat.le_of_ble_eq_true rfl, rfl⟩ (s_231 kc u1 u2 m _ h) ?_
  rintro _ m1 ⟨rfl, h⟩
  refine it_V.at (pc1 := 264) (ls1 := [some (.ref 66), none, none, none, none, none, none, none, none, none, none, none]) (st1 := []) (mem1 := m1) rfl rfl rfl rfl ?_
  refine it_V.sN it_cd242 it_m242 3 (pc1 := (if (m1 66 4) = 0 then 271 else 275)) (ls1 := [some (.ref 66), none, none, none, none, none, none, none, none, none, none, none]) (st1 := []) (mem1 := m1) rfl ?_
  refine it_V.ite (fun c2 => ?_) (fun c2 => ?_)
  · have h := h.1 c2
    refine it_V.sN it_cd242 it_m242 2 (pc1 := 276) (ls1 := [some (.ref 66), none, none, none, none, none, none, none, none, none, none, none]) (st1 := [(.int (1 : Int32))]) (mem1 := m1) rfl ?_
    refine it_V.weak (l := [none, none, none, none, none, none, none, none, none, none, none, none]) trivial ?_
    exact s_242_276 kc Φ (1 : Int32) m1 h
  · have h := h.2 c2
    refine it_V.sN it_cd242 it_m242 1 (pc1 := 276) (ls1 := [some (.ref 66), none, none, none, none, none, none, none, none, none, none, none]) (st1 := [(.int (0 : Int32))]) (mem1 := m1) rfl ?_
    refine it_V.weak (l := [none, none, none, none, none, none, none, none, none, none, none, none]) trivial ?_
    exact s_242_276 kc Φ (0 : Int32) m1 h
set_option maxRecDepth 100000 in
set_option maxHeartbeats 4000000 in
theorem s_242_238 (kc : it_Kc) (Φ : Int32 → it_Me → Prop) (v5 : Int32) (v7 : Int32) (v8 : Int32) (m : it_Me) (h : w_242_238 kc Φ v5 v7 v8 m) : it_V kc it_sh0 242 238 [some (.ref 66), none, none, none, none, some (.int v5), none, some (.int v7), some (.int v8), none, none, none] [] m (it_Pi Φ) := by
  rw [w_242_238] at h
  refine it_V.sN it_cd242 it_m242 11 (pc1 := (if v8 = (-1 : Int32) then 255 else 259)) (ls1 := [some (.ref 66), none, none, none, none, some (.int v5), none, some (.int v7), some (.int v8), none, none, none]) (st1 := [(.int ((v7 + (12 : Int32)) + ((4 : Int32) * v5))), (.ref 66)]) (mem1 := m) rfl ?_
  refine it_V.ite (fun c1 => ?_) (fun c1 => ?_)
  · have h := h.1 c1
    refine it_V.sN it_cd242 it_m242 2 (pc1 := 261) (ls1 := [some (.ref 66), none, none, none, none, some (.int v5), none, some (.int v7), some (.int v8), none, none, none]) (st1 := [(.int (0 : Int32)), (.int ((v7 + (12 : Int32)) + ((4 : Int32) * v5))), (.ref 66)]) (mem1 := m) rfl ?_
    refine it_V.weak (l := [some (.ref 66), none, none, none, none, none, none, none, none, none, none, none]) ⟨rfl, trivial⟩ ?_
    exact s_242_261 kc Φ ((v7 + (12 : Int32)) + ((4 : Int32) * v5)) (0 : Int32) m h
  · have h := h.2 c1
    refine it_V.sN it_cd242 it_m242 1 (pc1 := 261) (ls1 := [some (.ref 66), none, none, none, none, some (.int v5), none, some (.int v7), some (.int v8), none, none, none]) (st1 := [(.int v8), (.int ((v7 + (12 : Int32)) + ((4 : Int32) * v5))), (.ref 66)]) (mem1 := m) rfl ?_
    refine it_V.weak (l := [some (.ref 66), none, none, none, none, none, none, none, none, none, none, none]) ⟨rfl, trivial⟩ ?_
    exact s_242_261 kc Φ ((v7 + (12 : Int32)) + ((4 : Int32) * v5)) v8 m h
set_option maxRecDepth 100000 in
set_option maxHeartbeats 4000000 in
theorem s_242_73 (kc : it_Kc) (Φ : Int32 → it_Me → Prop) (v1 : Int32) (v2 : Int32) (v3 : Int32) (v4 : Int32) (v5 : Int32) (v6 : Int32) (m : it_Me) (h : w_242_73 kc Φ v1 v2 v3 v4 v5 v6 m) : it_V kc it_sh0 242 73 [some (.ref 66), some (.int v1), some (.int v2), some (.int v3), some (.int v4), some (.int v5), some (.int v6), none, none, none, none, none] [] m (it_Pi Φ) := by
  rw [w_242_73] at h
  refine it_V.sN it_cd242 it_m242 3 (pc1 := 78) (ls1 := [some (.ref 66), some (.int v1), some (.int v2), some (.int v3), some (.int v4), some (.int v5), some (.int v6), none, none, none, none, none]) (st1 := [(.int (m 66 17)), (.ref 66)]) (mem1 := m) rfl ?_
  refine it_V.call it_cd242 it_m242 rfl it_m236 [(.ref 66), (.int (m 66 17))] [] rfl rfl ⟨Nat.le_of_ble_eq_true rfl, Nat.le_of_ble_eq_true rfl, Nat.le_of_ble_eq_true rfl, Nat.le_of_ble_eq_true rfl, rfl⟩ (s_236 kc (m 66 17) m _ h) ?_
  rintro _ m2 ⟨r1, rfl, h⟩
  refine it_V.at (pc1 := 81) (ls1 := [some (.ref 66), some (.int v1), some (.int v2), some (.int v3), some (.int v4), some (.int v5), some (.int v6), none, none, none, none, none]) (st1 := [(.int r1)]) (mem1 := m2) rfl rfl rfl rfl ?_
  refine it_V.sN it_cd242 it_m242 7 (pc1 := 93) (ls1 := [some (.ref 66), some (.int v1), some (.int v2), some (.int v3), some (.int v4), some (.int v5), some (.int v6), some (.int r1), none, none, none, none]) (st1 := [(.int (m2 66 17)), (.ref 66), (.int (r1 + v6))]) (mem1 := m2) rfl ?_
  refine it_V.call it_cd242 it_m242 rfl it_m233 [(.ref 66), (.int (m2 66 17))] [(.int (r1 + v6))] rfl rfl ⟨Nat.le_of_ble_eq_true rfl, Nat.le_of_ble_eq_true rfl, Nat.le_of_ble_eq_true rfl, Nat.le_of_ble_eq_true rfl, rfl⟩ (s_233 kc (m2 66 17) m2 _ h) ?_
  rintro _ m4 ⟨r3, rfl, h⟩
  refine it_V.at (pc1 := 96) (ls1 := [some (.ref 66), some (.int v1), some (.int v2), some (.int v3), some (.int v4), some (.int v5), some (.int v6), some (.int r1), none, none, none, none]) (st1 := [(.int r3), (.int (r1 + v6))]) (mem1 := m4) rfl rfl rfl rfl ?_
  refine it_V.sN it_cd242 it_m242 3 (pc1 := (if (r1 + v6) ≤ (r3 + (2048 : Int32)) then 105 else 103)) (ls1 := [some (.ref 66), some (.int v1), some (.int v2), some (.int v3), some (.int v4), some (.int v5), some (.int v6), some (.int r1), none, none, none, none]) (st1 := []) (mem1 := m4) rfl ?_
  refine it_V.ite (fun c5 => ?_) (fun c5 => ?_)
  · have h := h.1 c5
    refine it_V.sN it_cd242 it_m242 11 (pc1 := 119) (ls1 := [some (.ref 66), some (.int v1), some (.int v2), some (.int v3), some (.int v4), some (.int v5), some (.int v6), some (.int r1), some (.int ((((1515870810 : Int32) ^^^ v1) ^^^ v2) ^^^ v3)), none, none, none]) (st1 := [(.int v1), (.int r1), (.ref 66)]) (mem1 := m4) rfl ?_
    refine it_V.call it_cd242 it_m242 rfl it_m231 [(.ref 66), (.int r1), (.int v1)] [] rfl rfl ⟨Nat.le_of_ble_eq_true rfl, Nat.le_of_ble_eq_true rfl, Nat.le_of_ble_eq_true rfl, Nat.le_of_ble_eq_true rfl, rfl⟩ (s_231 kc r1 v1 m4 _ h) ?_
    rintro _ m6 ⟨rfl, h⟩
    refine it_V.at (pc1 := 122) (ls1 := [some (.ref 66), some (.int v1), some (.int v2), some (.int v3), some (.int v4), some (.int v5), some (.int v6), some (.int r1), some (.int ((((1515870810 : Int32) ^^^ v1) ^^^ v2) ^^^ v3)), none, none, none]) (st1 := []) (mem1 := m6) rfl rfl rfl rfl ?_
    refine it_V.sN it_cd242 it_m242 5 (pc1 := 128) (ls1 := [some (.ref 66), some (.int v1), some (.int v2), some (.int v3), some (.int v4), some (.int v5), some (.int v6), some (.int r1), some (.int ((((1515870810 : Int32) ^^^ v1) ^^^ v2) ^^^ v3)), none, none, none]) (st1 := [(.int v2), (.int (r1 + (4 : Int32))), (.ref 66)]) (mem1 := m6) rfl ?_
    refine it_V.call it_cd242 it_m242 rfl it_m231 [(.ref 66), (.int (r1 + (4 : Int32))), (.int v2)] [] rfl rfl ⟨Nat.le_of_ble_eq_true rfl, Nat.le_of_ble_eq_true rfl, Nat.le_of_ble_eq_true rfl, Nat.le_of_ble_eq_true rfl, rfl⟩ (s_231 kc (r1 + (4 : Int32)) v2 m6 _ h) ?_
    rintro _ m7 ⟨rfl, h⟩
    refine it_V.at (pc1 := 131) (ls1 := [some (.ref 66), some (.int v1), some (.int v2), some (.int v3), some (.int v4), some (.int v5), some (.int v6), some (.int r1), some (.int ((((1515870810 : Int32) ^^^ v1) ^^^ v2) ^^^ v3)), none, none, none]) (st1 := []) (mem1 := m7) rfl rfl rfl rfl ?_
    refine it_V.sN it_cd242 it_m242 5 (pc1 := 138) (ls1 := [some (.ref 66), some (.int v1), some (.int v2), some (.int v3), some (.int v4), some (.int v5), some (.int v6), some (.int r1), some (.int ((((1515870810 : Int32) ^^^ v1) ^^^ v2) ^^^ v3)), none, none, none]) (st1 := [(.int v3), (.int (r1 + (8 : Int32))), (.ref 66)]) (mem1 := m7) rfl ?_
    refine it_V.call it_cd242 it_m242 rfl it_m231 [(.ref 66), (.int (r1 + (8 : Int32))), (.int v3)] [] rfl rfl ⟨Nat.le_of_ble_eq_true rfl, Nat.le_of_ble_eq_true rfl, Nat.le_of_ble_eq_true rfl, Nat.le_of_ble_eq_true rfl, rfl⟩ (s_231 kc (r1 + (8 : Int32)) v3 m7 _ h) ?_
    rintro _ m8 ⟨rfl, h⟩
    refine it_V.at (pc1 := 141) (ls1 := [some (.ref 66), some (.int v1), some (.int v2), some (.int v3), some (.int v4), some (.int v5), some (.int v6), some (.int r1), some (.int ((((1515870810 : Int32) ^^^ v1) ^^^ v2) ^^^ v3)), none, none, none]) (st1 := []) (mem1 := m8) rfl rfl rfl rfl ?_
    refine it_V.sN it_cd242 it_m242 2 (pc1 := 144) (ls1 := [some (.ref 66), some (.int v1), some (.int v2), some (.int v3), some (.int v4), some (.int v5), some (.int v6), some (.int r1), some (.int ((((1515870810 : Int32) ^^^ v1) ^^^ v2) ^^^ v3)), some (.int (0 : Int32)), none, none]) (st1 := []) (mem1 := m8) rfl ?_
    refine it_V.weak (l := [some (.ref 66), none, none, some (.int v3), some (.int v4), some (.int v5), none, some (.int r1), some (.int ((((1515870810 : Int32) ^^^ v1) ^^^ v2) ^^^ v3)), some (.int (0 : Int32)), none, none]) ⟨rfl, ⟨rfl, ⟨rfl, ⟨rfl, ⟨rfl, ⟨rfl, ⟨rfl, trivial⟩⟩⟩⟩⟩⟩⟩ ?_
    obtain ⟨n, h⟩ := h
    exact s_242_144 kc Φ _ (fun v5 v7 v8 m h => s_242_238 kc Φ v5 v7 v8 m h) n v3 v4 v5 r1 ((((1515870810 : Int32) ^^^ v1) ^^^ v2) ^^^ v3) (0 : Int32) m8 h
  · have h := h.2 c5
    refine it_V.sN it_cd242 it_m242 1 (pc1 := 104) (ls1 := [some (.ref 66), some (.int v1), some (.int v2), some (.int v3), some (.int v4), some (.int v5), some (.int v6), some (.int r1), none, none, none, none]) (st1 := [(.int (0 : Int32))]) (mem1 := m4) rfl ?_
    exact it_V.ret it_cd242 it_m242 rfl rfl ⟨_, rfl, h⟩
set_option maxRecDepth 100000 in
set_option maxHeartbeats 4000000 in
theorem s_242_16 (kc : it_Kc) (Φ : Int32 → it_Me → Prop) (v1 : Int32) (v2 : Int32) (v3 : Int32) (v4 : Int32) (u0 : Int32) (m : it_Me) (h : w_242_16 kc Φ v1 v2 v3 v4 u0 m) : it_V kc it_sh0 242 16 [some (.ref 66), some (.int v1), some (.int v2), some (.int v3), some (.int v4), none, none, none, none, none, none, none] [(.int u0)] m (it_Pi Φ) := by
  rw [w_242_16] at h
  refine it_V.sN it_cd242 it_m242 10 (pc1 := (if v1 = (-1 : Int32) then 32 else 34)) (ls1 := [some (.ref 66), some (.int v1), some (.int v2), some (.int v3), some (.int v4), some (.int u0), some (.int ((16 : Int32) + ((4 : Int32) * u0))), none, none, none, none, none]) (st1 := []) (mem1 := m) rfl ?_
  refine it_V.ite (fun c1 => ?_) (fun c1 => ?_)
  · have h := h.1 c1
    refine it_V.sN it_cd242 it_m242 1 (pc1 := 33) (ls1 := [some (.ref 66), some (.int v1), some (.int v2), some (.int v3), some (.int v4), some (.int u0), some (.int ((16 : Int32) + ((4 : Int32) * u0))), none, none, none, none, none]) (st1 := [(.int (0 : Int32))]) (mem1 := m) rfl ?_
    exact it_V.ret it_cd242 it_m242 rfl rfl ⟨_, rfl, h⟩
  · have h := h.2 c1
    refine it_V.sN it_cd242 it_m242 3 (pc1 := 39) (ls1 := [some (.ref 66), some (.int v1), some (.int v2), some (.int v3), some (.int v4), some (.int u0), some (.int ((16 : Int32) + ((4 : Int32) * u0))), none, none, none, none, none]) (st1 := [(.int (m 66 17)), (.ref 66)]) (mem1 := m) rfl ?_
    refine it_V.call it_cd242 it_m242 rfl it_m236 [(.ref 66), (.int (m 66 17))] [] rfl rfl ⟨Nat.le_of_ble_eq_true rfl, Nat.le_of_ble_eq_true rfl, Nat.le_of_ble_eq_true rfl, Nat.le_of_ble_eq_true rfl, rfl⟩ (s_236 kc (m 66 17) m _ h) ?_
    rintro _ m3 ⟨r2, rfl, h⟩
    refine it_V.at (pc1 := 42) (ls1 := [some (.ref 66), some (.int v1), some (.int v2), some (.int v3), some (.int v4), some (.int u0), some (.int ((16 : Int32) + ((4 : Int32) * u0))), none, none, none, none, none]) (st1 := [(.int r2)]) (mem1 := m3) rfl rfl rfl rfl ?_
    refine it_V.sN it_cd242 it_m242 5 (pc1 := 50) (ls1 := [some (.ref 66), some (.int v1), some (.int v2), some (.int v3), some (.int v4), some (.int u0), some (.int ((16 : Int32) + ((4 : Int32) * u0))), none, none, none, none, none]) (st1 := [(.int (m3 66 17)), (.ref 66), (.int (r2 + ((16 : Int32) + ((4 : Int32) * u0))))]) (mem1 := m3) rfl ?_
    refine it_V.call it_cd242 it_m242 rfl it_m233 [(.ref 66), (.int (m3 66 17))] [(.int (r2 + ((16 : Int32) + ((4 : Int32) * u0))))] rfl rfl ⟨Nat.le_of_ble_eq_true rfl, Nat.le_of_ble_eq_true rfl, Nat.le_of_ble_eq_true rfl, Nat.le_of_ble_eq_true rfl, rfl⟩ (s_233 kc (m3 66 17) m3 _ h) ?_
    rintro _ m5 ⟨r4, rfl, h⟩
    refine it_V.at (pc1 := 53) (ls1 := [some (.ref 66), some (.int v1), some (.int v2), some (.int v3), some (.int v4), some (.int u0), some (.int ((16 : Int32) + ((4 : Int32) * u0))), none, none, none, none, none]) (st1 := [(.int r4), (.int (r2 + ((16 : Int32) + ((4 : Int32) * u0))))]) (mem1 := m5) rfl rfl rfl rfl ?_
    refine it_V.sN it_cd242 it_m242 3 (pc1 := (if (r2 + ((16 : Int32) + ((4 : Int32) * u0))) ≤ (r4 + (2048 : Int32)) then 73 else 60)) (ls1 := [some (.ref 66), some (.int v1), some (.int v2), some (.int v3), some (.int v4), some (.int u0), some (.int ((16 : Int32) + ((4 : Int32) * u0))), none, none, none, none, none]) (st1 := []) (mem1 := m5) rfl ?_
    refine it_V.ite (fun c6 => ?_) (fun c6 => ?_)
    · have h := h.1 c6
      refine it_V.weak (l := [some (.ref 66), some (.int v1), some (.int v2), some (.int v3), some (.int v4), some (.int u0), some (.int ((16 : Int32) + ((4 : Int32) * u0))), none, none, none, none, none]) ⟨rfl, ⟨rfl, ⟨rfl, ⟨rfl, ⟨rfl, ⟨rfl, ⟨rfl, trivial⟩⟩⟩⟩⟩⟩⟩ ?_
      exact s_242_73 kc Φ v1 v2 v3 v4 u0 ((16 : Int32) + ((4 : Int32) * u0)) m5 h
    · have h := h.2 c6
      refine it_V.sN it_cd242 it_m242 1 (pc1 := 61) (ls1 := [some (.ref 66), some (.int v1), some (.int v2), some (.int v3), some (.int v4), some (.int u0), some (.int ((16 : Int32) + ((4 : Int32) * u0))), none, none, none, none, none]) (st1 := [(.ref 66)]) (mem1 := m5) rfl ?_
      refine it_V.call it_cd242 it_m242 rfl it_m240 [(.ref 66)] [] rfl rfl ⟨Nat.le_of_ble_eq_true rfl, Nat.le_of_ble_eq_true rfl, Nat.le_of_ble_eq_true rfl, Nat.le_of_ble_eq_true rfl, rfl⟩ (s_240 kc m5 _ h) ?_
      rintro _ m7 ⟨rfl, h⟩
      refine it_V.at (pc1 := 64) (ls1 := [some (.ref 66), some (.int v1), some (.int v2), some (.int v3), some (.int v4), some (.int u0), some (.int ((16 : Int32) + ((4 : Int32) * u0))), none, none, none, none, none]) (st1 := []) (mem1 := m7) rfl rfl rfl rfl ?_
      refine it_V.sN it_cd242 it_m242 3 (pc1 := (if (m7 66 4) = 0 then 73 else 71)) (ls1 := [some (.ref 66), some (.int v1), some (.int v2), some (.int v3), some (.int v4), some (.int u0), some (.int ((16 : Int32) + ((4 : Int32) * u0))), none, none, none, none, none]) (st1 := []) (mem1 := m7) rfl ?_
      refine it_V.ite (fun c8 => ?_) (fun c8 => ?_)
      · have h := h.1 c8
        refine it_V.weak (l := [some (.ref 66), some (.int v1), some (.int v2), some (.int v3), some (.int v4), some (.int u0), some (.int ((16 : Int32) + ((4 : Int32) * u0))), none, none, none, none, none]) ⟨rfl, ⟨rfl, ⟨rfl, ⟨rfl, ⟨rfl, ⟨rfl, ⟨rfl, trivial⟩⟩⟩⟩⟩⟩⟩ ?_
        exact s_242_73 kc Φ v1 v2 v3 v4 u0 ((16 : Int32) + ((4 : Int32) * u0)) m7 h
      · have h := h.2 c8
        refine it_V.sN it_cd242 it_m242 1 (pc1 := 72) (ls1 := [some (.ref 66), some (.int v1), some (.int v2), some (.int v3), some (.int v4), some (.int u0), some (.int ((16 : Int32) + ((4 : Int32) * u0))), none, none, none, none, none]) (st1 := [(.int (0 : Int32))]) (mem1 := m7) rfl ?_
        exact it_V.ret it_cd242 it_m242 rfl rfl ⟨_, rfl, h⟩
set_option maxRecDepth 100000 in
set_option maxHeartbeats 4000000 in
theorem s_242 (kc : it_Kc) (x0 : Int32) (x1 : Int32) (x2 : Int32) (x3 : Int32) (m : it_Me) (Φ : Int32 → it_Me → Prop) (h : w_242 kc x0 x1 x2 x3 m Φ) : it_V kc it_sh0 242 0 (it_loc0 [(.ref 66), (.int x0), (.int x1), (.int x2), (.int x3)] 12) [] m (it_Pi Φ) := by
  rw [w_242] at h
  refine it_V.at (pc1 := 0) (ls1 := [some (.ref 66), some (.int x0), some (.int x1), some (.int x2), some (.int x3), none, none, none, none, none, none, none]) (st1 := []) (mem1 := m) rfl rfl rfl rfl ?_
  refine it_V.sN it_cd242 it_m242 3 (pc1 := (if x2 = (255 : Int32) then 7 else 11)) (ls1 := [some (.ref 66), some (.int x0), some (.int x1), some (.int x2), some (.int x3), none, none, none, none, none, none, none]) (st1 := []) (mem1 := m) rfl ?_
  refine it_V.ite (fun c1 => ?_) (fun c1 => ?_)
  · have h := h.1 c1
    refine it_V.sN it_cd242 it_m242 2 (pc1 := 16) (ls1 := [some (.ref 66), some (.int x0), some (.int x1), some (.int x2), some (.int x3), none, none, none, none, none, none, none]) (st1 := [(.int (0 : Int32))]) (mem1 := m) rfl ?_
    exact s_242_16 kc Φ x0 x1 x2 x3 (0 : Int32) m h
  · have h := h.2 c1
    refine it_V.sN it_cd242 it_m242 4 (pc1 := 15) (ls1 := [some (.ref 66), some (.int x0), some (.int x1), some (.int x2), some (.int x3), none, none, none, none, none, none, none]) (st1 := [(.int (4 : Int32)), (.int (x2 + (3 : Int32)))]) (mem1 := m) rfl ?_
    obtain ⟨g2, h⟩ := h
    refine it_V.s1 it_cd242 it_m242 (pc1 := 16) (ls1 := [some (.ref 66), some (.int x0), some (.int x1), some (.int x2), some (.int x3), none, none, none, none, none, none, none]) (st1 := [(.int ((x2 + (3 : Int32)) / (4 : Int32)))]) (mem1 := m) (by simp only [it_s1, show it_lk it_c242 15 = some (0, .idiv, 0, 0) from rfl, it_ops, if_neg g2]; rfl) ?_
    exact s_242_16 kc Φ x0 x1 x2 x3 ((x2 + (3 : Int32)) / (4 : Int32)) m h
set_option maxRecDepth 100000 in
set_option maxHeartbeats 4000000 in
theorem s_243_62 (kc : it_Kc) (Φ : Int32 → it_Me → Prop) (u0 : Int32) (m : it_Me) (h : w_243_62 kc Φ u0 m) : it_V kc it_sh0 243 62 [none, none, none, none, none, none] [(.int u0)] m (it_Pi Φ) := by
  rw [w_243_62] at h
  exact it_V.ret it_cd243 it_m243 rfl rfl ⟨_, rfl, h⟩
set_option maxRecDepth 100000 in
set_option maxHeartbeats 4000000 in
theorem s_243_47 (kc : it_Kc) (Φ : Int32 → it_Me → Prop) (m : it_Me) (h : w_243_47 kc Φ m) : it_V kc it_sh0 243 47 [none, none, none, none, none, none] [] m (it_Pi Φ) := by
  rw [w_243_47] at h
  refine it_V.sN it_cd243 it_m243 2 (pc1 := 62) (ls1 := [none, none, none, none, none, none]) (st1 := [(.int (-1 : Int32))]) (mem1 := m) rfl ?_
  refine it_V.weak (l := [none, none, none, none, none, none]) trivial ?_
  exact s_243_62 kc Φ (-1 : Int32) m h
set_option maxRecDepth 100000 in
set_option maxHeartbeats 4000000 in
theorem s_243 (kc : it_Kc) (x0 : Int32) (x1 : Int32) (x2 : Int32) (m : it_Me) (Φ : Int32 → it_Me → Prop) (h : w_243 kc x0 x1 x2 m Φ) : it_V kc it_sh0 243 0 (it_loc0 [(.ref 66), (.int x0), (.int x1), (.int x2)] 6) [] m (it_Pi Φ) := by
  rw [w_243] at h
  refine it_V.at (pc1 := 0) (ls1 := [some (.ref 66), some (.int x0), some (.int x1), some (.int x2), none, none]) (st1 := []) (mem1 := m) rfl rfl rfl rfl ?_
  refine it_V.sN it_cd243 it_m243 3 (pc1 := 3) (ls1 := [some (.ref 66), some (.int x0), some (.int x1), some (.int x2), none, none]) (st1 := [(.int x1), (.int x0), (.ref 66)]) (mem1 := m) rfl ?_
  refine it_V.call it_cd243 it_m243 rfl it_m239 [(.ref 66), (.int x0), (.int x1)] [] rfl rfl ⟨Nat.le_of_ble_eq_true rfl, Nat.le_of_ble_eq_true rfl, Nat.le_of_ble_eq_true rfl, Nat.le_of_ble_eq_true rfl, rfl⟩ (s_239 kc x0 x1 m _ h) ?_
  rintro _ m2 ⟨r1, rfl, h⟩
  refine it_V.at (pc1 := 6) (ls1 := [some (.ref 66), some (.int x0), some (.int x1), some (.int x2), none, none]) (st1 := [(.int r1)]) (mem1 := m2) rfl rfl rfl rfl ?_
  refine it_V.sN it_cd243 it_m243 4 (pc1 := (if r1 = (-1 : Int32) then 14 else 16)) (ls1 := [some (.ref 66), some (.int x0), some (.int x1), some (.int x2), some (.int r1), none]) (st1 := []) (mem1 := m2) rfl ?_
  refine it_V.ite (fun c3 => ?_) (fun c3 => ?_)
  · have h := h.1 c3
    refine it_V.sN it_cd243 it_m243 1 (pc1 := 15) (ls1 := [some (.ref 66), some (.int x0), some (.int x1), some (.int x2), some (.int r1), none]) (st1 := [(.int (-1 : Int32))]) (mem1 := m2) rfl ?_
    exact it_V.ret it_cd243 it_m243 rfl rfl ⟨_, rfl, h⟩
  · have h := h.2 c3
    refine it_V.sN it_cd243 it_m243 4 (pc1 := 22) (ls1 := [some (.ref 66), some (.int x0), some (.int x1), some (.int x2), some (.int r1), none]) (st1 := [(.int (r1 + (8 : Int32))), (.ref 66)]) (mem1 := m2) rfl ?_
    refine it_V.call it_cd243 it_m243 rfl it_m220 [(.ref 66), (.int (r1 + (8 : Int32)))] [] rfl rfl ⟨Nat.le_of_ble_eq_true rfl, Nat.le_of_ble_eq_true rfl, Nat.le_of_ble_eq_true rfl, Nat.le_of_ble_eq_true rfl, rfl⟩ (s_220 kc (r1 + (8 : Int32)) m2 _ h) ?_
    rintro _ m5 ⟨r4, rfl, h⟩
    refine it_V.at (pc1 := 25) (ls1 := [some (.ref 66), some (.int x0), some (.int x1), some (.int x2), some (.int r1), none]) (st1 := [(.int r4)]) (mem1 := m5) rfl rfl rfl rfl ?_
    refine it_V.sN it_cd243 it_m243 4 (pc1 := (if x2 = (-1 : Int32) then 32 else 37)) (ls1 := [some (.ref 66), some (.int x0), some (.int x1), some (.int x2), some (.int r1), some (.int r4)]) (st1 := []) (mem1 := m5) rfl ?_
    refine it_V.ite (fun c6 => ?_) (fun c6 => ?_)
    · have h := h.1 c6
      refine it_V.sN it_cd243 it_m243 2 (pc1 := 62) (ls1 := [some (.ref 66), some (.int x0), some (.int x1), some (.int x2), some (.int r1), some (.int r4)]) (st1 := [(.int r4)]) (mem1 := m5) rfl ?_
      refine it_V.weak (l := [none, none, none, none, none, none]) trivial ?_
      exact s_243_62 kc Φ r4 m5 h
    · have h := h.2 c6
      refine it_V.sN it_cd243 it_m243 2 (pc1 := (if x2 < 0 then 47 else 41)) (ls1 := [some (.ref 66), some (.int x0), some (.int x1), some (.int x2), some (.int r1), some (.int r4)]) (st1 := []) (mem1 := m5) rfl ?_
      refine it_V.ite (fun c7 => ?_) (fun c7 => ?_)
      · have h := h.1 c7
        refine it_V.weak (l := [none, none, none, none, none, none]) trivial ?_
        exact s_243_47 kc Φ m5 h
      · have h := h.2 c7
        refine it_V.sN it_cd243 it_m243 3 (pc1 := (if x2 < r4 then 51 else 47)) (ls1 := [some (.ref 66), some (.int x0), some (.int x1), some (.int x2), some (.int r1), some (.int r4)]) (st1 := []) (mem1 := m5) rfl ?_
        refine it_V.ite (fun c8 => ?_) (fun c8 => ?_)
        · have h := h.1 c8
          refine it_V.sN it_cd243 it_m243 6 (pc1 := 59) (ls1 := [some (.ref 66), some (.int x0), some (.int x1), some (.int x2), some (.int r1), some (.int r4)]) (st1 := [(.int ((r1 + (12 : Int32)) + x2)), (.ref 66)]) (mem1 := m5) rfl ?_
          refine it_V.call it_cd243 it_m243 rfl it_m218 [(.ref 66), (.int ((r1 + (12 : Int32)) + x2))] [] rfl rfl ⟨Nat.le_of_ble_eq_true rfl, Nat.le_of_ble_eq_true rfl, Nat.le_of_ble_eq_true rfl, Nat.le_of_ble_eq_true rfl, rfl⟩ (s_218 kc ((r1 + (12 : Int32)) + x2) m5 _ h) ?_
          rintro _ m10 ⟨r9, rfl, h⟩
          refine it_V.at (pc1 := 62) (ls1 := [some (.ref 66), some (.int x0), some (.int x1), some (.int x2), some (.int r1), some (.int r4)]) (st1 := [(.int r9)]) (mem1 := m10) rfl rfl rfl rfl ?_
          refine it_V.weak (l := [none, none, none, none, none, none]) trivial ?_
          exact s_243_62 kc Φ r9 m10 h
        · have h := h.2 c8
          refine it_V.weak (l := [none, none, none, none, none, none]) trivial ?_
          exact s_243_47 kc Φ m5 h
set_option maxRecDepth 100000 in
set_option maxHeartbeats 4000000 in
theorem s_244_18 (kc : it_Kc) (Φ : Int32 → it_Me → Prop) (m : it_Me) (h : w_244_18 kc Φ m) : it_V kc it_sh0 244 18 [none, none, none, none] [] m (it_Pi Φ) := by
  rw [w_244_18] at h
  refine it_V.sN it_cd244 it_m244 1 (pc1 := 19) (ls1 := [none, none, none, none]) (st1 := [(.int (0 : Int32))]) (mem1 := m) rfl ?_
  exact it_V.ret it_cd244 it_m244 rfl rfl ⟨_, rfl, h⟩
set_option maxRecDepth 100000 in
set_option maxHeartbeats 4000000 in
theorem s_244_103 (kc : it_Kc) (Φ : Int32 → it_Me → Prop) (m : it_Me) (h : w_244_103 kc Φ m) : it_V kc it_sh0 244 103 [none, none, none, none] [] m (it_Pi Φ) := by
  rw [w_244_103] at h
  refine it_V.sN it_cd244 it_m244 1 (pc1 := 104) (ls1 := [none, none, none, none]) (st1 := [(.int (0 : Int32))]) (mem1 := m) rfl ?_
  exact it_V.ret it_cd244 it_m244 rfl rfl ⟨_, rfl, h⟩
set_option maxRecDepth 100000 in
set_option maxHeartbeats 4000000 in
theorem s_244 (kc : it_Kc) (x0 : Int32) (m : it_Me) (Φ : Int32 → it_Me → Prop) (h : w_244 kc x0 m Φ) : it_V kc it_sh0 244 0 (it_loc0 [(.ref 66), (.int x0)] 4) [] m (it_Pi Φ) := by
  rw [w_244] at h
  refine it_V.at (pc1 := 0) (ls1 := [some (.ref 66), some (.int x0), none, none]) (st1 := []) (mem1 := m) rfl rfl rfl rfl ?_
  refine it_V.sN it_cd244 it_m244 5 (pc1 := (if (126976 : Int32) < (x0 + (16 : Int32)) then 18 else 9)) (ls1 := [some (.ref 66), some (.int x0), none, none]) (st1 := []) (mem1 := m) rfl ?_
  refine it_V.ite (fun c1 => ?_) (fun c1 => ?_)
  · have h := h.1 c1
    refine it_V.weak (l := [none, none, none, none]) trivial ?_
    exact s_244_18 kc Φ m h
  · have h := h.2 c1
    refine it_V.sN it_cd244 it_m244 2 (pc1 := 11) (ls1 := [some (.ref 66), some (.int x0), none, none]) (st1 := [(.int x0), (.ref 66)]) (mem1 := m) rfl ?_
    refine it_V.call it_cd244 it_m244 rfl it_m219 [(.ref 66), (.int x0)] [] rfl rfl ⟨Nat.le_of_ble_eq_true rfl, Nat.le_of_ble_eq_true rfl, Nat.le_of_ble_eq_true rfl, Nat.le_of_ble_eq_true rfl, rfl⟩ (s_219 kc x0 m _ h) ?_
    rintro _ m3 ⟨r2, rfl, h⟩
    refine it_V.at (pc1 := 14) (ls1 := [some (.ref 66), some (.int x0), none, none]) (st1 := [(.int r2)]) (mem1 := m3) rfl rfl rfl rfl ?_
    refine it_V.sN it_cd244 it_m244 2 (pc1 := (if r2 = (2 : Int32) then 20 else 18)) (ls1 := [some (.ref 66), some (.int x0), none, none]) (st1 := []) (mem1 := m3) rfl ?_
    refine it_V.ite (fun c4 => ?_) (fun c4 => ?_)
    · have h := h.1 c4
      refine it_V.sN it_cd244 it_m244 5 (pc1 := 25) (ls1 := [some (.ref 66), some (.int x0), none, none]) (st1 := [(.int (x0 + (2 : Int32))), (.ref 66), (.ref 66)]) (mem1 := m3) rfl ?_
      refine it_V.call it_cd244 it_m244 rfl it_m219 [(.ref 66), (.int (x0 + (2 : Int32)))] [(.ref 66)] rfl rfl ⟨Nat.le_of_ble_eq_true rfl, Nat.le_of_ble_eq_true rfl, Nat.le_of_ble_eq_true rfl, Nat.le_of_ble_eq_true rfl, rfl⟩ (s_219 kc (x0 + (2 : Int32)) m3 _ h) ?_
      rintro _ m6 ⟨r5, rfl, h⟩
      refine it_V.at (pc1 := 28) (ls1 := [some (.ref 66), some (.int x0), none, none]) (st1 := [(.int r5), (.ref 66)]) (mem1 := m6) rfl rfl rfl rfl ?_
      refine it_V.sN it_cd244 it_m244 5 (pc1 := 35) (ls1 := [some (.ref 66), some (.int x0), none, none]) (st1 := [(.int (x0 + (4 : Int32))), (.ref 66)]) (mem1 := (it_sv m6 66 18 r5)) rfl ?_
      refine it_V.call it_cd244 it_m244 rfl it_m220 [(.ref 66), (.int (x0 + (4 : Int32)))] [] rfl rfl ⟨Nat.le_of_ble_eq_true rfl, Nat.le_of_ble_eq_true rfl, Nat.le_of_ble_eq_true rfl, Nat.le_of_ble_eq_true rfl, rfl⟩ (s_220 kc (x0 + (4 : Int32)) (it_sv m6 66 18 r5) _ h) ?_
      rintro _ m8 ⟨r7, rfl, h⟩
      refine it_V.at (pc1 := 38) (ls1 := [some (.ref 66), some (.int x0), none, none]) (st1 := [(.int r7)]) (mem1 := m8) rfl rfl rfl rfl ?_
      refine it_V.sN it_cd244 it_m244 8 (pc1 := (if (m8 66 18) < (16 : Int32) then 103 else 53)) (ls1 := [some (.ref 66), some (.int x0), some (.long ((Int32.toInt64 r7) &&& (4294967295 : Int64))), none]) (st1 := []) (mem1 := m8) rfl ?_
      refine it_V.ite (fun c9 => ?_) (fun c9 => ?_)
      · have h := h.1 c9
        refine it_V.weak (l := [none, none, none, none]) trivial ?_
        exact s_244_103 kc Φ m8 h
      · have h := h.2 c9
        refine it_V.sN it_cd244 it_m244 4 (pc1 := (if (512 : Int32) < (m8 66 18) then 103 else 63)) (ls1 := [some (.ref 66), some (.int x0), some (.long ((Int32.toInt64 r7) &&& (4294967295 : Int64))), none]) (st1 := []) (mem1 := m8) rfl ?_
        refine it_V.ite (fun c10 => ?_) (fun c10 => ?_)
        · have h := h.1 c10
          refine it_V.weak (l := [none, none, none, none]) trivial ?_
          exact s_244_103 kc Φ m8 h
        · have h := h.2 c10
          refine it_V.sN it_cd244 it_m244 3 (pc1 := 68) (ls1 := [some (.ref 66), some (.int x0), some (.long ((Int32.toInt64 r7) &&& (4294967295 : Int64))), none]) (st1 := [(.int (4 : Int32)), (.int (m8 66 18))]) (mem1 := m8) rfl ?_
          obtain ⟨g11, h⟩ := h
          refine it_V.s1 it_cd244 it_m244 (pc1 := 69) (ls1 := [some (.ref 66), some (.int x0), some (.long ((Int32.toInt64 r7) &&& (4294967295 : Int64))), none]) (st1 := [(.int (it_rem (m8 66 18) (4 : Int32)))]) (mem1 := m8) (by simp only [it_s1, show it_lk it_c244 68 = some (0, .irem, 0, 0) from rfl, it_ops, if_neg g11]; rfl) ?_
          refine it_V.sN it_cd244 it_m244 1 (pc1 := (if (it_rem (m8 66 18) (4 : Int32)) = 0 then 72 else 103)) (ls1 := [some (.ref 66), some (.int x0), some (.long ((Int32.toInt64 r7) &&& (4294967295 : Int64))), none]) (st1 := []) (mem1 := m8) rfl ?_
          refine it_V.ite (fun c12 => ?_) (fun c12 => ?_)
          · have h := h.1 c12
            refine it_V.sN it_cd244 it_m244 2 (pc1 := 76) (ls1 := [some (.ref 66), some (.int x0), some (.long ((Int32.toInt64 r7) &&& (4294967295 : Int64))), none]) (st1 := [(.long (4 : Int64)), (.long ((Int32.toInt64 r7) &&& (4294967295 : Int64)))]) (mem1 := m8) rfl ?_
            obtain ⟨g13, h⟩ := h
            refine it_V.s1 it_cd244 it_m244 (pc1 := 77) (ls1 := [some (.ref 66), some (.int x0), some (.long ((Int32.toInt64 r7) &&& (4294967295 : Int64))), none]) (st1 := [(.long (it_lrem ((Int32.toInt64 r7) &&& (4294967295 : Int64)) (4 : Int64)))]) (mem1 := m8) (by simp only [it_s1, show it_lk it_c244 76 = some (0, .lrem, 0, 0) from rfl, it_ops, if_neg g13]; rfl) ?_
            refine it_V.sN it_cd244 it_m244 3 (pc1 := (if (lg_cmp (it_lrem ((Int32.toInt64 r7) &&& (4294967295 : Int64)) (4 : Int64)) (0 : Int64)) = 0 then 82 else 103)) (ls1 := [some (.ref 66), some (.int x0), some (.long ((Int32.toInt64 r7) &&& (4294967295 : Int64))), none]) (st1 := []) (mem1 := m8) rfl ?_
            refine it_V.ite (fun c14 => ?_) (fun c14 => ?_)
            · have h := h.1 c14
              refine it_V.sN it_cd244 it_m244 6 (pc1 := (if (lg_cmp ((Int32.toInt64 r7) &&& (4294967295 : Int64)) (Int32.toInt64 (m8 66 18))) < 0 then 103 else 92)) (ls1 := [some (.ref 66), some (.int x0), some (.long ((Int32.toInt64 r7) &&& (4294967295 : Int64))), none]) (st1 := []) (mem1 := m8) rfl ?_
              refine it_V.ite (fun c15 => ?_) (fun c15 => ?_)
              · have h := h.1 c15
                refine it_V.weak (l := [none, none, none, none]) trivial ?_
                exact s_244_103 kc Φ m8 h
              · have h := h.2 c15
                refine it_V.sN it_cd244 it_m244 7 (pc1 := (if (lg_cmp ((Int32.toInt64 x0) + ((Int32.toInt64 r7) &&& (4294967295 : Int64))) (126976 : Int64)) ≤ 0 then 105 else 103)) (ls1 := [some (.ref 66), some (.int x0), some (.long ((Int32.toInt64 r7) &&& (4294967295 : Int64))), none]) (st1 := []) (mem1 := m8) rfl ?_
                refine it_V.ite (fun c16 => ?_) (fun c16 => ?_)
                · have h := h.1 c16
                  refine it_V.sN it_cd244 it_m244 5 (pc1 := 112) (ls1 := [some (.ref 66), some (.int x0), some (.long ((Int32.toInt64 r7) &&& (4294967295 : Int64))), none]) (st1 := [(.int (1 : Int32))]) (mem1 := (it_sv m8 66 19 (Int64.toInt32 ((Int32.toInt64 r7) &&& (4294967295 : Int64))))) rfl ?_
                  exact it_V.ret it_cd244 it_m244 rfl rfl ⟨_, rfl, h⟩
                · have h := h.2 c16
                  refine it_V.weak (l := [none, none, none, none]) trivial ?_
                  exact s_244_103 kc Φ m8 h
            · have h := h.2 c14
              refine it_V.weak (l := [none, none, none, none]) trivial ?_
              exact s_244_103 kc Φ m8 h
          · have h := h.2 c12
            refine it_V.weak (l := [none, none, none, none]) trivial ?_
            exact s_244_103 kc Φ m8 h
    · have h := h.2 c4
      refine it_V.weak (l := [none, none, none, none]) trivial ?_
      exact s_244_18 kc Φ m3 h
